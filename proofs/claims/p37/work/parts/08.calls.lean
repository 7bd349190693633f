/-! fields, arrays, new cells, switches, calls, ends; a whole method -/
theorem hn_isObjOf {sh : List hn_Sh} {o c : Nat} (h : hn_isObj sh o c = true) : sh[o]? = some (.inl c) := by
  unfold hn_isObj at h
  split at h
  · rename_i k e
    rw [e, Nat.eq_of_beq_eq_true h]
  · cases h
theorem hn_popOf : ∀ (n : Nat) (st acc as rest : List hn_V), hn_pop n st acc = some (as, rest) → ∃ xs : List hn_V, xs.length = n ∧ st = xs ++ rest ∧ as = xs.reverse ++ acc
  | 0, st, acc, as, rest, h => by
    simp [hn_pop] at h
    exact ⟨[], rfl, by simp [h.2], by simp [h.1]⟩
  | n + 1, [], acc, as, rest, h => by simp [hn_pop] at h
  | n + 1, v :: st, acc, as, rest, h => by
    obtain ⟨xs, h1, h2, h3⟩ := hn_popOf n st (v :: acc) as rest (by simpa [hn_pop] using h)
    exact ⟨v :: xs, by simp [h1], by simp [h2], by simp [h3]⟩
theorem hn_lookOf {x : Int} {pc : Nat} {K : Nat → Prop} {dflt : Int} : ∀ {ps : List (Int × Int)}, hn_look x pc K dflt ps → K (hn_tgt pc (Op.lookupswitch.offset ps dflt x))
  | [], h => h
  | (k, off) :: r, h => by
    by_cases e : x = k
    · subst e
      have := h.1 rfl
      simpa [Op.lookupswitch.offset] using this
    · have := hn_lookOf (h.2 e)
      have e2 : ¬ k = x := fun q => e q.symm
      simpa [Op.lookupswitch.offset, e2] using this
theorem hn_lookPos {pc : Nat} {dflt x : Int} (hd : hn_pos pc dflt = true) : ∀ {ps : List (Int × Int)}, ps.all (fun q => hn_pos pc q.2) = true → hn_pos pc (Op.lookupswitch.offset ps dflt x) = true
  | [], _ => hd
  | (k, off) :: r, h => by
    simp only [List.all_cons, Bool.and_eq_true] at h
    by_cases e : k = x
    · simpa [Op.lookupswitch.offset, e] using h.1
    · have := hn_lookPos (x := x) hd h.2
      simpa [Op.lookupswitch.offset, e] using this
/-- what a method of the shadow says of the machine's -/
def hn_Pc (D : va_G) (base : Nat) (cI cS : ClassId) (b sL : Nat) (xs : Nat → Int32) (as : List hn_V) (M : hn_Mem) : Array Value → State → Prop := va_Pc (as.map (hn_cv base b)) (fun U => hn_Wd D base cI cS M U.heap ∧ va_K D hn_cl (hn_tys cI cS) U ∧ va_X b sL xs U U.heap ∧ hn_N U)
def hn_Qc (D : va_G) (base : Nat) (cI cS : ClassId) (b : Nat) (r : Option hn_V) (M : hn_Mem) : Array Value → State → Outcome → State → Prop := fun _ st oc t => (oc = .returned (r.map (hn_cv base b)) ∧ hn_Wd D base cI cS M t.heap ∧ hn_oM M ∧ hn_oS r.toList) ∧ va_F (hn_A base) st t
def hn_ws (t : Nat) : List Jvm.Cond := .code (hn_y t) (hn_c t) (hn_ml t) (hn_rt t) :: hn_T
def hn_rm (d : Nat) (M M' : hn_Mem) : Room := { frames := d, cells := M'.1.length - M.1.length, slots := hn_sz M'.1 - hn_sz M.1, locals := d * 64 }
def hn_Met (l : Launch) (D : va_G) (base : Nat) (cI cS : ClassId) (b sL : Nat) (xs : Nat → Int32) (d t : Nat) (as : List hn_V) (M : hn_Mem) (r : Option hn_V) (M' : hn_Mem) : Prop :=
  Met l (hn_y t) (hn_ws t) (hn_rm d M M') (hn_Pc D base cI cS b sL xs as M) (hn_Qc D base cI cS b r M') (M'.1.length - M.1.length) (hn_sz M'.1 - hn_sz M.1) (hn_A base)

set_option maxRecDepth 100000 in
theorem hn_mini : ∀ t, t < 168 → lw_tbl[hn_pini t]? = some (.initialized (hn_y t).cls) := by decide +kernel
set_option maxRecDepth 100000 in
theorem hn_mst : ∀ t, t < 168 → (hn_mk t = 0 → lw_tbl[hn_pst t]? = some (.static (hn_y t))) ∧ (hn_mk t ≠ 0 → lw_tbl[hn_pst t]? = some (.instanceMethod (hn_y t))) := by decide +kernel
set_option maxRecDepth 100000 in
theorem hn_msel : ∀ t, t < 168 → hn_mk t = 1 → lw_tbl[hn_psel t]? = some (.selects (hn_y t).cls (hn_y t) (hn_y t)) := by decide +kernel
theorem hn_genL {t : Nat} (h : hn_gen t = true) : t < 168 := hn_bltT.mp (Bool.and_eq_true_iff.mp h).1
theorem hn_genP {t : Nat} (h : hn_gen t = true) : hn_oc t ≠ 10 := fun e => by
  have := (Bool.and_eq_true_iff.mp h).2
  rw [e] at this
  cases this
theorem hn_pn : ∀ c, c < 13 → c ≠ 10 → plainName (hn_cn c) = true := by
  intro c hc hn
  match c, hc, hn with
  | 0, _, _ => show plainName (hn_cn 0) = true; unfold hn_cn; decide
  | 1, _, _ => show plainName (hn_cn 1) = true; unfold hn_cn; decide
  | 2, _, _ => show plainName (hn_cn 2) = true; unfold hn_cn; decide
  | 3, _, _ => show plainName (hn_cn 3) = true; unfold hn_cn; decide
  | 4, _, _ => show plainName (hn_cn 4) = true; unfold hn_cn; decide
  | 5, _, _ => show plainName (hn_cn 5) = true; unfold hn_cn; decide
  | 6, _, _ => show plainName (hn_cn 6) = true; unfold hn_cn; decide
  | 7, _, _ => show plainName (hn_cn 7) = true; unfold hn_cn; decide
  | 8, _, _ => show plainName (hn_cn 8) = true; unfold hn_cn; decide
  | 9, _, _ => show plainName (hn_cn 9) = true; unfold hn_cn; decide
  | 10, _, hn => exact absurd rfl hn
  | 11, _, _ => show plainName (hn_cn 11) = true; unfold hn_cn; decide
  | 12, _, _ => show plainName (hn_cn 12) = true; unfold hn_cn; decide
  | n + 13, h, _ => exact absurd h (by omega)
theorem hn_my6 : ∀ t, t < 168 → hn_oc t < 13 := by decide +kernel
theorem hn_my2 : ∀ t, t < 168 → (hn_y t).cls ≠ "java/lang/invoke/MethodHandle" ∧ (hn_y t).cls ≠ "java/lang/invoke/VarHandle" := by decide +kernel
theorem hn_my3 : ∀ t, t < 168 → (parseMethodDescriptor (hn_y t).desc).map (fun d => d.parameters.length) = some (hn_na t) := by decide +kernel
theorem hn_my4 : ∀ t, t < 168 → (hn_y t).cls = hn_cn (hn_oc t) := by decide +kernel
theorem hn_my5 : ∀ t, t < 168 → (hn_mk t = 2 → (hn_y t).name = "<init>") ∧ (hn_mk t = 2 → hn_rt t = none) ∧ hn_ml t ≤ 12 ∧ (hn_mk t ≠ 0 → hn_oc t < 8) := by decide +kernel
theorem hn_my : ∀ t, t < 168 → (hn_oc t ≠ 10 → plainName (hn_y t).cls = true) ∧ (hn_y t).cls ≠ "java/lang/invoke/MethodHandle" ∧ (hn_y t).cls ≠ "java/lang/invoke/VarHandle" ∧ (parseMethodDescriptor (hn_y t).desc).map (fun d => d.parameters.length) = some (hn_na t) ∧ (hn_y t).cls = hn_cn (hn_oc t) ∧ (hn_mk t = 2 → (hn_y t).name = "<init>") ∧ (hn_mk t = 2 → hn_rt t = none) ∧ hn_ml t ≤ 12 ∧ (hn_mk t ≠ 0 → hn_oc t < 8) := fun t h => ⟨fun hn => by rw [hn_my4 t h]; exact hn_pn _ (hn_my6 t h) hn, (hn_my2 t h).1, (hn_my2 t h).2, hn_my3 t h, hn_my4 t h, hn_my5 t h⟩
theorem hn_ini8 : ∀ c, c < 8 → Jvm.Cond.initialized (hn_cn c) ∈ hn_T := by decide +kernel
theorem hn_gw (t : Nat) (ht : t < 168) : GoodIn hn_T (hn_ws t) := hn_goodIn fun w hw => by
  rcases List.mem_cons.mp hw with e | e
  · rw [e]; exact hn_mem (hn_mcode t ht)
  · exact e
section HNC
variable {p : Program} {l : Launch} {e : Env} {R : Room} {s : State} {m : MethodId} {args : Array Value} {below : List Frame} {meth : Method} {c : Code} {Q : State → Prop}
variable {D : va_G} {base : Nat} {cI cS : ClassId} {b sL : Nat} {xs : Nat → Int32} {mi d n0 s0 : Nat} {r : Option hn_V} {Mend : hn_Mem}

theorem hn_oi1 : Jvm.Cond.instanceMethod objectInit ∈ hn_T := by decide +kernel
theorem hn_oi2 : Jvm.Cond.code objectInit ⟨#[0xb1]⟩ 1 none ∈ hn_T := by decide +kernel
theorem hn_mai : Jvm.Cond.initialized "java/lang/Math" ∈ hn_T := by decide +kernel
theorem hn_ma164s : Jvm.Cond.static Lib.Math.abs.name ∈ hn_T := by decide +kernel
theorem hn_ma165s : Jvm.Cond.static Lib.Math.max.name ∈ hn_T := by decide +kernel
theorem hn_ma166s : Jvm.Cond.static Lib.Math.min.name ∈ hn_T := by decide +kernel
theorem hn_ma164c : Jvm.Cond.code Lib.Math.abs.name Lib.Math.abs.code 1 (some .int) ∈ hn_T := by decide +kernel
theorem hn_ma165c : Jvm.Cond.code Lib.Math.max.name Lib.Math.max.code 2 (some .int) ∈ hn_T := by decide +kernel
theorem hn_ma166c : Jvm.Cond.code Lib.Math.min.name Lib.Math.min.code 2 (some .int) ∈ hn_T := by decide +kernel
theorem hn_mAbs {x : Int} (h : hn_R x) : (if 0 ≤ Int32.ofInt x then Int32.ofInt x else 0 - Int32.ofInt x) = Int32.ofInt (Int.natAbs x : Int) := by
  by_cases h0 : 0 ≤ x
  · rw [if_pos ((hn_le0 h).mpr h0), show ((Int.natAbs x : Nat) : Int) = x by omega]
  · rw [if_neg (fun q => h0 ((hn_le0 h).mp q)), show ((Int.natAbs x : Nat) : Int) = 0 - x by omega, Int32.ofInt_sub]
    rfl
theorem hn_mMax {x y : Int} (h : hn_R x) (h2 : hn_R y) : (if Int32.ofInt x < Int32.ofInt y then Int32.ofInt y else Int32.ofInt x) = Int32.ofInt (max x y) := by
  by_cases h0 : x < y
  · rw [if_pos ((hn_lt h h2).mpr h0), show max x y = y by omega]
  · rw [if_neg (fun q => h0 ((hn_lt h h2).mp q)), show max x y = x by omega]
theorem hn_mMin {x y : Int} (h : hn_R x) (h2 : hn_R y) : (if Int32.ofInt y < Int32.ofInt x then Int32.ofInt y else Int32.ofInt x) = Int32.ofInt (min x y) := by
  by_cases h0 : y < x
  · rw [if_pos ((hn_lt h2 h).mpr h0), show min x y = y by omega]
  · rw [if_neg (fun q => h0 ((hn_lt h2 h).mp q)), show min x y = x by omega]

theorem hn_s_tsw (hX : hn_X p R s m args meth c D base cI cS b sL xs mi d n0 s0 Mend) {pc : Nat} {ls : hn_Ls} {st : List hn_V} {M : hn_Mem} {x dflt lo hi : Int} {offs : Array Int} {len : Nat} (hd : decode (hn_c mi) pc = .ok (.tableswitch dflt lo hi offs, len)) (hp1 : hn_pos pc dflt = true) (hp2 : offs.toList.all (hn_pos pc) = true) (h : hn_br (x < lo ∨ hi < x) (hn_G p l e R s m args below meth c D base cI cS b mi n0 s0 Q r Mend (hn_nx mi (hn_tgt pc dflt) ls st M)) (match offs.toList[(x - lo).toNat]? with
    | some off => hn_G p l e R s m args below meth c D base cI cS b mi n0 s0 Q r Mend (hn_nx mi (hn_tgt pc off) ls st M)
    | none => False)) : hn_GW p l e R s m args below meth c D base cI cS b mi n0 s0 Q pc ls (.inl x :: st) M := by
  intro h1 h2 H locs a hF
  have hx := hn_r1 hF.2.2.2.2.1.h
  by_cases hc : x < lo ∨ hi < x
  · refine lv_tableOut hX.1.1 hX.1.2.1 hd (by rw [hx]; exact hc) (hn_tgtOf hp1) ?_
    exact ((h.1 hc) rfl).2 h1 h2 H locs a ⟨hF.1, hF.2.1, hF.2.2.1, hF.2.2.2.1, hF.2.2.2.2.1.t, hF.2.2.2.2.2⟩
  · have h3 := h.2 hc
    split at h3
    · rename_i off ho
      refine lv_tableIn (off := off) hX.1.1 hX.1.2.1 hd (by rw [hx]; omega) (by rw [hx]; omega) (by rw [hx, ← Array.getElem?_toList]; exact ho) (hn_tgtOf (List.all_eq_true.mp hp2 off (List.mem_of_getElem? ho))) ?_
      exact (h3 rfl).2 h1 h2 H locs a ⟨hF.1, hF.2.1, hF.2.2.1, hF.2.2.2.1, hF.2.2.2.2.1.t, hF.2.2.2.2.2⟩
    · exact h3.elim
theorem hn_s_lsw (hX : hn_X p R s m args meth c D base cI cS b sL xs mi d n0 s0 Mend) {pc : Nat} {ls : hn_Ls} {st : List hn_V} {M : hn_Mem} {x dflt : Int} {ps : Array (Int × Int)} {len : Nat} (hd : decode (hn_c mi) pc = .ok (.lookupswitch dflt ps, len)) (hp1 : hn_pos pc dflt = true) (hp2 : ps.toList.all (fun q => hn_pos pc q.2) = true) (hp3 : (ps.toList.zip (ps.toList.drop 1)).all (fun q => decide (q.1.1 < q.2.1)) = true) (h : hn_look x pc (fun t => hn_G p l e R s m args below meth c D base cI cS b mi n0 s0 Q r Mend (hn_nx mi t ls st M)) dflt ps.toList) : hn_GW p l e R s m args below meth c D base cI cS b mi n0 s0 Q pc ls (.inl x :: st) M := by
  intro h1 h2 H locs a hF
  have hx := hn_r1 hF.2.2.2.2.1.h
  refine lv_lookup (off := Op.lookupswitch.offset ps.toList dflt x) hX.1.1 hX.1.2.1 hd hp3 (by rw [hx]) (hn_tgtOf (hn_lookPos hp1 hp2)) ?_
  exact ((hn_lookOf h) rfl).2 h1 h2 H locs a ⟨hF.1, hF.2.1, hF.2.2.1, hF.2.2.2.1, hF.2.2.2.2.1.t, hF.2.2.2.2.2⟩
theorem hn_s_getfield (hX : hn_X p R s m args meth c D base cI cS b sL xs mi d n0 s0 Mend) {pc : Nat} {ls : hn_Ls} {st : List hn_V} {M : hn_Mem} {i o k j : Nat} (hd : decode (hn_c mi) pc = .ok (.getfield i, 3)) (hw : lw_tbl[hn_pfld (hn_oc mi * 1024 + i)]? = some (.fieldLink (hn_cn (hn_oc mi)) i (hn_cn k) (hn_fT k j).2.1 (hn_fT k j).2.2.1)) (hk : k < 8) (hj : j < hn_nf k) (h : hn_getf M o k j fun v => hn_G p l e R s m args below meth c D base cI cS b mi n0 s0 Q r Mend (hn_nx mi (pc + 3) ls (v :: st) M)) : hn_GW p l e R s m args below meth c D base cI cS b mi n0 s0 Q pc ls (.inr (.inr (.inl o)) :: st) M := by
  unfold hn_getf at h
  cases ho : hn_isObj M.1 o k with
  | false => rw [ho] at h; exact h.elim
  | true =>
    rw [ho] at h
    simp only [cond_true] at h
    obtain ⟨C, T, N, ty, -, -, rfl, -, -, -, -, -, -, g10, -⟩ := hn_cf k hk
    have hle := (g10 j hj).2.2.2.2
    intro h1 h2 H locs a hF
    refine hn_wget hX.1.1 hX.1.2.1 hX.2.1 hX.1.2.2.2 hX.2.2.2.1 hF.1 hk hj (hn_isObjOf ho) (hn_mem hw) hd ?_
    have hcs : hn_fk k j = 0 ∨ hn_fk k j = 1 ∨ hn_fk k j = 2 ∨ hn_fk k j = 3 := by omega
    rcases hcs with e | e | e | e
    · rw [e] at h
      rw [show hn_fv base M o k j = .int (Int32.ofInt (M.2.1 o j)) by simp [hn_fv, e]]
      exact (h rfl).2 h1 h2 H locs a ⟨hF.1, hF.2.1, hF.2.2.1, hF.2.2.2.1, hF.2.2.2.2.1.t.i (hF.2.1 _ _), hF.2.2.2.2.2⟩
    · rw [e] at h
      rw [show hn_fv base M o k j = .int (Int32.ofInt (M.2.1 o j)) by simp [hn_fv, e]]
      exact (h rfl).2 h1 h2 H locs a ⟨hF.1, hF.2.1, hF.2.2.1, hF.2.2.2.1, hF.2.2.2.2.1.t.i (hF.2.1 _ _), hF.2.2.2.2.2⟩
    · rw [e] at h
      rw [show hn_fv base M o k j = .long (M.2.2.2 o j) by simp [hn_fv, e]]
      exact (h rfl).2 h1 h2 H locs a ⟨hF.1, hF.2.1, hF.2.2.1, hF.2.2.2.1, hF.2.2.2.2.1.t.n (fun x q => by cases q), hF.2.2.2.2.2⟩
    · rw [e] at h
      cases er : M.2.2.1 o j with
      | none =>
        rw [er] at h
        exact h.elim
      | some r' =>
        rw [er] at h
        rw [show hn_fv base M o k j = .ref (base + r') by simp [hn_fv, e, er, va_rf]]
        exact (h rfl).2 h1 h2 H locs a ⟨hF.1, hF.2.1, hF.2.2.1, hF.2.2.2.1, hF.2.2.2.2.1.t.n (fun x q => by cases q), hF.2.2.2.2.2⟩
theorem hn_s_putfield (hX : hn_X p R s m args meth c D base cI cS b sL xs mi d n0 s0 Mend) {pc : Nat} {ls : hn_Ls} {st : List hn_V} {M : hn_Mem} {i o k j : Nat} {v : hn_V} (hd : decode (hn_c mi) pc = .ok (.putfield i, 3)) (hw : lw_tbl[hn_pfld (hn_oc mi * 1024 + i)]? = some (.fieldLink (hn_cn (hn_oc mi)) i (hn_cn k) (hn_fT k j).2.1 (hn_fT k j).2.2.1)) (hk : k < 8) (hj : j < hn_nf k) (h : cond (!hn_fin k j || (Nat.beq (hn_mk mi) 2 && Nat.beq (hn_oc mi) k)) (hn_putf M o k j v fun M' => hn_G p l e R s m args below meth c D base cI cS b mi n0 s0 Q r Mend (hn_nx mi (pc + 3) ls st M')) False) : hn_GW p l e R s m args below meth c D base cI cS b mi n0 s0 Q pc ls (v :: .inr (.inr (.inl o)) :: st) M := by
  cases hf : (!hn_fin k j || (Nat.beq (hn_mk mi) 2 && Nat.beq (hn_oc mi) k)) with
  | false => rw [hf] at h; exact h.elim
  | true =>
    rw [hf] at h
    simp only [cond_true] at h
    have hfin : hn_fin k j = false ∨ (meth.name = "<init>" ∧ hn_cn k = hn_cn (hn_oc mi)) := by
      simp only [Bool.or_eq_true, Bool.and_eq_true, Bool.not_eq_true'] at hf
      rcases hf with hf | ⟨hf1, hf2⟩
      · exact Or.inl hf
      · exact Or.inr ⟨hX.2.2.1.1 (Nat.eq_of_beq_eq_true hf1), by rw [Nat.eq_of_beq_eq_true hf2]⟩
    unfold hn_putf at h
    cases ho : hn_isObj M.1 o k with
    | false => rw [ho] at h; exact h.elim
    | true =>
      rw [ho] at h
      simp only [cond_true] at h
      intro h1 h2 H locs a hF
      have key : ∀ (w : Value) (M' : hn_Mem), hn_cv base b v = w → (∀ t : FieldType, (hn_fk k j = 0 → t = .int) → (hn_fk k j = 1 → t = .boolean) → (hn_fk k j = 2 → t = .long) → (hn_fk k j = 3 → hn_isRef t = true) → narrow t w = w ∧ fits t w = true) → M'.1 = M.1 → (∀ j', hn_fv base M' o k j' = if j' = j then w else hn_fv base M o k j') → (∀ (o' : Nat) (sh' : hn_Sh), o' ≠ o → hn_ce base cI cS M' o' sh' = hn_ce base cI cS M o' sh') → hn_oM M' → hn_G p l e R s m args below meth c D base cI cS b mi n0 s0 Q r Mend (hn_nx mi (pc + 3) ls st M') → W p l e R s m args below meth c H locs (M.1.length - n0) (hn_sz M.1 - s0) Q (F0 m pc a ((v :: .inr (.inr (.inl o)) :: st).map (hn_cv base b))) := by
        intro w M' hw2 hv hM hfv hne hoM hG
        subst hw2
        refine hn_wput hX.1.1 hX.1.2.1 hX.2.1 hX.1.2.2.2 hX.2.2.2.1 hF.1 hF.2.2.2.2.2 hk hj (hn_isObjOf ho) (hn_mem hw) hfin hv hM hfv hne hd fun H1 locs1 hW1 hS1 => ?_
        have h3 := (hG rfl).2 (by rw [hM]; exact h1) (by rw [hM]; exact h2) H1 locs1 a ⟨hW1, hoM, hF.2.2.1, hF.2.2.2.1, hF.2.2.2.2.1.t.t, hS1⟩
        rw [hM] at h3
        exact h3
      obtain ⟨C, T, N, ty, -, -, rfl, -, -, -, -, -, -, g10, -⟩ := hn_cf k hk
      have hle := (g10 j hj).2.2.2.2
      have hcs : hn_fk k j = 0 ∨ hn_fk k j = 1 ∨ hn_fk k j = 2 ∨ hn_fk k j = 3 := by omega
      rcases hcs with e | e | e | e <;> rw [e] at h <;> rcases v with x | x | x | x <;> (try dsimp only at h) <;> first | exact h.elim | skip
      ·
        refine key _ (M.1, hn_up M.2.1 o j x, M.2.2) rfl (fun t t0 t1 t2 t3 => by rw [t0 e]; exact ⟨rfl, rfl⟩) rfl (fun j' => ?_) (fun o' sh' hne => ?_) (hF.2.1.up hF.2.2.2.2.1.h) h
        · by_cases ej : j' = j
          · subst ej; simp [hn_fv, e, hn_up_eq, hn_cv, va_rf]
          · simp [hn_fv, hn_up_ne (Or.inr ej), ej]
        · rcases sh' with c' | n' | n' <;> simp [hn_ce, hn_fv, hn_up_ne (Or.inl hne)]
      ·
        refine key _ (M.1, hn_up M.2.1 o j x, M.2.2) rfl (fun t t0 t1 t2 t3 => by rw [t1 e]; rcases h.1 with q | q <;> (rw [q]; exact ⟨rfl, rfl⟩)) rfl (fun j' => ?_) (fun o' sh' hne => ?_) (hF.2.1.up hF.2.2.2.2.1.h) h.2
        · by_cases ej : j' = j
          · subst ej; simp [hn_fv, e, hn_up_eq, hn_cv, va_rf]
          · simp [hn_fv, hn_up_ne (Or.inr ej), ej]
        · rcases sh' with c' | n' | n' <;> simp [hn_ce, hn_fv, hn_up_ne (Or.inl hne)]
      ·
        refine key _ (M.1, M.2.1, M.2.2.1, hn_up M.2.2.2 o j x) rfl (fun t t0 t1 t2 t3 => by rw [t2 e]; exact ⟨rfl, rfl⟩) rfl (fun j' => ?_) (fun o' sh' hne => ?_) (hF.2.1) h
        · by_cases ej : j' = j
          · subst ej; simp [hn_fv, e, hn_up_eq, hn_cv, va_rf]
          · simp [hn_fv, hn_up_ne (Or.inr ej), ej]
        · rcases sh' with c' | n' | n' <;> simp [hn_ce, hn_fv, hn_up_ne (Or.inl hne)]
      ·
        refine key _ (M.1, M.2.1, hn_up M.2.2.1 o j (some x), M.2.2.2) rfl (fun t t0 t1 t2 t3 => by
          have := t3 e
          cases t <;> simp [hn_isRef] at this <;> exact ⟨rfl, rfl⟩) rfl (fun j' => ?_) (fun o' sh' hne => ?_) (hF.2.1) h
        · by_cases ej : j' = j
          · subst ej; simp [hn_fv, e, hn_up_eq, hn_cv, va_rf]
          · simp [hn_fv, hn_up_ne (Or.inr ej), ej]
        · rcases sh' with c' | n' | n' <;> simp [hn_ce, hn_fv, hn_up_ne (Or.inl hne)]
theorem hn_s_iaload (hX : hn_X p R s m args meth c D base cI cS b sL xs mi d n0 s0 Mend) {pc : Nat} {ls : hn_Ls} {st : List hn_V} {M : hn_Mem} {i : Int} {o : Nat} (hd : decode (hn_c mi) pc = .ok (.iaload, 1)) (h : hn_ilen M.1 o fun n => (0 ≤ i ∧ i < n) ∧ hn_G p l e R s m args below meth c D base cI cS b mi n0 s0 Q r Mend (hn_nx mi (pc + 1) ls (.inl (M.2.1 o i.toNat) :: st) M)) : hn_GW p l e R s m args below meth c D base cI cS b mi n0 s0 Q pc ls (.inl i :: .inr (.inr (.inl o)) :: st) M := by
  unfold hn_ilen at h
  split at h
  · rename_i n ho
    refine hn_pure h.2 (fun h1 _ h3 => h1.t.t.i (h3 _ _)) fun H locs cells slots a hF k => hn_wild hX.1.1 hX.1.2.1 hX.2.2.2.1 hF.1 ho hF.2.2.2.2.1.h h.1 hd k
  · exact h.elim
theorem hn_s_sload (hX : hn_X p R s m args meth c D base cI cS b sL xs mi d n0 s0 Mend) {pc : Nat} {ls : hn_Ls} {st : List hn_V} {M : hn_Mem} {i : Int} {u : Unit} (hd : decode (hn_c mi) pc = .ok (.iaload, 1)) (h : (0 ≤ i ∧ i < sL) ∧ hn_G p l e R s m args below meth c D base cI cS b mi n0 s0 Q r Mend (hn_nx mi (pc + 1) ls (.inl ((fun j => (xs j).toInt) i.toNat) :: st) M)) : hn_GW p l e R s m args below meth c D base cI cS b mi n0 s0 Q pc ls (.inl i :: .inr (.inr (.inr u)) :: st) M := by
  refine hn_pure h.2 (fun h1 _ h3 => h1.t.t.i (hn_r2 _)) fun H locs cells slots a hF k => ?_
  refine va_sld (A := hn_A base) (L := sL) (xs := xs) hX.1.1 hX.1.2.1 hX.2.2.2.2.1.2.1 (Nat.lt_of_lt_of_le hX.2.2.2.2.1.2.2.1 hX.2.2.2.2.1.1) (Nat.not_le.mpr hX.2.2.2.2.1.2.2.1) hF.2.2.2.2.2 (hn_in hF.2.2.2.2.1.h h.1) hd ?_
  rw [hn_r3 hF.2.2.2.2.1.h, ← Int32.ofInt_toInt (xs i.toNat)]
  exact k
theorem hn_s_iastore (hX : hn_X p R s m args meth c D base cI cS b sL xs mi d n0 s0 Mend) {pc : Nat} {ls : hn_Ls} {st : List hn_V} {M : hn_Mem} {i x : Int} {o : Nat} (hd : decode (hn_c mi) pc = .ok (.iastore, 1)) (h : hn_ilen M.1 o fun n => (0 ≤ i ∧ i < n) ∧ hn_G p l e R s m args below meth c D base cI cS b mi n0 s0 Q r Mend (hn_nx mi (pc + 1) ls st (M.1, hn_up M.2.1 o i.toNat x, M.2.2))) : hn_GW p l e R s m args below meth c D base cI cS b mi n0 s0 Q pc ls (.inl x :: .inl i :: .inr (.inr (.inl o)) :: st) M := by
  unfold hn_ilen at h
  split at h
  · rename_i n ho
    intro h1 h2 H locs a hF
    refine hn_wist hX.1.1 hX.1.2.1 hX.2.2.2.1 hF.1 hF.2.2.2.2.2 ho hF.2.2.2.2.1.t.h h.1 hd fun H1 locs1 hW1 hS1 => ?_
    exact (h.2 rfl).2 h1 h2 H1 locs1 a ⟨hW1, hF.2.1.up hF.2.2.2.2.1.h, hF.2.2.1, hF.2.2.2.1, hF.2.2.2.2.1.t.t.t, hS1⟩
  · exact h.elim
theorem hn_s_aaload (hX : hn_X p R s m args meth c D base cI cS b sL xs mi d n0 s0 Mend) {pc : Nat} {ls : hn_Ls} {st : List hn_V} {M : hn_Mem} {i : Int} {o : Nat} (hd : decode (hn_c mi) pc = .ok (.aaload, 1)) (h : hn_qlen M.1 o fun n => (0 ≤ i ∧ i < n) ∧ hn_opt (M.2.2.1 o i.toNat) fun r' => hn_G p l e R s m args below meth c D base cI cS b mi n0 s0 Q r Mend (hn_nx mi (pc + 1) ls (.inr (.inr (.inl r')) :: st) M)) : hn_GW p l e R s m args below meth c D base cI cS b mi n0 s0 Q pc ls (.inl i :: .inr (.inr (.inl o)) :: st) M := by
  unfold hn_qlen at h
  split at h
  · rename_i n ho
    obtain ⟨hin, h⟩ := h
    unfold hn_opt at h
    split at h
    · rename_i r' er
      refine hn_pure h (fun h1 _ h3 => h1.t.t.n (fun x q => by cases q)) fun H locs cells slots a hF k => hn_wqld hX.1.1 hX.1.2.1 hX.2.2.2.1 hF.1 ho hF.2.2.2.2.1.h hin hd ?_
      rw [er]
      exact k
    · exact h.elim
  · exact h.elim
theorem hn_s_aastore (hX : hn_X p R s m args meth c D base cI cS b sL xs mi d n0 s0 Mend) {pc : Nat} {ls : hn_Ls} {st : List hn_V} {M : hn_Mem} {i : Int} {o r' : Nat} (hd : decode (hn_c mi) pc = .ok (.aastore, 1)) (h : hn_qlen M.1 o fun n => (0 ≤ i ∧ i < n) ∧ cond (hn_isObj M.1 r' 4) (hn_G p l e R s m args below meth c D base cI cS b mi n0 s0 Q r Mend (hn_nx mi (pc + 1) ls st (M.1, M.2.1, hn_up M.2.2.1 o i.toNat (some r'), M.2.2.2))) False) : hn_GW p l e R s m args below meth c D base cI cS b mi n0 s0 Q pc ls (.inr (.inr (.inl r')) :: .inl i :: .inr (.inr (.inl o)) :: st) M := by
  unfold hn_qlen at h
  split at h
  · rename_i n ho
    obtain ⟨hin, h⟩ := h
    cases hr : hn_isObj M.1 r' 4 with
    | false => rw [hr] at h; exact h.elim
    | true =>
      rw [hr] at h
      intro h1 h2 H locs a hF
      refine hn_wqst hX.1.1 hX.1.2.1 hX.2.2.2.1 hF.1 hF.2.2.2.2.2 ho (hn_isObjOf hr) hF.2.2.2.2.1.t.h hin hd fun H1 locs1 hW1 hS1 => ?_
      exact (h rfl).2 h1 h2 H1 locs1 a ⟨hW1, hF.2.1, hF.2.2.1, hF.2.2.2.1, hF.2.2.2.2.1.t.t.t, hS1⟩
  · exact h.elim
theorem hn_s_alen (hX : hn_X p R s m args meth c D base cI cS b sL xs mi d n0 s0 Mend) {pc : Nat} {ls : hn_Ls} {st : List hn_V} {M : hn_Mem} {o : Nat} (hd : decode (hn_c mi) pc = .ok (.arraylength, 1)) (h : hn_alen M.1 o fun n => cond (Nat.ble n 10000) (hn_G p l e R s m args below meth c D base cI cS b mi n0 s0 Q r Mend (hn_nx mi (pc + 1) ls (.inl (n : Int) :: st) M)) False) : hn_GW p l e R s m args below meth c D base cI cS b mi n0 s0 Q pc ls (.inr (.inr (.inl o)) :: st) M := by
  unfold hn_alen at h
  split at h
  · rename_i n ho
    cases hn : Nat.ble n 10000 with
    | false => rw [hn] at h; exact h.elim
    | true =>
      rw [hn] at h
      have := Nat.le_of_ble_eq_true hn
      exact hn_pure (r := r) h (fun h1 _ h3 => h1.t.i (by constructor <;> omega)) fun H locs cells slots a hF k => hn_wlen hX.1.1 hX.1.2.1 hX.2.2.2.1 hF.1 (Or.inr ho) hd k
  · rename_i n ho
    cases hn : Nat.ble n 10000 with
    | false => rw [hn] at h; exact h.elim
    | true =>
      rw [hn] at h
      have := Nat.le_of_ble_eq_true hn
      exact hn_pure (r := r) h (fun h1 _ h3 => h1.t.i (by constructor <;> omega)) fun H locs cells slots a hF k => hn_wlen hX.1.1 hX.1.2.1 hX.2.2.2.1 hF.1 (Or.inl ho) hd k
  · exact h.elim
theorem hn_s_slen (hX : hn_X p R s m args meth c D base cI cS b sL xs mi d n0 s0 Mend) {pc : Nat} {ls : hn_Ls} {st : List hn_V} {M : hn_Mem} {u : Unit} (hd : decode (hn_c mi) pc = .ok (.arraylength, 1)) (h : hn_G p l e R s m args below meth c D base cI cS b mi n0 s0 Q r Mend (hn_nx mi (pc + 1) ls (.inl (sL : Int) :: st) M)) : hn_GW p l e R s m args below meth c D base cI cS b mi n0 s0 Q pc ls (.inr (.inr (.inr u)) :: st) M := by
  have hl := hX.2.2.2.2.1.2.2.2
  refine hn_pure h (fun h1 _ h3 => h1.t.i (by constructor <;> omega)) fun H locs cells slots a hF k => ?_
  refine va_slen (A := hn_A base) (L := sL) (xs := xs) hX.1.1 hX.1.2.1 hX.2.2.2.2.1.2.1 (Nat.lt_of_lt_of_le hX.2.2.2.2.1.2.2.1 hX.2.2.2.2.1.1) (Nat.not_le.mpr hX.2.2.2.2.1.2.2.1) hF.2.2.2.2.2 hd ?_
  rw [← hn_ofNat]
  exact k
theorem hn_s_new (hX : hn_X p R s m args meth c D base cI cS b sL xs mi d n0 s0 Mend) {pc : Nat} {ls : hn_Ls} {st : List hn_V} {M : hn_Mem} {i k : Nat} (hd : decode (hn_c mi) pc = .ok (.new i, 3)) (hw : lw_tbl[hn_pcls (hn_oc mi * 1024 + i)]? = some (.classLink (hn_cn (hn_oc mi)) i (hn_cn k))) (hk : k < 8) (h : hn_G p l e R s m args below meth c D base cI cS b mi n0 s0 Q r Mend (hn_nx mi (pc + 3) ls (.inr (.inr (.inl M.1.length)) :: st) (hn_new M (.inl k)))) : hn_GW p l e R s m args below meth c D base cI cS b mi n0 s0 Q pc ls st M := by
  intro h1 h2 H locs a hF
  obtain ⟨⟨b1, b2⟩, h3⟩ := h rfl
  have e1 : (hn_new M (.inl k)).1.length = M.1.length + 1 := by simp [hn_new]
  have e2 : hn_sz (hn_new M (.inl k)).1 = hn_sz M.1 + hn_nf k := hn_sz_push _ _
  rw [e1] at b1
  rw [e2] at b2
  have r1 := hX.2.2.2.2.2.2.2.1
  have r2 := hX.2.2.2.2.2.2.2.2
  refine hn_wnew hX.1.1 hX.1.2.1 hX.2.1 hX.1.2.2.2 hX.2.2.2.1 hF.1 hF.2.2.2.2.2 hk (hn_mem hw) (by omega) (by omega) hd fun H1 hW1 hS1 => ?_
  have h4 := h3 (by rw [e1]; omega) (by rw [e2]; omega) H1 locs a ⟨hW1, hF.2.1.new, hF.2.2.1, hF.2.2.2.1, hF.2.2.2.2.1.n (fun x q => by cases q), hS1⟩
  rw [e1, e2, show M.1.length + 1 - n0 = M.1.length - n0 + 1 by omega, show hn_sz M.1 + hn_nf k - s0 = hn_sz M.1 - s0 + hn_nf k by omega] at h4
  exact h4
theorem hn_s_newI (hX : hn_X p R s m args meth c D base cI cS b sL xs mi d n0 s0 Mend) {pc : Nat} {ls : hn_Ls} {st : List hn_V} {M : hn_Mem} {n : Int} (hd : decode (hn_c mi) pc = .ok (.newarray .int, 2)) (h : (0 ≤ n ∧ n ≤ 10000) ∧ hn_G p l e R s m args below meth c D base cI cS b mi n0 s0 Q r Mend (hn_nx mi (pc + 2) ls (.inr (.inr (.inl M.1.length)) :: st) (hn_new M (.inr (.inl n.toNat))))) : hn_GW p l e R s m args below meth c D base cI cS b mi n0 s0 Q pc ls (.inl n :: st) M := by
  intro h1 h2 H locs a hF
  obtain ⟨hn, h⟩ := h
  obtain ⟨⟨b1, b2⟩, h3⟩ := h rfl
  have e1 : (hn_new M (.inr (.inl n.toNat))).1.length = M.1.length + 1 := by simp [hn_new]
  have e2 : hn_sz (hn_new M (.inr (.inl n.toNat))).1 = hn_sz M.1 + n.toNat := hn_sz_push _ _
  rw [e1] at b1
  rw [e2] at b2
  have r1 := hX.2.2.2.2.2.2.2.1
  have r2 := hX.2.2.2.2.2.2.2.2
  refine hn_wnewI hX.1.1 hX.1.2.1 hX.2.1 hX.2.2.2.1 hF.1 hF.2.2.2.2.2 hF.2.2.2.2.1.h hn (by omega) (by omega) hd fun H1 hW1 hS1 => ?_
  have h4 := h3 (by rw [e1]; omega) (by rw [e2]; omega) H1 locs a ⟨hW1, hF.2.1.new, hF.2.2.1, hF.2.2.2.1, hF.2.2.2.2.1.t.n (fun x q => by cases q), hS1⟩
  rw [e1, e2, show M.1.length + 1 - n0 = M.1.length - n0 + 1 by omega, show hn_sz M.1 + n.toNat - s0 = hn_sz M.1 - s0 + n.toNat by omega] at h4
  exact h4
theorem hn_s_newQ (hX : hn_X p R s m args meth c D base cI cS b sL xs mi d n0 s0 Mend) {pc : Nat} {ls : hn_Ls} {st : List hn_V} {M : hn_Mem} {n : Int} {i k : Nat} (hd : decode (hn_c mi) pc = .ok (.anewarray i, 3)) (hw : lw_tbl[hn_pcls (hn_oc mi * 1024 + i)]? = some (.classLink (hn_cn (hn_oc mi)) i (hn_cn k))) (h : cond (Nat.beq k 4) ((0 ≤ n ∧ n ≤ 10000) ∧ hn_G p l e R s m args below meth c D base cI cS b mi n0 s0 Q r Mend (hn_nx mi (pc + 3) ls (.inr (.inr (.inl M.1.length)) :: st) (hn_new M (.inr (.inr n.toNat))))) False) : hn_GW p l e R s m args below meth c D base cI cS b mi n0 s0 Q pc ls (.inl n :: st) M := by
  cases hk : Nat.beq k 4 with
  | false => rw [hk] at h; exact h.elim
  | true =>
    rw [hk] at h
    have hk4 := Nat.eq_of_beq_eq_true hk
    subst hk4
    intro h1 h2 H locs a hF
    obtain ⟨hn, h⟩ := h
    obtain ⟨⟨b1, b2⟩, h3⟩ := h rfl
    have e1 : (hn_new M (.inr (.inr n.toNat))).1.length = M.1.length + 1 := by simp [hn_new]
    have e2 : hn_sz (hn_new M (.inr (.inr n.toNat))).1 = hn_sz M.1 + n.toNat := hn_sz_push _ _
    rw [e1] at b1
    rw [e2] at b2
    have r1 := hX.2.2.2.2.2.2.2.1
    have r2 := hX.2.2.2.2.2.2.2.2
    refine hn_wnewQ hX.1.1 hX.1.2.1 hX.2.2.1.2.2 hX.2.1 hX.1.2.2.2 hX.2.2.2.1 hF.1 hF.2.2.2.2.2 (hn_mem hw) hF.2.2.2.2.1.h hn (by omega) (by omega) hd fun H1 hW1 hS1 => ?_
    have h4 := h3 (by rw [e1]; omega) (by rw [e2]; omega) H1 locs a ⟨hW1, hF.2.1.new, hF.2.2.1, hF.2.2.2.1, hF.2.2.2.2.1.t.n (fun x q => by cases q), hS1⟩
    rw [e1, e2, show M.1.length + 1 - n0 = M.1.length - n0 + 1 by omega, show hn_sz M.1 + n.toNat - s0 = hn_sz M.1 - s0 + n.toNat by omega] at h4
    exact h4
theorem hn_s_abs (hX : hn_X p R s m args meth c D base cI cS b sL xs mi d n0 s0 Mend) {pc : Nat} {ls : hn_Ls} {st : List hn_V} {M : hn_Mem} {x : Int} {i : Nat} (hd : decode (hn_c mi) pc = .ok (.invokestatic i, 3)) (hw : lw_tbl[hn_psite (hn_oc mi * 1024 + i)]? = some (.methodLink (hn_cn (hn_oc mi)) i (hn_y 164))) (h : hn_math 164 (.inl x :: st) fun st' => hn_G p l e R s m args below meth c D base cI cS b mi n0 s0 Q r Mend (hn_nx mi (pc + 3) ls st' M)) : hn_GW p l e R s m args below meth c D base cI cS b mi n0 s0 Q pc ls (.inl x :: st) M := by
  change cond (hn_small st) (hn_R (-x) ∧ hn_G p l e R s m args below meth c D base cI cS b mi n0 s0 Q r Mend (hn_nx mi (pc + 3) ls (.inl (Int.natAbs x : Int) :: st) M)) False at h
  cases hs : hn_small st with
  | false => rw [hs] at h; exact h.elim
  | true =>
    rw [hs] at h
    dsimp only [cond_true] at h
    have hl := hX.2.2.2.2.2.2.1
    have hf := hX.2.2.2.2.2.1
    have hsm := hn_smallOf (base := base) (b := b) hs
    intro h1 h2 H locs a hF
    obtain ⟨⟨b1, b2⟩, h3⟩ := h.2 rfl
    have r1 := hX.2.2.2.2.2.2.2.1
    have r2 := hX.2.2.2.2.2.2.2.2
    refine va_mabs hX.1.1 hX.1.2.1 (by rw [hF.2.2.1.1, hX.1.2.2.1]) hX.1.2.2.2 (hX.2.1 _ (hn_mem hw)) (hX.2.1 _ hn_ma164s) (hX.2.1 _ hn_mai) (hX.2.1 _ hn_ma164c) (by omega) (by omega) (by omega) (by omega) hd ?_
    have h4 := h3 h1 h2 H locs a ⟨hF.1, hF.2.1, hF.2.2.1, hF.2.2.2.1, (hF.2.2.2.2.1.t.i (by have := hF.2.2.2.2.1.h; have := h.1; constructor <;> omega)), hF.2.2.2.2.2⟩
    rw [hn_mAbs hF.2.2.2.2.1.h]
    exact h4
theorem hn_s_max (hX : hn_X p R s m args meth c D base cI cS b sL xs mi d n0 s0 Mend) {pc : Nat} {ls : hn_Ls} {st : List hn_V} {M : hn_Mem} {x y : Int} {i : Nat} (hd : decode (hn_c mi) pc = .ok (.invokestatic i, 3)) (hw : lw_tbl[hn_psite (hn_oc mi * 1024 + i)]? = some (.methodLink (hn_cn (hn_oc mi)) i (hn_y 165))) (h : hn_math 165 (.inl y :: .inl x :: st) fun st' => hn_G p l e R s m args below meth c D base cI cS b mi n0 s0 Q r Mend (hn_nx mi (pc + 3) ls st' M)) : hn_GW p l e R s m args below meth c D base cI cS b mi n0 s0 Q pc ls (.inl y :: .inl x :: st) M := by
  change cond (hn_small st) (hn_G p l e R s m args below meth c D base cI cS b mi n0 s0 Q r Mend (hn_nx mi (pc + 3) ls (.inl (max x y) :: st) M)) False at h
  cases hs : hn_small st with
  | false => rw [hs] at h; exact h.elim
  | true =>
    rw [hs] at h
    dsimp only [cond_true] at h
    have hl := hX.2.2.2.2.2.2.1
    have hf := hX.2.2.2.2.2.1
    have hsm := hn_smallOf (base := base) (b := b) hs
    intro h1 h2 H locs a hF
    obtain ⟨⟨b1, b2⟩, h3⟩ := h rfl
    have r1 := hX.2.2.2.2.2.2.2.1
    have r2 := hX.2.2.2.2.2.2.2.2
    refine va_mmax hX.1.1 hX.1.2.1 (by rw [hF.2.2.1.1, hX.1.2.2.1]) hX.1.2.2.2 (hX.2.1 _ (hn_mem hw)) (hX.2.1 _ hn_ma165s) (hX.2.1 _ hn_mai) (hX.2.1 _ hn_ma165c) (by omega) (by omega) (by omega) (by omega) hd ?_
    have h4 := h3 h1 h2 H locs a ⟨hF.1, hF.2.1, hF.2.2.1, hF.2.2.2.1, (hF.2.2.2.2.1.t.t.i (by have := hF.2.2.2.2.1.h; have := hF.2.2.2.2.1.t.h; constructor <;> omega)), hF.2.2.2.2.2⟩
    rw [hn_mMax hF.2.2.2.2.1.t.h hF.2.2.2.2.1.h]
    exact h4
theorem hn_s_min (hX : hn_X p R s m args meth c D base cI cS b sL xs mi d n0 s0 Mend) {pc : Nat} {ls : hn_Ls} {st : List hn_V} {M : hn_Mem} {x y : Int} {i : Nat} (hd : decode (hn_c mi) pc = .ok (.invokestatic i, 3)) (hw : lw_tbl[hn_psite (hn_oc mi * 1024 + i)]? = some (.methodLink (hn_cn (hn_oc mi)) i (hn_y 166))) (h : hn_math 166 (.inl y :: .inl x :: st) fun st' => hn_G p l e R s m args below meth c D base cI cS b mi n0 s0 Q r Mend (hn_nx mi (pc + 3) ls st' M)) : hn_GW p l e R s m args below meth c D base cI cS b mi n0 s0 Q pc ls (.inl y :: .inl x :: st) M := by
  change cond (hn_small st) (hn_G p l e R s m args below meth c D base cI cS b mi n0 s0 Q r Mend (hn_nx mi (pc + 3) ls (.inl (min x y) :: st) M)) False at h
  cases hs : hn_small st with
  | false => rw [hs] at h; exact h.elim
  | true =>
    rw [hs] at h
    dsimp only [cond_true] at h
    have hl := hX.2.2.2.2.2.2.1
    have hf := hX.2.2.2.2.2.1
    have hsm := hn_smallOf (base := base) (b := b) hs
    intro h1 h2 H locs a hF
    obtain ⟨⟨b1, b2⟩, h3⟩ := h rfl
    have r1 := hX.2.2.2.2.2.2.2.1
    have r2 := hX.2.2.2.2.2.2.2.2
    refine va_mmin hX.1.1 hX.1.2.1 (by rw [hF.2.2.1.1, hX.1.2.2.1]) hX.1.2.2.2 (hX.2.1 _ (hn_mem hw)) (hX.2.1 _ hn_ma166s) (hX.2.1 _ hn_mai) (hX.2.1 _ hn_ma166c) (by omega) (by omega) (by omega) (by omega) hd ?_
    have h4 := h3 h1 h2 H locs a ⟨hF.1, hF.2.1, hF.2.2.1, hF.2.2.2.1, (hF.2.2.2.2.1.t.t.i (by have := hF.2.2.2.2.1.h; have := hF.2.2.2.2.1.t.h; constructor <;> omega)), hF.2.2.2.2.2⟩
    rw [hn_mMin hF.2.2.2.2.1.t.h hF.2.2.2.2.1.h]
    exact h4
theorem hn_wcopy {H : Heap} {locs : List Loc} {cells slots : Nat} {cc : ByteArray} {pc : Nat} {ls : Array Slot} {rest : List Value} {M : hn_Mem} (hexec : p.tables.exec = Jvm.exec) (hb : c.code = cc) (hml : c.maxLocals = ls.size) {own : String} {index : Nat} (hown : s.vm.findClass own = some m.cls) (hlink : (Jvm.Cond.methodLink own index arraycopyName).before args s = true) (hnat : (Jvm.Cond.native arraycopyName).before args s = true) (hstat : (Jvm.Cond.static arraycopyName).before args s = true) (hini : (Jvm.Cond.initialized "java/lang/System").before args s = true)
    (hK : va_K D hn_cl (hn_tys cI cS) s) (hW : hn_Wd D base cI cS M H) (hS : va_S (hn_A base) s.heap H locs) {a0 a1 n0 n1 : Nat} (ho0 : M.1[a0]? = some (.inr (.inl n0))) (ho1 : M.1[a1]? = some (.inr (.inl n1))) {sp dp n : Int} (r1 : hn_R sp) (r2 : hn_R dp) (r3 : hn_R n) (hc : 0 ≤ sp ∧ 0 ≤ dp ∧ 0 ≤ n ∧ sp + n ≤ n0 ∧ dp + n ≤ n1)
    (hframes : 1 ≤ R.frames) (hlocals : (rest.map fun v => v.category).sum + (nativeFrameWords "java/lang/System" "arraycopy" 5 + 11) ≤ R.locals) (hdg : decode cc pc = .ok (.invokestatic index, 3))
    (kk : ∀ (H1 : Heap) (locs1 : List Loc), hn_Wd D base cI cS (M.1, hn_cp M.2.1 a0 sp.toNat a1 dp.toNat n.toNat, M.2.2) H1 → va_S (hn_A base) s.heap H1 locs1 → W p l e R s m args below meth c H1 locs1 cells slots Q (F0 m (pc + 3) ls rest)) : W p l e R s m args below meth c H locs cells slots Q (F0 m pc ls (.int (Int32.ofInt n) :: .int (Int32.ofInt dp) :: .ref (base + a1) :: .int (Int32.ofInt sp) :: .ref (base + a0) :: rest)) := by
  intro T hT X
  obtain ⟨f, hf⟩ : ∃ f : Nat → Int32, f = fun j => Int32.ofInt (M.2.1 a0 j) := ⟨_, rfl⟩
  obtain ⟨g, hg⟩ : ∃ g : Nat → Int32, g = fun j => Int32.ofInt (M.2.1 a1 j) := ⟨_, rfl⟩
  have hc0 : H[base + a0]? = some (vp_cell cI (n0, .inl f)) := by rw [hf]; exact hW.2 a0 _ ho0
  have hc1 : H[base + a1]? = some (vp_cell cI (n1, .inl g)) := by rw [hg]; exact hW.2 a1 _ ho1
  obtain ⟨-, k0, hk0, cm0, hkk0⟩ := (hK.2 0 _ rfl).1 n0 (fun j => .int (f j))
  obtain ⟨-, k1, hk1, cm1, hkk1⟩ := (hK.2 0 _ rfl).1 n1 (fun j => .int (g j))
  have e1 := hn_r3 r1
  have e2 := hn_r3 r2
  have e3 := hn_r3 r3
  have t1 := hn_r1 r1
  have t2 := hn_r1 r2
  have t3 := hn_r1 r3
  obtain ⟨vm', X', step⟩ := X.arraycopy hexec hown hlink hnat hstat hini (src := base + a0) (dst := base + a1) (cs := vp_cell cI (n0, .inl f)) (cd := vp_cell cI (n1, .inl g)) (srcPos := Int32.ofInt sp) (destPos := Int32.ofInt dp) (n := Int32.ofInt n) (by rw [hT]; exact hc0) (by rw [hT]; exact hc1)
    (fun _ h => by cases h) (fun _ h => by cases h) (fun h => by cases h) (fun h => by cases h) hk0 hk1 hkk0 hkk1 (by simp [refKind]) (by rw [hn_lt0 r1]; omega) (by rw [hn_lt0 r2]; omega) (by rw [hn_lt0 r3]; omega)
    (by rw [t1, t3]; show ¬ _ > ((arrV cI n0 (fun j => .int (f j))).slots.size : Int); rw [arrV_size]; omega)
    (by rw [t2, t3]; show ¬ _ > ((arrV cI n1 (fun j => .int (g j))).slots.size : Int); rw [arrV_size]; omega)
    (fun vm₁ _ i hi => by
      rw [e3] at hi
      rw [e1]
      have e : (vp_cell cI (n0, .inl f)).slots.getD (sp.toNat + i) .null = .int (f (sp.toNat + i)) := by
        show (arrV cI n0 (fun j => .int (f j))).slots.getD _ _ = _
        rw [Array.getD_eq_getD_getElem?, arrV_read _ _ (by omega)]
        rfl
      refine ⟨?_, ?_⟩
      · rw [e]
        rfl
      · rw [e]
        exact trivial)
    (g := F0 m pc ls (.int (Int32.ofInt n) :: .int (Int32.ofInt dp) :: .ref (base + a1) :: .int (Int32.ofInt sp) :: .ref (base + a0) :: rest)) rfl (by rw [hml]) (rest := rest) rfl (by rw [hb]; exact hdg) hframes (by show 2 * 0 + _ + _ ≤ _; omega)
  have ec : copied (vp_cell cI (n0, .inl f)) (vp_cell cI (n1, .inl g)) (Int32.ofInt sp) (Int32.ofInt dp) (Int32.ofInt n) = vp_cell cI (n1, .inl (va_cpy f g sp.toNat dp.toNat n.toNat)) := by
    rw [← e1, ← e2, ← e3]
    exact va_copied (fun z => .int z) cI cI f g (by rw [e1, e3]; omega)
  rw [ec] at X' step
  have ef : va_cpy f g sp.toNat dp.toNat n.toNat = fun j => Int32.ofInt (hn_cp M.2.1 a0 sp.toNat a1 dp.toNat n.toNat a1 j) := by
    funext j
    unfold va_cpy hn_cp
    rw [hn_beqT, hf, hg]
    by_cases hj : dp.toNat ≤ j ∧ j < dp.toNat + n.toNat
    · rw [if_pos hj, show (Nat.ble dp.toNat j && Nat.blt j (dp.toNat + n.toNat)) = true from Bool.and_eq_true_iff.mpr ⟨Nat.ble_eq_true_of_le hj.1, hn_bltT.mpr hj.2⟩]
      rfl
    · rw [if_neg hj, show (Nat.ble dp.toNat j && Nat.blt j (dp.toNat + n.toNat)) = false from by
        cases hq : (Nat.ble dp.toNat j && Nat.blt j (dp.toNat + n.toNat)) with
        | false => rfl
        | true =>
          have := Bool.and_eq_true_iff.mp hq
          exact absurd ⟨Nat.le_of_ble_eq_true this.1, hn_bltT.mp this.2⟩ hj]
      rfl
  rw [ef] at X' step
  have hl : base + a1 < H.size := (Array.getElem?_eq_some_iff.mp hc1).1
  have hheap : ((T.setVm vm').setCell (base + a1) (vp_cell cI (n1, .inl (fun j => Int32.ofInt (hn_cp M.2.1 a0 sp.toNat a1 dp.toNat n.toNat a1 j))))).heap = H.setIfInBounds (base + a1) (vp_cell cI (n1, .inl (fun j => Int32.ofInt (hn_cp M.2.1 a0 sp.toNat a1 dp.toNat n.toNat a1 j)))) := by rw [← hT]; rfl
  have oq : ∀ q : Nat, q ≠ base + a1 → (H.setIfInBounds (base + a1) (vp_cell cI (n1, .inl (fun j => Int32.ofInt (hn_cp M.2.1 a0 sp.toNat a1 dp.toNat n.toNat a1 j)))))[q]? = H[q]? := fun q hq => by simp [Array.getElem?_setIfInBounds, Ne.symm hq]
  obtain ⟨t, a1', b1⟩ := kk _ _ (hW.put ho1 rfl (by simp) oq (show (H.setIfInBounds (base + a1) _)[base + a1]? = some _ by simp [Array.getElem?_setIfInBounds, hl, hn_ce]) (fun o' sh' hne => by
      rcases sh' with k | n' | n' <;> simp [hn_ce, hn_fv, hn_cp, hn_beqF hne])) ⟨by simp; exact hS.1, fun q g1 g2 => by
      rw [oq q (fun e => g2 (by rw [e]; exact Nat.le_add_right base a1))]
      exact hS.2.1 q g1 g2, fun q hq => by
      rcases List.mem_append.mp hq with h | h
      · exact hS.2.2 q h
      · obtain ⟨z, -, hz⟩ := List.mem_map.mp h
        rw [← hz]
        exact Nat.le_add_right base a1⟩ _ hheap X'
  exact ⟨t, step t a1', b1⟩
theorem hn_cpn : Jvm.Cond.native arraycopyName ∈ hn_T := by decide +kernel
theorem hn_cps : Jvm.Cond.static arraycopyName ∈ hn_T := by decide +kernel
theorem hn_cpi : Jvm.Cond.initialized "java/lang/System" ∈ hn_T := by decide +kernel
theorem hn_cpw : nativeFrameWords "java/lang/System" "arraycopy" 5 ≤ 7 := by decide
theorem hn_s_copy (hX : hn_X p R s m args meth c D base cI cS b sL xs mi d n0 s0 Mend) {pc : Nat} {ls : hn_Ls} {st : List hn_V} {M : hn_Mem} {i a0 a1 : Nat} {n dp sp : Int} (hd : decode (hn_c mi) pc = .ok (.invokestatic i, 3)) (hw : lw_tbl[hn_psite (hn_oc mi * 1024 + i)]? = some (.methodLink (hn_cn (hn_oc mi)) i arraycopyName)) (h : cond (hn_small st) (hn_ilen M.1 a0 fun k0 => hn_ilen M.1 a1 fun k1 => (0 ≤ sp ∧ 0 ≤ dp ∧ 0 ≤ n ∧ sp + n ≤ k0 ∧ dp + n ≤ k1) ∧ hn_G p l e R s m args below meth c D base cI cS b mi n0 s0 Q r Mend (hn_nx mi (pc + 3) ls st (M.1, hn_cp M.2.1 a0 sp.toNat a1 dp.toNat n.toNat, M.2.2))) False) : hn_GW p l e R s m args below meth c D base cI cS b mi n0 s0 Q pc ls (.inl n :: .inl dp :: .inr (.inr (.inl a1)) :: .inl sp :: .inr (.inr (.inl a0)) :: st) M := by
  cases hs : hn_small st with
  | false => rw [hs] at h; exact h.elim
  | true =>
    rw [hs] at h
    dsimp only [cond_true] at h
    unfold hn_ilen at h
    split at h
    · rename_i n0' ho0
      split at h
      · rename_i n1' ho1
        have hl := hX.2.2.2.2.2.2.1
        have hf := hX.2.2.2.2.2.1
        have hsm := hn_smallOf (base := base) (b := b) hs
        have hcw := hn_cpw
        intro h1 h2 H locs a hF
        have hS1 := hF.2.2.2.2.1
        refine hn_wcopy hX.1.1 hX.1.2.1 (by rw [hF.2.2.1.1, hX.1.2.2.1]) hX.1.2.2.2 (hX.2.1 _ (hn_mem hw)) (hX.2.1 _ hn_cpn) (hX.2.1 _ hn_cps) (hX.2.1 _ hn_cpi) hX.2.2.2.1 hF.1 hF.2.2.2.2.2 ho0 ho1 hS1.t.t.t.h hS1.t.h hS1.h h.1 (by omega) (by omega) hd fun H1 locs1 hW1 hS2 => ?_
        exact (h.2 rfl).2 h1 h2 H1 locs1 a ⟨hW1, hF.2.1.cp, hF.2.2.1, hF.2.2.2.1, hS1.t.t.t.t.t, hS2⟩
      · exact h.elim
    · exact h.elim
theorem hn_s_objInit (hX : hn_X p R s m args meth c D base cI cS b sL xs mi d n0 s0 Mend) {pc : Nat} {ls : hn_Ls} {st : List hn_V} {M : hn_Mem} {i o : Nat} (hd : decode (hn_c mi) pc = .ok (.invokespecial i, 3)) (hw : lw_tbl[hn_psite (hn_oc mi * 1024 + i)]? = some (.methodLink (hn_cn (hn_oc mi)) i objectInit)) (h : cond (hn_small st) (hn_G p l e R s m args below meth c D base cI cS b mi n0 s0 Q r Mend (hn_nx mi (pc + 3) ls st M)) False) : hn_GW p l e R s m args below meth c D base cI cS b mi n0 s0 Q pc ls (.inr (.inr (.inl o)) :: st) M := by
  cases hs : hn_small st with
  | false => rw [hs] at h; exact h.elim
  | true =>
    rw [hs] at h
    refine hn_pure (r := r) h (fun h1 _ _ => h1.t) fun H locs cells slots a hF k => ?_
    have hl := hX.2.2.2.2.2.2.1
    have hf := hX.2.2.2.2.2.1
    have hsm := hn_smallOf (base := base) (b := b) hs
    exact W.objInit (g := F0 m pc a _) hX.1.1 hX.1.2.1 hX.1.2.2.2 (hX.2.1 _ (hn_mem hw)) (hX.2.1 _ hn_oi1) (hX.2.1 _ hn_oi2) rfl (by show a.size = _; rw [hF.2.2.1.1, hX.1.2.2.1]) rfl hd (by omega) (by show 2 * 0 + _ + 12 ≤ _; omega) k
theorem hn_wcall {H : Heap} {locs : List Loc} {cells slots mc ms : Nat} {pc : Nat} {ls : Array Slot} {rest st0 : List Value} {a : Array Value} {r1 : Option hn_V} {M1 : hn_Mem} (hr : va_Run p l e R s m args below meth c H locs cells slots mc ms (F0 m pc ls st0) rest (hn_Qc D base cI cS b r1 M1 a) (hn_A base)) (hS : va_S (hn_A base) s.heap H locs)
    (kk : ∀ (H1 : Heap) (locs1 : List Loc), hn_Wd D base cI cS M1 H1 → hn_oM M1 → hn_oS r1.toList → va_S (hn_A base) s.heap H1 locs1 → W p l e R s m args below meth c H1 locs1 (cells + mc) (slots + ms) Q (F0 m (pc + 3) ls (r1.toList.map (hn_cv base b) ++ rest))) : W p l e R s m args below meth c H locs cells slots Q (F0 m pc ls st0) := by
  intro T hT X
  obtain ⟨v, st₀, t, T', L, h0, X', hL, e1, e2, ⟨⟨hv, hW1, ho1, ho2⟩, hz, hk⟩, st⟩ := hr T hT X
  cases hv
  rw [h0] at hz hk
  obtain ⟨t2, a1, b1⟩ := kk T'.heap (locs ++ L) (by rw [e1]; exact hW1) ho1 ho2
    ⟨Nat.le_trans hS.1 (by rw [e1]; exact hz), fun q h1 h2 => by rw [e1, hk q (Nat.lt_of_lt_of_le h1 hS.1) h2]; exact hS.2.1 q h1 h2, fun q hq => by
      rcases List.mem_append.mp hq with h | h
      · exact hS.2.2 q h
      · exact hL q h⟩ T' rfl X'
  refine ⟨t2, st t2 ?_, b1⟩
  have e3 : (r1.map (hn_cv base b)).toList = r1.toList.map (hn_cv base b) := by cases r1 <;> rfl
  rw [e3]
  exact a1
theorem hn_blind (as : List hn_V) (M : hn_Mem) : FrameBlind (hn_Pc D base cI cS b sL xs as M) := fun a U g mk q => by
  obtain ⟨h1, h2, h3, h4, h5⟩ := q
  exact ⟨h1, h2, va_K.moved (u := U) (U := U.calling g mk a) (Vm.Alike.refl U.vm) h3, va_X.moved (u := U) (U := U.calling g mk a) (Vm.Alike.refl U.vm) h4, hn_N.same (s := U) (U := U.calling g mk a) rfl h5⟩
theorem hn_pre {R : Room} {H : Heap} {locs : List Loc} {nL : Nat} {M : hn_Mem} {ls : hn_Ls} {st : List hn_V} {a : Array Slot} (hX : hn_X p R s m args meth c D base cI cS b sL xs mi d n0 s0 Mend) (hF : hn_Fr D base cI cS b nL s M ls st H locs a) (as : List hn_V) : ∀ U : State, U.heap = H → s.WarmedH U.vm → hn_Pc D base cI cS b sL xs as M (as.map (hn_cv base b)).toArray U := fun U hU hW => by
  refine ⟨rfl, by rw [hU]; exact hF.1, va_K.moved hW.alike hX.2.2.2.1, va_X.moved hW.alike ?_, hn_N.warm hW hX.2.2.1.2⟩
  rw [hU]
  exact hX.2.2.2.2.1.2.1.kept (hF.2.2.2.2.2.2.1 b (Nat.lt_of_lt_of_le hX.2.2.2.2.1.2.2.1 hX.2.2.2.2.1.1) (Nat.not_le.mpr hX.2.2.2.2.1.2.2.1))
/-- behind a call, whatever its kind -/
theorem hn_after (hX : hn_X p R s m args meth c D base cI cS b sL xs mi d n0 s0 Mend) {pc : Nat} {ls : hn_Ls} {st : List hn_V} {M : hn_Mem} {t : Nat} {as rest : List hn_V} {st0 : List Value} {r1 : Option hn_V} {M1 : hn_Mem} {H : Heap} {locs : List Loc} {a : Array Slot} (hmono : M.1.length ≤ M1.1.length ∧ hn_sz M.1 ≤ hn_sz M1.1) (h : hn_G p l e R s m args below meth c D base cI cS b mi n0 s0 Q r Mend (hn_nx mi (pc + 3) ls (r1.toList ++ rest) M1)) (h1 : n0 ≤ M.1.length) (h2 : s0 ≤ hn_sz M.1) (hF : hn_Fr D base cI cS b (hn_ml mi) s M ls st H locs a) (hrest : hn_oS rest)
    (hr : (M.1.length - n0) + (M1.1.length - M.1.length) ≤ R.cells ∧ (hn_sz M.1 - s0) + (hn_sz M1.1 - hn_sz M.1) ≤ R.slots → va_Run p l e R s m args below meth c H locs (M.1.length - n0) (hn_sz M.1 - s0) (M1.1.length - M.1.length) (hn_sz M1.1 - hn_sz M.1) (F0 m pc a st0) (rest.map (hn_cv base b)) (hn_Qc D base cI cS b r1 M1 (as.map (hn_cv base b)).toArray) (hn_A base)) : W p l e R s m args below meth c H locs (M.1.length - n0) (hn_sz M.1 - s0) Q (F0 m pc a st0) := by
  obtain ⟨⟨b1, b2⟩, h3⟩ := h rfl
  have r1' := hX.2.2.2.2.2.2.2.1
  have r2' := hX.2.2.2.2.2.2.2.2
  refine hn_wcall (hr ⟨by omega, by omega⟩) hF.2.2.2.2.2 fun H1 locs1 hW1 ho1 ho2 hS1 => ?_
  have h4 := h3 (by omega) (by omega) H1 locs1 a ⟨hW1, ho1, hF.2.2.1, hF.2.2.2.1, ho2.a hrest, hS1⟩
  rw [show M1.1.length - n0 = M.1.length - n0 + (M1.1.length - M.1.length) by omega, show hn_sz M1.1 - s0 = hn_sz M.1 - s0 + (hn_sz M1.1 - hn_sz M.1) by omega, List.map_append] at h4
  exact h4

theorem hn_s_virtual (hX : hn_X p R s m args meth c D base cI cS b sL xs mi d n0 s0 Mend) {pc : Nat} {ls : hn_Ls} {st : List hn_V} {M : hn_Mem} {C : hn_C} (hmono : ∀ t as M r M', C t as M r M' → M.1.length ≤ M'.1.length ∧ hn_sz M.1 ≤ hn_sz M'.1) (hIH : ∀ t as M1 r1 M2, C t as M1 r1 M2 → hn_gen t = true → hn_oM M1 → hn_oS as → (hn_args as).length ≤ hn_ml t → hn_Met l D base cI cS b sL xs d t as M1 r1 M2) {i t : Nat} (hd : decode (hn_c mi) pc = .ok (.invokevirtual i, 3)) (hg : hn_gen t = true) (hk1 : hn_mk t = 1) (hw : lw_tbl[hn_psite (hn_oc mi * 1024 + i)]? = some (.methodLink (hn_cn (hn_oc mi)) i (hn_y t))) (h : hn_ivk C t st M fun st' M' => hn_G p l e R s m args below meth c D base cI cS b mi n0 s0 Q r Mend (hn_nx mi (pc + 3) ls st' M')) : hn_GW p l e R s m args below meth c D base cI cS b mi n0 s0 Q pc ls st M := by
  have ht := hn_genL hg
  unfold hn_ivk at h
  split at h
  · rename_i as o rest hp
    obtain ⟨vs, hv1, hv2, hv3⟩ := hn_popOf _ _ _ _ _ hp
    rw [List.append_nil] at hv3
    subst hv2; subst hv3
    cases hs : hn_small rest with
    | false => rw [hs] at h; exact h.elim
    | true =>
      cases ho : hn_isObj M.1 o (hn_oc t) with
      | false => rw [hs, ho] at h; exact h.elim
      | true =>
        rw [hs, ho] at h
        simp only [Bool.and_true, cond_true, hn_call] at h
        cases hl : Nat.ble (hn_args (.inr (.inr (.inl o)) :: vs.reverse)).length (hn_ml t) with
        | false => rw [hl] at h; exact h.elim
        | true =>
          rw [hl] at h
          obtain ⟨r1, M1, hC, h⟩ := h
          have hle := Nat.le_of_ble_eq_true hl
          obtain ⟨y1, y2, y3, y4, y5, y6, y7, y8, y9⟩ := hn_my t ht
          obtain ⟨CN, T, N, ty, g1, rfl, rfl, -⟩ := hn_cf (hn_oc t) (y9 (by omega))
          have hf := hX.2.2.2.2.2.1
          have hll := hX.2.2.2.2.2.2.1
          intro h1 h2 H locs a hF
          have hsp := hF.2.2.2.2.1
          have hrest : hn_oS rest := fun x hx => hsp x (List.mem_append_right _ (List.mem_cons_of_mem _ hx))
          have has : hn_oS (.inr (.inr (.inl o)) :: vs.reverse) := fun x hx => by
            rcases List.mem_cons.mp hx with q | q
            · cases q
            · exact hsp x (List.mem_append_left _ (List.mem_reverse.mp q))
          have hM := hIH t _ M r1 M1 hC hg hF.2.1 has hle
          refine hn_after hX (t := t) (as := .inr (.inr (.inl o)) :: vs.reverse) (rest := rest) (hmono _ _ _ _ _ hC) h h1 h2 hF hrest fun hroom => ?_
          refine va_runV (C := hn_cn (hn_oc t)) (b := base + o) (As := vs.reverse.map (hn_cv base b)) (n := hn_na t) ⟨hX.1.1, hX.1.2.1, hX.1.2.2.1, hX.1.2.2.2, hX.2.1⟩ hM (cwV (hn_na t) hX.2.1 ?_ rfl rfl rfl ⟨y5, y2, y3, y4⟩ ⟨hf, by show 8 + (hn_ml t + 11) + d * 64 ≤ _; omega⟩) ⟨hn_blind _ _, va_recv (q0 := 0) hX.2.2.2.1 (hn_P1 (hF.1.2 o _ (hn_isObjOf ho))) g1 rfl, hn_pre hX hF (.inr (.inr (.inl o)) :: vs.reverse)⟩ rfl (by simp [hv1]) (by show a.size = _; exact hF.2.2.1.1) ?_ ?_ hd hroom
          · refine hn_goodIn fun w hw' => ?_
            unfold wsV at hw'
            rcases List.mem_append.mp hw' with q | q
            · simp only [List.mem_cons, List.not_mem_nil, or_false] at q
              rcases q with q | q | q | q
              · rw [q]; exact hn_mem hw
              · rw [q]; exact hn_mem ((hn_mst t ht).2 (by omega))
              · rw [q, ← y5]; exact hn_mem (hn_msel t ht hk1)
              · rw [q, ← y5]; exact hn_mem (hn_mini t ht)
            · exact (hn_gw t ht w q).1
          · simp [hn_cv, List.map_reverse]
          · exact lv_room (hn_smallOf hs)
  · exact h.elim
theorem hn_s_special (hX : hn_X p R s m args meth c D base cI cS b sL xs mi d n0 s0 Mend) {pc : Nat} {ls : hn_Ls} {st : List hn_V} {M : hn_Mem} {C : hn_C} (hmono : ∀ t as M r M', C t as M r M' → M.1.length ≤ M'.1.length ∧ hn_sz M.1 ≤ hn_sz M'.1) (hIH : ∀ t as M1 r1 M2, C t as M1 r1 M2 → hn_gen t = true → hn_oM M1 → hn_oS as → (hn_args as).length ≤ hn_ml t → hn_Met l D base cI cS b sL xs d t as M1 r1 M2) {i t : Nat} (hd : decode (hn_c mi) pc = .ok (.invokespecial i, 3)) (hg : hn_gen t = true) (hk1 : hn_mk t = 2) (hw : cond (hn_nest (hn_oc mi * 1024 + i)) (decide (lw_tbl[hn_psite (hn_oc mi * 1024 + i)]? = some (.methodLinkNest (hn_cn (hn_oc mi)) i (hn_y t) "HubNetworks"))) (decide (lw_tbl[hn_psite (hn_oc mi * 1024 + i)]? = some (.methodLink (hn_cn (hn_oc mi)) i (hn_y t)))) = true) (h : hn_ivk C t st M fun st' M' => hn_G p l e R s m args below meth c D base cI cS b mi n0 s0 Q r Mend (hn_nx mi (pc + 3) ls st' M')) : hn_GW p l e R s m args below meth c D base cI cS b mi n0 s0 Q pc ls st M := by
  have ht := hn_genL hg
  unfold hn_ivk at h
  split at h
  · rename_i as o rest hp
    obtain ⟨vs, hv1, hv2, hv3⟩ := hn_popOf _ _ _ _ _ hp
    rw [List.append_nil] at hv3
    subst hv2; subst hv3
    cases hs : hn_small rest with
    | false => rw [hs] at h; exact h.elim
    | true =>
      cases ho : hn_isObj M.1 o (hn_oc t) with
      | false => rw [hs, ho] at h; exact h.elim
      | true =>
        rw [hs, ho] at h
        simp only [Bool.and_true, cond_true, hn_call] at h
        cases hl : Nat.ble (hn_args (.inr (.inr (.inl o)) :: vs.reverse)).length (hn_ml t) with
        | false => rw [hl] at h; exact h.elim
        | true =>
          rw [hl] at h
          obtain ⟨r1, M1, hC, h⟩ := h
          have hle := Nat.le_of_ble_eq_true hl
          obtain ⟨y1, y2, y3, y4, y5, y6, y7, y8, y9⟩ := hn_my t ht
          have hf := hX.2.2.2.2.2.1
          have hll := hX.2.2.2.2.2.2.1
          intro h1 h2 H locs a hF
          have hsp := hF.2.2.2.2.1
          have hrest : hn_oS rest := fun x hx => hsp x (List.mem_append_right _ (List.mem_cons_of_mem _ hx))
          have has : hn_oS (.inr (.inr (.inl o)) :: vs.reverse) := fun x hx => by
            rcases List.mem_cons.mp hx with q | q
            · cases q
            · exact hsp x (List.mem_append_left _ (List.mem_reverse.mp q))
          have hM := hIH t _ M r1 M1 hC hg hF.2.1 has hle
          have hins := hX.2.1 _ (hn_mem ((hn_mst t ht).2 (by omega)))
          have hini := hX.2.1 _ (hn_mem (hn_mini t ht))
          refine hn_after hX (t := t) (as := .inr (.inr (.inl o)) :: vs.reverse) (rest := rest) (hmono _ _ _ _ _ hC) h h1 h2 hF hrest fun hroom => ?_
          have hstk : (F0 m pc a ((vs ++ .inr (.inr (.inl o)) :: rest).map (hn_cv base b))).stack = (vs.reverse.map (hn_cv base b)).reverse ++ .ref (base + o) :: rest.map (hn_cv base b) := by simp [hn_cv, List.map_reverse]
          have hRR : (hn_rm d M M1).frames + 1 ≤ R.frames ∧ 8 + (hn_ml t + 11) + (hn_rm d M M1).locals ≤ R.locals := ⟨hf, by show 8 + (hn_ml t + 11) + d * 64 ≤ _; omega⟩
          cases hn : hn_nest (hn_oc mi * 1024 + i) with
          | false =>
            rw [hn] at hw
            have hw1 := of_decide_eq_true hw
            exact va_runI (b := base + o) (As := vs.reverse.map (hn_cv base b)) (n := hn_na t) ⟨hX.1.1, hX.1.2.1, hX.1.2.2.1, hX.1.2.2.2, hX.2.1⟩ hM (cwI (ws' := hn_T) (bytes := hn_c t) (maxL := hn_ml t) (hn_na t) hX.2.1 (hn_gw t ht) (by unfold hn_ws; rw [y7 hk1]) rfl rfl hini (hX.2.1 _ (hn_mem hw1)) hins (y6 hk1) ⟨y2, y3, y4⟩ hRR) ⟨hn_blind _ _, hn_pre hX hF (.inr (.inr (.inl o)) :: vs.reverse)⟩ rfl (by simp [hv1]) (by show a.size = _; exact hF.2.2.1.1) hstk (lv_room (hn_smallOf hs)) hd hroom
          | true =>
            rw [hn] at hw
            have hw1 := of_decide_eq_true hw
            exact va_runIN (host := "HubNetworks") (b := base + o) (As := vs.reverse.map (hn_cv base b)) (n := hn_na t) ⟨hX.1.1, hX.1.2.1, hX.1.2.2.1, hX.1.2.2.2, hX.2.1⟩ hM ⟨va_cnB (ws' := hn_T) (bytes := hn_c t) (maxL := hn_ml t) (ret := none) (hn_na t) hX.2.1 (hn_gw t ht) (by unfold hn_ws; rw [y7 hk1]) rfl rfl (hX.2.2.1.2.1 _ _ _ _ (List.mem_of_getElem? hw1)) hini ⟨y2, y3, y4⟩ hRR, y6 hk1, hins⟩ ⟨hn_blind _ _, hn_pre hX hF (.inr (.inr (.inl o)) :: vs.reverse)⟩ rfl (by simp [hv1]) (by show a.size = _; exact hF.2.2.1.1) hstk (lv_room (hn_smallOf hs)) hd hroom
  · exact h.elim
theorem hn_s_static (hX : hn_X p R s m args meth c D base cI cS b sL xs mi d n0 s0 Mend) {pc : Nat} {ls : hn_Ls} {st : List hn_V} {M : hn_Mem} {C : hn_C} (hmono : ∀ t as M r M', C t as M r M' → M.1.length ≤ M'.1.length ∧ hn_sz M.1 ≤ hn_sz M'.1) (hIH : ∀ t as M1 r1 M2, C t as M1 r1 M2 → hn_gen t = true → hn_oM M1 → hn_oS as → (hn_args as).length ≤ hn_ml t → hn_Met l D base cI cS b sL xs d t as M1 r1 M2) {i t : Nat} (hd : decode (hn_c mi) pc = .ok (.invokestatic i, 3)) (hg : hn_gen t = true) (hk1 : hn_mk t = 0) (hw : cond (hn_nest (hn_oc mi * 1024 + i)) (decide (lw_tbl[hn_psite (hn_oc mi * 1024 + i)]? = some (.methodLinkNest (hn_cn (hn_oc mi)) i (hn_y t) "HubNetworks"))) (decide (lw_tbl[hn_psite (hn_oc mi * 1024 + i)]? = some (.methodLink (hn_cn (hn_oc mi)) i (hn_y t)))) = true) (h : hn_ivs C t st M fun st' M' => hn_G p l e R s m args below meth c D base cI cS b mi n0 s0 Q r Mend (hn_nx mi (pc + 3) ls st' M')) : hn_GW p l e R s m args below meth c D base cI cS b mi n0 s0 Q pc ls st M := by
  have ht := hn_genL hg
  unfold hn_ivs at h
  split at h
  · rename_i as rest hp
    obtain ⟨vs, hv1, hv2, hv3⟩ := hn_popOf _ _ _ _ _ hp
    rw [List.append_nil] at hv3
    subst hv2; subst hv3
    cases hs : hn_small rest with
    | false => rw [hs] at h; exact h.elim
    | true =>
      rw [hs] at h
      simp only [cond_true, hn_call] at h
      cases hl : Nat.ble (hn_args vs.reverse).length (hn_ml t) with
      | false => rw [hl] at h; exact h.elim
      | true =>
        rw [hl] at h
        obtain ⟨r1, M1, hC, h⟩ := h
        have hle := Nat.le_of_ble_eq_true hl
        obtain ⟨y1, y2, y3, y4, y5, y6, y7, y8, y9⟩ := hn_my t ht
        have hf := hX.2.2.2.2.2.1
        have hll := hX.2.2.2.2.2.2.1
        intro h1 h2 H locs a hF
        have hsp := hF.2.2.2.2.1
        have hrest : hn_oS rest := fun x hx => hsp x (List.mem_append_right _ hx)
        have has : hn_oS vs.reverse := fun x hx => hsp x (List.mem_append_left _ (List.mem_reverse.mp hx))
        have hM := hIH t _ M r1 M1 hC hg hF.2.1 has hle
        have hstt := hX.2.1 _ (hn_mem ((hn_mst t ht).1 hk1))
        have hini := hX.2.1 _ (hn_mem (hn_mini t ht))
        refine hn_after hX (t := t) (as := vs.reverse) (rest := rest) (hmono _ _ _ _ _ hC) h h1 h2 hF hrest fun hroom => ?_
        have hstk : (F0 m pc a ((vs ++ rest).map (hn_cv base b))).stack = (vs.reverse.map (hn_cv base b)).reverse ++ rest.map (hn_cv base b) := by simp [List.map_reverse]
        have hRR : (hn_rm d M M1).frames + 1 ≤ R.frames ∧ 8 + (hn_ml t + 11) + (hn_rm d M M1).locals ≤ R.locals := ⟨hf, by show 8 + (hn_ml t + 11) + d * 64 ≤ _; omega⟩
        cases hn : hn_nest (hn_oc mi * 1024 + i) with
        | false =>
          rw [hn] at hw
          have hw1 := of_decide_eq_true hw
          refine va_runS (As := vs.reverse.map (hn_cv base b)) (n := hn_na t) ⟨hX.1.1, hX.1.2.1, hX.1.2.2.1, hX.1.2.2.2, hX.2.1⟩ hM (va_cwS (Ts := hn_T) (ws' := hn_T) (bytes := hn_c t) (maxL := hn_ml t) (ret := hn_rt t) (hn_na t) hX.2.1 ?_ rfl rfl rfl ⟨y2, y3, y4⟩ hRR) ⟨hn_blind _ _, hn_pre hX hF vs.reverse⟩ rfl (by simp [hv1]) (by show a.size = _; exact hF.2.2.1.1) hstk (lv_room (hn_smallOf hs)) hd hroom
          refine hn_goodIn fun w hw' => ?_
          unfold va_wsS at hw'
          rcases List.mem_append.mp hw' with q | q
          · simp only [List.mem_cons, List.not_mem_nil, or_false] at q
            rcases q with q | q | q
            · rw [q]; exact hn_mem hw1
            · rw [q]; exact hn_mem ((hn_mst t ht).1 hk1)
            · rw [q]; exact hn_mem (hn_mini t ht)
          · exact (hn_gw t ht w q).1
        | true =>
          rw [hn] at hw
          have hw1 := of_decide_eq_true hw
          exact va_runSN (host := "HubNetworks") (As := vs.reverse.map (hn_cv base b)) (n := hn_na t) ⟨hX.1.1, hX.1.2.1, hX.1.2.2.1, hX.1.2.2.2, hX.2.1⟩ hM ⟨va_cnB (ws' := hn_T) (bytes := hn_c t) (maxL := hn_ml t) (ret := hn_rt t) (hn_na t) hX.2.1 (hn_gw t ht) rfl rfl rfl (hX.2.2.1.2.1 _ _ _ _ (List.mem_of_getElem? hw1)) hini ⟨y2, y3, y4⟩ hRR, hstt, trivial⟩ ⟨hn_blind _ _, hn_pre hX hF vs.reverse⟩ rfl (by simp [hv1]) (by show a.size = _; exact hF.2.2.1.1) hstk (lv_room (hn_smallOf hs)) hd hroom
  · exact h.elim

end HNC
