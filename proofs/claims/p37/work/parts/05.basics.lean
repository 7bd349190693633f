/-! what ties the shadow to the machine: numbers, locals, cells -/
/-- the tables' words that hold in every later state; three kinds don't go by themselves: links within a nest, arrays over a class, 'private' -/
def hn_T : List Jvm.Cond := lw_tbl.filter goodWord
theorem hn_mem {i : Nat} {w : Jvm.Cond} (h : lw_tbl[i]? = some w) (hg : goodWord w = true := by rfl) : w ∈ hn_T := List.mem_filter.mpr ⟨List.mem_of_getElem? h, hg⟩
theorem hn_goodIn {ws : List Jvm.Cond} (h : ∀ w ∈ ws, w ∈ hn_T) : GoodIn hn_T ws := fun w hw => ⟨h w hw, good_of_word (List.mem_filter.mp (h w hw)).2⟩
def hn_N (U : State) : Prop := (∀ (a : String) (i : Nat) (x : MethodName) (h : String), Jvm.Cond.methodLinkNest a i x h ∈ lw_tbl → va_Nw (.methodLinkNest a i x h) U) ∧ va_AO RX4 U
theorem hn_N.warm {s U : State} (hW : s.WarmedH U.vm) (h : hn_N s) : hn_N U := ⟨fun a i x k hm => va_Nw.warmM hW (h.1 a i x k hm), va_AO.moved hW.alike h.2⟩
theorem hn_N.same {s U : State} (hW : s.vm = U.vm) (h : hn_N s) : hn_N U := ⟨fun a i x k hm => va_Nw.same rfl hW (h.1 a i x k hm), va_AO.moved (hW ▸ Vm.Alike.refl s.vm) h.2⟩
theorem hn_r1 {x : Int} (h : hn_R x) : (Int32.ofInt x).toInt = x := Int32.toInt_ofInt_of_le (by omega) (by omega)
theorem hn_r2 (x : Int32) : hn_R x.toInt := by
  have h1 := Int32.le_toInt x
  have h2 := Int32.toInt_lt x
  constructor <;> omega
theorem hn_r3 {x : Int} (h : hn_R x) : (Int32.ofInt x).toNatClampNeg = x.toNat := by
  show (Int32.ofInt x).toInt.toNat = _
  rw [hn_r1 h]
theorem hn_lt {x y : Int} (hx : hn_R x) (hy : hn_R y) : Int32.ofInt x < Int32.ofInt y ↔ x < y := by rw [Int32.lt_iff_toInt_lt, hn_r1 hx, hn_r1 hy]
theorem hn_le {x y : Int} (hx : hn_R x) (hy : hn_R y) : Int32.ofInt x ≤ Int32.ofInt y ↔ x ≤ y := by rw [Int32.le_iff_toInt_le, hn_r1 hx, hn_r1 hy]
theorem hn_eq {x y : Int} (hx : hn_R x) (hy : hn_R y) : Int32.ofInt x = Int32.ofInt y ↔ x = y := by rw [← Int32.toInt_inj, hn_r1 hx, hn_r1 hy]
theorem hn_i0 : Int32.ofInt 0 = 0 := rfl
theorem hn_R0 : hn_R 0 := by constructor <;> omega
theorem hn_lt0 {x : Int} (hx : hn_R x) : Int32.ofInt x < 0 ↔ x < 0 := hn_lt hx hn_R0
theorem hn_eq0 {x : Int} (hx : hn_R x) : Int32.ofInt x = 0 ↔ x = 0 := hn_eq hx hn_R0
theorem hn_in {i : Int} {n : Nat} (h : hn_R i) (h2 : 0 ≤ i ∧ i < n) : vp_in (Int32.ofInt i) n := by
  unfold vp_in
  rw [hn_lt0 h, hn_r3 h]
  omega
theorem hn_long {x : Int} (h : hn_R x) : (Int32.ofInt x).toInt64 = Int64.ofInt x := by
  rw [← Int64.ofInt_int32ToInt, hn_r1 h]
theorem hn_ofNat (n : Nat) : Int32.ofInt (n : Int) = Int32.ofNat n := Int32.ofInt_eq_ofNat
def hn_cv (base b : Nat) : hn_V → Value
  | .inl x => .int (Int32.ofInt x)
  | .inr (.inl x) => .long x
  | .inr (.inr (.inl k)) => .ref (base + k)
  | .inr (.inr (.inr _)) => .ref b
theorem hn_cvc (base b : Nat) (v : hn_V) : (hn_cv base b v).category = 2 ↔ ∃ x, v = .inr (.inl x) := by
  rcases v with x | x | x | x <;> simp [hn_cv, Value.category]
theorem hn_cv1 {base b : Nat} {v : hn_V} (h : hn_cat1 v = true) : (hn_cv base b v).category = 1 := by
  rcases v with x | x | x | x <;> first | rfl | (simp [hn_cat1] at h)
theorem hn_smallOf {base b : Nat} {st : List hn_V} (h : hn_small st = true) : ((st.map (hn_cv base b)).map fun v => v.category).sum ≤ 8 := by
  have hc : ∀ v : hn_V, (hn_cv base b v).category ≤ 2 := fun v => by rcases v with x | x | x | x <;> simp [hn_cv, Value.category]
  match st, h with
  | [], _ => simp
  | [v1], _ => have := hc v1; simp; omega
  | [v1, v2], _ => have := hc v1; have := hc v2; simp; omega
  | [v1, v2, v3], _ => have := hc v1; have := hc v2; have := hc v3; simp; omega
  | [v1, v2, v3, v4], _ => have := hc v1; have := hc v2; have := hc v3; have := hc v4; simp; omega
/-! locals -/
def hn_lv (base b nL : Nat) (ls : hn_Ls) (a : Array Slot) : Prop := a.size = nL ∧ lv_wf a ∧ ls.length = nL ∧ ∀ (i : Nat) (v : hn_V), ls[i]? = some (some v) → a[i]? = some (.val (hn_cv base b v))
def hn_all (base b : Nat) (ls : hn_Ls) : List (Nat × Value) := (List.range ls.length).filterMap fun i => match ls[i]? with
  | some (some v) => some (i, hn_cv base b v)
  | _ => none
theorem hn_allOf {base b : Nat} {ls : hn_Ls} {i : Nat} {v : hn_V} (h : ls[i]? = some (some v)) : (i, hn_cv base b v) ∈ hn_all base b ls := by
  refine List.mem_filterMap.mpr ⟨i, List.mem_range.mpr (List.getElem?_eq_some_iff.mp h).1, ?_⟩
  simp only [h]
theorem hn_lvHas {base b nL : Nat} {ls : hn_Ls} {a : Array Slot} (h : hn_lv base b nL ls a) : lv_has a nL (hn_all base b ls) := by
  refine ⟨h.1, h.2.1, fun q hq => ?_⟩
  obtain ⟨i, -, hi⟩ := List.mem_filterMap.mp hq
  split at hi
  · rename_i v e
    cases hi
    exact h.2.2.2 i v e
  · cases hi
theorem hn_unl_len (ls : hn_Ls) (i : Nat) : (hn_unl ls i).length = ls.length := by
  cases i with
  | zero => rfl
  | succ j =>
    simp only [hn_unl]
    split <;> simp
theorem hn_unl_get {ls : hn_Ls} {i j : Nat} {w : hn_V} (h : (hn_unl ls i)[j]? = some (some w)) : ls[j]? = some (some w) ∧ ¬ (j + 1 = i ∧ ∃ x, w = .inr (.inl x)) := by
  cases i with
  | zero => exact ⟨h, fun q => by omega⟩
  | succ k =>
    simp only [hn_unl] at h
    split at h
    · rename_i y e
      by_cases hj : j = k
      · subst hj
        rw [List.getElem?_set_self (List.getElem?_eq_some_iff.mp e).1] at h
        simp at h
      · rw [List.getElem?_set_ne (Ne.symm hj)] at h
        exact ⟨h, fun q => hj (by omega)⟩
    · rename_i hne
      refine ⟨h, fun q => ?_⟩
      obtain ⟨q1, x, rfl⟩ := q
      have e : j = k := by omega
      subst e
      exact hne x h
theorem hn_set_get {ls : hn_Ls} {i j : Nat} {v w : hn_V} (h : (hn_set ls i v)[j]? = some (some w)) : (j = i ∧ w = v) ∨ (j ≠ i ∧ ls[j]? = some (some w) ∧ ¬ (j + 1 = i ∧ ∃ x, w = .inr (.inl x))) := by
  unfold hn_set at h
  by_cases hj : j = i
  · subst hj
    have hl := (List.getElem?_eq_some_iff.mp h).1
    rw [List.length_set] at hl
    rw [List.getElem?_set_self hl] at h
    exact Or.inl ⟨rfl, by simpa using h.symm⟩
  · rw [List.getElem?_set_ne (Ne.symm hj)] at h
    exact Or.inr ⟨hj, hn_unl_get h⟩
theorem hn_set_len (ls : hn_Ls) (i : Nat) (v : hn_V) : (hn_set ls i v).length = ls.length := by simp [hn_set, hn_unl_len]
theorem hn_lvSet {base b nL : Nat} {ls : hn_Ls} {a a' : Array Slot} {i : Nat} {v : hn_V} (h : hn_lv base b nL ls a) (h' : lv_has a' nL ((i, hn_cv base b v) :: (hn_all base b ls).filter (fun q => !(q.1 == i) && !(q.1 + 1 == i && q.2.category == 2)))) : hn_lv base b nL (hn_set ls i v) a' := by
  refine ⟨h'.1, h'.2.1, by rw [hn_set_len]; exact h.2.2.1, fun j w hw => ?_⟩
  refine h'.2.2 (j, hn_cv base b w) ?_
  rcases hn_set_get hw with ⟨rfl, rfl⟩ | ⟨h1, h2, h3⟩
  · exact List.mem_cons_self
  · refine List.mem_cons_of_mem _ (List.mem_filter.mpr ⟨hn_allOf h2, ?_⟩)
    have e1 : (j == i) = false := by simpa using h1
    by_cases h4 : j + 1 = i
    · have e2 : ((hn_cv base b w).category == 2) = false := by
        have : ¬ (hn_cv base b w).category = 2 := fun q => h3 ⟨h4, (hn_cvc base b w).mp q⟩
        simpa using this
      simp [e1, e2]
    · simp [e1, h4]
theorem hn_set2_get {ls : hn_Ls} {i j : Nat} {v w : hn_V} (h : (hn_set2 ls i v)[j]? = some (some w)) : (j = i ∧ w = v) ∨ (j ≠ i ∧ j ≠ i + 1 ∧ ls[j]? = some (some w) ∧ ¬ (j + 1 = i ∧ ∃ x, w = .inr (.inl x))) := by
  unfold hn_set2 at h
  by_cases hj2 : j = i + 1
  · subst hj2
    have hl := (List.getElem?_eq_some_iff.mp h).1
    rw [List.length_set] at hl
    rw [List.getElem?_set_self hl] at h
    simp at h
  · rw [List.getElem?_set_ne (Ne.symm hj2)] at h
    rcases hn_set_get (ls := ls) (i := i) (v := v) h with h1 | ⟨h1, h2, h3⟩
    · exact Or.inl h1
    · exact Or.inr ⟨h1, hj2, h2, h3⟩
theorem hn_lvSet2 {base b nL : Nat} {ls : hn_Ls} {a a' : Array Slot} {i : Nat} {v : hn_V} (h : hn_lv base b nL ls a) (h' : lv_has a' nL ((i, hn_cv base b v) :: (hn_all base b ls).filter (fun q => !(q.1 == i) && (!(q.1 == i + 1) && !(q.1 + 1 == i && q.2.category == 2))))) : hn_lv base b nL (hn_set2 ls i v) a' := by
  refine ⟨h'.1, h'.2.1, by simp [hn_set2, hn_unl_len]; exact h.2.2.1, fun j w hw => ?_⟩
  refine h'.2.2 (j, hn_cv base b w) ?_
  rcases hn_set2_get hw with ⟨rfl, rfl⟩ | ⟨h1, h1', h2, h3⟩
  · exact List.mem_cons_self
  · refine List.mem_cons_of_mem _ (List.mem_filter.mpr ⟨hn_allOf h2, ?_⟩)
    have e1 : (j == i) = false := by simpa using h1
    have e1' : (j == i + 1) = false := by simpa using h1'
    by_cases h4 : j + 1 = i
    · have e2 : ((hn_cv base b w).category == 2) = false := by
        have : ¬ (hn_cv base b w).category = 2 := fun q => h3 ⟨h4, (hn_cvc base b w).mp q⟩
        simpa using this
      simp [e1, e1', e2]
    · simp [e1, e1', h4]
theorem hn_args_mem (base b : Nat) : ∀ (as : List hn_V) (k i : Nat) (v : hn_V), (hn_args as)[i]? = some (some v) → (k + i, hn_cv base b v) ∈ lv_args k (as.map (hn_cv base b))
  | [], k, i, v, h => by simp [hn_args] at h
  | .inl x :: r, k, 0, v, h => by
    simp [hn_args] at h
    subst h
    exact List.mem_cons_self
  | .inl x :: r, k, i + 1, v, h => by
    have := hn_args_mem base b r (k + 1) i v (by simpa [hn_args] using h)
    rw [show k + 1 + i = k + (i + 1) by omega] at this
    exact List.mem_cons_of_mem _ (by simpa [hn_cv, Value.category] using this)
  | .inr (.inr x) :: r, k, 0, v, h => by
    simp [hn_args] at h
    subst h
    exact List.mem_cons_self
  | .inr (.inr x) :: r, k, i + 1, v, h => by
    have := hn_args_mem base b r (k + 1) i v (by simpa [hn_args] using h)
    rw [show k + 1 + i = k + (i + 1) by omega] at this
    rcases x with x | x
    · exact List.mem_cons_of_mem _ (by simpa [hn_cv, Value.category] using this)
    · exact List.mem_cons_of_mem _ (by simpa [hn_cv, Value.category] using this)
  | .inr (.inl x) :: r, k, 0, v, h => by
    simp [hn_args] at h
    subst h
    exact List.mem_cons_self
  | .inr (.inl x) :: r, k, 1, v, h => by simp [hn_args] at h
  | .inr (.inl x) :: r, k, i + 2, v, h => by
    have := hn_args_mem base b r (k + 2) i v (by simpa [hn_args] using h)
    rw [show k + 2 + i = k + (i + 2) by omega] at this
    exact List.mem_cons_of_mem _ (by simpa [hn_cv, Value.category] using this)
theorem hn_args_len (base b : Nat) : ∀ as : List hn_V, (lg_sl (as.map (hn_cv base b))).length = (hn_args as).length
  | [] => rfl
  | .inl x :: r => by
    have := hn_args_len base b r
    simp [hn_args, lg_sl, hn_cv, Value.category] at this ⊢
    omega
  | .inr (.inl x) :: r => by
    have := hn_args_len base b r
    simp [hn_args, lg_sl, hn_cv, Value.category] at this ⊢
    omega
  | .inr (.inr (.inl x)) :: r => by
    have := hn_args_len base b r
    simp [hn_args, lg_sl, hn_cv, Value.category] at this ⊢
    omega
  | .inr (.inr (.inr x)) :: r => by
    have := hn_args_len base b r
    simp [hn_args, lg_sl, hn_cv, Value.category] at this ⊢
    omega
theorem hn_loc0_get {n : Nat} {as : List hn_V} {i : Nat} {v : hn_V} (h : (hn_loc0 n as)[i]? = some (some v)) : (hn_args as)[i]? = some (some v) := by
  unfold hn_loc0 at h
  by_cases hi : i < (hn_args as).length
  · rwa [List.getElem?_append_left hi] at h
  · rw [List.getElem?_append_right (by omega)] at h
    have h2 := List.mem_of_getElem? h
    simp at h2
theorem hn_lvEntry (base b : Nat) {n : Nat} {as : List hn_V} (hn : (hn_args as).length ≤ n) : hn_lv base b n (hn_loc0 n as) ((lg_sl (as.map (hn_cv base b)) ++ List.replicate (n - (lg_sl (as.map (hn_cv base b))).length) Slot.unset).toArray) := by
  have h := lv_entry (as.map (hn_cv base b)) (n := n) (by rw [hn_args_len]; exact hn)
  refine ⟨h.1, h.2.1, by simp [hn_loc0]; omega, fun i v hv => ?_⟩
  have := h.2.2 _ (hn_args_mem base b as 0 i v (hn_loc0_get hv))
  simpa using this
theorem hn_args_in : ∀ (as : List hn_V) (i : Nat) (v : hn_V), (hn_args as)[i]? = some (some v) → v ∈ as := by
  intro as
  induction as with
  | nil => intro i v h; simp [hn_args] at h
  | cons w r ih =>
    intro i v h
    rcases w with x | x | x
    · cases i with
      | zero => simp [hn_args] at h; subst h; exact List.mem_cons_self
      | succ i => exact List.mem_cons_of_mem _ (ih i v (by simpa [hn_args] using h))
    · match i, h with
      | 0, h => simp [hn_args] at h; subst h; exact List.mem_cons_self
      | 1, h => simp [hn_args] at h
      | i + 2, h => exact List.mem_cons_of_mem _ (ih i v (by simpa [hn_args] using h))
    · cases i with
      | zero => simp [hn_args] at h; subst h; exact List.mem_cons_self
      | succ i => exact List.mem_cons_of_mem _ (ih i v (by simpa [hn_args] using h))
/-! memory -/
def hn_ssz : hn_Sh → Nat
  | .inl c => hn_nf c
  | .inr (.inl n) => n
  | .inr (.inr n) => n
def hn_sz (sh : List hn_Sh) : Nat := (sh.map hn_ssz).sum
theorem hn_sz_push (sh : List hn_Sh) (s : hn_Sh) : hn_sz (sh ++ [s]) = hn_sz sh + hn_ssz s := by simp [hn_sz]
def hn_fv (base : Nat) (M : hn_Mem) (o c k : Nat) : Value := match hn_fk c k with
  | 0 => .int (Int32.ofInt (M.2.1 o k))
  | 1 => .int (Int32.ofInt (M.2.1 o k))
  | 2 => .long (M.2.2.2 o k)
  | _ => va_rf ((M.2.2.1 o k).map (fun r => base + r))
def hn_ce (base : Nat) (cI cS : ClassId) (M : hn_Mem) (o : Nat) : hn_Sh → va_E
  | .inl c => .inr (c, (List.range (hn_nf c)).map (hn_fv base M o c))
  | .inr (.inl n) => .inl (cI, n, .inl (fun j => Int32.ofInt (M.2.1 o j)))
  | .inr (.inr n) => .inl (cS, n, .inr (.inr (.inr (.inr (fun j => (M.2.2.1 o j).map (fun r => base + r))))))
def hn_Wd (D : va_G) (base : Nat) (cI cS : ClassId) (M : hn_Mem) (H : Heap) : Prop := H.size = base + M.1.length ∧ ∀ (o : Nat) (sh : hn_Sh), M.1[o]? = some sh → va_at D hn_cl (base + o, hn_ce base cI cS M o sh) H
theorem hn_P1 {D : va_G} {cl : List vw_C} {q : Nat × va_E} {H : Heap} (h : va_at D cl q H) : va_P D cl [q] H := fun k x hx => by
  have hk : k < 1 := (List.getElem?_eq_some_iff.mp hx).1
  rw [show k = 0 by omega] at hx
  cases hx
  exact h
theorem hn_Wd.put {D : va_G} {base : Nat} {cI cS : ClassId} {M M' : hn_Mem} {H H1 : Heap} {o : Nat} {sh : hn_Sh} (h : hn_Wd D base cI cS M H) (ho : M.1[o]? = some sh) (h1 : M'.1 = M.1) (z : H1.size = H.size) (oq : ∀ q : Nat, q ≠ base + o → H1[q]? = H[q]?) (hat : va_at D hn_cl (base + o, hn_ce base cI cS M' o sh) H1) (hne : ∀ (o' : Nat) (sh' : hn_Sh), o' ≠ o → hn_ce base cI cS M' o' sh' = hn_ce base cI cS M o' sh') : hn_Wd D base cI cS M' H1 := by
  refine ⟨by rw [z, h1]; exact h.1, fun o' sh' h' => ?_⟩
  rw [h1] at h'
  by_cases e : o' = o
  · subst e
    cases ho.symm.trans h'
    exact hat
  · rw [hne o' sh' e]
    exact (h.2 o' sh' h').kept (oq _ (fun q => e (by dsimp only at q; omega)))
theorem hn_Wd.push {D : va_G} {base : Nat} {cI cS : ClassId} {M : hn_Mem} {H H1 : Heap} {sh : hn_Sh} (h : hn_Wd D base cI cS M H) (z : H1.size = H.size + 1) (oq : ∀ q : Nat, q < H.size → H1[q]? = H[q]?) (hat : va_at D hn_cl (base + M.1.length, hn_ce base cI cS (hn_new M sh) M.1.length sh) H1) : hn_Wd D base cI cS (hn_new M sh) H1 := by
  refine ⟨by rw [z, h.1]; simp [hn_new]; omega, fun o' sh' h' => ?_⟩
  have hl := (List.getElem?_eq_some_iff.mp h').1
  simp only [hn_new, List.length_append, List.length_singleton] at hl
  by_cases e : o' = M.1.length
  · subst e
    have : sh' = sh := by simpa [hn_new] using h'.symm
    subst this
    exact hat
  · have hlt : o' < M.1.length := by omega
    have h2 : M.1[o']? = some sh' := by
      have : (M.1 ++ [sh])[o']? = some sh' := h'
      rwa [List.getElem?_append_left hlt] at this
    have hce : hn_ce base cI cS (hn_new M sh) o' sh' = hn_ce base cI cS M o' sh' := by
      have hb : Nat.beq o' M.1.length = false := by
        cases hq : Nat.beq o' M.1.length with
        | false => rfl
        | true => exact absurd (Nat.eq_of_beq_eq_true hq) e
      rcases sh' with c | n | n <;> simp [hn_ce, hn_new, hn_zr, hn_fv, hb]
    rw [hce]
    refine (h.2 o' sh' h2).kept (oq _ ?_)
    show base + o' < H.size
    rw [h.1]
    omega
