/-! rows of the machine over the shadow's memory -/
def hn_isRef : FieldType → Bool
  | .object _ => true
  | .array _ => true
  | _ => false
def hn_tyok (ty : Nat → FieldType) (k j : Nat) : Prop := (hn_fk k j = 0 → ty j = .int) ∧ (hn_fk k j = 1 → ty j = .boolean) ∧ (hn_fk k j = 2 → ty j = .long) ∧ (hn_fk k j = 3 → hn_isRef (ty j) = true) ∧ hn_fk k j ≤ 3
def hn_cfP (k : Nat) (C : String) (T : u_T) (N : Nat) (ty : Nat → FieldType) : Prop := hn_cl[k]? = some (C, T, N) ∧ C = hn_cn k ∧ N = hn_nf k ∧ (∀ w ∈ u_ws C T N, w ∈ hn_T) ∧ (∀ j, j < N → parseFieldDescriptor (T j).2.2.1 = some (ty j)) ∧ (∀ a, a < N → ∀ b, b < N → a ≠ b → (T a).2.1 ≠ (T b).2.1) ∧ (∀ j, hn_fT k j = T j) ∧ (∀ j, hn_fin k j = (T j).2.2.2) ∧ (∀ j, j < N → (T j).1 = C) ∧ (∀ j, j < N → hn_tyok ty k j) ∧ Jvm.Cond.instantiable C N ∈ hn_T ∧ Jvm.Cond.initialized C ∈ hn_T
theorem hn_cf0 : hn_cfP 0 RX0 TX0 (hn_nf 0) tyX0 := ⟨rfl, rfl, rfl, by decide +kernel, tyX0_ok, nmX0, fun _ => rfl, fun _ => rfl, by decide +kernel, by unfold hn_tyok; decide +kernel, by decide +kernel, by decide +kernel⟩
theorem hn_cf1 : hn_cfP 1 RX1 TX1 (hn_nf 1) tyX1 := ⟨rfl, rfl, rfl, by decide +kernel, tyX1_ok, nmX1, fun _ => rfl, fun _ => rfl, by decide +kernel, by unfold hn_tyok; decide +kernel, by decide +kernel, by decide +kernel⟩
theorem hn_cf2 : hn_cfP 2 RX2 TX2 (hn_nf 2) tyX2 := ⟨rfl, rfl, rfl, by decide +kernel, tyX2_ok, nmX2, fun _ => rfl, fun _ => rfl, by decide +kernel, by unfold hn_tyok; decide +kernel, by decide +kernel, by decide +kernel⟩
theorem hn_cf3 : hn_cfP 3 RX3 TX3 (hn_nf 3) tyX3 := ⟨rfl, rfl, rfl, by decide +kernel, tyX3_ok, nmX3, fun _ => rfl, fun _ => rfl, by decide +kernel, by unfold hn_tyok; decide +kernel, by decide +kernel, by decide +kernel⟩
theorem hn_cf4 : hn_cfP 4 RX4 TX4 (hn_nf 4) tyX4 := ⟨rfl, rfl, rfl, by decide +kernel, tyX4_ok, nmX4, fun _ => rfl, fun _ => rfl, by decide +kernel, by unfold hn_tyok; decide +kernel, by decide +kernel, by decide +kernel⟩
theorem hn_cf5 : hn_cfP 5 RX5 TX5 (hn_nf 5) tyX5 := ⟨rfl, rfl, rfl, by decide +kernel, tyX5_ok, nmX5, fun _ => rfl, fun _ => rfl, by decide +kernel, by unfold hn_tyok; decide +kernel, by decide +kernel, by decide +kernel⟩
theorem hn_cf6 : hn_cfP 6 RX6 TX6 (hn_nf 6) tyX6 := ⟨rfl, rfl, rfl, by decide +kernel, tyX6_ok, nmX6, fun _ => rfl, fun _ => rfl, by decide +kernel, by unfold hn_tyok; decide +kernel, by decide +kernel, by decide +kernel⟩
theorem hn_cf7 : hn_cfP 7 RX6 TX6 (hn_nf 7) tyX6 := ⟨rfl, rfl, rfl, by decide +kernel, tyX6_ok, nmX6, fun _ => rfl, fun _ => rfl, by decide +kernel, by unfold hn_tyok; decide +kernel, by decide +kernel, by decide +kernel⟩
theorem hn_cf : ∀ k, k < 8 → ∃ (C : String) (T : u_T) (N : Nat) (ty : Nat → FieldType), hn_cfP k C T N ty := by
  intro k hk
  match k, hk with
  | 0, _ => exact ⟨_, _, _, _, hn_cf0⟩
  | 1, _ => exact ⟨_, _, _, _, hn_cf1⟩
  | 2, _ => exact ⟨_, _, _, _, hn_cf2⟩
  | 3, _ => exact ⟨_, _, _, _, hn_cf3⟩
  | 4, _ => exact ⟨_, _, _, _, hn_cf4⟩
  | 5, _ => exact ⟨_, _, _, _, hn_cf5⟩
  | 6, _ => exact ⟨_, _, _, _, hn_cf6⟩
  | 7, _ => exact ⟨_, _, _, _, hn_cf7⟩
  | n + 8, h => exact absurd h (by omega)
theorem hn_vpV {n j : Nat} (f : Nat → Value) (hj : j < n) : vp_V ((List.range n).map f) j = f j := by
  simp [vp_V, List.getD_eq_getElem?_getD, List.getElem?_map, List.getElem?_range hj]
theorem hn_beqF {a b : Nat} (h : a ≠ b) : Nat.beq a b = false := by
  cases hq : Nat.beq a b with
  | false => rfl
  | true => exact absurd (Nat.eq_of_beq_eq_true hq) h
theorem hn_beqT (a : Nat) : Nat.beq a a = true := Nat.beq_refl a
theorem hn_up_ne {α : Type} {f : Nat → Nat → α} {c j c' j' : Nat} {v : α} (h : c' ≠ c ∨ j' ≠ j) : hn_up f c j v c' j' = f c' j' := by
  unfold hn_up
  rcases h with h | h
  · rw [hn_beqF h]; rfl
  · rw [hn_beqF h]; cases Nat.beq c' c <;> rfl
theorem hn_up_eq {α : Type} {f : Nat → Nat → α} {c j : Nat} {v : α} : hn_up f c j v c j = v := by
  unfold hn_up
  rw [hn_beqT, hn_beqT]; rfl
abbrev hn_A (base : Nat) : Nat → Prop := fun q => base ≤ q
abbrev hn_tys (cI cS : ClassId) : List (ClassId × FieldType) := [(cI, .int), (cS, .object RX4)]
theorem hn_pac : Jvm.Cond.arrayClass .int ∈ hn_T := by decide +kernel
section HNR
variable {p : Program} {l : Launch} {e : Env} {R : Room} {s : State} {m : MethodId} {args : Array Value} {below : List Frame} {meth : Method} {c : Code} {H : Heap} {locs : List Loc} {cells slots : Nat} {Q : State → Prop}
variable {cc : ByteArray} {pc : Nat} {ls : Array Slot} {rest : List Value} {D : va_G} {base : Nat} {cI cS : ClassId} {M : hn_Mem} {own : String}
theorem hn_wget (hexec : p.tables.exec = Jvm.exec) (hb : c.code = cc) (hts : ∀ w ∈ hn_T, w.before args s = true) (hown : s.vm.findClass own = some m.cls) (hK : va_K D hn_cl (hn_tys cI cS) s) (hW : hn_Wd D base cI cS M H) {o k j i : Nat} (hk : k < 8) (hj : j < hn_nf k) (ho : M.1[o]? = some (.inl k)) (hw : Jvm.Cond.fieldLink own i (hn_cn k) (hn_fT k j).2.1 (hn_fT k j).2.2.1 ∈ hn_T) (hdg : decode cc pc = .ok (.getfield i, 3))
    (kk : W p l e R s m args below meth c H locs cells slots Q (F0 m (pc + 3) ls (hn_fv base M o k j :: rest))) : W p l e R s m args below meth c H locs cells slots Q (F0 m pc ls (.ref (base + o) :: rest)) := by
  obtain ⟨C, T, N, ty, h1, rfl, rfl, h4, h5, h6, h7, h8, h9, h10, -⟩ := hn_cf k hk
  refine va_get (ref := hn_cn k) (ci := k) (ws := [(base + o, .inr (k, (List.range (hn_nf k)).map (hn_fv base M o k)))]) (v := hn_fv base M o k j) hexec hb hts h4 hown hK (hn_P1 (hW.2 o _ ho)) 0 rfl h1 j hj (by rw [← h7]; exact hts _ hw) (fun x hx => by rw [h9 j hj] at hx; exact hx) ?_ hdg kk
  rw [List.getElem?_map, List.getElem?_range hj]
  rfl
theorem hn_wput (hexec : p.tables.exec = Jvm.exec) (hb : c.code = cc) (hts : ∀ w ∈ hn_T, w.before args s = true) (hown : s.vm.findClass own = some m.cls) (hK : va_K D hn_cl (hn_tys cI cS) s) (hW : hn_Wd D base cI cS M H) (hS : va_S (hn_A base) s.heap H locs) {o k j i : Nat} (hk : k < 8) (hj : j < hn_nf k) (ho : M.1[o]? = some (.inl k)) (hw : Jvm.Cond.fieldLink own i (hn_cn k) (hn_fT k j).2.1 (hn_fT k j).2.2.1 ∈ hn_T)
    (hfin : hn_fin k j = false ∨ (meth.name = "<init>" ∧ hn_cn k = own)) {v : Value} {M' : hn_Mem} (hv : ∀ t : FieldType, (hn_fk k j = 0 → t = .int) → (hn_fk k j = 1 → t = .boolean) → (hn_fk k j = 2 → t = .long) → (hn_fk k j = 3 → hn_isRef t = true) → narrow t v = v ∧ fits t v = true)
    (h1 : M'.1 = M.1) (hfv : ∀ j', hn_fv base M' o k j' = if j' = j then v else hn_fv base M o k j') (hne : ∀ (o' : Nat) (sh' : hn_Sh), o' ≠ o → hn_ce base cI cS M' o' sh' = hn_ce base cI cS M o' sh')
    (hdg : decode cc pc = .ok (.putfield i, 3)) (kk : ∀ (H1 : Heap) (locs1 : List Loc), hn_Wd D base cI cS M' H1 → va_S (hn_A base) s.heap H1 locs1 → W p l e R s m args below meth c H1 locs1 cells slots Q (F0 m (pc + 3) ls rest)) : W p l e R s m args below meth c H locs cells slots Q (F0 m pc ls (v :: .ref (base + o) :: rest)) := by
  obtain ⟨C, T, N, ty, g1, rfl, rfl, g4, g5, g6, g7, g8, g9, g10, -⟩ := hn_cf k hk
  have hap := va_apart (own := own) hts g4 ty g5 g6 hK g1
  have hat := hW.2 o _ ho
  obtain ⟨r, r1, cell, q1, q2, q3, q4⟩ := id hat
  have hr : r = (hn_cn k, T, hn_nf k) := Option.some.inj (r1.symm.trans g1)
  subst hr
  obtain ⟨hSl, hfc, kC, hkC, hkind⟩ := hK.1 k _ g1
  obtain ⟨cf, kf, fi, f, hi, hsl⟩ := hSl j hj
  have hlink := hts _ hw
  rw [g7] at hlink
  have hsame : s.fieldFound? (hn_cn k) (T j).2.1 (T j).2.2.1 = some (cf, kf, fi, f) := by rw [g9 j hj] at hi; exact hi
  have hst := (u_facts hfc hkC (u_lays hts g4 hj) hi).1
  obtain ⟨t1, t2, t3, t4, -⟩ := g10 j hj
  obtain ⟨n1, n2⟩ := hv (ty j) t1 t2 t3 t4
  have hlay := hts _ (g4 _ (u_in_lay hj))
  have fin : ∀ (H' : Heap), H'[base + o]? = some (cell.setSlot (D.2 k j) v) → H'.size = H.size → (∀ q, q ≠ base + o → H'[q]? = H[q]?) → hn_Wd D base cI cS M' H' := by
    intro H' e1 e2 e3
    refine hW.put ho h1 e2 e3 ⟨_, g1, t_OB.to (V := updV (vp_V ((List.range (hn_nf k)).map (hn_fv base M o k))) j v) ⟨_, e1, q2, q3, t_set q4 hap hj v⟩ (fun j' hj' => ?_)⟩ hne
    rw [hn_vpV _ hj', hfv]
    by_cases e : j' = j
    · simp [updV, e]
    · simp [updV, e, hn_vpV _ hj']
  have hslot : f.slot < cell.slots.size := by rw [hsl]; exact k2_hasslot (q4 j hj)
  unfold u_lay at hlay
  rw [← g8] at hlay
  rcases hfin with hf | ⟨hin, hown2⟩
  · rw [if_neg (by rw [hf]; decide)] at hlay
    have h6 := u_store hfc hkC hkind hlay hi (g5 j hj) n1 n2
    refine W.putK hexec hb (f := f) ⟨hown, hlink, ⟨_, _, _, hsame⟩, hst⟩ (by rw [q2]; exact h6) q1 q3 hslot rfl rfl hdg fun H' e1 e2 e3 => ?_
    rw [hsl] at e1 ⊢
    exact kk H' _ (fin H' e1 e2 e3) (hS.put e2 e3 (Nat.le_add_right base o))
  · by_cases hf : hn_fin k j = true
    · rw [if_pos hf] at hlay
      have hcf : m.cls = cf := by
        obtain ⟨_, _, c', _, _, _, -, -, hf', -, -, -, hown3, -⟩ := Cond.laysFinal_spec hlay
        have e1 : c' = cf := by have := hi.symm.trans hf'; simp at this; exact this.1.symm
        rw [g9 j hj, hown2] at hown3
        rw [← e1]; exact Option.some.inj (hown.symm.trans hown3)
      have h6 := u_fits hfc hkC hkind (Or.inr hlay) hi (g5 j hj) n1 n2
      refine W.putFinK hexec hb hown hlink hsame hst hcf hin (by rw [q2]; exact h6) q1 q3 hslot rfl rfl hdg fun H' e1 e2 e3 => ?_
      rw [hsl] at e1 ⊢
      exact kk H' _ (fin H' e1 e2 e3) (hS.put e2 e3 (Nat.le_add_right base o))
    · rw [if_neg hf] at hlay
      have h6 := u_store hfc hkC hkind hlay hi (g5 j hj) n1 n2
      refine W.putK hexec hb (f := f) ⟨hown, hlink, ⟨_, _, _, hsame⟩, hst⟩ (by rw [q2]; exact h6) q1 q3 hslot rfl rfl hdg fun H' e1 e2 e3 => ?_
      rw [hsl] at e1 ⊢
      exact kk H' _ (fin H' e1 e2 e3) (hS.put e2 e3 (Nat.le_add_right base o))
theorem hn_wild (hexec : p.tables.exec = Jvm.exec) (hb : c.code = cc) (hK : va_K D hn_cl (hn_tys cI cS) s) (hW : hn_Wd D base cI cS M H) {o n : Nat} (ho : M.1[o]? = some (.inr (.inl n))) {i : Int} (hi : hn_R i) (hin : 0 ≤ i ∧ i < n) (hdg : decode cc pc = .ok (.iaload, 1))
    (kk : W p l e R s m args below meth c H locs cells slots Q (F0 m (pc + 1) ls (.int (Int32.ofInt (M.2.1 o i.toNat)) :: rest))) : W p l e R s m args below meth c H locs cells slots Q (F0 m pc ls (.int (Int32.ofInt i) :: .ref (base + o) :: rest)) := by
  refine va_iald (n := n) (f := fun j => Int32.ofInt (M.2.1 o j)) hexec hb hK (hn_P1 (hW.2 o _ ho)) 0 0 rfl rfl (hn_in hi hin) hdg ?_
  rw [hn_r3 hi]
  exact kk
theorem hn_wist (hexec : p.tables.exec = Jvm.exec) (hb : c.code = cc) (hK : va_K D hn_cl (hn_tys cI cS) s) (hW : hn_Wd D base cI cS M H) (hS : va_S (hn_A base) s.heap H locs) {o n : Nat} (ho : M.1[o]? = some (.inr (.inl n))) {i x : Int} (hi : hn_R i) (hin : 0 ≤ i ∧ i < n) (hdg : decode cc pc = .ok (.iastore, 1))
    (kk : ∀ (H1 : Heap) (locs1 : List Loc), hn_Wd D base cI cS (M.1, hn_up M.2.1 o i.toNat x, M.2.2) H1 → va_S (hn_A base) s.heap H1 locs1 → W p l e R s m args below meth c H1 locs1 cells slots Q (F0 m (pc + 1) ls rest)) : W p l e R s m args below meth c H locs cells slots Q (F0 m pc ls (.int (Int32.ofInt x) :: .int (Int32.ofInt i) :: .ref (base + o) :: rest)) := by
  have hv := hn_in hi hin
  refine W.iast hexec hb (hW.2 o _ ho : H[base + o]? = some (vp_cell cI (n, .inl (fun j => Int32.ofInt (M.2.1 o j))))) ((hK.2 0 _ rfl).1 n (fun j => .int (Int32.ofInt (M.2.1 o j)))) (fun q => by cases q) (by show ¬ (_ < 0 ∨ (arrV _ _ _).slots.size ≤ _); rw [arrV_size]; exact hv) rfl rfl hdg fun H1 e z oq => ?_
  refine kk H1 _ (hW.put ho rfl z oq ?_ ?_) (hS.put z oq (Nat.le_add_right base o))
  · show H1[base + o]? = some (vp_cell cI (n, .inl (fun j => Int32.ofInt (hn_up M.2.1 o i.toNat x o j))))
    rw [e, hn_r3 hi, vp_cell_i, vp_cell_i, arrV_store]
    congr 2
    funext q
    by_cases hq : q = i.toNat
    · subst hq
      simp [updV, hn_up_eq]
    · simp [updV, hq, hn_up_ne (Or.inr hq)]
  · intro o' sh' hne
    rcases sh' with k | n' | n' <;> simp [hn_ce, hn_fv, hn_up_ne (Or.inl hne)]
theorem hn_wqld (hexec : p.tables.exec = Jvm.exec) (hb : c.code = cc) (hK : va_K D hn_cl (hn_tys cI cS) s) (hW : hn_Wd D base cI cS M H) {o n : Nat} (ho : M.1[o]? = some (.inr (.inr n))) {i : Int} (hi : hn_R i) (hin : 0 ≤ i ∧ i < n) (hdg : decode cc pc = .ok (.aaload, 1))
    (kk : W p l e R s m args below meth c H locs cells slots Q (F0 m (pc + 1) ls (va_rf ((M.2.2.1 o i.toNat).map (fun r => base + r)) :: rest))) : W p l e R s m args below meth c H locs cells slots Q (F0 m pc ls (.int (Int32.ofInt i) :: .ref (base + o) :: rest)) := by
  refine va_aldq (n := n) (C := RX4) (f := fun j => (M.2.2.1 o j).map (fun r => base + r)) hexec hb hK (hn_P1 (hW.2 o _ ho)) 0 1 rfl rfl (hn_in hi hin) hdg ?_
  rw [hn_r3 hi]
  exact kk
theorem hn_wqst (hexec : p.tables.exec = Jvm.exec) (hb : c.code = cc) (hK : va_K D hn_cl (hn_tys cI cS) s) (hW : hn_Wd D base cI cS M H) (hS : va_S (hn_A base) s.heap H locs) {o n r : Nat} (ho : M.1[o]? = some (.inr (.inr n))) (hr : M.1[r]? = some (.inl 4)) {i : Int} (hi : hn_R i) (hin : 0 ≤ i ∧ i < n) (hdg : decode cc pc = .ok (.aastore, 1))
    (kk : ∀ (H1 : Heap) (locs1 : List Loc), hn_Wd D base cI cS (M.1, M.2.1, hn_up M.2.2.1 o i.toNat (some r), M.2.2.2) H1 → va_S (hn_A base) s.heap H1 locs1 → W p l e R s m args below meth c H1 locs1 cells slots Q (F0 m (pc + 1) ls rest)) : W p l e R s m args below meth c H locs cells slots Q (F0 m pc ls (.ref (base + r) :: .int (Int32.ofInt i) :: .ref (base + o) :: rest)) := by
  have hv := hn_in hi hin
  have hlt : (Int32.ofInt i).toNatClampNeg < n := Nat.not_le.mp fun q => hv (Or.inr q)
  have h0 : ¬ Int32.ofInt i < 0 := fun q => hv (Or.inl q)
  obtain ⟨C, T, N, ty, g1, rfl, rfl, -⟩ := hn_cf 4 (by omega)
  obtain ⟨r', hr', cellV, q1, q2, q3, -⟩ := hW.2 r _ hr
  have hcls := (hK.1 4 _ g1).2
  obtain ⟨kA, comp, k1, k2, k3, -⟩ := (hK.2 1 _ rfl).2
  have hcomp : comp = D.1 4 := Option.some.inj (k3.symm.trans hcls.1)
  subst hcomp
  obtain ⟨kC, hkC, -⟩ := hcls.2
  refine W.aast hexec hb (hW.2 o _ ho : H[base + o]? = some (vp_cell cS (n, .inr (.inr (.inr (.inr (fun j => (M.2.2.1 o j).map (fun r => base + r)))))))) (fun q h => by cases h) (fun h => by cases h) k1 k2 rfl hkC ⟨h0, by show _ < (arrV _ _ _).slots.size; rw [arrV_size]; exact hlt⟩ q1 (fun q h => by rw [q3] at h; cases h) (by rw [q2]; exact hkC) (by rw [q2]; exact va_assign hcls) rfl rfl hdg fun H1 e z oq => ?_
  refine kk H1 _ (hW.put ho rfl z oq ?_ ?_) (hS.put z oq (Nat.le_add_right base o))
  · show H1[base + o]? = some (vp_cell cS (n, .inr (.inr (.inr (.inr (fun j => (hn_up M.2.2.1 o i.toNat (some r) o j).map (fun r => base + r)))))))
    rw [e, hn_r3 hi, vp_cell_q, vp_cell_q, arrV_store]
    congr 2
    funext q
    by_cases hq : q = i.toNat
    · subst hq
      simp [updV, hn_up_eq, va_rf]
    · simp [updV, hq, hn_up_ne (Or.inr hq)]
  · intro o' sh' hne
    rcases sh' with k | n' | n' <;> simp [hn_ce, hn_fv, hn_up_ne (Or.inl hne)]
theorem hn_wlen (hexec : p.tables.exec = Jvm.exec) (hb : c.code = cc) (hK : va_K D hn_cl (hn_tys cI cS) s) (hW : hn_Wd D base cI cS M H) {o n : Nat} (ho : M.1[o]? = some (.inr (.inl n)) ∨ M.1[o]? = some (.inr (.inr n))) (hdg : decode cc pc = .ok (.arraylength, 1))
    (kk : W p l e R s m args below meth c H locs cells slots Q (F0 m (pc + 1) ls (.int (Int32.ofInt (n : Int)) :: rest))) : W p l e R s m args below meth c H locs cells slots Q (F0 m pc ls (.ref (base + o) :: rest)) := by
  rw [hn_ofNat] at kk
  rcases ho with ho | ho
  · exact va_alen (ty := .int) hexec hb hK (hn_P1 (hW.2 o _ ho)) 0 0 rfl rfl rfl hdg kk
  · exact va_alen (ty := .object RX4) hexec hb hK (hn_P1 (hW.2 o _ ho)) 0 1 rfl rfl rfl hdg kk
theorem hn_wnew (hexec : p.tables.exec = Jvm.exec) (hb : c.code = cc) (hts : ∀ w ∈ hn_T, w.before args s = true) (hown : s.vm.findClass own = some m.cls) (hK : va_K D hn_cl (hn_tys cI cS) s) (hW : hn_Wd D base cI cS M H) (hS : va_S (hn_A base) s.heap H locs) {k i : Nat} (hk : k < 8) (hw : Jvm.Cond.classLink own i (hn_cn k) ∈ hn_T) (hcells : cells + 1 ≤ R.cells) (hslots : slots + hn_nf k ≤ R.slots) (hdg : decode cc pc = .ok (.new i, 3))
    (kk : ∀ (H1 : Heap), hn_Wd D base cI cS (hn_new M (.inl k)) H1 → va_S (hn_A base) s.heap H1 locs → W p l e R s m args below meth c H1 locs (cells + 1) (slots + hn_nf k) Q (F0 m (pc + 3) ls (.ref (base + M.1.length) :: rest))) : W p l e R s m args below meth c H locs cells slots Q (F0 m pc ls rest) := by
  obtain ⟨C, T, N, ty, g1, rfl, rfl, g4, g5, g6, g7, g8, g9, g10, g11, g12⟩ := hn_cf k hk
  have hKn := hK.1 k _ g1
  refine W.newcK (h := base + M.1.length) hexec hb hown (hts _ hw) (hts _ g11) (hts _ g12) rfl hdg hcells hslots hKn.2.1 hW.1 fun H1 kC hkC e1 z1 o1 => ?_
  refine kk H1 (hW.push (by rw [z1, hW.1]) (fun q hq => o1 q (by rw [← hW.1]; exact hq)) ⟨_, g1, (u_born ty hts g4 hKn hkC e1 g5).to (fun j hj => ?_)⟩) ⟨Nat.le_trans hS.1 (by rw [z1, hW.1]; omega), fun q h1 h2 => (o1 q (by have := hS.1; rw [hW.1] at this; omega)).trans (hS.2.1 q h1 h2), hS.2.2⟩
  rw [hn_vpV _ hj]
  obtain ⟨t1, t2, t3, t4, t5⟩ := g10 j hj
  have hz : Nat.beq M.1.length M.1.length = true := hn_beqT _
  have hcases : hn_fk k j = 0 ∨ hn_fk k j = 1 ∨ hn_fk k j = 2 ∨ hn_fk k j = 3 := by omega
  rcases hcases with h | h | h | h
  · simp [hn_fv, h, t1 h, hn_new, hn_zr, defaultValue]
  · simp [hn_fv, h, t2 h, hn_new, hn_zr, defaultValue]
  · simp [hn_fv, h, t3 h, hn_new, hn_zr, defaultValue]
  · have hr := t4 h
    cases ht : ty j <;> rw [ht] at hr <;> simp [hn_isRef] at hr <;> simp [hn_fv, h, hn_new, hn_zr, defaultValue, va_rf]
theorem hn_wnewI (hexec : p.tables.exec = Jvm.exec) (hb : c.code = cc) (hts : ∀ w ∈ hn_T, w.before args s = true) (hK : va_K D hn_cl (hn_tys cI cS) s) (hW : hn_Wd D base cI cS M H) (hS : va_S (hn_A base) s.heap H locs) {n : Int} (hn : hn_R n) (hn2 : 0 ≤ n ∧ n ≤ 10000) (hcells : cells + 1 ≤ R.cells) (hslots : slots + n.toNat ≤ R.slots) (hdg : decode cc pc = .ok (.newarray .int, 2))
    (kk : ∀ (H1 : Heap), hn_Wd D base cI cS (hn_new M (.inr (.inl n.toNat))) H1 → va_S (hn_A base) s.heap H1 locs → W p l e R s m args below meth c H1 locs (cells + 1) (slots + n.toNat) Q (F0 m (pc + 2) ls (.ref (base + M.1.length) :: rest))) : W p l e R s m args below meth c H locs cells slots Q (F0 m pc ls (.int (Int32.ofInt n) :: rest)) := by
  refine va_newaK (h := base + M.1.length) hexec hb (atype := .int) (hts _ hn_pac) rfl hdg rfl (by rw [hn_lt0 hn]; omega) (hn_r3 hn) (by show n.toNat * 4 ≤ _; omega) hcells hslots hW.1 fun H1 cA e1 z1 o1 hAr hNm => ?_
  have hc : cA = cI := Option.some.inj (hNm.symm.trans (hK.2 0 _ rfl).2)
  subst hc
  refine kk H1 (hW.push (by rw [z1, hW.1]) (fun q hq => o1 q (by rw [← hW.1]; exact hq)) ?_) ⟨Nat.le_trans hS.1 (by rw [z1, hW.1]; omega), fun q h1 h2 => (o1 q (by have := hS.1; rw [hW.1] at this; omega)).trans (hS.2.1 q h1 h2), hS.2.2⟩
  show H1[base + M.1.length]? = some (vp_cell cA (n.toNat, .inl _))
  rw [e1, vp_cell_i]
  congr 2
  funext q
  simp [hn_new, hn_zr, defaultValue, newarray.typeOf]
theorem hn_wnewQ (hexec : p.tables.exec = Jvm.exec) (hb : c.code = cc) (hover : va_AO RX4 s) (hts : ∀ w ∈ hn_T, w.before args s = true) (hown : s.vm.findClass own = some m.cls) (hK : va_K D hn_cl (hn_tys cI cS) s) (hW : hn_Wd D base cI cS M H) (hS : va_S (hn_A base) s.heap H locs) {n : Int} {i : Nat} (hw : Jvm.Cond.classLink own i RX4 ∈ hn_T) (hn : hn_R n) (hn2 : 0 ≤ n ∧ n ≤ 10000) (hcells : cells + 1 ≤ R.cells) (hslots : slots + n.toNat ≤ R.slots) (hdg : decode cc pc = .ok (.anewarray i, 3))
    (kk : ∀ (H1 : Heap), hn_Wd D base cI cS (hn_new M (.inr (.inr n.toNat))) H1 → va_S (hn_A base) s.heap H1 locs → W p l e R s m args below meth c H1 locs (cells + 1) (slots + n.toNat) Q (F0 m (pc + 3) ls (.ref (base + M.1.length) :: rest))) : W p l e R s m args below meth c H locs cells slots Q (F0 m pc ls (.int (Int32.ofInt n) :: rest)) := by
  refine W.anew (C := RX4) hexec hb hown (hts _ hw) (va_AO.use hover) rfl hdg rfl (by rw [hn_lt0 hn]; omega) (by rw [hn_r3 hn]; omega) hcells (by rw [hn_r3 hn]; exact hslots) fun cA kA comp f1 f2 f3 f4 => ?_
  obtain ⟨-, -, -, -, -, g4⟩ := (hK.2 1 _ rfl).2
  have hc : cA = cS := Option.some.inj (f1.symm.trans g4)
  subst hc
  rw [hn_r3 hn]
  generalize hH1 : H.push ({ cls := cA, slots := Array.replicate n.toNat .null, vm := .none } : Cell) = H1
  have z1 : H1.size = H.size + 1 := by rw [← hH1, Array.size_push]
  have e1 : H1[H.size]? = some (arrV cA n.toNat (fun _ => .null)) := by rw [← hH1, Array.getElem?_push_size, ← arrV_new]
  have o1 : ∀ q : Nat, q < H.size → H1[q]? = H[q]? := fun q hq => by rw [← hH1, Array.getElem?_push, if_neg (Nat.ne_of_lt hq)]
  have kk' := kk H1 (hW.push z1 o1 ?_) ⟨Nat.le_trans hS.1 (by rw [z1]; omega), fun q h1 h2 => (o1 q (by have := hS.1; omega)).trans (hS.2.1 q h1 h2), hS.2.2⟩
  · rw [← hW.1] at kk'
    exact kk'
  · rw [← hW.1]
    show H1[H.size]? = some (vp_cell cA (n.toNat, .inr (.inr (.inr (.inr _)))))
    rw [e1, vp_cell_q]
    congr 2
    funext q
    have hz : Nat.beq M.1.length M.1.length = true := hn_beqT _
    simp [hn_new, hn_zr, va_rf, hW.1]
end HNR
