/-! the bounds are bounds -/
theorem hq_ub_le {s : hn_S} {W a b k m : Nat} (hk : k < hn_n s) (hm : m < hn_n s) (k1 : W.testBit k = true) (m1 : W.testBit m = true) (t : Int) : hn_ub s W a b t ≤ hn_uc s a b k m := by
  have dn : ∀ k m t, hn_ub1 s W a b k m t ≤ t := fun k m t => by
    unfold hn_ub1
    by_cases e : (W.testBit k = true ∧ W.testBit m = true) ∧ hn_uc s a b k m < t
    · rw [if_pos e]
      omega
    · rw [if_neg e]
      exact Int.le_refl _
  unfold hn_ub
  refine hn_itr_le (f := fun k t => hn_itr (hn_n s) (hn_ub1 s W a b k) t) (k := k) (fun i t _ => hn_itr_dn (fun j u _ => dn i j u) t) hk (fun t => ?_) t
  refine hn_itr_le (f := hn_ub1 s W a b k) (k := m) (fun j u _ => dn k j u) hm (fun t => ?_) t
  unfold hn_ub1
  by_cases e : hn_uc s a b k m < t
  · rw [if_pos ⟨⟨k1, m1⟩, e⟩]
    exact Int.le_refl _
  · rw [if_neg (fun z => e z.2)]
    omega
theorem hq_uc_nn {s : hn_S} (hI : hn_Iv s) {a b k m : Nat} (ha : a < 8) (hb : b < 8) (hk : k < 8) (hm : m < 8) : 0 ≤ hn_uc s a b k m := by
  have c := hI.2.2.1
  have h1 := Int.mul_nonneg (show 0 ≤ s 2 by omega) (hn_gp_b hI ha hk).1
  have h2 := Int.mul_nonneg (show 0 ≤ s 3 by omega) (hn_gp_b hI hk hm).1
  have h3 := Int.mul_nonneg (show 0 ≤ s 4 by omega) (hn_gp_b hI hm hb).1
  unfold hn_uc
  omega
/-- what flows cost without congestion and surcharge -/
theorem hq_flow {s : hn_S} {q : Nat → Nat} (hq : ∀ u, u < hn_n s → q u < hn_n s) : hn_sm (hn_n s) (fun a => hn_sm (hn_n s) (fun b => hn_fl s a b * hn_uc s a b (q a) (q b))) = s 2 * hn_cc s (hn_P q) + s 3 * hn_gg s q + s 4 * hn_dc s (hn_P q) := by
  have iN : ∀ v, v < hn_n s → hn_isN s (hn_P q v) := fun v hv => by
    have := hq v hv
    unfold hn_P
    omega
  have e1 : hn_cc s (hn_P q) = hn_sm (hn_n s) (fun a => hn_sm (hn_n s) (fun b => hn_fl s a b * hn_gp s a (q a))) := by
    refine hn_sm_cg fun a ha => ?_
    unfold hn_ccf
    rw [if_pos (iN a ha), hn_sm_mulr]
    rfl
  have e2 : hn_dc s (hn_P q) = hn_sm (hn_n s) (fun a => hn_sm (hn_n s) (fun b => hn_fl s a b * hn_gp s (q b) b)) := by
    rw [hn_sm_swap]
    refine hn_sm_cg fun b hb => ?_
    unfold hn_dcf
    rw [if_pos (iN b hb), hn_sm_mulr, hn_gp_comm s (q b) b]
    rfl
  have e3 : hn_gg s q = hn_sm (hn_n s) (fun a => hn_sm (hn_n s) (fun b => hn_fl s a b * hn_gp s (q a) (q b))) := rfl
  rw [e1, e2, e3, ← hn_sm_mul, ← hn_sm_mul, ← hn_sm_mul, ← hn_sm_add, ← hn_sm_add]
  refine hn_sm_cg fun a ha => ?_
  rw [← hn_sm_mul, ← hn_sm_mul, ← hn_sm_mul, ← hn_sm_add, ← hn_sm_add]
  refine hn_sm_cg fun b hb => ?_
  unfold hn_uc
  rw [Int.mul_add, Int.mul_add, Int.mul_left_comm, Int.mul_left_comm (hn_fl s a b) (s 3), Int.mul_left_comm (hn_fl s a b) (s 4)]
/-- the bound with all hubs of W is at most any plan's cost with hubs among them, less the congestion -/
theorem hq_fc_le {s : hn_S} (hI : hn_Iv s) {W w : Nat} {q : Nat → Nat} (hq : hq_V s w q) (hs : ∀ v, v < hn_n s → w.testBit v = true → W.testBit v = true) : hn_fc s W + hn_op s w ≤ hn_cost s w (hn_P q) := by
  have h8 := hn_n8 hI
  have e0 : hn_fc s W ≤ hn_sm (hn_n s) (fun a => hn_sm (hn_n s) (fun b => hn_fl s a b * hn_uc s a b (q a) (q b))) := by
    refine hn_sm_le fun a ha => hn_sm_le fun b hb => ?_
    have fb := hn_fl_b hI (a := a) (b := b) (by omega) (by omega)
    have qa := (hq a ha).1
    have qb := (hq b hb).1
    unfold hn_fc1
    by_cases e : 0 < hn_fl s a b
    · rw [if_pos e]
      exact Int.mul_le_mul_of_nonneg_left (hq_ub_le qa.1 qb.1 (hs _ qa.1 qa.2) (hs _ qb.1 qb.2) _) (by omega)
    · rw [if_neg e]
      exact Int.mul_nonneg fb.1 (hq_uc_nn hI (by omega) (by omega) (by omega) (by omega))
  have e1 := hq_flow (s := s) (q := q) (fun u hu => (hq u hu).1.1)
  have e2 := hn_tk_GG (s := s) (p := q) (w := w) (fun u hu => (hq u hu).1)
  have e3 := hq_parts hI (p := hn_P q) (m := w)
  rw [e2] at e3
  unfold hn_cost
  omega
/-- the smallest openings: so many, of any set with at least so many -/
theorem hq_cnt_mono {f h : Nat → Bool} {n : Nat} (e : ∀ v, v < n → f v = true → h v = true) : hn_sm n (fun v => if f v = true then 1 else 0) ≤ hn_sm n (fun v => if h v = true then 1 else 0) := by
  refine hn_sm_le fun v hv => ?_
  by_cases a : f v = true
  · rw [if_pos a, if_pos (e v hv a)]
    exact Int.le_refl _
  · rw [if_neg a]
    by_cases b : h v = true
    · rw [if_pos b]
      decide
    · rw [if_neg b]
      exact Int.le_refl _
theorem hq_bits_ge {t n : Nat} (hn : n ≤ 8) : hn_sm n (fun v => if t.testBit v = true then 1 else 0) ≤ hn_bits t := by
  have := hn_sm_mono (f := fun v => if t.testBit v = true then (1 : Int) else 0) hn (fun j _ => by
    by_cases e : t.testBit j = true
    · show 0 ≤ (if t.testBit j = true then (1 : Int) else 0)
      rw [if_pos e]
      decide
    · show 0 ≤ (if t.testBit j = true then (1 : Int) else 0)
      rw [if_neg e]
      decide)
  exact this
def hq_opg (s : hn_S) (g : Nat → Bool) : Int := hn_sm (hn_n s) (fun v => if g v = true then s (26 + v) else 0)
theorem hq_mo_le {s : hn_S} {t v : Nat} (hv : v < hn_n s) (h : t.testBit v = false) : (hn_mo s t).1 ≤ s (26 + v) := by
  unfold hn_mo
  refine hq_itr_le (fun x : Int × Int => x.1) (f := hn_mo1 s t) (k := v) (fun i x _ => ?_) hv (fun x => ?_) _
  · unfold hn_mo1
    by_cases e : t.testBit i = false ∧ s (26 + i) < x.1
    · rw [if_pos e]
      show s (26 + i) ≤ x.1
      omega
    · rw [if_neg e]
      exact Int.le_refl _
  · unfold hn_mo1
    by_cases e : s (26 + v) < x.1
    · rw [if_pos ⟨h, e⟩]
      exact Int.le_refl _
    · rw [if_neg (fun z => e z.2)]
      show x.1 ≤ _
      omega
theorem hq_so_le {s : hn_S} (hI : hn_Iv s) : ∀ (m : Nat) (g : Nat → Bool), m ≤ hn_n s → (m : Int) ≤ hn_sm (hn_n s) (fun v => if g v = true then 1 else 0) → (hn_so s m).2 ≤ hq_opg s g
  | 0, g, _, _ => by
    have h8 := hn_n8 hI
    refine hn_sm_nn fun v hv => ?_
    have b := (hI.2.2.2.2.1 v (by omega)).2.2.1
    by_cases e : g v = true
    · rw [if_pos e]
      exact b.1
    · rw [if_neg e]
      exact Int.le_refl _
  | m + 1, g, hm, hg => by
    have h8 := hn_n8 hI
    obtain ⟨t1, t2, -, -⟩ := hn_so_b hI m (by omega)
    have e : hn_so s (m + 1) = hn_so1 s m (hn_so s m) := rfl
    have ex : ∃ v, v < hn_n s ∧ g v = true ∧ (hn_so s m).1.testBit v = false := by
      refine Classical.byContradiction fun no => ?_
      have h1 := hq_cnt_mono (f := g) (h := fun v => (hn_so s m).1.testBit v) (n := hn_n s) (fun v hv gv => by
        refine Classical.byContradiction fun nb => no ⟨v, hv, gv, by simpa using nb⟩)
      have h2 := hq_bits_ge (t := (hn_so s m).1) h8
      omega
    obtain ⟨v, hv, gv, tv⟩ := ex
    have e1 : hq_opg s g = hq_opg s (fun u => g u && !(Nat.beq u v)) + s (26 + v) := by
      have o1 : hn_sm (hn_n s) (fun u => if u = v then s (26 + v) else 0) = s (26 + v) := by
        rw [hn_sm_one hv (fun i _ hne => if_neg hne), if_pos rfl]
      unfold hq_opg
      rw [← o1, ← hn_sm_add]
      refine hn_sm_cg fun u _ => ?_
      show (if g u = true then s (26 + u) else 0) = (if (g u && !(Nat.beq u v)) = true then s (26 + u) else 0) + (if u = v then s (26 + v) else 0)
      by_cases x : u = v
      · subst x
        rw [if_pos gv, if_pos rfl, if_neg (by rw [Nat.beq_refl]; simp)]
        omega
      · have xb : Nat.beq u v = false := by
          cases hb : Nat.beq u v with
          | false => rfl
          | true => exact absurd (Nat.eq_of_beq_eq_true hb) x
        rw [if_neg x, xb]
        simp
    have e2 : hn_sm (hn_n s) (fun u => if g u = true then (1 : Int) else 0) = hn_sm (hn_n s) (fun u => if (g u && !(Nat.beq u v)) = true then (1 : Int) else 0) + 1 := by
      have o1 : hn_sm (hn_n s) (fun u => if u = v then (1 : Int) else 0) = 1 := by
        rw [hn_sm_one hv (fun i _ hne => if_neg hne), if_pos rfl]
      refine Eq.trans ?_ (congrArg (fun z => hn_sm (hn_n s) (fun u => if (g u && !(Nat.beq u v)) = true then (1 : Int) else 0) + z) o1)
      rw [← hn_sm_add]
      refine hn_sm_cg fun u _ => ?_
      by_cases x : u = v
      · subst x
        rw [if_pos gv, if_pos rfl, if_neg (by rw [Nat.beq_refl]; simp)]
        omega
      · have xb : Nat.beq u v = false := by
          cases hb : Nat.beq u v with
          | false => rfl
          | true => exact absurd (Nat.eq_of_beq_eq_true hb) x
        rw [if_neg x, xb]
        simp
    have ih := hq_so_le hI m (fun u => g u && !(Nat.beq u v)) (by omega) (by omega)
    have mo := hq_mo_le hv tv
    rw [e]
    show (hn_so s m).2 + (hn_mo s (hn_so s m).1).1 ≤ _
    omega
theorem hq_op_opg (s : hn_S) (w : Nat) : hn_op s w = hq_opg s (fun v => w.testBit v) := rfl
/-- bits of a mask of the nodes -/
theorem hq_bits_eq {w n : Nat} (hn : n ≤ 8) (hw : w < 2 ^ n) : hn_bits w = hn_sm n (fun v => if w.testBit v = true then 1 else 0) := by
  have z : ∀ k, n ≤ k → w.testBit k = false := fun k hk => Nat.testBit_lt_two_pow (Nat.lt_of_lt_of_le hw (Nat.pow_le_pow_right (by omega) hk))
  have h : ∀ m, n ≤ m → hn_sm m (fun v => if w.testBit v = true then (1 : Int) else 0) = hn_sm n (fun v => if w.testBit v = true then 1 else 0) := by
    intro m hm
    induction m with
    | zero => rw [show n = 0 by omega]
    | succ m ih =>
      by_cases e : n = m + 1
      · rw [e]
      · rw [hn_sm_up, ih (by omega), z m (by omega)]
        simp
  exact h 8 hn
theorem hq_bits_pos {w n : Nat} (hn : n ≤ 8) (h0 : w ≠ 0) (hw : w < 2 ^ n) : 1 ≤ hn_bits w := by
  refine Classical.byContradiction fun no => h0 (Nat.eq_of_testBit_eq fun i => ?_)
  rw [Nat.zero_testBit]
  by_cases hi : i < 8
  · refine Classical.byContradiction fun b => no ?_
    have b' : w.testBit i = true := by simpa using b
    have h1 : hn_sm 8 (fun v => if v = i then (1 : Int) else 0) = 1 := by
      rw [hn_sm_one hi (fun j _ hne => if_neg hne), if_pos rfl]
    have h2 : hn_sm 8 (fun v => if v = i then (1 : Int) else 0) ≤ hn_bits w := hn_sm_le fun v _ => by
      by_cases e : v = i
      · rw [if_pos e, e, b']
        exact Int.le_refl _
      · rw [if_neg e]
        cases w.testBit v <;> decide
    omega
  · exact Nat.testBit_lt_two_pow (Nat.lt_of_lt_of_le hw (Nat.pow_le_pow_right (by omega) (by omega)))
theorem hq_bits_8 {w : Nat} : hn_bits w ≤ 8 := by
  have := hn_sm_ub (n := 8) (f := fun k => if w.testBit k = true then (1 : Int) else 0) (c := 1) (fun i _ => by
    show (if w.testBit i = true then (1 : Int) else 0) ≤ 1
    cases w.testBit i <;> decide)
  exact this
theorem hq_bits_n {w n : Nat} (hn : n ≤ 8) (hw : w < 2 ^ n) : hn_bits w ≤ n := by
  rw [hq_bits_eq hn hw]
  have := hn_sm_ub (n := n) (f := fun k => if w.testBit k = true then (1 : Int) else 0) (c := 1) (fun i _ => by
    show (if w.testBit i = true then (1 : Int) else 0) ≤ 1
    cases w.testBit i <;> decide)
  omega
/-- bound() is a bound: for any number, or for just so many hubs -/
theorem hq_bound_le {s : hn_S} (hI : hn_Iv s) {w : Nat} {q : Nat → Nat} (h0 : w ≠ 0) (hw : w < 2 ^ hn_n s) (hq : hq_V s w q) {c : Int} (hc : c = 0 ∨ hn_bits w = c) (hc0 : 0 ≤ c) : hr_bound s c ≤ hn_cost s w (hn_P q) := by
  have h8 := hn_n8 hI
  have b1 := hq_bits_pos h8 h0 hw
  have b2 := hq_bits_n h8 hw
  have all : ∀ v, v < hn_n s → w.testBit v = true → (2 ^ hn_n s - 1).testBit v = true := fun v hv _ => by
    rw [Nat.testBit_two_pow_sub_one]
    simpa using hv
  have f := hq_fc_le hI hq all
  have hm : hn_soN s c ≤ hn_n s ∧ (hn_soN s c : Int) ≤ hn_bits w := by
    unfold hn_soN
    rcases hc with e | e
    · rw [if_pos e]
      omega
    · by_cases z : c = 0
      · rw [if_pos z]
        omega
      · rw [if_neg z]
        omega
  have o := hq_so_le hI (hn_soN s c) (fun v => w.testBit v) hm.1 (by rw [← hq_bits_eq h8 hw]; exact hm.2)
  rw [← hq_op_opg] at o
  unfold hr_bound
  by_cases e : 0 ≤ c ∧ c ≤ (hn_n s : Int)
  · rw [if_pos e]
    omega
  · rw [if_neg e]
    have := (hq_cost_b hI (p := hn_P q) (m := w)).1
    omega
theorem hq_hubB_le {s : hn_S} (hI : hn_Iv s) {q : Nat → Nat} (hq : hq_V s (hn_hm s) q) : hr_hubB s ≤ hn_cost s (hn_hm s) (hn_P q) := by
  have f := hq_fc_le hI hq (fun _ _ h => h)
  unfold hr_hubB
  by_cases e : s 1 = 0
  · rw [if_pos e]
    have := (hq_cost_b hI (p := hn_P q) (m := hn_hm s)).1
    omega
  · rw [if_neg e]
    exact f
