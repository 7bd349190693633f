/-! what the law rests on: plans, their costs, bounds, best plans (no program here) -/
theorem hq_itr_le {X : Type} (φ : X → Int) {f : Nat → X → X} {n k : Nat} {c : Int} (h : ∀ i x, i < n → φ (f i x) ≤ φ x) (hk : k < n) (hc : ∀ x, φ (f k x) ≤ c) (x : X) : φ (hn_itr n f x) ≤ c := by
  induction n with
  | zero => omega
  | succ n ih =>
    rw [hn_itr_up]
    by_cases e : k = n
    · rw [← e]
      exact hc _
    · exact Int.le_trans (h _ _ (by omega)) (ih (fun i t hi => h i t (by omega)) (by omega))
theorem hq_itr_dn {X : Type} (φ : X → Int) {f : Nat → X → X} {n : Nat} (h : ∀ i x, i < n → φ (f i x) ≤ φ x) (x : X) : φ (hn_itr n f x) ≤ φ x := by
  induction n with
  | zero => exact Int.le_refl _
  | succ n ih =>
    rw [hn_itr_up]
    exact Int.le_trans (h _ _ (by omega)) (ih fun i t hi => h i t (by omega))
theorem hq_itr_inv {X : Type} (R : X → Prop) {f : Nat → X → X} {n : Nat} (h : ∀ i x, i < n → R x → R (f i x)) {x : X} (r : R x) : R (hn_itr n f x) := by
  induction n with
  | zero => exact r
  | succ n ih =>
    rw [hn_itr_up]
    exact h _ _ (by omega) (ih fun i t hi => h i t (by omega))
/-- a search's least is at most what it sees at any plan -/
theorem hq_dfs_le {X : Type} (φ : X → Int) {H : List Nat} {f : (Nat → Nat) → X → X} {q0 : Nat → Nat} {c : Int} (h : ∀ q x, φ (f q x) ≤ φ x) (hc : ∀ x, φ (f q0 x) ≤ c) : ∀ (F : List Nat) (p : Nat → Nat), hn_ext H F p q0 → F.Nodup → ∀ x, φ (hn_dfs H f F p x) ≤ c
  | [], p, hq, _, x => by
    have e : q0 = p := funext fun u => hq.1 u (by simp)
    rw [← e]
    exact hc x
  | v :: F, p, hq, hd, x => by
    have hF := (List.nodup_cons.mp hd).2
    have hv := (List.nodup_cons.mp hd).1
    have hm := hq.2 v List.mem_cons_self
    obtain ⟨j, hj⟩ := List.getElem?_of_mem hm
    have hjl := (List.getElem?_eq_some_iff.mp hj).1
    have ej : H.getD j 0 = q0 v := by rw [List.getD_eq_getElem?_getD, hj]; rfl
    refine hq_itr_le φ (f := fun j x => hn_dfs H f F (hn_put p v (H.getD j 0)) x) (k := j) (fun i y _ => ?_) hjl (fun y => ?_) x
    · exact hn_dfs_inv (R := fun z => φ z ≤ φ y) (fun q _ z hz => Int.le_trans (h q z) hz) hF (Int.le_refl _)
    · rw [ej]
      refine hq_dfs_le φ h hc F _ ⟨fun u hu => ?_, fun u hu => hq.2 u (List.mem_cons_of_mem _ hu)⟩ hF y
      unfold hn_put
      by_cases e : u = v
      · rw [if_pos e, e]
      · rw [if_neg e]
        exact hq.1 u (fun z => by
          rcases List.mem_cons.mp z with z | z
          · exact e z
          · exact hu z)
/-! the same plan -/
theorem hq_ld_cg {s : hn_S} {p q : Nat → Int} (e : ∀ v, v < hn_n s → p v = q v) (k : Nat) : hn_ld s p k = hn_ld s q k := hn_sm_cg fun a ha => by rw [e a ha]
theorem hq_cost_cg {s : hn_S} {p q : Nat → Int} (e : ∀ v, v < hn_n s → p v = q v) (m : Nat) : hn_cost s m p = hn_cost s m q := by
  have e1 : hn_cc s p = hn_cc s q := hn_sm_cg fun v hv => by unfold hn_ccf; rw [e v hv]
  have e2 : hn_dc s p = hn_dc s q := hn_sm_cg fun v hv => by unfold hn_dcf; rw [e v hv]
  have et : ∀ a b, hn_tr s p a b = hn_tr s q a b := fun a b => hn_sm_cg fun v hv => by
    rw [e v hv, show hn_tw s p v b (hn_n s) = hn_tw s q v b (hn_n s) from hn_sm_cg fun c hc => by rw [e c hc]]
  have ek : hn_tkf s p = hn_tkf s q := by
    funext a b
    unfold hn_tkf
    rw [et]
  have es : hn_suf s p = hn_suf s q := by
    funext a b
    unfold hn_suf
    rw [ek, et]
  have e3 : hn_tk s p m = hn_tk s q m := by
    unfold hn_tk
    rw [ek]
  have e4 : hn_su s p m = hn_su s q m := by
    unfold hn_su
    rw [es]
  have e6 : hn_ld s p = hn_ld s q := funext fun k => hq_ld_cg e k
  unfold hn_cost hn_tkc
  rw [e1, e2, e3, e4, e6]
theorem hq_cost_b {s : hn_S} (h : hn_Iv s) {p : Nat → Int} {m : Nat} : 0 ≤ hn_cost s m p ∧ hn_cost s m p ≤ 990240000 := by
  have b1 := (hn_cc_b h (p := p)).2
  have b2 := hn_tkc_b h (p := p) (m := m)
  have b3 := (hn_dc_b h (p := p)).2
  have b4 := hn_op_b h (m := m)
  have b5 := hn_cg_b h (L := hn_ld s p) (m := m) (fun a _ _ => hn_ld_b h)
  have b6 := hn_tk_b h (p := p) (m := m)
  have b7 := hn_su_b h (p := p) (m := m)
  have b8 := h.2.2.1.2.1
  have e : (100 - s 3) * hn_su s p m ≤ (100 - s 3) * hn_tk s p m := Int.mul_le_mul_of_nonneg_left b7.2 (by omega)
  have e2 : s 3 * hn_tk s p m + (100 - s 3) * hn_tk s p m = 100 * hn_tk s p m := by
    rw [← Int.add_mul, show s 3 + (100 - s 3) = 100 by omega]
  unfold hn_cost hn_tkc
  omega
/-- the parts of a cost are not negative -/
theorem hq_parts {s : hn_S} (h : hn_Iv s) {p : Nat → Int} {m : Nat} : 0 ≤ hn_tkc s p m ∧ s 3 * hn_tk s p m ≤ hn_tkc s p m ∧ 0 ≤ hn_cg s (hn_ld s p) m := by
  have b2 := hn_tkc_b h (p := p) (m := m)
  have b5 := hn_cg_b h (L := hn_ld s p) (m := m) (fun a _ _ => hn_ld_b h)
  unfold hn_tkc
  omega
/-- a plan with these hubs -/
def hq_V (s : hn_S) (w : Nat) (q : Nat → Nat) : Prop := ∀ u, u < hn_n s → (q u < hn_n s ∧ w.testBit (q u) = true) ∧ (w.testBit u = true → q u = u)
theorem hq_V_ext {s : hn_S} {w : Nat} {q : Nat → Nat} (h : hq_V s w q) : hn_ext (hn_hl w (hn_n s)) (hn_fr w (hn_n s)) (fun u => u) (fun u => if u < hn_n s then q u else u) := by
  refine ⟨fun u hu => ?_, fun u hu => ?_⟩
  · show (if u < hn_n s then q u else u) = u
    by_cases e : u < hn_n s
    · rw [if_pos e]
      by_cases b : w.testBit u = true
      · exact (h u e).2 b
      · exact absurd (hn_fr_mem.mpr ⟨e, by simpa using b⟩) hu
    · rw [if_neg e]
  · have e := hn_fr_mem.mp hu
    show (if u < hn_n s then q u else u) ∈ _
    rw [if_pos e.1]
    exact hn_hl_mem.mpr (h u e.1).1
theorem hq_V_Pl {s : hn_S} {w : Nat} {q : Nat → Nat} (h : hn_Pl (hn_hl w (hn_n s)) (hn_fr w (hn_n s)) q (hn_fr w (hn_n s)).length) : hq_V s w q := fun u hu => ⟨h.hp u hu, fun b => h.1 u (hn_hl_mem.mpr ⟨hu, b⟩)⟩
/-- the least cost is at most any plan's -/
theorem hq_fnd_le {s : hn_S} {w : Nat} {q : Nat → Nat} (h : hq_V s w q) (hf : hn_fits s (hn_P q) w) : (hn_fnd s w).2.1 ≤ hn_cost s w (hn_P q) := by
  have e : ∀ v, v < hn_n s → hn_P (fun u => if u < hn_n s then q u else u) v = hn_P q v := fun v hv => by
    show (((if v < hn_n s then q v else v) : Nat) : Int) = ((q v : Nat) : Int)
    rw [if_pos hv]
  have hf' : hn_fits s (hn_P (fun u => if u < hn_n s then q u else u)) w := fun v hv hb => by
    rw [hq_ld_cg e]
    exact hf v hv hb
  rw [← hq_cost_cg e]
  refine hq_dfs_le (fun x : Int × Int × (Nat → Int) => x.2.1) (f := hn_ms1 s w) (fun q x => ?_) (fun x => ?_) _ _ (hq_V_ext h) (hn_fr_nd w _) _
  · unfold hn_ms1
    by_cases e1 : hn_fits s (hn_P q) w
    · rw [if_pos e1]
      by_cases e2 : hn_cost s w (hn_P q) < x.2.1
      · rw [if_pos e2]
        show hn_cost s w (hn_P q) ≤ x.2.1
        omega
      · rw [if_neg e2]
        exact Int.le_refl _
    · rw [if_neg e1]
      exact Int.le_refl _
  · unfold hn_ms1
    rw [if_pos hf']
    by_cases e2 : hn_cost s w (hn_P (fun u => if u < hn_n s then q u else u)) < x.2.1
    · rw [if_pos e2]
      exact Int.le_refl _
    · rw [if_neg e2]
      show x.2.1 ≤ _
      omega
/-- .. and a plan's, or there is none -/
theorem hq_fnd_b {s : hn_S} (hI : hn_Iv s) (w : Nat) : (hn_fnd s w).2.1 = 2147483647 ∨ (0 ≤ (hn_fnd s w).2.1 ∧ (hn_fnd s w).2.1 ≤ 990240000 ∧ ∃ q : Nat → Nat, hn_Pl (hn_hl w (hn_n s)) (hn_fr w (hn_n s)) q (hn_fr w (hn_n s)).length ∧ (hn_fnd s w).2.2 = hn_P q ∧ (hn_fnd s w).2.1 = hn_cost s w (hn_P q) ∧ hn_fits s (hn_P q) w) := by
  rcases hn_fnd_b hI (w := w) with h | ⟨h1, -, q, h2, h3, h4, h5⟩
  · exact Or.inl h
  · exact Or.inr ⟨h1, by rw [h4]; exact (hq_cost_b hI).2, q, h2, h3, h4, h5⟩
/-! what doesn't depend on the present plan -/
theorem hq_lk_fnd {t s : hn_S} (h : hn_lk t s) (w : Nat) : hn_fnd t w = hn_fnd s w := by
  have e : hn_ms1 t w = hn_ms1 s w := by
    funext q x
    have ef : hn_fits t (hn_P q) w ↔ hn_fits s (hn_P q) w := by
      constructor
      · intro f v hv hb
        have := f v (by rw [h.n]; exact hv) hb
        rwa [h.ld, h.2 _ (by have := h.1; omega) (by omega)] at this
      · intro f v hv hb
        rw [h.n] at hv
        have := f v hv hb
        rwa [h.ld, h.2 _ (by have := h.1; omega) (by omega)]
    unfold hn_ms1
    by_cases e1 : hn_fits s (hn_P q) w
    · rw [if_pos (ef.mpr e1), if_pos e1, h.cost]
    · rw [if_neg (fun z => e1 (ef.mp z)), if_neg e1]
  unfold hn_fnd
  rw [h.n, e]
theorem hq_lk_try {t s : hn_S} (h : hn_lk t s) : hn_try t = hn_try s := by
  funext w b
  unfold hn_try
  rw [hq_lk_fnd h]
theorem hq_lk_bst {t s : hn_S} (h : hn_lk t s) (c : Int) : hn_bst t c = hn_bst s c := by
  have e : hn_allf t c = hn_allf s c := by
    funext j b
    unfold hn_allf
    rw [hq_lk_try h]
  unfold hn_bst
  rw [h.n, e]
theorem hq_lk_nbr {t s : hn_S} (h : hn_lk t s) (w : Nat) : hn_nbrf t w = hn_nbrf s w := by
  funext j b
  unfold hn_nbrf
  rw [hq_lk_try h]
theorem hq_lk_fc {t s : hn_S} (h : hn_lk t s) (w : Nat) : hn_fc t w = hn_fc s w := by
  have h8 := h.1
  unfold hn_fc
  rw [h.n]
  refine hn_sm_cg fun a ha => hn_sm_cg fun b hb => ?_
  unfold hn_fc1 hn_ub
  rw [h.fl, h.n]
  have e : ∀ k m, k < hn_n s → m < hn_n s → hn_uc t a b k m = hn_uc s a b k m := fun k m hk hm => by
    unfold hn_uc
    rw [h.gp (by omega) (by omega), h.gp (by omega) (by omega), h.gp (by omega) (by omega), h.2 2 (by omega) (by omega), h.2 3 (by omega) (by omega), h.2 4 (by omega) (by omega)]
  have e2 : hn_itr (hn_n s) (fun k x => hn_itr (hn_n s) (hn_ub1 t w a b k) x) (2000000000 : Int) = hn_itr (hn_n s) (fun k x => hn_itr (hn_n s) (hn_ub1 s w a b k) x) 2000000000 := by
    refine hn_itr_rel (R := fun x y => x = y) (fun k x y hk r => ?_) rfl
    refine hn_itr_rel (R := fun x y => x = y) (fun m x y hm r => ?_) r
    subst r
    unfold hn_ub1
    rw [e k m hk hm]
  rw [e2]
theorem hq_lk_so {t s : hn_S} (h : hn_lk t s) (m : Nat) : hn_so t m = hn_so s m := by
  have h8 := h.1
  have e : ∀ x, hn_mo t x = hn_mo s x := fun x => by
    unfold hn_mo
    rw [h.n]
    refine hn_itr_rel (R := fun x y => x = y) (fun m x y hm r => ?_) rfl
    subst r
    unfold hn_mo1
    rw [h.2 _ (by omega) (by omega)]
  have e2 : hn_so1 t = hn_so1 s := by
    funext j x
    unfold hn_so1
    rw [e]
  unfold hn_so
  rw [e2]
theorem hq_lk_bound {t s : hn_S} (h : hn_lk t s) (c : Int) : hr_bound t c = hr_bound s c := by
  unfold hr_bound hn_soN
  rw [h.n, hq_lk_fc h, hq_lk_so h]
theorem hq_lk_best {t s : hn_S} (h : hn_lk t s) (c : Int) : hr_best t c = hr_best s c := by
  unfold hr_best
  rw [hq_lk_bst h]
theorem hq_lk_least {t s : hn_S} (h : hn_lk t s) (w : Int) : hr_least t w = hr_least s w := by
  unfold hr_least hn_isM
  rw [h.n, hq_lk_try h]
