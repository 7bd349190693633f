/-! what fits() and changesFit() rest on -/
theorem hq_bit {s : hn_S} (hI : hn_Iv s) {v : Nat} (hv : v < 8) : hn_and (hn_shr (s 1) (v : Int)) 1 = if hn_hub s v = true then 1 else 0 := by
  have h := hn_bit (hn_hm s) (hn_w256 hI hI.2.1.2) v hv
  rw [hI.2.1.1]
  exact h
/-- the present plan, complete -/
theorem hq_present {s : hn_S} (hI : hn_Iv s) (hc : hn_cmp s) : ∃ q : Nat → Nat, hq_V s (hn_hm s) q ∧ ∀ v, v < hn_n s → hn_ho s v = hn_P q v := by
  refine ⟨fun u => (s (42 + u)).toNat, fun u hu => ?_, fun v hv => ?_⟩
  · obtain ⟨h1, h2⟩ := hI.2.2.2.2.2.2.2 u hu
    obtain ⟨k, k1, k2, k3⟩ := h2 (hc.2 u hu)
    refine ⟨by show (s (42 + u)).toNat < hn_n s ∧ (hn_hm s).testBit (s (42 + u)).toNat = true; rw [k2, Int.toNat_natCast]; exact ⟨k1, k3⟩, fun b => by show (s (42 + u)).toNat = u; rw [h1 b, Int.toNat_natCast]⟩
  · obtain ⟨k, k1, k2, k3⟩ := (hI.2.2.2.2.2.2.2 v hv).2 (hc.2 v hv)
    show s (42 + v) = (((s (42 + v)).toNat : Nat) : Int)
    rw [k2, Int.toNat_natCast]
theorem hq_cost0 {s : hn_S} (hc : hn_cmp s) : hr_cost s 0 = hn_cost s (hn_hm s) (hn_ho s) := by
  unfold hr_cost
  rw [if_pos (by decide), if_pos hc, if_neg (by decide), if_neg (by decide), if_neg (by decide), if_neg (by decide), if_neg (by decide)]
theorem hq_cost1 {s : hn_S} (hc : hn_cmp s) : hr_cost s 1 = s 2 * hn_cc s (hn_ho s) := by
  unfold hr_cost
  rw [if_pos (by decide), if_pos hc, if_pos rfl]
theorem hq_cost2 {s : hn_S} (hc : hn_cmp s) : hr_cost s 2 = hn_tkc s (hn_ho s) (hn_hm s) := by
  unfold hr_cost
  rw [if_pos (by decide), if_pos hc, if_neg (by decide), if_pos rfl]
theorem hq_cost3 {s : hn_S} (hc : hn_cmp s) : hr_cost s 3 = s 4 * hn_dc s (hn_ho s) := by
  unfold hr_cost
  rw [if_pos (by decide), if_pos hc, if_neg (by decide), if_neg (by decide), if_pos rfl]
theorem hq_cost4 {s : hn_S} (hc : hn_cmp s) : hr_cost s 4 = hn_op s (hn_hm s) := by
  unfold hr_cost
  rw [if_pos (by decide), if_pos hc, if_neg (by decide), if_neg (by decide), if_neg (by decide), if_pos rfl]
theorem hq_cost5 {s : hn_S} (hc : hn_cmp s) : hr_cost s 5 = hn_cg s (hn_ld s (hn_ho s)) (hn_hm s) := by
  unfold hr_cost
  rw [if_pos (by decide), if_pos hc, if_neg (by decide), if_neg (by decide), if_neg (by decide), if_neg (by decide), if_pos rfl]
theorem hq_costN {s : hn_S} (hc : ¬ hn_cmp s) : hr_cost s 0 = -4 := by
  unfold hr_cost
  rw [if_pos (by decide), if_neg hc]
/-- the parts -/
def hq_pt (s : hn_S) (j : Nat) : Int := hr_cost s ((j + 1 : Nat) : Int)
theorem hq_pt_sum {s : hn_S} (hc : hn_cmp s) : hn_sm 5 (hq_pt s) = hr_cost s 0 := by
  have e : hn_sm 5 (hq_pt s) = 0 + hr_cost s 1 + hr_cost s 2 + hr_cost s 3 + hr_cost s 4 + hr_cost s 5 := rfl
  rw [e, hq_cost0 hc, hq_cost1 hc, hq_cost2 hc, hq_cost3 hc, hq_cost4 hc, hq_cost5 hc]
  unfold hn_cost
  omega
theorem hq_pt_b {s : hn_S} (hI : hn_Iv s) (hc : hn_cmp s) {j : Nat} (hj : j < 5) : 0 ≤ hq_pt s j ∧ hq_pt s j ≤ 400000000 := by
  have b1 := (hn_cc_b hI (p := hn_ho s)).2
  have b2 := hn_tkc_b hI (p := hn_ho s) (m := hn_hm s)
  have b3 := (hn_dc_b hI (p := hn_ho s)).2
  have b4 := hn_op_b hI (m := hn_hm s)
  have b5 := hn_cg_b hI (L := hn_ld s (hn_ho s)) (m := hn_hm s) (fun a _ _ => hn_ld_b hI)
  have h : j = 0 ∨ j = 1 ∨ j = 2 ∨ j = 3 ∨ j = 4 := by omega
  rcases h with e | e | e | e | e <;> subst e
  · rw [show hq_pt s 0 = hr_cost s 1 from rfl, hq_cost1 hc]
    omega
  · rw [show hq_pt s 1 = hr_cost s 2 from rfl, hq_cost2 hc]
    unfold hn_tkc
    omega
  · rw [show hq_pt s 2 = hr_cost s 3 from rfl, hq_cost3 hc]
    omega
  · rw [show hq_pt s 3 = hr_cost s 4 from rfl, hq_cost4 hc]
    omega
  · rw [show hq_pt s 4 = hr_cost s 5 from rfl, hq_cost5 hc]
    omega
theorem hq_pts_b {s : hn_S} (hI : hn_Iv s) (hc : hn_cmp s) {i : Nat} (hi : i ≤ 5) : 0 ≤ hn_sm i (hq_pt s) ∧ hn_sm i (hq_pt s) ≤ 2000000000 := by
  have := hn_sm_b (n := i) (f := hq_pt s) 400000000 (fun j hj => hq_pt_b hI hc (by omega))
  omega
/-- bounds, and the best plan with the present hubs -/
theorem hq_ends {s : hn_S} (hI : hn_Iv s) (hc : hn_cmp s) : hr_hubB s ≤ hr_cost s 0 ∧ hr_bound s 0 ≤ hr_cost s 0 ∧ (hn_fits s (hn_ho s) (hn_hm s) → 0 ≤ hr_least s (s 1) ∧ hr_least s (s 1) ≤ hr_cost s 0) ∧ -1 ≤ hr_least s (s 1) := by
  obtain ⟨q, hq, e⟩ := hq_present hI hc
  have hz : hn_hm s ≠ 0 := by
    have := hI.2.1.1
    have := hc.1
    omega
  have ec : hr_cost s 0 = hn_cost s (hn_hm s) (hn_P q) := by rw [hq_cost0 hc, hq_cost_cg e]
  have el := hq_least hI hz hI.2.1.2
  rw [← hI.2.1.1] at el
  have fb := hq_fnd_b hI (hn_hm s)
  have nn : (hn_fnd s (hn_hm s)).2.1 = 2147483647 ∨ (0 ≤ (hn_fnd s (hn_hm s)).2.1 ∧ (hn_fnd s (hn_hm s)).2.1 ≤ 990240000) := by
    rcases fb with f | ⟨f1, f2, -⟩
    · exact Or.inl f
    · exact Or.inr ⟨f1, f2⟩
  refine ⟨by rw [ec]; exact hq_hubB_le hI hq, by rw [ec]; exact hq_bound_le hI hz hI.2.1.2 hq (Or.inl rfl) (Int.le_refl 0), fun hf => ?_, ?_⟩
  · have hf' : hn_fits s (hn_P q) (hn_hm s) := fun v hv hb => by
      rw [← hq_ld_cg e]
      exact hf v hv hb
    have l := hq_fnd_le hq hf'
    have b := hq_cost_b hI (p := hn_P q) (m := hn_hm s)
    rw [el, ec, if_pos (by omega)]
    omega
  · rw [el]
    by_cases x : (hn_fnd s (hn_hm s)).2.1 < 2147483647
    · rw [if_pos x]
      omega
    · rw [if_neg x]
      exact Int.le_refl _
/-! fits()'s loop over the nodes -/
def hq_co (s : hn_S) : Nat → Int
  | 0 => if s 1 = 0 then 0 else 1
  | v + 1 => if hq_co s v = 0 then 0 else if s (42 + v) < 0 then 0 else 1
def hq_fe (s : hn_S) : Nat → Int
  | 0 => 1
  | v + 1 => if hn_hub s v = true then (if hq_fe s v = 0 then 0 else if s (34 + v) < hn_ld s (hn_ho s) v then 0 else 1) else hq_fe s v
def hq_lsf (s : hn_S) (v : Nat) : Int := if hn_hub s v = true then hn_ld s (hn_ho s) v else 0
def hq_fsf (s : hn_S) (v : Nat) : Int := if s (42 + v) < 0 then 0 else hn_out s v
theorem hq_co_01 (s : hn_S) (v : Nat) : hq_co s v = 0 ∨ hq_co s v = 1 := by
  cases v with
  | zero =>
    unfold hq_co
    by_cases e : s 1 = 0
    · rw [if_pos e]
      exact Or.inl rfl
    · rw [if_neg e]
      exact Or.inr rfl
  | succ v =>
    unfold hq_co
    by_cases e : hq_co s v = 0
    · rw [if_pos e]
      exact Or.inl rfl
    · rw [if_neg e]
      by_cases e2 : s (42 + v) < 0
      · rw [if_pos e2]
        exact Or.inl rfl
      · rw [if_neg e2]
        exact Or.inr rfl
theorem hq_co_1 {s : hn_S} {n : Nat} : hq_co s n = 1 ↔ s 1 ≠ 0 ∧ ∀ v, v < n → ¬ s (42 + v) < 0 := by
  induction n with
  | zero =>
    unfold hq_co
    by_cases e : s 1 = 0
    · rw [if_pos e]
      exact ⟨fun h => absurd h (by decide), fun h => absurd e h.1⟩
    · rw [if_neg e]
      exact ⟨fun _ => ⟨e, fun v hv => absurd hv (by omega)⟩, fun _ => rfl⟩
  | succ n ih =>
    unfold hq_co
    by_cases e : hq_co s n = 0
    · rw [if_pos e]
      refine ⟨fun h => absurd h (by decide), fun h => ?_⟩
      have := ih.mpr ⟨h.1, fun v hv => h.2 v (by omega)⟩
      omega
    · rw [if_neg e]
      have e1 := ih.mp ((hq_co_01 s n).resolve_left e)
      by_cases e2 : s (42 + n) < 0
      · rw [if_pos e2]
        exact ⟨fun h => absurd h (by decide), fun h => absurd e2 (h.2 n (by omega))⟩
      · rw [if_neg e2]
        refine ⟨fun _ => ⟨e1.1, fun v hv => ?_⟩, fun _ => rfl⟩
        by_cases x : v = n
        · rw [x]
          exact e2
        · exact e1.2 v (by omega)
theorem hq_co_cmp {s : hn_S} (hI : hn_Iv s) : hq_co s (hn_n s) = 1 ↔ hn_cmp s := by
  rw [hq_co_1]
  have h8 := hn_n8 hI
  constructor
  · exact fun h => ⟨h.1, fun v hv => by have := h.2 v hv; omega⟩
  · exact fun h => ⟨h.1, fun v hv => by
      have := h.2 v hv
      have := (hI.2.2.2.2.1 v (by omega)).2.2.2.2
      omega⟩
theorem hq_fe_01 (s : hn_S) (v : Nat) : hq_fe s v = 0 ∨ hq_fe s v = 1 := by
  induction v with
  | zero => exact Or.inr rfl
  | succ v ih =>
    unfold hq_fe
    by_cases e : hn_hub s v = true
    · rw [if_pos e]
      by_cases e1 : hq_fe s v = 0
      · rw [if_pos e1]
        exact Or.inl rfl
      · rw [if_neg e1]
        by_cases e2 : s (34 + v) < hn_ld s (hn_ho s) v
        · rw [if_pos e2]
          exact Or.inl rfl
        · rw [if_neg e2]
          exact Or.inr rfl
    · rw [if_neg e]
      exact ih
theorem hq_fe_1 {s : hn_S} {n : Nat} : hq_fe s n = 1 ↔ ∀ v, v < n → hn_hub s v = true → hn_ld s (hn_ho s) v ≤ s (34 + v) := by
  induction n with
  | zero => exact ⟨fun _ v hv => absurd hv (by omega), fun _ => rfl⟩
  | succ n ih =>
    unfold hq_fe
    by_cases e : hn_hub s n = true
    · rw [if_pos e]
      by_cases e1 : hq_fe s n = 0
      · rw [if_pos e1]
        refine ⟨fun h => absurd h (by decide), fun h => ?_⟩
        have := ih.mpr (fun v hv => h v (by omega))
        omega
      · rw [if_neg e1]
        have e3 := ih.mp ((hq_fe_01 s n).resolve_left e1)
        by_cases e2 : s (34 + n) < hn_ld s (hn_ho s) n
        · rw [if_pos e2]
          refine ⟨fun h => absurd h (by decide), fun h => ?_⟩
          have := h n (by omega) e
          omega
        · rw [if_neg e2]
          refine ⟨fun _ v hv hb => ?_, fun _ => rfl⟩
          by_cases x : v = n
          · rw [x]
            omega
          · exact e3 v (by omega) hb
    · rw [if_neg e, ih]
      constructor
      · intro h v hv hb
        by_cases x : v = n
        · rw [x] at hb
          exact absurd hb e
        · exact h v (by omega) hb
      · exact fun h v hv => h v (by omega)
theorem hq_fe_fits {s : hn_S} : hq_fe s (hn_n s) = 1 ↔ hn_fits s (hn_ho s) (hn_hm s) := hq_fe_1
/-- loads sum to the flows of the nodes that are assigned -/
theorem hq_loads {s : hn_S} (hI : hn_Iv s) : hn_sm (hn_n s) (hq_lsf s) = hn_sm (hn_n s) (hq_fsf s) := by
  have h8 := hn_n8 hI
  have e1 : hn_sm (hn_n s) (hq_lsf s) = hn_sm (hn_n s) (fun k => hn_sm (hn_n s) (fun a => if hn_hub s k = true ∧ s (42 + a) = (k : Int) then hn_out s a else 0)) := by
    refine hn_sm_cg fun k hk => ?_
    unfold hq_lsf
    by_cases e : hn_hub s k = true
    · rw [if_pos e]
      refine hn_sm_cg fun a ha => ?_
      show (if s (42 + a) = (k : Int) then hn_out s a else 0) = _
      by_cases x : s (42 + a) = (k : Int)
      · rw [if_pos x, if_pos ⟨e, x⟩]
      · rw [if_neg x, if_neg (fun z => x z.2)]
    · rw [if_neg e, hn_sm_z' (fun a _ => if_neg (fun z => e z.1))]
  rw [e1, hn_sm_swap (hn_n s) (hn_n s) (fun k a => if hn_hub s k = true ∧ s (42 + a) = (k : Int) then hn_out s a else 0)]
  refine hn_sm_cg fun a ha => ?_
  unfold hq_fsf
  have b := (hI.2.2.2.2.1 a (by omega)).2.2.2.2
  by_cases e : s (42 + a) < 0
  · rw [if_pos e, hn_sm_z' (fun k _ => if_neg (fun z => by have := z.2; omega))]
  · rw [if_neg e]
    obtain ⟨k, k1, k2, k3⟩ := (hI.2.2.2.2.2.2.2 a ha).2 (by omega)
    rw [hn_sm_one k1 (fun i _ hne => if_neg (fun z => hne (by have := z.2; omega))), if_pos ⟨k3, k2⟩]
theorem hq_lsf_b {s : hn_S} (hI : hn_Iv s) (v : Nat) : 0 ≤ hq_lsf s v ∧ hq_lsf s v ≤ 6400 := by
  have b := hn_ld_b hI (p := hn_ho s) (k := v)
  unfold hq_lsf
  by_cases e : hn_hub s v = true
  · rw [if_pos e]
    exact b
  · rw [if_neg e]
    omega
theorem hq_fsf_b {s : hn_S} (hI : hn_Iv s) {v : Nat} (hv : v < 8) : 0 ≤ hq_fsf s v ∧ hq_fsf s v ≤ 800 := by
  have b := hn_out_b hI hv
  unfold hq_fsf
  by_cases e : s (42 + v) < 0
  · rw [if_pos e]
    omega
  · rw [if_neg e]
    exact b
/-! changesFit() -/
theorem hq_change {s : hn_S} (hI : hn_Iv s) (hc : hn_cmp s) {v x : Int} (hv : hn_isN s v) (hx : hn_isN s x) : hr_change s v x = -4 ∨ (0 ≤ hr_change s v x ∧ hr_under s v x = s (42 + v.toNat) ∧ hr_cost (hs_under s v x) 0 - hr_cost s 0 + 1000000000 = hr_change s v x) := by
  have h8 := hn_n8 hI
  unfold hr_change
  rw [if_pos ⟨hv, hx⟩]
  by_cases e : hn_hub s v.toNat = false ∧ hn_hub s x.toNat = true ∧ hn_cmp s
  · rw [if_pos e]
    right
    have b0 := hq_cost_b hI (p := hn_ho s) (m := hn_hm s)
    have b1 := hq_cost_b hI (p := hn_mv1 s v.toNat x) (m := hn_hm s)
    have ob := (hI.2.2.2.2.1 v.toNat (by omega)).2.2.2.2
    have er : hr_under s v x = s (42 + v.toNat) := by
      unfold hr_under
      rw [if_pos ⟨hv, hx⟩, if_pos ⟨e.1, e.2.1⟩]
    have es : hs_under s v x = hn_w s (42 + v.toNat) x := by
      unfold hs_under
      rw [er, if_neg (by omega)]
    have ho : ∀ u, hn_ho (hn_w s (42 + v.toNat) x) u = hn_mv1 s v.toNat x u := fun u => by
      show hn_w s (42 + v.toNat) x (42 + u) = _
      unfold hn_mv1
      by_cases z : u = v.toNat
      · rw [if_pos z, z, hn_w_eq]
      · rw [if_neg z, hn_w_ne (by omega)]
    have en : hn_n (hn_w s (42 + v.toNat) x) = hn_n s := by
      unfold hn_n
      rw [hn_w_ne (by omega)]
    have em : hn_hm (hn_w s (42 + v.toNat) x) = hn_hm s := by
      unfold hn_hm
      rw [hn_w_ne (by omega)]
    have hc' : hn_cmp (hn_w s (42 + v.toNat) x) := by
      refine ⟨by rw [hn_w_ne (by omega)]; exact hc.1, fun u hu => ?_⟩
      rw [en] at hu
      rw [show hn_w s (42 + v.toNat) x (42 + u) = hn_mv1 s v.toNat x u from ho u]
      unfold hn_mv1
      by_cases z : u = v.toNat
      · rw [if_pos z]
        omega
      · rw [if_neg z]
        exact hc.2 u hu
    refine ⟨by omega, er, ?_⟩
    rw [es, hq_cost0 hc', em, hn_cost_w h8 (by omega), hq_cost_cg (p := hn_ho (hn_w s (42 + v.toNat) x)) (q := hn_mv1 s v.toNat x) (fun u _ => ho u), hq_cost0 hc]
  · rw [if_neg e]
    exact Or.inl rfl
theorem hq_check1 {s : hn_S} (h : ¬ hr_check s = 1) : hn_cmp s := by
  refine Classical.byContradiction fun no => h ?_
  unfold hr_check
  rw [if_neg no]
