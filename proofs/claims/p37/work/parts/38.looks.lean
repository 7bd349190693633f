/-! the class's public methods that only look -/
abbrev hn_ho (s : hn_S) : Nat → Int := fun v => s (42 + v)
abbrev hn_cmp (s : hn_S) : Prop := s 1 ≠ 0 ∧ ∀ v, v < hn_n s → s (42 + v) ≠ -1
def hr_prop (s : hn_S) (v w : Int) : Int := if hn_isN s v then (if w = 0 then s (10 + v.toNat) else if w = 1 then s (18 + v.toNat) else if w = 2 then s (26 + v.toNat) else if w = 3 then s (34 + v.toNat) else if w = 4 then hn_out s v.toNat else if w = 5 then hn_inn s v.toNat else -3) else -2
def hr_fl (s : hn_S) (a b : Int) : Int := if hn_isN s a ∧ hn_isN s b then hn_fl s a.toNat b.toNat else -2
def hr_gp (s : hn_S) (a b : Int) : Int := if hn_isN s a ∧ hn_isN s b then hn_gp s a.toNat b.toNat else -2
def hr_ho (s : hn_S) (v : Int) : Int := if hn_isN s v then s (42 + v.toNat) else -2
def hr_check (s : hn_S) : Int := if hn_cmp s then (if hn_fits s (hn_ho s) (hn_hm s) then 0 else 2) else 1
def hr_load (s : hn_S) (v : Int) : Int := if hn_isN s v then (if hn_hub s v.toNat = true then hn_ld s (hn_ho s) v.toNat else -4) else -2
def hr_trunk (s : hn_S) (a b : Int) : Int := if hn_isN s a ∧ hn_isN s b then (if hn_hub s a.toNat = true ∧ hn_hub s b.toNat = true ∧ a ≠ b then hn_tr s (hn_ho s) a.toNat b.toNat else -4) else -2
def hr_cost (s : hn_S) (w : Int) : Int := if 0 ≤ w ∧ w ≤ 5 then (if hn_cmp s then (if w = 1 then s 2 * hn_cc s (hn_ho s) else if w = 2 then hn_tkc s (hn_ho s) (hn_hm s) else if w = 3 then s 4 * hn_dc s (hn_ho s) else if w = 4 then hn_op s (hn_hm s) else if w = 5 then hn_cg s (hn_ld s (hn_ho s)) (hn_hm s) else hn_cost s (hn_hm s) (hn_ho s)) else -4) else -3
def hn_pth (a k m b i : Int) : Int := if k = a then (if m = k then (if b = m then (if i = 0 then a else -1) else (if i = 0 then a else if i = 1 then b else -1)) else (if b = m then (if i = 0 then a else if i = 1 then m else -1) else (if i = 0 then a else if i = 1 then m else if i = 2 then b else -1))) else (if m = k then (if b = m then (if i = 0 then a else if i = 1 then k else -1) else (if i = 0 then a else if i = 1 then k else if i = 2 then b else -1)) else (if b = m then (if i = 0 then a else if i = 1 then k else if i = 2 then m else -1) else (if i = 0 then a else if i = 1 then k else if i = 2 then m else if i = 3 then b else -1)))
def hr_path (s : hn_S) (a b i : Int) : Int := if hn_isN s a ∧ hn_isN s b then (if a ≠ b ∧ 0 ≤ i then (if s (42 + a.toNat) ≠ -1 ∧ s (42 + b.toNat) ≠ -1 then hn_pth a (s (42 + a.toNat)) (s (42 + b.toNat)) b i else -4) else -3) else -2
def hn_mv1 (s : hn_S) (v : Nat) (x : Int) : Nat → Int := fun u => if u = v then x else s (42 + u)
def hr_change (s : hn_S) (v x : Int) : Int := if hn_isN s v ∧ hn_isN s x then (if hn_hub s v.toNat = false ∧ hn_hub s x.toNat = true ∧ hn_cmp s then hn_cost s (hn_hm s) (hn_mv1 s v.toNat x) - hn_cost s (hn_hm s) (hn_ho s) + 1000000000 else -4) else -2
/-- the costs don't see the plan that is kept in the state -/
def hn_lk (t s : hn_S) : Prop := hn_n s ≤ 8 ∧ ∀ j, ¬ (42 ≤ j ∧ j < 50) → j ≠ 1 → t j = s j
theorem hn_lk.n {t s : hn_S} (h : hn_lk t s) : hn_n t = hn_n s := by
  unfold hn_n
  rw [h.2 0 (by omega) (by omega)]
theorem hn_lk.gp {t s : hn_S} (h : hn_lk t s) {a b : Nat} (ha : a < 8) (hb : b < 8) : hn_gp t a b = hn_gp s a b := by
  unfold hn_gp
  rw [h.2 _ (by omega) (by omega), h.2 _ (by omega) (by omega), h.2 _ (by omega) (by omega), h.2 _ (by omega) (by omega)]
theorem hn_lk.fl {t s : hn_S} (h : hn_lk t s) (a b : Nat) : hn_fl t a b = hn_fl s a b := h.2 _ (by omega) (by omega)
theorem hn_lk.out {t s : hn_S} (h : hn_lk t s) (v : Nat) : hn_out t v = hn_out s v := by
  unfold hn_out
  rw [h.n]
  exact hn_sm_cg fun b _ => h.fl v b
theorem hn_lk.inn {t s : hn_S} (h : hn_lk t s) (v : Nat) : hn_inn t v = hn_inn s v := by
  unfold hn_inn
  rw [h.n]
  exact hn_sm_cg fun b _ => h.fl b v
theorem hn_lk.ld {t s : hn_S} (h : hn_lk t s) (p : Nat → Int) (v : Nat) : hn_ld t p v = hn_ld s p v := by
  unfold hn_ld
  rw [h.n]
  exact hn_sm_cg fun b _ => by rw [h.out]
theorem hn_lk.tr {t s : hn_S} (h : hn_lk t s) (p : Nat → Int) (v u : Nat) : hn_tr t p v u = hn_tr s p v u := by
  unfold hn_tr
  rw [h.n]
  refine hn_sm_cg fun b _ => ?_
  have : hn_tw t p b u (hn_n s) = hn_tw s p b u (hn_n s) := hn_sm_cg fun c _ => by rw [h.fl]
  rw [this]
theorem hn_lk.cost {t s : hn_S} (h : hn_lk t s) (m : Nat) (p : Nat → Int) : hn_cost t m p = hn_cost s m p := by
  have h8 := h.1
  have e1 : hn_cc t p = hn_cc s p := by
    unfold hn_cc
    rw [h.n]
    refine hn_sm_cg fun v hv => ?_
    unfold hn_ccf hn_isN
    rw [h.n, h.out]
    by_cases e : 0 ≤ p v ∧ p v < (hn_n s : Int)
    · rw [if_pos e, if_pos e, h.gp (by omega) (by omega)]
    · rw [if_neg e, if_neg e]
  have e2 : hn_dc t p = hn_dc s p := by
    unfold hn_dc
    rw [h.n]
    refine hn_sm_cg fun v hv => ?_
    unfold hn_dcf hn_isN
    rw [h.n, h.inn]
    by_cases e : 0 ≤ p v ∧ p v < (hn_n s : Int)
    · rw [if_pos e, if_pos e, h.gp (by omega) (by omega)]
    · rw [if_neg e, if_neg e]
  have ek : ∀ a b, a < hn_n s → b < hn_n s → hn_tkf t p a b = hn_tkf s p a b := fun a b ha hb => by
    unfold hn_tkf
    rw [h.tr, h.gp (by omega) (by omega)]
  have e3 : hn_tk t p m = hn_tk s p m := by
    unfold hn_tk
    rw [h.n]
    refine hn_sm_cg fun a ha => ?_
    unfold hn_ro
    rw [hn_sm_cg (f := hn_tkf t p a) (h := hn_tkf s p a) (fun b hb => ek a b ha hb)]
  have e4 : hn_su t p m = hn_su s p m := by
    unfold hn_su
    rw [h.n]
    refine hn_sm_cg fun a ha => ?_
    unfold hn_ro
    rw [hn_sm_cg (f := hn_suf t p a) (h := hn_suf s p a) (fun b hb => by
      unfold hn_suf
      rw [ek a b ha hb, h.tr, h.2 5 (by omega) (by omega)])]
  have e5 : hn_op t m = hn_op s m := by
    unfold hn_op
    rw [h.n]
    refine hn_sm_cg fun a ha => ?_
    unfold hn_opf
    rw [h.2 _ (by omega) (by omega)]
  have e6 : hn_cg t (hn_ld t p) m = hn_cg s (hn_ld s p) m := by
    unfold hn_cg
    rw [h.n]
    refine hn_sm_cg fun a ha => ?_
    unfold hn_cgf hn_cg1
    rw [h.ld, h.2 6 (by omega) (by omega), h.2 7 (by omega) (by omega), h.2 8 (by omega) (by omega), h.2 9 (by omega) (by omega)]
  unfold hn_cost hn_tkc
  rw [e1, e2, e3, e4, e5, e6, h.2 2 (by omega) (by omega), h.2 3 (by omega) (by omega), h.2 4 (by omega) (by omega)]
theorem hn_cost_w {s : hn_S} (h8 : hn_n s ≤ 8) {u : Nat} (hu : u < 8) (v : Int) (m : Nat) (p : Nat → Int) : hn_cost (hn_w s (42 + u) v) m p = hn_cost s m p :=
  hn_lk.cost ⟨h8, fun j h1 _ => hn_w_ne (by omega)⟩ m p
theorem hn_cost_b2 {s : hn_S} (h : hn_Iv s) {p : Nat → Int} {m : Nat} : 0 ≤ hn_cost s m p ∧ hn_cost s m p ≤ 1117000000 := by
  have b1 := (hn_cc_b h (p := p)).2
  have b2 := hn_tkc_b h (p := p) (m := m)
  have b3 := (hn_dc_b h (p := p)).2
  have b4 := hn_op_b h (m := m)
  have b5 := hn_cg_b h (L := hn_ld s p) (m := m) (fun a _ _ => hn_ld_b h)
  unfold hn_cost hn_tkc
  omega
section HX38
variable {sx : Nat → Int} {sL : Nat} {I : Nat → Nat → Int} {k : Nat → Option Nat} {g : Nat → Nat → Int64} {a : hn_AA}
theorem hc_ho (hA : hn_AI a) (h : hn_HC I k a) : ∀ v, v < hn_n a.1 → I 6 v = hn_ho a.1 v ∧ -1 ≤ hn_ho a.1 v ∧ hn_ho a.1 v ≤ 7 := fun v hv => by
  have h8 := hn_n8 hA.1
  exact ⟨h.1.2.2.2.2.2.2.2.1 v (by omega), (hA.1.2.2.2.2.1 v (by omega)).2.2.2.2⟩
theorem hc_complete (d : Nat) (hA : hn_AI a) (h : hn_HC I k a) : hn_ret sx sL (d + 1) 40 [hn_vr 1] (hn_m I k g) (some (hn_vi (if hn_cmp a.1 then 1 else 0))) (hn_m I k g) := by
  have hn := h.1.n hA.1
  have h8 := hn_n8 hA.1
  have e7 : I 1 7 = a.1 1 := h.1.2.1
  have hh := hc_ho hA h
  by_cases e : hn_cmp a.1
  · rw [if_pos e]
    exact hm_complete1 d hn h8 (fun v hv => by rw [(hh v hv).1]; exact e.2 v hv) (by rw [e7]; exact e.1)
  · rw [if_neg e]
    refine hm_complete0 d hn h8 ?_
    by_cases q : a.1 1 = 0
    · exact Or.inr (by rw [e7]; exact q)
    · refine Or.inl (Classical.byContradiction fun x => e ⟨q, fun v hv y => x ⟨v, hv, ?_⟩⟩)
      rw [(hh v hv).1]
      exact y
theorem hc_upk (h : hn_HC I k a) {I' : Nat → Nat → Int} (e : ∀ c, c ≠ 46 → c ≠ 47 → ∀ j, I' c j = I c j) : hn_HC I' k a ∧ hn_fC I' I :=
  ⟨h.mv (fun c hc j => e c (by omega) (by omega) j) (e 60 (by omega) (by omega) 1), fun c hc j => e c (by omega) (by omega) j⟩
theorem hc_nodes (d : Nat) (h : hn_HC I k a) : hn_ret sx sL (d + 1) 63 [hn_vr 0] (hn_m I k g) (some (hn_vi (a.1 0))) (hn_m I k g) := by
  rw [← h.1.1]
  exact hn_of rfl hb_X6_nodes_0_0
theorem hc_hubs (d : Nat) (h : hn_HC I k a) : hn_ret sx sL (d + 1) 69 [hn_vr 0] (hn_m I k g) (some (hn_vi (a.1 1))) (hn_m I k g) := by
  rw [← h.1.2.1]
  exact hn_of rfl hb_X6_hubs_0_0
theorem hc_node (d : Nat) (hA : hn_AI a) (h : hn_HC I k a) (v w : Int) : hn_ret sx sL (d + 2) 64 [hn_vr 0, hn_vi v, hn_vi w] (hn_m I k g) (some (hn_vi (hr_prop a.1 v w))) (hn_m I k g) := by
  have hn := h.1.n hA.1
  have h8 := hn_n8 hA.1
  have c1 := hm_has (sx := sx) (sL := sL) (k := k) (g := g) d hn v
  unfold hr_prop
  by_cases h1 : hn_isN a.1 v
  · rw [if_pos h1] at c1 ⊢
    have r0 := hb_X6_node_0_1 (sx := sx) (sL := sL) (x1 := v) (x2 := w) c1 (by decide)
    obtain ⟨u, rfl⟩ : ∃ u : Nat, v = u := ⟨v.toNat, by omega⟩
    rw [Int.toNat_natCast]
    have hu : u < 8 := by omega
    by_cases e0 : w = 0
    · subst e0
      rw [if_pos rfl, ← h.1.2.2.2.1 u hu]
      exact hn_of rfl (r0.tr (hb_X6_node_v0_15_0 (h1 := by omega)))
    rw [if_neg e0]
    by_cases e1 : w = 1
    · subst e1
      rw [if_pos rfl, ← h.1.2.2.2.2.1 u hu]
      exact hn_of rfl (r0.tr (hb_X6_node_v1_15_0 (h1 := by omega)))
    rw [if_neg e1]
    by_cases e2 : w = 2
    · subst e2
      rw [if_pos rfl, ← h.1.2.2.2.2.2.1 u hu]
      exact hn_of rfl (r0.tr (hb_X6_node_v2_15_0 (h1 := by omega)))
    rw [if_neg e2]
    by_cases e3 : w = 3
    · subst e3
      rw [if_pos rfl, ← h.1.2.2.2.2.2.2.1 u hu]
      exact hn_of rfl (r0.tr (hb_X6_node_v3_15_0 (h1 := by omega)))
    rw [if_neg e3]
    by_cases e4 : w = 4
    · subst e4
      rw [if_pos rfl]
      exact hn_of rfl (r0.tr (hb_X6_node_v4_15_0 (hm_flowFrom d hA.1 h.1 hu)))
    rw [if_neg e4]
    by_cases e5 : w = 5
    · subst e5
      rw [if_pos rfl]
      exact hn_of rfl (r0.tr (hb_X6_node_v5_15_0 (hm_flowTo d hA.1 h.1 hu)))
    rw [if_neg e5]
    exact hn_of rfl (r0.tr (hb_X6_node_15_0 (h1 := by omega)))
  · rw [if_neg h1] at c1 ⊢
    exact hn_of rfl (hb_X6_node_0_0 c1 (by decide))
theorem hc_flow (d : Nat) (hA : hn_AI a) (h : hn_HC I k a) (x y : Int) : hn_ret sx sL (d + 2) 65 [hn_vr 0, hn_vi x, hn_vi y] (hn_m I k g) (some (hn_vi (hr_fl a.1 x y))) (hn_m I k g) := by
  have hn := h.1.n hA.1
  have h8 := hn_n8 hA.1
  have c1 := hm_has (sx := sx) (sL := sL) (k := k) (g := g) d hn x
  have c2 := hm_has (sx := sx) (sL := sL) (k := k) (g := g) d hn y
  unfold hr_fl
  by_cases h1 : hn_isN a.1 x
  · rw [if_pos h1] at c1
    by_cases h2 : hn_isN a.1 y
    · rw [if_pos h2] at c2
      rw [if_pos ⟨h1, h2⟩]
      obtain ⟨u, rfl⟩ : ∃ u : Nat, x = u := ⟨x.toNat, by omega⟩
      obtain ⟨v, rfl⟩ : ∃ v : Nat, y = v := ⟨y.toNat, by omega⟩
      rw [Int.toNat_natCast, Int.toNat_natCast, ← h.1.f (a := u) (b := v) (by omega) (by omega)]
      exact hn_of rfl (hb_X6_flow_0_2 (c1 := c1) (h2 := by decide) (c3 := c2) (h4 := by decide))
    · rw [if_neg h2] at c2
      rw [if_neg (fun q => h2 q.2)]
      exact hn_of rfl (hi_X6_flow_0_1 (c1 := c1) (h2 := by decide) (c3 := c2) (h4 := by decide))
  · rw [if_neg h1] at c1
    rw [if_neg (fun q => h1 q.1)]
    exact hn_of rfl (hi_X6_flow_0_0 (c1 := c1) (h2 := by decide))
theorem hc_hubOf (d : Nat) (hA : hn_AI a) (h : hn_HC I k a) (x : Int) : hn_ret sx sL (d + 2) 70 [hn_vr 0, hn_vi x] (hn_m I k g) (some (hn_vi (hr_ho a.1 x))) (hn_m I k g) := by
  have hn := h.1.n hA.1
  have h8 := hn_n8 hA.1
  have c1 := hm_has (sx := sx) (sL := sL) (k := k) (g := g) d hn x
  unfold hr_ho
  by_cases h1 : hn_isN a.1 x
  · rw [if_pos h1] at c1 ⊢
    rw [← h.1.2.2.2.2.2.2.2.1 x.toNat (by omega)]
    exact hn_of rfl (hi_X6_hubOf_0_1 (c1 := c1) (h2 := by decide) (h3 := by omega))
  · rw [if_neg h1] at c1 ⊢
    exact hn_of rfl (hi_X6_hubOf_0_0 (c1 := c1) (h2 := by decide))
theorem hc_check (d : Nat) (hA : hn_AI a) (h : hn_HC I k a) : ∃ I', hn_ret sx sL (d + 3) 71 [hn_vr 0] (hn_m I k g) (some (hn_vi (hr_check a.1))) (hn_m I' k g) ∧ hn_HC I' k a ∧ hn_fC I' I := by
  have c1 := hc_complete (sx := sx) (sL := sL) (g := g) (d + 1) hA h
  unfold hr_check
  by_cases e : hn_cmp a.1
  · rw [if_pos e] at c1 ⊢
    obtain ⟨I', c2, a1, a2, a3⟩ := hm_sumUp_6 (sx := sx) (sL := sL) (k := k) (g := g) d hA.1 h.1 (hc_ho hA h)
    obtain ⟨u1, u2⟩ := hc_upk h a3
    have em := u1.1.m hA.1
    have m256 := hn_m256 hA.1
    by_cases f : hn_fits a.1 (hn_ho a.1) (hn_hm a.1)
    · rw [if_pos f]
      have c3 := hm_fits1 (sx := sx) (sL := sL) (k := k) (g := g) d hA.1 u1.1 a1 m256 f
      rw [← em] at c3
      exact ⟨I', hn_of rfl (hb_X6_check_0_2 (c1 := c1) (h2 := by decide) (c3 := c2) (c4 := c3) (h5 := by decide)), u1, u2⟩
    · rw [if_neg f]
      have c3 := hm_fits0 (sx := sx) (sL := sL) (k := k) (g := g) d hA.1 u1.1 a1 m256 f
      rw [← em] at c3
      exact ⟨I', hn_of rfl (hb_X6_check_0_1 (c1 := c1) (h2 := by decide) (c3 := c2) (c4 := c3) (h5 := by decide)), u1, u2⟩
  · rw [if_neg e] at c1 ⊢
    exact ⟨I, hn_of rfl (hb_X6_check_0_0 (c1 := c1) (h2 := by decide)), h, hn_fC.rf⟩
theorem hc_isHub (d : Nat) (hA : hn_AI a) (h : hn_HC I k a) {v : Nat} (hv : v < hn_n a.1) : hn_ret sx sL (d + 2) 38 [hn_vr 1, hn_vi v] (hn_m I k g) (some (hn_vi (if hn_hub a.1 v = true then 1 else 0))) (hn_m I k g) :=
  hm_isHub d (h.1.n hA.1) (hn_n8 hA.1) (h.1.m hA.1) (hn_m256 hA.1) hv
theorem hc_load (d : Nat) (hA : hn_AI a) (h : hn_HC I k a) (x : Int) : ∃ I', hn_ret sx sL (d + 3) 72 [hn_vr 0, hn_vi x] (hn_m I k g) (some (hn_vi (hr_load a.1 x))) (hn_m I' k g) ∧ hn_HC I' k a ∧ hn_fC I' I := by
  have hn := h.1.n hA.1
  have h8 := hn_n8 hA.1
  have c1 := hm_has (sx := sx) (sL := sL) (k := k) (g := g) (d + 1) hn x
  unfold hr_load
  by_cases h1 : hn_isN a.1 x
  · rw [if_pos h1] at c1 ⊢
    obtain ⟨u, rfl⟩ : ∃ u : Nat, x = u := ⟨x.toNat, by omega⟩
    have c2 := hc_isHub (sx := sx) (sL := sL) (g := g) d hA h (v := u) (by omega)
    rw [Int.toNat_natCast]
    by_cases e : hn_hub a.1 u = true
    · rw [if_pos e] at c2 ⊢
      obtain ⟨I', c3, a1, a2, a3⟩ := hm_sumUp_6 (sx := sx) (sL := sL) (k := k) (g := g) d hA.1 h.1 (hc_ho hA h)
      obtain ⟨u1, u2⟩ := hc_upk h a3
      rw [← a1 u (by omega)]
      exact ⟨I', hn_of rfl (hb_X6_load_0_2 (c1 := c1) (h2 := by decide) (c3 := c2) (h4 := by decide) (c5 := c3) (h6 := by omega)), u1, u2⟩
    · rw [if_neg e] at c2 ⊢
      exact ⟨I, hn_of rfl (hb_X6_load_0_1 (c1 := c1) (h2 := by decide) (c3 := c2) (h4 := by decide)), h, hn_fC.rf⟩
  · rw [if_neg h1] at c1 ⊢
    exact ⟨I, hn_of rfl (hi_X6_load_0_0 (c1 := c1) (h2 := by decide)), h, hn_fC.rf⟩
theorem hc_cost (d : Nat) (hA : hn_AI a) (h : hn_HC I k a) (w : Int) : ∃ I', hn_ret sx sL (d + 5) 74 [hn_vr 0, hn_vi w] (hn_m I k g) (some (hn_vi (hr_cost a.1 w))) (hn_m I' k g) ∧ hn_HC I' k a ∧ hn_fC I' I := by
  have c1 := hm_inRange (sx := sx) (sL := sL) (I := I) (k := k) (g := g) (d + 3) w 0 5
  have c2 := hc_complete (sx := sx) (sL := sL) (g := g) (d + 3) hA h
  unfold hr_cost
  by_cases h1 : 0 ≤ w ∧ w ≤ 5
  · rw [if_pos h1] at c1 ⊢
    by_cases e : hn_cmp a.1
    · rw [if_pos e] at c2 ⊢
      obtain ⟨I', c3, a1, a2, a3⟩ := hm_sumUp_6 (sx := sx) (sL := sL) (k := k) (g := g) (d + 2) hA.1 h.1 (hc_ho hA h)
      obtain ⟨u1, u2⟩ := hc_upk h a3
      have em := u1.1.m hA.1
      have m256 := hn_m256 hA.1
      have hh := hc_ho hA u1
      have r0 := hb_X6_cost_0_2 (sx := sx) (sL := sL) (x1 := w) (c1 := c1) (h2 := by decide) (c3 := c2) (h4 := by decide) (c5 := c3)
      by_cases e1 : w = 1
      · subst e1
        rw [if_pos rfl]
        exact ⟨I', hn_of rfl (r0.tr (hb_X6_cost_v1_40_0 (hm_collectingCost (d + 2) hA.1 u1.1 hh))), u1, u2⟩
      rw [if_neg e1]
      by_cases e2 : w = 2
      · subst e2
        rw [if_pos rfl]
        have c4 := hm_trunkCost (sx := sx) (sL := sL) (k := k) (g := g) (d + 1) hA.1 u1.1 a2 m256
        rw [← em] at c4
        exact ⟨I', hn_of rfl (r0.tr (hb_X6_cost_v2_40_0 c4)), u1, u2⟩
      rw [if_neg e2]
      by_cases e3 : w = 3
      · subst e3
        rw [if_pos rfl]
        exact ⟨I', hn_of rfl (r0.tr (hb_X6_cost_v3_40_0 (hm_distributingCost (d + 2) hA.1 u1.1 hh))), u1, u2⟩
      rw [if_neg e3]
      by_cases e4 : w = 4
      · subst e4
        rw [if_pos rfl]
        have c4 := hm_openingCost (sx := sx) (sL := sL) (k := k) (g := g) (d + 2) hA.1 u1.1 m256
        rw [← em] at c4
        exact ⟨I', hn_of rfl (r0.tr (hb_X6_cost_v4_40_0 c4)), u1, u2⟩
      rw [if_neg e4]
      by_cases e5 : w = 5
      · subst e5
        rw [if_pos rfl]
        have h8 := hn_n8 hA.1
        have c4 := hm_congestionCost_46 (sx := sx) (sL := sL) (k := k) (g := g) (d + 2) hA.1 u1.1 (L := hn_ld a.1 (hn_ho a.1)) (m := hn_hm a.1) (fun j hj _ => ⟨a1 j (by omega), hn_ld_b hA.1⟩) m256
        rw [← em] at c4
        exact ⟨I', hn_of rfl (r0.tr (hb_X6_cost_v5_40_0 c4)), u1, u2⟩
      rw [if_neg e5]
      obtain ⟨I2, c4, b3⟩ := hm_total (sx := sx) (sL := sL) (k := k) (g := g) d hA.1 u1.1 hh m256
      obtain ⟨v1, v2⟩ := hc_upk u1 b3
      rw [← em] at c4
      exact ⟨I2, hn_of rfl (r0.tr (hb_X6_cost_40_0 (h1 := by omega) (c2 := c4))), v1, fun c hc j => by rw [v2 c hc, u2 c hc]⟩
    · rw [if_neg e] at c2 ⊢
      exact ⟨I, hn_of rfl (hb_X6_cost_0_1 (c1 := c1) (h2 := by decide) (c3 := c2) (h4 := by decide)), h, hn_fC.rf⟩
  · rw [if_neg h1] at c1 ⊢
    exact ⟨I, hn_of rfl (hb_X6_cost_0_0 (c1 := c1) (h2 := by decide)), h, hn_fC.rf⟩
theorem hc_change (d : Nat) (hA : hn_AI a) (h : hn_HC I k a) (x y : Int) : ∃ I', hn_ret sx sL (d + 5) 76 [hn_vr 0, hn_vi x, hn_vi y] (hn_m I k g) (some (hn_vi (hr_change a.1 x y))) (hn_m I' k g) ∧ hn_HC I' k a ∧ hn_fC I' I := by
  have hn := h.1.n hA.1
  have h8 := hn_n8 hA.1
  have c1 := hm_has (sx := sx) (sL := sL) (k := k) (g := g) (d + 3) hn x
  have c2 := hm_has (sx := sx) (sL := sL) (k := k) (g := g) (d + 3) hn y
  unfold hr_change
  by_cases h1 : hn_isN a.1 x
  · rw [if_pos h1] at c1
    by_cases h2 : hn_isN a.1 y
    · rw [if_pos h2] at c2
      rw [if_pos ⟨h1, h2⟩]
      obtain ⟨u, rfl⟩ : ∃ u : Nat, x = u := ⟨x.toNat, by omega⟩
      obtain ⟨v, rfl⟩ : ∃ v : Nat, y = v := ⟨y.toNat, by omega⟩
      rw [Int.toNat_natCast, Int.toNat_natCast]
      have c3 := hc_isHub (sx := sx) (sL := sL) (g := g) (d + 2) hA h (v := u) (by omega)
      have c4 := hc_isHub (sx := sx) (sL := sL) (g := g) (d + 2) hA h (v := v) (by omega)
      have c5 := hc_complete (sx := sx) (sL := sL) (g := g) (d + 3) hA h
      by_cases e : hn_hub a.1 u = true
      · rw [if_pos e] at c3
        rw [if_neg (fun q => by rw [e] at q; exact absurd q.1 (by decide))]
        exact ⟨I, hn_of rfl (hb_X6_change_0_5 (c1 := c1) (h2 := by decide) (c3 := c2) (h4 := by decide) (c5 := c3) (h6 := by decide)), h, hn_fC.rf⟩
      · rw [if_neg e] at c3
        by_cases e2 : hn_hub a.1 v = true
        · rw [if_pos e2] at c4
          by_cases e3 : hn_cmp a.1
          · rw [if_pos e3] at c5
            rw [if_pos ⟨by simpa using e, e2, e3⟩]
            have em := h.1.m hA.1
            have m256 := hn_m256 hA.1
            obtain ⟨I6, c6, b6⟩ := hm_total (sx := sx) (sL := sL) (k := k) (g := g) d hA.1 h.1 (hc_ho hA h) m256
            obtain ⟨u1, u2⟩ := hc_upk h b6
            have em6 := u1.1.m hA.1
            have t1 : hn_HS (hn_up I6 6 u (v : Int)) 1 (hn_w a.1 (42 + u) v) := u1.1.wa (by omega) (by omega) (by omega) (by omega)
            have i1 : hn_Iv (hn_w a.1 (42 + u) v) := hn_Iv_under hA.1 (by omega) (by omega) (by simpa using e) e2
            obtain ⟨I7, c7, b7⟩ := hm_total (sx := sx) (sL := sL) (k := k) (g := g) (p := hn_mv1 a.1 u v) (m := hn_hm a.1) d i1 t1 (fun w hw => by
              rw [hn_w_n (by omega)] at hw
              unfold hn_mv1
              by_cases q : w = u
              · subst q
                rw [hn_up_eq, if_pos rfl]
                omega
              · rw [hn_up_ne (Or.inr q), if_neg q]
                exact hc_ho hA u1 w hw) m256
            have ec : hn_cost (hn_w a.1 (42 + u) v) (hn_hm a.1) (hn_mv1 a.1 u v) = hn_cost a.1 (hn_hm a.1) (hn_mv1 a.1 u v) := hn_cost_w h8 (by omega) _ _ _
            rw [ec, ← em6] at c7
            rw [← em] at c6
            have b1 := hn_cost_b2 hA.1 (p := hn_ho a.1) (m := hn_hm a.1)
            have b2 := hn_cost_b2 hA.1 (p := hn_mv1 a.1 u v) (m := hn_hm a.1)
            refine ⟨_, hn_of rfl (hb_X6_change_0_4 (c1 := c1) (h2 := by decide) (c3 := c2) (h4 := by decide) (c5 := c3) (h6 := by decide) (c7 := c4) (h8 := by decide) (c9 := c5) (h10 := by decide) (c12 := c6) (c13 := c7)), ?_, ?_⟩
            · have key : ∀ c, c ≠ 46 → c ≠ 47 → ∀ j, hn_up I7 6 u (I 6 u) c j = I c j := fun c q1 q2 j => by
                by_cases q : c = 6 ∧ j = u
                · rw [q.1, q.2, hn_up_eq]
                · rw [hn_up_ne (by omega), b7 c q1 q2, hn_up_ne (by omega), b6 c q1 q2]
              exact (hc_upk h key).1
            · intro c hc j
              rw [hn_up_ne (Or.inl (by omega)), b7 c (by omega) (by omega), hn_up_ne (Or.inl (by omega)), b6 c (by omega) (by omega)]
          · rw [if_neg e3] at c5
            rw [if_neg (fun q => e3 q.2.2)]
            exact ⟨I, hn_of rfl (hb_X6_change_0_3 (c1 := c1) (h2 := by decide) (c3 := c2) (h4 := by decide) (c5 := c3) (h6 := by decide) (c7 := c4) (h8 := by decide) (c9 := c5) (h10 := by decide)), h, hn_fC.rf⟩
        · rw [if_neg e2] at c4
          rw [if_neg (fun q => e2 q.2.1)]
          exact ⟨I, hn_of rfl (hb_X6_change_0_2 (c1 := c1) (h2 := by decide) (c3 := c2) (h4 := by decide) (c5 := c3) (h6 := by decide) (c7 := c4) (h8 := by decide)), h, hn_fC.rf⟩
    · rw [if_neg h2] at c2
      rw [if_neg (fun q => h2 q.2)]
      exact ⟨I, hn_of rfl (hi_X6_change_0_1 (c1 := c1) (h2 := by decide) (c3 := c2) (h4 := by decide)), h, hn_fC.rf⟩
  · rw [if_neg h1] at c1
    rw [if_neg (fun q => h1 q.1)]
    exact ⟨I, hn_of rfl (hi_X6_change_0_0 (c1 := c1) (h2 := by decide)), h, hn_fC.rf⟩
end HX38
