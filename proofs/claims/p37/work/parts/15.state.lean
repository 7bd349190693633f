/-! the class's State, and the two small functions beside it -/
section HX4
variable {sx : Nat → Int} {sL : Nat} {I : Nat → Nat → Int} {k : Nat → Option Nat} {g : Nat → Nat → Int64} {s : hn_S}
theorem hn_of {m d : Nat} {ls : hn_Ls} {as : List hn_V} {M M' : hn_Mem} {r : Option hn_V} (e : hn_loc0 (hn_ml m) as = ls) (h : hn_go sx sL (hn_ret sx sL d) (hn_nx m 0 ls [] M) (.inr (r, M'))) : hn_ret sx sL (d + 1) m as M r M' := by
  subst e
  exact h
theorem hm_inRange (d : Nat) (x lo hi : Int) : hn_ret sx sL (d + 1) 94 [hn_vi x, hn_vi lo, hn_vi hi] (hn_m I k g) (some (hn_vi (if lo ≤ x ∧ x ≤ hi then 1 else 0))) (hn_m I k g) := by
  refine hn_of rfl ?_
  by_cases h1 : x < lo
  · rw [if_neg (by omega)]
    exact hb_X6_inRange_0_0 h1
  · by_cases h2 : hi < x
    · rw [if_neg (by omega)]
      exact hb_X6_inRange_0_1 h1 h2
    · rw [if_pos (by omega)]
      exact hb_X6_inRange_0_2 h1 h2
theorem hm_contains (d : Nat) {m v : Nat} (hm : m < 256) (hv : v < 8) : hn_ret sx sL (d + 1) 95 [hn_vi m, hn_vi v] (hn_m I k g) (some (hn_vi (if m.testBit v then 1 else 0))) (hn_m I k g) := by
  have e := hn_bit m hm v hv
  refine hn_of rfl ?_
  by_cases h : m.testBit v = true
  · rw [if_pos h] at e ⊢
    exact hb_X6_contains_0_1 (by rw [e]; decide)
  · rw [if_neg h] at e ⊢
    exact hb_X6_contains_0_0 e
theorem hm_has (d : Nat) {n : Nat} (hn : I 1 0 = n) (x : Int) : hn_ret sx sL (d + 1) 37 [hn_vr 1, hn_vi x] (hn_m I k g) (some (hn_vi (if 0 ≤ x ∧ x < n then 1 else 0))) (hn_m I k g) := by
  refine hn_of rfl ?_
  by_cases h1 : x < 0
  · rw [if_neg (by omega)]
    exact hb_X4_has_0_0 h1
  · by_cases h2 : x < I 1 0
    · rw [if_pos (by omega)]
      exact hb_X4_has_0_1 h1 h2
    · rw [if_neg (by omega)]
      exact hb_X4_has_0_2 h1 h2
theorem hm_isHub (d : Nat) {n m v : Nat} (hn : I 1 0 = n) (h8 : n ≤ 8) (hm : I 1 7 = m) (hm2 : m < 256) (hv : v < n) : hn_ret sx sL (d + 2) 38 [hn_vr 1, hn_vi v] (hn_m I k g) (some (hn_vi (if m.testBit v then 1 else 0))) (hn_m I k g) := by
  have c1 := hm_has (sx := sx) (sL := sL) (k := k) (g := g) d hn v
  rw [if_pos (by omega)] at c1
  have c2 := hm_contains (sx := sx) (sL := sL) (I := I) (k := k) (g := g) d hm2 (v := v) (by omega)
  rw [← hm] at c2
  refine hn_of rfl ?_
  by_cases h : m.testBit v = true
  · rw [if_pos h] at c2 ⊢
    exact hb_X4_isHub_0_2 c1 (by decide) c2 (by decide)
  · rw [if_neg h] at c2 ⊢
    exact hb_X4_isHub_0_1 c1 (by decide) c2 (by decide)
theorem hm_isHubNo (d : Nat) {n : Nat} (hn : I 1 0 = n) {x : Int} (hx : ¬ (0 ≤ x ∧ x < n)) : hn_ret sx sL (d + 2) 38 [hn_vr 1, hn_vi x] (hn_m I k g) (some (hn_vi 0)) (hn_m I k g) := by
  have c1 := hm_has (sx := sx) (sL := sL) (k := k) (g := g) d hn x
  rw [if_neg hx] at c1
  exact hn_of rfl (hb_X4_isHub_0_0 c1 (by decide))
theorem hm_allNodes (d : Nat) {n : Nat} (hn : I 1 0 = n) (h8 : n ≤ 8) : hn_ret sx sL (d + 1) 39 [hn_vr 1] (hn_m I k g) (some (hn_vi (((2 ^ n : Nat) : Int) - 1))) (hn_m I k g) := by
  have e := hn_pow n (by omega)
  have h2 : 2 ^ n ≤ 2 ^ 8 := Nat.pow_le_pow_right (by omega) h8
  obtain ⟨q, hq⟩ : ∃ q, q = 2 ^ n := ⟨_, rfl⟩
  rw [← hq] at h2 e ⊢
  have r := hb_X4_allNodes_0_0 (sx := sx) (sL := sL) (C := hn_ret sx sL d) (I := I) (k := k) (g := g) (by rw [hn, e]; omega)
  rw [hn, e] at r
  exact hn_of rfl r
theorem hm_complete1 (d : Nat) {n : Nat} (hn : I 1 0 = n) (h8 : n ≤ 8) (hh : ∀ v, v < n → I 6 v ≠ -1) (hm : I 1 7 ≠ 0) : hn_ret sx sL (d + 1) 40 [hn_vr 1] (hn_m I k g) (some (hn_vi 1)) (hn_m I k g) :=
  hn_of rfl (hb_X4_isComplete_0_0.tr ((hn_for (fun i => hn_nx 40 2 [some (hn_vr 1), some (hn_vi (i : Int))] [] (hn_m I k g)) n (fun i hi => hb_X4_isComplete_2_1 (by rw [hn]; omega) (by omega) (hh i hi))).tr (hb_X4_isComplete_2_3 (by rw [hn]; omega) hm)))
theorem hm_complete0 (d : Nat) {n : Nat} (hn : I 1 0 = n) (h8 : n ≤ 8) (hz : (∃ v, v < n ∧ I 6 v = -1) ∨ I 1 7 = 0) : hn_ret sx sL (d + 1) 40 [hn_vr 1] (hn_m I k g) (some (hn_vi 0)) (hn_m I k g) := by
  by_cases hx : ∃ v, v < n ∧ I 6 v = -1
  · obtain ⟨v, ⟨hv, hv2⟩, hl⟩ := pk_least _ hx
    exact hn_of rfl (hb_X4_isComplete_0_0.tr ((hn_for (fun i => hn_nx 40 2 [some (hn_vr 1), some (hn_vi (i : Int))] [] (hn_m I k g)) v (fun i hi => hb_X4_isComplete_2_1 (by rw [hn]; omega) (by omega) (fun q => hl i hi ⟨by omega, q⟩))).tr (hb_X4_isComplete_2_0 (by rw [hn]; omega) (by omega) hv2)))
  · have hm : I 1 7 = 0 := hz.resolve_left hx
    exact hn_of rfl (hb_X4_isComplete_0_0.tr ((hn_for (fun i => hn_nx 40 2 [some (hn_vr 1), some (hn_vi (i : Int))] [] (hn_m I k g)) n (fun i hi => hb_X4_isComplete_2_1 (by rw [hn]; omega) (by omega) (fun q => hx ⟨i, hi, q⟩))).tr (hb_X4_isComplete_2_2 (by rw [hn]; omega) hm)))
theorem hm_gap (d : Nat) (hI : hn_Iv s) (h : hn_HS I 1 s) {a b : Nat} (ha : a < 8) (hb : b < 8) : hn_ret sx sL (d + 1) 41 [hn_vr 1, hn_vi a, hn_vi b] (hn_m I k g) (some (hn_vi (hn_gp s a b))) (hn_m I k g) := by
  have e1 : I 2 a = s (10 + a) := h.2.2.2.1 a ha
  have e2 : I 2 b = s (10 + b) := h.2.2.2.1 b hb
  have e3 : I 3 a = s (18 + a) := h.2.2.2.2.1 a ha
  have e4 : I 3 b = s (18 + b) := h.2.2.2.2.1 b hb
  have b1 := hI.2.2.2.2.1 a ha
  have b2 := hI.2.2.2.2.1 b hb
  rw [show hn_gp s a b = (Int.natAbs (I 2 a - I 2 b) : Int) + (Int.natAbs (I 3 a - I 3 b) : Int) by rw [e1, e2, e3, e4]; rfl]
  rw [← e1, ← e3] at b1
  rw [← e2, ← e4] at b2
  exact hn_of rfl hb_X4_gap_0_0
theorem hn_HS.n (hI : hn_Iv s) (h : hn_HS I 1 s) : I 1 0 = (hn_n s : Int) := h.1.trans (hn_n0 hI)
theorem hn_HS.m (hI : hn_Iv s) (h : hn_HS I 1 s) : I 1 7 = (hn_hm s : Int) := h.2.1.trans hI.2.1.1
theorem hn_m256 (hI : hn_Iv s) : hn_hm s < 256 := Nat.lt_of_lt_of_le hI.2.1.2 (Nat.pow_le_pow_right (n := 2) (by omega) (hn_n8 hI) : 2 ^ hn_n s ≤ 2 ^ 8)
theorem hn_HS.f (h : hn_HS I 1 s) {a b : Nat} (ha : a < 8) (hb : b < 8) : I 7 (a * 8 + b) = hn_fl s a b := by
  rw [Nat.mul_comm]
  exact h.2.2.2.2.2.2.2.2 (8 * a + b) (by omega)
theorem hm_flowFrom (d : Nat) (hI : hn_Iv s) (h : hn_HS I 1 s) {v : Nat} (hv : v < 8) : hn_ret sx sL (d + 1) 42 [hn_vr 1, hn_vi v] (hn_m I k g) (some (hn_vi (hn_out s v))) (hn_m I k g) := by
  have hn := h.n hI
  have h8 := hn_n8 hI
  refine hn_of rfl (hb_X4_flowFrom_0_0.tr ((hn_for (fun i => hn_nx 42 4 [some (hn_vr 1), some (hn_vi v), some (hn_vi (hn_sm i (fun b => hn_fl s v b))), some (hn_vi (i : Int))] [] (hn_m I k g)) (hn_n s) (fun i hi => ?_)).tr (hb_X4_flowFrom_4_1 (by rw [hn]; omega))))
  have e := h.f hv (b := i) (by omega)
  have b1 := hn_fl_b hI hv (b := i) (by omega)
  have b2 := hn_sm_b8 (n := i) (c := 100) (by omega) (by omega) (fun j hj => hn_fl_b hI hv (b := j) (by omega))
  rw [← e] at b1
  have r := hb_X4_flowFrom_4_0 (sx := sx) (sL := sL) (C := hn_ret sx sL d) (I := I) (k := k) (g := g) (n1 := v) (x2 := hn_sm i (fun b => hn_fl s v b)) (n3 := i) (by rw [hn]; omega)
  rw [e] at r
  exact r
theorem hm_flowTo (d : Nat) (hI : hn_Iv s) (h : hn_HS I 1 s) {v : Nat} (hv : v < 8) : hn_ret sx sL (d + 1) 43 [hn_vr 1, hn_vi v] (hn_m I k g) (some (hn_vi (hn_inn s v))) (hn_m I k g) := by
  have hn := h.n hI
  have h8 := hn_n8 hI
  refine hn_of rfl (hb_X4_flowTo_0_0.tr ((hn_for (fun i => hn_nx 43 4 [some (hn_vr 1), some (hn_vi v), some (hn_vi (hn_sm i (fun a => hn_fl s a v))), some (hn_vi (i : Int))] [] (hn_m I k g)) (hn_n s) (fun i hi => ?_)).tr (hb_X4_flowTo_4_1 (by rw [hn]; omega))))
  have e := h.f (a := i) (by omega) hv
  have b1 := hn_fl_b hI (a := i) (by omega) hv
  have b2 := hn_sm_b8 (n := i) (c := 100) (by omega) (by omega) (fun j hj => hn_fl_b hI (a := j) (by omega) hv)
  rw [← e] at b1
  have r := hb_X4_flowTo_4_0 (sx := sx) (sL := sL) (C := hn_ret sx sL d) (I := I) (k := k) (g := g) (n1 := v) (x2 := hn_sm i (fun a => hn_fl s a v)) (n3 := i) (by rw [hn]; omega)
  rw [e] at r
  exact r
end HX4
