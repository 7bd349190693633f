/-! the law's changesFit() -/
section HQ63
variable {sx : Nat → Int} {sL : Nat} {I : Nat → Nat → Int} {k : Nat → Option Nat} {g : Nat → Nat → Int64} {a : hn_AA}
theorem hq_push_c (h : List hn_S) (s : hn_S) : ∃ t : List hn_S, hn_push h s = t ++ [s] := ⟨_, rfl⟩
/-- undo() behind a recorded call -/
theorem hq_und (a : hn_AA) {r : Int} {t : hn_S} (hr : ¬ r < -1) : (hn_und (hn_rec a r t)).1 = a.1 ∧ (hn_und (hn_rec a r t)).2.2 = a.2.2 ∧ 0 ≤ hr_undo (hn_rec a r t) := by
  obtain ⟨u, e⟩ := hq_push_c a.2.1 a.1
  have e2 : (hn_rec a r t).2.1 = u ++ [a.1] := by
    show (if r < -1 then a.2.1 else hn_push a.2.1 a.1) = _
    rw [if_neg hr, e]
  rw [hn_und_c e2]
  refine ⟨rfl, rfl, ?_⟩
  unfold hr_undo
  rw [if_neg (by rw [e2]; simp), e2, List.length_append, List.length_singleton]
  omega
theorem hq_mchg (d : Nat) (hA : hn_AI a) (h : hn_HC I k a) (hc : hn_cmp a.1) {v x : Int} (hv : hn_isN a.1 v) (hx : hn_isN a.1 x) :
    ∃ I' k' a', hn_ret sx sL (d + 6) 100 [hn_vr 0, hn_vi v, hn_vi x] (hn_m I k g) (some (hn_vi 1)) (hn_m I' k' g) ∧ hn_HC I' k' a' ∧ hn_AI a' ∧ a'.1 = a.1 ∧ a'.2.2 = a.2.2 := by
  obtain ⟨I1, c1, H1, -⟩ := hc_cost (sx := sx) (sL := sL) (g := g) d hA h 0
  obtain ⟨I2, c2, H2, -⟩ := hc_change (sx := sx) (sL := sL) (g := g) d hA H1 v x
  have r0 := hb_L_changesFit_0_0 (sx := sx) (sL := sL) (C := hn_ret sx sL (d + 5)) (I := I) (k := k) (g := g) (x1 := v) (x2 := x) (c1 := c1) (c2 := c2)
  rcases hq_change hA.1 hc hv hx with e | ⟨e1, e2, e3⟩
  · refine ⟨I2, k, a, hn_of rfl (r0.tr ?_), H2, hA, rfl, rfl⟩
    exact hb_L_changesFit_14_0 (h1 := by rw [e]; decide) (h2 := e)
  · have ov : hr_ho a.1 v = a.1 (42 + v.toNat) := by
      unfold hr_ho
      rw [if_pos hv]
    have c3 := hc_hubOf (sx := sx) (sL := sL) (g := g) (d + 3) hA H2 v
    obtain ⟨I4, k4, c4, H4, -⟩ := hc_assign (sx := sx) (sL := sL) (g := g) (d + 1) hA H2 v x
    have h8 := hn_n8 hA.1
    have ob := (hA.1.2.2.2.2.1 v.toNat (by omega)).2.2.2.2
    have hA4 : hn_AI (hn_rec a (hr_under a.1 v x) (hs_under a.1 v x)) := hA.rec (hn_Iv_hs_under hA.1 v x)
    obtain ⟨I5, c5, H5, -⟩ := hc_cost (sx := sx) (sL := sL) (g := g) d hA4 H4 0
    have e5 : hr_cost (hn_rec a (hr_under a.1 v x) (hs_under a.1 v x)).1 0 = hr_cost (hs_under a.1 v x) 0 := rfl
    rw [e5] at c5
    have b0 := hq_cost_b hA.1 (p := hn_ho a.1) (m := hn_hm a.1)
    rw [← hq_cost0 hc] at b0
    have b5 : -4 ≤ hr_cost (hs_under a.1 v x) 0 ∧ hr_cost (hs_under a.1 v x) 0 ≤ 990240000 := by
      by_cases q : hn_cmp (hs_under a.1 v x)
      · have := hq_cost_b (hn_Iv_hs_under hA.1 v x) (p := hn_ho (hs_under a.1 v x)) (m := hn_hm (hs_under a.1 v x))
        rw [← hq_cost0 q] at this
        omega
      · rw [hq_costN q]
        omega
    obtain ⟨u1, u2, u3⟩ := hq_und a (r := hr_under a.1 v x) (t := hs_under a.1 v x) (by rw [e2]; omega)
    obtain ⟨I6, c6, H6, -⟩ := hc_undo (sx := sx) (sL := sL) (g := g) (d + 2) H5
    have hA6 := hA4.und
    have c7 := hc_hubOf (sx := sx) (sL := sL) (g := g) (d + 3) hA6 H6 v
    obtain ⟨I8, c8, H8, -⟩ := hc_cost (sx := sx) (sL := sL) (g := g) d hA6 H6 0
    rw [u1] at c7 c8
    have r1 := hb_L_changesFit_14_1 (sx := sx) (sL := sL) (C := hn_ret sx sL (d + 5)) (I := I2) (k := k) (g := g) (x1 := v) (x2 := x) (x3 := hr_cost a.1 0) (x4 := hr_change a.1 v x) (h1 := by omega)
    have r2 := hb_L_changesFit_32_0 (sx := sx) (sL := sL) (C := hn_ret sx sL (d + 5)) (I := I2) (k := k) (g := g) (x1 := v) (x2 := x) (x3 := hr_cost a.1 0) (x4 := hr_change a.1 v x) (c1 := c3) (c2 := c4) (h3 := by rw [e2, ov]) (c4 := c5) (h5 := by omega) (h6 := by omega) (h7 := e3)
    have r3 := hb_L_changesFit_67_0 (sx := sx) (sL := sL) (C := hn_ret sx sL (d + 5)) (I := I5) (k := k4) (g := g) (x1 := v) (x3 := hr_cost a.1 0) (x5 := hr_ho a.1 v) (c1 := c6) (h2 := by omega) (c3 := c7) (h4 := rfl) (c5 := c8) (h6 := rfl)
    exact ⟨I8, k4, _, hn_of rfl (r0.tr (r1.tr (r2.tr r3))), H8, hA6, u1, u2⟩
end HQ63
