/-! the law's loops, its beginning and its end -/
section HQ65
variable {sx : Nat → Int} {sL : Nat} {I : Nat → Nat → Int} {k : Nat → Option Nat} {g : Nat → Nat → Int64}
theorem hq_fitsStep (d : Nat) {n i : Nat} {x4 : Int} (hi : i < 100) (h : hq_L n (I, k)) : hq_J sx sL d 338 n x4 (i + 1) g (hq_at 842 n x4 i I k g) := by
  obtain ⟨a, hA, H, hn, ht⟩ := h
  obtain ⟨I1, c1, H1⟩ := hq_mfits (sx := sx) (sL := sL) (g := g) d hA H
  have r1 := hb_L_law_842_0 (sx := sx) (sL := sL) (C := hn_ret sx sL (d + 14)) (I := I) (k := k) (g := g) (x3 := (n : Int)) (x4 := x4) (n5 := i) (c1 := c1) (h2 := by decide)
  exact ⟨I1, k, r1.tr (hb_L_law_851_0 (h1 := by omega)), a, hA, H1, hn, ht⟩
theorem hq_J.tr {d pc n : Nat} {x4 : Int} {i : Nat} {a b : hn_St} (h : hn_go sx sL (hn_ret sx sL (d + 14)) a b) (q : hq_J sx sL d pc n x4 i g b) : hq_J sx sL d pc n x4 i g a := by
  obtain ⟨I', k', r, l⟩ := q
  exact ⟨I', k', h.tr r, l⟩
/-- one step, whatever its kind -/
theorem hq_step (d : Nat) {n i : Nat} {x4 : Int} (h : hq_L n (I, k)) (hn : 1 ≤ n ∧ n ≤ 5) (hi : (i : Int) < x4) (hx : x4 ≤ 16) : hq_J sx sL d 338 n x4 (i + 1) g (hq_at 338 n x4 i I k g) := by
  have c1 := hq_mcell (sx := sx) (sL := sL) (I := I) (k := k) (g := g) (d + 13) (x := 20 + (i : Int)) (by omega)
  have r1 := hb_L_law_338_0 (sx := sx) (sL := sL) (C := hn_ret sx sL (d + 14)) (I := I) (k := k) (g := g) (x3 := (n : Int)) (x4 := x4) (n5 := i) (h1 := hi) (h2 := by omega) (c3 := c1)
  obtain ⟨y, hy⟩ : ∃ y, y = hq_cell sx sL (20 + (i : Int)) := ⟨_, rfl⟩
  rw [← hy] at r1
  have c2 := hq_mlow (sx := sx) (sL := sL) (I := I) (k := k) (g := g) (d + 13) (hn_shr y 3) (n := (n : Int)) (by omega)
  have c3 := hq_mlow (sx := sx) (sL := sL) (I := I) (k := k) (g := g) (d + 13) (hn_shr y 7) (n := (n : Int)) (by omega)
  have bv := hq_low_b (hn_shr y 3) (n := (n : Int)) (by omega)
  have bw := hq_low_b (hn_shr y 7) (n := (n : Int)) (by omega)
  obtain ⟨v, hv⟩ : ∃ v, v = hq_low (hn_shr y 3) (n : Int) := ⟨_, rfl⟩
  obtain ⟨w, hw⟩ : ∃ w, w = hq_low (hn_shr y 7) (n : Int) := ⟨_, rfl⟩
  rw [← hv] at c2 bv
  rw [← hw] at c3 bw
  have r2 := hb_L_law_356_0 (sx := sx) (sL := sL) (C := hn_ret sx sL (d + 14)) (I := I) (k := k) (g := g) (x3 := (n : Int)) (x4 := x4) (n5 := i) (x6 := y) (c1 := c2) (c2 := c3)
  have key : hq_J sx sL d 842 n x4 i g (hn_nx 168 384 [some hn_vs, some (hn_vr 0), none, some (hn_vi (n : Int)), some (hn_vi x4), some (hn_vi (i : Int)), some (hn_vi y), some (hn_vi v), some (hn_vi w), some (hn_vi (hn_and y 7)), none, none, none, none] [] (hn_m I k g)) := by
    by_cases e0 : hn_and y 7 < 3
    · exact hq_J.tr (hb_L_law_384_0 (h1 := e0)) (hq_k0 d h bv)
    refine hq_J.tr (hb_L_law_384_1 (h1 := e0)) ?_
    by_cases e3 : hn_and y 7 = 3
    · exact hq_J.tr (hb_L_law_432_0 (h1 := e3)) (hq_k3 d h bv)
    refine hq_J.tr (hb_L_law_432_1 (h1 := e3)) ?_
    by_cases e4 : hn_and y 7 = 4
    · exact hq_J.tr (hb_L_law_470_0 (h1 := e4)) (hq_k4 d h bv bw)
    refine hq_J.tr (hb_L_law_470_1 (h1 := e4)) ?_
    by_cases e5 : hn_and y 7 = 5
    · exact hq_J.tr (hb_L_law_497_0 (h1 := e5)) (hq_k5 d h)
    refine hq_J.tr (hb_L_law_497_1 (h1 := e5)) ?_
    by_cases e6 : hn_and y 7 = 6
    · exact hq_J.tr (hb_L_law_598_0 (h1 := e6)) (hq_k6 d h)
    exact hq_J.tr (hb_L_law_598_1 (h1 := e6)) (hq_k7 d h)
  obtain ⟨I1, k1, r3, L1⟩ := key
  exact hq_J.tr (r1.tr (r2.tr r3)) (hq_fitsStep d (by omega) L1)
/-- all steps -/
theorem hq_steps (d : Nat) {n : Nat} {x4 : Int} (h : hq_L n (I, k)) (hn : 1 ≤ n ∧ n ≤ 5) (h0 : 0 ≤ x4) (hx : x4 ≤ 16) : ∃ I' k', hn_go sx sL (hn_ret sx sL (d + 14)) (hq_at 338 n x4 0 I k g) (hn_nx 168 857 [none, some (hn_vr 0), none, some (hn_vi (n : Int)), none, none, none, none, none, none, none, none, none, none] [] (hn_m I' k' g)) ∧ hq_L n (I', k') := by
  obtain ⟨y, r1, L1⟩ := hn_forE (sx := sx) (sL := sL) (C := hn_ret sx sL (d + 14)) (fun i (x : (Nat → Nat → Int) × (Nat → Option Nat)) => hq_at 338 n x4 i x.1 x.2 g) (fun _ x => hq_L n x) x4.toNat (fun i x hi hL => by
    obtain ⟨I1, k1, r, L⟩ := hq_step (sx := sx) (sL := sL) (g := g) d (I := x.1) (k := x.2) (n := n) (i := i) (x4 := x4) hL hn (by omega) hx
    exact ⟨(I1, k1), r, L⟩) (I, k) h
  exact ⟨y.1, y.2, r1.tr (hb_L_law_338_1 (h1 := by omega)), L1⟩
/-- the nodes -/
theorem hq_nodes (d : Nat) {n : Nat} {z : Int} (hn : 1 ≤ n ∧ n ≤ 5) (h : hq_L 0 (I, k)) : ∃ I' k', hn_go sx sL (hn_ret sx sL (d + 14)) (hn_nx 168 61 [some hn_vs, some (hn_vr 0), some (hn_vi z), some (hn_vi (n : Int)), some (hn_vi 0), none, none, none, none, none, none, none, none, none] [] (hn_m I k g))
    (hn_nx 168 147 [some hn_vs, some (hn_vr 0), some (hn_vi z), some (hn_vi (n : Int)), none, none, none, none, none, none, none, none, none, none] [] (hn_m I' k' g)) ∧ hq_L n (I', k') := by
  obtain ⟨y, r1, L1⟩ := hn_forE (sx := sx) (sL := sL) (C := hn_ret sx sL (d + 14)) (fun i (x : (Nat → Nat → Int) × (Nat → Option Nat)) => hn_nx 168 61 [some hn_vs, some (hn_vr 0), some (hn_vi z), some (hn_vi (n : Int)), some (hn_vi (i : Int)), none, none, none, none, none, none, none, none, none] [] (hn_m x.1 x.2 g)) (fun i x => hq_L i x) n (fun i x hi hL => by
    obtain ⟨a, hA, H, en, ht⟩ := hL
    have c0 := hq_mcell (sx := sx) (sL := sL) (I := x.1) (k := x.2) (g := g) (d + 13) (x := 1 + (i : Int)) (by omega)
    have s1 := hb_L_law_61_0 (sx := sx) (sL := sL) (C := hn_ret sx sL (d + 14)) (I := x.1) (k := x.2) (g := g) (x2 := z) (x3 := (n : Int)) (n4 := i) (h1 := by omega) (h2 := by omega) (c3 := c0)
    obtain ⟨y, hy⟩ : ∃ y, y = hq_cell sx sL (1 + (i : Int)) := ⟨_, rfl⟩
    rw [← hy] at s1
    have c1 := hq_mlow (sx := sx) (sL := sL) (I := x.1) (k := x.2) (g := g) (d + 13) y (n := 100) (by omega)
    have c2 := hq_mlow (sx := sx) (sL := sL) (I := x.1) (k := x.2) (g := g) (d + 13) (hn_shr y 7) (n := 100) (by omega)
    have c3 := hq_mlow (sx := sx) (sL := sL) (I := x.1) (k := x.2) (g := g) (d + 13) (hn_shr y 14) (n := 5000) (by omega)
    have b1 := hq_low_b y (n := 100) (by omega)
    have b2 := hq_low_b (hn_shr y 7) (n := 100) (by omega)
    have b3 := hq_low_b (hn_shr y 14) (n := 5000) (by omega)
    by_cases e : hn_and (hn_shr z 4) 1 = 0
    · have c4 := hq_mlow (sx := sx) (sL := sL) (I := x.1) (k := x.2) (g := g) (d + 13) (hn_shr y 20) (n := 900) (by omega)
      have b4 := hq_low_b (hn_shr y 20) (n := 900) (by omega)
      obtain ⟨I1, k1, c5, H1, -⟩ := hc_addNode (sx := sx) (sL := sL) (g := g) (d + 10) hA H (hq_low y 100) (hq_low (hn_shr y 7) 100) (hq_low (hn_shr y 14) 5000) (hq_low (hn_shr y 20) 900)
      obtain ⟨m1, m2⟩ := hq_add (s := a.1) (x := hq_low y 100) (y := hq_low (hn_shr y 7) 100) (o := hq_low (hn_shr y 14) 5000) (c := hq_low (hn_shr y 20) 900) (by omega) (by omega)
      have s2 := hb_L_law_77_0 (sx := sx) (sL := sL) (C := hn_ret sx sL (d + 14)) (I := x.1) (k := x.2) (g := g) (x2 := z) (x3 := (n : Int)) (n4 := i) (x5 := y) (c1 := c1) (c2 := c2) (c3 := c3) (h4 := e) (c5 := c4) (c6 := c5) (h7 := by rw [m1, en]) (h8 := by omega)
      exact ⟨(I1, k1), s1.tr s2, _, hA.rec (hn_Iv_hs_add hA.1 _ _ _ _), H1, by show hn_n (hs_add _ _ _ _ _) = i + 1; rw [m2, en], ht⟩
    · have c4 := hq_mlow (sx := sx) (sL := sL) (I := x.1) (k := x.2) (g := g) (d + 13) (hn_shr y 20) (n := 200) (by omega)
      have b4 := hq_low_b (hn_shr y 20) (n := 200) (by omega)
      obtain ⟨I1, k1, c5, H1, -⟩ := hc_addNode (sx := sx) (sL := sL) (g := g) (d + 10) hA H (hq_low y 100) (hq_low (hn_shr y 7) 100) (hq_low (hn_shr y 14) 5000) (hq_low (hn_shr y 20) 200)
      obtain ⟨m1, m2⟩ := hq_add (s := a.1) (x := hq_low y 100) (y := hq_low (hn_shr y 7) 100) (o := hq_low (hn_shr y 14) 5000) (c := hq_low (hn_shr y 20) 200) (by omega) (by omega)
      have s2 := hb_L_law_77_1 (sx := sx) (sL := sL) (C := hn_ret sx sL (d + 14)) (I := x.1) (k := x.2) (g := g) (x2 := z) (x3 := (n : Int)) (n4 := i) (x5 := y) (c1 := c1) (c2 := c2) (c3 := c3) (h4 := e) (c5 := c4) (c6 := c5) (h7 := by rw [m1, en]) (h8 := by omega)
      exact ⟨(I1, k1), s1.tr s2, _, hA.rec (hn_Iv_hs_add hA.1 _ _ _ _), H1, by show hn_n (hs_add _ _ _ _ _) = i + 1; rw [m2, en], ht⟩) (I, k) h
  exact ⟨y.1, y.2, r1.tr (hb_L_law_61_1 (h1 := by omega)), L1⟩
/-- the settings -/
theorem hq_sets (d : Nat) {n : Nat} {z : Int} (h : hq_L n (I, k)) : ∃ I' k', hn_go sx sL (hn_ret sx sL (d + 14)) (hn_nx 168 147 [some hn_vs, some (hn_vr 0), some (hn_vi z), some (hn_vi (n : Int)), none, none, none, none, none, none, none, none, none, none] [] (hn_m I k g))
    (hn_nx 168 243 [some hn_vs, some (hn_vr 0), none, some (hn_vi (n : Int)), some (hn_vi 0), none, none, none, none, none, none, none, none, none] [] (hn_m I' k' g)) ∧ hq_L n (I', k') := by
  obtain ⟨a, hA, H, en, ht⟩ := h
  have b1 := hq_low_b (hn_shr z 5) (n := 200) (by omega)
  have b3 := hq_low_b (hn_shr z 11) (n := 200) (by omega)
  have b5 := hq_low_b (hn_shr z 21) (n := 100) (by omega)
  obtain ⟨I1, k1, c5, H1, -⟩ := hc_setFactors (sx := sx) (sL := sL) (g := g) (d + 10) hA H (1 + hq_low (hn_shr z 5) 200) (hq_low (hn_shr z 8) 101) (1 + hq_low (hn_shr z 11) 200) (hq_low (hn_shr z 14) 150)
  have hA1 := hA.rec (r := hr_fac a.1 (1 + hq_low (hn_shr z 5) 200) (hq_low (hn_shr z 8) 101) (1 + hq_low (hn_shr z 11) 200) (hq_low (hn_shr z 14) 150)) (hn_Iv_hs_fac hA.1 (1 + hq_low (hn_shr z 5) 200) (hq_low (hn_shr z 8) 101) (1 + hq_low (hn_shr z 11) 200) (hq_low (hn_shr z 14) 150))
  have s1 := hb_L_law_147_0 (sx := sx) (sL := sL) (C := hn_ret sx sL (d + 14)) (I := I) (k := k) (g := g) (x2 := z) (x3 := (n : Int)) (c1 := hq_mlow (d + 13) (hn_shr z 5) (n := 200) (by omega)) (h2 := by omega) (c3 := hq_mlow (d + 13) (hn_shr z 8) (n := 101) (by omega)) (c4 := hq_mlow (d + 13) (hn_shr z 11) (n := 200) (by omega)) (h5 := by omega) (c6 := hq_mlow (d + 13) (hn_shr z 14) (n := 150) (by omega)) (c7 := c5)
  obtain ⟨I2, k2, c6, H2, -⟩ := hc_setCongestion (sx := sx) (sL := sL) (g := g) (d + 10) hA1 H1 (hq_low (hn_shr z 17) 100) (hq_low (hn_shr z 19) 200) (100 + hq_low (hn_shr z 21) 100) (hq_low (hn_shr z 23) 300)
  have s2 := hb_L_law_194_0 (sx := sx) (sL := sL) (C := hn_ret sx sL (d + 14)) (I := I1) (k := k1) (g := g) (x2 := z) (x3 := (n : Int)) (c1 := hq_mlow (d + 13) (hn_shr z 17) (n := 100) (by omega)) (c2 := hq_mlow (d + 13) (hn_shr z 19) (n := 200) (by omega)) (c3 := hq_mlow (d + 13) (hn_shr z 21) (n := 100) (by omega)) (h4 := by omega) (c5 := hq_mlow (d + 13) (hn_shr z 23) (n := 300) (by omega)) (c6 := c6)
  exact ⟨I2, k2, s1.tr (s2.tr hb_L_law_240_0), _, hA1.rec (hn_Iv_hs_con hA1.1 _ _ _ _), H2, (hq_n_con _ _ _ _).trans ((hq_n_fac _ _ _ _).trans en), ht⟩
/-- the flows -/
theorem hq_mod {n x t : Int} (hn : 2 ≤ n ∧ n ≤ 5) (hx : 0 ≤ x ∧ x < n) (ht : 0 ≤ t ∧ t < n - 1) : (0 ≤ (x + 1 + t) % n ∧ (x + 1 + t) % n < n) ∧ x ≠ (x + 1 + t) % n := by
  have h : n = 2 ∨ n = 3 ∨ n = 4 ∨ n = 5 := by omega
  rcases h with e | e | e | e <;> subst e <;> omega
theorem hq_flows (d : Nat) {n : Nat} (hn : 1 ≤ n ∧ n ≤ 5) (h : hq_L n (I, k)) : ∃ I' k', hn_go sx sL (hn_ret sx sL (d + 14)) (hn_nx 168 243 [some hn_vs, some (hn_vr 0), none, some (hn_vi (n : Int)), some (hn_vi 0), none, none, none, none, none, none, none, none, none] [] (hn_m I k g))
    (hn_nx 168 322 [some hn_vs, some (hn_vr 0), none, some (hn_vi (n : Int)), none, none, none, none, none, none, none, none, none, none] [] (hn_m I' k' g)) ∧ hq_L n (I', k') := by
  by_cases h1 : 1 < (n : Int)
  · obtain ⟨y, r1, L1⟩ := hn_forE (sx := sx) (sL := sL) (C := hn_ret sx sL (d + 14)) (fun i (x : (Nat → Nat → Int) × (Nat → Option Nat)) => hn_nx 168 243 [some hn_vs, some (hn_vr 0), none, some (hn_vi (n : Int)), some (hn_vi (i : Int)), none, none, none, none, none, none, none, none, none] [] (hn_m x.1 x.2 g)) (fun _ x => hq_L n x) 12 (fun i x hi hL => by
      obtain ⟨a, hA, H, en, ht⟩ := hL
      have c0 := hq_mcell (sx := sx) (sL := sL) (I := x.1) (k := x.2) (g := g) (d + 13) (x := 7 + (i : Int)) (by omega)
      have s1 := hb_L_law_243_0 (sx := sx) (sL := sL) (C := hn_ret sx sL (d + 14)) (I := x.1) (k := x.2) (g := g) (x3 := (n : Int)) (n4 := i) (h1 := by omega) (h2 := h1) (h3 := by omega) (c4 := c0)
      obtain ⟨y, hy⟩ : ∃ y, y = hq_cell sx sL (7 + (i : Int)) := ⟨_, rfl⟩
      rw [← hy] at s1
      have c1 := hq_mlow (sx := sx) (sL := sL) (I := x.1) (k := x.2) (g := g) (d + 13) y (n := (n : Int)) (by omega)
      have c2 := hq_mlow (sx := sx) (sL := sL) (I := x.1) (k := x.2) (g := g) (d + 13) (hn_shr y 4) (n := (n : Int) - 1) (by omega)
      have c3 := hq_mlow (sx := sx) (sL := sL) (I := x.1) (k := x.2) (g := g) (d + 13) (hn_shr y 8) (n := 101) (by omega)
      have b1 := hq_low_b y (n := (n : Int)) (by omega)
      have b2 := hq_low_b (hn_shr y 4) (n := (n : Int) - 1) (by omega)
      have b3 := hq_low_b (hn_shr y 8) (n := 101) (by omega)
      have bm := hq_mod (n := (n : Int)) (x := hq_low y (n : Int)) (t := hq_low (hn_shr y 4) ((n : Int) - 1)) (by omega) b1 b2
      have s2 := hb_L_law_266_0 (sx := sx) (sL := sL) (C := hn_ret sx sL (d + 14)) (I := x.1) (k := x.2) (g := g) (x3 := (n : Int)) (n4 := i) (x5 := y) (c1 := c1) (h2 := by omega) (h3 := by omega) (c4 := c2) (h5 := by omega) (h6 := by omega)
      obtain ⟨I1, k1, c5, H1, -⟩ := hc_setFlow (sx := sx) (sL := sL) (g := g) (d + 10) hA H (hq_low y (n : Int)) ((hq_low y (n : Int) + 1 + hq_low (hn_shr y 4) ((n : Int) - 1)) % (n : Int)) (hq_low (hn_shr y 8) 101)
      have rr := hq_flow_r hA.1 (x := hq_low y (n : Int)) (y := (hq_low y (n : Int) + 1 + hq_low (hn_shr y 4) ((n : Int) - 1)) % (n : Int)) (f := hq_low (hn_shr y 8) 101) (by unfold hn_isN; rw [en]; exact b1) (by unfold hn_isN; rw [en]; exact bm.1) bm.2 (by omega)
      have s3 := hb_L_law_293_0 (sx := sx) (sL := sL) (C := hn_ret sx sL (d + 14)) (I := x.1) (k := x.2) (g := g) (x3 := (n : Int)) (n4 := i) (x5 := y) (x6 := hq_low y (n : Int)) (x7 := (hq_low y (n : Int) + 1 + hq_low (hn_shr y 4) ((n : Int) - 1)) % (n : Int)) (c1 := c3) (c2 := c5) (h3 := rr) (h4 := by omega)
      exact ⟨(I1, k1), s1.tr (s2.tr s3), _, hA.rec (hn_Iv_hs_flow hA.1 _ _ _), H1, (hq_n_flow _ _ _).trans en, ht⟩) (I, k) h
    exact ⟨y.1, y.2, r1.tr (hb_L_law_243_2 (h1 := by omega)), L1⟩
  · exact ⟨I, k, hb_L_law_243_1 (n4 := 0) (h1 := by decide) (h2 := h1), h⟩
/-- the end: errors change nothing -/
theorem hq_par0 (t : Nat → Int) : (hn_par t 0 41 0).2 = 0 := rfl
theorem hq_end (d : Nat) {n : Nat} (hn : 1 ≤ n ∧ n ≤ 5) (h : hq_L n (I, k)) : ∃ I' k', hn_go sx sL (hn_ret sx sL (d + 14)) (hn_nx 168 857 [none, some (hn_vr 0), none, some (hn_vi (n : Int)), none, none, none, none, none, none, none, none, none, none] [] (hn_m I k g)) (.inr (some (hn_vi 1), hn_m I' k' g)) := by
  obtain ⟨a, hA, H, en, ht⟩ := h
  have c0 := hc_digest (sx := sx) (sL := sL) (g := g) (d + 11) hA H
  have s0 := hb_L_law_857_0 (sx := sx) (sL := sL) (C := hn_ret sx sL (d + 14)) (I := I) (k := k) (g := g) (x3 := (n : Int)) (c1 := c0)
  have r1 : hr_flow a.1 0 0 1 = -3 := by
    unfold hr_flow hn_isN
    rw [if_pos (by rw [en]; omega), if_neg (by simp)]
  have r2 : hr_flow a.1 0 (n : Int) 1 = -2 := by
    unfold hr_flow hn_isN
    rw [if_neg (by rw [en]; omega)]
  have r3 : hr_add a.1 100 0 0 0 = -3 := by
    unfold hr_add
    rw [if_neg (by omega)]
  have r4 : hr_least a.1 0 = -3 := by
    unfold hr_least
    rw [if_neg (by unfold hn_isM; omega)]
  have r5 : hr_feas a.1 (hn_shl 1 (n : Int)) = -3 := by
    unfold hr_feas
    rw [hn_pow n (by omega), if_neg (by unfold hn_isM; rw [en]; omega)]
  have r6 : hr_bound a.1 ((n : Int) + 1) = -3 := by
    unfold hr_bound
    rw [if_neg (by rw [en]; omega)]
  have tx : (hn_txt a).2 = 0 := by
    unfold hn_txt
    rw [ht]
    exact hq_par0 _
  have r7 : hr_run a = -4 := by
    unfold hr_run
    rw [tx, if_neg (by decide)]
  obtain ⟨I1, k1, c1, H1, -⟩ := hc_setFlow (sx := sx) (sL := sL) (g := g) (d + 10) hA H 0 0 1
  rw [show hs_flow a.1 0 0 1 = a.1 from if_pos (by rw [r1]; decide), r1, hq_rec_id a (by decide)] at H1
  obtain ⟨I2, k2, c2, H2, -⟩ := hc_setFlow (sx := sx) (sL := sL) (g := g) (d + 10) hA H1 0 (n : Int) 1
  rw [show hs_flow a.1 0 (n : Int) 1 = a.1 from if_pos (by rw [r2]; decide), r2, hq_rec_id a (by decide)] at H2
  obtain ⟨I3, k3, c3, H3, -⟩ := hc_addNode (sx := sx) (sL := sL) (g := g) (d + 10) hA H2 100 0 0 0
  rw [show hs_add a.1 100 0 0 0 = a.1 from if_pos (by rw [r3]; decide), r3, hq_rec_id a (by decide)] at H3
  obtain ⟨I4, c4, H4, -⟩ := hc_least (sx := sx) (sL := sL) (g := g) (d + 1) hA H3 0
  obtain ⟨I5, c5, H5, -⟩ := hc_feasible (sx := sx) (sL := sL) (g := g) (d + 2) hA H4 (hn_shl 1 (n : Int))
  obtain ⟨I6, c6, H6, -⟩ := hc_bound (sx := sx) (sL := sL) (g := g) (d + 10) hA H5 ((n : Int) + 1)
  obtain ⟨I7, k7, c7, H7, -⟩ := hc_run (sx := sx) (sL := sL) (g := g) (d + 9) hA H6
  rw [show hs_run a = a.1 from if_neg (by rw [tx]; decide), r7, hq_rec_id a (by decide)] at H7
  obtain ⟨I8, c8, H8, -⟩ := hc_textFault (sx := sx) (sL := sL) (g := g) (d + 10) hA H7
  have c9 := hc_digest (sx := sx) (sL := sL) (g := g) (d + 11) hA H8
  have s1 := hb_L_law_863_0 (sx := sx) (sL := sL) (C := hn_ret sx sL (d + 14)) (I := I) (k := k) (g := g) (x3 := (n : Int)) (w5 := hr_digest a.1) (c1 := c1) (h2 := r1) (c3 := c2) (h4 := r2) (c5 := c3) (h6 := r3) (c7 := c4) (h8 := r4) (c9 := c5) (h10 := r5) (h11 := by omega) (c12 := c6) (h13 := r6) (c14 := c7) (h15 := r7) (c16 := c8) (h17 := tx) (c18 := c9) (h19 := hq_lcmp _)
  exact ⟨I8, k7, s0.tr s1⟩
end HQ65
