/-! the law's body -/
theorem hq_n_hub {s : hn_S} (v b : Int) : hn_n (hs_hub s v b) = hn_n s := by
  unfold hs_hub
  by_cases e : hn_isN s v
  · rw [if_pos e]
    by_cases e1 : b = 0
    · rw [if_pos e1]
      by_cases e2 : hn_hub s v.toNat = true
      · rw [if_pos e2]
        unfold hn_n hn_off
        rw [if_neg (by decide), if_neg (by omega)]
      · rw [if_neg e2]
    · rw [if_neg e1]
      unfold hn_n hn_on
      rw [hn_w_ne (by omega), hn_w_ne (by omega)]
  · rw [if_neg e]
theorem hq_n_under {s : hn_S} (v x : Int) : hn_n (hs_under s v x) = hn_n s := by
  unfold hs_under
  by_cases e : hr_under s v x < -1
  · rw [if_pos e]
  · rw [if_neg e]
    unfold hn_n
    rw [hn_w_ne (by omega)]
theorem hq_n_flow {s : hn_S} (x y f : Int) : hn_n (hs_flow s x y f) = hn_n s := by
  unfold hs_flow
  by_cases e : hr_flow s x y f < -1
  · rw [if_pos e]
  · rw [if_neg e]
    unfold hn_n
    rw [hn_w_ne (by omega)]
theorem hq_n_fac {s : hn_S} (x y z w : Int) : hn_n (hs_fac s x y z w) = hn_n s := by
  unfold hs_fac
  by_cases e : hr_fac s x y z w < -1
  · rw [if_pos e]
  · rw [if_neg e]
    unfold hn_n
    rw [hn_w_ne (by omega), hn_w_ne (by omega), hn_w_ne (by omega), hn_w_ne (by omega)]
theorem hq_n_con {s : hn_S} (x y z w : Int) : hn_n (hs_con s x y z w) = hn_n s := by
  unfold hs_con
  by_cases e : hr_con s x y z w < -1
  · rw [if_pos e]
  · rw [if_neg e]
    unfold hn_n
    rw [hn_w_ne (by omega), hn_w_ne (by omega), hn_w_ne (by omega), hn_w_ne (by omega)]
theorem hq_add {s : hn_S} {x y o c : Int} (h : hn_n s < 8) (hx : (0 ≤ x ∧ x ≤ 99) ∧ (0 ≤ y ∧ y ≤ 99) ∧ (0 ≤ o ∧ o ≤ 100000) ∧ (0 ≤ c ∧ c ≤ 9999)) : hr_add s x y o c = (hn_n s : Int) ∧ hn_n (hs_add s x y o c) = hn_n s + 1 := by
  have e : hr_add s x y o c = (hn_n s : Int) := by
    unfold hr_add
    rw [if_pos hx, if_neg (by omega)]
  refine ⟨e, ?_⟩
  unfold hs_add
  rw [e, if_neg (by omega)]
  unfold hn_add
  show (hn_w _ 0 ((hn_n s : Int) + 1) 0).toNat = _
  rw [hn_w_eq]
  omega
theorem hq_flow_r {s : hn_S} (hI : hn_Iv s) {x y f : Int} (hx : hn_isN s x) (hy : hn_isN s y) (hne : x ≠ y) (hf : 0 ≤ f ∧ f ≤ 100) : ¬ hr_flow s x y f < 0 := by
  have h8 := hn_n8 hI
  have b := hn_fl_b hI (a := x.toNat) (b := y.toNat) (by omega) (by omega)
  unfold hr_flow
  rw [if_pos ⟨hx, hy⟩, if_pos ⟨hne, hf⟩]
  omega
theorem hq_rec_id (a : hn_AA) {r : Int} (hr : r < -1) : hn_rec a r a.1 = a := by
  unfold hn_rec
  rw [if_pos hr]
theorem hq_Iv_settle {s : hn_S} (hI : hn_Iv s) : hn_Iv (hs_settle s) := by
  by_cases e : s 1 = 0
  · rw [show hs_settle s = s from if_pos e]
    exact hI
  · exact (hq_settle hI e).2.1
theorem hq_Iv_improve {s : hn_S} (hI : hn_Iv s) : hn_Iv (hs_improve s) := by
  by_cases e : s 1 = 0
  · rw [show hs_improve s = s from if_pos e]
    exact hI
  · exact (hq_improve hI e).1
/-- where the law's loops stand -/
def hq_L (n : Nat) (x : (Nat → Nat → Int) × (Nat → Option Nat)) : Prop := ∃ a : hn_AA, hn_AI a ∧ hn_HC x.1 x.2 a ∧ hn_n a.1 = n ∧ a.2.2.2 = 0
section HQ64
variable {sx : Nat → Int} {sL : Nat} {I : Nat → Nat → Int} {k : Nat → Option Nat} {g : Nat → Nat → Int64}
/-- a place in the law's loop of steps -/
abbrev hq_at (pc : Nat) (n : Nat) (x4 : Int) (i : Nat) (I : Nat → Nat → Int) (k : Nat → Option Nat) (g : Nat → Nat → Int64) : hn_St := hn_nx 168 pc [some hn_vs, some (hn_vr 0), none, some (hn_vi (n : Int)), some (hn_vi x4), some (hn_vi (i : Int)), none, none, none, none, none, none, none, none] [] (hn_m I k g)
abbrev hq_J (sx : Nat → Int) (sL d pc : Nat) (n : Nat) (x4 : Int) (i : Nat) (g : Nat → Nat → Int64) (st : hn_St) : Prop := ∃ I' k', hn_go sx sL (hn_ret sx sL (d + 14)) st (hq_at pc n x4 i I' k' g) ∧ hq_L n (I', k')
/-- a step that makes a node a hub, or not -/
theorem hq_k0 (d : Nat) {n i : Nat} {x4 x6 v : Int} (h : hq_L n (I, k)) (hv : 0 ≤ v ∧ v < (n : Int)) : hq_J sx sL d 842 n x4 i g (hn_nx 168 390 [some hn_vs, some (hn_vr 0), none, some (hn_vi (n : Int)), some (hn_vi x4), some (hn_vi (i : Int)), some (hn_vi x6), some (hn_vi v), none, none, none, none, none, none] [] (hn_m I k g)) := by
  obtain ⟨a, hA, H, hn, ht⟩ := h
  have h8 := hn_n8 hA.1
  have c1 := hc_hubs (sx := sx) (sL := sL) (g := g) (d + 13) H
  have hb := hq_bit hA.1 (v := v.toNat) (by omega)
  have ev : ((v.toNat : Nat) : Int) = v := by omega
  rw [ev] at hb
  have er : hr_hub a.1 v = hn_and (hn_shr (a.1 1) v) 1 := by
    unfold hr_hub
    rw [if_pos (by constructor <;> omega), hb]
  by_cases e : 0 < hn_and (hn_shr x6 11) 3
  · obtain ⟨I1, k1, c3, H1, -⟩ := hc_setHub (sx := sx) (sL := sL) (g := g) (d + 10) hA H v 1
    exact ⟨I1, k1, hb_L_law_390_0 (c1 := c1) (h2 := e) (c3 := c3) (h4 := er), _, hA.rec (hn_Iv_hs_hub hA.1 v 1), H1, (hq_n_hub v 1).trans hn, ht⟩
  · obtain ⟨I1, k1, c3, H1, -⟩ := hc_setHub (sx := sx) (sL := sL) (g := g) (d + 10) hA H v 0
    exact ⟨I1, k1, hb_L_law_390_1 (c1 := c1) (h2 := e) (c3 := c3) (h4 := er), _, hA.rec (hn_Iv_hs_hub hA.1 v 0), H1, (hq_n_hub v 0).trans hn, ht⟩
/-- .. that assigns -/
theorem hq_k3 (d : Nat) {n i : Nat} {x4 v w : Int} (h : hq_L n (I, k)) (hv : 0 ≤ v ∧ v < (n : Int)) : hq_J sx sL d 842 n x4 i g (hn_nx 168 438 [some hn_vs, some (hn_vr 0), none, some (hn_vi (n : Int)), some (hn_vi x4), some (hn_vi (i : Int)), none, some (hn_vi v), some (hn_vi w), none, none, none, none, none] [] (hn_m I k g)) := by
  obtain ⟨a, hA, H, hn, ht⟩ := h
  obtain ⟨I1, k1, c1, H1, -⟩ := hc_assign (sx := sx) (sL := sL) (g := g) (d + 10) hA H v w
  have hA1 : hn_AI (hn_rec a (hr_under a.1 v w) (hs_under a.1 v w)) := hA.rec (hn_Iv_hs_under hA.1 v w)
  have L1 : hq_L n (I1, k1) := ⟨_, hA1, H1, (hq_n_under v w).trans hn, ht⟩
  by_cases e : hr_under a.1 v w < -1
  · exact ⟨I1, k1, hb_L_law_438_0 (c1 := c1) (h2 := e), L1⟩
  · have c3 := hc_hubOf (sx := sx) (sL := sL) (g := g) (d + 12) hA1 H1 v
    have eh : hr_ho (hn_rec a (hr_under a.1 v w) (hs_under a.1 v w)).1 v = w := by
      show hr_ho (hs_under a.1 v w) v = w
      unfold hr_ho
      rw [if_pos (show hn_isN (hs_under a.1 v w) v by unfold hn_isN; rw [hq_n_under]; constructor <;> omega)]
      unfold hs_under
      rw [if_neg e, hn_w_eq]
    exact ⟨I1, k1, hb_L_law_438_1 (c1 := c1) (h2 := e) (c3 := c3) (h4 := eh), L1⟩
/-- .. that tells a change -/
theorem hq_k4 (d : Nat) {n i : Nat} {x4 v w : Int} (h : hq_L n (I, k)) (hv : 0 ≤ v ∧ v < (n : Int)) (hw : 0 ≤ w ∧ w < (n : Int)) : hq_J sx sL d 842 n x4 i g (hn_nx 168 476 [some hn_vs, some (hn_vr 0), none, some (hn_vi (n : Int)), some (hn_vi x4), some (hn_vi (i : Int)), none, some (hn_vi v), some (hn_vi w), none, none, none, none, none] [] (hn_m I k g)) := by
  obtain ⟨a, hA, H, hn, ht⟩ := h
  obtain ⟨I1, c1, H1, -⟩ := hc_check (sx := sx) (sL := sL) (g := g) (d + 11) hA H
  by_cases e : hr_check a.1 = 1
  · exact ⟨I1, k, hb_L_law_476_0 (c1 := c1) (h2 := e), a, hA, H1, hn, ht⟩
  · obtain ⟨I2, k2, a2, c3, H2, hA2, e1, e2⟩ := hq_mchg (sx := sx) (sL := sL) (g := g) (d + 8) hA H1 (hq_check1 e) (v := v) (x := w) (by constructor <;> omega) (by constructor <;> omega)
    exact ⟨I2, k2, hb_L_law_476_1 (c1 := c1) (h2 := e) (c3 := c3) (h4 := by decide), a2, hA2, H2, by rw [e1]; exact hn, by rw [e2]; exact ht⟩
theorem hq_lcmp (w : Int64) : hn_lcmp w w = 0 := by
  unfold hn_lcmp lg_cmp
  simp
/-- .. that settles -/
theorem hq_k5 (d : Nat) {n i : Nat} {x4 : Int} (h : hq_L n (I, k)) : hq_J sx sL d 842 n x4 i g (hq_at 503 n x4 i I k g) := by
  obtain ⟨a, hA, H, hn, ht⟩ := h
  have c1 := hc_hubs (sx := sx) (sL := sL) (g := g) (d + 13) H
  have c2 := hc_digest (sx := sx) (sL := sL) (g := g) (d + 11) hA H
  obtain ⟨I3, k3, c3, H3, -⟩ := hc_settle (sx := sx) (sL := sL) (g := g) (d + 1) hA H
  have hA3 : hn_AI (hn_rec a (hr_settle a.1) (hs_settle a.1)) := hA.rec (hq_Iv_settle hA.1)
  by_cases e : a.1 1 = 0
  · have er : hr_settle a.1 = -4 := if_pos e
    have es : hs_settle a.1 = a.1 := if_pos e
    have c4 := hc_digest (sx := sx) (sL := sL) (g := g) (d + 11) hA3 H3
    have ed : hr_digest (hn_rec a (hr_settle a.1) (hs_settle a.1)).1 = hr_digest a.1 := by
      show hr_digest (hs_settle a.1) = _
      rw [es]
    rw [ed] at c4
    have r1 := hb_L_law_503_0 (sx := sx) (sL := sL) (C := hn_ret sx sL (d + 14)) (I := I) (k := k) (g := g) (x3 := (n : Int)) (x4 := x4) (n5 := i) (c1 := c1) (c2 := c2) (c3 := c3) (h4 := e) (h5 := er)
    have r2 := hb_L_law_549_0 (sx := sx) (sL := sL) (C := hn_ret sx sL (d + 14)) (I := I3) (k := k3) (g := g) (x3 := (n : Int)) (x4 := x4) (n5 := i) (x10 := a.1 1) (w11 := hr_digest a.1) (x13 := hr_settle a.1) (h1 := by rw [er]; decide) (c2 := c4) (h3 := hq_lcmp _)
    exact ⟨I3, k3, r1.tr r2, _, hA3, H3, by show hn_n (hs_settle a.1) = n; rw [es]; exact hn, ht⟩
  · obtain ⟨m1, m2, m3, m4⟩ := hq_settle hA.1 e
    obtain ⟨I4, c5, H4, -⟩ := hc_least (sx := sx) (sL := sL) (g := g) (d + 1) hA3 H3 (a.1 1)
    have r1 := hb_L_law_503_1 (sx := sx) (sL := sL) (C := hn_ret sx sL (d + 14)) (I := I) (k := k) (g := g) (x3 := (n : Int)) (x4 := x4) (n5 := i) (c1 := c1) (c2 := c2) (c3 := c3) (h4 := e) (c5 := c5) (h6 := m1)
    have en : hn_n (hn_rec a (hr_settle a.1) (hs_settle a.1)).1 = n := m3.trans hn
    rcases m4 with ⟨m5, m6⟩ | ⟨m5, m6, m7, m8⟩
    · have c4 := hc_digest (sx := sx) (sL := sL) (g := g) (d + 11) hA3 H4
      have ed : hr_digest (hn_rec a (hr_settle a.1) (hs_settle a.1)).1 = hr_digest a.1 := by
        show hr_digest (hs_settle a.1) = _
        rw [m6]
      rw [ed] at c4
      have r2 := hb_L_law_549_0 (sx := sx) (sL := sL) (C := hn_ret sx sL (d + 14)) (I := I4) (k := k3) (g := g) (x3 := (n : Int)) (x4 := x4) (n5 := i) (x10 := a.1 1) (w11 := hr_digest a.1) (x13 := hr_settle a.1) (h1 := m5) (c2 := c4) (h3 := hq_lcmp _)
      exact ⟨I4, k3, r1.tr r2, _, hA3, H4, en, ht⟩
    · obtain ⟨I5, c6, H5, -⟩ := hc_cost (sx := sx) (sL := sL) (g := g) (d + 9) hA3 H4 0
      obtain ⟨I6, c7, H6, -⟩ := hc_check (sx := sx) (sL := sL) (g := g) (d + 11) hA3 H5
      have c8 := hc_hubs (sx := sx) (sL := sL) (g := g) (d + 13) H6
      have r2 := hb_L_law_549_1 (sx := sx) (sL := sL) (C := hn_ret sx sL (d + 14)) (I := I4) (k := k3) (g := g) (x3 := (n : Int)) (x4 := x4) (n5 := i) (x10 := a.1 1) (w11 := hr_digest a.1) (x13 := hr_settle a.1) (h1 := by omega) (c2 := c6) (h3 := m6) (c4 := c7) (h5 := m7) (c6 := c8) (h7 := m8)
      exact ⟨I6, k3, r1.tr r2, _, hA3, H6, en, ht⟩
/-- .. that adopts -/
theorem hq_k6 (d : Nat) {n i : Nat} {x4 x6 : Int} (h : hq_L n (I, k)) : hq_J sx sL d 842 n x4 i g (hn_nx 168 605 [some hn_vs, some (hn_vr 0), none, some (hn_vi (n : Int)), some (hn_vi x4), some (hn_vi (i : Int)), some (hn_vi x6), none, none, none, none, none, none, none] [] (hn_m I k g)) := by
  obtain ⟨a, hA, H, hn, ht⟩ := h
  have h8 := hn_n8 hA.1
  have c1 := hq_mlow (sx := sx) (sL := sL) (I := I) (k := k) (g := g) (d + 13) (hn_shr x6 11) (n := (n : Int) + 1) (by omega)
  have cb := hq_low_b (hn_shr x6 11) (n := (n : Int) + 1) (by omega)
  obtain ⟨c, hc⟩ : ∃ c, c = hq_low (hn_shr x6 11) ((n : Int) + 1) := ⟨_, rfl⟩
  rw [← hc] at c1 cb
  obtain ⟨I2, c2, H2, -⟩ := hc_best (sx := sx) (sL := sL) (g := g) d hA H c
  obtain ⟨I3, k3, c3, H3, -⟩ := hc_adopt (sx := sx) (sL := sL) (g := g) d hA H2 c
  have hA3 : hn_AI (hn_rec a (hr_adopt a.1 c) (hs_adopt a.1 c)) := hA.rec (hq_adopt hA.1 (c := c) (by omega)).1
  have r1 := hb_L_law_605_0 (sx := sx) (sL := sL) (C := hn_ret sx sL (d + 14)) (I := I) (k := k) (g := g) (x3 := (n : Int)) (x4 := x4) (n5 := i) (x6 := x6) (h1 := by omega) (c2 := c1) (c3 := c2) (c4 := c3)
  obtain ⟨m1, m2, m3⟩ := hq_adopt hA.1 (c := c) (by omega)
  have en : hn_n (hn_rec a (hr_adopt a.1 c) (hs_adopt a.1 c)).1 = n := m2.trans hn
  rcases m3 with ⟨m4, m5⟩ | ⟨m4, w, w8, m5, m6, m7, m8, m9, m10, m11⟩
  · have r2 := hb_L_law_634_0 (sx := sx) (sL := sL) (C := hn_ret sx sL (d + 14)) (I := I3) (k := k3) (g := g) (x3 := (n : Int)) (x4 := x4) (n5 := i) (x10 := c) (x11 := hr_best a.1 c) (x12 := hr_adopt a.1 c) (h1 := m4) (h2 := m5)
    have r3 := hb_L_law_657_0 (sx := sx) (sL := sL) (C := hn_ret sx sL (d + 14)) (I := I3) (k := k3) (g := g) (x3 := (n : Int)) (x4 := x4) (n5 := i) (x10 := c) (x11 := hr_best a.1 c) (x12 := hr_adopt a.1 c) (h1 := m4)
    exact ⟨I3, k3, r1.tr (r2.tr r3), _, hA3, H3, en, ht⟩
  · have r2 := hb_L_law_634_1 (sx := sx) (sL := sL) (C := hn_ret sx sL (d + 14)) (I := I3) (k := k3) (g := g) (x3 := (n : Int)) (x4 := x4) (n5 := i) (x10 := c) (x11 := hr_best a.1 c) (x12 := hr_adopt a.1 c) (h1 := by omega) (h2 := by omega)
    obtain ⟨I4, c4, H4, -⟩ := hc_cost (sx := sx) (sL := sL) (g := g) (d + 9) hA3 H3 0
    have c5 := hc_hubs (sx := sx) (sL := sL) (g := g) (d + 13) H4
    obtain ⟨I6, c6, H6, -⟩ := hc_check (sx := sx) (sL := sL) (g := g) (d + 11) hA3 H4
    obtain ⟨I7, c7, H7, -⟩ := hc_bound (sx := sx) (sL := sL) (g := g) (d + 10) hA3 H6 c
    obtain ⟨I8, c8, H8, -⟩ := hc_best (sx := sx) (sL := sL) (g := g) d hA3 H7 0
    refine ⟨I8, k3, r1.tr (r2.tr ?_), _, hA3, H8, en, ht⟩
    by_cases e : 0 < c
    · have c9 := hq_mones (sx := sx) (sL := sL) (I := I4) (k := k3) (g := g) (d + 13) w8
      rw [← m5] at c9
      exact hb_L_law_657_1 (h1 := by omega) (c2 := c4) (h3 := m7) (c4 := c5) (h5 := m6.trans m5.symm) (h6 := e) (c7 := c9) (h8 := m8 e) (c9 := c6) (h10 := m9) (c11 := c7) (h12 := Int.not_lt.mpr m10) (c13 := c8) (h14 := Int.not_lt.mpr m11)
    · exact hb_L_law_657_2 (h1 := by omega) (c2 := c4) (h3 := m7) (c4 := c5) (h5 := m6.trans m5.symm) (h6 := e) (c7 := c6) (h8 := m9) (c9 := c7) (h10 := Int.not_lt.mpr m10) (c11 := c8) (h12 := Int.not_lt.mpr m11)
/-- .. that improves -/
theorem hq_k7 (d : Nat) {n i : Nat} {x4 : Int} (h : hq_L n (I, k)) : hq_J sx sL d 842 n x4 i g (hq_at 729 n x4 i I k g) := by
  obtain ⟨a, hA, H, hn, ht⟩ := h
  have c1 := hc_hubs (sx := sx) (sL := sL) (g := g) (d + 13) H
  by_cases e : a.1 1 = 0
  · exact ⟨I, k, hb_L_law_729_0 (c1 := c1) (h2 := e), a, hA, H, hn, ht⟩
  · have r0 := hb_L_law_729_1 (sx := sx) (sL := sL) (C := hn_ret sx sL (d + 14)) (I := I) (k := k) (g := g) (x3 := (n : Int)) (x4 := x4) (n5 := i) (c1 := c1) (h2 := e)
    obtain ⟨I2, c2, H2, -⟩ := hc_least (sx := sx) (sL := sL) (g := g) (d + 1) hA H (a.1 1)
    obtain ⟨I3, k3, c3, H3, -⟩ := hc_improve (sx := sx) (sL := sL) (g := g) d hA H2
    have hA3 : hn_AI (hn_rec a (hr_improve a.1) (hs_improve a.1)) := hA.rec (hq_Iv_improve hA.1)
    have c4 := hc_hubs (sx := sx) (sL := sL) (g := g) (d + 13) H3
    obtain ⟨I5, c5, H5, -⟩ := hc_least (sx := sx) (sL := sL) (g := g) (d + 1) hA3 H3 (hs_improve a.1 1)
    have r1 := hb_L_law_736_0 (sx := sx) (sL := sL) (C := hn_ret sx sL (d + 14)) (I := I) (k := k) (g := g) (x3 := (n : Int)) (x4 := x4) (n5 := i) (c1 := c1) (c2 := c2) (c3 := c3) (c4 := c4) (c5 := c5)
    obtain ⟨m1, m2, m3, m4, m5⟩ := hq_improve hA.1 e
    have en : hn_n (hn_rec a (hr_improve a.1) (hs_improve a.1)).1 = n := m2.trans hn
    obtain ⟨had, hhad⟩ : ∃ y, y = hr_least a.1 (a.1 1) := ⟨_, rfl⟩
    obtain ⟨now, hnow⟩ : ∃ y, y = hr_least (hs_improve a.1) (hs_improve a.1 1) := ⟨_, rfl⟩
    have r2 : ∃ I6, hn_go sx sL (hn_ret sx sL (d + 14)) (hn_nx 168 762 [some hn_vs, some (hn_vr 0), none, some (hn_vi (n : Int)), some (hn_vi x4), some (hn_vi (i : Int)), none, none, none, none, some (hn_vi had), some (hn_vi (hr_improve a.1)), some (hn_vi now), none] [] (hn_m I5 k3 g)) (hq_at 833 n x4 i I6 k3 g) ∧ hn_HC I6 k3 (hn_rec a (hr_improve a.1) (hs_improve a.1)) := by
      rw [← hhad, ← hnow] at m5
      rcases m5 with ⟨p1, p2⟩ | ⟨p1, p2, p3, p4, p5⟩
      · have q1 := hb_L_law_762_0 (sx := sx) (sL := sL) (C := hn_ret sx sL (d + 14)) (I := I5) (k := k3) (g := g) (x3 := (n : Int)) (x4 := x4) (n5 := i) (x10 := had) (x11 := hr_improve a.1) (x12 := now) (h1 := by omega) (h2 := p1)
        exact ⟨I5, q1.tr (hb_L_law_823_0 (h1 := p1) (h2 := p2)), H5⟩
      · obtain ⟨I6, c6, H6, -⟩ := hc_cost (sx := sx) (sL := sL) (g := g) (d + 9) hA3 H5 0
        obtain ⟨I7, c7, H7, -⟩ := hc_best (sx := sx) (sL := sL) (g := g) d hA3 H6 0
        have q2 := hb_L_law_823_1 (sx := sx) (sL := sL) (C := hn_ret sx sL (d + 14)) (I := I7) (k := k3) (g := g) (x3 := (n : Int)) (x4 := x4) (n5 := i) (x11 := hr_improve a.1) (x12 := now) (h1 := by omega)
        refine ⟨I7, hn_go.tr ?_ q2, H7⟩
        by_cases t : 0 < hr_improve a.1
        · by_cases u : had < 0
          · exact hb_L_law_762_1 (h1 := by omega) (h2 := by omega) (c3 := c6) (h4 := p2) (h5 := u) (h6 := t) (c7 := c7) (h8 := Int.not_lt.mpr p5)
          · have p6 := p3 (by omega)
            have p7 := p4 t (by omega)
            exact hb_L_law_762_3 (h1 := by omega) (h2 := by omega) (c3 := c6) (h4 := p2) (h5 := u) (h6 := by omega) (h7 := t) (h8 := p7) (c9 := c7) (h10 := Int.not_lt.mpr p5)
        · by_cases u : had < 0
          · exact hb_L_law_762_2 (h1 := by omega) (h2 := by omega) (c3 := c6) (h4 := p2) (h5 := u) (h6 := t) (c7 := c7) (h8 := Int.not_lt.mpr p5)
          · have p6 := p3 (by omega)
            exact hb_L_law_762_4 (h1 := by omega) (h2 := by omega) (c3 := c6) (h4 := p2) (h5 := u) (h6 := by omega) (h7 := t) (c8 := c7) (h9 := Int.not_lt.mpr p5)
    obtain ⟨I6, r3, H6⟩ := r2
    obtain ⟨I7, k7, c7, H7, -⟩ := hc_improve (sx := sx) (sL := sL) (g := g) d hA3 H6
    have r4 := hb_L_law_833_0 (sx := sx) (sL := sL) (C := hn_ret sx sL (d + 14)) (I := I6) (k := k3) (g := g) (x3 := (n : Int)) (x4 := x4) (n5 := i) (c1 := c7) (h2 := m4)
    rw [hhad, hnow] at r3
    refine ⟨I7, k7, r0.tr (r1.tr (r3.tr r4)), _, hA3.rec (hq_Iv_improve hA3.1), H7, ?_, ht⟩
    show hn_n (hs_improve (hs_improve a.1)) = n
    by_cases z : hs_improve a.1 1 = 0
    · have ez : hs_improve (hs_improve a.1) = hs_improve a.1 := if_pos z
      rw [ez]
      exact en
    · exact (hq_improve m1 z).2.1.trans en
end HQ64
