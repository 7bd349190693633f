/-! trunks' costs, the whole cost -/
section HX21
variable {sx : Nat → Int} {sL : Nat} {I : Nat → Nat → Int} {k : Nat → Option Nat} {g : Nat → Nat → Int64} {s : hn_S} {p : Nat → Int}
theorem hm_smallTrunkSurcharge (d : Nat) (hI : hn_Iv s) (h : hn_HS I 1 s) (hT : ∀ a b, a < 8 → b < 8 → I 47 (a * 8 + b) = hn_tr s p a b) {m : Nat} (hm : m < 256) : hn_ret sx sL (d + 2) 15 [hn_vr 45, hn_vi m] (hn_m I k g) (some (hn_vi ((100 - s 3) * hn_su s p m))) (hn_m I k g) := by
  have hn := h.n hI
  have h8 := hn_n8 hI
  have eT : I 1 9 = s 3 := h.2.2.1 1 (by omega)
  have eM : I 1 11 = s 5 := h.2.2.1 3 (by omega)
  have bs := hI.2.2.1
  have bt := hn_tkc_b hI (p := p) (m := m)
  have bz : ∀ a b, a < 8 → b < 8 → 0 ≤ hn_suf s p a b ∧ hn_suf s p a b ≤ 1267200 := fun a b ha hb => by
    have q1 := hn_suf_b hI (p := p) ha hb
    have q2 := hn_tkf_b hI (p := p) ha hb
    omega
  refine hn_of rfl (hb_X2_smallTrunkSurcharge_0_0.tr ((hn_for (fun i => hn_nx 15 4 [some (hn_vr 45), some (hn_vi m), some (hn_vi (hn_sm i (hn_ro (hn_n s) (hn_suf s p) m))), some (hn_vi (i : Int)), none, none] [] (hn_m I k g)) (hn_n s) (fun i hi => ?_)).tr ?_))
  · have c := hm_contains (sx := sx) (sL := sL) (I := I) (k := k) (g := g) d hm (v := i) (by omega)
    have b : 0 ≤ hn_sm i (hn_ro (hn_n s) (hn_suf s p) m) ∧ hn_sm i (hn_ro (hn_n s) (hn_suf s p) m) ≤ 10137600 * i := hn_sm_b 10137600 (n := i) (fun v hv => by
      have := hn_ro_b (n := hn_n s) (m := m) (c := 1267200) (fun b hb => bz v b (by omega) (by omega)) (by omega)
      omega)
    by_cases e : m.testBit i = true
    · rw [if_pos e] at c
      have ef : hn_sm (i + 1) (hn_ro (hn_n s) (hn_suf s p) m) = hn_sm i (hn_ro (hn_n s) (hn_suf s p) m) + hn_sm (hn_n s) (hn_suf s p i) := by rw [hn_sm_up, hn_ro, if_pos e]
      have r1 := hb_X2_smallTrunkSurcharge_4_1 (sx := sx) (sL := sL) (x2 := hn_sm i (hn_ro (hn_n s) (hn_suf s p) m)) (by omega) c (by decide)
      have r1' : hn_go sx sL (hn_ret sx sL (d + 1)) (hn_nx 15 4 [some (hn_vr 45), some (hn_vi m), some (hn_vi (hn_sm i (hn_ro (hn_n s) (hn_suf s p) m))), some (hn_vi (i : Int)), none, none] [] (hn_m I k g)) (hn_nx 15 26 [some (hn_vr 45), some (hn_vi m), some (hn_vi (hn_sm i (hn_ro (hn_n s) (hn_suf s p) m) + hn_sm 0 (hn_suf s p i))), some (hn_vi (i : Int)), some (hn_vi ((0 : Nat) : Int)), none] [] (hn_m I k g)) := by
        rw [show hn_sm 0 (hn_suf s p i) = 0 from rfl, Int.add_zero]
        exact r1
      show hn_go sx sL _ _ (hn_nx 15 4 [some (hn_vr 45), some (hn_vi m), some (hn_vi (hn_sm (i + 1) (hn_ro (hn_n s) (hn_suf s p) m))), some (hn_vi ((i + 1 : Nat) : Int)), none, none] [] (hn_m I k g))
      rw [ef]
      refine r1'.tr ((hn_for (fun j => hn_nx 15 26 [some (hn_vr 45), some (hn_vi m), some (hn_vi (hn_sm i (hn_ro (hn_n s) (hn_suf s p) m) + hn_sm j (hn_suf s p i))), some (hn_vi (i : Int)), some (hn_vi (j : Int)), none] [] (hn_m I k g)) (hn_n s) (fun j hj => ?_)).tr (hb_X2_smallTrunkSurcharge_26_3 (by omega) (by omega)))
      have b2 : 0 ≤ hn_sm j (hn_suf s p i) ∧ hn_sm j (hn_suf s p i) ≤ 1267200 * j := hn_sm_b 1267200 (n := j) (fun v hv => bz i v (by omega) (by omega))
      have bj := hn_tkf_b hI (p := p) (a := i) (b := j) (by omega) (by omega)
      have c2 := hm_gap (sx := sx) (sL := sL) (k := k) (g := g) d hI h (a := i) (b := j) (by omega) (by omega)
      have et := hT i j (by omega) (by omega)
      unfold hn_tkf at bj
      by_cases q1 : 0 < hn_tr s p i j
      · by_cases q2 : hn_tr s p i j < s 5
        · have ev : hn_suf s p i j = hn_tr s p i j * hn_gp s i j := by rw [hn_suf, if_pos ⟨q1, q2⟩, hn_tkf]
          have r := hb_X2_smallTrunkSurcharge_26_0 (sx := sx) (sL := sL) (x1 := m) (x2 := hn_sm i (hn_ro (hn_n s) (hn_suf s p) m) + hn_sm j (hn_suf s p i)) (n3 := i) (n4 := j) (by omega) (by omega) (by omega) (by omega) (by omega) (by omega) c2 (by rw [et]; omega) (by rw [et]; omega)
          rw [et, Int.add_assoc, ← ev] at r
          exact r
        · have ev : hn_suf s p i j = 0 := by rw [hn_suf, if_neg (fun q => q2 q.2)]
          have r := hb_X2_smallTrunkSurcharge_26_1 (sx := sx) (sL := sL) (C := hn_ret sx sL (d + 1)) (I := I) (k := k) (g := g) (x1 := m) (x2 := hn_sm i (hn_ro (hn_n s) (hn_suf s p) m) + hn_sm j (hn_suf s p i)) (n3 := i) (n4 := j) (by omega) (by omega) (by omega) (by omega) (by omega) (by omega)
          show hn_go sx sL _ _ (hn_nx 15 26 [some (hn_vr 45), some (hn_vi m), some (hn_vi (hn_sm i (hn_ro (hn_n s) (hn_suf s p) m) + hn_sm (j + 1) (hn_suf s p i))), some (hn_vi (i : Int)), some (hn_vi ((j + 1 : Nat) : Int)), none] [] (hn_m I k g))
          rw [hn_sm_up, ev, Int.add_zero]
          exact r
      · have ev : hn_suf s p i j = 0 := by rw [hn_suf, if_neg (fun q => q1 q.1)]
        have r := hb_X2_smallTrunkSurcharge_26_2 (sx := sx) (sL := sL) (C := hn_ret sx sL (d + 1)) (I := I) (k := k) (g := g) (x1 := m) (x2 := hn_sm i (hn_ro (hn_n s) (hn_suf s p) m) + hn_sm j (hn_suf s p i)) (n3 := i) (n4 := j) (by omega) (by omega) (by omega) (by omega) (by omega)
        show hn_go sx sL _ _ (hn_nx 15 26 [some (hn_vr 45), some (hn_vi m), some (hn_vi (hn_sm i (hn_ro (hn_n s) (hn_suf s p) m) + hn_sm (j + 1) (hn_suf s p i))), some (hn_vi (i : Int)), some (hn_vi ((j + 1 : Nat) : Int)), none] [] (hn_m I k g))
        rw [hn_sm_up, ev, Int.add_zero]
        exact r
    · rw [if_neg e] at c
      have ef : hn_sm (i + 1) (hn_ro (hn_n s) (hn_suf s p) m) = hn_sm i (hn_ro (hn_n s) (hn_suf s p) m) := by rw [hn_sm_up, hn_ro, if_neg e, Int.add_zero]
      have r := hb_X2_smallTrunkSurcharge_4_0 (sx := sx) (sL := sL) (x2 := hn_sm i (hn_ro (hn_n s) (hn_suf s p) m)) (by omega) c (by decide)
      show hn_go sx sL _ _ (hn_nx 15 4 [some (hn_vr 45), some (hn_vi m), some (hn_vi (hn_sm (i + 1) (hn_ro (hn_n s) (hn_suf s p) m))), some (hn_vi ((i + 1 : Nat) : Int)), none, none] [] (hn_m I k g))
      rw [ef]
      exact r
  · have r := hb_X2_smallTrunkSurcharge_4_2 (sx := sx) (sL := sL) (C := hn_ret sx sL (d + 1)) (I := I) (k := k) (g := g) (x1 := m) (x2 := hn_su s p m) (x3 := hn_n s) (by omega) (by omega) (by rw [eT]; omega)
    rw [eT] at r
    exact r

theorem hm_trunkCost (d : Nat) (hI : hn_Iv s) (h : hn_HS I 1 s) (hT : ∀ a b, a < 8 → b < 8 → I 47 (a * 8 + b) = hn_tr s p a b) {m : Nat} (hm : m < 256) : hn_ret sx sL (d + 3) 14 [hn_vr 45, hn_vi m] (hn_m I k g) (some (hn_vi (hn_tkc s p m))) (hn_m I k g) := by
  have hn := h.n hI
  have h8 := hn_n8 hI
  have eT : I 1 9 = s 3 := h.2.2.1 1 (by omega)
  have eM : I 1 11 = s 5 := h.2.2.1 3 (by omega)
  have bs := hI.2.2.1
  have bt := hn_tkc_b hI (p := p) (m := m)
  have bz : ∀ a b, a < 8 → b < 8 → 0 ≤ hn_tkf s p a b ∧ hn_tkf s p a b ≤ 1267200 := fun a b ha hb => by
    have q1 := hn_suf_b hI (p := p) ha hb
    have q2 := hn_tkf_b hI (p := p) ha hb
    omega
  have cs := hm_smallTrunkSurcharge (sx := sx) (sL := sL) (k := k) (g := g) d hI h hT hm
  refine hn_of rfl (hb_X2_trunkCost_0_0.tr ((hn_for (fun i => hn_nx 14 4 [some (hn_vr 45), some (hn_vi m), some (hn_vi (hn_sm i (hn_ro (hn_n s) (hn_tkf s p) m))), some (hn_vi (i : Int)), none] [] (hn_m I k g)) (hn_n s) (fun i hi => ?_)).tr ?_))
  · have c := hm_contains (sx := sx) (sL := sL) (I := I) (k := k) (g := g) (d + 1) hm (v := i) (by omega)
    have b : 0 ≤ hn_sm i (hn_ro (hn_n s) (hn_tkf s p) m) ∧ hn_sm i (hn_ro (hn_n s) (hn_tkf s p) m) ≤ 10137600 * i := hn_sm_b 10137600 (n := i) (fun v hv => by
      have := hn_ro_b (n := hn_n s) (m := m) (c := 1267200) (fun b hb => bz v b (by omega) (by omega)) (by omega)
      omega)
    by_cases e : m.testBit i = true
    · rw [if_pos e] at c
      have ef : hn_sm (i + 1) (hn_ro (hn_n s) (hn_tkf s p) m) = hn_sm i (hn_ro (hn_n s) (hn_tkf s p) m) + hn_sm (hn_n s) (hn_tkf s p i) := by rw [hn_sm_up, hn_ro, if_pos e]
      have r1 := hb_X2_trunkCost_4_1 (sx := sx) (sL := sL) (x2 := hn_sm i (hn_ro (hn_n s) (hn_tkf s p) m)) (by omega) c (by decide)
      have r1' : hn_go sx sL (hn_ret sx sL (d + 2)) (hn_nx 14 4 [some (hn_vr 45), some (hn_vi m), some (hn_vi (hn_sm i (hn_ro (hn_n s) (hn_tkf s p) m))), some (hn_vi (i : Int)), none] [] (hn_m I k g)) (hn_nx 14 26 [some (hn_vr 45), some (hn_vi m), some (hn_vi (hn_sm i (hn_ro (hn_n s) (hn_tkf s p) m) + hn_sm 0 (hn_tkf s p i))), some (hn_vi (i : Int)), some (hn_vi ((0 : Nat) : Int))] [] (hn_m I k g)) := by
        rw [show hn_sm 0 (hn_tkf s p i) = 0 from rfl, Int.add_zero]
        exact r1
      show hn_go sx sL _ _ (hn_nx 14 4 [some (hn_vr 45), some (hn_vi m), some (hn_vi (hn_sm (i + 1) (hn_ro (hn_n s) (hn_tkf s p) m))), some (hn_vi ((i + 1 : Nat) : Int)), none] [] (hn_m I k g))
      rw [ef]
      refine r1'.tr ((hn_for (fun j => hn_nx 14 26 [some (hn_vr 45), some (hn_vi m), some (hn_vi (hn_sm i (hn_ro (hn_n s) (hn_tkf s p) m) + hn_sm j (hn_tkf s p i))), some (hn_vi (i : Int)), some (hn_vi (j : Int))] [] (hn_m I k g)) (hn_n s) (fun j hj => ?_)).tr (hb_X2_trunkCost_26_1 (by omega) (by omega)))
      have b2 : 0 ≤ hn_sm j (hn_tkf s p i) ∧ hn_sm j (hn_tkf s p i) ≤ 1267200 * j := hn_sm_b 1267200 (n := j) (fun v hv => bz i v (by omega) (by omega))
      have bj := hn_tkf_b hI (p := p) (a := i) (b := j) (by omega) (by omega)
      have c2 := hm_gap (sx := sx) (sL := sL) (k := k) (g := g) (d + 1) hI h (a := i) (b := j) (by omega) (by omega)
      have et := hT i j (by omega) (by omega)
      unfold hn_tkf at bj
      have r := hb_X2_trunkCost_26_0 (sx := sx) (sL := sL) (x1 := m) (x2 := hn_sm i (hn_ro (hn_n s) (hn_tkf s p) m) + hn_sm j (hn_tkf s p i)) (n3 := i) (n4 := j) (by omega) (by omega) (by omega) (by omega) c2 (by rw [et]; omega) (by rw [et]; omega)
      rw [et, Int.add_assoc] at r
      exact r
    · rw [if_neg e] at c
      have ef : hn_sm (i + 1) (hn_ro (hn_n s) (hn_tkf s p) m) = hn_sm i (hn_ro (hn_n s) (hn_tkf s p) m) := by rw [hn_sm_up, hn_ro, if_neg e, Int.add_zero]
      have r := hb_X2_trunkCost_4_0 (sx := sx) (sL := sL) (x2 := hn_sm i (hn_ro (hn_n s) (hn_tkf s p) m)) (by omega) c (by decide)
      show hn_go sx sL _ _ (hn_nx 14 4 [some (hn_vr 45), some (hn_vi m), some (hn_vi (hn_sm (i + 1) (hn_ro (hn_n s) (hn_tkf s p) m))), some (hn_vi ((i + 1 : Nat) : Int)), none] [] (hn_m I k g))
      rw [ef]
      exact r
  · have r := hb_X2_trunkCost_4_2 (sx := sx) (sL := sL) (x1 := m) (x2 := hn_tk s p m) (x3 := hn_n s) (by omega) (by rw [eT]; omega) cs (by rw [eT]; omega)
    rw [eT] at r
    exact r

theorem hm_total (d : Nat) (hI : hn_Iv s) (h : hn_HS I 1 s) (hp : ∀ v, v < hn_n s → I 6 v = p v ∧ -1 ≤ p v ∧ p v ≤ 7) {m : Nat} (hm : m < 256) :
    ∃ I', hn_ret sx sL (d + 4) 18 [hn_vr 45, hn_vr 6, hn_vi m] (hn_m I k g) (some (hn_vi (hn_cost s m p))) (hn_m I' k g) ∧ ∀ c, c ≠ 46 → c ≠ 47 → ∀ j, I' c j = I c j := by
  obtain ⟨I', c1, a1, a2, a3⟩ := hm_sumUp_6 (sx := sx) (sL := sL) (k := k) (g := g) (d + 1) hI h hp
  have h' : hn_HS I' 1 s := h.mv (fun c h1 h2 j => a3 c (by omega) (by omega) j)
  have hp' : ∀ v, v < hn_n s → I' 6 v = p v ∧ -1 ≤ p v ∧ p v ≤ 7 := fun v hv => by rw [a3 6 (by omega) (by omega)]; exact hp v hv
  have h8 := hn_n8 hI
  have c2 := hm_collectingCost (sx := sx) (sL := sL) (k := k) (g := g) (d + 1) hI h' hp'
  have c3 := hm_trunkCost (sx := sx) (sL := sL) (k := k) (g := g) d hI h' a2 hm
  have c4 := hm_distributingCost (sx := sx) (sL := sL) (k := k) (g := g) (d + 1) hI h' hp'
  have c5 := hm_openingCost (sx := sx) (sL := sL) (k := k) (g := g) (d + 1) hI h' hm
  have c6 := hm_congestionCost_46 (sx := sx) (sL := sL) (k := k) (g := g) (d + 1) hI h' (L := hn_ld s p) (fun j hj _ => ⟨a1 j (by omega), hn_ld_b hI⟩) hm
  have b1 := (hn_cc_b hI (p := p)).2
  have b2 := hn_tkc_b hI (p := p) (m := m)
  have b3 := (hn_dc_b hI (p := p)).2
  have b4 := hn_op_b hI (m := m)
  have b5 := hn_cg_b hI (L := hn_ld s p) (m := m) (fun a _ _ => hn_ld_b hI)
  have b6 : 0 ≤ hn_tkc s p m ∧ hn_tkc s p m ≤ 253440000 := by
    unfold hn_tkc
    omega
  exact ⟨I', hn_of rfl (hb_X2_total_0_0 c1 c2 c3 (by omega) c4 (by omega) c5 (by omega) c6 (by omega)), a3⟩
end HX21
