/-! the law's fits() -/
section HQ62
variable {sx : Nat → Int} {sL : Nat} {I : Nat → Nat → Int} {k : Nat → Option Nat} {g : Nat → Nat → Int64} {a : hn_AA} {C : hn_C}
theorem hq_fits44 {s : hn_S} (hI : hn_Iv s) {i : Nat} (hi : i < hn_n s) {x3 x4 x5 x6 : Int} : hn_go sx sL C (hn_nx 99 44 [some (hn_vr 0), some (hn_vi (s 0)), some (hn_vi (s 1)), some (hn_vi x3), some (hn_vi x4), some (hn_vi x5), some (hn_vi x6), some (hn_vi (i : Int)), none, none, none] [hn_vi (s (42 + i))] (hn_m I k g))
    (hn_nx 99 103 [some (hn_vr 0), some (hn_vi (s 0)), some (hn_vi (s 1)), some (hn_vi x3), some (hn_vi x4), some (hn_vi x5), some (hn_vi x6), some (hn_vi (i : Int)), some (hn_vi (s (42 + i))), some (hn_vi (if hn_hub s i = true then 1 else 0)), none] [] (hn_m I k g)) := by
  have h8 := hn_n8 hI
  have hb := hq_bit hI (v := i) (by omega)
  have n0 := hI.1.1
  obtain ⟨i1, i2⟩ := hI.2.2.2.2.2.2.2 i hi
  have bd := (hI.2.2.2.2.1 i (by omega)).2.2.2.2
  by_cases e : hn_hub s i = true
  · rw [if_pos e] at hb ⊢
    have ei := i1 e
    refine (hb_L_fits_44_0 (h1 := hb)).tr (hb_L_fits_63_3 (h1 := by omega) (h2 := by omega) (h3 := by omega) (h4 := by rw [ei, hb]; decide) (h5 := by decide) (h6 := ei))
  · rw [if_neg e] at hb ⊢
    refine (hb_L_fits_44_1 (h1 := by rw [hb]; decide)).tr ?_
    by_cases z : s (42 + i) < 0
    · exact hb_L_fits_63_0 (h1 := by omega) (h2 := by omega) (h3 := z) (h4 := rfl)
    · obtain ⟨q, q1, q2, q3⟩ := i2 (by omega)
      have hb2 := hq_bit hI (v := q) (by omega)
      rw [if_pos (show hn_hub s q = true from q3)] at hb2
      exact hb_L_fits_63_2 (h1 := by omega) (h2 := by omega) (h3 := z) (h4 := by rw [q2, hb2]; decide) (h5 := rfl)
theorem hq_fits103 {s : hn_S} {i : Nat} {x1 x2 x4 x5 x6 x9 : Int} : hn_go sx sL C (hn_nx 99 103 [some (hn_vr 0), some (hn_vi x1), some (hn_vi x2), some (hn_vi (hq_co s i)), some (hn_vi x4), some (hn_vi x5), some (hn_vi x6), some (hn_vi (i : Int)), some (hn_vi (s (42 + i))), some (hn_vi x9), none] [] (hn_m I k g))
    (hn_nx 99 118 [some (hn_vr 0), some (hn_vi x1), some (hn_vi x2), some (hn_vi (hq_co s (i + 1))), some (hn_vi x4), some (hn_vi x5), some (hn_vi x6), some (hn_vi (i : Int)), some (hn_vi (s (42 + i))), some (hn_vi x9), none] [] (hn_m I k g)) := by
  have e0 : hq_co s (i + 1) = if hq_co s i = 0 then 0 else if s (42 + i) < 0 then 0 else 1 := rfl
  rw [e0]
  by_cases e : hq_co s i = 0
  · rw [if_pos e]
    exact hb_L_fits_103_0 (h1 := e)
  · rw [if_neg e]
    by_cases z : s (42 + i) < 0
    · rw [if_pos z]
      exact hb_L_fits_103_1 (h1 := e) (h2 := z)
    · rw [if_neg z]
      exact hb_L_fits_103_2 (h1 := e) (h2 := z)
theorem hq_fits118 (d : Nat) (hA : hn_AI a) (h : hn_HC I k a) {i : Nat} (hi : i < hn_n a.1) {x1 x2 x3 x4 x5 x9 : Int} : hn_go sx sL (hn_ret sx sL (d + 2)) (hn_nx 99 118 [some (hn_vr 0), some (hn_vi x1), some (hn_vi x2), some (hn_vi x3), some (hn_vi x4), some (hn_vi x5), some (hn_vi (hn_sm i (hq_fsf a.1))), some (hn_vi (i : Int)), some (hn_vi (a.1 (42 + i))), some (hn_vi x9), none] [] (hn_m I k g))
    (hn_nx 99 139 [some (hn_vr 0), some (hn_vi x1), some (hn_vi x2), some (hn_vi x3), some (hn_vi x4), some (hn_vi x5), some (hn_vi (hn_sm (i + 1) (hq_fsf a.1))), some (hn_vi (i : Int)), none, some (hn_vi x9), none] [] (hn_m I k g)) := by
  have h8 := hn_n8 hA.1
  have e0 : hn_sm (i + 1) (hq_fsf a.1) = hn_sm i (hq_fsf a.1) + hq_fsf a.1 i := rfl
  have b := hn_sm_b8 (n := i) (f := hq_fsf a.1) (c := 800) (by omega) (by omega) (fun j hj => hq_fsf_b hA.1 (by omega))
  have b2 := hq_fsf_b hA.1 (v := i) (by omega)
  rw [e0]
  by_cases z : a.1 (42 + i) < 0
  · have ef : hq_fsf a.1 i = 0 := if_pos z
    rw [ef]
    exact hb_L_fits_118_0 (h1 := z) (h2 := by omega)
  · have ef : hq_fsf a.1 i = hn_out a.1 i := if_neg z
    rw [ef] at b2 ⊢
    have c := hc_node (sx := sx) (sL := sL) (g := g) d hA h (i : Int) 4
    have er : hr_prop a.1 (i : Int) 4 = hn_out a.1 i := by
      unfold hr_prop
      rw [if_pos (by constructor <;> omega), if_neg (by decide), if_neg (by decide), if_neg (by decide), if_neg (by decide), if_pos rfl, Int.toNat_natCast]
    rw [er] at c
    exact hb_L_fits_118_1 (h1 := z) (c2 := c) (h3 := by omega)
theorem hq_fits139 (d : Nat) (hA : hn_AI a) (h : hn_HC I k a) {i : Nat} (hi : i < hn_n a.1) {x1 x2 x3 x6 : Int} : ∃ I', hn_go sx sL (hn_ret sx sL (d + 3)) (hn_nx 99 139 [some (hn_vr 0), some (hn_vi x1), some (hn_vi x2), some (hn_vi x3), some (hn_vi (hq_fe a.1 i)), some (hn_vi (hn_sm i (hq_lsf a.1))), some (hn_vi x6), some (hn_vi (i : Int)), none, some (hn_vi (if hn_hub a.1 i = true then 1 else 0)), none] [] (hn_m I k g))
    (hn_nx 99 199 [some (hn_vr 0), some (hn_vi x1), some (hn_vi x2), some (hn_vi x3), some (hn_vi (hq_fe a.1 (i + 1))), some (hn_vi (hn_sm (i + 1) (hq_lsf a.1))), some (hn_vi x6), some (hn_vi (i : Int)), none, none, none] [] (hn_m I' k g)) ∧ hn_HC I' k a := by
  have h8 := hn_n8 hA.1
  have iN : hn_isN a.1 (i : Int) := by constructor <;> omega
  have e0 : hn_sm (i + 1) (hq_lsf a.1) = hn_sm i (hq_lsf a.1) + hq_lsf a.1 i := rfl
  have f0 : hq_fe a.1 (i + 1) = if hn_hub a.1 i = true then (if hq_fe a.1 i = 0 then 0 else if a.1 (34 + i) < hn_ld a.1 (hn_ho a.1) i then 0 else 1) else hq_fe a.1 i := rfl
  have b := hn_sm_b8 (n := i) (f := hq_lsf a.1) (c := 6400) (by omega) (by omega) (fun j hj => hq_lsf_b hA.1 j)
  have b2 := hq_lsf_b hA.1 i
  obtain ⟨I1, c1, H1, -⟩ := hc_load (sx := sx) (sL := sL) (g := g) d hA h (i : Int)
  refine ⟨I1, ?_, H1⟩
  rw [e0, f0]
  have el : hr_load a.1 (i : Int) = if hn_hub a.1 i = true then hn_ld a.1 (hn_ho a.1) i else -4 := by
    unfold hr_load
    rw [if_pos iN, Int.toNat_natCast]
  rw [el] at c1
  by_cases e : hn_hub a.1 i = true
  · have ef : hq_lsf a.1 i = hn_ld a.1 (hn_ho a.1) i := if_pos e
    rw [if_pos e] at c1
    rw [if_pos e, if_pos e, ef]
    rw [ef] at b2
    have c2 := hc_node (sx := sx) (sL := sL) (g := g) (d + 1) hA H1 (i : Int) 3
    have er : hr_prop a.1 (i : Int) 3 = a.1 (34 + i) := by
      unfold hr_prop
      rw [if_pos iN, if_neg (by decide), if_neg (by decide), if_neg (by decide), if_pos rfl, Int.toNat_natCast]
    rw [er] at c2
    by_cases z : hq_fe a.1 i = 0
    · rw [if_pos z]
      exact hb_L_fits_139_1 (h1 := by decide) (c2 := c1) (h3 := by omega) (h4 := z)
    · rw [if_neg z]
      by_cases y : a.1 (34 + i) < hn_ld a.1 (hn_ho a.1) i
      · rw [if_pos y]
        exact hb_L_fits_139_2 (h1 := by decide) (c2 := c1) (h3 := by omega) (h4 := z) (c5 := c2) (h6 := y)
      · rw [if_neg y]
        exact hb_L_fits_139_3 (h1 := by decide) (c2 := c1) (h3 := by omega) (h4 := z) (c5 := c2) (h6 := y)
  · have ef : hq_lsf a.1 i = 0 := if_neg e
    rw [if_neg e] at c1
    rw [if_neg e, if_neg e, ef, Int.add_zero]
    exact hb_L_fits_139_0 (h1 := rfl) (c2 := c1) (h3 := rfl)
/-- the loop over the nodes -/
theorem hq_fitsL (d : Nat) (hA : hn_AI a) (h : hn_HC I k a) : ∃ I', hn_go sx sL (hn_ret sx sL (d + 3)) (hn_nx 99 0 [some (hn_vr 0), none, none, none, none, none, none, none, none, none, none] [] (hn_m I k g))
    (hn_nx 99 205 [some (hn_vr 0), none, some (hn_vi (a.1 1)), some (hn_vi (hq_co a.1 (hn_n a.1))), some (hn_vi (hq_fe a.1 (hn_n a.1))), some (hn_vi (hn_sm (hn_n a.1) (hq_lsf a.1))), some (hn_vi (hn_sm (hn_n a.1) (hq_fsf a.1))), none, none, none, none] [] (hn_m I' k g)) ∧ hn_HC I' k a := by
  have h8 := hn_n8 hA.1
  have n0 := hn_n0 hA.1
  have c1 := hc_nodes (sx := sx) (sL := sL) (g := g) (d + 2) h
  have c2 := hc_hubs (sx := sx) (sL := sL) (g := g) (d + 2) h
  have r0 : hn_go sx sL (hn_ret sx sL (d + 3)) (hn_nx 99 0 [some (hn_vr 0), none, none, none, none, none, none, none, none, none, none] [] (hn_m I k g)) (hn_nx 99 20 [some (hn_vr 0), some (hn_vi (a.1 0)), some (hn_vi (a.1 1)), some (hn_vi (hq_co a.1 0)), none, none, none, none, none, none, none] [] (hn_m I k g)) := by
    have e0 : hq_co a.1 0 = if a.1 1 = 0 then 0 else 1 := rfl
    rw [e0]
    by_cases e : a.1 1 = 0
    · rw [if_pos e]
      exact hb_L_fits_0_0 (c1 := c1) (c2 := c2) (h3 := e)
    · rw [if_neg e]
      exact hb_L_fits_0_1 (c1 := c1) (c2 := c2) (h3 := e)
  obtain ⟨y, r1, H1⟩ := hn_forE (sx := sx) (sL := sL) (C := hn_ret sx sL (d + 3)) (fun i (J : Nat → Nat → Int) => hn_nx 99 32 [some (hn_vr 0), some (hn_vi (a.1 0)), some (hn_vi (a.1 1)), some (hn_vi (hq_co a.1 i)), some (hn_vi (hq_fe a.1 i)), some (hn_vi (hn_sm i (hq_lsf a.1))), some (hn_vi (hn_sm i (hq_fsf a.1))), some (hn_vi (i : Int)), none, none, none] [] (hn_m J k g)) (fun i J => hn_HC J k a) (hn_n a.1) (fun i J hi hJ => by
    have c3 := hc_hubOf (sx := sx) (sL := sL) (g := g) (d + 1) hA hJ (i : Int)
    have eh : hr_ho a.1 (i : Int) = a.1 (42 + i) := by
      unfold hr_ho
      rw [if_pos (by constructor <;> omega), Int.toNat_natCast]
    rw [eh] at c3
    have s1 := hb_L_fits_32_0 (sx := sx) (sL := sL) (C := hn_ret sx sL (d + 3)) (I := J) (k := k) (g := g) (x1 := a.1 0) (x2 := a.1 1) (x3 := hq_co a.1 i) (x4 := hq_fe a.1 i) (x5 := hn_sm i (hq_lsf a.1)) (x6 := hn_sm i (hq_fsf a.1)) (n7 := i) (h1 := by omega) (c2 := c3)
    have s2 := s1.tr ((hq_fits44 hA.1 hi).tr (hq_fits103.tr (hq_fits118 (d + 1) hA hJ hi)))
    obtain ⟨J1, s3, H⟩ := hq_fits139 (sx := sx) (sL := sL) (g := g) d hA hJ hi (x1 := a.1 0) (x2 := a.1 1) (x3 := hq_co a.1 (i + 1)) (x6 := hn_sm (i + 1) (hq_fsf a.1))
    exact ⟨J1, s2.tr (s3.tr (hb_L_fits_199_0 (h1 := by omega))), H⟩) I h
  exact ⟨y, r0.tr (hb_L_fits_20_0.tr (r1.tr (hb_L_fits_32_1 (h1 := by omega)))), H1⟩
/-- the sum of the parts -/
theorem hq_fitsS (d : Nat) (hA : hn_AI a) (h : hn_HC I k a) (hc : hn_cmp a.1) {x4 : Int} : ∃ I', hn_go sx sL (hn_ret sx sL (d + 5)) (hn_nx 99 259 [some (hn_vr 0), none, some (hn_vi (a.1 1)), none, some (hn_vi x4), none, none, none, none, none, none] [] (hn_m I k g))
    (hn_nx 99 289 [some (hn_vr 0), none, some (hn_vi (a.1 1)), none, some (hn_vi x4), none, none, some (hn_vi (hr_cost a.1 0)), none, none, none] [] (hn_m I' k g)) ∧ hn_HC I' k a := by
  obtain ⟨y, r1, H1⟩ := hn_forE (sx := sx) (sL := sL) (C := hn_ret sx sL (d + 5)) (fun i (J : Nat → Nat → Int) => hn_nx 99 265 [some (hn_vr 0), none, some (hn_vi (a.1 1)), none, some (hn_vi x4), none, none, some (hn_vi (hn_sm i (hq_pt a.1))), some (hn_vi ((i + 1 : Nat) : Int)), none, none] [] (hn_m J k g)) (fun i J => hn_HC J k a) 5 (fun i J hi hJ => by
    obtain ⟨J1, c1, H, -⟩ := hc_cost (sx := sx) (sL := sL) (g := g) d hA hJ ((i + 1 : Nat) : Int)
    have b1 := hq_pts_b hA.1 hc (i := i) (by omega)
    have b2 := hq_pts_b hA.1 hc (i := i + 1) (by omega)
    have e : hn_sm (i + 1) (hq_pt a.1) = hn_sm i (hq_pt a.1) + hr_cost a.1 ((i + 1 : Nat) : Int) := rfl
    rw [e] at b2
    have s1 := hb_L_fits_265_0 (sx := sx) (sL := sL) (C := hn_ret sx sL (d + 5)) (I := J) (k := k) (g := g) (x2 := a.1 1) (x4 := x4) (x7 := hn_sm i (hq_pt a.1)) (n8 := i + 1) (h1 := by omega) (c2 := c1) (h3 := by omega) (h4 := by omega)
    exact ⟨J1, s1, H⟩) I h
  rw [hq_pt_sum hc] at r1
  exact ⟨y, hb_L_fits_259_0.tr (r1.tr (hb_L_fits_265_1 (h1 := by omega))), H1⟩
/-- fits() answers true -/
theorem hq_mfits (d : Nat) (hA : hn_AI a) (h : hn_HC I k a) : ∃ I', hn_ret sx sL (d + 14) 99 [hn_vr 0] (hn_m I k g) (some (hn_vi 1)) (hn_m I' k g) ∧ hn_HC I' k a := by
  obtain ⟨I1, r1, H1⟩ := hq_fitsL (sx := sx) (sL := sL) (g := g) (d + 10) hA h
  obtain ⟨I2, c2, H2, -⟩ := hc_check (sx := sx) (sL := sL) (g := g) (d + 10) hA H1
  have hl := hq_loads hA.1
  by_cases hc : hn_cmp a.1
  · have co : hq_co a.1 (hn_n a.1) = 1 := (hq_co_cmp hA.1).mpr hc
    obtain ⟨I3, r3, H3⟩ := hq_fitsS (sx := sx) (sL := sL) (g := g) (d + 8) hA H2 hc (x4 := hq_fe a.1 (hn_n a.1))
    obtain ⟨I4, c4, H4, -⟩ := hc_cost (sx := sx) (sL := sL) (g := g) (d + 8) hA H3 0
    obtain ⟨I5, c5, H5, -⟩ := hc_hubBound (sx := sx) (sL := sL) (g := g) (d + 9) hA H4
    obtain ⟨I6, c6, H6, -⟩ := hc_bound (sx := sx) (sL := sL) (g := g) (d + 9) hA H5 0
    obtain ⟨I7, c7, H7, -⟩ := hc_least (sx := sx) (sL := sL) (g := g) d hA H6 (a.1 1)
    obtain ⟨m1, m2, m3, m4⟩ := hq_ends hA.1 hc
    have ra : hn_go sx sL (hn_ret sx sL (d + 13)) (hn_nx 99 205 [some (hn_vr 0), none, some (hn_vi (a.1 1)), some (hn_vi (hq_co a.1 (hn_n a.1))), some (hn_vi (hq_fe a.1 (hn_n a.1))), some (hn_vi (hn_sm (hn_n a.1) (hq_lsf a.1))), some (hn_vi (hn_sm (hn_n a.1) (hq_fsf a.1))), none, none, none, none] [] (hn_m I1 k g)) (hn_nx 99 239 [some (hn_vr 0), none, some (hn_vi (a.1 1)), some (hn_vi (hq_co a.1 (hn_n a.1))), some (hn_vi (hq_fe a.1 (hn_n a.1))), none, none, none, none, none, none] [] (hn_m I2 k g)) := by
      by_cases f : hq_fe a.1 (hn_n a.1) = 0
      · refine hb_L_fits_205_1 (h1 := hl) (c2 := c2) (h3 := by rw [co]; decide) (h4 := f) (h5 := ?_)
        unfold hr_check
        rw [if_pos hc, if_neg (fun z => by rw [hq_fe_fits.mpr z] at f; exact absurd f (by decide))]
      · refine hb_L_fits_205_2 (h1 := hl) (c2 := c2) (h3 := by rw [co]; decide) (h4 := f) (h5 := ?_)
        unfold hr_check
        rw [if_pos hc, if_pos (hq_fe_fits.mp ((hq_fe_01 _ _).resolve_left f))]
    have rb := hb_L_fits_239_1 (sx := sx) (sL := sL) (C := hn_ret sx sL (d + 13)) (I := I2) (k := k) (g := g) (x2 := a.1 1) (x3 := hq_co a.1 (hn_n a.1)) (x4 := hq_fe a.1 (hn_n a.1)) (h1 := by rw [co]; decide)
    have rc := hb_L_fits_289_0 (sx := sx) (sL := sL) (C := hn_ret sx sL (d + 13)) (I := I3) (k := k) (g := g) (x2 := a.1 1) (x4 := hq_fe a.1 (hn_n a.1)) (x7 := hr_cost a.1 0) (c1 := c4) (h2 := rfl) (c3 := c5) (h4 := by omega) (c5 := c6) (h6 := by omega)
    have rd := hb_L_fits_320_0 (sx := sx) (sL := sL) (C := hn_ret sx sL (d + 13)) (I := I6) (k := k) (g := g) (x2 := a.1 1) (x4 := hq_fe a.1 (hn_n a.1)) (x7 := hr_cost a.1 0) (c1 := c7)
    have re : hn_go sx sL (hn_ret sx sL (d + 13)) (hn_nx 99 327 [none, none, none, none, some (hn_vi (hq_fe a.1 (hn_n a.1))), none, none, some (hn_vi (hr_cost a.1 0)), some (hn_vi (hr_least a.1 (a.1 1))), none, none] [] (hn_m I7 k g)) (.inr (some (hn_vi 1), hn_m I7 k g)) := by
      by_cases f : hq_fe a.1 (hn_n a.1) = 0
      · exact hb_L_fits_327_0 (h1 := f) (h2 := by omega)
      · have m5 := m3 (hq_fe_fits.mp ((hq_fe_01 _ _).resolve_left f))
        exact hb_L_fits_327_1 (h1 := f) (h2 := by omega) (h3 := by omega)
    exact ⟨I7, hn_of rfl (r1.tr (ra.tr (rb.tr (r3.tr (rc.tr (rd.tr re)))))), H7⟩
  · have co : hq_co a.1 (hn_n a.1) = 0 := (hq_co_01 _ _).resolve_right (fun z => hc ((hq_co_cmp hA.1).mp z))
    obtain ⟨I3, c3, H3, -⟩ := hc_cost (sx := sx) (sL := sL) (g := g) (d + 8) hA H2 0
    rw [hq_costN hc] at c3
    have ra := hb_L_fits_205_0 (sx := sx) (sL := sL) (C := hn_ret sx sL (d + 13)) (I := I1) (k := k) (g := g) (x2 := a.1 1) (x3 := hq_co a.1 (hn_n a.1)) (x4 := hq_fe a.1 (hn_n a.1)) (x5 := hn_sm (hn_n a.1) (hq_lsf a.1)) (x6 := hn_sm (hn_n a.1) (hq_fsf a.1)) (h1 := hl) (c2 := c2) (h3 := co) (h4 := by
      unfold hr_check
      rw [if_neg hc])
    have rb := hb_L_fits_239_0 (sx := sx) (sL := sL) (C := hn_ret sx sL (d + 13)) (I := I2) (k := k) (g := g) (x2 := a.1 1) (x3 := hq_co a.1 (hn_n a.1)) (x4 := hq_fe a.1 (hn_n a.1)) (h1 := co) (c2 := c3) (h3 := rfl)
    exact ⟨I3, hn_of rfl (r1.tr (ra.tr rb)), H3⟩
end HQ62
