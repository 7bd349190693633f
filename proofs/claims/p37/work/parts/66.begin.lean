/-! the law's beginning: a new object -/
def hn_s0 : hn_S := fun j => if j = 2 ∨ j = 4 then 100 else if j = 3 then 50 else if j = 6 ∨ j = 8 then 9999 else 0
def hn_a0 : hn_AA := (hn_s0, [], fun _ => 0, 0)
theorem hn_Iv_s0 : hn_Iv hn_s0 := by
  refine ⟨⟨rfl, by decide⟩, ⟨rfl, by decide⟩, by decide, by decide, by decide, by decide, by decide, fun v hv => absurd hv (Nat.not_lt_zero v)⟩
theorem hn_AI_a0 : hn_AI hn_a0 := ⟨hn_Iv_s0, fun x hx => absurd hx List.not_mem_nil, Nat.zero_le 4, Nat.zero_le 120, fun j hj => absurd hj (Nat.not_lt_zero j)⟩
theorem hn_HS_s0 : hn_HS hn_iI23 1 hn_s0 := ⟨by decide +kernel, by decide +kernel, by decide +kernel, by decide +kernel, by decide +kernel, by decide +kernel, by decide +kernel, by decide +kernel, by decide +kernel⟩
theorem hn_HH_s0 : hn_HH hn_iI23 hn_kz [] := by
  refine ⟨by decide +kernel, Nat.zero_le 4, fun i => 17 + 7 * i, fun i hi => ?_, fun i j _ _ e => ?_, fun i s h => ?_⟩
  · have h : i = 0 ∨ i = 1 ∨ i = 2 ∨ i = 3 := by omega
    rcases h with rfl | rfl | rfl | rfl
    · exact ⟨by decide +kernel, Or.inl rfl⟩
    · exact ⟨by decide +kernel, Or.inr (Or.inl rfl)⟩
    · exact ⟨by decide +kernel, Or.inr (Or.inr (Or.inl rfl))⟩
    · exact ⟨by decide +kernel, Or.inr (Or.inr (Or.inr rfl))⟩
  · have e' : 17 + 7 * i = 17 + 7 * j := e
    omega
  · simp at h
theorem hn_HC_a0 : hn_HC hn_iI23 hn_kz hn_a0 := ⟨hn_HS_s0, hn_HH_s0, by decide +kernel, fun j hj => absurd hj (Nat.not_lt_zero j)⟩
set_option maxRecDepth 20000 in
theorem hq_begin {sx : Nat → Int} {sL : Nat} (d : Nat) : hn_go sx sL (hn_ret sx sL (d + 14)) (hn_nx 168 0 [some hn_vs, none, none, none, none, none, none, none, none, none, none, none, none, none] [] ([], hn_bI, hn_bR, hn_bG)) (hn_nx 168 8 [some hn_vs, some (hn_vr 0), none, none, none, none, none, none, none, none, none, none, none, none] [] (hn_sh23, hn_iI23, hn_iR23, hn_iG23)) :=
  fun P hc hw ht => hc _ (hc (hn_nx 168 3 [some hn_vs, none, none, none, none, none, none, none, none, none, none, none, none, none] [hn_vr 0] (hn_sh0, hn_iI0, hn_iR0, hn_iG0)) (hc (hn_nx 168 4 [some hn_vs, none, none, none, none, none, none, none, none, none, none, none, none, none] [hn_vr 0, hn_vr 0] (hn_sh0, hn_iI0, hn_iR0, hn_iG0)) (Exists.intro none (Exists.intro (hn_sh23, hn_iI23, hn_iR23, hn_iG23) (And.intro (hn_ct12 (d + 11)) (hc (hn_nx 168 7 [some hn_vs, none, none, none, none, none, none, none, none, none, none, none, none, none] [hn_vr 0] (hn_sh23, hn_iI23, hn_iR23, hn_iG23)) ht))))))
theorem hq_r1 : hr_bound hn_s0 0 = 0 := by decide +kernel
theorem hq_r2 : hr_best hn_s0 0 = -1 := rfl
theorem hq_r3 : hr_check hn_s0 = 1 := by
  unfold hr_check
  rw [if_neg (fun h => h.1 rfl)]
theorem hq_r4 : hr_settle hn_s0 = -4 := if_pos rfl
theorem hq_r5 : hs_settle hn_s0 = hn_s0 := if_pos rfl
section HQ66
variable {sx : Nat → Int} {sL : Nat} {I : Nat → Nat → Int} {k : Nat → Option Nat} {g : Nat → Nat → Int64}
theorem hq_first (d : Nat) (H : hn_HC I k hn_a0) : ∃ I' k', hn_go sx sL (hn_ret sx sL (d + 14)) (hn_nx 168 8 [some hn_vs, some (hn_vr 0), none, none, none, none, none, none, none, none, none, none, none, none] [] (hn_m I k g)) (hn_nx 168 61 [some hn_vs, some (hn_vr 0), some (hn_vi (hq_cell sx sL 0)), some (hn_vi (1 + hq_low (hq_cell sx sL 0) 5)), some (hn_vi 0), none, none, none, none, none, none, none, none, none] [] (hn_m I' k' g)) ∧ hq_L 0 (I', k') := by
  have hA := hn_AI_a0
  have b := hq_low_b (hq_cell sx sL 0) (n := 5) (by omega)
  obtain ⟨I3, c3, H3, -⟩ := hc_bound (sx := sx) (sL := sL) (g := g) (d + 10) hA H 0
  obtain ⟨I4, c4, H4, -⟩ := hc_best (sx := sx) (sL := sL) (g := g) d hA H3 0
  obtain ⟨I5, c5, H5, -⟩ := hc_check (sx := sx) (sL := sL) (g := g) (d + 11) hA H4
  obtain ⟨I6, k6, c6, H6, -⟩ := hc_settle (sx := sx) (sL := sL) (g := g) (d + 1) hA H5
  have er : hn_rec hn_a0 (hr_settle hn_a0.1) (hs_settle hn_a0.1) = hn_a0 := by
    rw [show hs_settle hn_a0.1 = hn_a0.1 from hq_r5]
    exact hq_rec_id hn_a0 (by rw [show hr_settle hn_a0.1 = -4 from hq_r4]; decide)
  rw [er] at H6
  have s1 := hb_L_law_8_0 (sx := sx) (sL := sL) (C := hn_ret sx sL (d + 14)) (I := I) (k := k) (g := g) (c1 := hq_mcell (d + 13) (x := 0) (by omega)) (c2 := hq_mlow (d + 13) (hq_cell sx sL 0) (n := 5) (by omega)) (h3 := by omega) (c4 := c3) (h5 := hq_r1) (c6 := c4) (h7 := hq_r2) (c8 := c5) (h9 := hq_r3) (c10 := c6) (h11 := hq_r4)
  exact ⟨I6, k6, s1.tr hb_L_law_58_0, hn_a0, hA, H6, rfl, rfl⟩
/-- the law, whole -/
theorem hq_all : ∃ Mend : hn_Mem, Mend.1 = hn_SH ∧ hn_ret sx sL 15 168 [hn_vs] ([], hn_bI, hn_bR, hn_bG) (some (hn_vi 1)) Mend := by
  have b0 := hq_begin (sx := sx) (sL := sL) 0
  rw [hn_m0] at b0
  obtain ⟨I1, k1, r1, L1⟩ := hq_first (sx := sx) (sL := sL) (g := hn_iG23) 0 hn_HC_a0
  have b := hq_low_b (hq_cell sx sL 0) (n := 5) (by omega)
  obtain ⟨n, hn⟩ : ∃ n : Nat, (n : Int) = 1 + hq_low (hq_cell sx sL 0) 5 := ⟨(1 + hq_low (hq_cell sx sL 0) 5).toNat, by omega⟩
  rw [← hn] at r1
  have n5 : 1 ≤ n ∧ n ≤ 5 := by omega
  obtain ⟨I2, k2, r2, L2⟩ := hq_nodes (sx := sx) (sL := sL) (g := hn_iG23) 0 (z := hq_cell sx sL 0) n5 L1
  obtain ⟨I3, k3, r3, L3⟩ := hq_sets (sx := sx) (sL := sL) (g := hn_iG23) 0 (z := hq_cell sx sL 0) L2
  obtain ⟨I4, k4, r4, L4⟩ := hq_flows (sx := sx) (sL := sL) (g := hn_iG23) 0 n5 L3
  have bs := hq_low_b (hq_cell sx sL 19) (n := 16) (by omega)
  have r5 := hb_L_law_322_0 (sx := sx) (sL := sL) (C := hn_ret sx sL (0 + 14)) (I := I4) (k := k4) (g := hn_iG23) (x3 := (n : Int)) (c1 := hq_mcell (0 + 13) (x := 19) (by omega)) (c2 := hq_mlow (0 + 13) (hq_cell sx sL 19) (n := 16) (by omega))
  obtain ⟨I6, k6, r6, L6⟩ := hq_steps (sx := sx) (sL := sL) (g := hn_iG23) 0 (x4 := hq_low (hq_cell sx sL 19) 16) L4 n5 bs.1 (by omega)
  obtain ⟨I7, k7, r7⟩ := hq_end (sx := sx) (sL := sL) (g := hn_iG23) 0 n5 L6
  exact ⟨hn_m I7 k7 hn_iG23, rfl, hn_of (d := 14) rfl (b0.tr (r1.tr (r2.tr (r3.tr (r4.tr (r5.tr (r6.tr r7)))))))⟩
end HQ66
