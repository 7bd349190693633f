/-! the law's beginning: the two new objects hold the same state -/
def hn_s0 : hn_S := fun j => if j = 2 ∨ j = 4 then 100 else if j = 3 then 50 else if j = 6 ∨ j = 8 then 9999 else 0
def hn_a0 : hn_AA := (hn_s0, [], fun _ => 0, 0)
theorem hn_Iv_s0 : hn_Iv hn_s0 := by
  refine ⟨⟨rfl, by decide⟩, ⟨rfl, by decide⟩, by decide, by decide, by decide, by decide, by decide, fun v hv => absurd hv (Nat.not_lt_zero v)⟩
theorem hn_AI_a0 : hn_AI hn_a0 := ⟨hn_Iv_s0, fun x hx => absurd hx List.not_mem_nil, Nat.zero_le 4, Nat.zero_le 120, fun j hj => absurd hj (Nat.not_lt_zero j)⟩
theorem hn_HS_s0 : hn_HS hn_iI25 1 hn_s0 := ⟨by decide +kernel, by decide +kernel, by decide +kernel, by decide +kernel, by decide +kernel, by decide +kernel, by decide +kernel, by decide +kernel, by decide +kernel⟩
theorem hn_HH_s0 : hn_HH hn_iI25 hn_kz [] := by
  refine ⟨by decide +kernel, Nat.zero_le 4, fun i => 17 + 7 * i, fun i hi => ?_, fun i j _ _ e => ?_, fun i s h => ?_⟩
  · have h : i = 0 ∨ i = 1 ∨ i = 2 ∨ i = 3 := by omega
    rcases h with rfl | rfl | rfl | rfl
    · exact ⟨by decide +kernel, Or.inl rfl⟩
    · exact ⟨by decide +kernel, Or.inr (Or.inl rfl)⟩
    · exact ⟨by decide +kernel, Or.inr (Or.inr (Or.inl rfl))⟩
    · exact ⟨by decide +kernel, Or.inr (Or.inr (Or.inr rfl))⟩
  · have e' : 17 + 7 * i = 17 + 7 * j := e
    omega
  · simp at h
theorem hn_HC_a0 : hn_HC hn_iI25 hn_kz hn_a0 := ⟨hn_HS_s0, hn_HH_s0, by decide +kernel, fun j hj => absurd hj (Nat.not_lt_zero j)⟩
theorem hn_MC_a0 : hn_MC hn_iI25 0 hn_a0 := by
  refine ⟨?_, by decide +kernel, fun i x h => ?_, by decide +kernel, by decide +kernel, fun j hj => absurd hj (Nat.not_lt_zero j)⟩
  · show ∀ j, j < 114 → hn_iI25 65 j = hn_s0 j
    decide +kernel
  · have h' : ([] : List hn_S)[i]? = some x := h
    simp at h'
theorem hn_LI_a0 : hn_LI hn_iI25 hn_kz := ⟨hn_a0, hn_AI_a0, hn_HC_a0, hn_MC_a0⟩
set_option maxRecDepth 20000 in
theorem hl_begin {sx : Nat → Int} {sL : Nat} (d : Nat) : hn_go sx sL (hn_ret sx sL (d + 14)) (hn_nx 168 0 [some hn_vs, none, none, none] [] ([], hn_bI, hn_bR, hn_bG)) (hn_nx 168 18 [some hn_vs, some (hn_vr 0), some (hn_vr 64), some (hn_vi 0)] [] (hn_sh25, hn_iI25, hn_iR25, hn_iG25)) :=
  fun P hc hw ht => hc _ (hc (hn_nx 168 3 [some hn_vs, none, none, none] [hn_vr 0] (hn_sh0, hn_iI0, hn_iR0, hn_iG0)) (hc (hn_nx 168 4 [some hn_vs, none, none, none] [hn_vr 0, hn_vr 0] (hn_sh0, hn_iI0, hn_iR0, hn_iG0)) (Exists.intro none (Exists.intro (hn_sh23, hn_iI23, hn_iR23, hn_iG23) (And.intro (hn_ct12 (d + 11)) (hc (hn_nx 168 7 [some hn_vs, none, none, none] [hn_vr 0] (hn_sh23, hn_iI23, hn_iR23, hn_iG23)) (hc (hn_nx 168 8 [some hn_vs, some (hn_vr 0), none, none] [] (hn_sh23, hn_iI23, hn_iR23, hn_iG23)) (hc (hn_nx 168 11 [some hn_vs, some (hn_vr 0), none, none] [hn_vr 64] (hn_sh24, hn_iI24, hn_iR24, hn_iG24)) (hc (hn_nx 168 12 [some hn_vs, some (hn_vr 0), none, none] [hn_vr 64, hn_vr 64] (hn_sh24, hn_iI24, hn_iR24, hn_iG24)) (Exists.intro none (Exists.intro (hn_sh25, hn_iI25, hn_iR25, hn_iG25) (And.intro (hn_ct13 (d + 13)) (hc (hn_nx 168 15 [some hn_vs, some (hn_vr 0), none, none] [hn_vr 64] (hn_sh25, hn_iI25, hn_iR25, hn_iG25)) (hc (hn_nx 168 16 [some hn_vs, some (hn_vr 0), some (hn_vr 64), none] [] (hn_sh25, hn_iI25, hn_iR25, hn_iG25)) (hc (hn_nx 168 17 [some hn_vs, some (hn_vr 0), some (hn_vr 64), none] [hn_vi 0] (hn_sh25, hn_iI25, hn_iR25, hn_iG25)) ht)))))))))))))))
theorem hl_all {sx : Nat → Int} {sL : Nat} (hL : sL ≤ 2560) : ∃ Mend : hn_Mem, Mend.1 = hn_SH ∧ hn_ret sx sL 15 168 [hn_vs] ([], hn_bI, hn_bR, hn_bG) (some (hn_vi 1)) Mend := by
  obtain ⟨I', k', g', r⟩ := hl_loop (sx := sx) (sL := sL) 0 hL sL 0 hn_iI25 hn_kz hn_iG25 (by omega) hn_LI_a0
  have b := hl_begin (sx := sx) (sL := sL) 0
  rw [hn_m0] at b
  exact ⟨hn_m I' k' g', rfl, hn_of (d := 14) rfl (b.tr r)⟩
