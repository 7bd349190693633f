/-! the law's own steps: the class and the model answer alike -/
section HL61
variable {sx : Nat → Int} {sL : Nat} {I I1 I2 : Nat → Nat → Int} {k k1 : Nat → Option Nat} {g : Nat → Nat → Int64} {a : hn_AA}
def hn_LI (I : Nat → Nat → Int) (k : Nat → Option Nat) : Prop := ∃ a, hn_AI a ∧ hn_HC I k a ∧ hn_MC I 0 a
theorem hn_MC.fC {b : Int} (h : hn_MC I b a) (f : hn_fC I1 I) : hn_MC I1 b a :=
  ⟨fun j hj => by rw [f 65 (by omega)]; exact h.1 j hj, by rw [f 64 (by omega)]; exact h.2.1, fun i x hx j hj => by rw [f 65 (by omega)]; exact h.2.2.1 i x hx j hj, by rw [f 64 (by omega)]; exact h.2.2.2.1, by rw [f 64 (by omega)]; exact h.2.2.2.2.1, fun j hj => by rw [f 75 (by omega)]; exact h.2.2.2.2.2 j hj⟩
theorem hn_HC.fM (h : hn_HC I k a) (f : hn_fM I1 I) : hn_HC I1 k a := h.mv (fun c hc j => f c (by omega) j) (f 60 (by omega) 1)
theorem hl_same (hA : hn_AI a) (H : hn_HC I1 k1 a) (M : hn_MC I2 0 a) (F : hn_fM I2 I1) : hn_LI I2 k1 := ⟨a, hA, H.fM F, M⟩
theorem hl_rec {r : Int} {t : hn_S} (hA : hn_AI a) (ht : hn_Iv t) (H : hn_HC I1 k1 (hn_rec a r t)) (M : hn_MC I2 0 (hn_recM 0 a r t)) (F : hn_fM I2 I1) : hn_LI I2 k1 := ⟨hn_rec a r t, hA.rec ht, H.fM F, by rw [← hn_recM_0]; exact M⟩
theorem hn_Iv_hs_adopt {s : hn_S} (hI : hn_Iv s) (c : Int) : hn_Iv (hs_adopt s c) := by
  unfold hs_adopt
  by_cases e : 0 ≤ c ∧ c ≤ 8
  · rw [if_pos e]
    exact ((hn_RB0 s (fun _ => 0)).all hI c).Iv hI
  · rw [if_neg e]
    exact hI
theorem hn_hm_ne {s : hn_S} (hI : hn_Iv s) (e : ¬ s 1 = 0) : hn_hm s ≠ 0 ∧ hn_hm s < 2 ^ hn_n s := by
  have := hI.2.1
  exact ⟨fun q => by rw [q] at this; exact e this.1, this.2⟩
theorem hn_Iv_hs_settle {s : hn_S} (hI : hn_Iv s) : hn_Iv (hs_settle s) := by
  unfold hs_settle
  by_cases e : s 1 = 0
  · rw [if_pos e]
    exact hI
  · rw [if_neg e]
    have m := hn_hm_ne hI e
    exact ((hn_RB0 s (fun _ => 0)).try hI m.1 m.2).Iv hI
theorem hn_Iv_hs_improve {s : hn_S} (hI : hn_Iv s) : hn_Iv (hs_improve s) := by
  unfold hs_improve hn_imr
  by_cases e : s 1 = 0
  · rw [if_pos e]
    exact hI
  · rw [if_neg e]
    have m := hn_hm_ne hI e
    exact (hn_imp_RB hI 256 _ m.2 ((hn_RB0 s (fun _ => 0)).try hI m.1 m.2)).2.Iv hI
theorem hn_Iv_hs_run {a : hn_AA} (hI : hn_Iv a.1) : hn_Iv (hs_run a) := by
  unfold hs_run
  by_cases e : (hn_txt a).2 = -1
  · rw [if_pos e]
    exact hn_ex_Iv _ hI
  · rw [if_neg e]
    exact hI
theorem hl_lcmp {x : Int64} : hn_lcmp x x = 0 := by
  unfold hn_lcmp
  simp [lg_cmp]
def hn_LJ (sx : Nat → Int) (sL d : Nat) (I : Nat → Nat → Int) (k : Nat → Option Nat) (g : Nat → Nat → Int64) (n3 : Nat) (v : Int) : Prop :=
  ∃ I' k' g', hn_go sx sL (hn_ret sx sL (d + 14)) (hn_nx 168 32 [some hn_vs, some (hn_vr 0), some (hn_vr 64), some (hn_vi (n3 : Int))] [hn_vi v] (hn_m I k g)) (hn_nx 168 18 [some hn_vs, some (hn_vr 0), some (hn_vr 64), some (hn_vi ((n3 : Int) + 5))] [] (hn_m I' k' g')) ∧ hn_LI I' k'
theorem hl_step0 (d : Nat) {n3 : Nat} (hn : n3 + 4 < sL) (hL : sL ≤ 2560) (q : hn_LI I k) : hn_LJ sx sL d I k g n3 0 := by
  obtain ⟨a, hA, H, M⟩ := q
  obtain ⟨I1, k1, C1, H1, F1⟩ := hc_addNode (sx := sx) (sL := sL) (k := k) (g := g) (d + 10) hA H (sx (n3 + 1)) (sx (n3 + 2)) (sx (n3 + 3)) (sx (n3 + 4))
  obtain ⟨I2, C2, M2, F2⟩ := hx_addNode (sx := sx) (sL := sL) (k := k1) (g := g) (d + 11) hA (M.fC F1) (sx (n3 + 1)) (sx (n3 + 2)) (sx (n3 + 3)) (sx (n3 + 4))
  exact ⟨_, _, _, hb_L_law_v0_32_0 (c9 := C1) (c10 := C2) (h11 := rfl), hl_rec hA (hn_Iv_hs_add hA.1 _ _ _ _) H1 M2 F2.fM⟩
theorem hl_step1 (d : Nat) {n3 : Nat} (hn : n3 + 4 < sL) (hL : sL ≤ 2560) (q : hn_LI I k) : hn_LJ sx sL d I k g n3 1 := by
  obtain ⟨a, hA, H, M⟩ := q
  obtain ⟨I1, k1, C1, H1, F1⟩ := hc_setFlow (sx := sx) (sL := sL) (k := k) (g := g) (d + 10) hA H (sx (n3 + 1)) (sx (n3 + 2)) (sx (n3 + 3))
  obtain ⟨I2, C2, M2, F2⟩ := hx_setFlow (sx := sx) (sL := sL) (k := k1) (g := g) (d + 11) hA (M.fC F1) (sx (n3 + 1)) (sx (n3 + 2)) (sx (n3 + 3))
  exact ⟨_, _, _, hb_L_law_v1_32_0 (c7 := C1) (c8 := C2) (h9 := rfl), hl_rec hA (hn_Iv_hs_flow hA.1 _ _ _) H1 M2 F2.fM⟩
theorem hl_step2 (d : Nat) {n3 : Nat} (hn : n3 + 4 < sL) (hL : sL ≤ 2560) (q : hn_LI I k) : hn_LJ sx sL d I k g n3 2 := by
  obtain ⟨a, hA, H, M⟩ := q
  obtain ⟨I1, k1, C1, H1, F1⟩ := hc_setNode (sx := sx) (sL := sL) (k := k) (g := g) (d + 10) hA H (sx (n3 + 1)) (sx (n3 + 2)) (sx (n3 + 3))
  obtain ⟨I2, C2, M2, F2⟩ := hx_setNode (sx := sx) (sL := sL) (k := k1) (g := g) (d + 11) hA (M.fC F1) (sx (n3 + 1)) (sx (n3 + 2)) (sx (n3 + 3))
  exact ⟨_, _, _, hb_L_law_v2_32_0 (c7 := C1) (c8 := C2) (h9 := rfl), hl_rec hA (hn_Iv_hs_node hA.1 _ _ _) H1 M2 F2.fM⟩
theorem hl_step3 (d : Nat) {n3 : Nat} (hn : n3 + 4 < sL) (hL : sL ≤ 2560) (q : hn_LI I k) : hn_LJ sx sL d I k g n3 3 := by
  obtain ⟨a, hA, H, M⟩ := q
  obtain ⟨I1, k1, C1, H1, F1⟩ := hc_setFactors (sx := sx) (sL := sL) (k := k) (g := g) (d + 10) hA H (sx (n3 + 1)) (sx (n3 + 2)) (sx (n3 + 3)) (sx (n3 + 4))
  obtain ⟨I2, C2, M2, F2⟩ := hx_setFactors (sx := sx) (sL := sL) (k := k1) (g := g) (d + 11) hA (M.fC F1) (sx (n3 + 1)) (sx (n3 + 2)) (sx (n3 + 3)) (sx (n3 + 4))
  exact ⟨_, _, _, hb_L_law_v3_32_0 (c9 := C1) (c10 := C2) (h11 := rfl), hl_rec hA (hn_Iv_hs_fac hA.1 _ _ _ _) H1 M2 F2.fM⟩
theorem hl_step4 (d : Nat) {n3 : Nat} (hn : n3 + 4 < sL) (hL : sL ≤ 2560) (q : hn_LI I k) : hn_LJ sx sL d I k g n3 4 := by
  obtain ⟨a, hA, H, M⟩ := q
  obtain ⟨I1, k1, C1, H1, F1⟩ := hc_setCongestion (sx := sx) (sL := sL) (k := k) (g := g) (d + 10) hA H (sx (n3 + 1)) (sx (n3 + 2)) (sx (n3 + 3)) (sx (n3 + 4))
  obtain ⟨I2, C2, M2, F2⟩ := hx_setCongestion (sx := sx) (sL := sL) (k := k1) (g := g) (d + 11) hA (M.fC F1) (sx (n3 + 1)) (sx (n3 + 2)) (sx (n3 + 3)) (sx (n3 + 4))
  exact ⟨_, _, _, hb_L_law_v4_32_0 (c9 := C1) (c10 := C2) (h11 := rfl), hl_rec hA (hn_Iv_hs_con hA.1 _ _ _ _) H1 M2 F2.fM⟩
theorem hl_step5 (d : Nat) {n3 : Nat} (hn : n3 + 4 < sL) (hL : sL ≤ 2560) (q : hn_LI I k) : hn_LJ sx sL d I k g n3 5 := by
  obtain ⟨a, hA, H, M⟩ := q
  have C1 := hc_nodes (sx := sx) (sL := sL) (k := k) (g := g) (d + 13) H
  have C2 := hx_nodes (sx := sx) (sL := sL) (k := k) (g := g) (d + 13) M
  exact ⟨_, _, _, hb_L_law_v5_32_0 (c1 := C1) (c2 := C2) (h3 := rfl), hl_same hA H M hn_fM.rf⟩
theorem hl_step6 (d : Nat) {n3 : Nat} (hn : n3 + 4 < sL) (hL : sL ≤ 2560) (q : hn_LI I k) : hn_LJ sx sL d I k g n3 6 := by
  obtain ⟨a, hA, H, M⟩ := q
  have C1 := hc_node (sx := sx) (sL := sL) (k := k) (g := g) (d + 12) hA H (sx (n3 + 1)) (sx (n3 + 2))
  have C2 := hx_node (sx := sx) (sL := sL) (k := k) (g := g) (d + 11) hA M (sx (n3 + 1)) (sx (n3 + 2))
  exact ⟨_, _, _, hb_L_law_v6_32_0 (c5 := C1) (c6 := C2) (h7 := rfl), hl_same hA H M hn_fM.rf⟩
theorem hl_step7 (d : Nat) {n3 : Nat} (hn : n3 + 4 < sL) (hL : sL ≤ 2560) (q : hn_LI I k) : hn_LJ sx sL d I k g n3 7 := by
  obtain ⟨a, hA, H, M⟩ := q
  have C1 := hc_flow (sx := sx) (sL := sL) (k := k) (g := g) (d + 12) hA H (sx (n3 + 1)) (sx (n3 + 2))
  have C2 := hx_flow (sx := sx) (sL := sL) (k := k) (g := g) (d + 11) hA M (sx (n3 + 1)) (sx (n3 + 2))
  exact ⟨_, _, _, hb_L_law_v7_32_0 (c5 := C1) (c6 := C2) (h7 := rfl), hl_same hA H M hn_fM.rf⟩
theorem hl_step8 (d : Nat) {n3 : Nat} (hn : n3 + 4 < sL) (hL : sL ≤ 2560) (q : hn_LI I k) : hn_LJ sx sL d I k g n3 8 := by
  obtain ⟨a, hA, H, M⟩ := q
  have C1 := hc_distance (sx := sx) (sL := sL) (k := k) (g := g) (d + 12) hA H (sx (n3 + 1)) (sx (n3 + 2))
  have C2 := hx_distance (sx := sx) (sL := sL) (k := k) (g := g) (d + 11) hA M (sx (n3 + 1)) (sx (n3 + 2))
  exact ⟨_, _, _, hb_L_law_v8_32_0 (c5 := C1) (c6 := C2) (h7 := rfl), hl_same hA H M hn_fM.rf⟩
theorem hl_step10 (d : Nat) {n3 : Nat} (hn : n3 + 4 < sL) (hL : sL ≤ 2560) (q : hn_LI I k) : hn_LJ sx sL d I k g n3 10 := by
  obtain ⟨a, hA, H, M⟩ := q
  obtain ⟨I1, k1, C1, H1, F1⟩ := hc_assign (sx := sx) (sL := sL) (k := k) (g := g) (d + 10) hA H (sx (n3 + 1)) (sx (n3 + 2))
  obtain ⟨I2, C2, M2, F2⟩ := hx_assign (sx := sx) (sL := sL) (k := k1) (g := g) (d + 11) hA (M.fC F1) (sx (n3 + 1)) (sx (n3 + 2))
  exact ⟨_, _, _, hb_L_law_v10_32_0 (c5 := C1) (c6 := C2) (h7 := rfl), hl_rec hA (hn_Iv_hs_under hA.1 _ _) H1 M2 F2.fM⟩
theorem hl_step11 (d : Nat) {n3 : Nat} (hn : n3 + 4 < sL) (hL : sL ≤ 2560) (q : hn_LI I k) : hn_LJ sx sL d I k g n3 11 := by
  obtain ⟨a, hA, H, M⟩ := q
  have C1 := hc_hubs (sx := sx) (sL := sL) (k := k) (g := g) (d + 13) H
  have C2 := hx_hubs (sx := sx) (sL := sL) (k := k) (g := g) (d + 13) M
  exact ⟨_, _, _, hb_L_law_v11_32_0 (c1 := C1) (c2 := C2) (h3 := rfl), hl_same hA H M hn_fM.rf⟩
theorem hl_step12 (d : Nat) {n3 : Nat} (hn : n3 + 4 < sL) (hL : sL ≤ 2560) (q : hn_LI I k) : hn_LJ sx sL d I k g n3 12 := by
  obtain ⟨a, hA, H, M⟩ := q
  have C1 := hc_hubOf (sx := sx) (sL := sL) (k := k) (g := g) (d + 12) hA H (sx (n3 + 1))
  have C2 := hx_hubOf (sx := sx) (sL := sL) (k := k) (g := g) (d + 11) hA M (sx (n3 + 1))
  exact ⟨_, _, _, hb_L_law_v12_32_0 (c3 := C1) (c4 := C2) (h5 := rfl), hl_same hA H M hn_fM.rf⟩
theorem hl_step13 (d : Nat) {n3 : Nat} (hn : n3 + 4 < sL) (hL : sL ≤ 2560) (q : hn_LI I k) : hn_LJ sx sL d I k g n3 13 := by
  obtain ⟨a, hA, H, M⟩ := q
  obtain ⟨I1, C1, H1, F1⟩ := hc_check (sx := sx) (sL := sL) (k := k) (g := g) (d + 11) hA H
  obtain ⟨I2, C2, M2, F2⟩ := hx_check (sx := sx) (sL := sL) (k := k) (g := g) (d + 10) hA (M.fC F1)
  exact ⟨_, _, _, hb_L_law_v13_32_0 (c1 := C1) (c2 := C2) (h3 := rfl), hl_same hA H1 M2 F2⟩
theorem hl_step14 (d : Nat) {n3 : Nat} (hn : n3 + 4 < sL) (hL : sL ≤ 2560) (q : hn_LI I k) : hn_LJ sx sL d I k g n3 14 := by
  obtain ⟨a, hA, H, M⟩ := q
  obtain ⟨I1, C1, H1, F1⟩ := hc_load (sx := sx) (sL := sL) (k := k) (g := g) (d + 11) hA H (sx (n3 + 1))
  obtain ⟨I2, C2, M2, F2⟩ := hx_load (sx := sx) (sL := sL) (k := k) (g := g) (d + 11) hA (M.fC F1) (sx (n3 + 1))
  exact ⟨_, _, _, hb_L_law_v14_32_0 (c3 := C1) (c4 := C2) (h5 := rfl), hl_same hA H1 M2 F2⟩
theorem hl_step15 (d : Nat) {n3 : Nat} (hn : n3 + 4 < sL) (hL : sL ≤ 2560) (q : hn_LI I k) : hn_LJ sx sL d I k g n3 15 := by
  obtain ⟨a, hA, H, M⟩ := q
  obtain ⟨I1, C1, H1, F1⟩ := hc_trunk (sx := sx) (sL := sL) (k := k) (g := g) (d + 11) hA H (sx (n3 + 1)) (sx (n3 + 2))
  obtain ⟨I2, C2, M2, F2⟩ := hx_trunk (sx := sx) (sL := sL) (k := k) (g := g) (d + 11) hA (M.fC F1) (sx (n3 + 1)) (sx (n3 + 2))
  exact ⟨_, _, _, hb_L_law_v15_32_0 (c5 := C1) (c6 := C2) (h7 := rfl), hl_same hA H1 M2 F2⟩
theorem hl_step16 (d : Nat) {n3 : Nat} (hn : n3 + 4 < sL) (hL : sL ≤ 2560) (q : hn_LI I k) : hn_LJ sx sL d I k g n3 16 := by
  obtain ⟨a, hA, H, M⟩ := q
  obtain ⟨I1, C1, H1, F1⟩ := hc_cost (sx := sx) (sL := sL) (k := k) (g := g) (d + 9) hA H (sx (n3 + 1))
  obtain ⟨I2, C2, M2, F2⟩ := hx_cost (sx := sx) (sL := sL) (k := k) (g := g) (d + 9) hA (M.fC F1) (sx (n3 + 1))
  exact ⟨_, _, _, hb_L_law_v16_32_0 (c3 := C1) (c4 := C2) (h5 := rfl), hl_same hA H1 M2 F2⟩
theorem hl_step17 (d : Nat) {n3 : Nat} (hn : n3 + 4 < sL) (hL : sL ≤ 2560) (q : hn_LI I k) : hn_LJ sx sL d I k g n3 17 := by
  obtain ⟨a, hA, H, M⟩ := q
  have C1 := hc_path (sx := sx) (sL := sL) (k := k) (g := g) (d + 12) hA H (sx (n3 + 1)) (sx (n3 + 2)) (sx (n3 + 3))
  obtain ⟨I2, C2, M2, F2⟩ := hx_path (sx := sx) (sL := sL) (k := k) (g := g) (d + 11) hA M (sx (n3 + 1)) (sx (n3 + 2)) (sx (n3 + 3))
  exact ⟨_, _, _, hb_L_law_v17_32_0 (c7 := C1) (c8 := C2) (h9 := rfl), hl_same hA H M2 F2⟩
theorem hl_step18 (d : Nat) {n3 : Nat} (hn : n3 + 4 < sL) (hL : sL ≤ 2560) (q : hn_LI I k) : hn_LJ sx sL d I k g n3 18 := by
  obtain ⟨a, hA, H, M⟩ := q
  obtain ⟨I1, C1, H1, F1⟩ := hc_change (sx := sx) (sL := sL) (k := k) (g := g) (d + 9) hA H (sx (n3 + 1)) (sx (n3 + 2))
  obtain ⟨I2, C2, M2, F2⟩ := hx_change (sx := sx) (sL := sL) (k := k) (g := g) (d + 9) hA (M.fC F1) (sx (n3 + 1)) (sx (n3 + 2))
  exact ⟨_, _, _, hb_L_law_v18_32_0 (c5 := C1) (c6 := C2) (h7 := rfl), hl_same hA H1 M2 F2⟩
theorem hl_step19 (d : Nat) {n3 : Nat} (hn : n3 + 4 < sL) (hL : sL ≤ 2560) (q : hn_LI I k) : hn_LJ sx sL d I k g n3 19 := by
  obtain ⟨a, hA, H, M⟩ := q
  obtain ⟨I1, k1, C1, H1, F1⟩ := hc_settle (sx := sx) (sL := sL) (k := k) (g := g) (d + 1) hA H
  obtain ⟨I2, C2, M2, F2⟩ := hx_settle (sx := sx) (sL := sL) (k := k1) (g := g) (d + 10) hA (M.fC F1)
  exact ⟨_, _, _, hb_L_law_v19_32_0 (c1 := C1) (c2 := C2) (h3 := rfl), hl_rec hA (hn_Iv_hs_settle hA.1) H1 M2 F2⟩
theorem hl_step20 (d : Nat) {n3 : Nat} (hn : n3 + 4 < sL) (hL : sL ≤ 2560) (q : hn_LI I k) : hn_LJ sx sL d I k g n3 20 := by
  obtain ⟨a, hA, H, M⟩ := q
  obtain ⟨I1, C1, H1, F1⟩ := hc_least (sx := sx) (sL := sL) (k := k) (g := g) (d + 1) hA H (sx (n3 + 1))
  obtain ⟨I2, C2, M2, F2⟩ := hx_least (sx := sx) (sL := sL) (k := k) (g := g) (d + 10) hA (M.fC F1) (sx (n3 + 1))
  exact ⟨_, _, _, hb_L_law_v20_32_0 (c3 := C1) (c4 := C2) (h5 := rfl), hl_same hA H1 M2 F2⟩
theorem hl_step21 (d : Nat) {n3 : Nat} (hn : n3 + 4 < sL) (hL : sL ≤ 2560) (q : hn_LI I k) : hn_LJ sx sL d I k g n3 21 := by
  obtain ⟨a, hA, H, M⟩ := q
  obtain ⟨I1, C1, H1, F1⟩ := hc_best (sx := sx) (sL := sL) (k := k) (g := g) (d + 0) hA H (sx (n3 + 1))
  obtain ⟨I2, C2, M2, F2⟩ := hx_best (sx := sx) (sL := sL) (k := k) (g := g) (d + 9) hA (M.fC F1) (sx (n3 + 1))
  exact ⟨_, _, _, hb_L_law_v21_32_0 (c3 := C1) (c4 := C2) (h5 := rfl), hl_same hA H1 M2 F2⟩
theorem hl_step22 (d : Nat) {n3 : Nat} (hn : n3 + 4 < sL) (hL : sL ≤ 2560) (q : hn_LI I k) : hn_LJ sx sL d I k g n3 22 := by
  obtain ⟨a, hA, H, M⟩ := q
  obtain ⟨I1, k1, C1, H1, F1⟩ := hc_adopt (sx := sx) (sL := sL) (k := k) (g := g) (d + 0) hA H (sx (n3 + 1))
  obtain ⟨I2, C2, M2, F2⟩ := hx_adopt (sx := sx) (sL := sL) (k := k1) (g := g) (d + 9) hA (M.fC F1) (sx (n3 + 1))
  exact ⟨_, _, _, hb_L_law_v22_32_0 (c3 := C1) (c4 := C2) (h5 := rfl), hl_rec hA (hn_Iv_hs_adopt hA.1 _) H1 M2 F2⟩
theorem hl_step23 (d : Nat) {n3 : Nat} (hn : n3 + 4 < sL) (hL : sL ≤ 2560) (q : hn_LI I k) : hn_LJ sx sL d I k g n3 23 := by
  obtain ⟨a, hA, H, M⟩ := q
  obtain ⟨I1, k1, C1, H1, F1⟩ := hc_improve (sx := sx) (sL := sL) (k := k) (g := g) (d + 0) hA H
  obtain ⟨I2, C2, M2, F2⟩ := hx_improve (sx := sx) (sL := sL) (k := k1) (g := g) (d + 10) hA (M.fC F1)
  exact ⟨_, _, _, hb_L_law_v23_32_0 (c1 := C1) (c2 := C2) (h3 := rfl), hl_rec hA (hn_Iv_hs_improve hA.1) H1 M2 F2⟩
theorem hl_step24 (d : Nat) {n3 : Nat} (hn : n3 + 4 < sL) (hL : sL ≤ 2560) (q : hn_LI I k) : hn_LJ sx sL d I k g n3 24 := by
  obtain ⟨a, hA, H, M⟩ := q
  obtain ⟨I1, C1, H1, F1⟩ := hc_cheapest (sx := sx) (sL := sL) (k := k) (g := g) (d + 11) hA H (sx (n3 + 1)) (sx (n3 + 2)) (sx (n3 + 3))
  obtain ⟨I2, C2, M2, F2⟩ := hx_cheapest (sx := sx) (sL := sL) (k := k) (g := g) (d + 11) hA (M.fC F1) (sx (n3 + 1)) (sx (n3 + 2)) (sx (n3 + 3))
  exact ⟨_, _, _, hb_L_law_v24_32_0 (c7 := C1) (c8 := C2) (h9 := rfl), hl_same hA H1 M2 F2⟩
theorem hl_step25 (d : Nat) {n3 : Nat} (hn : n3 + 4 < sL) (hL : sL ≤ 2560) (q : hn_LI I k) : hn_LJ sx sL d I k g n3 25 := by
  obtain ⟨a, hA, H, M⟩ := q
  obtain ⟨I1, C1, H1, F1⟩ := hc_hubBound (sx := sx) (sL := sL) (k := k) (g := g) (d + 10) hA H
  obtain ⟨I2, C2, M2, F2⟩ := hx_hubBound (sx := sx) (sL := sL) (k := k) (g := g) (d + 10) hA (M.fC F1)
  exact ⟨_, _, _, hb_L_law_v25_32_0 (c1 := C1) (c2 := C2) (h3 := rfl), hl_same hA H1 M2 F2⟩
theorem hl_step26 (d : Nat) {n3 : Nat} (hn : n3 + 4 < sL) (hL : sL ≤ 2560) (q : hn_LI I k) : hn_LJ sx sL d I k g n3 26 := by
  obtain ⟨a, hA, H, M⟩ := q
  obtain ⟨I1, C1, H1, F1⟩ := hc_bound (sx := sx) (sL := sL) (k := k) (g := g) (d + 10) hA H (sx (n3 + 1))
  obtain ⟨I2, C2, M2, F2⟩ := hx_bound (sx := sx) (sL := sL) (k := k) (g := g) (d + 10) hA (M.fC F1) (sx (n3 + 1))
  exact ⟨_, _, _, hb_L_law_v26_32_0 (c3 := C1) (c4 := C2) (h5 := rfl), hl_same hA H1 M2 F2⟩
theorem hl_step27 (d : Nat) {n3 : Nat} (hn : n3 + 4 < sL) (hL : sL ≤ 2560) (q : hn_LI I k) : hn_LJ sx sL d I k g n3 27 := by
  obtain ⟨a, hA, H, M⟩ := q
  obtain ⟨I1, C1, H1, F1⟩ := hc_feasible (sx := sx) (sL := sL) (k := k) (g := g) (d + 2) hA H (sx (n3 + 1))
  obtain ⟨I2, C2, M2, F2⟩ := hx_feasible (sx := sx) (sL := sL) (k := k) (g := g) (d + 10) hA (M.fC F1) (sx (n3 + 1))
  exact ⟨_, _, _, hb_L_law_v27_32_0 (c3 := C1) (c4 := C2) (h5 := rfl), hl_same hA H1 M2 F2⟩
theorem hl_step28 (d : Nat) {n3 : Nat} (hn : n3 + 4 < sL) (hL : sL ≤ 2560) (q : hn_LI I k) : hn_LJ sx sL d I k g n3 28 := by
  obtain ⟨a, hA, H, M⟩ := q
  obtain ⟨I1, C1, H1, F1⟩ := hc_type (sx := sx) (sL := sL) (k := k) (g := g) (d + 12) hA H (sx (n3 + 1))
  obtain ⟨I2, C2, M2, F2⟩ := hx_type (sx := sx) (sL := sL) (k := k) (g := g) (d + 12) hA (M.fC F1) (sx (n3 + 1))
  exact ⟨_, _, _, hb_L_law_v28_32_0 (c3 := C1) (c4 := C2) (h5 := rfl), hl_same (hA.typ _) H1 M2 F2⟩
theorem hl_step29 (d : Nat) {n3 : Nat} (hn : n3 + 4 < sL) (hL : sL ≤ 2560) (q : hn_LI I k) : hn_LJ sx sL d I k g n3 29 := by
  obtain ⟨a, hA, H, M⟩ := q
  obtain ⟨I1, C1, H1, F1⟩ := hc_clear (sx := sx) (sL := sL) (k := k) (g := g) (d + 13) H
  obtain ⟨I2, C2, M2, F2⟩ := hx_clear (sx := sx) (sL := sL) (k := k) (g := g) (d + 13) (M.fC F1)
  exact ⟨_, _, _, hb_L_law_v29_32_0 (c1 := C1) (c2 := C2) (h3 := rfl), hl_same hA.clr H1 M2 F2⟩
theorem hl_step30 (d : Nat) {n3 : Nat} (hn : n3 + 4 < sL) (hL : sL ≤ 2560) (q : hn_LI I k) : hn_LJ sx sL d I k g n3 30 := by
  obtain ⟨a, hA, H, M⟩ := q
  obtain ⟨I1, C1, H1, F1⟩ := hc_textFault (sx := sx) (sL := sL) (k := k) (g := g) (d + 10) hA H
  obtain ⟨I2, C2, M2, F2⟩ := hx_textFault (sx := sx) (sL := sL) (k := k) (g := g) (d + 8) hA (M.fC F1)
  exact ⟨_, _, _, hb_L_law_v30_32_0 (c1 := C1) (c2 := C2) (h3 := rfl), hl_same hA H1 M2 F2⟩
theorem hl_step31 (d : Nat) {n3 : Nat} (hn : n3 + 4 < sL) (hL : sL ≤ 2560) (q : hn_LI I k) : hn_LJ sx sL d I k g n3 31 := by
  obtain ⟨a, hA, H, M⟩ := q
  obtain ⟨I1, k1, C1, H1, F1⟩ := hc_run (sx := sx) (sL := sL) (k := k) (g := g) (d + 9) hA H
  obtain ⟨I2, C2, M2, F2⟩ := hx_run (sx := sx) (sL := sL) (k := k1) (g := g) (d + 8) hA (M.fC F1)
  exact ⟨_, _, _, hb_L_law_v31_32_0 (c1 := C1) (c2 := C2) (h3 := rfl), hl_rec hA (hn_Iv_hs_run hA.1) H1 M2 F2⟩
theorem hl_step32 (d : Nat) {n3 : Nat} (hn : n3 + 4 < sL) (hL : sL ≤ 2560) (q : hn_LI I k) : hn_LJ sx sL d I k g n3 32 := by
  obtain ⟨a, hA, H, M⟩ := q
  obtain ⟨I1, C1, H1, F1⟩ := hc_undo (sx := sx) (sL := sL) (k := k) (g := g) (d + 11) H
  obtain ⟨I2, C2, M2, F2⟩ := hx_undo (sx := sx) (sL := sL) (k := k) (g := g) (d + 12) hA (M.fC F1)
  exact ⟨_, _, _, hb_L_law_v32_32_0 (c1 := C1) (c2 := C2) (h3 := rfl), hl_same hA.und H1 M2 F2⟩
theorem hl_step9 (d : Nat) {n3 : Nat} (hn : n3 + 4 < sL) (hL : sL ≤ 2560) (q : hn_LI I k) : hn_LJ sx sL d I k g n3 9 := by
  obtain ⟨a, hA, H, M⟩ := q
  by_cases e : sx (n3 + 2) = 0
  · obtain ⟨I1, k1, C1, H1, F1⟩ := hc_setHub (sx := sx) (sL := sL) (k := k) (g := g) (d + 10) hA H (sx (n3 + 1)) 0
    obtain ⟨I2, C2, M2, F2⟩ := hx_setHub (sx := sx) (sL := sL) (k := k1) (g := g) (d + 11) hA (M.fC F1) (sx (n3 + 1)) 0
    exact ⟨_, _, _, hb_L_law_v9_32_0 (h5 := e) (c6 := C1) (c7 := C2) (h8 := rfl), hl_rec hA (hn_Iv_hs_hub hA.1 _ _) H1 M2 F2.fM⟩
  · obtain ⟨I1, k1, C1, H1, F1⟩ := hc_setHub (sx := sx) (sL := sL) (k := k) (g := g) (d + 10) hA H (sx (n3 + 1)) 1
    obtain ⟨I2, C2, M2, F2⟩ := hx_setHub (sx := sx) (sL := sL) (k := k1) (g := g) (d + 11) hA (M.fC F1) (sx (n3 + 1)) 1
    exact ⟨_, _, _, hb_L_law_v9_32_1 (h5 := e) (c6 := C1) (c7 := C2) (h8 := rfl), hl_rec hA (hn_Iv_hs_hub hA.1 _ _) H1 M2 F2.fM⟩
theorem hl_step33 (d : Nat) {n3 : Nat} (hn : n3 + 4 < sL) (hL : sL ≤ 2560) (q : hn_LI I k) : hn_LJ sx sL d I k g n3 33 := by
  obtain ⟨a, hA, H, M⟩ := q
  have C1 := hc_digest (sx := sx) (sL := sL) (k := k) (g := g) (d + 11) hA H
  obtain ⟨g2, C2⟩ := hx_digest (sx := sx) (sL := sL) (k := k) (g := g) (d + 11) hA M
  exact ⟨_, _, _, hb_L_law_v33_32_0 (c1 := C1) (c2 := C2) (h3 := hl_lcmp), hl_same hA H M hn_fM.rf⟩
theorem hl_step (d : Nat) {n3 : Nat} (hn : n3 + 4 < sL) (hL : sL ≤ 2560) (q : hn_LI I k) (v : Int) : hn_LJ sx sL d I k g n3 v := by
  by_cases e : v < 0 ∨ 33 < v
  · exact ⟨_, _, _, hb_L_law_32_0 (h1 := e), q⟩
  have h : v = 0 ∨ v = 1 ∨ v = 2 ∨ v = 3 ∨ v = 4 ∨ v = 5 ∨ v = 6 ∨ v = 7 ∨ v = 8 ∨ v = 9 ∨ v = 10 ∨ v = 11 ∨ v = 12 ∨ v = 13 ∨ v = 14 ∨ v = 15 ∨ v = 16 ∨ v = 17 ∨ v = 18 ∨ v = 19 ∨ v = 20 ∨ v = 21 ∨ v = 22 ∨ v = 23 ∨ v = 24 ∨ v = 25 ∨ v = 26 ∨ v = 27 ∨ v = 28 ∨ v = 29 ∨ v = 30 ∨ v = 31 ∨ v = 32 ∨ v = 33 := by omega
  rcases h with e | e | e | e | e | e | e | e | e | e | e | e | e | e | e | e | e | e | e | e | e | e | e | e | e | e | e | e | e | e | e | e | e | e
  · rw [e]
    exact hl_step0 d hn hL q
  · rw [e]
    exact hl_step1 d hn hL q
  · rw [e]
    exact hl_step2 d hn hL q
  · rw [e]
    exact hl_step3 d hn hL q
  · rw [e]
    exact hl_step4 d hn hL q
  · rw [e]
    exact hl_step5 d hn hL q
  · rw [e]
    exact hl_step6 d hn hL q
  · rw [e]
    exact hl_step7 d hn hL q
  · rw [e]
    exact hl_step8 d hn hL q
  · rw [e]
    exact hl_step9 d hn hL q
  · rw [e]
    exact hl_step10 d hn hL q
  · rw [e]
    exact hl_step11 d hn hL q
  · rw [e]
    exact hl_step12 d hn hL q
  · rw [e]
    exact hl_step13 d hn hL q
  · rw [e]
    exact hl_step14 d hn hL q
  · rw [e]
    exact hl_step15 d hn hL q
  · rw [e]
    exact hl_step16 d hn hL q
  · rw [e]
    exact hl_step17 d hn hL q
  · rw [e]
    exact hl_step18 d hn hL q
  · rw [e]
    exact hl_step19 d hn hL q
  · rw [e]
    exact hl_step20 d hn hL q
  · rw [e]
    exact hl_step21 d hn hL q
  · rw [e]
    exact hl_step22 d hn hL q
  · rw [e]
    exact hl_step23 d hn hL q
  · rw [e]
    exact hl_step24 d hn hL q
  · rw [e]
    exact hl_step25 d hn hL q
  · rw [e]
    exact hl_step26 d hn hL q
  · rw [e]
    exact hl_step27 d hn hL q
  · rw [e]
    exact hl_step28 d hn hL q
  · rw [e]
    exact hl_step29 d hn hL q
  · rw [e]
    exact hl_step30 d hn hL q
  · rw [e]
    exact hl_step31 d hn hL q
  · rw [e]
    exact hl_step32 d hn hL q
  · rw [e]
    exact hl_step33 d hn hL q
/-- the law's loop, from its head -/
theorem hl_loop (d : Nat) (hL : sL ≤ 2560) : ∀ (f n3 : Nat) (I : Nat → Nat → Int) (k : Nat → Option Nat) (g : Nat → Nat → Int64), sL ≤ n3 + 5 * f → hn_LI I k →
    ∃ I' k' g', hn_go sx sL (hn_ret sx sL (d + 14)) (hn_nx 168 18 [some hn_vs, some (hn_vr 0), some (hn_vr 64), some (hn_vi (n3 : Int))] [] (hn_m I k g)) (.inr (some (hn_vi 1), hn_m I' k' g'))
  | 0, n3, I, k, g, hf, q => ⟨I, k, g, hb_L_law_18_0 (h2 := by omega)⟩
  | f + 1, n3, I, k, g, hf, q => by
    by_cases e : (sL : Int) - 5 < (n3 : Int)
    · exact ⟨I, k, g, hb_L_law_18_0 (h2 := e)⟩
    · have r1 := hb_L_law_18_1 (sx := sx) (sL := sL) (C := hn_ret sx sL (d + 14)) (I := I) (k := k) (g := g) (n3 := n3) (h2 := e)
      obtain ⟨I2, k2, g2, r2, q2⟩ := hl_step (sx := sx) (sL := sL) (I := I) (k := k) (g := g) d (n3 := n3) (by omega) hL q (hn_and (sx n3) 63)
      have r12 := r1.tr r2
      rw [show (n3 : Int) + 5 = ((n3 + 5 : Nat) : Int) by omega] at r12
      obtain ⟨I3, k3, g3, r3⟩ := hl_loop d hL f (n3 + 5) I2 k2 g2 (by omega) q2
      exact ⟨I3, k3, g3, r12.tr r3⟩
end HL61
