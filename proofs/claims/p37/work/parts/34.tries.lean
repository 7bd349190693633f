/-! what a search over a mask's plans finds: how many fit, the least cost, the first plan of that cost -/
def hn_ms1 (s : hn_S) (w : Nat) (q : Nat → Nat) (x : Int × Int × (Nat → Int)) : Int × Int × (Nat → Int) := if hn_fits s (hn_P q) w then (x.1 + 1, if hn_cost s w (hn_P q) < x.2.1 then (hn_cost s w (hn_P q), hn_P q) else x.2) else x
def hn_fnd (s : hn_S) (w : Nat) : Int × Int × (Nat → Int) := hn_dfs (hn_hl w (hn_n s)) (hn_ms1 s w) (hn_fr w (hn_n s)) (fun u => u) (0, 2147483647, fun _ => 0)
theorem hn_itr_rel {X Y : Type} {R : X → Y → Prop} {f : Nat → X → X} {h : Nat → Y → Y} : ∀ {n : Nat}, (∀ i x y, i < n → R x y → R (f i x) (h i y)) → ∀ {x : X} {y : Y}, R x y → R (hn_itr n f x) (hn_itr n h y)
  | 0, _, _, _, r => r
  | n + 1, e, _, _, r => by
    rw [hn_itr_up, hn_itr_up]
    exact e n _ _ (by omega) (hn_itr_rel (fun i x y hi => e i x y (by omega)) r)
/-- two searches side by side -/
theorem hn_dfs_rel {X Y : Type} {R : X → Y → Prop} {H : List Nat} {f : (Nat → Nat) → X → X} {h : (Nat → Nat) → Y → Y} : ∀ (F : List Nat) (p : Nat → Nat), (∀ q, hn_ext H F p q → ∀ x y, R x y → R (f q x) (h q y)) → F.Nodup → ∀ x y, R x y → R (hn_dfs H f F p x) (hn_dfs H h F p y)
  | [], p, e, _, x, y, r => e p ⟨fun _ _ => rfl, fun u hu => absurd hu (by simp)⟩ x y r
  | v :: F, p, e, hd, x, y, r => by
    show R (hn_itr H.length (fun j x => hn_dfs H f F (hn_put p v (H.getD j 0)) x) x) (hn_itr H.length (fun j x => hn_dfs H h F (hn_put p v (H.getD j 0)) x) y)
    refine hn_itr_rel (f := fun j x => hn_dfs H f F (hn_put p v (H.getD j 0)) x) (h := fun j x => hn_dfs H h F (hn_put p v (H.getD j 0)) x) (fun j x y hj r => hn_dfs_rel F _ (fun q hq => e q ⟨fun u hu => ?_, fun u hu => ?_⟩) (List.nodup_cons.mp hd).2 x y r) r
    · rw [List.mem_cons, not_or] at hu
      rw [hq.1 u hu.2]
      exact if_neg hu.1
    · rcases List.mem_cons.mp hu with e | e
      · have hv : u ∉ F := by rw [e]; exact (List.nodup_cons.mp hd).1
        rw [hq.1 u hv]
        unfold hn_put
        rw [if_pos e]
        exact hn_getD_mem hj
      · exact hq.2 u e
theorem hn_dfs_inv {X : Type} {R : X → Prop} {H : List Nat} {f : (Nat → Nat) → X → X} {F : List Nat} {p : Nat → Nat} (e : ∀ q, hn_ext H F p q → ∀ x, R x → R (f q x)) (hd : F.Nodup) {x : X} (r : R x) : R (hn_dfs H f F p x) :=
  hn_dfs_rel (R := fun (x : X) (_ : X) => R x) (h := f) F p (fun q hq x _ r => e q hq x r) hd x x r
/-- the best so far after a mask -/
def hn_try (s : hn_S) (w : Nat) (b : Int × Int × (Nat → Int)) : Int × Int × (Nat → Int) := if (hn_fnd s w).2.1 < b.1 then ((hn_fnd s w).2.1, (w : Int), (hn_fnd s w).2.2) else b
theorem hn_try_eq (s : hn_S) (w : Nat) (b : Int × Int × (Nat → Int)) (hb : b.1 ≤ 2147483647) : hn_dfs (hn_hl w (hn_n s)) (hn_step s w) (hn_fr w (hn_n s)) (fun u => u) b = hn_try s w b := by
  refine (hn_dfs_rel (R := fun (x y : Int × Int × (Nat → Int)) => y = if x.2.1 < b.1 then (x.2.1, (w : Int), x.2.2) else b) (f := hn_ms1 s w) (h := hn_step s w) (hn_fr w (hn_n s)) (fun u => u) (fun q _ x y r => ?_) (hn_fr_nd w _) (0, 2147483647, fun _ => 0) b ?_)
  · subst r
    unfold hn_ms1 hn_step hn_bet
    by_cases e : hn_fits s (hn_P q) w
    · rw [if_pos e, if_pos e]
      by_cases e1 : x.2.1 < b.1
      · rw [if_pos e1]
        by_cases e2 : hn_cost s w (hn_P q) < x.2.1
        · rw [if_pos e2, if_pos (show hn_cost s w (hn_P q) < x.2.1 from e2), if_pos (show hn_cost s w (hn_P q) < b.1 by omega)]
        · rw [if_neg e2, if_neg (show ¬ hn_cost s w (hn_P q) < x.2.1 from e2), if_pos (show x.2.1 < b.1 from e1)]
      · rw [if_neg e1]
        by_cases e2 : hn_cost s w (hn_P q) < x.2.1
        · rw [if_pos e2]
        · rw [if_neg e2, if_neg (show ¬ hn_cost s w (hn_P q) < b.1 by omega), if_neg (show ¬ x.2.1 < b.1 from e1)]
    · rw [if_neg e, if_neg e]
  · rw [if_neg (show ¬ (2147483647 : Int) < b.1 by omega)]
theorem hn_try_le (s : hn_S) (w : Nat) (b : Int × Int × (Nat → Int)) : (hn_try s w b).1 ≤ b.1 := by
  unfold hn_try
  by_cases e : (hn_fnd s w).2.1 < b.1
  · rw [if_pos e]
    show (hn_fnd s w).2.1 ≤ b.1
    omega
  · rw [if_neg e]
    exact Int.le_refl _
/-- the least cost: none, or a plan's; the plan is a plan -/
theorem hn_fnd_b {s : hn_S} (hI : hn_Iv s) {w : Nat} : ((hn_fnd s w).2.1 = 2147483647 ∨ (0 ≤ (hn_fnd s w).2.1 ∧ (hn_fnd s w).2.1 ≤ 1200000000 ∧ ∃ q : Nat → Nat, hn_Pl (hn_hl w (hn_n s)) (hn_fr w (hn_n s)) q (hn_fr w (hn_n s)).length ∧ (hn_fnd s w).2.2 = hn_P q ∧ (hn_fnd s w).2.1 = hn_cost s w (hn_P q) ∧ hn_fits s (hn_P q) w)) := by
  refine hn_dfs_inv (R := fun x : Int × Int × (Nat → Int) => x.2.1 = 2147483647 ∨ (0 ≤ x.2.1 ∧ x.2.1 ≤ 1200000000 ∧ ∃ q : Nat → Nat, hn_Pl (hn_hl w (hn_n s)) (hn_fr w (hn_n s)) q (hn_fr w (hn_n s)).length ∧ x.2.2 = hn_P q ∧ x.2.1 = hn_cost s w (hn_P q) ∧ hn_fits s (hn_P q) w)) (fun q hq x r => ?_) (hn_fr_nd w _) (Or.inl rfl)
  have V0 : hn_Pl (hn_hl w (hn_n s)) (hn_fr w (hn_n s)) (fun u => u) 0 := ⟨fun _ _ => rfl, fun j hj => absurd hj (by omega)⟩
  have V1 := (V0.leaf (hn_fr_nd w _) hn_HF (by omega) hq).1
  have b := hn_cost_b hI (p := hn_P q) (m := w)
  unfold hn_ms1
  by_cases e : hn_fits s (hn_P q) w
  · rw [if_pos e]
    by_cases e2 : hn_cost s w (hn_P q) < x.2.1
    · rw [if_pos e2]
      exact Or.inr ⟨b.1, b.2, q, V1, rfl, rfl, e⟩
    · rw [if_neg e2]
      exact r
  · rw [if_neg e]
    exact r
theorem hn_hl_pos {w n : Nat} (h0 : w ≠ 0) (h : w < 2 ^ n) : 0 < (hn_hl w n).length := by
  refine Nat.pos_of_ne_zero fun e => h0 (Nat.eq_of_testBit_eq fun i => ?_)
  rw [Nat.zero_testBit]
  by_cases hi : i < n
  · by_cases q : w.testBit i = true
    · have := hn_hl_mem.mpr ⟨hi, q⟩
      rw [List.length_eq_zero_iff.mp e] at this
      exact absurd this (by simp)
    · simpa using q
  · exact Nat.testBit_lt_two_pow (Nat.lt_of_lt_of_le h (Nat.pow_le_pow_right (by omega) (by omega)))
theorem hn_w256 {s : hn_S} (hI : hn_Iv s) {w : Nat} (h : w < 2 ^ hn_n s) : w < 256 := by
  have h2 : 2 ^ hn_n s ≤ 2 ^ 8 := Nat.pow_le_pow_right (by omega) (hn_n8 hI)
  omega
/-- what a try leaves alone -/
def hn_kt (J I : Nat → Nat → Int) : Prop := ∀ c, c < 46 ∨ (48 < c ∧ c < 53) ∨ 58 < c → ∀ j, J c j = I c j
theorem hn_kt.rf {I : Nat → Nat → Int} : hn_kt I I := fun _ _ _ => rfl
theorem hn_kt.tr {A B I : Nat → Nat → Int} (h1 : hn_kt A B) (h2 : hn_kt B I) : hn_kt A I := fun c a j => by rw [h1 c a j, h2 c a j]
section HX34
variable {sx : Nat → Int} {sL : Nat} {I : Nat → Nat → Int} {k : Nat → Option Nat} {g : Nat → Nat → Int64} {s : hn_S}
/-- the hubs in their places -/
theorem hn_PI0 {w : Nat} {J : Nat → Nat → Int} (hP : hn_PH s w (hn_n s) J) (hr : hn_room s w (hn_n s) = 1) : hn_PI s w (fun u => u) 0 J := by
  refine ⟨fun u hu => (hP.2.2.2.2.2 u (hn_hl_mem.mp hu).1 (hn_hl_mem.mp hu).2).1, fun j hj => absurd hj (by omega), fun h hh => ?_⟩
  have m := hn_hl_mem.mp hh
  have e : hn_lf s (hn_fr w (hn_n s)) (fun u => u) 0 h = hn_out s h := by
    show hn_out s h + 0 = _
    omega
  rw [e]
  exact ⟨(hP.2.2.2.2.2 h m.1 m.2).2, hn_room_1.mp hr h m.1 m.2⟩
theorem hn_PL0 {w : Nat} {J : Nat → Nat → Int} (hI : hn_Iv s) (hS : hn_SS s J) (hP : hn_PH s w (hn_n s) J) (h0 : w ≠ 0) (hw : w < 2 ^ hn_n s) : hn_PL s (hn_hl w (hn_n s)) (hn_fr w (hn_n s)) J :=
  ⟨hS, hP.2.1, hP.2.2.1, hP.2.2.2.1, hP.2.2.2.2.1, fun u hu => (hn_hl_mem.mp hu).1, fun u hu => (hn_fr_mem.mp hu).1, by have := hn_hl_len w (hn_n s); have := hn_n8 hI; omega, hn_hl_pos h0 hw⟩
theorem hn_noroom0 (hI : hn_Iv s) {w : Nat} (hr : ¬ hn_room s w (hn_n s) = 1) {q : Nat → Nat} (hq : hn_ext (hn_hl w (hn_n s)) (hn_fr w (hn_n s)) (fun u => u) q) : ¬ hn_fits s (hn_P q) w := by
  have V0 : hn_Pl (hn_hl w (hn_n s)) (hn_fr w (hn_n s)) (fun u => u) 0 := ⟨fun _ _ => rfl, fun j hj => absurd hj (by omega)⟩
  have V1 := (V0.leaf (hn_fr_nd w _) hn_HF (by omega) hq).1
  intro hf
  refine hr (hn_room_1.mpr fun v hv hv2 => Int.not_lt.mp fun x => ?_)
  refine hn_full hI V1.1 (hn_hl_mem.mpr ⟨hv, hv2⟩) (i := 0) (by omega) ?_ hf
  show _ < _ + (0 : Int)
  omega
theorem hm_tryHubs (d : Nat) (hI : hn_Iv s) (h : hn_HS I 1 s) (hS : hn_SS s I) {w : Nat} (h0 : w ≠ 0) (hw : w < 2 ^ hn_n s) {b : Int × Int × (Nat → Int)} (hB : hn_BS (hn_n s) I b) (hb : b.1 ≤ 2147483647) :
    ∃ I', hn_ret sx sL (d + 12) 25 [hn_vr 48, hn_vi w] (hn_m I k g) (some (hn_vi (if (hn_try s w b).1 < b.1 then 1 else 0))) (hn_m I' k g) ∧ hn_BS (hn_n s) I' (hn_try s w b) ∧ hn_kt I' I := by
  have w8 := hn_w256 hI hw
  have h8 := hn_n8 hI
  obtain ⟨I1, c1, p1, e1, f1⟩ := hm_placeHubs (sx := sx) (sL := sL) (k := k) (g := g) (d + 9) hI h hS w8
  have B1 : hn_BS (hn_n s) I1 b := by
    refine ⟨by rw [e1.1, hB.1], by rw [e1.2, hB.2.1], fun v hv => ?_⟩
    rw [f1 58 (by omega)]
    exact hB.2.2 v hv
  have kt1 : hn_kt I1 I := fun c hc j => f1 c (by omega) j
  by_cases hr : hn_room s w (hn_n s) = 1
  · have L1 := hn_PL0 hI (hS.mv (fun c a b j => f1 c (by omega) j)) p1 h0 hw
    have H1 : hn_HS I1 1 s := h.mv (fun c a b j => f1 c (by omega) j)
    obtain ⟨I2, c2, r2, f2⟩ := hm_sumRest (sx := sx) (sL := sL) (k := k) (g := g) (d + 10) hI L1
    have H2 : hn_HS I2 1 s := H1.mv (fun c a b j => f2 c (by omega) j)
    have L2 := L1.mv (J' := I2) (fun c a b j => f2 c (by omega) j) (f2 48 (by omega) 12) (f2 48 (by omega) 13)
    have c3 := hm_openingCost (sx := sx) (sL := sL) (k := k) (g := g) (d + 9) hI H2 w8
    have c4 := hm_hubTrunks (sx := sx) (sL := sL) (k := k) (g := g) (d + 10) hI L2
    have PB2 : hn_PB s w I2 := ⟨H2, L2, by rw [f2 48 (by omega)]; exact p1.1, r2⟩
    have PI1 := hn_PI0 p1 hr
    have PI2 : hn_PI s w (fun u => u) 0 I2 := ⟨fun u hu => by rw [f2 56 (by omega)]; exact PI1.1 u hu, fun j hj => absurd hj (by omega), fun h hh => by rw [f2 57 (by omega)]; exact PI1.2.2 h hh⟩
    have B2 := B1.mv (f2 48 (by omega) 15) (f2 48 (by omega) 16) (f2 58 (by omega))
    have hl := hn_hl_len w (hn_n s)
    have hl0 := hn_hl_pos h0 hw
    obtain ⟨I3, c5, B3, -, k3⟩ := hm_place (sx := sx) (sL := sL) (k := k) (g := g) hI w8 (hn_fr w (hn_n s)).length 0 (d + 7 - (hn_fr w (hn_n s)).length) (fun u => u) I2 b (by omega) ⟨fun _ _ => rfl, fun j hj => absurd hj (by omega)⟩ PB2 PI2 B2
    rw [show d + 7 - (hn_fr w (hn_n s)).length + (hn_fr w (hn_n s)).length + 4 = d + 11 by omega] at c5
    have esf : hn_sf s w (hn_hl w (hn_n s)) (hn_fr w (hn_n s)) (fun u => u) 0 = hn_op s w + hn_ht s (hn_hl w (hn_n s)) := by
      show _ + (0 : Int) = _
      omega
    rw [esf] at c5
    rw [List.drop_zero, hn_try_eq s w b hb] at B3
    have bo := hn_op_b hI (m := w)
    have bt := hn_ht_b hI (H := hn_hl w (hn_n s)) (fun u hu => by have := (hn_hl_mem.mp hu).1; omega) (by omega)
    have kt3 : hn_kt I3 I := fun c hc j => by rw [k3.2 c (by omega), f2 c (by omega), kt1 c hc]
    refine ⟨I3, ?_, B3, kt3⟩
    rw [hr] at c1
    by_cases t : (hn_try s w b).1 < b.1
    · rw [if_pos t]
      exact hn_of rfl (hb_X3_tryHubs_0_2 (c1 := c1) (h2 := by decide) (c3 := c2) (c4 := c3) (c5 := c4) (h6 := by omega) (c7 := c5) (h8 := by rw [B3.1, hB.1]; exact t))
    · rw [if_neg t]
      exact hn_of rfl (hb_X3_tryHubs_0_3 (c1 := c1) (h2 := by decide) (c3 := c2) (c4 := c3) (c5 := c4) (h6 := by omega) (c7 := c5) (h8 := by rw [B3.1, hB.1]; exact t))
  · have et : hn_try s w b = b := by
      rw [← hn_try_eq s w b hb]
      exact hn_dfs_id (hn_fr_nd w _) fun q hq => by
        unfold hn_step
        exact if_neg (hn_noroom0 hI hr hq)
    have er := (hn_room_01 s w (hn_n s)).resolve_right hr
    rw [er] at c1
    refine ⟨I1, ?_, by rw [et]; exact B1, kt1⟩
    rw [et, if_neg (Int.lt_irrefl _)]
    exact hn_of rfl (hb_X3_tryHubs_0_1 (c1 := c1) (h2 := rfl) (h3 := by rw [e1.1]; exact Int.lt_irrefl _))
end HX34
