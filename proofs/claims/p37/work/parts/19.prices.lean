/-! plans: their loads and trunks; the class's sums -/
/-- an assignment: of each of the nodes, -1 or a node -/
def hn_ld (s : hn_S) (p : Nat → Int) (k : Nat) : Int := hn_sm (hn_n s) (fun a => if p a = k then hn_out s a else 0)
def hn_tw (s : hn_S) (p : Nat → Int) (a m i : Nat) : Int := hn_sm i (fun b => if p b = m then hn_fl s a b else 0)
def hn_tr (s : hn_S) (p : Nat → Int) (k m : Nat) : Int := hn_sm (hn_n s) (fun a => if p a = k then hn_tw s p a m (hn_n s) else 0)
theorem hn_forE {sx : Nat → Int} {sL : Nat} {C : hn_C} {X : Type} (F : Nat → X → hn_St) (P : Nat → X → Prop) (n : Nat) (h : ∀ i x, i < n → P i x → ∃ y, hn_go sx sL C (F i x) (F (i + 1) y) ∧ P (i + 1) y) (x : X) (hx : P 0 x) : ∃ y, hn_go sx sL C (F 0 x) (F n y) ∧ P n y := by
  induction n with
  | zero => exact ⟨x, hn_go.rf, hx⟩
  | succ n ih =>
    obtain ⟨y, h1, h2⟩ := ih fun i x hi => h i x (by omega)
    obtain ⟨z, h3, h4⟩ := h n y (by omega) h2
    exact ⟨z, h1.tr h3, h4⟩
theorem hn_tw_b {s : hn_S} (h : hn_Iv s) {p : Nat → Int} {a m i : Nat} (ha : a < 8) (hi : i ≤ 8) : 0 ≤ hn_tw s p a m i ∧ hn_tw s p a m i ≤ 100 * i := by
  have hf : ∀ b, b < i → 0 ≤ (if p b = m then hn_fl s a b else 0) ∧ (if p b = m then hn_fl s a b else 0) ≤ 100 := fun b hb => by
    have := hn_fl_b h ha (b := b) (by omega)
    by_cases e : p b = m
    · rw [if_pos e]
      exact this
    · rw [if_neg e]
      omega
  have h1 := hn_sm_nn fun b hb => (hf b hb).1
  have h2 := hn_sm_ub fun b hb => (hf b hb).2
  unfold hn_tw
  omega
theorem hn_ldi_b {s : hn_S} (h : hn_Iv s) {p : Nat → Int} {k i : Nat} (hi : i ≤ 8) : 0 ≤ hn_sm i (fun a => if p a = k then hn_out s a else 0) ∧ hn_sm i (fun a => if p a = k then hn_out s a else 0) ≤ 800 * i := by
  have hf : ∀ b, b < i → 0 ≤ (if p b = k then hn_out s b else 0) ∧ (if p b = k then hn_out s b else 0) ≤ 800 := fun b hb => by
    have := hn_out_b h (v := b) (by omega)
    by_cases e : p b = k
    · rw [if_pos e]
      exact this
    · rw [if_neg e]
      omega
  have h1 := hn_sm_nn fun b hb => (hf b hb).1
  have h2 := hn_sm_ub fun b hb => (hf b hb).2
  omega
theorem hn_ld_b {s : hn_S} (h : hn_Iv s) {p : Nat → Int} {k : Nat} : 0 ≤ hn_ld s p k ∧ hn_ld s p k ≤ 6400 := by
  have := hn_ldi_b h (p := p) (k := k) (i := hn_n s) (hn_n8 h)
  have h8 := hn_n8 h
  unfold hn_ld
  omega
theorem hn_tri_b {s : hn_S} (h : hn_Iv s) {p : Nat → Int} {k m i : Nat} (hi : i ≤ 8) : 0 ≤ hn_sm i (fun a => if p a = k then hn_tw s p a m (hn_n s) else 0) ∧ hn_sm i (fun a => if p a = k then hn_tw s p a m (hn_n s) else 0) ≤ 800 * i := by
  have h8 := hn_n8 h
  have hf : ∀ b, b < i → 0 ≤ (if p b = k then hn_tw s p b m (hn_n s) else 0) ∧ (if p b = k then hn_tw s p b m (hn_n s) else 0) ≤ 800 := fun b hb => by
    have := hn_tw_b h (p := p) (a := b) (m := m) (by omega) h8
    by_cases e : p b = k
    · rw [if_pos e]
      omega
    · rw [if_neg e]
      omega
  have h1 := hn_sm_nn fun b hb => (hf b hb).1
  have h2 := hn_sm_ub fun b hb => (hf b hb).2
  omega
theorem hn_tr_b {s : hn_S} (h : hn_Iv s) {p : Nat → Int} {k m : Nat} : 0 ≤ hn_tr s p k m ∧ hn_tr s p k m ≤ 6400 := by
  have := hn_tri_b h (p := p) (k := k) (m := m) (i := hn_n s) (hn_n8 h)
  have h8 := hn_n8 h
  unfold hn_tr
  omega
section HX19
variable {sx : Nat → Int} {sL : Nat} {I : Nat → Nat → Int} {k : Nat → Option Nat} {g : Nat → Nat → Int64} {s : hn_S} {p : Nat → Int}
theorem hm_fill46 (d : Nat) : ∃ I', hn_ret sx sL (d + 1) 167 [hn_vr 46, hn_vi 0] (hn_m I k g) none (hn_m I' k g) ∧ (∀ j, j < 8 → I' 46 j = 0) ∧ ∀ c, c ≠ 46 → ∀ j, I' c j = I c j := by
  obtain ⟨y, h1, h2⟩ := hn_forE (sx := sx) (sL := sL) (C := hn_ret sx sL d) (fun i (J : Nat → Nat → Int) => hn_nx 167 5 [some (hn_vr 46), some (hn_vi 0), some (hn_vi (i : Int)), some (hn_vi 8)] [] (hn_m J k g)) (fun i J => (∀ j, j < i → J 46 j = 0) ∧ ∀ c, c ≠ 46 → ∀ j, J c j = I c j) 8 (fun i J hi hJ => ⟨_, hb_J7_fill_46_5_0 (by omega), fun j hj => by
    by_cases e : j = i
    · rw [e, hn_up_eq]
    · rw [hn_up_ne (Or.inr e), hJ.1 j (by omega)], fun c hc j => by rw [hn_up_ne (Or.inl hc), hJ.2 c hc]⟩) I ⟨fun j hj => absurd hj (by omega), fun _ _ _ => rfl⟩
  exact ⟨y, hn_of rfl (hb_J7_fill_46_0_0.tr (h1.tr (hb_J7_fill_46_5_1 (by omega)))), h2.1, h2.2⟩
theorem hm_fill47 (d : Nat) : ∃ I', hn_ret sx sL (d + 1) 167 [hn_vr 47, hn_vi 0] (hn_m I k g) none (hn_m I' k g) ∧ (∀ j, j < 64 → I' 47 j = 0) ∧ ∀ c, c ≠ 47 → ∀ j, I' c j = I c j := by
  obtain ⟨y, h1, h2⟩ := hn_forE (sx := sx) (sL := sL) (C := hn_ret sx sL d) (fun i (J : Nat → Nat → Int) => hn_nx 167 5 [some (hn_vr 47), some (hn_vi 0), some (hn_vi (i : Int)), some (hn_vi 64)] [] (hn_m J k g)) (fun i J => (∀ j, j < i → J 47 j = 0) ∧ ∀ c, c ≠ 47 → ∀ j, J c j = I c j) 64 (fun i J hi hJ => ⟨_, hb_J7_fill_47_5_0 (by omega), fun j hj => by
    by_cases e : j = i
    · rw [e, hn_up_eq]
    · rw [hn_up_ne (Or.inr e), hJ.1 j (by omega)], fun c hc j => by rw [hn_up_ne (Or.inl hc), hJ.2 c hc]⟩) I ⟨fun j hj => absurd hj (by omega), fun _ _ _ => rfl⟩
  exact ⟨y, hn_of rfl (hb_J7_fill_47_0_0.tr (h1.tr (hb_J7_fill_47_5_1 (by omega)))), h2.1, h2.2⟩
theorem hm_addFlows_6 (d : Nat) (hI : hn_Iv s) (h : hn_HS I 1 s) (hp : ∀ v, v < hn_n s → I 6 v = p v ∧ -1 ≤ p v ∧ p v ≤ 7) {u q : Nat} (hu : u < hn_n s) (hq : q < 8) (hL : ∀ j, j < 8 → 0 ≤ I 46 j ∧ I 46 j ≤ 100000) (hT : ∀ a b, a < 8 → b < 8 → 0 ≤ I 47 (a * 8 + b) ∧ I 47 (a * 8 + b) ≤ 100000) :
    ∃ I', hn_ret sx sL (d + 1) 10 [hn_vr 45, hn_vi u, hn_vi q, hn_vr 6] (hn_m I k g) none (hn_m I' k g) ∧ (∀ j, j < 8 → I' 46 j = I 46 j + if j = q then hn_out s u else 0) ∧ (∀ a b, a < 8 → b < 8 → I' 47 (a * 8 + b) = I 47 (a * 8 + b) + if a = q then hn_tw s p u b (hn_n s) else 0) ∧ ∀ c, c ≠ 46 → c ≠ 47 → ∀ j, I' c j = I c j := by
  have hn := h.n hI
  have h8 := hn_n8 hI
  obtain ⟨y, h1, h2, h3⟩ := hn_forE (sx := sx) (sL := sL) (C := hn_ret sx sL d) (fun i (J : Nat → Nat → Int) => hn_nx 10 6 [some (hn_vr 45), some (hn_vi u), some (hn_vi q), some (hn_vr 6), some (hn_vi (hn_sm i (fun b => hn_fl s u b))), some (hn_vi (i : Int)), none, none] [] (hn_m J k g)) (fun i J => (∀ a b, a < 8 → b < 8 → J 47 (a * 8 + b) = I 47 (a * 8 + b) + if a = q then hn_tw s p u b i else 0) ∧ ∀ c, c ≠ 47 → ∀ j, J c j = I c j) (hn_n s) (fun i J hi hJ => by
      have ef : J 7 (u * 8 + i) = hn_fl s u i := by rw [hJ.2 7 (by omega), h.f (by omega) (by omega)]
      have ep : J 6 i = p i := by rw [hJ.2 6 (by omega), (hp i hi).1]
      have en : J 1 0 = hn_n s := by rw [hJ.2 1 (by omega), hn]
      have b1 := hn_fl_b hI (a := u) (b := i) (by omega) (by omega)
      have b2 : 0 ≤ hn_sm i (fun b => hn_fl s u b) ∧ hn_sm i (fun b => hn_fl s u b) ≤ 8 * 100 := hn_sm_b8 (n := i) (c := 100) (by omega) (by omega) (fun j hj => hn_fl_b hI (a := u) (b := j) (by omega) (by omega))
      have pb := (hp i hi).2
      rw [← ef] at b1
      by_cases e : p i < 0
      · have r := hb_X2_addFlows_6_6_0 (sx := sx) (sL := sL) (C := hn_ret sx sL d) (I := J) (k := k) (g := g) (n1 := u) (n2 := q) (x4 := hn_sm i (fun b => hn_fl s u b)) (n5 := i) (by omega) (by omega) (by omega) (by omega) (by omega) (by omega) (by omega)
        rw [ef] at r
        refine ⟨J, r, fun a b ha hb => ?_, hJ.2⟩
        rw [hJ.1 a b ha hb]
        have : hn_tw s p u b (i + 1) = hn_tw s p u b i := by
          unfold hn_tw
          rw [hn_sm_up, if_neg (by omega), Int.add_zero]
        rw [this]
      · obtain ⟨m, hm⟩ : ∃ m : Nat, p i = m := ⟨(p i).toNat, by omega⟩
        have bt := hT q m hq (by omega)
        have bw := hn_tw_b hI (p := p) (a := u) (m := m) (i := i) (by omega) (by omega)
        have eT := hJ.1 q m hq (by omega)
        rw [if_pos rfl] at eT
        have ei : (((q : Int) * 8) + (J 6 i)).toNat = q * 8 + m := by rw [ep]; omega
        have r := hb_X2_addFlows_6_6_1 (sx := sx) (sL := sL) (C := hn_ret sx sL d) (I := J) (k := k) (g := g) (n1 := u) (n2 := q) (x4 := hn_sm i (fun b => hn_fl s u b)) (n5 := i) (by omega) (by omega) (by omega) (by omega) (by omega) (by omega) (by omega) (by omega) (by omega) (by omega) (by omega) (by rw [ei]; omega)
        rw [ei, ef] at r
        refine ⟨_, r, fun a b ha hb => ?_, fun c hc j => by rw [hn_up_ne (Or.inl hc), hJ.2 c hc]⟩
        by_cases e1 : a = q ∧ b = m
        · obtain ⟨rfl, rfl⟩ := e1
          rw [hn_up_eq, eT, if_pos rfl]
          have : hn_tw s p u b (i + 1) = hn_tw s p u b i + hn_fl s u i := by
            unfold hn_tw
            rw [hn_sm_up, if_pos hm]
          rw [this]
          omega
        · rw [hn_up_ne (Or.inr (by omega)), hJ.1 a b ha hb]
          by_cases e2 : a = q
          · rw [if_pos e2, if_pos e2]
            have : hn_tw s p u b (i + 1) = hn_tw s p u b i := by
              unfold hn_tw
              rw [hn_sm_up, if_neg (by omega), Int.add_zero]
            rw [this]
          · rw [if_neg e2, if_neg e2]) I ⟨fun a b _ _ => by
            have : hn_tw s p u b 0 = 0 := rfl
            rw [this]
            by_cases e : a = q
            · rw [if_pos e, Int.add_zero]
            · rw [if_neg e, Int.add_zero], fun _ _ _ => rfl⟩
  have b2 : 0 ≤ hn_out s u ∧ hn_out s u ≤ 800 := hn_out_b hI (by omega)
  have bl := hL q hq
  have e46 := h3 46 (by omega)
  have en : y 1 0 = hn_n s := by rw [h3 1 (by omega), hn]
  have r := hb_X2_addFlows_6_6_3 (sx := sx) (sL := sL) (C := hn_ret sx sL d) (I := y) (k := k) (g := g) (n1 := u) (n2 := q) (x4 := hn_out s u) (n5 := hn_n s) (by omega) (by omega) (by rw [e46]; omega)
  refine ⟨_, hn_of rfl (hb_X2_addFlows_6_0_0.tr (h1.tr r)), fun j hj => ?_, fun a b ha hb => ?_, fun c hc hc2 j => ?_⟩
  · by_cases e : j = q
    · subst e
      rw [hn_up_eq, if_pos rfl, e46]
    · rw [hn_up_ne (Or.inr e), if_neg e, e46, Int.add_zero]
  · rw [hn_up_ne (Or.inl (by omega)), h2 a b ha hb]
  · rw [hn_up_ne (Or.inl hc), h3 c hc2]
theorem hm_sumUp_6 (d : Nat) (hI : hn_Iv s) (h : hn_HS I 1 s) (hp : ∀ v, v < hn_n s → I 6 v = p v ∧ -1 ≤ p v ∧ p v ≤ 7) :
    ∃ I', hn_ret sx sL (d + 2) 9 [hn_vr 45, hn_vr 6] (hn_m I k g) none (hn_m I' k g) ∧ (∀ j, j < 8 → I' 46 j = hn_ld s p j) ∧ (∀ a b, a < 8 → b < 8 → I' 47 (a * 8 + b) = hn_tr s p a b) ∧ ∀ c, c ≠ 46 → c ≠ 47 → ∀ j, I' c j = I c j := by
  have hn := h.n hI
  have h8 := hn_n8 hI
  obtain ⟨I1, c1, a1, a2⟩ := hm_fill46 (sx := sx) (sL := sL) (I := I) (k := k) (g := g) d
  obtain ⟨I2, c2, a3, a4⟩ := hm_fill47 (sx := sx) (sL := sL) (I := I1) (k := k) (g := g) d
  obtain ⟨y, h1, h2, h3, h4⟩ := hn_forE (sx := sx) (sL := sL) (C := hn_ret sx sL (d + 1)) (fun i (J : Nat → Nat → Int) => hn_nx 9 18 [some (hn_vr 45), some (hn_vr 6), some (hn_vi (i : Int)), none] [] (hn_m J k g)) (fun i J => (∀ j, j < 8 → J 46 j = hn_sm i (fun a => if p a = j then hn_out s a else 0)) ∧ (∀ a b, a < 8 → b < 8 → J 47 (a * 8 + b) = hn_sm i (fun w => if p w = a then hn_tw s p w b (hn_n s) else 0)) ∧ ∀ c, c ≠ 46 → c ≠ 47 → ∀ j, J c j = I c j) (hn_n s) (fun i J hi hJ => by
      obtain ⟨j1, j2, j3⟩ := hJ
      have ep : J 6 i = p i := by rw [j3 6 (by omega) (by omega), (hp i hi).1]
      have en : J 1 0 = hn_n s := by rw [j3 1 (by omega) (by omega), hn]
      have pb := (hp i hi).2
      by_cases e : p i < 0
      · refine ⟨J, hb_X2_sumUp_6_18_0 (by omega) (by omega) (by omega), fun j hj => ?_, fun a b ha hb => ?_, j3⟩
        · rw [hn_sm_up, if_neg (by omega), j1 j hj, Int.add_zero]
        · rw [hn_sm_up, if_neg (by omega), j2 a b ha hb, Int.add_zero]
      · obtain ⟨m, hm⟩ : ∃ m : Nat, p i = m := ⟨(p i).toNat, by omega⟩
        obtain ⟨J', c, x1, x2, x3⟩ := hm_addFlows_6 (sx := sx) (sL := sL) (I := J) (k := k) (g := g) (p := p) d hI (h.mv (fun c h1 h2 j => j3 c (by omega) (by omega) j)) (fun v hv => ⟨by rw [j3 6 (by omega) (by omega), (hp v hv).1], (hp v hv).2⟩) hi (q := m) (by omega) (fun j hj => by
          rw [j1 j hj]
          have := hn_ldi_b hI (p := p) (k := j) (i := i) (by omega)
          omega) (fun a b ha hb => by
          rw [j2 a b ha hb]
          have := hn_tri_b hI (p := p) (k := a) (m := b) (i := i) (by omega)
          omega)
        rw [← hm, ← ep] at c
        refine ⟨J', hb_X2_sumUp_6_18_1 (by omega) (by omega) (by omega) (by omega) c, fun j hj => ?_, fun a b ha hb => ?_, fun c h1 h2 j => by rw [x3 c h1 h2, j3 c h1 h2]⟩
        · rw [x1 j hj, hn_sm_up, j1 j hj]
          by_cases e2 : j = m
          · rw [if_pos e2, if_pos (by omega)]
          · rw [if_neg e2, if_neg (by omega)]
        · rw [x2 a b ha hb, hn_sm_up, j2 a b ha hb]
          by_cases e2 : a = m
          · rw [if_pos e2, if_pos (by omega)]
          · rw [if_neg e2, if_neg (by omega)]) I2 ⟨fun j hj => by rw [a4 46 (by omega), a1 j hj]; rfl, fun a b ha hb => by rw [a3 _ (by omega)]; rfl, fun c h1 h2 j => by rw [a4 c h2, a2 c h1]⟩
  have en : y 1 0 = hn_n s := by rw [h4 1 (by omega) (by omega), hn]
  have c1' : hn_ret sx sL (d + 1) 167 [hn_vr 46, hn_vi 0] (hn_m I k g) none (hn_m I1 k g) := c1
  have c2' : hn_ret sx sL (d + 1) 167 [hn_vr 47, hn_vi 0] (hn_m I1 k g) none (hn_m I2 k g) := c2
  exact ⟨y, hn_of rfl ((hb_X2_sumUp_6_0_0 c1' c2').tr (h1.tr (hb_X2_sumUp_6_18_3 (by omega)))), h2, h3, h4⟩
theorem hm_addFlows_56 (d : Nat) (hI : hn_Iv s) (h : hn_HS I 1 s) (hp : ∀ v, v < hn_n s → I 56 v = p v ∧ -1 ≤ p v ∧ p v ≤ 7) {u q : Nat} (hu : u < hn_n s) (hq : q < 8) (hL : ∀ j, j < 8 → 0 ≤ I 46 j ∧ I 46 j ≤ 100000) (hT : ∀ a b, a < 8 → b < 8 → 0 ≤ I 47 (a * 8 + b) ∧ I 47 (a * 8 + b) ≤ 100000) :
    ∃ I', hn_ret sx sL (d + 1) 10 [hn_vr 45, hn_vi u, hn_vi q, hn_vr 56] (hn_m I k g) none (hn_m I' k g) ∧ (∀ j, j < 8 → I' 46 j = I 46 j + if j = q then hn_out s u else 0) ∧ (∀ a b, a < 8 → b < 8 → I' 47 (a * 8 + b) = I 47 (a * 8 + b) + if a = q then hn_tw s p u b (hn_n s) else 0) ∧ ∀ c, c ≠ 46 → c ≠ 47 → ∀ j, I' c j = I c j := by
  have hn := h.n hI
  have h8 := hn_n8 hI
  obtain ⟨y, h1, h2, h3⟩ := hn_forE (sx := sx) (sL := sL) (C := hn_ret sx sL d) (fun i (J : Nat → Nat → Int) => hn_nx 10 6 [some (hn_vr 45), some (hn_vi u), some (hn_vi q), some (hn_vr 56), some (hn_vi (hn_sm i (fun b => hn_fl s u b))), some (hn_vi (i : Int)), none, none] [] (hn_m J k g)) (fun i J => (∀ a b, a < 8 → b < 8 → J 47 (a * 8 + b) = I 47 (a * 8 + b) + if a = q then hn_tw s p u b i else 0) ∧ ∀ c, c ≠ 47 → ∀ j, J c j = I c j) (hn_n s) (fun i J hi hJ => by
      have ef : J 7 (u * 8 + i) = hn_fl s u i := by rw [hJ.2 7 (by omega), h.f (by omega) (by omega)]
      have ep : J 56 i = p i := by rw [hJ.2 56 (by omega), (hp i hi).1]
      have en : J 1 0 = hn_n s := by rw [hJ.2 1 (by omega), hn]
      have b1 := hn_fl_b hI (a := u) (b := i) (by omega) (by omega)
      have b2 : 0 ≤ hn_sm i (fun b => hn_fl s u b) ∧ hn_sm i (fun b => hn_fl s u b) ≤ 8 * 100 := hn_sm_b8 (n := i) (c := 100) (by omega) (by omega) (fun j hj => hn_fl_b hI (a := u) (b := j) (by omega) (by omega))
      have pb := (hp i hi).2
      rw [← ef] at b1
      by_cases e : p i < 0
      · have r := hb_X2_addFlows_56_6_0 (sx := sx) (sL := sL) (C := hn_ret sx sL d) (I := J) (k := k) (g := g) (n1 := u) (n2 := q) (x4 := hn_sm i (fun b => hn_fl s u b)) (n5 := i) (by omega) (by omega) (by omega) (by omega) (by omega) (by omega) (by omega)
        rw [ef] at r
        refine ⟨J, r, fun a b ha hb => ?_, hJ.2⟩
        rw [hJ.1 a b ha hb]
        have : hn_tw s p u b (i + 1) = hn_tw s p u b i := by
          unfold hn_tw
          rw [hn_sm_up, if_neg (by omega), Int.add_zero]
        rw [this]
      · obtain ⟨m, hm⟩ : ∃ m : Nat, p i = m := ⟨(p i).toNat, by omega⟩
        have bt := hT q m hq (by omega)
        have bw := hn_tw_b hI (p := p) (a := u) (m := m) (i := i) (by omega) (by omega)
        have eT := hJ.1 q m hq (by omega)
        rw [if_pos rfl] at eT
        have ei : (((q : Int) * 8) + (J 56 i)).toNat = q * 8 + m := by rw [ep]; omega
        have r := hb_X2_addFlows_56_6_1 (sx := sx) (sL := sL) (C := hn_ret sx sL d) (I := J) (k := k) (g := g) (n1 := u) (n2 := q) (x4 := hn_sm i (fun b => hn_fl s u b)) (n5 := i) (by omega) (by omega) (by omega) (by omega) (by omega) (by omega) (by omega) (by omega) (by omega) (by omega) (by omega) (by rw [ei]; omega)
        rw [ei, ef] at r
        refine ⟨_, r, fun a b ha hb => ?_, fun c hc j => by rw [hn_up_ne (Or.inl hc), hJ.2 c hc]⟩
        by_cases e1 : a = q ∧ b = m
        · obtain ⟨rfl, rfl⟩ := e1
          rw [hn_up_eq, eT, if_pos rfl]
          have : hn_tw s p u b (i + 1) = hn_tw s p u b i + hn_fl s u i := by
            unfold hn_tw
            rw [hn_sm_up, if_pos hm]
          rw [this]
          omega
        · rw [hn_up_ne (Or.inr (by omega)), hJ.1 a b ha hb]
          by_cases e2 : a = q
          · rw [if_pos e2, if_pos e2]
            have : hn_tw s p u b (i + 1) = hn_tw s p u b i := by
              unfold hn_tw
              rw [hn_sm_up, if_neg (by omega), Int.add_zero]
            rw [this]
          · rw [if_neg e2, if_neg e2]) I ⟨fun a b _ _ => by
            have : hn_tw s p u b 0 = 0 := rfl
            rw [this]
            by_cases e : a = q
            · rw [if_pos e, Int.add_zero]
            · rw [if_neg e, Int.add_zero], fun _ _ _ => rfl⟩
  have b2 : 0 ≤ hn_out s u ∧ hn_out s u ≤ 800 := hn_out_b hI (by omega)
  have bl := hL q hq
  have e46 := h3 46 (by omega)
  have en : y 1 0 = hn_n s := by rw [h3 1 (by omega), hn]
  have r := hb_X2_addFlows_56_6_3 (sx := sx) (sL := sL) (C := hn_ret sx sL d) (I := y) (k := k) (g := g) (n1 := u) (n2 := q) (x4 := hn_out s u) (n5 := hn_n s) (by omega) (by omega) (by rw [e46]; omega)
  refine ⟨_, hn_of rfl (hb_X2_addFlows_56_0_0.tr (h1.tr r)), fun j hj => ?_, fun a b ha hb => ?_, fun c hc hc2 j => ?_⟩
  · by_cases e : j = q
    · subst e
      rw [hn_up_eq, if_pos rfl, e46]
    · rw [hn_up_ne (Or.inr e), if_neg e, e46, Int.add_zero]
  · rw [hn_up_ne (Or.inl (by omega)), h2 a b ha hb]
  · rw [hn_up_ne (Or.inl hc), h3 c hc2]
theorem hm_sumUp_56 (d : Nat) (hI : hn_Iv s) (h : hn_HS I 1 s) (hp : ∀ v, v < hn_n s → I 56 v = p v ∧ -1 ≤ p v ∧ p v ≤ 7) :
    ∃ I', hn_ret sx sL (d + 2) 9 [hn_vr 45, hn_vr 56] (hn_m I k g) none (hn_m I' k g) ∧ (∀ j, j < 8 → I' 46 j = hn_ld s p j) ∧ (∀ a b, a < 8 → b < 8 → I' 47 (a * 8 + b) = hn_tr s p a b) ∧ ∀ c, c ≠ 46 → c ≠ 47 → ∀ j, I' c j = I c j := by
  have hn := h.n hI
  have h8 := hn_n8 hI
  obtain ⟨I1, c1, a1, a2⟩ := hm_fill46 (sx := sx) (sL := sL) (I := I) (k := k) (g := g) d
  obtain ⟨I2, c2, a3, a4⟩ := hm_fill47 (sx := sx) (sL := sL) (I := I1) (k := k) (g := g) d
  obtain ⟨y, h1, h2, h3, h4⟩ := hn_forE (sx := sx) (sL := sL) (C := hn_ret sx sL (d + 1)) (fun i (J : Nat → Nat → Int) => hn_nx 9 18 [some (hn_vr 45), some (hn_vr 56), some (hn_vi (i : Int)), none] [] (hn_m J k g)) (fun i J => (∀ j, j < 8 → J 46 j = hn_sm i (fun a => if p a = j then hn_out s a else 0)) ∧ (∀ a b, a < 8 → b < 8 → J 47 (a * 8 + b) = hn_sm i (fun w => if p w = a then hn_tw s p w b (hn_n s) else 0)) ∧ ∀ c, c ≠ 46 → c ≠ 47 → ∀ j, J c j = I c j) (hn_n s) (fun i J hi hJ => by
      obtain ⟨j1, j2, j3⟩ := hJ
      have ep : J 56 i = p i := by rw [j3 56 (by omega) (by omega), (hp i hi).1]
      have en : J 1 0 = hn_n s := by rw [j3 1 (by omega) (by omega), hn]
      have pb := (hp i hi).2
      by_cases e : p i < 0
      · refine ⟨J, hb_X2_sumUp_56_18_0 (by omega) (by omega) (by omega), fun j hj => ?_, fun a b ha hb => ?_, j3⟩
        · rw [hn_sm_up, if_neg (by omega), j1 j hj, Int.add_zero]
        · rw [hn_sm_up, if_neg (by omega), j2 a b ha hb, Int.add_zero]
      · obtain ⟨m, hm⟩ : ∃ m : Nat, p i = m := ⟨(p i).toNat, by omega⟩
        obtain ⟨J', c, x1, x2, x3⟩ := hm_addFlows_56 (sx := sx) (sL := sL) (I := J) (k := k) (g := g) (p := p) d hI (h.mv (fun c h1 h2 j => j3 c (by omega) (by omega) j)) (fun v hv => ⟨by rw [j3 56 (by omega) (by omega), (hp v hv).1], (hp v hv).2⟩) hi (q := m) (by omega) (fun j hj => by
          rw [j1 j hj]
          have := hn_ldi_b hI (p := p) (k := j) (i := i) (by omega)
          omega) (fun a b ha hb => by
          rw [j2 a b ha hb]
          have := hn_tri_b hI (p := p) (k := a) (m := b) (i := i) (by omega)
          omega)
        rw [← hm, ← ep] at c
        refine ⟨J', hb_X2_sumUp_56_18_1 (by omega) (by omega) (by omega) (by omega) c, fun j hj => ?_, fun a b ha hb => ?_, fun c h1 h2 j => by rw [x3 c h1 h2, j3 c h1 h2]⟩
        · rw [x1 j hj, hn_sm_up, j1 j hj]
          by_cases e2 : j = m
          · rw [if_pos e2, if_pos (by omega)]
          · rw [if_neg e2, if_neg (by omega)]
        · rw [x2 a b ha hb, hn_sm_up, j2 a b ha hb]
          by_cases e2 : a = m
          · rw [if_pos e2, if_pos (by omega)]
          · rw [if_neg e2, if_neg (by omega)]) I2 ⟨fun j hj => by rw [a4 46 (by omega), a1 j hj]; rfl, fun a b ha hb => by rw [a3 _ (by omega)]; rfl, fun c h1 h2 j => by rw [a4 c h2, a2 c h1]⟩
  have en : y 1 0 = hn_n s := by rw [h4 1 (by omega) (by omega), hn]
  have c1' : hn_ret sx sL (d + 1) 167 [hn_vr 46, hn_vi 0] (hn_m I k g) none (hn_m I1 k g) := c1
  have c2' : hn_ret sx sL (d + 1) 167 [hn_vr 47, hn_vi 0] (hn_m I1 k g) none (hn_m I2 k g) := c2
  exact ⟨y, hn_of rfl ((hb_X2_sumUp_56_0_0 c1' c2').tr (h1.tr (hb_X2_sumUp_56_18_3 (by omega)))), h2, h3, h4⟩
end HX19
