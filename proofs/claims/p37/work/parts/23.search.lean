/-! the class's Search: start -/
def hn_pu (s : hn_S) (a : Nat) : Int := s 2 * hn_out s a + s 4 * hn_inn s a
def hn_ow (s : hn_S) (a b : Nat) : Int := hn_pu s a * hn_gp s a b
def hn_bo (s : hn_S) (a b : Nat) : Int := s 3 * (hn_fl s a b + hn_fl s b a)
def hn_SS (s : hn_S) (J : Nat → Nat → Int) : Prop := (∀ v, v < hn_n s → J 52 v = hn_out s v) ∧ ∀ a b, a < hn_n s → b < hn_n s → J 49 (a * 8 + b) = hn_gp s a b ∧ J 50 (a * 8 + b) = hn_ow s a b ∧ J 51 (a * 8 + b) = hn_bo s a b
theorem hn_SS.mv {s : hn_S} {J J' : Nat → Nat → Int} (h : hn_SS s J) (e : ∀ c, 49 ≤ c → c ≤ 52 → ∀ j, J' c j = J c j) : hn_SS s J' :=
  ⟨fun v hv => by rw [e 52 (by omega) (by omega), h.1 v hv], fun a b ha hb => by rw [e 49 (by omega) (by omega), e 50 (by omega) (by omega), e 51 (by omega) (by omega)]; exact h.2 a b ha hb⟩
theorem hn_pu_b {s : hn_S} (h : hn_Iv s) {a : Nat} (ha : a < 8) : (0 ≤ s 2 * hn_out s a ∧ s 2 * hn_out s a ≤ 240000) ∧ (0 ≤ s 4 * hn_inn s a ∧ s 4 * hn_inn s a ≤ 240000) := by
  have b0 := h.2.2.1
  have b1 := hn_out_b h ha
  have b2 := hn_inn_b h ha
  exact ⟨hn_mul_b (by omega) b0.1.2 b1.1 b1.2, hn_mul_b (by omega) b0.2.2.1.2 b2.1 b2.2⟩
theorem hn_ow_b {s : hn_S} (h : hn_Iv s) {a b : Nat} (ha : a < 8) (hb : b < 8) : 0 ≤ hn_ow s a b ∧ hn_ow s a b ≤ 95040000 := by
  have b1 := hn_pu_b h ha
  have b2 := hn_gp_b h ha hb
  exact hn_mul_b (by unfold hn_pu; omega) (by unfold hn_pu; omega : hn_pu s a ≤ 480000) b2.1 b2.2
theorem hn_bo_b {s : hn_S} (h : hn_Iv s) {a b : Nat} (ha : a < 8) (hb : b < 8) : 0 ≤ hn_bo s a b ∧ hn_bo s a b ≤ 20000 := by
  have b0 := h.2.2.1
  have b1 := hn_fl_b h ha hb
  have b2 := hn_fl_b h hb ha
  exact hn_mul_b b0.2.1.1 b0.2.1.2 (by omega : 0 ≤ hn_fl s a b + hn_fl s b a) (by omega : hn_fl s a b + hn_fl s b a ≤ 200)
section HX23
variable {sx : Nat → Int} {sL : Nat} {I : Nat → Nat → Int} {k : Nat → Option Nat} {g : Nat → Nat → Int64} {s : hn_S}
theorem hm_start (d : Nat) (hI : hn_Iv s) (h : hn_HS I 1 s) :
    ∃ I', hn_ret sx sL (d + 2) 20 [hn_vr 48] (hn_m I k g) none (hn_m I' k g) ∧ hn_SS s I' ∧ (I' 48 15 = 2000000000 ∧ I' 48 16 = 0) ∧ ∀ c, c < 48 ∨ 52 < c → ∀ j, I' c j = I c j := by
  have hn := h.n hI
  have h8 := hn_n8 hI
  obtain ⟨y, h1, h2, h3, h4, h5⟩ := hn_forE (sx := sx) (sL := sL) (C := hn_ret sx sL (d + 1)) (fun i (J : Nat → Nat → Int) => hn_nx 20 13 [some (hn_vr 48), some (hn_vi (i : Int)), none, none, none, none] [] (hn_m J k g)) (fun i J => (∀ v, v < i → J 52 v = hn_out s v) ∧ (∀ a b, a < i → b < hn_n s → J 49 (a * 8 + b) = hn_gp s a b ∧ J 50 (a * 8 + b) = hn_ow s a b ∧ J 51 (a * 8 + b) = hn_bo s a b) ∧ (J 48 15 = 2000000000 ∧ J 48 16 = 0) ∧ ∀ c, c < 48 ∨ 52 < c → ∀ j, J c j = I c j) (hn_n s) (fun i J hi hJ => by
      obtain ⟨j1, j2, j3, j4⟩ := hJ
      have hS : hn_HS J 1 s := h.mv (fun c h1 h2 j => j4 c (by omega) j)
      have eJ : J 1 0 = hn_n s := hS.n hI
      have e8 : J 1 8 = s 2 := hS.2.2.1 0 (by omega)
      have e10 : J 1 10 = s 4 := hS.2.2.1 2 (by omega)
      have bp := hn_pu_b hI (a := i) (by omega)
      have c1 := hm_flowFrom (sx := sx) (sL := sL) (k := k) (g := g) d hI hS (v := i) (by omega)
      have c2 := hm_flowTo (sx := sx) (sL := sL) (k := k) (g := g) d hI hS (v := i) (by omega)
      have r1 := hb_X3_start_13_0 (sx := sx) (sL := sL) (by omega) c1 (by rw [e8]; omega) c2 (by rw [e10]; omega) (by rw [e8, e10]; omega) (by omega)
      rw [e8, e10] at r1
      obtain ⟨z, g1, g2, g3, g4, g5⟩ := hn_forE (sx := sx) (sL := sL) (C := hn_ret sx sL (d + 1)) (fun j (J' : Nat → Nat → Int) => hn_nx 20 70 [some (hn_vr 48), some (hn_vi (i : Int)), none, some (hn_vi (hn_pu s i)), some (hn_vi (j : Int)), none] [] (hn_m J' k g)) (fun j J' => (∀ v, v < i + 1 → J' 52 v = hn_out s v) ∧ (∀ a b, (a < i ∧ b < hn_n s) ∨ (a = i ∧ b < j) → J' 49 (a * 8 + b) = hn_gp s a b ∧ J' 50 (a * 8 + b) = hn_ow s a b ∧ J' 51 (a * 8 + b) = hn_bo s a b) ∧ (J' 48 15 = 2000000000 ∧ J' 48 16 = 0) ∧ ∀ c, c < 48 ∨ 52 < c → ∀ j, J' c j = I c j) (hn_n s) (fun j J' hj hJ' => by
          obtain ⟨q1, q2, q3, q4⟩ := hJ'
          have hS' : hn_HS J' 1 s := h.mv (fun c h1 h2 j => q4 c (by omega) j)
          have eJ' : J' 1 0 = hn_n s := hS'.n hI
          have e9 : J' 1 9 = s 3 := hS'.2.2.1 1 (by omega)
          have f1 : J' 7 (i * 8 + j) = hn_fl s i j := hS'.f (by omega) (by omega)
          have f2 : J' 7 (j * 8 + i) = hn_fl s j i := hS'.f (by omega) (by omega)
          have b1 := hn_fl_b hI (a := i) (b := j) (by omega) (by omega)
          have b2 := hn_fl_b hI (a := j) (b := i) (by omega) (by omega)
          have b3 : 0 ≤ hn_pu s i * hn_gp s i j ∧ hn_pu s i * hn_gp s i j ≤ 95040000 := hn_ow_b hI (a := i) (b := j) (by omega) (by omega)
          have b4 : 0 ≤ s 3 * (hn_fl s i j + hn_fl s j i) ∧ s 3 * (hn_fl s i j + hn_fl s j i) ≤ 20000 := hn_bo_b hI (a := i) (b := j) (by omega) (by omega)
          have c3 := hm_gap (sx := sx) (sL := sL) (k := k) (g := g) d hI hS' (a := i) (b := j) (by omega) (by omega)
          have r := hb_X3_start_70_0 (sx := sx) (sL := sL) (x3 := hn_pu s i) (by omega) (by omega) (by omega) c3 (by omega) (by rw [hn_up_eq]; omega) (by omega) (by omega) (by omega) (by omega) (by rw [e9, f1, f2]; omega) (by omega)
          rw [hn_up_eq, e9, f1, f2] at r
          refine ⟨_, r, fun v hv => by rw [hn_up_ne (Or.inl (by omega)), hn_up_ne (Or.inl (by omega)), hn_up_ne (Or.inl (by omega)), q1 v hv], fun a b hab => ?_, ⟨by rw [hn_up_ne (Or.inl (by omega)), hn_up_ne (Or.inl (by omega)), hn_up_ne (Or.inl (by omega)), q3.1], by rw [hn_up_ne (Or.inl (by omega)), hn_up_ne (Or.inl (by omega)), hn_up_ne (Or.inl (by omega)), q3.2]⟩, fun c hc j => by rw [hn_up_ne (Or.inl (by omega)), hn_up_ne (Or.inl (by omega)), hn_up_ne (Or.inl (by omega)), q4 c hc]⟩
          by_cases e : a = i ∧ b = j
          · obtain ⟨rfl, rfl⟩ := e
            exact ⟨by rw [hn_up_ne (Or.inl (by omega)), hn_up_ne (Or.inl (by omega)), hn_up_eq], by rw [hn_up_ne (Or.inl (by omega)), hn_up_eq]; rfl, by rw [hn_up_eq]; rfl⟩
          · have hx : a * 8 + b ≠ i * 8 + j := by omega
            have q := q2 a b (by omega)
            exact ⟨by rw [hn_up_ne (Or.inl (by omega)), hn_up_ne (Or.inl (by omega)), hn_up_ne (Or.inr hx), q.1], by rw [hn_up_ne (Or.inl (by omega)), hn_up_ne (Or.inr hx), hn_up_ne (Or.inl (by omega)), q.2.1], by rw [hn_up_ne (Or.inr hx), hn_up_ne (Or.inl (by omega)), hn_up_ne (Or.inl (by omega)), q.2.2]⟩) (hn_up J 52 i (hn_out s i)) ⟨fun v hv => by
            by_cases e : v = i
            · rw [e, hn_up_eq]
            · rw [hn_up_ne (Or.inr e), j1 v (by omega)], fun a b hab => by
            have q := j2 a b (by omega) (by omega)
            rw [hn_up_ne (Or.inl (by omega)), hn_up_ne (Or.inl (by omega)), hn_up_ne (Or.inl (by omega))]
            exact q, ⟨by rw [hn_up_ne (Or.inl (by omega)), j3.1], by rw [hn_up_ne (Or.inl (by omega)), j3.2]⟩, fun c hc j => by rw [hn_up_ne (Or.inl (by omega)), j4 c hc]⟩
      refine ⟨z, r1.tr (g1.tr (hb_X3_start_70_1 (by rw [g5 1 (by omega), hn]; omega) (by omega))), g2, fun a b ha hb => g3 a b (by omega), g4, g5⟩) (hn_up (hn_up I 48 15 2000000000) 48 16 0) ⟨fun v hv => absurd hv (by omega), fun a b ha => absurd ha (by omega), ⟨by rw [hn_up_ne (Or.inr (by omega)), hn_up_eq], by rw [hn_up_eq]⟩, fun c hc j => by rw [hn_up_ne (Or.inl (by omega)), hn_up_ne (Or.inl (by omega))]⟩
  exact ⟨y, hn_of rfl (hb_X3_start_0_0.tr (h1.tr (hb_X3_start_13_1 (by rw [h5 1 (by omega), hn]; omega)))), ⟨h2, h3⟩, h4, h5⟩
theorem hm_leastCost (d : Nat) : hn_ret sx sL (d + 1) 21 [hn_vr 48] (hn_m I k g) (some (hn_vi (if I 48 16 = 0 then -1 else I 48 15))) (hn_m I k g) := by
  by_cases e : I 48 16 = 0
  · rw [if_pos e]
    exact hn_of rfl (hb_X3_leastCost_0_0 e)
  · rw [if_neg e]
    exact hn_of rfl (hb_X3_leastCost_0_1 e)
end HX23
