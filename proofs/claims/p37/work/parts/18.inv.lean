/-! what changes a state keeps the invariant -/
theorem hn_Iv.ex {s t : hn_S} (h : hn_Iv s) (e : hn_eq114 s t) : hn_Iv t := by
  have en : hn_n t = hn_n s := by unfold hn_n; rw [e 0 (by omega)]
  have em : hn_hm t = hn_hm s := by unfold hn_hm; rw [e 1 (by omega)]
  obtain ⟨h1, h2, h3, h4, h5, h6, h7, h8⟩ := h
  unfold hn_Iv
  rw [en, em, ← e 0 (by omega), ← e 1 (by omega), ← e 2 (by omega), ← e 3 (by omega), ← e 4 (by omega), ← e 5 (by omega), ← e 6 (by omega), ← e 7 (by omega), ← e 8 (by omega), ← e 9 (by omega)]
  refine ⟨h1, h2, h3, h4, fun v hv => ?_, fun j hj => ?_, fun v hv => ?_, fun v hv => ?_⟩
  · rw [← e _ (by omega), ← e _ (by omega), ← e _ (by omega), ← e _ (by omega), ← e _ (by omega)]
    exact h5 v hv
  · rw [← e _ (by omega)]
    exact h6 j hj
  · rw [← e _ (by omega)]
    exact h7 v hv
  · rw [← e _ (by omega)]
    exact h8 v hv
theorem hn_w_n {s : hn_S} {q : Nat} {v : Int} (h : q ≠ 0) : hn_n (hn_w s q v) = hn_n s := by unfold hn_n; rw [hn_w_ne (Ne.symm h)]
theorem hn_w_hm {s : hn_S} {q : Nat} {v : Int} (h : q ≠ 1) : hn_hm (hn_w s q v) = hn_hm s := by unfold hn_hm; rw [hn_w_ne (Ne.symm h)]
/-- the numbers that carry no rule of their own: opening, capacity -/
theorem hn_Iv_w {s : hn_S} (h : hn_Iv s) {q : Nat} {v : Int} (hq : (26 ≤ q ∧ q < 34 ∧ 0 ≤ v ∧ v ≤ 100000) ∨ (34 ≤ q ∧ q < 42 ∧ 0 ≤ v ∧ v ≤ 9999) ∨ (10 ≤ q ∧ q < 26 ∧ 0 ≤ v ∧ v ≤ 99)) : hn_Iv (hn_w s q v) := by
  obtain ⟨h1, h2, h3, h4, h5, h6, h7, h8⟩ := h
  unfold hn_Iv
  rw [hn_w_n (by omega), hn_w_hm (by omega), hn_w_ne (by omega), hn_w_ne (by omega), hn_w_ne (by omega), hn_w_ne (by omega), hn_w_ne (by omega), hn_w_ne (by omega), hn_w_ne (by omega), hn_w_ne (by omega), hn_w_ne (by omega), hn_w_ne (by omega)]
  refine ⟨h1, h2, h3, h4, fun u hu => ?_, fun j hj => ?_, fun u hu => ?_, fun u hu => ?_⟩
  · have := h5 u hu
    unfold hn_w
    refine ⟨?_, ?_, ?_, ?_, ?_⟩
    · by_cases e : 10 + u = q
      · rw [if_pos e]
        omega
      · rw [if_neg e]
        exact this.1
    · by_cases e : 18 + u = q
      · rw [if_pos e]
        omega
      · rw [if_neg e]
        exact this.2.1
    · by_cases e : 26 + u = q
      · rw [if_pos e]
        omega
      · rw [if_neg e]
        exact this.2.2.1
    · by_cases e : 34 + u = q
      · rw [if_pos e]
        omega
      · rw [if_neg e]
        exact this.2.2.2.1
    · rw [if_neg (by omega)]
      exact this.2.2.2.2
  · rw [hn_w_ne (by omega)]
    exact h6 j hj
  · rw [hn_w_ne (by omega)]
    exact h7 u hu
  · rw [hn_w_ne (by omega)]
    exact h8 u hu
theorem hn_Iv_flow {s : hn_S} (h : hn_Iv s) {a b : Nat} {v : Int} (ha : a < 8) (hb : b < 8) (hab : a ≠ b) (hv : 0 ≤ v ∧ v ≤ 100) : hn_Iv (hn_w s (50 + (8 * a + b)) v) := by
  obtain ⟨h1, h2, h3, h4, h5, h6, h7, h8⟩ := h
  unfold hn_Iv
  rw [hn_w_n (by omega), hn_w_hm (by omega), hn_w_ne (by omega), hn_w_ne (by omega), hn_w_ne (by omega), hn_w_ne (by omega), hn_w_ne (by omega), hn_w_ne (by omega), hn_w_ne (by omega), hn_w_ne (by omega), hn_w_ne (by omega), hn_w_ne (by omega)]
  refine ⟨h1, h2, h3, h4, fun u hu => ?_, fun j hj => ?_, fun u hu => ?_, fun u hu => ?_⟩
  · rw [hn_w_ne (by omega), hn_w_ne (by omega), hn_w_ne (by omega), hn_w_ne (by omega), hn_w_ne (by omega)]
    exact h5 u hu
  · unfold hn_w
    by_cases e : 50 + j = 50 + (8 * a + b)
    · rw [if_pos e]
      exact hv
    · rw [if_neg e]
      exact h6 j hj
  · rw [hn_w_ne (by omega)]
    exact h7 u hu
  · rw [hn_w_ne (by omega)]
    exact h8 u hu
theorem hn_Iv_under {s : hn_S} (h : hn_Iv s) {v k : Nat} (hv : v < hn_n s) (hk : k < hn_n s) (h0 : hn_hub s v = false) (h1 : hn_hub s k = true) : hn_Iv (hn_w s (42 + v) k) := by
  have h8' := hn_n8 h
  obtain ⟨h1', h2, h3, h4, h5, h6, h7, h8⟩ := h
  unfold hn_Iv
  rw [hn_w_n (by omega), hn_w_hm (by omega), hn_w_ne (by omega), hn_w_ne (by omega), hn_w_ne (by omega), hn_w_ne (by omega), hn_w_ne (by omega), hn_w_ne (by omega), hn_w_ne (by omega), hn_w_ne (by omega), hn_w_ne (by omega), hn_w_ne (by omega)]
  refine ⟨h1', h2, h3, h4, fun u hu => ?_, fun j hj => ?_, fun u hu => ?_, fun u hu => ?_⟩
  · rw [hn_w_ne (by omega), hn_w_ne (by omega), hn_w_ne (by omega), hn_w_ne (by omega)]
    refine ⟨(h5 u hu).1, (h5 u hu).2.1, (h5 u hu).2.2.1, (h5 u hu).2.2.2.1, ?_⟩
    unfold hn_w
    by_cases e : 42 + u = 42 + v
    · rw [if_pos e]
      omega
    · rw [if_neg e]
      exact (h5 u hu).2.2.2.2
  · rw [hn_w_ne (by omega)]
    exact h6 j hj
  · rw [hn_w_ne (by omega)]
    exact h7 u hu
  · by_cases e : u = v
    · subst e
      rw [hn_w_eq]
      exact ⟨fun q => absurd (h0.symm.trans q) (by decide), fun _ => ⟨k, hk, rfl, h1⟩⟩
    · rw [hn_w_ne (by omega)]
      exact h8 u hu
theorem hn_testBit_off {m v u : Nat} (h : m.testBit v = true) : (m ^^^ 2 ^ v).testBit u = (m.testBit u && !decide (v = u)) := by
  rw [Nat.testBit_xor, Nat.testBit_two_pow]
  by_cases e : v = u
  · subst e
    simp [h]
  · simp [e]
theorem hn_testBit_on {m v u : Nat} : (m ||| 2 ^ v).testBit u = (m.testBit u || decide (v = u)) := by
  rw [Nat.testBit_or, Nat.testBit_two_pow]
theorem hn_Iv_on {s : hn_S} (h : hn_Iv s) {v : Nat} (hv : v < hn_n s) : hn_Iv (hn_on s v) := by
  have h8' := hn_n8 h
  obtain ⟨h1', h2, h3, h4, h5, h6, h7, h8⟩ := h
  have hm : hn_hm (hn_on s v) = hn_hm s ||| 2 ^ v := by
    unfold hn_on
    rw [hn_w_hm (by omega)]
    unfold hn_hm
    rw [hn_w_eq]
    exact Int.toNat_natCast _
  have hn : hn_n (hn_on s v) = hn_n s := by
    unfold hn_on
    rw [hn_w_n (by omega), hn_w_n (by omega)]
  have h1e : hn_on s v 1 = ((hn_hm s ||| 2 ^ v : Nat) : Int) := by
    unfold hn_on
    rw [hn_w_ne (by omega), hn_w_eq]
  have o : ∀ j, j ≠ 1 → j ≠ 42 + v → hn_on s v j = s j := fun j a b => by
    unfold hn_on
    rw [hn_w_ne b, hn_w_ne a]
  have hlt : hn_hm s ||| 2 ^ v < 2 ^ hn_n s := Nat.or_lt_two_pow h2.2 (Nat.pow_lt_pow_right (by omega) hv)
  unfold hn_Iv
  rw [hm, hn, h1e, o 0 (by omega) (by omega), o 2 (by omega) (by omega), o 3 (by omega) (by omega), o 4 (by omega) (by omega), o 5 (by omega) (by omega), o 6 (by omega) (by omega), o 7 (by omega) (by omega), o 8 (by omega) (by omega), o 9 (by omega) (by omega)]
  refine ⟨h1', ⟨rfl, hlt⟩, h3, h4, fun u hu => ?_, fun j hj => ?_, fun u hu => ?_, fun u hu => ?_⟩
  · rw [o _ (by omega) (by omega), o _ (by omega) (by omega), o _ (by omega) (by omega), o _ (by omega) (by omega)]
    refine ⟨(h5 u hu).1, (h5 u hu).2.1, (h5 u hu).2.2.1, (h5 u hu).2.2.2.1, ?_⟩
    by_cases e : u = v
    · subst e
      unfold hn_on
      rw [hn_w_eq]
      omega
    · rw [o _ (by omega) (by omega)]
      exact (h5 u hu).2.2.2.2
  · rw [o _ (by omega) (by omega)]
    exact h6 j hj
  · rw [o _ (by omega) (by omega)]
    exact h7 u hu
  · rw [hn_testBit_on]
    by_cases e : u = v
    · subst e
      have : hn_on s u (42 + u) = u := by unfold hn_on; rw [hn_w_eq]
      rw [this]
      exact ⟨fun _ => rfl, fun _ => ⟨u, hv, rfl, by rw [hn_testBit_on]; simp⟩⟩
    · rw [o _ (by omega) (by omega)]
      have := h8 u hu
      refine ⟨fun q => this.1 ?_, fun q => ?_⟩
      · have q2 : (hn_hm s).testBit u = true ∨ v = u := by simpa using q
        exact q2.resolve_right (fun w => e w.symm)
      · obtain ⟨k, a, b, c⟩ := this.2 q
        exact ⟨k, a, b, by rw [hn_testBit_on, c]; rfl⟩
theorem hn_Iv_off {s : hn_S} (h : hn_Iv s) {v : Nat} (hv : v < hn_n s) (hh : hn_hub s v = true) : hn_Iv (hn_off s v) := by
  have h8' := hn_n8 h
  obtain ⟨h1', h2, h3, h4, h5, h6, h7, h8⟩ := h
  have o : ∀ j, j ≠ 1 → ¬ (42 ≤ j ∧ j < 42 + hn_n s) → hn_off s v j = s j := fun j e1 e2 => by unfold hn_off; rw [if_neg e1, if_neg (fun q => e2 q.1)]
  have h1e : hn_off s v 1 = ((hn_hm s ^^^ 2 ^ v : Nat) : Int) := rfl
  have hm : hn_hm (hn_off s v) = hn_hm s ^^^ 2 ^ v := by
    unfold hn_hm
    rw [h1e]
    exact Int.toNat_natCast _
  have hn : hn_n (hn_off s v) = hn_n s := by
    unfold hn_n
    rw [o 0 (by omega) (by omega)]
  have hlt : hn_hm s ^^^ 2 ^ v < 2 ^ hn_n s := Nat.xor_lt_two_pow h2.2 (Nat.pow_lt_pow_right (by omega) hv)
  unfold hn_Iv
  rw [hm, hn, h1e, o 0 (by omega) (by omega), o 2 (by omega) (by omega), o 3 (by omega) (by omega), o 4 (by omega) (by omega), o 5 (by omega) (by omega), o 6 (by omega) (by omega), o 7 (by omega) (by omega), o 8 (by omega) (by omega), o 9 (by omega) (by omega)]
  refine ⟨h1', ⟨rfl, hlt⟩, h3, h4, fun u hu => ?_, fun j hj => ?_, fun u hu => ?_, fun u hu => ?_⟩
  · rw [o _ (by omega) (by omega), o _ (by omega) (by omega), o _ (by omega) (by omega), o _ (by omega) (by omega)]
    refine ⟨(h5 u hu).1, (h5 u hu).2.1, (h5 u hu).2.2.1, (h5 u hu).2.2.2.1, ?_⟩
    unfold hn_off
    rw [if_neg (by omega)]
    by_cases e : (42 ≤ 42 + u ∧ 42 + u < 42 + hn_n s) ∧ s (42 + u) = v
    · rw [if_pos e]
      omega
    · rw [if_neg e]
      exact (h5 u hu).2.2.2.2
  · rw [o _ (by omega) (by omega)]
    exact h6 j hj
  · rw [o _ (by omega) (by omega)]
    exact h7 u hu
  · have hu8 := h8 u hu
    have eu : hn_off s v (42 + u) = if s (42 + u) = v then -1 else s (42 + u) := by
      unfold hn_off
      rw [if_neg (by omega)]
      by_cases e : s (42 + u) = v
      · rw [if_pos ⟨by omega, e⟩, if_pos e]
      · rw [if_neg (fun q => e q.2), if_neg e]
    rw [eu, hn_testBit_off hh]
    by_cases e : s (42 + u) = v
    · rw [if_pos e]
      refine ⟨fun q => ?_, fun q => absurd rfl q⟩
      have q2 : (hn_hm s).testBit u = true ∧ ¬ v = u := by simpa using q
      have := hu8.1 q2.1
      exact absurd (by omega) q2.2
    · rw [if_neg e]
      refine ⟨fun q => hu8.1 (by have : (hn_hm s).testBit u = true ∧ ¬ v = u := by simpa using q
                                 exact this.1), fun q => ?_⟩
      obtain ⟨k, a, b, c⟩ := hu8.2 q
      exact ⟨k, a, b, by rw [hn_testBit_off hh, c]; simp; omega⟩
theorem hn_Iv_add {s : hn_S} (h : hn_Iv s) (hn : hn_n s ≠ 8) {x y o c : Int} (hx : (0 ≤ x ∧ x ≤ 99) ∧ (0 ≤ y ∧ y ≤ 99) ∧ (0 ≤ o ∧ o ≤ 100000) ∧ (0 ≤ c ∧ c ≤ 9999)) : hn_Iv (hn_add s x y o c) := by
  have h8' := hn_n8 h
  have hb := hn_Iv_w (hn_Iv_w (hn_Iv_w (hn_Iv_w h (q := 10 + hn_n s) (v := x) (by omega)) (q := 18 + hn_n s) (v := y) (by omega)) (q := 26 + hn_n s) (v := o) (by omega)) (q := 34 + hn_n s) (v := c) (by omega)
  have en : hn_n (hn_w (hn_w (hn_w (hn_w s (10 + hn_n s) x) (18 + hn_n s) y) (26 + hn_n s) o) (34 + hn_n s) c) = hn_n s := by rw [hn_w_n (by omega), hn_w_n (by omega), hn_w_n (by omega), hn_w_n (by omega)]
  unfold hn_add
  generalize hn_w (hn_w (hn_w (hn_w s (10 + hn_n s) x) (18 + hn_n s) y) (26 + hn_n s) o) (34 + hn_n s) c = t at *
  rw [← en] at hn h8' ⊢
  obtain ⟨h1', h2, h3, h4, h5, h6, h7, h8⟩ := hb
  have en2 : hn_n (hn_w (hn_w t (42 + hn_n t) (-1)) 0 ((hn_n t : Int) + 1)) = hn_n t + 1 := by
    unfold hn_n
    rw [hn_w_eq]
    omega
  have em2 : hn_hm (hn_w (hn_w t (42 + hn_n t) (-1)) 0 ((hn_n t : Int) + 1)) = hn_hm t := by rw [hn_w_hm (by omega), hn_w_hm (by omega)]
  have o : ∀ j, j ≠ 0 → j ≠ 42 + hn_n t → hn_w (hn_w t (42 + hn_n t) (-1)) 0 ((hn_n t : Int) + 1) j = t j := fun j a b => by rw [hn_w_ne a, hn_w_ne b]
  have hlt : hn_hm t < 2 ^ (hn_n t + 1) := by
    have := h2.2
    rw [Nat.pow_succ]
    omega
  unfold hn_Iv
  rw [en2, em2, hn_w_eq, o 1 (by omega) (by omega), o 2 (by omega) (by omega), o 3 (by omega) (by omega), o 4 (by omega) (by omega), o 5 (by omega) (by omega), o 6 (by omega) (by omega), o 7 (by omega) (by omega), o 8 (by omega) (by omega), o 9 (by omega) (by omega)]
  refine ⟨by omega, ⟨h2.1, hlt⟩, h3, h4, fun u hu => ?_, fun j hj => ?_, fun u hu => ?_, fun u hu => ?_⟩
  · rw [o _ (by omega) (by omega), o _ (by omega) (by omega), o _ (by omega) (by omega), o _ (by omega) (by omega)]
    refine ⟨(h5 u hu).1, (h5 u hu).2.1, (h5 u hu).2.2.1, (h5 u hu).2.2.2.1, ?_⟩
    by_cases e : u = hn_n t
    · subst e
      rw [hn_w_ne (by omega), hn_w_eq]
      omega
    · rw [o _ (by omega) (by omega)]
      exact (h5 u hu).2.2.2.2
  · rw [o _ (by omega) (by omega)]
    exact h6 j hj
  · rw [o _ (by omega) (by omega)]
    exact h7 u hu
  · by_cases e : u = hn_n t
    · subst e
      rw [hn_w_ne (by omega), hn_w_eq]
      refine ⟨fun q => ?_, fun q => absurd rfl q⟩
      have := Nat.testBit_lt_two_pow h2.2
      rw [this] at q
      exact absurd q (by decide)
    · rw [o _ (by omega) (by omega)]
      have hu8 := h8 u (by omega)
      refine ⟨hu8.1, fun q => ?_⟩
      obtain ⟨k, a, b, c⟩ := hu8.2 q
      exact ⟨k, by omega, b, c⟩
/-- factors and congestion -/
theorem hn_Iv_par {s t : hn_S} (h : hn_Iv s) (e : ∀ j, ¬ (2 ≤ j ∧ j < 10) → t j = s j) (h3 : (1 ≤ t 2 ∧ t 2 ≤ 300) ∧ (0 ≤ t 3 ∧ t 3 ≤ 100) ∧ (1 ≤ t 4 ∧ t 4 ≤ 300) ∧ (0 ≤ t 5 ∧ t 5 ≤ 9999)) (h4 : (0 ≤ t 6 ∧ t 6 ≤ 9999) ∧ (0 ≤ t 7 ∧ t 7 ≤ 1000) ∧ (t 6 ≤ t 8 ∧ t 8 ≤ 9999) ∧ (0 ≤ t 9 ∧ t 9 ≤ 1000)) : hn_Iv t := by
  obtain ⟨h1', h2, _, _, h5, h6, h7, h8⟩ := h
  have hn : hn_n t = hn_n s := by
    unfold hn_n
    rw [e 0 (by omega)]
  have hm : hn_hm t = hn_hm s := by
    unfold hn_hm
    rw [e 1 (by omega)]
  unfold hn_Iv
  rw [hm, hn, e 0 (by omega), e 1 (by omega)]
  refine ⟨h1', h2, h3, h4, fun u hu => ?_, fun j hj => ?_, fun u hu => ?_, fun u hu => ?_⟩
  · rw [e _ (by omega), e _ (by omega), e _ (by omega), e _ (by omega), e _ (by omega)]
    exact h5 u hu
  · rw [e _ (by omega)]
    exact h6 j hj
  · rw [e _ (by omega)]
    exact h7 u hu
  · rw [e _ (by omega)]
    exact h8 u hu
theorem hn_Iv_hs_add {s : hn_S} (h : hn_Iv s) (x y o c : Int) : hn_Iv (hs_add s x y o c) := by
  unfold hs_add
  by_cases e : hr_add s x y o c < -1
  · rw [if_pos e]
    exact h
  · rw [if_neg e]
    unfold hr_add at e
    by_cases e1 : (0 ≤ x ∧ x ≤ 99) ∧ (0 ≤ y ∧ y ≤ 99) ∧ (0 ≤ o ∧ o ≤ 100000) ∧ (0 ≤ c ∧ c ≤ 9999)
    · rw [if_pos e1] at e
      by_cases e2 : hn_n s = 8
      · rw [if_pos e2] at e
        omega
      · exact hn_Iv_add h e2 e1
    · rw [if_neg e1] at e
      omega
theorem hn_Iv_hs_flow {s : hn_S} (h : hn_Iv s) (a b f : Int) : hn_Iv (hs_flow s a b f) := by
  unfold hs_flow
  have h8 := hn_n8 h
  by_cases e : hr_flow s a b f < -1
  · rw [if_pos e]
    exact h
  · rw [if_neg e]
    unfold hr_flow at e
    by_cases e1 : hn_isN s a ∧ hn_isN s b
    · rw [if_pos e1] at e
      by_cases e2 : a ≠ b ∧ 0 ≤ f ∧ f ≤ 100
      · obtain ⟨q1, q2⟩ := e1
        unfold hn_isN at q1 q2
        exact hn_Iv_flow h (by omega) (by omega) (by omega) e2.2
      · rw [if_neg e2] at e
        omega
    · rw [if_neg e1] at e
      omega
theorem hn_Iv_hs_hub {s : hn_S} (h : hn_Iv s) (v b : Int) : hn_Iv (hs_hub s v b) := by
  unfold hs_hub
  by_cases e : hn_isN s v
  · rw [if_pos e]
    unfold hn_isN at e
    by_cases e1 : b = 0
    · rw [if_pos e1]
      by_cases e2 : hn_hub s v.toNat = true
      · rw [if_pos e2]
        exact hn_Iv_off h (by omega) e2
      · rw [if_neg e2]
        exact h
    · rw [if_neg e1]
      exact hn_Iv_on h (by omega)
  · rw [if_neg e]
    exact h
theorem hn_Iv_hs_under {s : hn_S} (h : hn_Iv s) (v k : Int) : hn_Iv (hs_under s v k) := by
  unfold hs_under
  by_cases e : hr_under s v k < -1
  · rw [if_pos e]
    exact h
  · rw [if_neg e]
    unfold hr_under at e
    by_cases e1 : hn_isN s v ∧ hn_isN s k
    · rw [if_pos e1] at e
      by_cases e2 : hn_hub s v.toNat = false ∧ hn_hub s k.toNat = true
      · obtain ⟨q1, q2⟩ := e1
        unfold hn_isN at q1 q2
        have := hn_Iv_under h (v := v.toNat) (k := k.toNat) (by omega) (by omega) e2.1 e2.2
        rwa [show ((k.toNat : Nat) : Int) = k by omega] at this
      · rw [if_neg e2] at e
        omega
    · rw [if_neg e1] at e
      omega
