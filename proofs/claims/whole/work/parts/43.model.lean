/-! the model: its row of numbers, and the methods that change it -/
def hn_MS (I : Nat → Nat → Int) (s : hn_S) : Prop := ∀ j, j < 114 → I 65 j = s j
def hn_MC (I : Nat → Nat → Int) (b : Int) (a : hn_AA) : Prop := hn_MS I a.1 ∧ I 64 1 = (a.2.1.length : Int) ∧ (∀ (i : Nat) (x : hn_S), a.2.1[i]? = some x → hn_HR I (i + 1) x) ∧ I 64 2 = b ∧ I 64 18 = (a.2.2.2 : Int) ∧ ∀ j, j < a.2.2.2 → I 75 j = a.2.2.1 j
def hn_fx (J I : Nat → Nat → Int) : Prop := (∀ c, c ≠ 64 → c ≠ 65 → ∀ j, J c j = I c j) ∧ ∀ j, j ≠ 1 → J 64 j = I 64 j
theorem hn_fx.rf {I : Nat → Nat → Int} : hn_fx I I := ⟨fun _ _ _ _ => rfl, fun _ _ => rfl⟩
theorem hn_fx.tr {A B I : Nat → Nat → Int} (h1 : hn_fx A B) (h2 : hn_fx B I) : hn_fx A I := ⟨fun c a b j => by rw [h1.1 c a b, h2.1 c a b], fun j a => by rw [h1.2 j a, h2.2 j a]⟩
theorem hn_fx.up {A I : Nat → Nat → Int} (h : hn_fx A I) {q : Nat} {v : Int} : hn_fx (hn_up A 65 q v) I := ⟨fun c a b j => by rw [hn_up_ne (Or.inl b), h.1 c a b], fun j a => by rw [hn_up_ne (Or.inl (by omega)), h.2 j a]⟩
def hn_recM (b : Int) (a : hn_AA) (r : Int) (t : hn_S) : hn_AA := (t, if r < -1 ∨ b ≠ 0 then a.2.1 else hn_push a.2.1 a.1, a.2.2)
theorem hn_recM_0 (a : hn_AA) (r : Int) (t : hn_S) : hn_recM 0 a r t = hn_rec a r t := by
  unfold hn_recM hn_rec
  by_cases e : r < -1
  · rw [if_pos (Or.inl e), if_pos e]
  · rw [if_neg (fun q => q.elim e (fun x => x rfl)), if_neg e]
theorem hn_MC.mv {I J : Nat → Nat → Int} {b : Int} {a : hn_AA} (h : hn_MC I b a) (e5 : ∀ j, J 65 j = I 65 j) (e4 : ∀ j, j = 1 ∨ j = 2 ∨ j = 18 → J 64 j = I 64 j) (e7 : ∀ j, J 75 j = I 75 j) : hn_MC J b a :=
  ⟨fun j hj => by rw [e5]; exact h.1 j hj, by rw [e4 1 (by omega)]; exact h.2.1, fun i x hx j hj => by rw [e5]; exact h.2.2.1 i x hx j hj, by rw [e4 2 (by omega)]; exact h.2.2.2.1, by rw [e4 18 (by omega)]; exact h.2.2.2.2.1, fun j hj => by rw [e7]; exact h.2.2.2.2.2 j hj⟩
theorem hn_MC.ms {I : Nat → Nat → Int} {b : Int} {s t : hn_S} {x : List hn_S × (Nat → Int) × Nat} (h : hn_MC I b (s, x)) (ht : hn_MS I t) : hn_MC I b (t, x) := ⟨ht, h.2⟩
theorem hn_MC.up {I : Nat → Nat → Int} {b : Int} {s : hn_S} {x : List hn_S × (Nat → Int) × Nat} (h : hn_MC I b (s, x)) {q : Nat} (hq : q < 114) {v : Int} : hn_MC (hn_up I 65 q v) b (hn_w s q v, x) := by
  refine ⟨fun j hj => ?_, by rw [hn_up_ne (Or.inl (by omega))]; exact h.2.1, fun i y hy j hj => ?_, by rw [hn_up_ne (Or.inl (by omega))]; exact h.2.2.2.1, by rw [hn_up_ne (Or.inl (by omega))]; exact h.2.2.2.2.1, fun j hj => by rw [hn_up_ne (Or.inl (by omega))]; exact h.2.2.2.2.2 j hj⟩
  · by_cases e : j = q
    · rw [e, hn_up_eq]
      exact hn_w_eq.symm
    · rw [hn_up_ne (Or.inr e)]
      show _ = hn_w s q v j
      rw [hn_w_ne e]
      exact h.1 j hj
  · rw [hn_up_ne (Or.inr (by omega))]
    exact h.2.2.1 i y hy j hj
section HX43
variable {sx : Nat → Int} {sL : Nat} {I : Nat → Nat → Int} {k : Nat → Option Nat} {g : Nat → Nat → Int64} {a : hn_AA} {s : hn_S} {b : Int}
theorem hx_in (d : Nat) (x lo hi : Int) : hn_ret sx sL (d + 1) 97 [hn_vi x, hn_vi lo, hn_vi hi] (hn_m I k g) (some (hn_vi (if lo ≤ x ∧ x ≤ hi then 1 else 0))) (hn_m I k g) := by
  refine hn_of rfl ?_
  by_cases h1 : x < lo
  · rw [if_neg (by omega)]
    exact hb_X7_in_0_0 h1
  · by_cases h2 : hi < x
    · rw [if_neg (by omega)]
      exact hb_X7_in_0_1 h1 h2
    · rw [if_pos (by omega)]
      exact hb_X7_in_0_2 h1 h2
theorem hn_MS.n (hI : hn_Iv s) (h : hn_MS I s) : I 65 0 = (hn_n s : Int) := (h 0 (by omega)).trans (hn_n0 hI)
theorem hn_MS.m (hI : hn_Iv s) (h : hn_MS I s) : I 65 1 = (hn_hm s : Int) := (h 1 (by omega)).trans hI.2.1.1
theorem hx_isNode (d : Nat) (hI : hn_Iv s) (h : hn_MS I s) (x : Int) : hn_ret sx sL (d + 2) 100 [hn_vr 64, hn_vi x] (hn_m I k g) (some (hn_vi (if hn_isN s x then 1 else 0))) (hn_m I k g) := by
  have hn := h.n hI
  have h8 := hn_n8 hI
  have c1 := hx_in (sx := sx) (sL := sL) (I := I) (k := k) (g := g) d x 0 ((hn_n s : Int) - 1)
  rw [← hn] at c1
  have e : (if 0 ≤ x ∧ x ≤ I 65 0 - 1 then (1 : Int) else 0) = if hn_isN s x then 1 else 0 := by
    by_cases q : hn_isN s x
    · rw [if_pos (by omega), if_pos q]
    · rw [if_neg (by omega), if_neg q]
  rw [e] at c1
  refine hn_of rfl (hb_X7_isNode_0_0 (h1 := by omega) (c2 := c1) (h3 := ?_))
  by_cases q : hn_isN s x
  · rw [if_pos q]
    exact Or.inr rfl
  · rw [if_neg q]
    exact Or.inl rfl
theorem hx_isHub (d : Nat) (hI : hn_Iv s) (h : hn_MS I s) {v : Nat} (hv : v < 8) : hn_ret sx sL (d + 1) 101 [hn_vr 64, hn_vi v] (hn_m I k g) (some (hn_vi (if hn_hub s v = true then 1 else 0))) (hn_m I k g) := by
  have e := hn_bit (hn_hm s) (hn_m256 hI) v hv
  rw [← h.m hI] at e
  refine hn_of rfl ?_
  by_cases q : hn_hub s v = true
  · rw [if_pos q]
    have q' : (hn_hm s).testBit v = true := q
    rw [if_pos q'] at e
    exact hb_X7_isHub_0_0 e
  · rw [if_neg q]
    have q' : ¬ (hn_hm s).testBit v = true := q
    rw [if_neg q'] at e
    exact hb_X7_isHub_0_1 (by rw [e]; decide)
theorem hx_flowOf (d : Nat) (h : hn_MS I s) {u v : Nat} (hu : u < 8) (hv : v < 8) : hn_ret sx sL (d + 1) 102 [hn_vr 64, hn_vi u, hn_vi v] (hn_m I k g) (some (hn_vi (hn_fl s u v))) (hn_m I k g) := by
  have e : I 65 ((50 + (8 * u)) + v) = hn_fl s u v := by
    rw [h _ (by omega)]
    unfold hn_fl
    congr 1
    omega
  rw [← e]
  exact hn_of rfl (hb_X7_flowOf_0_0 (h1 := by omega) (h2 := by omega) (h3 := by omega) (h4 := by omega))
theorem hx_far (d : Nat) (hI : hn_Iv s) (h : hn_MS I s) {u v : Nat} (hu : u < 8) (hv : v < 8) : hn_ret sx sL (d + 1) 103 [hn_vr 64, hn_vi u, hn_vi v] (hn_m I k g) (some (hn_vi (hn_gp s u v))) (hn_m I k g) := by
  have e1 : I 65 (10 + u) = s (10 + u) := h _ (by omega)
  have e2 : I 65 (10 + v) = s (10 + v) := h _ (by omega)
  have e3 : I 65 (18 + u) = s (18 + u) := h _ (by omega)
  have e4 : I 65 (18 + v) = s (18 + v) := h _ (by omega)
  have b1 := hI.2.2.2.2.1 u hu
  have b2 := hI.2.2.2.2.1 v hv
  refine hn_of rfl ?_
  unfold hn_gp
  by_cases q1 : I 65 (10 + u) - I 65 (10 + v) < 0
  · by_cases q2 : I 65 (18 + u) - I 65 (18 + v) < 0
    · have r := hb_X7_far_0_0 (sx := sx) (sL := sL) (C := hn_ret sx sL d) (I := I) (k := k) (g := g) (n1 := u) (n2 := v) (h1 := by omega) (h2 := by omega) (h3 := by omega) (h4 := by omega) (h5 := by omega) (h6 := by omega) (h7 := by omega) (h8 := by omega) (h9 := by omega) (h10 := by omega) (h11 := q1) (h12 := by omega) (h13 := q2) (h14 := by omega) (h15 := by omega)
      have ee : -(I 65 (10 + u) - I 65 (10 + v)) + -(I 65 (18 + u) - I 65 (18 + v)) = (Int.natAbs (s (10 + u) - s (10 + v)) : Int) + (Int.natAbs (s (18 + u) - s (18 + v)) : Int) := by omega
      rw [ee] at r
      exact r
    · have r := hb_X7_far_0_1 (sx := sx) (sL := sL) (C := hn_ret sx sL d) (I := I) (k := k) (g := g) (n1 := u) (n2 := v) (h1 := by omega) (h2 := by omega) (h3 := by omega) (h4 := by omega) (h5 := by omega) (h6 := by omega) (h7 := by omega) (h8 := by omega) (h9 := by omega) (h10 := by omega) (h11 := q1) (h12 := by omega) (h13 := q2) (h14 := by omega)
      have ee : -(I 65 (10 + u) - I 65 (10 + v)) + (I 65 (18 + u) - I 65 (18 + v)) = (Int.natAbs (s (10 + u) - s (10 + v)) : Int) + (Int.natAbs (s (18 + u) - s (18 + v)) : Int) := by omega
      rw [ee] at r
      exact r
  · by_cases q2 : I 65 (18 + u) - I 65 (18 + v) < 0
    · have r := hb_X7_far_0_2 (sx := sx) (sL := sL) (C := hn_ret sx sL d) (I := I) (k := k) (g := g) (n1 := u) (n2 := v) (h1 := by omega) (h2 := by omega) (h3 := by omega) (h4 := by omega) (h5 := by omega) (h6 := by omega) (h7 := by omega) (h8 := by omega) (h9 := by omega) (h10 := by omega) (h11 := q1) (h12 := q2) (h13 := by omega) (h14 := by omega)
      have ee : (I 65 (10 + u) - I 65 (10 + v)) + -(I 65 (18 + u) - I 65 (18 + v)) = (Int.natAbs (s (10 + u) - s (10 + v)) : Int) + (Int.natAbs (s (18 + u) - s (18 + v)) : Int) := by omega
      rw [ee] at r
      exact r
    · have r := hb_X7_far_0_3 (sx := sx) (sL := sL) (C := hn_ret sx sL d) (I := I) (k := k) (g := g) (n1 := u) (n2 := v) (h1 := by omega) (h2 := by omega) (h3 := by omega) (h4 := by omega) (h5 := by omega) (h6 := by omega) (h7 := by omega) (h8 := by omega) (h9 := by omega) (h10 := by omega) (h11 := q1) (h12 := q2) (h13 := by omega)
      have ee : (I 65 (10 + u) - I 65 (10 + v)) + (I 65 (18 + u) - I 65 (18 + v)) = (Int.natAbs (s (10 + u) - s (10 + v)) : Int) + (Int.natAbs (s (18 + u) - s (18 + v)) : Int) := by omega
      rw [ee] at r
      exact r
theorem hx_copies (d : Nat) {q1 q2 : Nat} (h1 : q1 ≤ 4) (h2 : q2 ≤ 4) (hq : q1 ≠ q2) : ∃ I', hn_ret sx sL (d + 1) 98 [hn_vr 64, hn_vi ((114 * q1 : Nat) : Int), hn_vi ((114 * q2 : Nat) : Int)] (hn_m I k g) none (hn_m I' k g) ∧ (∀ j, j < 114 → I' 65 (114 * q2 + j) = I 65 (114 * q1 + j)) ∧ (∀ j, j < 114 * q2 ∨ 114 * q2 + 114 ≤ j → I' 65 j = I 65 j) ∧ ∀ c, c ≠ 65 → ∀ j, I' c j = I c j := by
  obtain ⟨y, r, p1, p2, p3⟩ := hn_forE (sx := sx) (sL := sL) (C := hn_ret sx sL d) (fun i (J : Nat → Nat → Int) => hn_nx 98 2 [some (hn_vr 64), some (hn_vi ((114 * q1 : Nat) : Int)), some (hn_vi ((114 * q2 : Nat) : Int)), some (hn_vi (i : Int))] [] (hn_m J k g)) (fun i J => (∀ j, j < i → J 65 (114 * q2 + j) = I 65 (114 * q1 + j)) ∧ (∀ j, j < 114 * q2 ∨ 114 * q2 + 114 ≤ j → J 65 j = I 65 j) ∧ ∀ c, c ≠ 65 → ∀ j, J c j = I c j) 114 (fun i J hi hJ => by
    obtain ⟨j1, j2, j3⟩ := hJ
    refine ⟨_, hb_X7_copies_2_0 (h1 := by omega) (h2 := by omega) (h3 := by omega) (h4 := by omega) (h5 := by omega) (h6 := by omega), fun j hj => ?_, fun j hj => by rw [hn_up_ne (Or.inr (by omega)), j2 j hj], fun c hc j => by rw [hn_up_ne (Or.inl hc), j3 c hc]⟩
    by_cases e : j = i
    · rw [e, hn_up_eq, j2 _ (by omega)]
    · rw [hn_up_ne (Or.inr (by omega)), j1 j (by omega)]) I ⟨fun j hj => absurd hj (by omega), fun _ _ => rfl, fun _ _ _ => rfl⟩
  exact ⟨y, hn_of rfl (hb_X7_copies_0_0.tr (r.tr (hb_X7_copies_2_1 (h1 := by omega)))), p1, p2, p3⟩
/-- records -/
def hn_rcd (b : Int) (a : hn_AA) : hn_AA := (a.1, if b ≠ 0 then a.2.1 else hn_push a.2.1 a.1, a.2.2)
theorem hx_records (d : Nat) (hl : a.2.1.length ≤ 4) (h : hn_MC I b a) : ∃ I', hn_ret sx sL (d + 2) 99 [hn_vr 64] (hn_m I k g) none (hn_m I' k g) ∧ hn_MC I' b (hn_rcd b a) ∧ hn_fx I' I := by
  obtain ⟨h1, h2, h3, h4, h5, h6⟩ := id h
  unfold hn_rcd
  by_cases e : b = 0
  · rw [if_neg (fun q => q e)]
    have r0 := hb_X7_records_0_0 (sx := sx) (sL := sL) (C := hn_ret sx sL (d + 1)) (I := I) (k := k) (g := g) (h1 := by rw [h4]; exact e)
    by_cases q : a.2.1.length < 4
    · obtain ⟨y, c, p1, p2, p3⟩ := hx_copies (sx := sx) (sL := sL) (k := k) (g := g) (I := hn_up (hn_up I 64 1 ((I 64 1) - 0)) 64 1 (((I 64 1) - 0) + 1)) d (q1 := 0) (q2 := a.2.1.length + 1) (by omega) (by omega) (by omega)
      have ea : ((114 * (a.2.1.length + 1) : Nat) : Int) = 114 * (((I 64 1) - 0) + 1) := by rw [h2]; omega
      rw [ea] at c
      refine ⟨y, hn_of rfl (r0.tr (hb_X7_records_10_1 (h1 := by omega) (h2 := by omega) (h3 := by omega) (h4 := by omega) (h5 := by omega) (c6 := c))), ⟨fun j hj => by rw [p2 j (by omega), hn_up_ne (Or.inl (by omega)), hn_up_ne (Or.inl (by omega))]; exact h1 j hj, ?_, fun i x hx j hj => ?_, by rw [p3 64 (by omega), hn_up_ne (Or.inr (by omega)), hn_up_ne (Or.inr (by omega))]; exact h4, by rw [p3 64 (by omega), hn_up_ne (Or.inr (by omega)), hn_up_ne (Or.inr (by omega))]; exact h5, fun j hj => by rw [p3 75 (by omega), hn_up_ne (Or.inl (by omega)), hn_up_ne (Or.inl (by omega))]; exact h6 j hj⟩, fun c c1 c2 j => by rw [p3 c c2, hn_up_ne (Or.inl c1), hn_up_ne (Or.inl c1)], fun j hj => by rw [p3 64 (by omega), hn_up_ne (Or.inr hj), hn_up_ne (Or.inr hj)]⟩
      · rw [p3 64 (by omega), hn_up_eq]
        show _ = ((hn_push a.2.1 a.1).length : Int)
        rw [hn_push, if_pos q, List.length_append, List.length_singleton]
        omega
      · have hx' : (hn_push a.2.1 a.1)[i]? = some x := hx
        rw [hn_push, if_pos q] at hx'
        by_cases z : i < a.2.1.length
        · rw [List.getElem?_append_left z] at hx'
          rw [p2 _ (by omega), hn_up_ne (Or.inl (by omega)), hn_up_ne (Or.inl (by omega))]
          exact h3 i x hx' j hj
        · have hi : i < (a.2.1 ++ [a.1]).length := (List.getElem?_eq_some_iff.mp hx').1
          rw [List.length_append, List.length_singleton] at hi
          have ei : i = a.2.1.length := by omega
          subst ei
          rw [List.getElem?_append_right (Nat.le_refl _), Nat.sub_self] at hx'
          have ex : a.1 = x := Option.some.inj hx'
          rw [p1 j hj, hn_up_ne (Or.inl (by omega)), hn_up_ne (Or.inl (by omega)), ← ex]
          have := h1 j hj
          rw [Nat.mul_zero, Nat.zero_add]
          exact this
    · have q4 : a.2.1.length = 4 := by omega
      obtain ⟨y, r1, p1, p2, p3⟩ := hn_forE (sx := sx) (sL := sL) (C := hn_ret sx sL (d + 1)) (fun i (J : Nat → Nat → Int) => hn_nx 99 10 [some (hn_vr 64), some (hn_vi (((i + 1 : Nat)) : Int))] [] (hn_m J k g)) (fun i J => (∀ u, u < i → ∀ j, j < 114 → J 65 (114 * (u + 1) + j) = I 65 (114 * (u + 2) + j)) ∧ (∀ j, j < 114 ∨ 114 * (i + 1) ≤ j → J 65 j = I 65 j) ∧ ∀ c, c ≠ 65 → ∀ j, J c j = I c j) 3 (fun i J hi hJ => by
        obtain ⟨j1, j2, j3⟩ := hJ
        obtain ⟨z, c, w1, w2, w3⟩ := hx_copies (sx := sx) (sL := sL) (k := k) (g := g) (I := J) d (q1 := i + 2) (q2 := i + 1) (by omega) (by omega) (by omega)
        have e1 : ((114 * (i + 2) : Nat) : Int) = 114 * (((i + 1 : Nat) : Int) + 1) := by omega
        have e2 : ((114 * (i + 1) : Nat) : Int) = 114 * ((i + 1 : Nat) : Int) := by omega
        rw [e1, e2] at c
        refine ⟨z, hb_X7_records_10_0 (h1 := by omega) (h2 := by rw [j3 64 (by omega), h2, q4]; rfl) (h3 := by omega) (h4 := by omega) (h5 := by omega) (c6 := c), fun u hu j hj => ?_, fun j hj => by rw [w2 j (by omega), j2 j (by omega)], fun c hc j => by rw [w3 c hc, j3 c hc]⟩
        by_cases eu : u = i
        · rw [eu, w1 j hj, j2 _ (by omega)]
        · rw [w2 _ (by omega), j1 u (by omega) j hj]) I ⟨fun u hu => absurd hu (by omega), fun _ _ => rfl, fun _ _ _ => rfl⟩
      have ey : y 64 1 = 4 := by rw [p3 64 (by omega), h2, q4]; rfl
      obtain ⟨z, c, w1, w2, w3⟩ := hx_copies (sx := sx) (sL := sL) (k := k) (g := g) (I := hn_up (hn_up y 64 1 ((y 64 1) - 1)) 64 1 (((y 64 1) - 1) + 1)) d (q1 := 0) (q2 := 4) (by omega) (by omega) (by omega)
      have ea : ((114 * 4 : Nat) : Int) = 114 * (((y 64 1) - 1) + 1) := by rw [ey]; rfl
      rw [ea] at c
      have key : ∀ c, c ≠ 65 → ∀ j, c ≠ 64 ∨ j ≠ 1 → z c j = I c j := fun c hc j hj => by rw [w3 c hc, hn_up_ne hj, hn_up_ne hj, p3 c hc]
      have key5 : ∀ j, j < 456 → z 65 j = y 65 j := fun j hj => by rw [w2 j (by omega), hn_up_ne (Or.inl (by omega)), hn_up_ne (Or.inl (by omega))]
      refine ⟨z, hn_of rfl (r0.tr (r1.tr (hb_X7_records_10_2 (x1 := ((3 + 1 : Nat) : Int)) (h1 := by decide) (h2 := ey) (h3 := by omega) (h4 := by omega) (h5 := by omega) (c6 := c)))), ⟨fun j hj => by rw [key5 j (by omega), p2 j (by omega)]; exact h1 j hj, ?_, fun i x hx j hj => ?_, by rw [key 64 (by omega) 2 (by omega)]; exact h4, by rw [key 64 (by omega) 18 (by omega)]; exact h5, fun j hj => by rw [key 75 (by omega) j (by omega)]; exact h6 j hj⟩, fun c c1 c2 j => key c c2 j (Or.inl c1), fun j hj => key 64 (by omega) j (Or.inr hj)⟩
      · rw [w3 64 (by omega), hn_up_eq, ey]
        show _ = ((hn_push a.2.1 a.1).length : Int)
        rw [hn_push, if_neg q, List.length_append, List.length_singleton, List.length_tail, q4]
        rfl
      · have hx' : (hn_push a.2.1 a.1)[i]? = some x := hx
        rw [hn_push, if_neg q] at hx'
        have lt : a.2.1.tail.length = 3 := by rw [List.length_tail, q4]
        by_cases zi : i < 3
        · rw [List.getElem?_append_left (by omega), List.getElem?_tail] at hx'
          rw [key5 _ (by omega), p1 i zi j hj]
          exact h3 (i + 1) x hx' j hj
        · have hi : i < (a.2.1.tail ++ [a.1]).length := (List.getElem?_eq_some_iff.mp hx').1
          rw [List.length_append, List.length_singleton] at hi
          have ei : i = 3 := by omega
          subst ei
          rw [List.getElem?_append_right (by omega), lt, Nat.sub_self] at hx'
          have ex : a.1 = x := Option.some.inj hx'
          show z 65 (114 * 4 + j) = _
          rw [w1 j hj, hn_up_ne (Or.inl (by omega)), hn_up_ne (Or.inl (by omega)), ← ex, Nat.mul_zero, Nat.zero_add, p2 j (by omega)]
          exact h1 j hj
  · rw [if_pos e]
    exact ⟨I, hn_of rfl (hb_X7_records_0_1 (h1 := by rw [h4]; exact e)), h, hn_fx.rf⟩
theorem hx_rec {r : Int} {t : hn_S} (hr : ¬ r < -1) (h : hn_MC I b (t, (hn_rcd b a).2)) : hn_MC I b (hn_recM b a r t) := by
  have e : hn_recM b a r t = (t, (hn_rcd b a).2) := by
    unfold hn_recM hn_rcd
    by_cases q : b = 0
    · rw [if_neg (fun x => x.elim hr (fun y => y q)), if_neg (fun x => x q)]
    · rw [if_pos (Or.inr q), if_pos q]
  rw [e]
  exact h
theorem hx_same (h : hn_MC I b a) {r : Int} {t : hn_S} (hr : r < -1) (ht : t = a.1) : hn_MC I b (hn_recM b a r t) := by
  subst ht
  rw [hn_recM, if_pos (Or.inl hr)]
  exact h
theorem hx_addNode (d : Nat) (hA : hn_AI a) (h : hn_MC I b a) (x y o c : Int) : ∃ I', hn_ret sx sL (d + 3) 104 [hn_vr 64, hn_vi x, hn_vi y, hn_vi o, hn_vi c] (hn_m I k g) (some (hn_vi (hr_add a.1 x y o c))) (hn_m I' k g) ∧ hn_MC I' b (hn_recM b a (hr_add a.1 x y o c) (hs_add a.1 x y o c)) ∧ hn_fx I' I := by
  have c1 := hx_in (sx := sx) (sL := sL) (I := I) (k := k) (g := g) (d + 1) x 0 99
  have c2 := hx_in (sx := sx) (sL := sL) (I := I) (k := k) (g := g) (d + 1) y 0 99
  have c3 := hx_in (sx := sx) (sL := sL) (I := I) (k := k) (g := g) (d + 1) o 0 100000
  have c4 := hx_in (sx := sx) (sL := sL) (I := I) (k := k) (g := g) (d + 1) c 0 9999
  have hn := h.1.n hA.1
  have h8 := hn_n8 hA.1
  by_cases hx : (0 ≤ x ∧ x ≤ 99) ∧ (0 ≤ y ∧ y ≤ 99) ∧ (0 ≤ o ∧ o ≤ 100000) ∧ (0 ≤ c ∧ c ≤ 9999)
  · obtain ⟨h1, h2, h3, h4⟩ := id hx
    rw [if_pos h1] at c1
    rw [if_pos h2] at c2
    rw [if_pos h3] at c3
    rw [if_pos h4] at c4
    by_cases e : hn_n a.1 = 8
    · have er : hr_add a.1 x y o c = -5 := by rw [hr_add, if_pos hx, if_pos e]
      refine ⟨I, hn_of rfl ?_, hx_same h (by omega) (by rw [hs_add, if_pos (by omega)]), hn_fx.rf⟩
      rw [er]
      exact hb_X7_addNode_0_4 (c1 := c1) (h2 := by decide) (c3 := c2) (h4 := by decide) (c5 := c3) (h6 := by decide) (c7 := c4) (h8 := by decide) (h9 := by omega)
    · have er : hr_add a.1 x y o c = (hn_n a.1 : Int) := by rw [hr_add, if_pos hx, if_neg e]
      obtain ⟨I5, c5, m5, f5⟩ := hx_records (sx := sx) (sL := sL) (k := k) (g := g) d hA.2.2.1 h
      have hn5 : I5 65 0 = (hn_n a.1 : Int) := m5.1.n hA.1
      have r := hb_X7_addNode_0_5 (sx := sx) (sL := sL) (c1 := c1) (h2 := by decide) (c3 := c2) (h4 := by decide) (c5 := c3) (h6 := by decide) (c7 := c4) (h8 := by decide) (h9 := by omega) (c10 := c5) (h11 := by omega) (h12 := by omega) (h13 := by omega) (h14 := by omega) (h15 := by omega) (h16 := by omega) (h17 := by omega) (h18 := by omega) (h19 := by omega) (h20 := by omega) (h21 := by rw [hn_up_ne (Or.inr (by omega)), hn_up_ne (Or.inr (by omega)), hn_up_ne (Or.inr (by omega)), hn_up_ne (Or.inr (by omega)), hn_up_ne (Or.inr (by omega))]; omega)
      have t1 : (10 + (hn_n a.1 : Int)).toNat = 10 + hn_n a.1 := by omega
      have t2 : (18 + (hn_n a.1 : Int)).toNat = 18 + hn_n a.1 := by omega
      have t3 : (26 + (hn_n a.1 : Int)).toNat = 26 + hn_n a.1 := by omega
      have t4 : (34 + (hn_n a.1 : Int)).toNat = 34 + hn_n a.1 := by omega
      have t5 : (42 + (hn_n a.1 : Int)).toNat = 42 + hn_n a.1 := by omega
      rw [hn5, t1, t2, t3, t4, t5, hn_up_ne (c' := 65) (j' := 0) (Or.inr (by omega)), hn_up_ne (c' := 65) (j' := 0) (Or.inr (by omega)), hn_up_ne (c' := 65) (j' := 0) (Or.inr (by omega)), hn_up_ne (c' := 65) (j' := 0) (Or.inr (by omega)), hn_up_ne (c' := 65) (j' := 0) (Or.inr (by omega)), hn5] at r
      rw [er]
      have es : hs_add a.1 x y o c = hn_add a.1 x y o c := by rw [hs_add, if_neg (by omega)]
      rw [es]
      have m5' : hn_MC I5 b (a.1, (hn_rcd b a).2) := m5
      exact ⟨_, hn_of rfl r, hx_rec (by omega) ((((((m5'.up (q := 10 + hn_n a.1) (by omega)).up (q := 18 + hn_n a.1) (by omega)).up (q := 26 + hn_n a.1) (by omega)).up (q := 34 + hn_n a.1) (by omega)).up (q := 42 + hn_n a.1) (by omega)).up (q := 0) (by omega)), f5.up.up.up.up.up.up⟩
  · have er : hr_add a.1 x y o c = -3 := by rw [hr_add, if_neg hx]
    refine ⟨I, hn_of rfl ?_, hx_same h (by omega) (by rw [hs_add, if_pos (by omega)]), hn_fx.rf⟩
    rw [er]
    by_cases h1 : 0 ≤ x ∧ x ≤ 99
    · rw [if_pos h1] at c1
      by_cases h2 : 0 ≤ y ∧ y ≤ 99
      · rw [if_pos h2] at c2
        by_cases h3 : 0 ≤ o ∧ o ≤ 100000
        · rw [if_pos h3] at c3
          by_cases h4 : 0 ≤ c ∧ c ≤ 9999
          · exact absurd ⟨h1, h2, h3, h4⟩ hx
          · rw [if_neg h4] at c4
            exact hb_X7_addNode_0_3 (c1 := c1) (h2 := by decide) (c3 := c2) (h4 := by decide) (c5 := c3) (h6 := by decide) (c7 := c4) (h8 := by decide)
        · rw [if_neg h3] at c3
          exact hb_X7_addNode_0_2 (c1 := c1) (h2 := by decide) (c3 := c2) (h4 := by decide) (c5 := c3) (h6 := by decide)
      · rw [if_neg h2] at c2
        exact hb_X7_addNode_0_1 (c1 := c1) (h2 := by decide) (c3 := c2) (h4 := by decide)
    · rw [if_neg h1] at c1
      exact hb_X7_addNode_0_0 (c1 := c1) (h2 := by decide)
theorem hx_setFlow (d : Nat) (hA : hn_AI a) (h : hn_MC I b a) (x y f : Int) : ∃ I', hn_ret sx sL (d + 3) 105 [hn_vr 64, hn_vi x, hn_vi y, hn_vi f] (hn_m I k g) (some (hn_vi (hr_flow a.1 x y f))) (hn_m I' k g) ∧ hn_MC I' b (hn_recM b a (hr_flow a.1 x y f) (hs_flow a.1 x y f)) ∧ hn_fx I' I := by
  have h8 := hn_n8 hA.1
  have c1 := hx_isNode (sx := sx) (sL := sL) (k := k) (g := g) d hA.1 h.1 x
  have c2 := hx_isNode (sx := sx) (sL := sL) (k := k) (g := g) d hA.1 h.1 y
  have c3 := hx_in (sx := sx) (sL := sL) (I := I) (k := k) (g := g) (d + 1) f 0 100
  by_cases ha : hn_isN a.1 x
  · rw [if_pos ha] at c1
    by_cases hb : hn_isN a.1 y
    · rw [if_pos hb] at c2
      by_cases hx : x ≠ y ∧ 0 ≤ f ∧ f ≤ 100
      · rw [if_pos hx.2] at c3
        have er : hr_flow a.1 x y f = hn_fl a.1 x.toNat y.toNat := by rw [hr_flow, if_pos ⟨ha, hb⟩, if_pos hx]
        unfold hn_isN at ha hb
        obtain ⟨u, rfl⟩ : ∃ u : Nat, x = u := ⟨x.toNat, by omega⟩
        obtain ⟨v, rfl⟩ : ∃ v : Nat, y = v := ⟨y.toNat, by omega⟩
        have fb := hn_fl_b hA.1 (a := u) (b := v) (by omega) (by omega)
        obtain ⟨I5, c5, m5, f5⟩ := hx_records (sx := sx) (sL := sL) (k := k) (g := g) (d + 0) hA.2.2.1 h
        have c6 := hx_flowOf (sx := sx) (sL := sL) (k := k) (g := g) (d + 1) m5.1 (u := u) (v := v) (by omega) (by omega)
        have r := hb_X7_setFlow_0_4 (sx := sx) (sL := sL) (x3 := f) (c1 := c1) (h2 := by decide) (c3 := c2) (h4 := by decide) (h5 := hx.1) (c6 := c3) (h7 := by decide) (c8 := c5) (c9 := c6) (h10 := by omega) (h11 := by omega) (h12 := by omega) (h13 := by omega)
        rw [Int.toNat_natCast, Int.toNat_natCast] at er
        have es : hs_flow a.1 u v f = hn_w a.1 (50 + (8 * u + v)) f := by rw [hs_flow, if_neg (by omega), Int.toNat_natCast, Int.toNat_natCast]
        rw [er, es]
        rw [Nat.add_assoc 50 (8 * u) v] at r
        have m5' : hn_MC I5 b (a.1, (hn_rcd b a).2) := m5
        exact ⟨_, hn_of rfl r, hx_rec (by omega) (m5'.up (by omega)), f5.up⟩
      · have er : hr_flow a.1 x y f = -3 := by rw [hr_flow, if_pos ⟨ha, hb⟩, if_neg hx]
        refine ⟨I, hn_of rfl ?_, hx_same h (by omega) (by rw [hs_flow, if_pos (by omega)]), hn_fx.rf⟩
        rw [er]
        by_cases e : x = y
        · exact hi_X7_setFlow_0_2 (c1 := c1) (h2 := by decide) (c3 := c2) (h4 := by decide) (h5 := e)
        · rw [if_neg (fun q => hx ⟨e, q⟩)] at c3
          exact hi_X7_setFlow_0_3 (c1 := c1) (h2 := by decide) (c3 := c2) (h4 := by decide) (h5 := e) (c6 := c3) (h7 := by decide)
    · have er : hr_flow a.1 x y f = -2 := by rw [hr_flow, if_neg (fun q => hb q.2)]
      refine ⟨I, hn_of rfl ?_, hx_same h (by omega) (by rw [hs_flow, if_pos (by omega)]), hn_fx.rf⟩
      rw [er]
      rw [if_neg hb] at c2
      exact hi_X7_setFlow_0_1 (c1 := c1) (h2 := by decide) (c3 := c2) (h4 := by decide)
  · have er : hr_flow a.1 x y f = -2 := by rw [hr_flow, if_neg (fun q => ha q.1)]
    refine ⟨I, hn_of rfl ?_, hx_same h (by omega) (by rw [hs_flow, if_pos (by omega)]), hn_fx.rf⟩
    rw [er]
    rw [if_neg ha] at c1
    exact hi_X7_setFlow_0_0 (c1 := c1) (h2 := by decide)
theorem hx_setNode (d : Nat) (hA : hn_AI a) (h : hn_MC I b a) (v o c : Int) : ∃ I', hn_ret sx sL (d + 3) 106 [hn_vr 64, hn_vi v, hn_vi o, hn_vi c] (hn_m I k g) (some (hn_vi (hr_node a.1 v o c))) (hn_m I' k g) ∧ hn_MC I' b (hn_recM b a (hr_node a.1 v o c) (hs_node a.1 v o c)) ∧ hn_fx I' I := by
  have h8 := hn_n8 hA.1
  have c1 := hx_isNode (sx := sx) (sL := sL) (k := k) (g := g) d hA.1 h.1 v
  have c2 := hx_in (sx := sx) (sL := sL) (I := I) (k := k) (g := g) (d + 1) o 0 100000
  have c3 := hx_in (sx := sx) (sL := sL) (I := I) (k := k) (g := g) (d + 1) c 0 9999
  by_cases h1 : hn_isN a.1 v
  · rw [if_pos h1] at c1
    by_cases h2 : (0 ≤ o ∧ o ≤ 100000) ∧ (0 ≤ c ∧ c ≤ 9999)
    · rw [if_pos h2.1] at c2
      rw [if_pos h2.2] at c3
      have er : hr_node a.1 v o c = a.1 (26 + v.toNat) := by rw [hr_node, if_pos h1, if_pos h2]
      have b26 := (hA.1.2.2.2.2.1 v.toNat (by omega)).2.2.1
      have es : hs_node a.1 v o c = hn_w (hn_w a.1 (26 + v.toNat) o) (34 + v.toNat) c := by rw [hs_node, if_neg (by omega)]
      obtain ⟨I5, c5, m5, f5⟩ := hx_records (sx := sx) (sL := sL) (k := k) (g := g) d hA.2.2.1 h
      rw [er, es]
      obtain ⟨u, rfl⟩ : ∃ u : Nat, v = u := ⟨v.toNat, by omega⟩
      rw [Int.toNat_natCast] at b26 ⊢
      have r := hb_X7_setNode_0_3 (sx := sx) (sL := sL) (c1 := c1) (h2 := by decide) (c3 := c2) (h4 := by decide) (c5 := c3) (h6 := by decide) (c7 := c5) (h8 := by omega) (h9 := by omega) (h10 := by omega) (h11 := by omega)
      have e26 : I5 65 (26 + u) = a.1 (26 + u) := m5.1 _ (by omega)
      rw [e26] at r
      have m5' : hn_MC I5 b (a.1, (hn_rcd b a).2) := m5
      exact ⟨_, hn_of rfl r, hx_rec (by omega) ((m5'.up (by omega)).up (by omega)), f5.up.up⟩
    · have er : hr_node a.1 v o c = -3 := by rw [hr_node, if_pos h1, if_neg h2]
      refine ⟨I, hn_of rfl ?_, hx_same h (by omega) (by rw [hs_node, if_pos (by omega)]), hn_fx.rf⟩
      rw [er]
      by_cases h3 : 0 ≤ o ∧ o ≤ 100000
      · rw [if_pos h3] at c2
        rw [if_neg (fun q => h2 ⟨h3, q⟩)] at c3
        exact hi_X7_setNode_0_2 (c1 := c1) (h2 := by decide) (c3 := c2) (h4 := by decide) (c5 := c3) (h6 := by decide)
      · rw [if_neg h3] at c2
        exact hi_X7_setNode_0_1 (c1 := c1) (h2 := by decide) (c3 := c2) (h4 := by decide)
  · have er : hr_node a.1 v o c = -2 := by rw [hr_node, if_neg h1]
    refine ⟨I, hn_of rfl ?_, hx_same h (by omega) (by rw [hs_node, if_pos (by omega)]), hn_fx.rf⟩
    rw [er]
    rw [if_neg h1] at c1
    exact hi_X7_setNode_0_0 (c1 := c1) (h2 := by decide)
theorem hx_setFactors (d : Nat) (hA : hn_AI a) (h : hn_MC I b a) (x y z w : Int) : ∃ I', hn_ret sx sL (d + 3) 107 [hn_vr 64, hn_vi x, hn_vi y, hn_vi z, hn_vi w] (hn_m I k g) (some (hn_vi (hr_fac a.1 x y z w))) (hn_m I' k g) ∧ hn_MC I' b (hn_recM b a (hr_fac a.1 x y z w) (hs_fac a.1 x y z w)) ∧ hn_fx I' I := by
  have c1 := hx_in (sx := sx) (sL := sL) (I := I) (k := k) (g := g) (d + 1) x 1 300
  have c2 := hx_in (sx := sx) (sL := sL) (I := I) (k := k) (g := g) (d + 1) y 0 100
  have c3 := hx_in (sx := sx) (sL := sL) (I := I) (k := k) (g := g) (d + 1) z 1 300
  have c4 := hx_in (sx := sx) (sL := sL) (I := I) (k := k) (g := g) (d + 1) w 0 9999
  by_cases h2 : (1 ≤ x ∧ x ≤ 300) ∧ (0 ≤ y ∧ y ≤ 100) ∧ (1 ≤ z ∧ z ≤ 300) ∧ (0 ≤ w ∧ w ≤ 9999)
  · rw [if_pos h2.1] at c1
    rw [if_pos h2.2.1] at c2
    rw [if_pos h2.2.2.1] at c3
    rw [if_pos h2.2.2.2] at c4
    have er : hr_fac a.1 x y z w = a.1 3 := by rw [hr_fac, if_pos h2]
    have b3 := hA.1.2.2.1.2.1
    have es : hs_fac a.1 x y z w = hn_w (hn_w (hn_w (hn_w a.1 2 x) 3 y) 4 z) 5 w := by rw [hs_fac, if_neg (by omega)]
    obtain ⟨I5, c5, m5, f5⟩ := hx_records (sx := sx) (sL := sL) (k := k) (g := g) d hA.2.2.1 h
    rw [er, es]
    have r := hb_X7_setFactors_0_4 (sx := sx) (sL := sL) (c1 := c1) (h2 := by decide) (c3 := c2) (h4 := by decide) (c5 := c3) (h6 := by decide) (c7 := c4) (h8 := by decide) (c9 := c5)
    have e3 : I5 65 3 = a.1 3 := m5.1 _ (by omega)
    rw [e3] at r
    have m5' : hn_MC I5 b (a.1, (hn_rcd b a).2) := m5
    exact ⟨_, hn_of rfl r, hx_rec (by omega) ((((m5'.up (by omega)).up (by omega)).up (by omega)).up (by omega)), f5.up.up.up.up⟩
  · have er : hr_fac a.1 x y z w = -3 := by rw [hr_fac, if_neg h2]
    refine ⟨I, hn_of rfl ?_, hx_same h (by omega) (by rw [hs_fac, if_pos (by omega)]), hn_fx.rf⟩
    rw [er]
    by_cases q1 : 1 ≤ x ∧ x ≤ 300
    · rw [if_pos q1] at c1
      by_cases q2 : 0 ≤ y ∧ y ≤ 100
      · rw [if_pos q2] at c2
        by_cases q3 : 1 ≤ z ∧ z ≤ 300
        · rw [if_pos q3] at c3
          rw [if_neg (fun q => h2 ⟨q1, q2, q3, q⟩)] at c4
          exact hb_X7_setFactors_0_3 (c1 := c1) (h2 := by decide) (c3 := c2) (h4 := by decide) (c5 := c3) (h6 := by decide) (c7 := c4) (h8 := by decide)
        · rw [if_neg q3] at c3
          exact hb_X7_setFactors_0_2 (c1 := c1) (h2 := by decide) (c3 := c2) (h4 := by decide) (c5 := c3) (h6 := by decide)
      · rw [if_neg q2] at c2
        exact hb_X7_setFactors_0_1 (c1 := c1) (h2 := by decide) (c3 := c2) (h4 := by decide)
    · rw [if_neg q1] at c1
      exact hb_X7_setFactors_0_0 (c1 := c1) (h2 := by decide)
theorem hx_setCongestion (d : Nat) (hA : hn_AI a) (h : hn_MC I b a) (x y z w : Int) : ∃ I', hn_ret sx sL (d + 3) 108 [hn_vr 64, hn_vi x, hn_vi y, hn_vi z, hn_vi w] (hn_m I k g) (some (hn_vi (hr_con a.1 x y z w))) (hn_m I' k g) ∧ hn_MC I' b (hn_recM b a (hr_con a.1 x y z w) (hs_con a.1 x y z w)) ∧ hn_fx I' I := by
  have c1 := hx_in (sx := sx) (sL := sL) (I := I) (k := k) (g := g) (d + 1) x 0 9999
  have c2 := hx_in (sx := sx) (sL := sL) (I := I) (k := k) (g := g) (d + 1) y 0 1000
  have c3 := hx_in (sx := sx) (sL := sL) (I := I) (k := k) (g := g) (d + 1) z x 9999
  have c4 := hx_in (sx := sx) (sL := sL) (I := I) (k := k) (g := g) (d + 1) w 0 1000
  by_cases h2 : (0 ≤ x ∧ x ≤ 9999) ∧ (0 ≤ y ∧ y ≤ 1000) ∧ (x ≤ z ∧ z ≤ 9999) ∧ (0 ≤ w ∧ w ≤ 1000)
  · rw [if_pos h2.1] at c1
    rw [if_pos h2.2.1] at c2
    rw [if_pos h2.2.2.1] at c3
    rw [if_pos h2.2.2.2] at c4
    have er : hr_con a.1 x y z w = a.1 6 := by rw [hr_con, if_pos h2]
    have b3 := hA.1.2.2.2.1.1
    have es : hs_con a.1 x y z w = hn_w (hn_w (hn_w (hn_w a.1 6 x) 7 y) 8 z) 9 w := by rw [hs_con, if_neg (by omega)]
    obtain ⟨I5, c5, m5, f5⟩ := hx_records (sx := sx) (sL := sL) (k := k) (g := g) d hA.2.2.1 h
    rw [er, es]
    have r := hb_X7_setCongestion_0_4 (sx := sx) (sL := sL) (c1 := c1) (h2 := by decide) (c3 := c2) (h4 := by decide) (c5 := c3) (h6 := by decide) (c7 := c4) (h8 := by decide) (c9 := c5)
    have e3 : I5 65 6 = a.1 6 := m5.1 _ (by omega)
    rw [e3] at r
    have m5' : hn_MC I5 b (a.1, (hn_rcd b a).2) := m5
    exact ⟨_, hn_of rfl r, hx_rec (by omega) ((((m5'.up (by omega)).up (by omega)).up (by omega)).up (by omega)), f5.up.up.up.up⟩
  · have er : hr_con a.1 x y z w = -3 := by rw [hr_con, if_neg h2]
    refine ⟨I, hn_of rfl ?_, hx_same h (by omega) (by rw [hs_con, if_pos (by omega)]), hn_fx.rf⟩
    rw [er]
    by_cases q1 : 0 ≤ x ∧ x ≤ 9999
    · rw [if_pos q1] at c1
      by_cases q2 : 0 ≤ y ∧ y ≤ 1000
      · rw [if_pos q2] at c2
        by_cases q3 : x ≤ z ∧ z ≤ 9999
        · rw [if_pos q3] at c3
          rw [if_neg (fun q => h2 ⟨q1, q2, q3, q⟩)] at c4
          exact hb_X7_setCongestion_0_3 (c1 := c1) (h2 := by decide) (c3 := c2) (h4 := by decide) (c5 := c3) (h6 := by decide) (c7 := c4) (h8 := by decide)
        · rw [if_neg q3] at c3
          exact hb_X7_setCongestion_0_2 (c1 := c1) (h2 := by decide) (c3 := c2) (h4 := by decide) (c5 := c3) (h6 := by decide)
      · rw [if_neg q2] at c2
        exact hb_X7_setCongestion_0_1 (c1 := c1) (h2 := by decide) (c3 := c2) (h4 := by decide)
    · rw [if_neg q1] at c1
      exact hb_X7_setCongestion_0_0 (c1 := c1) (h2 := by decide)
theorem hx_assign (d : Nat) (hA : hn_AI a) (h : hn_MC I b a) (x y : Int) : ∃ I', hn_ret sx sL (d + 3) 122 [hn_vr 64, hn_vi x, hn_vi y] (hn_m I k g) (some (hn_vi (hr_under a.1 x y))) (hn_m I' k g) ∧ hn_MC I' b (hn_recM b a (hr_under a.1 x y) (hs_under a.1 x y)) ∧ hn_fx I' I := by
  have h8 := hn_n8 hA.1
  have c1 := hx_isNode (sx := sx) (sL := sL) (k := k) (g := g) d hA.1 h.1 x
  have c2 := hx_isNode (sx := sx) (sL := sL) (k := k) (g := g) d hA.1 h.1 y
  by_cases ha : hn_isN a.1 x
  · rw [if_pos ha] at c1
    by_cases hb : hn_isN a.1 y
    · rw [if_pos hb] at c2
      unfold hn_isN at ha hb
      obtain ⟨u, rfl⟩ : ∃ u : Nat, x = u := ⟨x.toNat, by omega⟩
      obtain ⟨v, rfl⟩ : ∃ v : Nat, y = v := ⟨y.toNat, by omega⟩
      have c3 := hx_isHub (sx := sx) (sL := sL) (k := k) (g := g) (d + 1) hA.1 h.1 (v := u) (by omega)
      have c4 := hx_isHub (sx := sx) (sL := sL) (k := k) (g := g) (d + 1) hA.1 h.1 (v := v) (by omega)
      by_cases e : hn_hub a.1 u = true
      · rw [if_pos e] at c3
        have er : hr_under a.1 u v = -4 := by rw [hr_under, if_pos ⟨ha, hb⟩, if_neg (fun q => by rw [Int.toNat_natCast, e] at q; exact absurd q.1 (by decide))]
        refine ⟨I, hn_of rfl ?_, hx_same h (by omega) (by rw [hs_under, if_pos (by omega)]), hn_fx.rf⟩
        rw [er]
        exact hb_X7_assign_0_4 (c1 := c1) (h2 := by decide) (c3 := c2) (h4 := by decide) (c5 := c3) (h6 := by decide)
      · rw [if_neg e] at c3
        by_cases e2 : hn_hub a.1 v = true
        · rw [if_pos e2] at c4
          have er : hr_under a.1 u v = a.1 (42 + u) := by rw [hr_under, if_pos ⟨ha, hb⟩, Int.toNat_natCast, Int.toNat_natCast, if_pos ⟨by simpa using e, e2⟩]
          have b42 := (hA.1.2.2.2.2.1 u (by omega)).2.2.2.2
          have es : hs_under a.1 u v = hn_w a.1 (42 + u) v := by rw [hs_under, if_neg (by omega), Int.toNat_natCast]
          obtain ⟨I5, c5, m5, f5⟩ := hx_records (sx := sx) (sL := sL) (k := k) (g := g) d hA.2.2.1 h
          rw [er, es]
          have r := hb_X7_assign_0_3 (sx := sx) (sL := sL) (c1 := c1) (h2 := by decide) (c3 := c2) (h4 := by decide) (c5 := c3) (h6 := by decide) (c7 := c4) (h8 := by decide) (c9 := c5) (h10 := by omega) (h11 := by omega)
          have e42 : I5 65 (42 + u) = a.1 (42 + u) := m5.1 _ (by omega)
          rw [e42] at r
          have m5' : hn_MC I5 b (a.1, (hn_rcd b a).2) := m5
          exact ⟨_, hn_of rfl r, hx_rec (by omega) (m5'.up (by omega)), f5.up⟩
        · rw [if_neg e2] at c4
          have er : hr_under a.1 u v = -4 := by rw [hr_under, if_pos ⟨ha, hb⟩, if_neg (fun q => by rw [Int.toNat_natCast, Int.toNat_natCast] at q; exact e2 q.2)]
          refine ⟨I, hn_of rfl ?_, hx_same h (by omega) (by rw [hs_under, if_pos (by omega)]), hn_fx.rf⟩
          rw [er]
          exact hb_X7_assign_0_2 (c1 := c1) (h2 := by decide) (c3 := c2) (h4 := by decide) (c5 := c3) (h6 := by decide) (c7 := c4) (h8 := by decide)
    · have er : hr_under a.1 x y = -2 := by rw [hr_under, if_neg (fun q => hb q.2)]
      refine ⟨I, hn_of rfl ?_, hx_same h (by omega) (by rw [hs_under, if_pos (by omega)]), hn_fx.rf⟩
      rw [er]
      rw [if_neg hb] at c2
      exact hi_X7_assign_0_1 (c1 := c1) (h2 := by decide) (c3 := c2) (h4 := by decide)
  · have er : hr_under a.1 x y = -2 := by rw [hr_under, if_neg (fun q => ha q.1)]
    refine ⟨I, hn_of rfl ?_, hx_same h (by omega) (by rw [hs_under, if_pos (by omega)]), hn_fx.rf⟩
    rw [er]
    rw [if_neg ha] at c1
    exact hi_X7_assign_0_0 (c1 := c1) (h2 := by decide)
/-- a hub's nodes lose it, one after another -/
def hn_ofi (s : hn_S) (v i : Nat) : hn_S := fun j => if j = 1 then ((hn_hm s ^^^ 2 ^ v : Nat) : Int) else if (42 ≤ j ∧ j < 42 + i) ∧ s j = v then -1 else s j
theorem hn_ofi_0 {s : hn_S} {v i : Nat} : hn_ofi s v i 0 = s 0 := by
  unfold hn_ofi
  rw [if_neg (by omega), if_neg (fun q => by omega)]
theorem hn_ofi_e {s : hn_S} {v i : Nat} : hn_ofi s v (i + 1) (42 + i) = if s (42 + i) = (v : Int) then -1 else s (42 + i) := by
  unfold hn_ofi
  rw [if_neg (show ¬ 42 + i = 1 by omega)]
  by_cases z : s (42 + i) = (v : Int)
  · rw [if_pos z, if_pos ⟨by omega, z⟩]
  · rw [if_neg z, if_neg (fun q => z q.2)]
theorem hx_setHub (d : Nat) (hA : hn_AI a) (h : hn_MC I b a) (x w : Int) : ∃ I', hn_ret sx sL (d + 3) 121 [hn_vr 64, hn_vi x, hn_vi w] (hn_m I k g) (some (hn_vi (hr_hub a.1 x))) (hn_m I' k g) ∧ hn_MC I' b (hn_recM b a (hr_hub a.1 x) (hs_hub a.1 x w)) ∧ hn_fx I' I := by
  have h8 := hn_n8 hA.1
  have c1 := hx_isNode (sx := sx) (sL := sL) (k := k) (g := g) d hA.1 h.1 x
  by_cases ha : hn_isN a.1 x
  · rw [if_pos ha] at c1
    have ha' := ha
    unfold hn_isN at ha'
    obtain ⟨u, rfl⟩ : ∃ u : Nat, x = u := ⟨x.toNat, by omega⟩
    have m256 := hn_m256 hA.1
    obtain ⟨I5, c5, m5, f5⟩ := hx_records (sx := sx) (sL := sL) (k := k) (g := g) d hA.2.2.1 h
    have m5' : hn_MC I5 b (a.1, (hn_rcd b a).2) := m5
    have c3 := hx_isHub (sx := sx) (sL := sL) (k := k) (g := g) (d + 1) hA.1 m5'.1 (v := u) (by omega)
    have em : I5 65 1 = (hn_hm a.1 : Int) := m5'.1.m hA.1
    have hn5 : I5 65 0 = (hn_n a.1 : Int) := m5'.1.n hA.1
    have er : hr_hub a.1 u = if hn_hub a.1 u = true then 1 else 0 := by rw [hr_hub, if_pos ha, Int.toNat_natCast]
    have on : hn_MC (hn_up (hn_up I5 65 1 ((hn_hm a.1 ||| 2 ^ u : Nat) : Int)) 65 (42 + u) (u : Int)) b (hn_on a.1 u, (hn_rcd b a).2) := (m5'.up (by omega)).up (by omega)
    by_cases ew : w = 0
    · by_cases e : hn_hub a.1 u = true
      · rw [if_pos e] at c3 er
        have es : hs_hub a.1 u w = hn_off a.1 u := by rw [hs_hub, if_pos ha, if_pos ew, Int.toNat_natCast, if_pos e]
        have sb := hn_subb _ m256 u (by omega) e
        have r0 := hb_X7_setHub_0_3 (sx := sx) (sL := sL) (c1 := c1) (h2 := by decide) (c3 := c5) (c4 := c3) (h5 := by decide) (h6 := ew) (h7 := by rw [em, sb]; have := Nat.xor_lt_two_pow (n := 8) m256 (Nat.pow_lt_pow_right (a := 2) (by omega) (show u < 8 by omega)); omega)
        rw [em, sb] at r0
        obtain ⟨y, q1, q2, q3⟩ := hn_forE (sx := sx) (sL := sL) (C := hn_ret sx sL (d + 2)) (fun i (J : Nat → Nat → Int) => hn_nx 121 78 [some (hn_vr 64), some (hn_vi (u : Int)), none, some (hn_vi 1), some (hn_vi (i : Int))] [] (hn_m J k g)) (fun i J => hn_MC J b (hn_ofi a.1 u i, (hn_rcd b a).2) ∧ hn_fx J I) (hn_n a.1) (fun i J hi hJ => by
          obtain ⟨j1, j2⟩ := hJ
          have e0 : J 65 0 = (hn_n a.1 : Int) := by
            rw [j1.1 0 (by omega)]
            show hn_ofi a.1 u i 0 = _
            rw [hn_ofi_0]
            exact hn_n0 hA.1
          have e42 : J 65 (42 + i) = a.1 (42 + i) := by
            rw [j1.1 _ (by omega)]
            show hn_ofi a.1 u i (42 + i) = _
            unfold hn_ofi
            rw [if_neg (by omega), if_neg (by omega)]
          have key : ∀ v : Int, v = (if a.1 (42 + i) = (u : Int) then -1 else a.1 (42 + i)) → hn_MC (hn_up J 65 (42 + i) v) b (hn_ofi a.1 u (i + 1), (hn_rcd b a).2) := fun v hv => by
            refine (j1.up (q := 42 + i) (v := v) (by omega)).ms (fun j hj => ?_)
            have q := (j1.up (q := 42 + i) (v := v) (by omega)).1 j hj
            rw [q]
            show hn_w (hn_ofi a.1 u i) (42 + i) v j = _
            by_cases ej : j = 42 + i
            · subst ej
              rw [hn_w_eq, hv]
              exact hn_ofi_e.symm
            · rw [hn_w_ne ej]
              show hn_ofi a.1 u i j = hn_ofi a.1 u (i + 1) j
              unfold hn_ofi
              by_cases z1 : j = 1
              · rw [if_pos z1, if_pos z1]
              · rw [if_neg z1, if_neg z1]
                by_cases z : (42 ≤ j ∧ j < 42 + i) ∧ a.1 j = (u : Int)
                · rw [if_pos z, if_pos ⟨by omega, z.2⟩]
                · rw [if_neg z, if_neg (fun q => z ⟨by omega, q.2⟩)]
          by_cases z : a.1 (42 + i) = (u : Int)
          · exact ⟨_, hb_X7_setHub_78_0 (h1 := by omega) (h2 := by omega) (h3 := by omega) (h4 := by omega) (h5 := by omega), key (-1) (by rw [if_pos z]), j2.up⟩
          · exact ⟨_, hb_X7_setHub_78_1 (h1 := by omega) (h2 := by omega) (h3 := by omega) (h4 := by omega) (h5 := by omega), key (J 65 (42 + i)) (by rw [if_neg z, e42]), j2.up⟩) (hn_up I5 65 1 ((hn_hm a.1 ^^^ 2 ^ u : Nat) : Int)) ⟨by
            refine (m5'.up (q := 1) (v := ((hn_hm a.1 ^^^ 2 ^ u : Nat) : Int)) (by omega)).ms (fun j hj => ?_)
            have q := (m5'.up (q := 1) (v := ((hn_hm a.1 ^^^ 2 ^ u : Nat) : Int)) (by omega)).1 j hj
            rw [q]
            show hn_w a.1 1 _ j = _
            unfold hn_ofi
            by_cases z1 : j = 1
            · rw [if_pos z1, z1, hn_w_eq]
            · rw [if_neg z1, hn_w_ne z1, if_neg (fun q => by omega)], f5.up⟩
        have e0 : y 65 0 = (hn_n a.1 : Int) := by
          rw [q2.1 0 (by omega)]
          show hn_ofi a.1 u (hn_n a.1) 0 = _
          rw [hn_ofi_0]
          exact hn_n0 hA.1
        rw [er, es]
        exact ⟨y, hn_of rfl (r0.tr (q1.tr (hb_X7_setHub_78_2 (h1 := by omega)))), hx_rec (by decide) q2, q3⟩
      · rw [if_neg e] at c3 er
        have es : hs_hub a.1 u w = a.1 := by rw [hs_hub, if_pos ha, if_pos ew, Int.toNat_natCast, if_neg e]
        rw [er, es]
        exact ⟨I5, hn_of rfl (hb_X7_setHub_0_1 (c1 := c1) (h2 := by decide) (c3 := c5) (c4 := c3) (h5 := by decide) (h6 := ew)), hx_rec (by decide) m5', f5⟩
    · have es : hs_hub a.1 u w = hn_on a.1 u := by rw [hs_hub, if_pos ha, if_neg ew, Int.toNat_natCast]
      have ob := hn_orb _ m256 u (by omega)
      rw [es]
      by_cases e : hn_hub a.1 u = true
      · rw [if_pos e] at c3 er
        rw [er]
        have r := hb_X7_setHub_0_4 (sx := sx) (sL := sL) (c1 := c1) (h2 := by decide) (c3 := c5) (c4 := c3) (h5 := by decide) (h6 := ew) (h7 := by omega) (h8 := by omega)
        rw [em, ob] at r
        exact ⟨_, hn_of rfl r, hx_rec (by decide) on, f5.up.up⟩
      · rw [if_neg e] at c3 er
        rw [er]
        have r := hb_X7_setHub_0_2 (sx := sx) (sL := sL) (c1 := c1) (h2 := by decide) (c3 := c5) (c4 := c3) (h5 := by decide) (h6 := ew) (h7 := by omega) (h8 := by omega)
        rw [em, ob] at r
        exact ⟨_, hn_of rfl r, hx_rec (by decide) on, f5.up.up⟩
  · have er : hr_hub a.1 x = -2 := by rw [hr_hub, if_neg ha]
    refine ⟨I, hn_of rfl ?_, hx_same h (by omega) (by rw [hs_hub, if_neg ha]), hn_fx.rf⟩
    rw [er]
    rw [if_neg ha] at c1
    exact hi_X7_setHub_0_0 (c1 := c1) (h2 := by decide)
end HX43
