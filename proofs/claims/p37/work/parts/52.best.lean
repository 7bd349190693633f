/-! best plans, and the states that they make -/
theorem hq_try_dn (s : hn_S) (w : Nat) (b : Int × Int × (Nat → Int)) : (hn_try s w b).1 ≤ b.1 ∧ (hn_try s w b).1 ≤ (hn_fnd s w).2.1 := by
  unfold hn_try
  by_cases e : (hn_fnd s w).2.1 < b.1
  · rw [if_pos e]
    exact ⟨by show (hn_fnd s w).2.1 ≤ b.1; omega, Int.le_refl _⟩
  · rw [if_neg e]
    exact ⟨Int.le_refl _, by omega⟩
theorem hq_bst_le {s : hn_S} (c : Int) {w : Nat} (h0 : w ≠ 0) (hw : w < 2 ^ hn_n s) (hc : c = 0 ∨ hn_bits w = c) : (hn_bst s c).1 ≤ (hn_fnd s w).2.1 := by
  unfold hn_bst
  refine hq_itr_le (fun x : Int × Int × (Nat → Int) => x.1) (f := hn_allf s c) (k := w - 1) (fun i x _ => ?_) (by omega) (fun x => ?_) _
  · unfold hn_allf
    by_cases e : c = 0 ∨ hn_bits (i + 1) = c
    · rw [if_pos e]
      exact (hq_try_dn s (i + 1) x).1
    · rw [if_neg e]
      exact Int.le_refl _
  · unfold hn_allf
    rw [show w - 1 + 1 = w by omega, if_pos hc]
    exact (hq_try_dn s w x).2
/-- a best so far: none, or a mask's find -/
def hq_G (s : hn_S) (P : Nat → Prop) (b : Int × Int × (Nat → Int)) : Prop := (b.1 = 2147483647 ∧ b.2.1 = 0) ∨ ∃ w : Nat, w ≠ 0 ∧ w < 2 ^ hn_n s ∧ P w ∧ (hn_fnd s w).2.1 < 2147483647 ∧ b = ((hn_fnd s w).2.1, (w : Int), (hn_fnd s w).2.2)
theorem hq_G.le {s : hn_S} {P : Nat → Prop} {b : Int × Int × (Nat → Int)} (h : hq_G s P b) : b.1 ≤ 2147483647 := by
  rcases h with h | ⟨w, -, -, -, h, e⟩
  · omega
  · rw [e]
    show (hn_fnd s w).2.1 ≤ _
    omega
theorem hq_G.try {s : hn_S} {P : Nat → Prop} {b : Int × Int × (Nat → Int)} (h : hq_G s P b) {w : Nat} (h0 : w ≠ 0) (hw : w < 2 ^ hn_n s) (hp : P w) : hq_G s P (hn_try s w b) := by
  have := h.le
  unfold hn_try
  by_cases e : (hn_fnd s w).2.1 < b.1
  · rw [if_pos e]
    exact Or.inr ⟨w, h0, hw, hp, by omega, rfl⟩
  · rw [if_neg e]
    exact h
theorem hq_G0 (s : hn_S) (P : Nat → Prop) : hq_G s P hn_b0 := Or.inl ⟨rfl, rfl⟩
theorem hq_bst_G (s : hn_S) (c : Int) : hq_G s (fun w => c = 0 ∨ hn_bits w = c) (hn_bst s c) := by
  unfold hn_bst
  refine hq_itr_inv (hq_G s (fun w => c = 0 ∨ hn_bits w = c)) (fun i x hi r => ?_) (hq_G0 s _)
  unfold hn_allf
  by_cases e : c = 0 ∨ hn_bits (i + 1) = c
  · rw [if_pos e]
    exact r.try (by omega) (by omega) e
  · rw [if_neg e]
    exact r
/-- the state with a plan as its present plan -/
theorem hq_take {s : hn_S} (hI : hn_Iv s) {w : Nat} (h0 : w ≠ 0) {q : Nat → Nat} (hV : hn_Pl (hn_hl w (hn_n s)) (hn_fr w (hn_n s)) q (hn_fr w (hn_n s)).length) :
    hn_lk (hn_take s (w : Int) (hn_P q)) s ∧ hn_take s (w : Int) (hn_P q) 1 = w ∧ hn_hm (hn_take s (w : Int) (hn_P q)) = w ∧ hn_cmp (hn_take s (w : Int) (hn_P q)) ∧ hr_cost (hn_take s (w : Int) (hn_P q)) 0 = hn_cost s w (hn_P q) ∧ (hn_fits s (hn_P q) w → hr_check (hn_take s (w : Int) (hn_P q)) = 0) := by
  have h8 := hn_n8 hI
  have tk : ∀ j, j ≠ 1 → ¬ (42 ≤ j ∧ j < 42 + hn_n s) → hn_take s (w : Int) (hn_P q) j = s j := fun j h1 h2 => by
    unfold hn_take
    rw [if_neg h1, if_neg h2]
  have th : ∀ v, v < hn_n s → hn_ho (hn_take s (w : Int) (hn_P q)) v = hn_P q v := fun v hv => by
    show hn_take s (w : Int) (hn_P q) (42 + v) = _
    unfold hn_take
    rw [if_neg (by omega), if_pos (by omega), show 42 + v - 42 = v by omega]
  have lk : hn_lk (hn_take s (w : Int) (hn_P q)) s := ⟨h8, fun j h1 h2 => tk j h2 (by omega)⟩
  have e1 : hn_take s (w : Int) (hn_P q) 1 = w := rfl
  have em : hn_hm (hn_take s (w : Int) (hn_P q)) = w := by
    unfold hn_hm
    rw [e1, Int.toNat_natCast]
  have cm : hn_cmp (hn_take s (w : Int) (hn_P q)) := ⟨by rw [e1]; omega, fun v hv => by
    rw [lk.n] at hv
    rw [show hn_take s (w : Int) (hn_P q) (42 + v) = hn_P q v from th v hv]
    unfold hn_P
    omega⟩
  refine ⟨lk, e1, em, cm, ?_, fun hf => ?_⟩
  · unfold hr_cost
    rw [if_pos (by decide), if_pos cm, if_neg (by decide), if_neg (by decide), if_neg (by decide), if_neg (by decide), if_neg (by decide), em, lk.cost]
    exact hq_cost_cg th w
  · unfold hr_check
    rw [if_pos cm, em, if_pos (fun v hv hb => by
      rw [lk.n] at hv
      rw [lk.ld, hq_ld_cg th, tk _ (by omega) (by omega)]
      exact hf v hv hb)]
theorem hq_lst_0 {b : Int × Int × (Nat → Int)} (h : b.2.1 = 0) : hn_lst b = -1 := if_pos h
theorem hq_lst_w {c : Int} {w : Nat} {P : Nat → Int} (h : w ≠ 0) : hn_lst (c, (w : Int), P) = c := if_neg (by show ¬ (w : Int) = 0; omega)
/-- a best plan that is told: a plan's, and the state that it makes -/
theorem hq_tk2 {s : hn_S} (hI : hn_Iv s) {P : Nat → Prop} {b : Int × Int × (Nat → Int)} (h : hq_G s P b) :
    (b.1 = 2147483647 ∧ b.2.1 = 0 ∧ hn_lst b = -1 ∧ hn_tk2 s b = s) ∨ ∃ (w : Nat) (q : Nat → Nat), w ≠ 0 ∧ w < 2 ^ hn_n s ∧ P w ∧ b = ((hn_fnd s w).2.1, (w : Int), (hn_fnd s w).2.2) ∧ hn_lst b = (hn_fnd s w).2.1 ∧ b.2.1 = w ∧ 0 ≤ (hn_fnd s w).2.1 ∧ (hn_fnd s w).2.1 < 2147483647 ∧ hq_V s w q ∧ hn_fits s (hn_P q) w ∧ (hn_fnd s w).2.1 = hn_cost s w (hn_P q) ∧
      hn_Iv (hn_tk2 s b) ∧ hn_lk (hn_tk2 s b) s ∧ hn_tk2 s b 1 = w ∧ hn_hm (hn_tk2 s b) = w ∧ hr_cost (hn_tk2 s b) 0 = (hn_fnd s w).2.1 ∧ hr_check (hn_tk2 s b) = 0 := by
  rcases h with ⟨h1, h2⟩ | ⟨w, h0, hw, hp, hl, e⟩
  · exact Or.inl ⟨h1, h2, hq_lst_0 h2, if_pos h2⟩
  · right
    rcases hq_fnd_b hI w with f | ⟨f1, f2, q, hV, f3, f4, f5⟩
    · omega
    have nz : ¬ (w : Int) = 0 := by omega
    have et : hn_tk2 s b = hn_take s (w : Int) (hn_P q) := by
      rw [e, ← f3]
      exact if_neg nz
    obtain ⟨t1, t2, t3, t4, t5, t6⟩ := hq_take hI h0 hV
    refine ⟨w, q, h0, hw, hp, e, by rw [e]; exact hq_lst_w h0, by rw [e], f1, hl, hq_V_Pl hV, f5, f4, ?_⟩
    rw [et]
    exact ⟨hn_take_Iv hI hw hV, t1, t2, t3, by rw [t5, f4], t6 f5⟩
theorem hq_isM {s : hn_S} {w : Nat} (h0 : w ≠ 0) (hw : w < 2 ^ hn_n s) : hn_isM s (w : Int) := by
  have := Nat.one_le_two_pow (n := hn_n s)
  constructor
  · omega
  · omega
theorem hq_least {s : hn_S} (hI : hn_Iv s) {w : Nat} (h0 : w ≠ 0) (hw : w < 2 ^ hn_n s) : hr_least s (w : Int) = if (hn_fnd s w).2.1 < 2147483647 then (hn_fnd s w).2.1 else -1 := by
  unfold hr_least
  rw [if_pos (hq_isM h0 hw), Int.toNat_natCast]
  unfold hn_try
  by_cases e : (hn_fnd s w).2.1 < 2147483647
  · rw [if_pos (show (hn_fnd s w).2.1 < hn_b0.1 from e), if_pos e, hq_lst_w h0]
  · rw [if_neg (show ¬ (hn_fnd s w).2.1 < hn_b0.1 from e), if_neg e]
    rfl
/-- settle() -/
theorem hq_settle {s : hn_S} (hI : hn_Iv s) (e : ¬ s 1 = 0) :
    hr_settle s = hr_least (hs_settle s) (s 1) ∧ hn_Iv (hs_settle s) ∧ hn_n (hs_settle s) = hn_n s ∧ ((hr_settle s < 0 ∧ hs_settle s = s) ∨ (0 ≤ hr_settle s ∧ hr_cost (hs_settle s) 0 = hr_settle s ∧ hr_check (hs_settle s) = 0 ∧ hs_settle s 1 = s 1)) := by
  have hz : hn_hm s ≠ 0 := by
    have := hI.2.1.1
    omega
  have hG : hq_G s (fun w => w = hn_hm s) (hn_try s (hn_hm s) hn_b0) := (hq_G0 s _).try hz hI.2.1.2 rfl
  have er : hr_settle s = hn_lst (hn_try s (hn_hm s) hn_b0) := if_neg e
  have es : hs_settle s = hn_tk2 s (hn_try s (hn_hm s) hn_b0) := if_neg e
  have el : hr_least s (s 1) = hn_lst (hn_try s (hn_hm s) hn_b0) := by
    unfold hr_least
    rw [if_pos (by rw [hI.2.1.1]; exact hq_isM hz hI.2.1.2)]
    rfl
  rcases hq_tk2 hI hG with ⟨-, -, a3, a4⟩ | ⟨w, q, b0, b1, b2, -, b4, -, b5, b6, -, -, -, c1, c2, c3, c4, c5, c6⟩
  · rw [es, er, a4, a3]
    exact ⟨by rw [el, a3], hI, rfl, Or.inl ⟨by decide, rfl⟩⟩
  · rw [es, er, hq_lk_least c2, el]
    refine ⟨rfl, c1, c2.n, Or.inr ⟨by rw [b4]; exact b5, by rw [c5, b4], c6, ?_⟩⟩
    rw [c3, b2]
    exact hI.2.1.1.symm
/-- adopt(), for a number of hubs -/
theorem hq_adopt {s : hn_S} (hI : hn_Iv s) {c : Int} (hc : 0 ≤ c ∧ c ≤ (hn_n s : Int)) :
    hn_Iv (hs_adopt s c) ∧ hn_n (hs_adopt s c) = hn_n s ∧ ((hr_best s c < 0 ∧ hr_adopt s c < 0) ∨ (0 ≤ hr_best s c ∧ ∃ w : Nat, w < 256 ∧ hr_adopt s c = w ∧ hs_adopt s c 1 = w ∧ hr_cost (hs_adopt s c) 0 = hr_best s c ∧ (0 < c → hn_bits w = c) ∧ hr_check (hs_adopt s c) = 0 ∧ hr_bound (hs_adopt s c) c ≤ hr_best s c ∧ hr_best (hs_adopt s c) 0 ≤ hr_best s c)) := by
  have h8 := hn_n8 hI
  have c8 : 0 ≤ c ∧ c ≤ 8 := by omega
  have er : hr_best s c = hn_lst (hn_bst s c) := if_pos c8
  have ea : hr_adopt s c = if (hn_bst s c).2.1 = 0 then -1 else (hn_bst s c).2.1 := if_pos c8
  have es : hs_adopt s c = hn_tk2 s (hn_bst s c) := if_pos c8
  rcases hq_tk2 hI (hq_bst_G s c) with ⟨a1, a2, a3, a4⟩ | ⟨w, q, b0, b1, b2, b3, b4, b4', b5, b6, b7, b8, b9, c1, c2, c3, c4, c5, c6⟩
  · rw [es, a4, er, a3, ea, if_pos a2]
    exact ⟨hI, rfl, Or.inl ⟨by decide, by decide⟩⟩
  · have w8 : w < 256 := hn_w256 hI b1
    rw [es, er, ea, b4', if_neg (by omega), b4]
    refine ⟨c1, c2.n, Or.inr ⟨b5, w, w8, rfl, c3, c5, fun hc0 => by rcases b2 with b2 | b2 <;> omega, c6, ?_, ?_⟩⟩
    · rw [hq_lk_bound c2, b9]
      exact hq_bound_le hI b0 b1 b7 b2 hc.1
    · rw [hq_lk_best c2]
      have l := hq_bst_le (s := s) 0 b0 b1 (Or.inl rfl)
      have e0 : hr_best s 0 = hn_lst (hn_bst s 0) := if_pos (by decide)
      rw [e0]
      rcases hq_tk2 hI (hq_bst_G s 0) with ⟨-, -, a3, -⟩ | ⟨v, -, -, -, -, d3, d4, -⟩
      · rw [a3]
        omega
      · rw [d4]
        rw [d3] at l
        exact l
