/-! improve() -/
/-- where a step of improve() stands: a mask, and its find -/
def hq_st (s : hn_S) (w : Nat) (b : Int × Int × (Nat → Int)) : Prop := (w ≠ 0 ∧ w < 2 ^ hn_n s) ∧ b.1 = (hn_fnd s w).2.1 ∧ hq_G s (fun v => v = w) b
theorem hq_st0 {s : hn_S} (hI : hn_Iv s) {w : Nat} (h0 : w ≠ 0) (hw : w < 2 ^ hn_n s) : hq_st s w (hn_try s w hn_b0) := by
  refine ⟨⟨h0, hw⟩, ?_, (hq_G0 s _).try h0 hw rfl⟩
  unfold hn_try
  by_cases e : (hn_fnd s w).2.1 < 2147483647
  · rw [if_pos (show (hn_fnd s w).2.1 < hn_b0.1 from e)]
  · rw [if_neg (show ¬ (hn_fnd s w).2.1 < hn_b0.1 from e)]
    rcases hq_fnd_b hI w with f | f
    · rw [f]
      rfl
    · omega
abbrev hq_nb (s : hn_S) (w : Nat) (b : Int × Int × (Nat → Int)) : Int × Int × (Nat → Int) := hn_itr (hn_n s) (hn_nbrf s w) b
theorem hq_nb_le (s : hn_S) (w : Nat) (b : Int × Int × (Nat → Int)) : (hq_nb s w b).1 ≤ b.1 := by
  refine hq_itr_dn (fun x : Int × Int × (Nat → Int) => x.1) (f := hn_nbrf s w) (fun i x _ => ?_) b
  unfold hn_nbrf
  by_cases e : w ^^^ 2 ^ i = 0
  · rw [if_pos e]
    exact Int.le_refl _
  · rw [if_neg e]
    exact (hq_try_dn s _ x).1
/-- a step that finds something better stands at a mask again -/
theorem hq_nb_st {s : hn_S} (hI : hn_Iv s) {w : Nat} {b : Int × Int × (Nat → Int)} (h : hq_st s w b) (hl : (hq_nb s w b).1 < b.1) : ∃ v : Nat, (hq_nb s w b).2.1 = (v : Int) ∧ hq_st s v (hq_nb s w b) := by
  have hb := h.2.2.le
  have R : hq_nb s w b = b ∨ ∃ v : Nat, v ≠ 0 ∧ v < 2 ^ hn_n s ∧ (hn_fnd s v).2.1 < 2147483647 ∧ hq_nb s w b = ((hn_fnd s v).2.1, (v : Int), (hn_fnd s v).2.2) := by
    have q : (fun x : Int × Int × (Nat → Int) => x.1 ≤ 2147483647 ∧ (x = b ∨ ∃ v : Nat, v ≠ 0 ∧ v < 2 ^ hn_n s ∧ (hn_fnd s v).2.1 < 2147483647 ∧ x = ((hn_fnd s v).2.1, (v : Int), (hn_fnd s v).2.2))) (hq_nb s w b) := by
      refine hq_itr_inv (R := fun x : Int × Int × (Nat → Int) => x.1 ≤ 2147483647 ∧ (x = b ∨ ∃ v : Nat, v ≠ 0 ∧ v < 2 ^ hn_n s ∧ (hn_fnd s v).2.1 < 2147483647 ∧ x = ((hn_fnd s v).2.1, (v : Int), (hn_fnd s v).2.2))) (f := hn_nbrf s w) (fun i x hi r => ?_) ⟨hb, Or.inl rfl⟩
      unfold hn_nbrf
      by_cases e : w ^^^ 2 ^ i = 0
      · rw [if_pos e]
        exact r
      · rw [if_neg e]
        unfold hn_try
        by_cases e2 : (hn_fnd s (w ^^^ 2 ^ i)).2.1 < x.1
        · rw [if_pos e2]
          have := r.1
          exact ⟨by show (hn_fnd s (w ^^^ 2 ^ i)).2.1 ≤ _; omega, Or.inr ⟨w ^^^ 2 ^ i, e, hn_xlt h.1.2 hi, by omega, rfl⟩⟩
        · rw [if_neg e2]
          exact r
    exact q.2
  rcases R with R | ⟨v, h0, hv, hf, e⟩
  · rw [R] at hl
    omega
  · refine ⟨v, by rw [e], ⟨h0, hv⟩, by rw [e], Or.inr ⟨v, h0, hv, rfl, hf, e⟩⟩
theorem hq_imp_up (s : hn_S) (f w : Nat) (b : Int × Int × (Nat → Int)) : hn_imp s (f + 1) w b = if (hq_nb s w b).1 < b.1 then ((hn_imp s f (hq_nb s w b).2.1.toNat (hq_nb s w b)).1 + 1, (hn_imp s f (hq_nb s w b).2.1.toNat (hq_nb s w b)).2) else (0, b) := rfl
/-- what a run of steps is -/
def hq_IR (s : hn_S) (w : Nat) (b : Int × Int × (Nat → Int)) (r : Nat × (Int × Int × (Nat → Int))) : Prop :=
  ∃ v : Nat, hq_st s v r.2 ∧ ¬ (hq_nb s v r.2).1 < r.2.1 ∧ r.2.1 ≤ b.1 ∧ (r.1 = 0 → v = w ∧ r.2 = b) ∧ (0 < r.1 → r.2.1 < b.1)
theorem hq_imp {s : hn_S} (hI : hn_Iv s) (f : Nat) : ∀ (w : Nat) (b : Int × Int × (Nat → Int)), hq_st s w b → hn_low s b.1 + 1 ≤ (f : Int) → hq_IR s w b (hn_imp s f w b) := by
  induction f with
  | zero =>
    intro w b _ hf
    have h0 := (hn_low_b s b.1).1
    generalize hn_low s b.1 = l at hf h0
    omega
  | succ f ih =>
    intro w b h hf
    rw [hq_imp_up]
    by_cases e : (hq_nb s w b).1 < b.1
    · rw [if_pos e]
      obtain ⟨v, e1, h1⟩ := hq_nb_st hI h e
      have lw : hn_low s (hq_nb s w b).1 + 1 ≤ hn_low s b.1 := hn_low_lt (Int.le_of_lt e) h1.1.1 h1.1.2 (hn_w256 hI h1.1.2) (by rw [h1.2.1]; exact Int.le_refl _) (by rw [← h1.2.1]; exact e)
      have lf : hn_low s (hq_nb s w b).1 + 1 ≤ (f : Int) := by
        generalize hn_low s (hq_nb s w b).1 = l at lw ⊢
        generalize hn_low s b.1 = l2 at lw hf
        omega
      have hv : (hq_nb s w b).2.1.toNat = v := by rw [e1, Int.toNat_natCast]
      rw [hv]
      obtain ⟨u, g1, g2, g3, g4, g5⟩ := ih v (hq_nb s w b) h1 lf
      exact ⟨u, g1, g2, Int.le_trans g3 (Int.le_of_lt e), fun z => absurd z (Nat.succ_ne_zero _), fun _ => Int.lt_of_le_of_lt g3 e⟩
    · rw [if_neg e]
      exact ⟨w, h, e, Int.le_refl _, fun _ => ⟨rfl, rfl⟩, fun z => absurd z (Nat.lt_irrefl 0)⟩
theorem hq_improve {s : hn_S} (hI : hn_Iv s) (e : ¬ s 1 = 0) :
    hn_Iv (hs_improve s) ∧ hn_n (hs_improve s) = hn_n s ∧ 0 ≤ hr_improve s ∧ hr_improve (hs_improve s) = 0 ∧
    ((hr_least (hs_improve s) (hs_improve s 1) < 0 ∧ hr_improve s = 0) ∨ (0 ≤ hr_least (hs_improve s) (hs_improve s 1) ∧ hr_cost (hs_improve s) 0 = hr_least (hs_improve s) (hs_improve s 1) ∧ (0 ≤ hr_least s (s 1) → hr_least (hs_improve s) (hs_improve s 1) ≤ hr_least s (s 1)) ∧ (0 < hr_improve s → 0 ≤ hr_least s (s 1) → hr_least (hs_improve s) (hs_improve s 1) < hr_least s (s 1)) ∧ hr_best (hs_improve s) 0 ≤ hr_least (hs_improve s) (hs_improve s 1))) := by
  have hz : hn_hm s ≠ 0 := by
    have := hI.2.1.1
    omega
  have s1 : s 1 = (hn_hm s : Int) := hI.2.1.1
  have st0 := hq_st0 hI hz hI.2.1.2
  have lb := (hn_low_b s (hn_try s (hn_hm s) hn_b0).1).2
  have lb2 : hn_low s (hn_try s (hn_hm s) hn_b0).1 + 1 ≤ ((256 : Nat) : Int) := by
    generalize hn_low s (hn_try s (hn_hm s) hn_b0).1 = l at lb ⊢
    omega
  obtain ⟨v, g1, g2, g3, g4, g5⟩ := hq_imp hI 256 (hn_hm s) (hn_try s (hn_hm s) hn_b0) st0 lb2
  have er : hr_improve s = ((hn_imr s).1 : Int) := if_neg e
  have es : hs_improve s = hn_tk2 s (hn_imr s).2 := if_neg e
  have em : hn_imp s 256 (hn_hm s) (hn_try s (hn_hm s) hn_b0) = hn_imr s := rfl
  rw [em] at g1 g2 g3 g4 g5
  have had := hq_least hI hz hI.2.1.2
  rw [← s1] at had
  have nn : 0 ≤ hr_improve s := by
    rw [er]
    omega
  rcases hq_tk2 hI g1.2.2 with ⟨a1, a2, a3, a4⟩ | ⟨w, q, b0, b1, b2, b3, b4, b4', b5, b6, b7, b8, b9, c1, c2, c3, c4, c5, c6⟩
  · have ez : (hn_imr s).1 = 0 := by
      refine Classical.byContradiction fun no => ?_
      have := g5 (by omega)
      have := st0.2.2.le
      omega
    have ef := (g4 ez).2
    have hs : hs_improve s = s := by rw [es, a4]
    have h0 : hr_improve s = 0 := by rw [er, ez]; rfl
    have fb : (hn_fnd s (hn_hm s)).2.1 = 2147483647 := by rw [← st0.2.1, ← ef, a1]
    rw [hs]
    exact ⟨hI, rfl, nn, h0, Or.inl ⟨by rw [had, fb, if_neg (by decide)]; decide, h0⟩⟩
  · have hwv : w = v := b2
    subst hwv
    rw [← es] at c1 c2 c3 c4 c5 c6
    have now : hr_least (hs_improve s) (hs_improve s 1) = (hn_fnd s w).2.1 := by
      rw [c3, hq_lk_least c2, hq_least hI b0 b1, if_pos b6]
    have f0 : (hn_imr s).2.1 = (hn_fnd s w).2.1 := g1.2.1
    have z0 : ¬ hs_improve s 1 = 0 := by
      rw [c3]
      omega
    have ty : hn_try (hs_improve s) (hn_hm (hs_improve s)) hn_b0 = (hn_imr s).2 := by
      rw [c4, hq_lk_try c2, b3]
      exact if_pos b6
    have again : hr_improve (hs_improve s) = 0 := by
      have e1 : hr_improve (hs_improve s) = ((hn_imr (hs_improve s)).1 : Int) := if_neg z0
      have e2 : hn_imr (hs_improve s) = (0, (hn_imr s).2) := by
        show hn_imp (hs_improve s) 256 (hn_hm (hs_improve s)) (hn_try (hs_improve s) (hn_hm (hs_improve s)) hn_b0) = _
        rw [ty, c4]
        refine (hq_imp_up _ 255 _ _).trans (if_neg ?_)
        unfold hq_nb
        rw [c2.n, hq_lk_nbr c2]
        exact g2
      rw [e1, e2]
      rfl
    refine ⟨c1, c2.n, nn, again, Or.inr ?_⟩
    rw [now]
    refine ⟨b5, c5, fun h => ?_, fun h1 h2 => ?_, ?_⟩
    · have t0 := st0.2.1
      rw [had] at h ⊢
      by_cases x : (hn_fnd s (hn_hm s)).2.1 < 2147483647
      · rw [if_pos x]
        omega
      · rw [if_neg x] at h
        omega
    · have t0 := st0.2.1
      have g6 := g5 (by rw [er] at h1; omega)
      rw [had] at h2 ⊢
      by_cases x : (hn_fnd s (hn_hm s)).2.1 < 2147483647
      · rw [if_pos x]
        omega
      · rw [if_neg x] at h2
        omega
    · rw [hq_lk_best c2]
      have l := hq_bst_le (s := s) 0 b0 b1 (Or.inl rfl)
      have e0 : hr_best s 0 = hn_lst (hn_bst s 0) := if_pos (by decide)
      rw [e0]
      rcases hq_tk2 hI (hq_bst_G s 0) with ⟨-, -, a3, -⟩ | ⟨v, -, -, -, -, d3, d4, -⟩
      · rw [a3]
        omega
      · rw [d4]
        rw [d3] at l
        exact l
