/-! the smallest openings; the class's bounds -/
def hn_mo1 (s : hn_S) (t v : Nat) (x : Int × Int) : Int × Int := if t.testBit v = false ∧ s (26 + v) < x.1 then (s (26 + v), (v : Int)) else x
def hn_mo (s : hn_S) (t : Nat) : Int × Int := hn_itr (hn_n s) (hn_mo1 s t) (2000000000, 0)
def hn_so1 (s : hn_S) (_ : Nat) (x : Nat × Int) : Nat × Int := (x.1 ||| 2 ^ (hn_mo s x.1).2.toNat, x.2 + (hn_mo s x.1).1)
def hn_so (s : hn_S) (m : Nat) : Nat × Int := hn_itr m (hn_so1 s) (0, 0)
theorem hn_mo_gd {s : hn_S} (hI : hn_Iv s) (t n : Nat) (hn : n ≤ hn_n s) : (hn_itr n (hn_mo1 s t) (2000000000, 0) = (2000000000, 0) ∧ ∀ v, v < n → t.testBit v = true) ∨ ∃ v : Nat, v < n ∧ t.testBit v = false ∧ hn_itr n (hn_mo1 s t) (2000000000, 0) = (s (26 + v), (v : Int)) := by
  have h8 := hn_n8 hI
  induction n with
  | zero => exact Or.inl ⟨rfl, fun v hv => absurd hv (by omega)⟩
  | succ n ih =>
    have b := (hI.2.2.2.2.1 n (by omega)).2.2.1
    rw [hn_itr_up]
    rcases ih (by omega) with ⟨e, h⟩ | ⟨v, hv, h, e⟩
    · rw [e]
      by_cases q : t.testBit n = true
      · refine Or.inl ⟨if_neg (fun x => ?_), fun v hv => ?_⟩
        · rw [q] at x
          exact absurd x.1 (by decide)
        · by_cases y : v = n
          · rw [y]
            exact q
          · exact h v (by omega)
      · have q' : t.testBit n = false := by simpa using q
        exact Or.inr ⟨n, by omega, q', if_pos ⟨q', by show s (26 + n) < 2000000000; omega⟩⟩
    · rw [e]
      by_cases q : t.testBit n = false ∧ s (26 + n) < s (26 + v)
      · exact Or.inr ⟨n, by omega, q.1, if_pos q⟩
      · exact Or.inr ⟨v, by omega, h, if_neg q⟩
theorem hn_bits_or : ∀ t : Nat, t < 256 → ∀ v : Nat, v < 8 → t.testBit v = false → hn_bits (t ||| 2 ^ v) = hn_bits t + 1 ∧ t ||| 2 ^ v < 256 := by decide +kernel
theorem hn_bits_all : ∀ t : Nat, t < 256 → ∀ n : Nat, n ≤ 8 → (∀ v, v < n → t.testBit v = true) → (n : Int) ≤ hn_bits t := by decide +kernel
/-- so many are taken, and the next is found -/
theorem hn_so_b {s : hn_S} (hI : hn_Iv s) (m : Nat) (hm : m ≤ hn_n s) : (hn_so s m).1 < 256 ∧ hn_bits (hn_so s m).1 = m ∧ 0 ≤ (hn_so s m).2 ∧ (hn_so s m).2 ≤ 100000 * m := by
  have h8 := hn_n8 hI
  induction m with
  | zero =>
    have e0 : hn_bits 0 = 0 := by decide +kernel
    exact ⟨(by decide : (0 : Nat) < 256), e0, Int.le_refl 0, Int.le_refl 0⟩
  | succ m ih =>
    obtain ⟨h1, h2, h3, h4⟩ := ih (by omega)
    have e : hn_so s (m + 1) = hn_so1 s m (hn_so s m) := rfl
    rw [e]
    rcases hn_mo_gd hI (hn_so s m).1 (hn_n s) (Nat.le_refl _) with ⟨-, h⟩ | ⟨v, hv, h, e2⟩
    · have := hn_bits_all _ h1 (hn_n s) h8 h
      omega
    · have q := hn_bits_or _ h1 v (by omega) h
      have b := (hI.2.2.2.2.1 v (by omega)).2.2.1
      have e3 : hn_mo s (hn_so s m).1 = (s (26 + v), (v : Int)) := e2
      unfold hn_so1
      rw [e3]
      show ((hn_so s m).1 ||| 2 ^ (v : Int).toNat) < 256 ∧ hn_bits ((hn_so s m).1 ||| 2 ^ (v : Int).toNat) = ((m + 1 : Nat) : Int) ∧ 0 ≤ (hn_so s m).2 + s (26 + v) ∧ (hn_so s m).2 + s (26 + v) ≤ _
      rw [Int.toNat_natCast]
      exact ⟨q.2, by rw [q.1, h2]; rfl, by omega, by omega⟩
theorem hn_so_nx {s : hn_S} (hI : hn_Iv s) (m : Nat) (hm : m < hn_n s) : ∃ v : Nat, v < hn_n s ∧ (hn_so s m).1.testBit v = false ∧ hn_mo s (hn_so s m).1 = (s (26 + v), (v : Int)) := by
  have h8 := hn_n8 hI
  have q := hn_so_b hI m (by omega)
  rcases hn_mo_gd hI (hn_so s m).1 (hn_n s) (Nat.le_refl _) with ⟨-, h⟩ | h
  · have := hn_bits_all _ q.1 (hn_n s) h8 h
    omega
  · exact h
def hn_soN (s : hn_S) (c : Int) : Nat := if c = 0 then min 1 (hn_n s) else c.toNat
def hr_bound (s : hn_S) (c : Int) : Int := if 0 ≤ c ∧ c ≤ (hn_n s : Int) then hn_fc s (2 ^ hn_n s - 1) + (hn_so s (hn_soN s c)).2 else -3
def hr_hubB (s : hn_S) : Int := if s 1 = 0 then -4 else hn_fc s (hn_hm s) + hn_op s (hn_hm s)
def hn_ch (t : Int × Int × Int) (w : Int) : Int := if w = 0 then t.1 else if w = 1 then t.2.1 else t.2.2
def hr_cheap (s : hn_S) (x y w : Int) : Int := if hn_isN s x ∧ hn_isN s y then (if 0 ≤ w ∧ w ≤ 2 then (if s 1 = 0 then -4 else hn_ch (hn_fp s (hn_hm s) x.toNat y.toNat (2147483647, 0, 0)) w) else -3) else -2
theorem hn_fc_b {s : hn_S} (hI : hn_Iv s) {w : Nat} (hw2 : 0 < hn_n s → ∃ k, k < hn_n s ∧ w.testBit k = true) : 0 ≤ hn_fc s w ∧ hn_fc s w ≤ 887040000 := by
  have h8 := hn_n8 hI
  have b1 : 0 ≤ hn_sm (hn_n s) (fun a => hn_sm (hn_n s) (hn_fc1 s w a)) ∧ hn_sm (hn_n s) (fun a => hn_sm (hn_n s) (hn_fc1 s w a)) ≤ 110880000 * hn_n s := hn_sm_b 110880000 (fun a ha => by
    have : 0 ≤ hn_sm (hn_n s) (hn_fc1 s w a) ∧ hn_sm (hn_n s) (hn_fc1 s w a) ≤ 13860000 * hn_n s := hn_sm_b 13860000 (fun b hb => hn_fc1_b hI (a := a) (b := b) (by omega) hb hw2)
    omega)
  unfold hn_fc
  omega
/-- the pair found doesn't hang on what stood there -/
theorem hn_fp_RB {s : hn_S} (hI : hn_Iv s) {w a b : Nat} (ha : a < 8) (hb : b < 8) {t u : Int × Int × Int} (h : (2000000000 ≤ t.1 ∧ 2000000000 ≤ u.1) ∨ t = u) : (2000000000 ≤ (hn_fp s w a b t).1 ∧ 2000000000 ≤ (hn_fp s w a b u).1) ∨ hn_fp s w a b t = hn_fp s w a b u := by
  have h8 := hn_n8 hI
  refine hn_itr_rel (R := fun (t u : Int × Int × Int) => (2000000000 ≤ t.1 ∧ 2000000000 ≤ u.1) ∨ t = u) (fun k t u hk r => hn_itr_rel (R := fun (t u : Int × Int × Int) => (2000000000 ≤ t.1 ∧ 2000000000 ≤ u.1) ∨ t = u) (fun m t u hm r => ?_) r) h
  have bu := hn_uc_b hI ha hb (k := k) (m := m) (by omega) (by omega)
  rcases r with ⟨r1, r2⟩ | r
  · unfold hn_fp1
    by_cases e : w.testBit k = true ∧ w.testBit m = true
    · rw [if_pos ⟨e, by unfold hn_uc; omega⟩, if_pos ⟨e, by unfold hn_uc; omega⟩]
      exact Or.inr rfl
    · rw [if_neg (fun q => e q.1), if_neg (fun q => e q.1)]
      exact Or.inl ⟨r1, r2⟩
  · rw [r]
    exact Or.inr rfl
theorem hn_fp_eq {s : hn_S} (hI : hn_Iv s) {w a b : Nat} (ha : a < 8) (hb : b < 8) (hw : ∃ k, k < hn_n s ∧ w.testBit k = true) {t u : Int × Int × Int} (h1 : 2000000000 ≤ t.1) (h2 : 2000000000 ≤ u.1) : hn_fp s w a b t = hn_fp s w a b u := by
  rcases hn_fp_RB hI (w := w) ha hb (Or.inl ⟨h1, h2⟩) with ⟨q, -⟩ | q
  · rw [hn_fp_1] at q
    have := hn_ub_b hI ha hb hw (t := t.1) (by omega)
    omega
  · exact q
theorem hn_tb {n k : Nat} (h : k < n) : (2 ^ n - 1).testBit k = true := by
  rw [Nat.testBit_two_pow_sub_one]
  exact decide_eq_true h
theorem hn_w_ex {s : hn_S} (hI : hn_Iv s) (h : ¬ s 1 = 0) : ∃ k, k < hn_n s ∧ (hn_hm s).testBit k = true := by
  have e := hI.2.1
  have p := hn_hl_pos (w := hn_hm s) (n := hn_n s) (fun q => by rw [q] at e; exact h e.1) e.2
  have m := hn_getD_mem p
  exact ⟨_, (hn_hl_mem.mp m).1, (hn_hl_mem.mp m).2⟩
section HX40
variable {sx : Nat → Int} {sL : Nat} {I : Nat → Nat → Int} {k : Nat → Option Nat} {g : Nat → Nat → Int64} {a : hn_AA} {s : hn_S}
theorem hm_smallest (d : Nat) (hI : hn_Iv s) (h : hn_HS I 1 s) {c : Nat} : hn_ret sx sL (d + 2) 3 [hn_vr 59, hn_vi c] (hn_m I k g) (some (hn_vi (hn_so s (min c (hn_n s))).2)) (hn_m I k g) := by
  have hn := h.n hI
  have h8 := hn_n8 hI
  refine hn_of rfl (hb_X0_smallestOpenings_0_0.tr ((hn_for (fun i => hn_nx 3 7 [some (hn_vr 59), some (hn_vi (c : Int)), some (hn_vi ((hn_so s i).1 : Int)), some (hn_vi (hn_so s i).2), some (hn_vi (i : Int)), none, none, none] [] (hn_m I k g)) (min c (hn_n s)) (fun i hi => ?_)).tr ?_))
  · have sb := hn_so_b hI i (by omega)
    obtain ⟨v, hv, hv2, hv3⟩ := hn_so_nx hI i (by omega)
    have r0 := hb_X0_smallestOpenings_7_0 (sx := sx) (sL := sL) (C := hn_ret sx sL (d + 1)) (I := I) (k := k) (g := g) (x1 := (c : Int)) (x2 := ((hn_so s i).1 : Int)) (x3 := (hn_so s i).2) (x4 := (i : Int)) (h1 := by omega) (h2 := by rw [hn]; omega)
    have r1 := hn_for (sx := sx) (sL := sL) (C := hn_ret sx sL (d + 1)) (fun j => hn_nx 3 35 [some (hn_vr 59), some (hn_vi (c : Int)), some (hn_vi ((hn_so s i).1 : Int)), some (hn_vi (hn_so s i).2), some (hn_vi (i : Int)), some (hn_vi (hn_itr j (hn_mo1 s (hn_so s i).1) (2000000000, 0)).1), some (hn_vi (hn_itr j (hn_mo1 s (hn_so s i).1) (2000000000, 0)).2), some (hn_vi (j : Int))] [] (hn_m I k g)) (hn_n s) (fun j hj => by
      have c2 := hm_contains (sx := sx) (sL := sL) (I := I) (k := k) (g := g) d sb.1 (v := j) (by omega)
      have e4 : I 4 j = s (26 + j) := h.2.2.2.2.2.1 j (by omega)
      show hn_go sx sL _ _ (hn_nx 3 35 [some (hn_vr 59), some (hn_vi (c : Int)), some (hn_vi ((hn_so s i).1 : Int)), some (hn_vi (hn_so s i).2), some (hn_vi (i : Int)), some (hn_vi (hn_itr (j + 1) (hn_mo1 s (hn_so s i).1) (2000000000, 0)).1), some (hn_vi (hn_itr (j + 1) (hn_mo1 s (hn_so s i).1) (2000000000, 0)).2), some (hn_vi ((j + 1 : Nat) : Int))] [] (hn_m I k g))
      rw [hn_itr_up]
      by_cases q : (hn_so s i).1.testBit j = true
      · rw [if_pos q] at c2
        have ef : hn_mo1 s (hn_so s i).1 j (hn_itr j (hn_mo1 s (hn_so s i).1) (2000000000, 0)) = hn_itr j (hn_mo1 s (hn_so s i).1) (2000000000, 0) := if_neg (fun x => by rw [q] at x; exact absurd x.1 (by decide))
        rw [ef]
        exact hb_X0_smallestOpenings_35_2 (h1 := by omega) (c2 := c2) (h3 := by decide)
      · rw [if_neg q] at c2
        have q' : (hn_so s i).1.testBit j = false := by simpa using q
        by_cases q2 : s (26 + j) < (hn_itr j (hn_mo1 s (hn_so s i).1) (2000000000, 0)).1
        · have ef : hn_mo1 s (hn_so s i).1 j (hn_itr j (hn_mo1 s (hn_so s i).1) (2000000000, 0)) = (s (26 + j), (j : Int)) := if_pos ⟨q', q2⟩
          rw [ef]
          have r := hb_X0_smallestOpenings_35_0 (sx := sx) (sL := sL) (x1 := (c : Int)) (x3 := (hn_so s i).2) (x4 := (i : Int)) (x5 := (hn_itr j (hn_mo1 s (hn_so s i).1) (2000000000, 0)).1) (x6 := (hn_itr j (hn_mo1 s (hn_so s i).1) (2000000000, 0)).2) (h1 := by omega) (c2 := c2) (h3 := by decide) (h4 := by omega) (h5 := by rw [e4]; exact q2)
          rw [e4] at r
          exact r
        · have ef : hn_mo1 s (hn_so s i).1 j (hn_itr j (hn_mo1 s (hn_so s i).1) (2000000000, 0)) = hn_itr j (hn_mo1 s (hn_so s i).1) (2000000000, 0) := if_neg (fun x => q2 x.2)
          rw [ef]
          exact hb_X0_smallestOpenings_35_1 (h1 := by omega) (c2 := c2) (h3 := by decide) (h4 := by omega) (h5 := by rw [e4]; exact q2))
    have em : hn_itr (hn_n s) (hn_mo1 s (hn_so s i).1) (2000000000, 0) = (s (26 + v), (v : Int)) := hv3
    have b26 := (hI.2.2.2.2.1 v (by omega)).2.2.1
    have r2 := hb_X0_smallestOpenings_35_3 (sx := sx) (sL := sL) (C := hn_ret sx sL (d + 1)) (I := I) (k := k) (g := g) (x1 := (c : Int)) (x2 := ((hn_so s i).1 : Int)) (x3 := (hn_so s i).2) (x4 := (i : Int)) (x5 := s (26 + v)) (x6 := (v : Int)) (n7 := hn_n s) (h1 := by omega) (h2 := by omega) (h3 := by omega)
    rw [hn_orb _ sb.1 v (by omega)] at r2
    have es : hn_so s (i + 1) = ((hn_so s i).1 ||| 2 ^ v, (hn_so s i).2 + s (26 + v)) := by
      show hn_so1 s i (hn_so s i) = _
      unfold hn_so1
      rw [hv3]
      show ((hn_so s i).1 ||| 2 ^ (v : Int).toNat, _) = _
      rw [Int.toNat_natCast]
    show hn_go sx sL _ _ (hn_nx 3 7 [some (hn_vr 59), some (hn_vi (c : Int)), some (hn_vi ((hn_so s (i + 1)).1 : Int)), some (hn_vi (hn_so s (i + 1)).2), some (hn_vi ((i + 1 : Nat) : Int)), none, none, none] [] (hn_m I k g))
    rw [es]
    have r1' : hn_go sx sL (hn_ret sx sL (d + 1)) (hn_nx 3 35 [some (hn_vr 59), some (hn_vi (c : Int)), some (hn_vi ((hn_so s i).1 : Int)), some (hn_vi (hn_so s i).2), some (hn_vi (i : Int)), some (hn_vi 2000000000), some (hn_vi 0), some (hn_vi 0)] [] (hn_m I k g)) (hn_nx 3 35 [some (hn_vr 59), some (hn_vi (c : Int)), some (hn_vi ((hn_so s i).1 : Int)), some (hn_vi (hn_so s i).2), some (hn_vi (i : Int)), some (hn_vi (hn_itr (hn_n s) (hn_mo1 s (hn_so s i).1) (2000000000, 0)).1), some (hn_vi (hn_itr (hn_n s) (hn_mo1 s (hn_so s i).1) (2000000000, 0)).2), some (hn_vi ((hn_n s : Nat) : Int))] [] (hn_m I k g)) := r1
    rw [em] at r1'
    exact r0.tr (r1'.tr r2)
  · by_cases q : c ≤ hn_n s
    · exact hb_X0_smallestOpenings_7_2 (h1 := by omega)
    · exact hb_X0_smallestOpenings_7_1 (h1 := by omega) (h2 := by omega)
theorem hc_ktk' (h : hn_HC I k a) {I' : Nat → Nat → Int} (e : ∀ c, c ≠ 59 → ∀ j, I' c j = I c j) : hn_HC I' k a ∧ hn_fC I' I :=
  ⟨h.mv (fun c hc j => e c (by omega) j) (e 60 (by omega) 1), fun c hc j => e c (by omega) j⟩
theorem hc_bound (d : Nat) (hA : hn_AI a) (h : hn_HC I k a) (c : Int) : ∃ I', hn_ret sx sL (d + 4) 84 [hn_vr 0, hn_vi c] (hn_m I k g) (some (hn_vi (hr_bound a.1 c))) (hn_m I' k g) ∧ hn_HC I' k a ∧ hn_fC I' I := by
  have hn := h.1.n hA.1
  have h8 := hn_n8 hA.1
  have c1 := hm_inRange (sx := sx) (sL := sL) (I := I) (k := k) (g := g) (d + 2) c 0 (hn_n a.1)
  rw [← hn] at c1
  unfold hr_bound
  by_cases e : 0 ≤ c ∧ c ≤ (hn_n a.1 : Int)
  · rw [if_pos (by rw [hn]; exact e)] at c1
    rw [if_pos e]
    have hp : 2 ^ hn_n a.1 ≤ 2 ^ 8 := Nat.pow_le_pow_right (by omega) h8
    have hp0 : 0 < 2 ^ hn_n a.1 := Nat.pow_pos (by omega)
    have c2 := (hc_mask (sx := sx) (sL := sL) (g := g) (d + 2) hA h c).1
    have hw2 : 0 < hn_n a.1 → ∃ k, k < hn_n a.1 ∧ (2 ^ hn_n a.1 - 1).testBit k = true := fun q => ⟨0, q, hn_tb q⟩
    obtain ⟨I3, c3, f3⟩ := hm_flowCost (sx := sx) (sL := sL) (k := k) (g := g) d hA.1 h.1 (w := 2 ^ hn_n a.1 - 1) (by omega) hw2
    have ew : ((2 ^ hn_n a.1 - 1 : Nat) : Int) = ((2 ^ hn_n a.1 : Nat) : Int) - 1 := by omega
    rw [ew] at c3
    have bf := hn_fc_b hA.1 hw2
    have H3 : hn_HS I3 1 a.1 := h.1.mv (fun c c1 c2 j => f3 c (by omega) j)
    have kk : hn_HC I3 k a ∧ hn_fC I3 I := hc_ktk' h f3
    by_cases e0 : c = 0
    · have c4 := hm_smallest (sx := sx) (sL := sL) (k := k) (g := g) (d + 1) hA.1 H3 (c := 1)
      have sb := hn_so_b hA.1 (min 1 (hn_n a.1)) (by omega)
      refine ⟨I3, ?_, kk.1, kk.2⟩
      rw [hn_soN, if_pos e0]
      exact hn_of rfl (hb_X6_bound_0_1 (c1 := c1) (h2 := by decide) (c3 := c2) (c4 := c3) (h5 := e0) (c6 := c4) (h7 := by omega))
    · obtain ⟨u, rfl⟩ : ∃ u : Nat, c = u := ⟨c.toNat, by omega⟩
      have c4 := hm_smallest (sx := sx) (sL := sL) (k := k) (g := g) (d + 1) hA.1 H3 (c := u)
      rw [show min u (hn_n a.1) = u by omega] at c4
      have sb := hn_so_b hA.1 u (by omega)
      refine ⟨I3, ?_, kk.1, kk.2⟩
      rw [hn_soN, if_neg e0, Int.toNat_natCast]
      exact hn_of rfl (hb_X6_bound_0_2 (c1 := c1) (h2 := by decide) (c3 := c2) (c4 := c3) (h5 := e0) (c6 := c4) (h7 := by omega))
  · rw [if_neg (by rw [hn]; exact e)] at c1
    rw [if_neg e]
    exact ⟨I, hn_of rfl (hb_X6_bound_0_0 (c1 := c1) (h2 := by decide)), h, hn_fC.rf⟩
theorem hc_hubBound (d : Nat) (hA : hn_AI a) (h : hn_HC I k a) : ∃ I', hn_ret sx sL (d + 4) 83 [hn_vr 0] (hn_m I k g) (some (hn_vi (hr_hubB a.1))) (hn_m I' k g) ∧ hn_HC I' k a ∧ hn_fC I' I := by
  have e7 : I 1 7 = a.1 1 := h.1.2.1
  unfold hr_hubB
  by_cases e : a.1 1 = 0
  · rw [if_pos e]
    exact ⟨I, hn_of rfl (hb_X6_hubBound_0_0 (h1 := by rw [e7]; exact e)), h, hn_fC.rf⟩
  · rw [if_neg e]
    have m256 := hn_m256 hA.1
    have hw := hn_w_ex hA.1 e
    obtain ⟨I3, c3, f3⟩ := hm_flowCost (sx := sx) (sL := sL) (k := k) (g := g) d hA.1 h.1 m256 (fun _ => hw)
    have kk : hn_HC I3 k a ∧ hn_fC I3 I := hc_ktk' h f3
    have c4 := hm_openingCost (sx := sx) (sL := sL) (k := k) (g := g) (d + 1) hA.1 kk.1.1 m256
    rw [← h.1.m hA.1] at c3
    rw [← kk.1.1.m hA.1] at c4
    have bf := hn_fc_b hA.1 (fun _ => hw)
    have bo := hn_op_b hA.1 (m := hn_hm a.1)
    exact ⟨I3, hn_of rfl (hb_X6_hubBound_0_1 (h1 := by rw [e7]; exact e) (c2 := c3) (c3 := c4) (h4 := by omega)), kk.1, kk.2⟩
end HX40
