/-! the model: the parts of a plan's cost -/
def hn_tm (s : hn_S) (p : Nat → Int) (a m : Nat) : Int := (if s 5 ≤ hn_tr s p a m then s 3 else 100) * hn_tr s p a m * hn_gp s a m
theorem hn_tm_eq {s : hn_S} (hI : hn_Iv s) (p : Nat → Int) (a m : Nat) : hn_tm s p a m = s 3 * hn_tkf s p a m + (100 - s 3) * hn_suf s p a m := by
  have b := hn_tr_b hI (p := p) (k := a) (m := m)
  unfold hn_tm hn_suf hn_tkf
  by_cases e : s 5 ≤ hn_tr s p a m
  · rw [if_pos e, if_neg (fun q => by omega), Int.mul_zero, Int.add_zero, Int.mul_assoc]
  · rw [if_neg e]
    by_cases z : hn_tr s p a m = 0
    · rw [z, if_neg (fun q => by omega), Int.zero_mul, Int.mul_zero, Int.mul_zero, Int.mul_zero, Int.zero_mul]
      rfl
    · rw [if_pos (by omega), ← Int.add_mul, Int.mul_assoc]
      congr 1
      omega
theorem hn_ro_lin {n m a : Nat} {c e : Int} {f h : Nat → Nat → Int} : hn_ro n (fun a b => c * f a b + e * h a b) m a = c * hn_ro n f m a + e * hn_ro n h m a := by
  unfold hn_ro
  by_cases q : m.testBit a = true
  · rw [if_pos q, if_pos q, if_pos q, hn_sm_add, hn_sm_mul n c (f a), hn_sm_mul n e (h a)]
  · rw [if_neg q, if_neg q, if_neg q, Int.mul_zero, Int.mul_zero]
    rfl
theorem hn_tm_all {s : hn_S} (hI : hn_Iv s) (p : Nat → Int) (m : Nat) : hn_sm (hn_n s) (hn_ro (hn_n s) (hn_tm s p) m) = hn_tkc s p m := by
  have e : ∀ a, hn_ro (hn_n s) (hn_tm s p) m a = s 3 * hn_ro (hn_n s) (hn_tkf s p) m a + (100 - s 3) * hn_ro (hn_n s) (hn_suf s p) m a := fun a => by
    rw [← hn_ro_lin]
    unfold hn_ro
    rw [hn_sm_cg (f := hn_tm s p a) (h := fun b => s 3 * hn_tkf s p a b + (100 - s 3) * hn_suf s p a b) (fun b _ => hn_tm_eq hI p a b)]
  rw [hn_sm_cg (f := hn_ro (hn_n s) (hn_tm s p) m) (h := fun a => s 3 * hn_ro (hn_n s) (hn_tkf s p) m a + (100 - s 3) * hn_ro (hn_n s) (hn_suf s p) m a) (fun a _ => e a), hn_sm_add, hn_sm_mul (hn_n s) (s 3) (hn_ro (hn_n s) (hn_tkf s p) m), hn_sm_mul (hn_n s) (100 - s 3) (hn_ro (hn_n s) (hn_suf s p) m)]
  rfl
theorem hn_tm_b {s : hn_S} (hI : hn_Iv s) (p : Nat → Int) {a m : Nat} (ha : a < 8) (hm : m < 8) : 0 ≤ hn_tm s p a m ∧ hn_tm s p a m ≤ 19800 * hn_tr s p a m := by
  have b := hn_tr_b hI (p := p) (k := a) (m := m)
  have g := hn_gp_b hI ha hm
  have t := hI.2.2.1.2.1
  have key : ∀ c : Int, 0 ≤ c → c ≤ 100 → 0 ≤ c * hn_tr s p a m * hn_gp s a m ∧ c * hn_tr s p a m * hn_gp s a m ≤ 19800 * hn_tr s p a m := fun c c0 c1 => by
    have h1 := hn_mul_b c0 c1 b.1 (Int.le_refl (hn_tr s p a m))
    have h2 := hn_mul_b h1.1 h1.2 g.1 g.2
    exact ⟨h2.1, by have := h2.2; omega⟩
  unfold hn_tm
  by_cases e : s 5 ≤ hn_tr s p a m
  · rw [if_pos e]
    exact key _ t.1 t.2
  · rw [if_neg e]
    exact key _ (by decide) (by decide)
theorem hn_tm_j {s : hn_S} (hI : hn_Iv s) (p : Nat → Int) {a j : Nat} (ha : a < 8) (hj : j ≤ hn_n s) : 0 ≤ hn_sm j (hn_tm s p a) ∧ hn_sm j (hn_tm s p a) ≤ 19800 * hn_ld s p a := by
  have h8 := hn_n8 hI
  have h0 : 0 ≤ hn_sm j (hn_tm s p a) := hn_sm_nn fun i hi => (hn_tm_b hI p ha (by omega)).1
  have h1 : hn_sm j (hn_tm s p a) ≤ hn_sm j (fun m => 19800 * hn_tr s p a m) := hn_sm_le fun i hi => (hn_tm_b hI p ha (by omega)).2
  have h2 : hn_sm j (fun m => 19800 * hn_tr s p a m) = 19800 * hn_sm j (hn_tr s p a) := hn_sm_mul j 19800 (hn_tr s p a)
  have h3 : hn_sm j (hn_tr s p a) ≤ hn_sm (hn_n s) (hn_tr s p a) := hn_sm_mono hj (fun i _ => (hn_tr_b hI (p := p) (k := a) (m := i)).1)
  have h4 := hn_trrow hI (p := p) (k := a)
  omega
theorem hn_tm_i {s : hn_S} (hI : hn_Iv s) (p : Nat → Int) {m i : Nat} (hi : i ≤ hn_n s) : 0 ≤ hn_sm i (hn_ro (hn_n s) (hn_tm s p) m) ∧ hn_sm i (hn_ro (hn_n s) (hn_tm s p) m) ≤ 126720000 := by
  have h8 := hn_n8 hI
  have key : ∀ a, a < i → 0 ≤ hn_ro (hn_n s) (hn_tm s p) m a ∧ hn_ro (hn_n s) (hn_tm s p) m a ≤ 19800 * hn_ld s p a := fun a ha => by
    have l := hn_ld_b hI (p := p) (k := a)
    unfold hn_ro
    by_cases q : m.testBit a = true
    · rw [if_pos q]
      exact hn_tm_j hI p (by omega) (Nat.le_refl _)
    · rw [if_neg q]
      omega
  have h0 : 0 ≤ hn_sm i (hn_ro (hn_n s) (hn_tm s p) m) := hn_sm_nn fun a ha => (key a ha).1
  have h1 : hn_sm i (hn_ro (hn_n s) (hn_tm s p) m) ≤ hn_sm i (fun a => 19800 * hn_ld s p a) := hn_sm_le fun a ha => (key a ha).2
  have h2 : hn_sm i (fun a => 19800 * hn_ld s p a) = 19800 * hn_sm i (hn_ld s p) := hn_sm_mul i 19800 (hn_ld s p)
  have h3 : hn_sm i (hn_ld s p) ≤ hn_sm (hn_n s) (hn_ld s p) := hn_sm_mono hi (fun a _ => (hn_ld_b hI (p := p) (k := a)).1)
  have h4 := hn_ldsum hI (p := p)
  omega
/-- a complete plan: each node has a hub of the mask -/
def hn_full' (s : hn_S) (m : Nat) (p : Nat → Int) : Prop := ∀ v, v < hn_n s → ∃ u : Nat, p v = (u : Int) ∧ u < hn_n s ∧ m.testBit u = true
theorem hn_tr_0 {s : hn_S} {m : Nat} {p : Nat → Int} (hf : hn_full' s m p) {a b : Nat} (hb : ¬ m.testBit b = true) : hn_tr s p a b = 0 := by
  refine hn_sm_z' fun v hv => ?_
  have : hn_tw s p v b (hn_n s) = 0 := hn_sm_z' fun u hu => if_neg (fun q => by
    obtain ⟨x, e, -, h⟩ := hf u hu
    rw [e] at q
    exact hb (by rw [← Int.ofNat.inj q]; exact h))
  rw [this, ite_self]
theorem hn_cc_2 {s : hn_S} {m : Nat} {p : Nat → Int} (hf : hn_full' s m p) : hn_sm (hn_n s) (fun a => hn_sm (hn_n s) (fun b => s 2 * hn_fl s a b * hn_gp s a (p a).toNat)) = s 2 * hn_cc s p := by
  unfold hn_cc
  rw [← hn_sm_mul (hn_n s) (s 2) (hn_ccf s p)]
  refine hn_sm_cg fun a ha => ?_
  obtain ⟨x, e, hx, -⟩ := hf a ha
  rw [hn_sm_mulr (hn_n s) (hn_gp s a (p a).toNat) (fun b => s 2 * hn_fl s a b), hn_sm_mul (hn_n s) (s 2) (fun b => hn_fl s a b)]
  unfold hn_ccf hn_isN
  rw [if_pos (by rw [e]; omega), Int.mul_assoc]
  rfl
theorem hn_dc_2 {s : hn_S} {m : Nat} {p : Nat → Int} (hf : hn_full' s m p) : hn_sm (hn_n s) (fun a => hn_sm (hn_n s) (fun b => s 4 * hn_fl s a b * hn_gp s (p b).toNat b)) = s 4 * hn_dc s p := by
  rw [hn_sm_swap (hn_n s) (hn_n s) (fun a b => s 4 * hn_fl s a b * hn_gp s (p b).toNat b)]
  unfold hn_dc
  rw [← hn_sm_mul (hn_n s) (s 4) (hn_dcf s p)]
  refine hn_sm_cg fun b hb => ?_
  obtain ⟨x, e, hx, -⟩ := hf b hb
  rw [hn_sm_mulr (hn_n s) (hn_gp s (p b).toNat b) (fun a => s 4 * hn_fl s a b), hn_sm_mul (hn_n s) (s 4) (fun a => hn_fl s a b)]
  unfold hn_dcf hn_isN
  rw [if_pos (by rw [e]; omega), Int.mul_assoc, hn_gp_comm]
  rfl
section HX45
variable {sx : Nat → Int} {sL : Nat} {I : Nat → Nat → Int} {k : Nat → Option Nat} {g : Nat → Nat → Int64} {a : hn_AA} {s : hn_S} {b : Int} {p : Nat → Int} {m : Nat}
theorem hx_congestionOf (d : Nat) (hI : hn_Iv s) (h : hn_MS I s) {l : Int} (hl : 0 ≤ l ∧ l ≤ 6400) : hn_ret sx sL (d + 1) 119 [hn_vr 64, hn_vi l] (hn_m I k g) (some (hn_vi (hn_cg1 s l))) (hn_m I k g) := by
  have e6 : I 65 6 = s 6 := h _ (by omega)
  have e7 : I 65 7 = s 7 := h _ (by omega)
  have e8 : I 65 8 = s 8 := h _ (by omega)
  have e9 : I 65 9 = s 9 := h _ (by omega)
  have cb := hn_cg1_b hI hl
  refine hn_of rfl ?_
  unfold hn_cg1
  by_cases q1 : s 6 < l
  · have m1 : max 0 (l - s 6) = l - s 6 := by omega
    rw [m1] at cb ⊢
    by_cases q2 : s 8 < l
    · have m2 : max 0 (l - s 8) = l - s 8 := by omega
      rw [m2] at cb ⊢
      have r := hb_X7_congestionOf_0_0 (sx := sx) (sL := sL) (C := hn_ret sx sL d) (I := I) (k := k) (g := g) (x1 := l) (h1 := by omega) (h2 := by have := hI.2.2.2.1; omega) (h3 := by rw [e6, e7]; omega) (h4 := by omega) (h5 := by have := hI.2.2.2.1; omega) (h6 := by rw [e8, e9]; omega) (h7 := by rw [e6, e7, e8, e9]; omega)
      rw [e6, e7, e8, e9] at r
      exact r
    · have m2 : max 0 (l - s 8) = 0 := by omega
      rw [m2, Int.zero_mul, Int.add_zero]
      have r := hb_X7_congestionOf_0_1 (sx := sx) (sL := sL) (C := hn_ret sx sL d) (I := I) (k := k) (g := g) (x1 := l) (h1 := by omega) (h2 := by have := hI.2.2.2.1; omega) (h3 := by rw [e6, e7]; omega) (h4 := by omega)
      rw [e6, e7] at r
      exact r
  · have m1 : max 0 (l - s 6) = 0 := by omega
    rw [m1, Int.zero_mul]
    have q2 : ¬ s 8 < l := by have := hI.2.2.2.1; omega
    have m2 : max 0 (l - s 8) = 0 := by omega
    rw [m2, Int.zero_mul]
    exact hb_X7_congestionOf_0_3 (h1 := by omega) (h2 := by omega)
/-- the middle loop does nothing but for 1 and 3 -/
theorem hx_p28 (d : Nat) (hn : I 65 0 = (hn_n s : Int)) (h8 : hn_n s ≤ 8) {w x3 x5 : Int} {a : Nat} (h1 : ¬ w = 1) (h3 : ¬ w = 3) (hx : hn_R x3) : hn_go sx sL (hn_ret sx sL d) (hn_nx 118 28 [some (hn_vr 64), some (hn_vi m), some (hn_vi w), some (hn_vi x3), some (hn_vi (a : Int)), some (hn_vi x5), some (hn_vi 0), none, none] [] (hn_m I k g)) (hn_nx 118 28 [some (hn_vr 64), some (hn_vi m), some (hn_vi w), some (hn_vi x3), some (hn_vi (a : Int)), some (hn_vi x5), some (hn_vi ((hn_n s : Nat) : Int)), none, none] [] (hn_m I k g)) :=
  hn_for (fun i => hn_nx 118 28 [some (hn_vr 64), some (hn_vi m), some (hn_vi w), some (hn_vi x3), some (hn_vi (a : Int)), some (hn_vi x5), some (hn_vi (i : Int)), none, none] [] (hn_m I k g)) (hn_n s) (fun i hi => by
    have r := hb_X7_partOf_28_2 (sx := sx) (sL := sL) (C := hn_ret sx sL d) (I := I) (k := k) (g := g) (x1 := (m : Int)) (x2 := w) (x3 := x3) (n4 := a) (x5 := x5) (n6 := i) (h1 := by omega) (h2 := h1) (h3 := h3) (h4 := by omega) (h5 := by omega)
    rw [Int.add_zero] at r
    exact r)
/-- from the middle loop's end to the next round, but for 2, 4 and 5 -/
theorem hx_p192 (d : Nat) (hn : I 65 0 = (hn_n s : Int)) (h8 : hn_n s ≤ 8) (hm : m < 256) {w x3 x5 : Int} {a : Nat} (ha : a < hn_n s) (h2 : ¬ w = 2) (h4 : ¬ w = 4) (h5 : ¬ w = 5) (hx : hn_R x3) : hn_go sx sL (hn_ret sx sL (d + 1)) (hn_nx 118 28 [some (hn_vr 64), some (hn_vi m), some (hn_vi w), some (hn_vi x3), some (hn_vi (a : Int)), some (hn_vi x5), some (hn_vi ((hn_n s : Nat) : Int)), none, none] [] (hn_m I k g)) (hn_nx 118 5 [some (hn_vr 64), some (hn_vi m), some (hn_vi w), some (hn_vi x3), some (hn_vi ((a + 1 : Nat) : Int)), none, none, none, none] [] (hn_m I k g)) := by
  have eb := hn_bit m hm a (by omega)
  by_cases q : m.testBit a = true
  · rw [if_pos q] at eb
    have r2 := hb_X7_partOf_28_6 (sx := sx) (sL := sL) (C := hn_ret sx sL (d + 1)) (I := I) (k := k) (g := g) (x1 := (m : Int)) (x2 := w) (x3 := x3) (n4 := a) (x5 := x5) (n6 := hn_n s) (h1 := by omega) (h2 := eb) (h3 := h4) (h4 := by omega) (h5 := h5) (h6 := by omega)
    rw [Int.add_zero, Int.add_zero] at r2
    exact r2.tr (hb_X7_partOf_192_5 (h1 := by omega) (h2 := h2) (h3 := by omega))
  · rw [if_neg q] at eb
    have r2 := hb_X7_partOf_28_10 (sx := sx) (sL := sL) (C := hn_ret sx sL (d + 1)) (I := I) (k := k) (g := g) (x1 := (m : Int)) (x2 := w) (x3 := x3) (n4 := a) (x5 := x5) (n6 := hn_n s) (h1 := by omega) (h2 := by rw [eb]; decide) (h3 := h4) (h4 := by omega) (h5 := h5) (h6 := by omega)
    rw [Int.add_zero, Int.add_zero] at r2
    exact r2.tr (hb_X7_partOf_192_5 (h1 := by omega) (h2 := h2) (h3 := by omega))
theorem hx_part1 (d : Nat) (hI : hn_Iv s) (h : hn_MS I s) (hp : ∀ v, v < hn_n s → I 66 v = p v) (hm : m < 256) (hf : hn_full' s m p) : hn_ret sx sL (d + 2) 118 [hn_vr 64, hn_vi m, hn_vi 1] (hn_m I k g) (some (hn_vi (s 2 * hn_cc s p))) (hn_m I k g) := by
  have h8 := hn_n8 hI
  have hn := h.n hI
  have e2 : I 65 2 = s 2 := h _ (by omega)
  have bt : ∀ a b, a < hn_n s → b < hn_n s → 0 ≤ s 2 * hn_fl s a b ∧ s 2 * hn_fl s a b ≤ 30000 ∧ 0 ≤ s 2 * hn_fl s a b * hn_gp s a (p a).toNat ∧ s 2 * hn_fl s a b * hn_gp s a (p a).toNat ≤ 5940000 := fun a b ha hb => by
    obtain ⟨x, e, hx, -⟩ := hf a ha
    have h1 := hn_mul_b (show 0 ≤ s 2 by have := hI.2.2.1.1; omega) hI.2.2.1.1.2 (hn_fl_b hI (a := a) (b := b) (by omega) (by omega)).1 (hn_fl_b hI (a := a) (b := b) (by omega) (by omega)).2
    have h2 := hn_mul_b h1.1 h1.2 (hn_gp_b hI (a := a) (b := (p a).toNat) (by omega) (by omega)).1 (hn_gp_b hI (a := a) (b := (p a).toNat) (by omega) (by omega)).2
    exact ⟨h1.1, h1.2, h2.1, h2.2⟩
  have bj : ∀ a j, a < hn_n s → j ≤ hn_n s → 0 ≤ hn_sm j (fun b => s 2 * hn_fl s a b * hn_gp s a (p a).toNat) ∧ hn_sm j (fun b => s 2 * hn_fl s a b * hn_gp s a (p a).toNat) ≤ 5940000 * j := fun a j ha hj => hn_sm_b 5940000 (fun b hb => (bt a b ha (by omega)).2.2)
  have bi : ∀ i, i ≤ hn_n s → 0 ≤ hn_sm i (fun a => hn_sm (hn_n s) (fun b => s 2 * hn_fl s a b * hn_gp s a (p a).toNat)) ∧ hn_sm i (fun a => hn_sm (hn_n s) (fun b => s 2 * hn_fl s a b * hn_gp s a (p a).toNat)) ≤ 47520000 * i := fun i hi => hn_sm_b 47520000 (fun a ha => by
    have := bj a (hn_n s) (by omega) (Nat.le_refl _)
    omega)
  rw [← hn_cc_2 hf]
  refine hn_of rfl (hb_X7_partOf_0_0.tr ((hn_for (fun i => hn_nx 118 5 [some (hn_vr 64), some (hn_vi m), some (hn_vi 1), some (hn_vi (hn_sm i (fun a => hn_sm (hn_n s) (fun b => s 2 * hn_fl s a b * hn_gp s a (p a).toNat)))), some (hn_vi (i : Int)), none, none, none, none] [] (hn_m I k g)) (hn_n s) (fun i hi => ?_)).tr (hb_X7_partOf_5_1 (h1 := by omega))))
  have b1 := bi i (by omega)
  have b2 := bj i (hn_n s) hi (Nat.le_refl _)
  obtain ⟨x, ex, hx, -⟩ := hf i hi
  have r0 := hb_X7_partOf_5_0 (sx := sx) (sL := sL) (C := hn_ret sx sL (d + 1)) (I := I) (k := k) (g := g) (x1 := (m : Int)) (x2 := 1) (x3 := hn_sm i (fun a => hn_sm (hn_n s) (fun b => s 2 * hn_fl s a b * hn_gp s a (p a).toNat))) (n4 := i) (h1 := by omega) (h2 := by omega)
  have epx : I 66 i = (((p i).toNat : Nat) : Int) := by rw [hp i hi, ex, Int.toNat_natCast]
  rw [epx] at r0
  have r1 := hn_for (sx := sx) (sL := sL) (C := hn_ret sx sL (d + 1)) (fun j => hn_nx 118 28 [some (hn_vr 64), some (hn_vi m), some (hn_vi 1), some (hn_vi (hn_sm i (fun a => hn_sm (hn_n s) (fun b => s 2 * hn_fl s a b * hn_gp s a (p a).toNat)) + hn_sm j (fun b => s 2 * hn_fl s i b * hn_gp s i (p i).toNat))), some (hn_vi (i : Int)), some (hn_vi (((p i).toNat : Nat) : Int)), some (hn_vi (j : Int)), none, none] [] (hn_m I k g)) (hn_n s) (fun j hj => by
    have b3 := bj i j hi (by omega)
    have b4 := bt i j hi hj
    have r := hb_X7_partOf_28_0 (sx := sx) (sL := sL) (x1 := (m : Int)) (x2 := 1) (x3 := hn_sm i (fun a => hn_sm (hn_n s) (fun b => s 2 * hn_fl s a b * hn_gp s a (p a).toNat)) + hn_sm j (fun b => s 2 * hn_fl s i b * hn_gp s i (p i).toNat)) (x5 := (((p i).toNat : Nat) : Int)) (n4 := i) (n6 := j) (h1 := by omega) (h2 := rfl) (c3 := hx_flowOf (sx := sx) (sL := sL) (k := k) (g := g) d h (u := i) (v := j) (by omega) (by omega)) (h4 := by rw [e2]; omega) (c5 := hx_far (sx := sx) (sL := sL) (k := k) (g := g) d hI h (u := i) (v := (p i).toNat) (by omega) (by omega)) (h6 := by rw [e2]; omega) (h7 := by rw [e2]; omega) (h8 := by omega)
    rw [e2, Int.add_assoc] at r
    exact r)
  have r0' : hn_go sx sL (hn_ret sx sL (d + 1)) (hn_nx 118 5 [some (hn_vr 64), some (hn_vi m), some (hn_vi 1), some (hn_vi (hn_sm i (fun a => hn_sm (hn_n s) (fun b => s 2 * hn_fl s a b * hn_gp s a (p a).toNat)))), some (hn_vi (i : Int)), none, none, none, none] [] (hn_m I k g)) (hn_nx 118 28 [some (hn_vr 64), some (hn_vi m), some (hn_vi 1), some (hn_vi (hn_sm i (fun a => hn_sm (hn_n s) (fun b => s 2 * hn_fl s a b * hn_gp s a (p a).toNat)) + hn_sm 0 (fun b => s 2 * hn_fl s i b * hn_gp s i (p i).toNat))), some (hn_vi (i : Int)), some (hn_vi (((p i).toNat : Nat) : Int)), some (hn_vi ((0 : Nat) : Int)), none, none] [] (hn_m I k g)) := by
    rw [show hn_sm 0 (fun b => s 2 * hn_fl s i b * hn_gp s i (p i).toNat) = 0 from rfl, Int.add_zero]
    exact r0
  refine r0'.tr (r1.tr (hx_p192 d hn h8 hm hi (by decide) (by decide) (by decide) (by omega)))
theorem hx_part3 (d : Nat) (hI : hn_Iv s) (h : hn_MS I s) (hp : ∀ v, v < hn_n s → I 66 v = p v) (hm : m < 256) (hf : hn_full' s m p) : hn_ret sx sL (d + 2) 118 [hn_vr 64, hn_vi m, hn_vi 3] (hn_m I k g) (some (hn_vi (s 4 * hn_dc s p))) (hn_m I k g) := by
  have h8 := hn_n8 hI
  have hn := h.n hI
  have e2 : I 65 4 = s 4 := h _ (by omega)
  have bt : ∀ a b, a < hn_n s → b < hn_n s → 0 ≤ s 4 * hn_fl s a b ∧ s 4 * hn_fl s a b ≤ 30000 ∧ 0 ≤ s 4 * hn_fl s a b * hn_gp s (p b).toNat b ∧ s 4 * hn_fl s a b * hn_gp s (p b).toNat b ≤ 5940000 := fun a b ha hb => by
    obtain ⟨x, e, hx, -⟩ := hf b hb
    have h1 := hn_mul_b (show 0 ≤ s 4 by have := hI.2.2.1.2.2.1; omega) hI.2.2.1.2.2.1.2 (hn_fl_b hI (a := a) (b := b) (by omega) (by omega)).1 (hn_fl_b hI (a := a) (b := b) (by omega) (by omega)).2
    have h2 := hn_mul_b h1.1 h1.2 (hn_gp_b hI (a := (p b).toNat) (b := b) (by omega) (by omega)).1 (hn_gp_b hI (a := (p b).toNat) (b := b) (by omega) (by omega)).2
    exact ⟨h1.1, h1.2, h2.1, h2.2⟩
  have bj : ∀ a j, a < hn_n s → j ≤ hn_n s → 0 ≤ hn_sm j (fun b => s 4 * hn_fl s a b * hn_gp s (p b).toNat b) ∧ hn_sm j (fun b => s 4 * hn_fl s a b * hn_gp s (p b).toNat b) ≤ 5940000 * j := fun a j ha hj => hn_sm_b 5940000 (fun b hb => (bt a b ha (by omega)).2.2)
  have bi : ∀ i, i ≤ hn_n s → 0 ≤ hn_sm i (fun a => hn_sm (hn_n s) (fun b => s 4 * hn_fl s a b * hn_gp s (p b).toNat b)) ∧ hn_sm i (fun a => hn_sm (hn_n s) (fun b => s 4 * hn_fl s a b * hn_gp s (p b).toNat b)) ≤ 47520000 * i := fun i hi => hn_sm_b 47520000 (fun a ha => by
    have := bj a (hn_n s) (by omega) (Nat.le_refl _)
    omega)
  rw [← hn_dc_2 hf]
  refine hn_of rfl (hb_X7_partOf_0_0.tr ((hn_for (fun i => hn_nx 118 5 [some (hn_vr 64), some (hn_vi m), some (hn_vi 3), some (hn_vi (hn_sm i (fun a => hn_sm (hn_n s) (fun b => s 4 * hn_fl s a b * hn_gp s (p b).toNat b)))), some (hn_vi (i : Int)), none, none, none, none] [] (hn_m I k g)) (hn_n s) (fun i hi => ?_)).tr (hb_X7_partOf_5_1 (h1 := by omega))))
  have b1 := bi i (by omega)
  have b2 := bj i (hn_n s) hi (Nat.le_refl _)
  have r0 := hb_X7_partOf_5_0 (sx := sx) (sL := sL) (C := hn_ret sx sL (d + 1)) (I := I) (k := k) (g := g) (x1 := (m : Int)) (x2 := 3) (x3 := hn_sm i (fun a => hn_sm (hn_n s) (fun b => s 4 * hn_fl s a b * hn_gp s (p b).toNat b))) (n4 := i) (h1 := by omega) (h2 := by omega)
  have r1 := hn_for (sx := sx) (sL := sL) (C := hn_ret sx sL (d + 1)) (fun j => hn_nx 118 28 [some (hn_vr 64), some (hn_vi m), some (hn_vi 3), some (hn_vi (hn_sm i (fun a => hn_sm (hn_n s) (fun b => s 4 * hn_fl s a b * hn_gp s (p b).toNat b)) + hn_sm j (fun b => s 4 * hn_fl s i b * hn_gp s (p b).toNat b))), some (hn_vi (i : Int)), some (hn_vi (I 66 i)), some (hn_vi (j : Int)), none, none] [] (hn_m I k g)) (hn_n s) (fun j hj => by
    have b3 := bj i j hi (by omega)
    have b4 := bt i j hi hj
    obtain ⟨x, ex, hx, -⟩ := hf j hj
    have epx : I 66 j = (((p j).toNat : Nat) : Int) := by rw [hp j hj, ex, Int.toNat_natCast]
    have cf := hx_far (sx := sx) (sL := sL) (k := k) (g := g) d hI h (u := (p j).toNat) (v := j) (by omega) (by omega)
    rw [← epx] at cf
    have r := hb_X7_partOf_28_1 (sx := sx) (sL := sL) (x1 := (m : Int)) (x2 := 3) (x3 := hn_sm i (fun a => hn_sm (hn_n s) (fun b => s 4 * hn_fl s a b * hn_gp s (p b).toNat b)) + hn_sm j (fun b => s 4 * hn_fl s i b * hn_gp s (p b).toNat b)) (x5 := I 66 i) (n4 := i) (n6 := j) (h1 := by omega) (h2 := by decide) (h3 := rfl) (c4 := hx_flowOf (sx := sx) (sL := sL) (k := k) (g := g) d h (u := i) (v := j) (by omega) (by omega)) (h5 := by rw [e2]; omega) (h6 := by omega) (c7 := cf) (h8 := by rw [e2]; omega) (h9 := by rw [e2]; omega) (h10 := by omega)
    rw [e2, Int.add_assoc] at r
    exact r)
  have r0' : hn_go sx sL (hn_ret sx sL (d + 1)) (hn_nx 118 5 [some (hn_vr 64), some (hn_vi m), some (hn_vi 3), some (hn_vi (hn_sm i (fun a => hn_sm (hn_n s) (fun b => s 4 * hn_fl s a b * hn_gp s (p b).toNat b)))), some (hn_vi (i : Int)), none, none, none, none] [] (hn_m I k g)) (hn_nx 118 28 [some (hn_vr 64), some (hn_vi m), some (hn_vi 3), some (hn_vi (hn_sm i (fun a => hn_sm (hn_n s) (fun b => s 4 * hn_fl s a b * hn_gp s (p b).toNat b)) + hn_sm 0 (fun b => s 4 * hn_fl s i b * hn_gp s (p b).toNat b))), some (hn_vi (i : Int)), some (hn_vi (I 66 i)), some (hn_vi ((0 : Nat) : Int)), none, none] [] (hn_m I k g)) := by
    rw [show hn_sm 0 (fun b => s 4 * hn_fl s i b * hn_gp s (p b).toNat b) = 0 from rfl, Int.add_zero]
    exact r0
  refine r0'.tr (r1.tr (hx_p192 d hn h8 hm hi (by decide) (by decide) (by decide) (by omega)))
theorem hx_part4 (d : Nat) (hI : hn_Iv s) (h : hn_MS I s) (hm : m < 256) : hn_ret sx sL (d + 2) 118 [hn_vr 64, hn_vi m, hn_vi 4] (hn_m I k g) (some (hn_vi (hn_op s m))) (hn_m I k g) := by
  have h8 := hn_n8 hI
  have hn := h.n hI
  have bi : ∀ i, i ≤ hn_n s → 0 ≤ hn_sm i (hn_opf s m) ∧ hn_sm i (hn_opf s m) ≤ 100000 * i := fun i hi => hn_sm_b 100000 (fun a ha => hn_opf_b hI (by omega))
  refine hn_of rfl (hb_X7_partOf_0_0.tr ((hn_for (fun i => hn_nx 118 5 [some (hn_vr 64), some (hn_vi m), some (hn_vi 4), some (hn_vi (hn_sm i (hn_opf s m))), some (hn_vi (i : Int)), none, none, none, none] [] (hn_m I k g)) (hn_n s) (fun i hi => ?_)).tr (hb_X7_partOf_5_1 (h1 := by omega))))
  have b1 := bi i (by omega)
  have b2 := hn_opf_b hI (m := m) (a := i) (by omega)
  have r0 := hb_X7_partOf_5_0 (sx := sx) (sL := sL) (C := hn_ret sx sL (d + 1)) (I := I) (k := k) (g := g) (x1 := (m : Int)) (x2 := 4) (x3 := hn_sm i (hn_opf s m)) (n4 := i) (h1 := by omega) (h2 := by omega)
  have r1 := hx_p28 (sx := sx) (sL := sL) (m := m) (k := k) (g := g) (d + 1) hn h8 (w := 4) (x3 := hn_sm i (hn_opf s m)) (x5 := I 66 i) (a := i) (by decide) (by decide) (by omega)
  have eb := hn_bit m hm i (by omega)
  have e26 : I 65 (26 + i) = s (26 + i) := h _ (by omega)
  show hn_go sx sL _ _ (hn_nx 118 5 [some (hn_vr 64), some (hn_vi m), some (hn_vi 4), some (hn_vi (hn_sm i (hn_opf s m) + hn_opf s m i)), some (hn_vi ((i + 1 : Nat) : Int)), none, none, none, none] [] (hn_m I k g))
  by_cases q : m.testBit i = true
  · rw [if_pos q] at eb
    have eo : hn_opf s m i = s (26 + i) := if_pos q
    rw [eo] at b2 ⊢
    have r2 := hb_X7_partOf_28_4 (sx := sx) (sL := sL) (C := hn_ret sx sL (d + 1)) (I := I) (k := k) (g := g) (x1 := (m : Int)) (x2 := 4) (x3 := hn_sm i (hn_opf s m)) (n4 := i) (x5 := I 66 i) (n6 := hn_n s) (h1 := by omega) (h2 := eb) (h3 := rfl) (h4 := by omega) (h5 := by omega) (h6 := by omega) (h7 := by decide) (h8 := by omega)
    rw [Int.add_zero, e26] at r2
    exact r0.tr (r1.tr (r2.tr (hb_X7_partOf_192_5 (h1 := by omega) (h2 := by decide) (h3 := by omega))))
  · rw [if_neg q] at eb
    have eo : hn_opf s m i = 0 := if_neg q
    rw [eo, Int.add_zero]
    have r2 := hb_X7_partOf_28_8 (sx := sx) (sL := sL) (C := hn_ret sx sL (d + 1)) (I := I) (k := k) (g := g) (x1 := (m : Int)) (x2 := 4) (x3 := hn_sm i (hn_opf s m)) (n4 := i) (x5 := I 66 i) (n6 := hn_n s) (h1 := by omega) (h2 := by rw [eb]; decide) (h3 := rfl) (h4 := by omega) (h5 := by decide) (h6 := by omega)
    rw [Int.add_zero, Int.add_zero] at r2
    exact r0.tr (r1.tr (r2.tr (hb_X7_partOf_192_5 (h1 := by omega) (h2 := by decide) (h3 := by omega))))
theorem hx_part5 (d : Nat) (hI : hn_Iv s) (h : hn_MS I s) (hp : ∀ v, v < hn_n s → I 66 v = p v) (hm : m < 256) : hn_ret sx sL (d + 3) 118 [hn_vr 64, hn_vi m, hn_vi 5] (hn_m I k g) (some (hn_vi (hn_cg s (hn_ld s p) m))) (hn_m I k g) := by
  have h8 := hn_n8 hI
  have hn := h.n hI
  have bi : ∀ i, i ≤ hn_n s → 0 ≤ hn_sm i (hn_cgf s (hn_ld s p) m) ∧ hn_sm i (hn_cgf s (hn_ld s p) m) ≤ 12800000 * i := fun i hi => hn_sm_b 12800000 (fun a ha => hn_cgf_b hI (fun _ => hn_ld_b hI))
  refine hn_of rfl (hb_X7_partOf_0_0.tr ((hn_for (fun i => hn_nx 118 5 [some (hn_vr 64), some (hn_vi m), some (hn_vi 5), some (hn_vi (hn_sm i (hn_cgf s (hn_ld s p) m))), some (hn_vi (i : Int)), none, none, none, none] [] (hn_m I k g)) (hn_n s) (fun i hi => ?_)).tr (hb_X7_partOf_5_1 (h1 := by omega))))
  have b1 := bi i (by omega)
  have b2 := hn_cgf_b hI (L := hn_ld s p) (m := m) (a := i) (fun _ => hn_ld_b hI)
  have r0 := hb_X7_partOf_5_0 (sx := sx) (sL := sL) (C := hn_ret sx sL (d + 2)) (I := I) (k := k) (g := g) (x1 := (m : Int)) (x2 := 5) (x3 := hn_sm i (hn_cgf s (hn_ld s p) m)) (n4 := i) (h1 := by omega) (h2 := by omega)
  have r1 := hx_p28 (sx := sx) (sL := sL) (m := m) (k := k) (g := g) (d + 2) hn h8 (w := 5) (x3 := hn_sm i (hn_cgf s (hn_ld s p) m)) (x5 := I 66 i) (a := i) (by decide) (by decide) (by omega)
  have eb := hn_bit m hm i (by omega)
  show hn_go sx sL _ _ (hn_nx 118 5 [some (hn_vr 64), some (hn_vi m), some (hn_vi 5), some (hn_vi (hn_sm i (hn_cgf s (hn_ld s p) m) + hn_cgf s (hn_ld s p) m i)), some (hn_vi ((i + 1 : Nat) : Int)), none, none, none, none] [] (hn_m I k g))
  by_cases q : m.testBit i = true
  · rw [if_pos q] at eb
    have eo : hn_cgf s (hn_ld s p) m i = hn_cg1 s (hn_ld s p i) := if_pos q
    rw [eo] at b2 ⊢
    have r2 := hb_X7_partOf_28_5 (sx := sx) (sL := sL) (x1 := (m : Int)) (x2 := 5) (x3 := hn_sm i (hn_cgf s (hn_ld s p) m)) (n4 := i) (x5 := I 66 i) (n6 := hn_n s) (h1 := by omega) (h2 := eb) (h3 := by decide) (h4 := by omega) (h5 := rfl) (c6 := hx_loadOf (sx := sx) (sL := sL) (k := k) (g := g) d hI h hp i) (c7 := hx_congestionOf (sx := sx) (sL := sL) (k := k) (g := g) (d + 1) hI h (hn_ld_b hI)) (h8 := by omega)
    rw [Int.add_zero] at r2
    exact r0.tr (r1.tr (r2.tr (hb_X7_partOf_192_5 (h1 := by omega) (h2 := by decide) (h3 := by omega))))
  · rw [if_neg q] at eb
    have eo : hn_cgf s (hn_ld s p) m i = 0 := if_neg q
    rw [eo, Int.add_zero]
    have r2 := hb_X7_partOf_28_9 (sx := sx) (sL := sL) (C := hn_ret sx sL (d + 2)) (I := I) (k := k) (g := g) (x1 := (m : Int)) (x2 := 5) (x3 := hn_sm i (hn_cgf s (hn_ld s p) m)) (n4 := i) (x5 := I 66 i) (n6 := hn_n s) (h1 := by omega) (h2 := by rw [eb]; decide) (h3 := by decide) (h4 := by omega) (h5 := rfl) (h6 := by omega)
    rw [Int.add_zero, Int.add_zero] at r2
    exact r0.tr (r1.tr (r2.tr (hb_X7_partOf_192_5 (h1 := by omega) (h2 := by decide) (h3 := by omega))))
theorem hx_part2 (d : Nat) (hI : hn_Iv s) (h : hn_MS I s) (hp : ∀ v, v < hn_n s → I 66 v = p v) (hm : m < 256) (hf : hn_full' s m p) : hn_ret sx sL (d + 3) 118 [hn_vr 64, hn_vi m, hn_vi 2] (hn_m I k g) (some (hn_vi (hn_tkc s p m))) (hn_m I k g) := by
  have h8 := hn_n8 hI
  have hn := h.n hI
  have e3 : I 65 3 = s 3 := h _ (by omega)
  have e5 : I 65 5 = s 5 := h _ (by omega)
  have t3 := hI.2.2.1.2.1
  rw [← hn_tm_all hI]
  refine hn_of rfl (hb_X7_partOf_0_0.tr ((hn_for (fun i => hn_nx 118 5 [some (hn_vr 64), some (hn_vi m), some (hn_vi 2), some (hn_vi (hn_sm i (hn_ro (hn_n s) (hn_tm s p) m))), some (hn_vi (i : Int)), none, none, none, none] [] (hn_m I k g)) (hn_n s) (fun i hi => ?_)).tr (hb_X7_partOf_5_1 (h1 := by omega))))
  have b1 := hn_tm_i hI p (m := m) (i := i) (by omega)
  have bl := hn_ld_b hI (p := p) (k := i)
  have r0 := hb_X7_partOf_5_0 (sx := sx) (sL := sL) (C := hn_ret sx sL (d + 2)) (I := I) (k := k) (g := g) (x1 := (m : Int)) (x2 := 2) (x3 := hn_sm i (hn_ro (hn_n s) (hn_tm s p) m)) (n4 := i) (h1 := by omega) (h2 := by omega)
  have r1 := hx_p28 (sx := sx) (sL := sL) (m := m) (k := k) (g := g) (d + 2) hn h8 (w := 2) (x3 := hn_sm i (hn_ro (hn_n s) (hn_tm s p) m)) (x5 := I 66 i) (a := i) (by decide) (by decide) (by omega)
  have eb := hn_bit m hm i (by omega)
  show hn_go sx sL _ _ (hn_nx 118 5 [some (hn_vr 64), some (hn_vi m), some (hn_vi 2), some (hn_vi (hn_sm i (hn_ro (hn_n s) (hn_tm s p) m) + hn_ro (hn_n s) (hn_tm s p) m i)), some (hn_vi ((i + 1 : Nat) : Int)), none, none, none, none] [] (hn_m I k g))
  by_cases q : m.testBit i = true
  · rw [if_pos q] at eb
    have eo : hn_ro (hn_n s) (hn_tm s p) m i = hn_sm (hn_n s) (hn_tm s p i) := if_pos q
    rw [eo]
    have r2 := hb_X7_partOf_28_6 (sx := sx) (sL := sL) (C := hn_ret sx sL (d + 2)) (I := I) (k := k) (g := g) (x1 := (m : Int)) (x2 := 2) (x3 := hn_sm i (hn_ro (hn_n s) (hn_tm s p) m)) (n4 := i) (x5 := I 66 i) (n6 := hn_n s) (h1 := by omega) (h2 := eb) (h3 := by decide) (h4 := by omega) (h5 := by decide) (h6 := by omega)
    rw [Int.add_zero, Int.add_zero] at r2
    have r3 := hn_for (sx := sx) (sL := sL) (C := hn_ret sx sL (d + 2)) (fun j => hn_nx 118 192 [some (hn_vr 64), some (hn_vi m), some (hn_vi 2), some (hn_vi (hn_sm i (hn_ro (hn_n s) (hn_tm s p) m) + hn_sm j (hn_tm s p i))), some (hn_vi (i : Int)), none, some (hn_vi 1), some (hn_vi (j : Int)), none] [] (hn_m I k g)) (hn_n s) (fun j hj => by
      have b3 := hn_tm_j hI p (a := i) (j := j) (by omega) (by omega)
      have b4 := hn_tm_b hI p (a := i) (m := j) (by omega) (by omega)
      have b5 := hn_tr_b hI (p := p) (k := i) (m := j)
      have eb2 := hn_bit m hm j (by omega)
      show hn_go sx sL _ _ (hn_nx 118 192 [some (hn_vr 64), some (hn_vi m), some (hn_vi 2), some (hn_vi (hn_sm i (hn_ro (hn_n s) (hn_tm s p) m) + (hn_sm j (hn_tm s p i) + hn_tm s p i j))), some (hn_vi (i : Int)), none, some (hn_vi 1), some (hn_vi ((j + 1 : Nat) : Int)), none] [] (hn_m I k g))
      rw [← Int.add_assoc]
      by_cases z1 : j = i
      · have e0 : hn_tm s p i j = 0 := by
          unfold hn_tm
          rw [z1, hn_gp_self, Int.mul_zero]
        rw [e0, Int.add_zero]
        exact hb_X7_partOf_192_1 (h1 := by omega) (h2 := rfl) (h3 := by decide) (h4 := by omega) (h5 := by omega)
      · by_cases z2 : m.testBit j = true
        · rw [if_pos z2] at eb2
          have c6 := hx_trunkOf (sx := sx) (sL := sL) (k := k) (g := g) d hI h hp i j
          have c9 := hx_far (sx := sx) (sL := sL) (k := k) (g := g) (d + 1) hI h (u := i) (v := j) (by omega) (by omega)
          by_cases z3 : s 5 ≤ hn_tr s p i j
          · have et : hn_tm s p i j = s 3 * hn_tr s p i j * hn_gp s i j := by rw [hn_tm, if_pos z3]
            have b6 := hn_mul_b t3.1 t3.2 b5.1 b5.2
            rw [et] at b4 ⊢
            have r := hb_X7_partOf_192_3 (sx := sx) (sL := sL) (x1 := (m : Int)) (x2 := 2) (x3 := hn_sm i (hn_ro (hn_n s) (hn_tm s p) m) + hn_sm j (hn_tm s p i)) (x4 := (i : Int)) (x6 := 1) (x7 := (j : Int)) (h1 := by omega) (h2 := rfl) (h3 := by decide) (h4 := by omega) (h5 := eb2) (c6 := c6) (h7 := by omega) (h8 := by rw [e3]; omega) (c9 := c9) (h10 := by rw [e3]; omega) (h11 := by rw [e3]; omega) (h12 := by omega)
            rw [e3] at r
            exact r
          · have et : hn_tm s p i j = 100 * hn_tr s p i j * hn_gp s i j := by rw [hn_tm, if_neg z3]
            rw [et] at b4 ⊢
            exact hb_X7_partOf_192_2 (x1 := (m : Int)) (x2 := 2) (x3 := hn_sm i (hn_ro (hn_n s) (hn_tm s p) m) + hn_sm j (hn_tm s p i)) (x4 := (i : Int)) (x6 := 1) (x7 := (j : Int)) (h1 := by omega) (h2 := rfl) (h3 := by decide) (h4 := by omega) (h5 := eb2) (c6 := c6) (h7 := by omega) (h8 := by omega) (c9 := c9) (h10 := by omega) (h11 := by omega) (h12 := by omega)
        · rw [if_neg z2] at eb2
          have e0 : hn_tm s p i j = 0 := by
            unfold hn_tm
            rw [hn_tr_0 hf z2, Int.mul_zero, Int.zero_mul]
          rw [e0, Int.add_zero]
          exact hb_X7_partOf_192_4 (h1 := by omega) (h2 := rfl) (h3 := by decide) (h4 := by omega) (h5 := by rw [eb2]; decide) (h6 := by omega))
    rw [show hn_sm 0 (hn_tm s p i) = 0 from rfl, Int.add_zero] at r3
    exact r0.tr (r1.tr (r2.tr (r3.tr (hb_X7_partOf_192_6 (h1 := by omega) (h2 := by omega)))))
  · rw [if_neg q] at eb
    have eo : hn_ro (hn_n s) (hn_tm s p) m i = 0 := if_neg q
    rw [eo, Int.add_zero]
    have r2 := hb_X7_partOf_28_10 (sx := sx) (sL := sL) (C := hn_ret sx sL (d + 2)) (I := I) (k := k) (g := g) (x1 := (m : Int)) (x2 := 2) (x3 := hn_sm i (hn_ro (hn_n s) (hn_tm s p) m)) (n4 := i) (x5 := I 66 i) (n6 := hn_n s) (h1 := by omega) (h2 := by rw [eb]; decide) (h3 := by decide) (h4 := by omega) (h5 := by decide) (h6 := by omega)
    rw [Int.add_zero, Int.add_zero] at r2
    exact r0.tr (r1.tr (r2.tr (hb_X7_partOf_192_0 (h1 := by omega) (h2 := rfl) (h3 := rfl) (h4 := by omega))))
theorem hx_costOf (d : Nat) (hI : hn_Iv s) (h : hn_MS I s) (hp : ∀ v, v < hn_n s → I 66 v = p v) (hm : m < 256) (hf : hn_full' s m p) : hn_ret sx sL (d + 4) 120 [hn_vr 64, hn_vi m] (hn_m I k g) (some (hn_vi (hn_cost s m p))) (hn_m I k g) := by
  have b1 := (hn_cc_b hI (p := p)).2
  have b2 := hn_tkc_b hI (p := p) (m := m)
  have b3 := (hn_dc_b hI (p := p)).2
  have b4 := hn_op_b hI (m := m)
  have b5 := hn_cg_b hI (L := hn_ld s p) (m := m) (fun a _ _ => hn_ld_b hI)
  have b6 : 0 ≤ hn_tkc s p m ∧ hn_tkc s p m ≤ 253440000 := by
    unfold hn_tkc
    omega
  exact hn_of rfl (hb_X7_costOf_0_0 (c1 := hx_part1 (d + 1) hI h hp hm hf) (c2 := hx_part2 d hI h hp hm hf) (h3 := by omega) (c4 := hx_part3 (d + 1) hI h hp hm hf) (h5 := by omega) (c6 := hx_part4 (d + 1) hI h hm) (h7 := by omega) (c8 := hx_part5 d hI h hp hm) (h9 := by omega))
theorem hn_cmp_full (hI : hn_Iv s) (hc : hn_cmp s) : hn_full' s (hn_hm s) (hn_ho s) := fun v hv => by
  obtain ⟨u, h1, h2, h3⟩ := (hI.2.2.2.2.2.2.2 v hv).2 (hc.2 v hv)
  exact ⟨u, h2, h1, h3⟩
theorem hx_cost (d : Nat) (hA : hn_AI a) (h : hn_MC I b a) (w : Int) : ∃ I', hn_ret sx sL (d + 5) 129 [hn_vr 64, hn_vi w] (hn_m I k g) (some (hn_vi (hr_cost a.1 w))) (hn_m I' k g) ∧ hn_MC I' b a ∧ hn_fM I' I := by
  have c1 := hx_in (sx := sx) (sL := sL) (I := I) (k := k) (g := g) (d + 3) w 0 5
  have c2 := hx_isComplete (sx := sx) (sL := sL) (k := k) (g := g) (d + 3) hA.1 h.1
  have m256 := hn_m256 hA.1
  unfold hr_cost
  by_cases h1 : 0 ≤ w ∧ w ≤ 5
  · rw [if_pos h1] at c1 ⊢
    by_cases e : hn_cmp a.1
    · rw [if_pos e] at c2 ⊢
      obtain ⟨I3, c3, p3, f3⟩ := hx_takes (sx := sx) (sL := sL) (k := k) (g := g) (d + 3) hA.1 h.1
      obtain ⟨m3, w3⟩ := h.mp f3
      have hf := hn_cmp_full hA.1 e
      have em := m3.1.m hA.1
      by_cases e0 : w = 0
      · have c4 := hx_costOf (sx := sx) (sL := sL) (k := k) (g := g) d hA.1 m3.1 p3 m256 hf
        rw [← em] at c4
        rw [if_neg (by omega), if_neg (by omega), if_neg (by omega), if_neg (by omega), if_neg (by omega)]
        exact ⟨I3, hn_of rfl (hb_X7_cost_0_2 (c1 := c1) (h2 := by decide) (c3 := c2) (h4 := by decide) (c5 := c3) (h6 := e0) (c7 := c4)), m3, w3⟩
      by_cases e1 : w = 1
      · subst e1
        have c4 := hx_part1 (sx := sx) (sL := sL) (k := k) (g := g) (d + 2) hA.1 m3.1 p3 m256 hf
        rw [← em] at c4
        rw [if_pos rfl]
        exact ⟨I3, hn_of rfl (hb_X7_cost_0_3 (c1 := c1) (h2 := by decide) (c3 := c2) (h4 := by decide) (c5 := c3) (h6 := e0) (c7 := c4)), m3, w3⟩
      rw [if_neg e1]
      by_cases e2 : w = 2
      · subst e2
        have c4 := hx_part2 (sx := sx) (sL := sL) (k := k) (g := g) (d + 1) hA.1 m3.1 p3 m256 hf
        rw [← em] at c4
        rw [if_pos rfl]
        exact ⟨I3, hn_of rfl (hb_X7_cost_0_3 (c1 := c1) (h2 := by decide) (c3 := c2) (h4 := by decide) (c5 := c3) (h6 := e0) (c7 := c4)), m3, w3⟩
      rw [if_neg e2]
      by_cases e3 : w = 3
      · subst e3
        have c4 := hx_part3 (sx := sx) (sL := sL) (k := k) (g := g) (d + 2) hA.1 m3.1 p3 m256 hf
        rw [← em] at c4
        rw [if_pos rfl]
        exact ⟨I3, hn_of rfl (hb_X7_cost_0_3 (c1 := c1) (h2 := by decide) (c3 := c2) (h4 := by decide) (c5 := c3) (h6 := e0) (c7 := c4)), m3, w3⟩
      rw [if_neg e3]
      by_cases e4 : w = 4
      · subst e4
        have c4 := hx_part4 (sx := sx) (sL := sL) (k := k) (g := g) (d + 2) hA.1 m3.1 m256
        rw [← em] at c4
        rw [if_pos rfl]
        exact ⟨I3, hn_of rfl (hb_X7_cost_0_3 (c1 := c1) (h2 := by decide) (c3 := c2) (h4 := by decide) (c5 := c3) (h6 := e0) (c7 := c4)), m3, w3⟩
      rw [if_neg e4]
      have e5 : w = 5 := by omega
      subst e5
      have c4 := hx_part5 (sx := sx) (sL := sL) (k := k) (g := g) (d + 1) hA.1 m3.1 p3 m256
      rw [← em] at c4
      rw [if_pos rfl]
      exact ⟨I3, hn_of rfl (hb_X7_cost_0_3 (c1 := c1) (h2 := by decide) (c3 := c2) (h4 := by decide) (c5 := c3) (h6 := e0) (c7 := c4)), m3, w3⟩
    · rw [if_neg e] at c2 ⊢
      exact ⟨I, hn_of rfl (hb_X7_cost_0_1 (c1 := c1) (h2 := by decide) (c3 := c2) (h4 := by decide)), h, hn_fM.rf⟩
  · rw [if_neg h1] at c1 ⊢
    exact ⟨I, hn_of rfl (hb_X7_cost_0_0 (c1 := c1) (h2 := by decide)), h, hn_fM.rf⟩
theorem hx_change (d : Nat) (hA : hn_AI a) (h : hn_MC I b a) (x y : Int) : ∃ I', hn_ret sx sL (d + 5) 131 [hn_vr 64, hn_vi x, hn_vi y] (hn_m I k g) (some (hn_vi (hr_change a.1 x y))) (hn_m I' k g) ∧ hn_MC I' b a ∧ hn_fM I' I := by
  have h8 := hn_n8 hA.1
  have m256 := hn_m256 hA.1
  have c1 := hx_isNode (sx := sx) (sL := sL) (k := k) (g := g) (d + 2) hA.1 h.1 x
  have c2 := hx_isNode (sx := sx) (sL := sL) (k := k) (g := g) (d + 2) hA.1 h.1 y
  unfold hr_change
  by_cases h1 : hn_isN a.1 x
  · rw [if_pos h1] at c1
    by_cases h2 : hn_isN a.1 y
    · rw [if_pos h2] at c2
      rw [if_pos ⟨h1, h2⟩]
      obtain ⟨u, rfl⟩ : ∃ u : Nat, x = u := ⟨x.toNat, by omega⟩
      obtain ⟨v, rfl⟩ : ∃ v : Nat, y = v := ⟨y.toNat, by omega⟩
      rw [Int.toNat_natCast, Int.toNat_natCast]
      have c3 := hx_isHub (sx := sx) (sL := sL) (k := k) (g := g) (d + 3) hA.1 h.1 (v := u) (by omega)
      have c4 := hx_isHub (sx := sx) (sL := sL) (k := k) (g := g) (d + 3) hA.1 h.1 (v := v) (by omega)
      have c5 := hx_isComplete (sx := sx) (sL := sL) (k := k) (g := g) (d + 3) hA.1 h.1
      by_cases e : hn_hub a.1 u = true
      · rw [if_pos e] at c3
        rw [if_neg (fun q => by rw [e] at q; exact absurd q.1 (by decide))]
        exact ⟨I, hn_of rfl (hb_X7_change_0_5 (c1 := c1) (h2 := by decide) (c3 := c2) (h4 := by decide) (c5 := c3) (h6 := by decide)), h, hn_fM.rf⟩
      · rw [if_neg e] at c3
        by_cases e2 : hn_hub a.1 v = true
        · rw [if_pos e2] at c4
          by_cases e3 : hn_cmp a.1
          · rw [if_pos e3] at c5
            rw [if_pos ⟨by simpa using e, e2, e3⟩]
            obtain ⟨I6, c6, p6, f6⟩ := hx_takes (sx := sx) (sL := sL) (k := k) (g := g) (d + 3) hA.1 h.1
            obtain ⟨m6, w6⟩ := h.mp f6
            have em := m6.1.m hA.1
            have hf := hn_cmp_full hA.1 e3
            have c7 := hx_costOf (sx := sx) (sL := sL) (k := k) (g := g) d hA.1 m6.1 p6 m256 hf
            rw [← em] at c7
            have hf2 : hn_full' a.1 (hn_hm a.1) (hn_mv1 a.1 u v) := fun w hw => by
              unfold hn_mv1
              by_cases q : w = u
              · rw [if_pos q]
                exact ⟨v, rfl, by omega, e2⟩
              · rw [if_neg q]
                exact hf w hw
            have fu : ∀ c, c ≠ 66 → ∀ j, hn_up I6 66 u (v : Int) c j = I6 c j := fun c hc j => hn_up_ne (Or.inl hc)
            have c8 := hx_costOf (sx := sx) (sL := sL) (k := k) (g := g) (I := hn_up I6 66 u (v : Int)) (p := hn_mv1 a.1 u v) d hA.1 (m6.1.mv (fu 65 (by omega))) (fun w hw => by
              unfold hn_mv1
              by_cases q : w = u
              · rw [q, hn_up_eq, if_pos rfl]
              · rw [hn_up_ne (Or.inr q), if_neg q]
                exact p6 w hw) m256 hf2
            rw [← em] at c8
            have b1 := hn_cost_b2 hA.1 (p := hn_ho a.1) (m := hn_hm a.1)
            have b2 := hn_cost_b2 hA.1 (p := hn_mv1 a.1 u v) (m := hn_hm a.1)
            have key : ∀ c, c ≠ 66 → ∀ j, hn_up I6 66 u (v : Int) c j = I c j := fun c hc j => by rw [fu c hc, f6 c hc]
            exact ⟨_, hn_of rfl (hb_X7_change_0_4 (c1 := c1) (h2 := by decide) (c3 := c2) (h4 := by decide) (c5 := c3) (h6 := by decide) (c7 := c4) (h8 := by decide) (c9 := c5) (h10 := by decide) (c11 := c6) (c12 := c7) (h13 := by omega) (c14 := c8) (h15 := by omega) (h16 := by omega)), (h.mp key).1, (h.mp key).2⟩
          · rw [if_neg e3] at c5
            rw [if_neg (fun q => e3 q.2.2)]
            exact ⟨I, hn_of rfl (hb_X7_change_0_3 (c1 := c1) (h2 := by decide) (c3 := c2) (h4 := by decide) (c5 := c3) (h6 := by decide) (c7 := c4) (h8 := by decide) (c9 := c5) (h10 := by decide)), h, hn_fM.rf⟩
        · rw [if_neg e2] at c4
          rw [if_neg (fun q => e2 q.2.1)]
          exact ⟨I, hn_of rfl (hb_X7_change_0_2 (c1 := c1) (h2 := by decide) (c3 := c2) (h4 := by decide) (c5 := c3) (h6 := by decide) (c7 := c4) (h8 := by decide)), h, hn_fM.rf⟩
    · rw [if_neg h2] at c2
      rw [if_neg (fun q => h2 q.2)]
      exact ⟨I, hn_of rfl (hi_X7_change_0_1 (c1 := c1) (h2 := by decide) (c3 := c2) (h4 := by decide)), h, hn_fM.rf⟩
  · rw [if_neg h1] at c1
    rw [if_neg (fun q => h1 q.1)]
    exact ⟨I, hn_of rfl (hi_X7_change_0_0 (c1 := c1) (h2 := by decide)), h, hn_fM.rf⟩
end HX45
