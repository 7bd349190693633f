/-! the model's methods that search -/
theorem hn_fd.MC {J I : Nat → Nat → Int} {b : Int} {a : hn_AA} (h : hn_fd J I) (hM : hn_MC I b a) : hn_MC J b a := hM.mv (fun j => h.1 65 (by omega) j) (fun j hj => h.2 j (by omega) (by omega)) (fun j => h.1 75 (by omega) j)
theorem hn_fd.fM {J I : Nat → Nat → Int} (h : hn_fd J I) : hn_fM J I := fun c hc j => h.1 c (by omega) j
/-- .. and bestMask -/
def hn_fe (J I : Nat → Nat → Int) : Prop := (∀ c, c < 64 ∨ c = 65 ∨ c = 67 ∨ 74 < c → ∀ j, J c j = I c j) ∧ ∀ j, j ≠ 6 → j ≠ 11 → j ≠ 14 → J 64 j = I 64 j
theorem hn_fe.rf {I : Nat → Nat → Int} : hn_fe I I := ⟨fun _ _ _ => rfl, fun _ _ _ _ => rfl⟩
theorem hn_fe.tr {A B I : Nat → Nat → Int} (h1 : hn_fe A B) (h2 : hn_fe B I) : hn_fe A I := ⟨fun c a j => by rw [h1.1 c a, h2.1 c a], fun j a b e => by rw [h1.2 j a b e, h2.2 j a b e]⟩
theorem hn_fd.fe {J I : Nat → Nat → Int} (h : hn_fd J I) : hn_fe J I := ⟨h.1, fun j a b _ => h.2 j a b⟩
theorem hn_fe.MC {J I : Nat → Nat → Int} {b : Int} {a : hn_AA} (h : hn_fe J I) (hM : hn_MC I b a) : hn_MC J b a := hM.mv (fun j => h.1 65 (by omega) j) (fun j hj => h.2 j (by omega) (by omega) (by omega)) (fun j => h.1 75 (by omega) j)
theorem hn_fe.fM {J I : Nat → Nat → Int} (h : hn_fe J I) : hn_fM J I := fun c hc j => h.1 c (by omega) j
def hn_gm (s : hn_S) (w : Nat) (y : Int × Int × (Nat → Int)) : Prop := w ≠ 0 ∧ w < 2 ^ hn_n s ∧ 0 ≤ (hn_fnd s w).2.1 ∧ (hn_fnd s w).2.1 ≤ 1200000000 ∧ y = ((hn_fnd s w).2.1, (w : Int), (hn_fnd s w).2.2)
/-- none yet, or a mask's find -/
def hn_gy (s : hn_S) (y : Int × Int × (Nat → Int)) : Prop := (y.1 = 2147483647 ∧ y.2.1 = 0) ∨ ∃ w, hn_gm s w y
theorem hn_gy.le {s : hn_S} {y : Int × Int × (Nat → Int)} (h : hn_gy s y) : 0 ≤ y.1 ∧ y.1 ≤ 2147483647 := by
  rcases h with h | ⟨w, -, -, h1, h2, e⟩
  · omega
  · rw [e]
    show 0 ≤ (hn_fnd s w).2.1 ∧ (hn_fnd s w).2.1 ≤ 2147483647
    omega
theorem hn_gy0 (s : hn_S) : hn_gy s hn_b0 := Or.inl ⟨rfl, rfl⟩
theorem hn_gy.try {s : hn_S} (hI : hn_Iv s) {w : Nat} (h0 : w ≠ 0) (hw : w < 2 ^ hn_n s) {y : Int × Int × (Nat → Int)} (h : hn_gy s y) : hn_gy s (hn_try s w y) := by
  unfold hn_try
  by_cases e : (hn_fnd s w).2.1 < y.1
  · rw [if_pos e]
    rcases hn_fnd_b hI (w := w) with q | q
    · have := h.le
      omega
    · exact Or.inr ⟨w, h0, hw, q.1, q.2.1, rfl⟩
  · rw [if_neg e]
    exact h
theorem hn_gy.all {s : hn_S} (hI : hn_Iv s) (c : Int) {y : Int × Int × (Nat → Int)} (h : hn_gy s y) : ∀ m, m ≤ 2 ^ hn_n s - 1 → hn_gy s (hn_itr m (hn_allf s c) y)
  | 0, _ => h
  | m + 1, hm => by
    have ih := hn_gy.all hI c h m (by omega)
    rw [hn_itr_up]
    unfold hn_allf
    by_cases e : c = 0 ∨ hn_bits (m + 1) = c
    · rw [if_pos e]
      exact ih.try hI (by omega) (by omega)
    · rw [if_neg e]
      exact ih
theorem hn_gy.nbr {s : hn_S} (hI : hn_Iv s) {w : Nat} (hw : w < 2 ^ hn_n s) {y : Int × Int × (Nat → Int)} (h : hn_gy s y) : ∀ m, m ≤ hn_n s → hn_gy s (hn_itr m (hn_nbrf s w) y)
  | 0, _ => h
  | m + 1, hm => by
    have ih := hn_gy.nbr hI hw h m (by omega)
    rw [hn_itr_up]
    unfold hn_nbrf
    by_cases e : w ^^^ 2 ^ m = 0
    · rw [if_pos e]
      exact ih
    · rw [if_neg e]
      exact ih.try hI e (hn_xlt hw (by omega))
/-- the neighbours from what stands there, or from nothing -/
theorem hn_nbr_b0 {s : hn_S} {w : Nat} {y : Int × Int × (Nat → Int)} (hy : y.1 ≤ 2147483647) (m : Nat) : hn_itr m (hn_nbrf s w) y = if (hn_itr m (hn_nbrf s w) hn_b0).1 < y.1 then hn_itr m (hn_nbrf s w) hn_b0 else y := by
  refine hn_itr_rel (R := fun (z x : Int × Int × (Nat → Int)) => x = if z.1 < y.1 then z else y) (f := hn_nbrf s w) (h := hn_nbrf s w) (fun i z x hi r => ?_) ?_
  · subst r
    unfold hn_nbrf
    by_cases e : w ^^^ 2 ^ i = 0
    · rw [if_pos e, if_pos e]
    · rw [if_neg e, if_neg e]
      unfold hn_try
      by_cases e1 : z.1 < y.1
      · rw [if_pos e1]
        by_cases e2 : (hn_fnd s (w ^^^ 2 ^ i)).2.1 < z.1
        · rw [if_pos e2, if_pos (show (hn_fnd s (w ^^^ 2 ^ i)).2.1 < y.1 by omega)]
        · rw [if_neg e2, if_pos e1]
      · rw [if_neg e1]
        by_cases e2 : (hn_fnd s (w ^^^ 2 ^ i)).2.1 < z.1
        · rw [if_pos e2]
        · rw [if_neg e2, if_neg (show ¬ (hn_fnd s (w ^^^ 2 ^ i)).2.1 < y.1 by omega), if_neg e1]
  · exact (if_neg (show ¬ (2147483647 : Int) < y.1 by omega)).symm
def hn_nm (y : Int × Int × (Nat → Int)) : Int := if y.2.1 = 0 then -1 else y.2.1
section HX48
variable {sx : Nat → Int} {sL : Nat} {I : Nat → Nat → Int} {k : Nat → Option Nat} {g : Nat → Nat → Int64} {a : hn_AA} {s : hn_S} {b : Int}
theorem hx_bits (d : Nat) {m : Nat} (hm : m < 256) : hn_ret sx sL (d + 1) 132 [hn_vi m] (hn_m I k g) (some (hn_vi (hn_bits m))) (hn_m I k g) := by
  have r1 := hn_for (sx := sx) (sL := sL) (C := hn_ret sx sL d) (fun i => hn_nx 132 4 [some (hn_vi (m : Int)), some (hn_vi (hn_sm i (fun k => if m.testBit k then 1 else 0))), some (hn_vi (i : Int))] [] (hn_m I k g)) 8 (fun i hi => by
    have eb := hn_bit m hm i hi
    have bs : 0 ≤ hn_sm i (fun k => if m.testBit k then (1 : Int) else 0) ∧ hn_sm i (fun k => if m.testBit k then (1 : Int) else 0) ≤ 1 * i := hn_sm_b 1 (fun j hj => by
      rcases hn_if01 (P := m.testBit j = true) with e | e
      · show 0 ≤ (if m.testBit j then (1 : Int) else 0) ∧ (if m.testBit j then (1 : Int) else 0) ≤ 1
        rw [e]
        decide
      · show 0 ≤ (if m.testBit j then (1 : Int) else 0) ∧ (if m.testBit j then (1 : Int) else 0) ≤ 1
        rw [e]
        decide)
    have e01 := hn_if01 (P := m.testBit i = true)
    have r := hb_X7_bits_4_0 (sx := sx) (sL := sL) (C := hn_ret sx sL d) (I := I) (k := k) (g := g) (x0 := (m : Int)) (x1 := hn_sm i (fun k => if m.testBit k then 1 else 0)) (x2 := (i : Int)) (h1 := by omega) (h2 := by rw [eb]; omega) (h3 := by omega)
    rw [eb] at r
    exact r)
  exact hn_of rfl (hb_X7_bits_0_0.tr (r1.tr (hb_X7_bits_4_1 (h1 := by decide))))
theorem hx_isMask (d : Nat) (hI : hn_Iv s) (h : hn_MS I s) (x : Int) : hn_ret sx sL (d + 2) 140 [hn_vr 64, hn_vi x] (hn_m I k g) (some (hn_vi (if hn_isM s x then 1 else 0))) (hn_m I k g) := by
  have h8 := hn_n8 hI
  have hn := h.n hI
  have e := hn_pow (hn_n s) (by omega)
  have hp : 2 ^ hn_n s ≤ 2 ^ 8 := Nat.pow_le_pow_right (by omega) h8
  have c1 := hx_in (sx := sx) (sL := sL) (I := I) (k := k) (g := g) d x 1 (((2 ^ hn_n s : Nat) : Int) - 1)
  have e2 : hn_shl 1 (I 65 0) - 1 = ((2 ^ hn_n s : Nat) : Int) - 1 := by rw [hn, e]
  rw [← e2] at c1
  have e3 : (if 1 ≤ x ∧ x ≤ hn_shl 1 (I 65 0) - 1 then (1 : Int) else 0) = if hn_isM s x then 1 else 0 := by rw [e2]
  rw [e3] at c1
  exact hn_of rfl (hb_X7_isMask_0_0 (h1 := by have hp0 : 0 < 2 ^ hn_n s := Nat.pow_pos (by omega); have z := e2; omega) (c2 := c1) (h3 := hn_if01))
def hn_tki (s : hn_S) (w : Int) (P : Nat → Int) (i : Nat) : hn_S := fun j => if j = 1 then w else if 42 ≤ j ∧ j < 42 + i then P (j - 42) else s j
theorem hx_adopts (d : Nat) (hI : hn_Iv s) {x : List hn_S × (Nat → Int) × Nat} (h : hn_MC I b (s, x)) {w : Int} {P : Nat → Int} (hP : ∀ v, v < hn_n s → I 68 v = P v) : ∃ I', hn_ret sx sL (d + 1) 138 [hn_vr 64, hn_vi w] (hn_m I k g) none (hn_m I' k g) ∧ hn_MC I' b (hn_take s w P, x) ∧ ∀ c, c ≠ 65 → ∀ j, I' c j = I c j := by
  have h8 := hn_n8 hI
  have e0 : ∀ i, hn_tki s w P i 0 = s 0 := fun i => by
    unfold hn_tki
    rw [if_neg (by omega), if_neg (by omega)]
  obtain ⟨y, r, p1, p2⟩ := hn_forE (sx := sx) (sL := sL) (C := hn_ret sx sL d) (fun i (J : Nat → Nat → Int) => hn_nx 138 9 [some (hn_vr 64), none, some (hn_vi (i : Int))] [] (hn_m J k g)) (fun i J => hn_MC J b (hn_tki s w P i, x) ∧ ∀ c, c ≠ 65 → ∀ j, J c j = I c j) (hn_n s) (fun i J hi hJ => by
    obtain ⟨j1, j2⟩ := hJ
    have n0 : J 65 0 = (hn_n s : Int) := by
      rw [j1.1 0 (by omega)]
      show hn_tki s w P i 0 = _
      rw [e0]
      exact hn_n0 hI
    refine ⟨_, hb_X7_adopts_9_0 (h1 := by omega) (h2 := by omega) (h3 := by omega) (h4 := by omega) (h5 := by omega), ?_, fun c hc j => by rw [hn_up_ne (Or.inl hc), j2 c hc]⟩
    refine (j1.up (q := 42 + i) (v := J 68 i) (by omega)).ms (fun j hj => ?_)
    have q := (j1.up (q := 42 + i) (v := J 68 i) (by omega)).1 j hj
    rw [q]
    show hn_w (hn_tki s w P i) (42 + i) (J 68 i) j = hn_tki s w P (i + 1) j
    by_cases ej : j = 42 + i
    · subst ej
      rw [hn_w_eq, j2 68 (by omega), hP i hi]
      unfold hn_tki
      rw [if_neg (by omega), if_pos (by omega), show 42 + i - 42 = i by omega]
    · rw [hn_w_ne ej]
      unfold hn_tki
      by_cases z1 : j = 1
      · rw [if_pos z1, if_pos z1]
      · rw [if_neg z1, if_neg z1]
        by_cases z : 42 ≤ j ∧ j < 42 + i
        · rw [if_pos z, if_pos (by omega)]
        · rw [if_neg z, if_neg (by omega)]) (hn_up I 65 1 w) ⟨by
      refine (h.up (q := 1) (v := w) (by omega)).ms (fun j hj => ?_)
      have q := (h.up (q := 1) (v := w) (by omega)).1 j hj
      rw [q]
      show hn_w s 1 w j = hn_tki s w P 0 j
      unfold hn_tki
      by_cases z1 : j = 1
      · rw [if_pos z1, z1, hn_w_eq]
      · rw [if_neg z1, hn_w_ne z1, if_neg (by omega)], fun c hc j => hn_up_ne (Or.inl hc)⟩
  have n0 : y 65 0 = (hn_n s : Int) := by
    rw [p1.1 0 (by omega)]
    show hn_tki s w P (hn_n s) 0 = _
    rw [e0]
    exact hn_n0 hI
  exact ⟨y, hn_of rfl (hb_X7_adopts_0_0.tr (r.tr (hb_X7_adopts_9_1 (h1 := by omega)))), p1, p2⟩
theorem hn_try_b0 {s : hn_S} (hI : hn_Iv s) {w : Nat} (h0 : w ≠ 0) (hw : w < 2 ^ hn_n s) : ((hn_fnd s w).2.1 = 2147483647 ∧ hn_try s w hn_b0 = hn_b0) ∨ ((hn_fnd s w).2.1 ≠ 2147483647 ∧ hn_gm s w (hn_try s w hn_b0)) := by
  have e1 : hn_b0.1 = 2147483647 := rfl
  unfold hn_try
  rcases hn_fnd_b hI (w := w) with q | q
  · left
    rw [if_neg (by omega)]
    exact ⟨q, rfl⟩
  · right
    rw [if_pos (by omega)]
    exact ⟨by omega, h0, hw, q.1, q.2.1, rfl⟩
theorem hn_gm.lst {w : Nat} {y : Int × Int × (Nat → Int)} (h : hn_gm s w y) : hn_lst y = (hn_fnd s w).2.1 ∧ y.2.1 = (w : Int) ∧ y.1 = (hn_fnd s w).2.1 ∧ hn_tk2 s y = hn_take s (w : Int) (hn_fnd s w).2.2 ∧ (w : Int) ≠ 0 := by
  obtain ⟨h0, h1, h2, h3, e⟩ := h
  have hz : (w : Int) ≠ 0 := by omega
  rw [e]
  refine ⟨if_neg hz, rfl, rfl, if_neg hz, hz⟩
theorem hx_least (d : Nat) (hA : hn_AI a) (h : hn_MC I b a) (x : Int) : ∃ I', hn_ret sx sL (d + 4) 141 [hn_vr 64, hn_vi x] (hn_m I k g) (some (hn_vi (hr_least a.1 x))) (hn_m I' k g) ∧ hn_MC I' b a ∧ hn_fM I' I := by
  have c1 := hx_isMask (sx := sx) (sL := sL) (k := k) (g := g) (d + 1) hA.1 h.1 x
  unfold hr_least
  by_cases e : hn_isM a.1 x
  · rw [if_pos e] at c1 ⊢
    obtain ⟨w, rfl⟩ : ∃ w : Nat, x = w := ⟨x.toNat, by omega⟩
    rw [Int.toNat_natCast]
    obtain ⟨I2, c2, -, -, f2⟩ := hx_finds (sx := sx) (sL := sL) (k := k) (g := g) d hA.1 h.1 (w := w) (by omega) (by omega)
    rcases hn_try_b0 hA.1 (w := w) (by omega) (by omega) with ⟨q1, q2⟩ | ⟨q1, q2⟩
    · rw [q2]
      exact ⟨I2, hn_of rfl (hb_X7_least_0_1 (c1 := c1) (h2 := by decide) (c3 := c2) (h4 := q1)), f2.MC h, f2.fM⟩
    · rw [q2.lst.1]
      exact ⟨I2, hn_of rfl (hb_X7_least_0_2 (c1 := c1) (h2 := by decide) (c3 := c2) (h4 := q1)), f2.MC h, f2.fM⟩
  · rw [if_neg e] at c1 ⊢
    exact ⟨I, hn_of rfl (hb_X7_least_0_0 (c1 := c1) (h2 := by decide)), h, hn_fM.rf⟩
theorem hx_feasible (d : Nat) (hA : hn_AI a) (h : hn_MC I b a) (x : Int) : ∃ I', hn_ret sx sL (d + 4) 142 [hn_vr 64, hn_vi x] (hn_m I k g) (some (hn_vi (hr_feas a.1 x))) (hn_m I' k g) ∧ hn_MC I' b a ∧ hn_fM I' I := by
  have c1 := hx_isMask (sx := sx) (sL := sL) (k := k) (g := g) (d + 1) hA.1 h.1 x
  unfold hr_feas
  by_cases e : hn_isM a.1 x
  · rw [if_pos e] at c1 ⊢
    obtain ⟨w, rfl⟩ : ∃ w : Nat, x = w := ⟨x.toNat, by omega⟩
    rw [Int.toNat_natCast]
    obtain ⟨I2, c2, e6, -, f2⟩ := hx_finds (sx := sx) (sL := sL) (k := k) (g := g) d hA.1 h.1 (w := w) (by omega) (by omega)
    rw [← e6]
    exact ⟨I2, hn_of rfl (hb_X7_feasible_0_1 (c1 := c1) (h2 := by decide) (c3 := c2)), f2.MC h, f2.fM⟩
  · rw [if_neg e] at c1 ⊢
    exact ⟨I, hn_of rfl (hb_X7_feasible_0_0 (c1 := c1) (h2 := by decide)), h, hn_fM.rf⟩
theorem hx_settle (d : Nat) (hA : hn_AI a) (h : hn_MC I b a) : ∃ I', hn_ret sx sL (d + 4) 139 [hn_vr 64] (hn_m I k g) (some (hn_vi (hr_settle a.1))) (hn_m I' k g) ∧ hn_MC I' b (hn_recM b a (hr_settle a.1) (hs_settle a.1)) ∧ hn_fM I' I := by
  have e1 : I 65 1 = a.1 1 := h.1 1 (by omega)
  by_cases e : a.1 1 = 0
  · have er : hr_settle a.1 = -4 := by rw [hr_settle, if_pos e]
    refine ⟨I, hn_of rfl ?_, hx_same h (by omega) (by rw [hs_settle, if_pos e]), hn_fM.rf⟩
    rw [er]
    exact hb_X7_settle_0_0 (h1 := by omega)
  · have er : hr_settle a.1 = hn_lst (hn_try a.1 (hn_hm a.1) hn_b0) := by rw [hr_settle, if_neg e]
    have es : hs_settle a.1 = hn_tk2 a.1 (hn_try a.1 (hn_hm a.1) hn_b0) := by rw [hs_settle, if_neg e]
    obtain ⟨m0, m1⟩ := hc_hm0 hA e
    obtain ⟨I1, c1, M1, f1⟩ := hx_records (sx := sx) (sL := sL) (k := k) (g := g) (d + 1) hA.2.2.1 h
    have M1' : hn_MC I1 b (a.1, (hn_rcd b a).2) := M1
    obtain ⟨I2, c2, -, p2, f2⟩ := hx_finds (sx := sx) (sL := sL) (k := k) (g := g) d hA.1 M1'.1 m0 m1
    rw [← M1'.1.m hA.1] at c2
    have M2 := f2.MC M1'
    rcases hn_try_b0 hA.1 m0 m1 with ⟨q1, q2⟩ | ⟨q1, q2⟩
    · rw [er, es, q2]
      exact ⟨I2, hn_of rfl (hb_X7_settle_0_1 (h1 := by omega) (c2 := c1) (c3 := c2) (h4 := q1)), hx_rec (by decide) M2, f2.fM.tr f1.fM⟩
    · obtain ⟨l1, l2, l3, l4, l5⟩ := q2.lst
      obtain ⟨I3, c3, M3, f3⟩ := hx_adopts (sx := sx) (sL := sL) (k := k) (g := g) (d + 2) hA.1 M2 (w := I2 65 1) (p2 q1)
      rw [er, es, l1, l4]
      have e65 : I2 65 1 = (hn_hm a.1 : Int) := M2.1.m hA.1
      rw [e65] at M3
      have fb := q2.2.2.1
      exact ⟨I3, hn_of rfl (hb_X7_settle_0_2 (h1 := by omega) (c2 := c1) (c3 := c2) (h4 := q1) (c5 := c3)), hx_rec (by omega) M3, fun c hc j => by rw [f3 c (by omega), f2.fM c hc, f1.fM c hc]⟩
theorem hx_bestMask (d : Nat) (hI : hn_Iv s) (h : hn_MS I s) (c : Int) : ∃ I', hn_ret sx sL (d + 4) 143 [hn_vr 64, hn_vi c] (hn_m I k g) (some (hn_vi (hn_nm (hn_bst s c)))) (hn_m I' k g) ∧ I' 64 14 = (hn_bst s c).1 ∧ hn_fe I' I := by
  have h8 := hn_n8 hI
  have hp : 2 ^ hn_n s ≤ 2 ^ 8 := Nat.pow_le_pow_right (by omega) h8
  have hp0 : 0 < 2 ^ hn_n s := Nat.pow_pos (by omega)
  have e := hn_pow (hn_n s) (by omega)
  obtain ⟨y, r, p1, p2⟩ := hn_forE (sx := sx) (sL := sL) (C := hn_ret sx sL (d + 3)) (fun i (J : Nat → Nat → Int) => hn_nx 143 10 [some (hn_vr 64), some (hn_vi c), some (hn_vi (hn_nm (hn_itr i (hn_allf s c) hn_b0))), some (hn_vi ((i + 1 : Nat) : Int)), none] [] (hn_m J k g)) (fun i J => J 64 14 = (hn_itr i (hn_allf s c) hn_b0).1 ∧ hn_fe J I) (2 ^ hn_n s - 1) (fun i J hi hJ => by
    obtain ⟨j1, j2⟩ := hJ
    have MJ : hn_MS J s := h.mv (fun j => j2.1 65 (by omega) j)
    have n0 := MJ.n hI
    have gy := (hn_gy0 s).all hI c i (by omega)
    obtain ⟨Y, hY⟩ : ∃ Y, Y = hn_itr i (hn_allf s c) hn_b0 := ⟨_, rfl⟩
    rw [← hY] at j1 gy
    show ∃ z, hn_go sx sL _ (hn_nx 143 10 [some (hn_vr 64), some (hn_vi c), some (hn_vi (hn_nm (hn_itr i (hn_allf s c) hn_b0))), some (hn_vi ((i + 1 : Nat) : Int)), none] [] (hn_m J k g)) (hn_nx 143 10 [some (hn_vr 64), some (hn_vi c), some (hn_vi (hn_nm (hn_allf s c i (hn_itr i (hn_allf s c) hn_b0)))), some (hn_vi (((i + 1 : Nat) : Int) + 1)), none] [] (hn_m z k g)) ∧ z 64 14 = (hn_allf s c i (hn_itr i (hn_allf s c) hn_b0)).1 ∧ hn_fe z I
    rw [← hY]
    have lt : ((i + 1 : Nat) : Int) < hn_shl 1 (J 65 0) := by rw [n0, e]; omega
    obtain ⟨K, c3, -, -, fK⟩ := hx_finds (sx := sx) (sL := sL) (k := k) (g := g) d hI MJ (w := i + 1) (by omega) (by omega)
    have k14 : K 64 14 = Y.1 := by rw [fK.2 14 (by omega) (by omega), j1]
    have fr : ∀ v, hn_fe (hn_up K 64 14 v) I := fun v => (show hn_fe (hn_up K 64 14 v) K from ⟨fun c hc j => hn_up_ne (Or.inl (by omega)), fun j _ _ hj => hn_up_ne (Or.inr hj)⟩).tr (fK.fe.tr j2)
    have nt : (hn_fnd s (i + 1)).2.1 < Y.1 → hn_nm (hn_try s (i + 1) Y) = ((i + 1 : Nat) : Int) ∧ (hn_try s (i + 1) Y).1 = (hn_fnd s (i + 1)).2.1 := fun t => by
      unfold hn_try
      rw [if_pos t]
      exact ⟨if_neg (by show ¬ ((i + 1 : Nat) : Int) = 0; omega), rfl⟩
    have nf : ¬ (hn_fnd s (i + 1)).2.1 < Y.1 → hn_try s (i + 1) Y = Y := fun t => if_neg t
    by_cases e0 : c = 0
    · have ea : hn_allf s c i Y = hn_try s (i + 1) Y := if_pos (Or.inl e0)
      rw [ea]
      by_cases t : (hn_fnd s (i + 1)).2.1 < Y.1
      · obtain ⟨t1, t2⟩ := nt t
        rw [t1, t2]
        exact ⟨_, hb_X7_bestMask_10_0 (h1 := lt) (h2 := e0) (c3 := c3) (h4 := by rw [k14]; exact t) (h5 := by omega), hn_up_eq, fr _⟩
      · rw [nf t]
        exact ⟨_, hb_X7_bestMask_10_1 (h1 := lt) (h2 := e0) (c3 := c3) (h4 := by rw [k14]; exact t) (h5 := by omega), by rw [hn_up_eq, k14], fr _⟩
    · have cb := hx_bits (sx := sx) (sL := sL) (I := J) (k := k) (g := g) (d + 2) (m := i + 1) (by omega)
      by_cases e1 : hn_bits (i + 1) = c
      · have ea : hn_allf s c i Y = hn_try s (i + 1) Y := if_pos (Or.inr e1)
        rw [ea]
        by_cases t : (hn_fnd s (i + 1)).2.1 < Y.1
        · obtain ⟨t1, t2⟩ := nt t
          rw [t1, t2]
          exact ⟨_, hb_X7_bestMask_10_2 (h1 := lt) (h2 := e0) (c3 := cb) (h4 := e1) (c5 := c3) (h6 := by rw [k14]; exact t) (h7 := by omega), hn_up_eq, fr _⟩
        · rw [nf t]
          exact ⟨_, hb_X7_bestMask_10_3 (h1 := lt) (h2 := e0) (c3 := cb) (h4 := e1) (c5 := c3) (h6 := by rw [k14]; exact t) (h7 := by omega), by rw [hn_up_eq, k14], fr _⟩
      · have ea : hn_allf s c i Y = Y := if_neg (by rintro (q | q); exact e0 q; exact e1 q)
        rw [ea]
        exact ⟨J, hb_X7_bestMask_10_4 (h1 := lt) (h2 := e0) (c3 := cb) (h4 := e1) (h5 := by omega), j1, j2⟩) (hn_up I 64 14 2147483647) ⟨hn_up_eq, ⟨fun c hc j => hn_up_ne (Or.inl (by omega)), fun j _ _ hj => hn_up_ne (Or.inr hj)⟩⟩
  have My : hn_MS y s := h.mv (fun j => p2.1 65 (by omega) j)
  have n0 := My.n hI
  exact ⟨y, hn_of rfl (hb_X7_bestMask_0_0.tr (r.tr (hb_X7_bestMask_10_5 (h1 := by rw [n0, e]; omega)))), p1, p2⟩
theorem hn_bst_gy {s : hn_S} (hI : hn_Iv s) (c : Int) : hn_gy s (hn_bst s c) := (hn_gy0 s).all hI c _ (Nat.le_refl _)
theorem hx_best (d : Nat) (hA : hn_AI a) (h : hn_MC I b a) (x : Int) : ∃ I', hn_ret sx sL (d + 5) 144 [hn_vr 64, hn_vi x] (hn_m I k g) (some (hn_vi (hr_best a.1 x))) (hn_m I' k g) ∧ hn_MC I' b a ∧ hn_fM I' I := by
  have c1 := hx_in (sx := sx) (sL := sL) (I := I) (k := k) (g := g) (d + 3) x 0 8
  unfold hr_best
  by_cases e : 0 ≤ x ∧ x ≤ 8
  · rw [if_pos e] at c1 ⊢
    obtain ⟨I2, c2, e14, f2⟩ := hx_bestMask (sx := sx) (sL := sL) (k := k) (g := g) d hA.1 h.1 x
    unfold hn_nm at c2
    unfold hn_lst
    by_cases q : (hn_bst a.1 x).2.1 = 0
    · rw [if_pos q] at c2 ⊢
      exact ⟨I2, hn_of rfl (hb_X7_best_0_1 (c1 := c1) (h2 := by decide) (c3 := c2) (h4 := rfl)), f2.MC h, f2.fM⟩
    · rw [if_neg q] at c2 ⊢
      rw [← e14]
      have ne : ¬ (hn_bst a.1 x).2.1 = -1 := by
        rcases hn_bst_gy hA.1 x with z | ⟨w, z⟩
        · exact absurd z.2 q
        · rw [z.lst.2.1]
          omega
      exact ⟨I2, hn_of rfl (hb_X7_best_0_2 (c1 := c1) (h2 := by decide) (c3 := c2) (h4 := ne)), f2.MC h, f2.fM⟩
  · rw [if_neg e] at c1 ⊢
    exact ⟨I, hn_of rfl (hb_X7_best_0_0 (c1 := c1) (h2 := by decide)), h, hn_fM.rf⟩
theorem hx_adopt (d : Nat) (hA : hn_AI a) (h : hn_MC I b a) (x : Int) : ∃ I', hn_ret sx sL (d + 5) 145 [hn_vr 64, hn_vi x] (hn_m I k g) (some (hn_vi (hr_adopt a.1 x))) (hn_m I' k g) ∧ hn_MC I' b (hn_recM b a (hr_adopt a.1 x) (hs_adopt a.1 x)) ∧ hn_fM I' I := by
  have c1 := hx_in (sx := sx) (sL := sL) (I := I) (k := k) (g := g) (d + 3) x 0 8
  by_cases e : 0 ≤ x ∧ x ≤ 8
  · rw [if_pos e] at c1
    have er : hr_adopt a.1 x = if (hn_bst a.1 x).2.1 = 0 then -1 else (hn_bst a.1 x).2.1 := by rw [hr_adopt, if_pos e]
    have es : hs_adopt a.1 x = hn_tk2 a.1 (hn_bst a.1 x) := by rw [hs_adopt, if_pos e]
    obtain ⟨I1, c2, M1, f1⟩ := hx_records (sx := sx) (sL := sL) (k := k) (g := g) (d + 2) hA.2.2.1 h
    have M1' : hn_MC I1 b (a.1, (hn_rcd b a).2) := M1
    obtain ⟨I2, c3, e14, f2⟩ := hx_bestMask (sx := sx) (sL := sL) (k := k) (g := g) d hA.1 M1'.1 x
    have M2 := f2.MC M1'
    unfold hn_nm at c3
    by_cases q : (hn_bst a.1 x).2.1 = 0
    · rw [if_pos q] at c3 er
      have et : hn_tk2 a.1 (hn_bst a.1 x) = a.1 := if_pos q
      rw [er, es, et]
      exact ⟨I2, hn_of rfl (hb_X7_adopt_0_1 (c1 := c1) (h2 := by decide) (c3 := c2) (c4 := c3) (h5 := rfl)), hx_rec (by decide) M2, f2.fM.tr f1.fM⟩
    · rw [if_neg q] at c3 er
      rcases hn_bst_gy hA.1 x with z | ⟨w, z⟩
      · exact absurd z.2 q
      · obtain ⟨l1, l2, l3, l4, l5⟩ := z.lst
        rw [er, es, l4, l2]
        rw [l2] at c3
        obtain ⟨I3, c4, -, p4, f4⟩ := hx_finds (sx := sx) (sL := sL) (k := k) (g := g) (d + 1) hA.1 M2.1 z.1 z.2.1
        have M3 := f4.MC M2
        have hb := z.2.2.2.1
        obtain ⟨I4, c5, M4, f5⟩ := hx_adopts (sx := sx) (sL := sL) (k := k) (g := g) (d + 3) hA.1 M3 (w := (w : Int)) (p4 (by omega))
        exact ⟨I4, hn_of rfl (hb_X7_adopt_0_2 (c1 := c1) (h2 := by decide) (c3 := c2) (c4 := c3) (h5 := by omega) (c6 := c4) (c7 := c5)), hx_rec (by omega) M4, fun c hc j => by rw [f5 c (by omega), f4.fM c hc, f2.fM c hc, f1.fM c hc]⟩
  · rw [if_neg e] at c1
    have er : hr_adopt a.1 x = -3 := by rw [hr_adopt, if_neg e]
    refine ⟨I, hn_of rfl ?_, hx_same h (by omega) (by rw [hs_adopt, if_neg e]), hn_fM.rf⟩
    rw [er]
    exact hb_X7_adopt_0_0 (c1 := c1) (h2 := by decide)
/-- the neighbours, once around -/
theorem hx_around (d : Nat) (hI : hn_Iv s) (h : hn_MS I s) {w : Nat} (hw : w < 2 ^ hn_n s) {x2 x3 : Int} : ∃ I', hn_go sx sL (hn_ret sx sL (d + 3)) (hn_nx 146 49 [some (hn_vr 64), some (hn_vi w), some (hn_vi x2), some (hn_vi x3), none, some (hn_vi (-1)), some (hn_vi 2147483647), some (hn_vi 0), none, none] [] (hn_m I k g)) (hn_nx 146 49 [some (hn_vr 64), some (hn_vi w), some (hn_vi x2), some (hn_vi x3), none, some (hn_vi (hn_nm (hn_itr (hn_n s) (hn_nbrf s w) hn_b0))), some (hn_vi (hn_itr (hn_n s) (hn_nbrf s w) hn_b0).1), some (hn_vi ((hn_n s : Nat) : Int)), none, none] [] (hn_m I' k g)) ∧ hn_fd I' I := by
  have h8 := hn_n8 hI
  have w8 := hn_w256 hI hw
  obtain ⟨y, r, p⟩ := hn_forE (sx := sx) (sL := sL) (C := hn_ret sx sL (d + 3)) (fun i (J : Nat → Nat → Int) => hn_nx 146 49 [some (hn_vr 64), some (hn_vi w), some (hn_vi x2), some (hn_vi x3), none, some (hn_vi (hn_nm (hn_itr i (hn_nbrf s w) hn_b0))), some (hn_vi (hn_itr i (hn_nbrf s w) hn_b0).1), some (hn_vi (i : Int)), none, none] [] (hn_m J k g)) (fun _ J => hn_fd J I) (hn_n s) (fun i J hi j2 => by
    have MJ : hn_MS J s := h.mv (fun j => j2.1 65 (by omega) j)
    have n0 := MJ.n hI
    have gy := (hn_gy0 s).nbr hI hw i (by omega)
    have ex := hn_xorb w w8 i (by omega)
    obtain ⟨Y, hY⟩ : ∃ Y, Y = hn_itr i (hn_nbrf s w) hn_b0 := ⟨_, rfl⟩
    rw [← hY] at gy
    show ∃ z, hn_go sx sL _ (hn_nx 146 49 [some (hn_vr 64), some (hn_vi w), some (hn_vi x2), some (hn_vi x3), none, some (hn_vi (hn_nm (hn_itr i (hn_nbrf s w) hn_b0))), some (hn_vi (hn_itr i (hn_nbrf s w) hn_b0).1), some (hn_vi (i : Int)), none, none] [] (hn_m J k g)) (hn_nx 146 49 [some (hn_vr 64), some (hn_vi w), some (hn_vi x2), some (hn_vi x3), none, some (hn_vi (hn_nm (hn_nbrf s w i (hn_itr i (hn_nbrf s w) hn_b0)))), some (hn_vi (hn_nbrf s w i (hn_itr i (hn_nbrf s w) hn_b0)).1), some (hn_vi ((i : Int) + 1)), none, none] [] (hn_m z k g)) ∧ hn_fd z I
    rw [← hY]
    by_cases e0 : w ^^^ 2 ^ i = 0
    · have ea : hn_nbrf s w i Y = Y := if_pos e0
      rw [ea]
      have := gy.le
      exact ⟨J, hb_X7_improve_49_1 (h1 := by omega) (h2 := by rw [ex, e0]; rfl) (h3 := by omega) (h4 := by omega), j2⟩
    · have ea : hn_nbrf s w i Y = hn_try s (w ^^^ 2 ^ i) Y := if_neg e0
      rw [ea]
      obtain ⟨K, c3, -, -, fK⟩ := hx_finds (sx := sx) (sL := sL) (k := k) (g := g) d hI MJ (w := w ^^^ 2 ^ i) e0 (hn_xlt hw hi)
      rw [← ex] at c3
      by_cases t : (hn_fnd s (w ^^^ 2 ^ i)).2.1 < Y.1
      · have et : hn_try s (w ^^^ 2 ^ i) Y = ((hn_fnd s (w ^^^ 2 ^ i)).2.1, ((w ^^^ 2 ^ i : Nat) : Int), (hn_fnd s (w ^^^ 2 ^ i)).2.2) := if_pos t
        have en : hn_nm ((hn_fnd s (w ^^^ 2 ^ i)).2.1, ((w ^^^ 2 ^ i : Nat) : Int), (hn_fnd s (w ^^^ 2 ^ i)).2.2) = hn_xor (w : Int) (hn_shl 1 (i : Int)) := by
          rw [ex]
          exact if_neg (by show ¬ ((w ^^^ 2 ^ i : Nat) : Int) = 0; omega)
        rw [et, en]
        exact ⟨K, hb_X7_improve_49_2 (h1 := by omega) (h2 := by rw [ex]; omega) (c3 := c3) (h4 := t) (h5 := by omega), fK.tr j2⟩
      · have et : hn_try s (w ^^^ 2 ^ i) Y = Y := if_neg t
        rw [et]
        exact ⟨K, hb_X7_improve_49_3 (h1 := by omega) (h2 := by rw [ex]; omega) (c3 := c3) (h4 := t) (h5 := by omega), fK.tr j2⟩) I hn_fd.rf
  exact ⟨y, r, p⟩
/-- the loop of improve -/
theorem hx_walk (d : Nat) (hI : hn_Iv s) {z : List hn_S × (Nat → Int) × Nat} : ∀ (f w i : Nat) (J : Nat → Nat → Int) (y : Int × Int × (Nat → Int)), 256 ≤ (i : Int) + (f : Int) → (i : Int) + hn_low s y.1 ≤ 255 → w < 2 ^ hn_n s → hn_MC J b (s, z) → ((y.1 = 2147483647 ∧ y.2.1 = 0) ∨ hn_gm s w y) →
    ∃ J', hn_go sx sL (hn_ret sx sL (d + 3)) (hn_nx 146 34 [some (hn_vr 64), some (hn_vi w), some (hn_vi y.1), some (hn_vi i), some (hn_vi 1), none, none, none, none, none] [] (hn_m J k g)) (.inr (some (hn_vi ((i + (hn_imp s f w y).1 : Nat) : Int)), hn_m J' k g)) ∧ hn_MC J' b (hn_tk2 s (hn_imp s f w y).2, z) ∧ hn_fM J' J := by
  intro f
  induction f with
  | zero =>
    intro w i J y hi hl hw hM hy
    exfalso
    have q := (hn_low_b s y.1).1
    have e : ((0 : Nat) : Int) = 0 := rfl
    rw [e] at hi
    clear hw hM hy
    omega
  | succ f ih =>
    intro w i J y hi hl hw hM hy
    have lb := hn_low_b s y.1
    have hgy : hn_gy s y := hy.elim Or.inl (fun q => Or.inr ⟨w, q⟩)
    have yl := hgy.le
    obtain ⟨J1, r1, f1⟩ := hx_around (sx := sx) (sL := sL) (k := k) (g := g) d hI hM.1 hw (x2 := y.1) (x3 := (i : Int))
    have M1 := f1.MC hM
    have n1 := M1.1.n hI
    have r0 := hb_X7_improve_34_2 (sx := sx) (sL := sL) (C := hn_ret sx sL (d + 3)) (I := J) (k := k) (g := g) (x1 := (w : Int)) (x2 := y.1) (x3 := (i : Int)) (x4 := 1) (h1 := by decide)
    have eb := hn_nbr_b0 (s := s) (w := w) (y := y) yl.2 (hn_n s)
    have gz := (hn_gy0 s).nbr hI hw (hn_n s) (Nat.le_refl _)
    obtain ⟨Z, hZ⟩ : ∃ Z, Z = hn_itr (hn_n s) (hn_nbrf s w) hn_b0 := ⟨_, rfl⟩
    rw [← hZ] at eb gz r1
    by_cases t : Z.1 < y.1
    · rw [if_pos t] at eb
      rcases gz with g1 | ⟨v, gv⟩
      · omega
      · obtain ⟨l1, l2, l3, l4, l5⟩ := gv.lst
        have en : hn_nm Z = (v : Int) := by
          unfold hn_nm
          rw [l2, if_neg l5]
        have em : hn_imp s (f + 1) w y = ((hn_imp s f v Z).1 + 1, (hn_imp s f v Z).2) := by
          have ev : Z.2.1.toNat = v := by rw [l2]; exact Int.toNat_natCast v
          rw [hn_imp, eb, if_pos t, ev]
        have lw := hn_low_lt (s := s) (c := Z.1) (c' := y.1) (by omega) gv.1 gv.2.1 (hn_w256 hI gv.2.1) (by omega) (by omega)
        obtain ⟨J', q1, q2, q3⟩ := ih v (i + 1) J1 Z (by omega) (by omega) gv.2.1 M1 (Or.inr gv)
        have r2 := hb_X7_improve_49_4 (sx := sx) (sL := sL) (C := hn_ret sx sL (d + 3)) (I := J1) (k := k) (g := g) (x1 := (w : Int)) (x2 := y.1) (x3 := (i : Int)) (x5 := hn_nm Z) (x6 := Z.1) (x7 := ((hn_n s : Nat) : Int)) (h1 := by omega) (h2 := t) (h3 := by omega)
        rw [en, ← Int.natCast_succ] at r2
        rw [en] at r1
        rw [em]
        refine ⟨J', ?_, q2, q3.tr f1.fM⟩
        have ei : i + ((hn_imp s f v Z).1 + 1) = i + 1 + (hn_imp s f v Z).1 := by omega
        show hn_go sx sL _ _ (.inr (some (hn_vi ((i + ((hn_imp s f v Z).1 + 1) : Nat) : Int)), hn_m J' k g))
        rw [ei]
        exact r0.tr (r1.tr (r2.tr q1))
    · rw [if_neg t] at eb
      have em : hn_imp s (f + 1) w y = (0, y) := by rw [hn_imp, eb, if_neg (Int.lt_irrefl _)]
      have r2 := hb_X7_improve_49_5 (sx := sx) (sL := sL) (C := hn_ret sx sL (d + 3)) (I := J1) (k := k) (g := g) (x1 := (w : Int)) (x2 := y.1) (x3 := (i : Int)) (x5 := hn_nm Z) (x6 := Z.1) (x7 := ((hn_n s : Nat) : Int)) (h1 := by omega) (h2 := t)
      rw [em]
      show ∃ J', hn_go sx sL _ _ (.inr (some (hn_vi (i : Int)), hn_m J' k g)) ∧ hn_MC J' b (hn_tk2 s y, z) ∧ hn_fM J' J
      rcases hy with q | q
      · have et : hn_tk2 s y = s := if_pos q.2
        rw [et]
        exact ⟨J1, r0.tr (r1.tr (r2.tr (hb_X7_improve_34_0 (h1 := rfl) (h2 := q.1)))), M1, f1.fM⟩
      · obtain ⟨l1, l2, l3, l4, l5⟩ := q.lst
        have hb := q.2.2.2.1
        obtain ⟨K, c3, -, pK, fK⟩ := hx_finds (sx := sx) (sL := sL) (k := k) (g := g) d hI M1.1 q.1 hw
        have MK := fK.MC M1
        obtain ⟨K2, c4, MK2, fK2⟩ := hx_adopts (sx := sx) (sL := sL) (k := k) (g := g) (d + 2) hI MK (w := (w : Int)) (pK (by omega))
        rw [l4]
        exact ⟨K2, r0.tr (r1.tr (r2.tr (hb_X7_improve_34_1 (h1 := rfl) (h2 := by omega) (c3 := c3) (c4 := c4)))), MK2, fun c hc j => by rw [fK2 c (by omega), fK.fM c hc, f1.fM c hc]⟩
theorem hx_improve (d : Nat) (hA : hn_AI a) (h : hn_MC I b a) : ∃ I', hn_ret sx sL (d + 4) 146 [hn_vr 64] (hn_m I k g) (some (hn_vi (hr_improve a.1))) (hn_m I' k g) ∧ hn_MC I' b (hn_recM b a (hr_improve a.1) (hs_improve a.1)) ∧ hn_fM I' I := by
  have e1 : I 65 1 = a.1 1 := h.1 1 (by omega)
  by_cases e : a.1 1 = 0
  · have er : hr_improve a.1 = -4 := by rw [hr_improve, if_pos e]
    refine ⟨I, hn_of rfl ?_, hx_same h (by omega) (by rw [hs_improve, if_pos e]), hn_fM.rf⟩
    rw [er]
    exact hb_X7_improve_0_0 (h1 := by omega)
  · have er : hr_improve a.1 = ((hn_imr a.1).1 : Int) := by rw [hr_improve, if_neg e]
    have es : hs_improve a.1 = hn_tk2 a.1 (hn_imr a.1).2 := by rw [hs_improve, if_neg e]
    obtain ⟨m0, m1⟩ := hc_hm0 hA e
    obtain ⟨I1, c1, M1, f1⟩ := hx_records (sx := sx) (sL := sL) (k := k) (g := g) (d + 1) hA.2.2.1 h
    have M1' : hn_MC I1 b (a.1, (hn_rcd b a).2) := M1
    obtain ⟨I2, c2, -, p2, f2⟩ := hx_finds (sx := sx) (sL := sL) (k := k) (g := g) d hA.1 M1'.1 m0 m1
    rw [← M1'.1.m hA.1] at c2
    have M2 := f2.MC M1'
    have lb := hn_low_b a.1 (hn_try a.1 (hn_hm a.1) hn_b0).1
    have y1 : (hn_try a.1 (hn_hm a.1) hn_b0).1 = (hn_fnd a.1 (hn_hm a.1)).2.1 := by
      rcases hn_try_b0 hA.1 m0 m1 with ⟨q1, q2⟩ | ⟨q1, q2⟩
      · rw [q2, q1]
        rfl
      · exact q2.lst.2.2.1
    have y2 : ((hn_try a.1 (hn_hm a.1) hn_b0).1 = 2147483647 ∧ (hn_try a.1 (hn_hm a.1) hn_b0).2.1 = 0) ∨ hn_gm a.1 (hn_hm a.1) (hn_try a.1 (hn_hm a.1) hn_b0) := by
      rcases hn_try_b0 hA.1 m0 m1 with ⟨q1, q2⟩ | ⟨q1, q2⟩
      · rw [q2]
        exact Or.inl ⟨rfl, rfl⟩
      · exact Or.inr q2
    obtain ⟨J', q1, q2, q3⟩ := hx_walk (sx := sx) (sL := sL) (k := k) (g := g) d hA.1 256 (hn_hm a.1) 0 I2 (hn_try a.1 (hn_hm a.1) hn_b0) (by decide) (by omega) m1 M2 y2
    rw [Nat.zero_add, y1] at q1
    have r0 := hb_X7_improve_0_1 (sx := sx) (sL := sL) (h1 := by omega) (c2 := c1) (c3 := c2)
    rw [M1'.1.m hA.1] at r0
    rw [er, es]
    exact ⟨J', hn_of rfl (r0.tr q1), hx_rec (by omega) q2, fun c hc j => by rw [q3 c hc, f2.fM c hc, f1.fM c hc]⟩
end HX48
