/-! the class's Search: tryAll, tryNeighbours, takeOver; bitCount -/
def hn_bits (w : Nat) : Int := hn_sm 8 (fun k => if w.testBit k then 1 else 0)
abbrev hn_bc1 (x : Int) : Int := x - (hn_and (hn_ushr x 1) 1431655765)
abbrev hn_bc2 (x : Int) : Int := (hn_and x 858993459) + (hn_and (hn_ushr x 2) 858993459)
abbrev hn_bc3 (x : Int) : Int := x + (hn_ushr x 4)
abbrev hn_bc4 (x : Int) : Int := x + (hn_ushr x 8)
abbrev hn_bc5 (x : Int) : Int := x + (hn_ushr x 16)
theorem hn_bc : ∀ m : Nat, m < 256 → hn_R (hn_bc1 m) ∧ hn_R (hn_bc2 (hn_bc1 m)) ∧ hn_R (hn_bc3 (hn_bc2 (hn_bc1 m))) ∧ hn_R (hn_bc4 (hn_and (hn_bc3 (hn_bc2 (hn_bc1 m))) 252645135)) ∧ hn_R (hn_bc5 (hn_bc4 (hn_and (hn_bc3 (hn_bc2 (hn_bc1 m))) 252645135))) ∧ hn_and (hn_bc5 (hn_bc4 (hn_and (hn_bc3 (hn_bc2 (hn_bc1 m))) 252645135))) 63 = hn_bits m := by decide +kernel
def hn_allf (s : hn_S) (c : Int) (j : Nat) (b : Int × Int × (Nat → Int)) : Int × Int × (Nat → Int) := if c = 0 ∨ hn_bits (j + 1) = c then hn_try s (j + 1) b else b
def hn_nbrf (s : hn_S) (w j : Nat) (b : Int × Int × (Nat → Int)) : Int × Int × (Nat → Int) := if w ^^^ 2 ^ j = 0 then b else hn_try s (w ^^^ 2 ^ j) b
theorem hn_allf_le (s : hn_S) (c : Int) (b : Int × Int × (Nat → Int)) (m : Nat) : (hn_itr m (hn_allf s c) b).1 ≤ b.1 := by
  induction m with
  | zero => exact Int.le_refl _
  | succ m ih =>
    rw [hn_itr_up]
    unfold hn_allf
    by_cases e : c = 0 ∨ hn_bits (m + 1) = c
    · rw [if_pos e]
      exact Int.le_trans (hn_try_le s _ _) ih
    · rw [if_neg e]
      exact ih
theorem hn_nbrf_le (s : hn_S) (w : Nat) (b : Int × Int × (Nat → Int)) (m : Nat) : (hn_itr m (hn_nbrf s w) b).1 ≤ b.1 := by
  induction m with
  | zero => exact Int.le_refl _
  | succ m ih =>
    rw [hn_itr_up]
    unfold hn_nbrf
    by_cases e : w ^^^ 2 ^ m = 0
    · rw [if_pos e]
      exact ih
    · rw [if_neg e]
      exact Int.le_trans (hn_try_le s _ _) ih
/-- a state that takes over a mask and a plan -/
def hn_take (s : hn_S) (w : Int) (P : Nat → Int) : hn_S := fun j => if j = 1 then w else if 42 ≤ j ∧ j < 42 + hn_n s then P (j - 42) else s j
section HX36
variable {sx : Nat → Int} {sL : Nat} {I : Nat → Nat → Int} {k : Nat → Option Nat} {g : Nat → Nat → Int64} {s : hn_S}
set_option maxRecDepth 100000 in
theorem hm_bitCount (d : Nat) {m : Nat} (hm : m < 256) : hn_ret sx sL (d + 1) 163 [hn_vi m] (hn_m I k g) (some (hn_vi (hn_bits m))) (hn_m I k g) := by
  obtain ⟨h1, h2, h3, h4, h5, e⟩ := hn_bc m hm
  rw [← e]
  exact hn_of rfl (hb_J6_bitCount_0_0 h1 h2 h3 h4 h5)
theorem hm_tryAll (d : Nat) (hI : hn_Iv s) (h : hn_HS I 1 s) (hS : hn_SS s I) (c : Int) {b : Int × Int × (Nat → Int)} (hB : hn_BS (hn_n s) I b) (hb : b.1 ≤ 2147483647) :
    ∃ I', hn_ret sx sL (d + 13) 23 [hn_vr 48, hn_vi c] (hn_m I k g) none (hn_m I' k g) ∧ hn_BS (hn_n s) I' (hn_itr (2 ^ hn_n s - 1) (hn_allf s c) b) ∧ hn_kt I' I := by
  have h8 := hn_n8 hI
  have hn := h.n hI
  have hp : 2 ^ hn_n s ≤ 2 ^ 8 := Nat.pow_le_pow_right (by omega) h8
  have hp0 : 0 < 2 ^ hn_n s := Nat.pow_pos (by omega)
  obtain ⟨y, q1, q2, q3⟩ := hn_forE (sx := sx) (sL := sL) (C := hn_ret sx sL (d + 12)) (fun j (J : Nat → Nat → Int) => hn_nx 23 2 [some (hn_vr 48), some (hn_vi c), some (hn_vi ((j : Int) + 1))] [] (hn_m J k g)) (fun j J => hn_BS (hn_n s) J (hn_itr j (hn_allf s c) b) ∧ hn_kt J I) (2 ^ hn_n s - 1) (fun j J hj hJ => by
    obtain ⟨jB, jK⟩ := hJ
    have H1 : hn_HS J 1 s := h.mv (fun c a b j => jK c (by omega) j)
    have S1 : hn_SS s J := hS.mv (fun c a b j => jK c (by omega) j)
    have nJ := H1.n hI
    have c1 := hm_allNodes (sx := sx) (sL := sL) (k := k) (g := g) (d + 11) nJ h8
    have ec : (j : Int) + 1 = ((j + 1 : Nat) : Int) := by omega
    have en : ((j + 1 : Nat) : Int) + 1 = (((j + 1) : Nat) : Int) + 1 := rfl
    obtain ⟨J2, c2, B2, k2⟩ := hm_tryHubs (sx := sx) (sL := sL) (k := k) (g := g) d hI H1 S1 (w := j + 1) (by omega) (by omega) jB (Int.le_trans (hn_allf_le s c b j) hb)
    show ∃ z, hn_go sx sL _ (hn_nx 23 2 [some (hn_vr 48), some (hn_vi c), some (hn_vi ((j : Int) + 1))] [] (hn_m J k g)) (hn_nx 23 2 [some (hn_vr 48), some (hn_vi c), some (hn_vi (((j + 1 : Nat) : Int) + 1))] [] (hn_m z k g)) ∧ _
    rw [ec, hn_itr_up]
    by_cases e0 : c = 0
    · refine ⟨J2, hb_X3_tryAll_2_1 (c1 := c1) (h2 := by omega) (h3 := e0) (c4 := c2) (h5 := by omega), ?_, k2.tr jK⟩
      unfold hn_allf
      rw [if_pos (Or.inl e0)]
      exact B2
    · have c3 := hm_bitCount (sx := sx) (sL := sL) (I := J) (k := k) (g := g) (d + 11) (m := j + 1) (by omega)
      by_cases e1 : hn_bits (j + 1) = c
      · refine ⟨J2, hb_X3_tryAll_2_2 (c1 := c1) (h2 := by omega) (h3 := e0) (c4 := c3) (h5 := e1) (c6 := c2) (h7 := by omega), ?_, k2.tr jK⟩
        unfold hn_allf
        rw [if_pos (Or.inr e1)]
        exact B2
      · refine ⟨J, hb_X3_tryAll_2_3 (c1 := c1) (h2 := by omega) (h3 := e0) (c4 := c3) (h5 := e1) (h6 := by omega), ?_, jK⟩
        unfold hn_allf
        rw [if_neg (by rintro (q | q); exact e0 q; exact e1 q)]
        exact jB) I ⟨hB, hn_kt.rf⟩
  have H1 : hn_HS y 1 s := h.mv (fun c a b j => q3 c (by omega) j)
  have c1 := hm_allNodes (sx := sx) (sL := sL) (k := k) (g := g) (d + 11) (H1.n hI) h8
  exact ⟨y, hn_of rfl (hb_X3_tryAll_0_0.tr (q1.tr (hb_X3_tryAll_2_0 (c1 := c1) (h2 := by omega)))), q2, q3⟩
theorem hm_tryNeighbours (d : Nat) (hI : hn_Iv s) (h : hn_HS I 1 s) (hS : hn_SS s I) {w : Nat} (hw : w < 2 ^ hn_n s) {b : Int × Int × (Nat → Int)} (hB : hn_BS (hn_n s) I b) (hb : b.1 ≤ 2147483647) :
    ∃ I', hn_ret sx sL (d + 13) 24 [hn_vr 48, hn_vi w] (hn_m I k g) (some (hn_vi (if (hn_itr (hn_n s) (hn_nbrf s w) b).1 < b.1 then 1 else 0))) (hn_m I' k g) ∧ hn_BS (hn_n s) I' (hn_itr (hn_n s) (hn_nbrf s w) b) ∧ hn_kt I' I := by
  have h8 := hn_n8 hI
  have hn := h.n hI
  have w8 := hn_w256 hI hw
  obtain ⟨y, q1, q2, q3⟩ := hn_forE (sx := sx) (sL := sL) (C := hn_ret sx sL (d + 12)) (fun j (J : Nat → Nat → Int) => hn_nx 24 4 [some (hn_vr 48), some (hn_vi w), some (hn_vi (if (hn_itr j (hn_nbrf s w) b).1 < b.1 then 1 else 0)), some (hn_vi (j : Int)), none] [] (hn_m J k g)) (fun j J => hn_BS (hn_n s) J (hn_itr j (hn_nbrf s w) b) ∧ hn_kt J I) (hn_n s) (fun j J hj hJ => by
    obtain ⟨jB, jK⟩ := hJ
    have H1 : hn_HS J 1 s := h.mv (fun c a b j => jK c (by omega) j)
    have S1 : hn_SS s J := hS.mv (fun c a b j => jK c (by omega) j)
    have nJ := H1.n hI
    have ex := hn_xorb w w8 j (by omega)
    have le := hn_nbrf_le s w b j
    have x2 : w ^^^ 2 ^ j < 2 ^ hn_n s := Nat.xor_lt_two_pow hw (Nat.pow_lt_pow_right (by omega) hj)
    have t0 : (if (hn_itr j (hn_nbrf s w) b).1 < b.1 then (1 : Int) else 0) = 0 ∨ (if (hn_itr j (hn_nbrf s w) b).1 < b.1 then (1 : Int) else 0) = 1 := by
      by_cases e : (hn_itr j (hn_nbrf s w) b).1 < b.1
      · rw [if_pos e]
        exact Or.inr rfl
      · rw [if_neg e]
        exact Or.inl rfl
    show ∃ z, hn_go sx sL _ _ (hn_nx 24 4 [some (hn_vr 48), some (hn_vi w), some (hn_vi (if (hn_itr (j + 1) (hn_nbrf s w) b).1 < b.1 then 1 else 0)), some (hn_vi (((j + 1 : Nat)) : Int)), none] [] (hn_m z k g)) ∧ _
    rw [hn_itr_up]
    by_cases e0 : w ^^^ 2 ^ j = 0
    · have en : hn_nbrf s w j (hn_itr j (hn_nbrf s w) b) = hn_itr j (hn_nbrf s w) b := if_pos e0
      rw [en]
      exact ⟨J, hb_X3_tryNeighbours_4_0 (h1 := by omega) (h2 := by rw [ex, e0]; rfl) (h3 := by omega), jB, jK⟩
    · have en : hn_nbrf s w j (hn_itr j (hn_nbrf s w) b) = hn_try s (w ^^^ 2 ^ j) (hn_itr j (hn_nbrf s w) b) := if_neg e0
      rw [en]
      obtain ⟨J2, c2, B2, k2⟩ := hm_tryHubs (sx := sx) (sL := sL) (k := k) (g := g) d hI H1 S1 (w := w ^^^ 2 ^ j) e0 x2 jB (Int.le_trans le hb)
      rw [← ex] at c2
      by_cases e1 : (hn_try s (w ^^^ 2 ^ j) (hn_itr j (hn_nbrf s w) b)).1 < (hn_itr j (hn_nbrf s w) b).1
      · rw [if_pos e1] at c2
        have e3 : (if (hn_try s (w ^^^ 2 ^ j) (hn_itr j (hn_nbrf s w) b)).1 < b.1 then (1 : Int) else 0) = 1 := if_pos (by omega)
        rw [e3]
        exact ⟨J2, hb_X3_tryNeighbours_4_2 (h1 := by omega) (h2 := by rw [ex]; omega) (c3 := c2) (h4 := by decide) (h5 := by omega), B2, k2.tr jK⟩
      · rw [if_neg e1] at c2
        have le2 := hn_try_le s (w ^^^ 2 ^ j) (hn_itr j (hn_nbrf s w) b)
        have e2 : (hn_try s (w ^^^ 2 ^ j) (hn_itr j (hn_nbrf s w) b)).1 = (hn_itr j (hn_nbrf s w) b).1 := by omega
        rw [e2]
        exact ⟨J2, hb_X3_tryNeighbours_4_1 (h1 := by omega) (h2 := by rw [ex]; omega) (c3 := c2) (h4 := rfl) (h5 := by omega), B2, k2.tr jK⟩) I ⟨hB, hn_kt.rf⟩
  have H1 : hn_HS y 1 s := h.mv (fun c a b j => q3 c (by omega) j)
  have nJ := H1.n hI
  have q1' : hn_go sx sL (hn_ret sx sL (d + 12)) (hn_nx 24 4 [some (hn_vr 48), some (hn_vi w), some (hn_vi 0), some (hn_vi 0), none] [] (hn_m I k g)) (hn_nx 24 4 [some (hn_vr 48), some (hn_vi w), some (hn_vi (if (hn_itr (hn_n s) (hn_nbrf s w) b).1 < b.1 then 1 else 0)), some (hn_vi ((hn_n s : Nat) : Int)), none] [] (hn_m y k g)) := by
    have e : (if (hn_itr 0 (hn_nbrf s w) b).1 < b.1 then (1 : Int) else 0) = 0 := if_neg (Int.lt_irrefl b.1)
    have q : hn_go sx sL (hn_ret sx sL (d + 12)) (hn_nx 24 4 [some (hn_vr 48), some (hn_vi w), some (hn_vi (if (hn_itr 0 (hn_nbrf s w) b).1 < b.1 then 1 else 0)), some (hn_vi ((0 : Nat) : Int)), none] [] (hn_m I k g)) _ := q1
    rw [e] at q
    exact q
  refine ⟨y, hn_of rfl (hb_X3_tryNeighbours_0_0.tr (q1'.tr (hb_X3_tryNeighbours_4_3 (h1 := by omega) (h2 := ?_)))), q2, q3⟩
  by_cases e : (hn_itr (hn_n s) (hn_nbrf s w) b).1 < b.1
  · rw [if_pos e]
    exact Or.inr rfl
  · rw [if_neg e]
    exact Or.inl rfl
theorem hn_take_HS (hI : hn_Iv s) (h : hn_HS I 1 s) {w : Int} {P : Nat → Int} (hP : ∀ v, v < hn_n s → I 58 v = P v) : hn_HS (hn_cp (hn_up I 1 7 w) 58 0 6 0 (hn_n s)) 1 (hn_take s w P) := by
  have h8 := hn_n8 hI
  obtain ⟨a0, a1, a2, a3, a4, a5, a6, a7, a8⟩ := h
  have tk : ∀ j, j ≠ 1 → ¬ (42 ≤ j ∧ j < 50) → hn_take s w P j = s j := fun j h1 h2 => by
    unfold hn_take
    rw [if_neg h1, if_neg (fun q => h2 ⟨q.1, by omega⟩)]
  refine ⟨?_, ?_, fun j hj => ?_, fun v hv => ?_, fun v hv => ?_, fun v hv => ?_, fun v hv => ?_, fun v hv => ?_, fun j hj => ?_⟩
  · rw [hn_cp_ne (by omega), hn_up_ne (Or.inr (by omega)), a0, tk 0 (by omega) (by omega)]
  · rw [hn_cp_ne (by omega), hn_up_eq]
    rfl
  · rw [hn_cp_ne (by omega), hn_up_ne (Or.inr (by omega)), a2 j hj, tk _ (by omega) (by omega)]
  · rw [hn_cp_ne (by omega), hn_up_ne (Or.inl (by omega)), a3 v hv, tk _ (by omega) (by omega)]
  · rw [hn_cp_ne (by omega), hn_up_ne (Or.inl (by omega)), a4 v hv, tk _ (by omega) (by omega)]
  · rw [hn_cp_ne (by omega), hn_up_ne (Or.inl (by omega)), a5 v hv, tk _ (by omega) (by omega)]
  · rw [hn_cp_ne (by omega), hn_up_ne (Or.inl (by omega)), a6 v hv, tk _ (by omega) (by omega)]
  · by_cases e : v < hn_n s
    · rw [hn_cp_in e, hn_up_ne (Or.inl (by omega)), hP v e]
      unfold hn_take
      rw [if_neg (by omega), if_pos (by omega), show 42 + v - 42 = v by omega]
    · have : hn_take s w P (42 + v) = s (42 + v) := by
        unfold hn_take
        rw [if_neg (by omega), if_neg (by omega)]
      rw [this, ← a7 v hv]
      unfold hn_cp
      have eb : (Nat.ble 0 v && Nat.blt v (0 + hn_n s)) = false := by
        rw [Bool.and_eq_false_iff]
        right
        rw [← Bool.not_eq_true, Nat.blt_eq]
        omega
      show cond (Nat.beq 6 6) (cond (Nat.ble 0 v && Nat.blt v (0 + hn_n s)) _ _) _ = _
      rw [eb]
      show hn_up I 1 7 w (1 + 5) v = I (1 + 5) v
      exact hn_up_ne (Or.inl (by omega))
  · rw [hn_cp_ne (by omega), hn_up_ne (Or.inl (by omega)), a8 j hj, tk _ (by omega) (by omega)]
theorem hm_takeOver1 (d : Nat) (hI : hn_Iv s) (h : hn_HS I 1 s) {b : Int × Int × (Nat → Int)} (hB : hn_BS (hn_n s) I b) (h0 : b.2.1 ≠ 0) :
    ∃ I', hn_ret sx sL (d + 1) 22 [hn_vr 48] (hn_m I k g) none (hn_m I' k g) ∧ hn_HS I' 1 (hn_take s b.2.1 b.2.2) ∧ ∀ c, c < 1 ∨ 8 ≤ c → ∀ j, I' c j = I c j := by
  have hn := h.n hI
  have h8 := hn_n8 hI
  have r := hb_X3_takeOver_0_1 (sx := sx) (sL := sL) (C := hn_ret sx sL d) (I := I) (k := k) (g := g) (h1 := by rw [hB.2.1]; exact h0) (h2 := by omega)
  rw [hn, Int.toNat_natCast, hB.2.1] at r
  exact ⟨_, hn_of rfl r, hn_take_HS hI h hB.2.2, fun c hc j => by rw [hn_cp_ne (by omega), hn_up_ne (Or.inl (by omega))]⟩
theorem hm_takeOver0 (d : Nat) {b : Int × Int × (Nat → Int)} (hB : hn_BS (hn_n s) I b) (h0 : b.2.1 = 0) : hn_ret sx sL (d + 1) 22 [hn_vr 48] (hn_m I k g) none (hn_m I k g) :=
  hn_of rfl (hb_X3_takeOver_0_0 (h1 := by rw [hB.2.1]; exact h0))
end HX36
theorem hn_take_Iv {s : hn_S} (hI : hn_Iv s) {w : Nat} (hw : w < 2 ^ hn_n s) {q : Nat → Nat} (hV : hn_Pl (hn_hl w (hn_n s)) (hn_fr w (hn_n s)) q (hn_fr w (hn_n s)).length) : hn_Iv (hn_take s (w : Int) (hn_P q)) := by
  have h8 := hn_n8 hI
  have hp := hV.hp
  obtain ⟨i1, i2, i3, i4, i5, i6, i7, i8⟩ := hI
  have e1 : hn_take s (w : Int) (hn_P q) 1 = w := rfl
  have tk : ∀ j, j ≠ 1 → ¬ (42 ≤ j ∧ j < 42 + hn_n s) → hn_take s (w : Int) (hn_P q) j = s j := fun j h1 h2 => by
    unfold hn_take
    rw [if_neg h1, if_neg h2]
  have th : ∀ v, v < hn_n s → hn_take s (w : Int) (hn_P q) (42 + v) = (q v : Int) := fun v hv => by
    unfold hn_take
    rw [if_neg (by omega), if_pos (by omega), show 42 + v - 42 = v by omega]
    rfl
  have en : hn_n (hn_take s (w : Int) (hn_P q)) = hn_n s := by
    unfold hn_n
    rw [tk 0 (by omega) (by omega)]
  have em : hn_hm (hn_take s (w : Int) (hn_P q)) = w := by
    unfold hn_hm
    rw [e1, Int.toNat_natCast]
  refine ⟨by rw [en, tk 0 (by omega) (by omega)]; exact i1, by rw [en, em]; exact ⟨e1, hw⟩, ?_, ?_, fun v hv => ?_, fun j hj => by rw [tk _ (by omega) (by omega)]; exact i6 j hj, fun v hv => by rw [tk _ (by omega) (by omega)]; exact i7 v hv, fun v hv => ?_⟩
  · rw [tk 2 (by omega) (by omega), tk 3 (by omega) (by omega), tk 4 (by omega) (by omega), tk 5 (by omega) (by omega)]
    exact i3
  · rw [tk 6 (by omega) (by omega), tk 7 (by omega) (by omega), tk 8 (by omega) (by omega), tk 9 (by omega) (by omega)]
    exact i4
  · have := i5 v hv
    rw [tk (10 + v) (by omega) (by omega), tk (18 + v) (by omega) (by omega), tk (26 + v) (by omega) (by omega), tk (34 + v) (by omega) (by omega)]
    refine ⟨this.1, this.2.1, this.2.2.1, this.2.2.2.1, ?_⟩
    by_cases e : v < hn_n s
    · rw [th v e]
      have := (hp v e).1
      omega
    · rw [tk (42 + v) (by omega) (by omega)]
      exact this.2.2.2.2
  · rw [en] at hv
    rw [em, en, th v hv]
    have := hp v hv
    refine ⟨fun hb => ?_, fun _ => ⟨q v, this.1, rfl, this.2⟩⟩
    rw [hV.1 v (hn_hl_mem.mpr ⟨hv, hb⟩)]
