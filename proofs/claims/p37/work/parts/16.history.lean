/-! copies of States, the history -/
section HX1
variable {sx : Nat → Int} {sL : Nat} {I : Nat → Nat → Int} {k : Nat → Option Nat} {g : Nat → Nat → Int64}
theorem hn_cp_ne {f : Nat → Nat → Int} {a0 sp a dp n c j : Nat} (h : c ≠ a) : hn_cp f a0 sp a dp n c j = f c j := by
  unfold hn_cp
  rw [hn_beqF h]
  rfl
theorem hn_cp_in {f : Nat → Nat → Int} {a0 a n j : Nat} (h : j < n) : hn_cp f a0 0 a 0 n a j = f a0 j := by
  unfold hn_cp
  rw [hn_beqT, show (Nat.ble 0 j && Nat.blt j (0 + n)) = true from Bool.and_eq_true_iff.mpr ⟨Nat.ble_eq_true_of_le (Nat.zero_le j), hn_bltT.mpr (by omega)⟩]
  show f a0 (0 + (j - 0)) = f a0 j
  congr 1
  omega
/-- copyFrom: the State at a becomes that at b -/
def hn_cpy (I : Nat → Nat → Int) (a b : Nat) : Nat → Nat → Int := hn_up (hn_up (hn_up (hn_up (hn_up (hn_up (hn_up (hn_up (hn_up (hn_cp (hn_cp (hn_cp (hn_cp (hn_cp (hn_cp (hn_up I a 0 (I b 0)) (b + 1) 0 (a + 1) 0 8) (b + 2) 0 (a + 2) 0 8) (b + 3) 0 (a + 3) 0 8) (b + 4) 0 (a + 4) 0 8) (b + 5) 0 (a + 5) 0 8) (b + 6) 0 (a + 6) 0 64) a 7 (I b 7)) a 8 (I b 8)) a 9 (I b 9)) a 10 (I b 10)) a 11 (I b 11)) a 12 (I b 12)) a 13 (I b 13)) a 14 (I b 14)) a 15 (I b 15)
theorem hn_cpy_fr {a b c j : Nat} (h : c < a ∨ a + 6 < c) : hn_cpy I a b c j = I c j := by
  unfold hn_cpy
  rw [hn_up_ne (Or.inl (by omega)), hn_up_ne (Or.inl (by omega)), hn_up_ne (Or.inl (by omega)), hn_up_ne (Or.inl (by omega)), hn_up_ne (Or.inl (by omega)), hn_up_ne (Or.inl (by omega)), hn_up_ne (Or.inl (by omega)), hn_up_ne (Or.inl (by omega)), hn_up_ne (Or.inl (by omega)),
    hn_cp_ne (by omega), hn_cp_ne (by omega), hn_cp_ne (by omega), hn_cp_ne (by omega), hn_cp_ne (by omega), hn_cp_ne (by omega), hn_up_ne (Or.inl (by omega))]
theorem hn_cpy_ar {a b i j n : Nat} (hd : a + 6 < b ∨ b + 6 < a) (hi : 1 ≤ i) (hi2 : i ≤ 6) (hn : n = if i = 6 then 64 else 8) (hj : j < n) : hn_cpy I a b (a + i) j = I (b + i) j := by
  unfold hn_cpy
  rw [hn_up_ne (Or.inl (by omega)), hn_up_ne (Or.inl (by omega)), hn_up_ne (Or.inl (by omega)), hn_up_ne (Or.inl (by omega)), hn_up_ne (Or.inl (by omega)), hn_up_ne (Or.inl (by omega)), hn_up_ne (Or.inl (by omega)), hn_up_ne (Or.inl (by omega)), hn_up_ne (Or.inl (by omega))]
  have h6 : i = 1 ∨ i = 2 ∨ i = 3 ∨ i = 4 ∨ i = 5 ∨ i = 6 := by omega
  rcases h6 with rfl | rfl | rfl | rfl | rfl | rfl
  · rw [if_neg (by decide)] at hn
    rw [hn_cp_ne (by omega), hn_cp_ne (by omega), hn_cp_ne (by omega), hn_cp_ne (by omega), hn_cp_ne (by omega), hn_cp_in (by omega), hn_up_ne (Or.inl (by omega))]
  · rw [if_neg (by decide)] at hn
    rw [hn_cp_ne (by omega), hn_cp_ne (by omega), hn_cp_ne (by omega), hn_cp_ne (by omega), hn_cp_in (by omega), hn_cp_ne (by omega), hn_up_ne (Or.inl (by omega))]
  · rw [if_neg (by decide)] at hn
    rw [hn_cp_ne (by omega), hn_cp_ne (by omega), hn_cp_ne (by omega), hn_cp_in (by omega), hn_cp_ne (by omega), hn_cp_ne (by omega), hn_up_ne (Or.inl (by omega))]
  · rw [if_neg (by decide)] at hn
    rw [hn_cp_ne (by omega), hn_cp_ne (by omega), hn_cp_in (by omega), hn_cp_ne (by omega), hn_cp_ne (by omega), hn_cp_ne (by omega), hn_up_ne (Or.inl (by omega))]
  · rw [if_neg (by decide)] at hn
    rw [hn_cp_ne (by omega), hn_cp_in (by omega), hn_cp_ne (by omega), hn_cp_ne (by omega), hn_cp_ne (by omega), hn_cp_ne (by omega), hn_up_ne (Or.inl (by omega))]
  · rw [if_pos rfl] at hn
    rw [hn_cp_in (by omega), hn_cp_ne (by omega), hn_cp_ne (by omega), hn_cp_ne (by omega), hn_cp_ne (by omega), hn_cp_ne (by omega), hn_up_ne (Or.inl (by omega))]
theorem hn_cpy_f (a b j : Nat) (hj : j = 0 ∨ 7 ≤ j) (hj2 : j ≤ 15) : hn_cpy I a b a j = I b j := by
  unfold hn_cpy
  have h : j = 0 ∨ j = 7 ∨ j = 8 ∨ j = 9 ∨ j = 10 ∨ j = 11 ∨ j = 12 ∨ j = 13 ∨ j = 14 ∨ j = 15 := by omega
  rcases h with rfl | rfl | rfl | rfl | rfl | rfl | rfl | rfl | rfl | rfl
  · rw [hn_up_ne (Or.inr (by omega)), hn_up_ne (Or.inr (by omega)), hn_up_ne (Or.inr (by omega)), hn_up_ne (Or.inr (by omega)), hn_up_ne (Or.inr (by omega)), hn_up_ne (Or.inr (by omega)), hn_up_ne (Or.inr (by omega)), hn_up_ne (Or.inr (by omega)), hn_up_ne (Or.inr (by omega)),
      hn_cp_ne (by omega), hn_cp_ne (by omega), hn_cp_ne (by omega), hn_cp_ne (by omega), hn_cp_ne (by omega), hn_cp_ne (by omega), hn_up_eq]
  · rw [hn_up_ne (Or.inr (by omega)), hn_up_ne (Or.inr (by omega)), hn_up_ne (Or.inr (by omega)), hn_up_ne (Or.inr (by omega)), hn_up_ne (Or.inr (by omega)), hn_up_ne (Or.inr (by omega)), hn_up_ne (Or.inr (by omega)), hn_up_ne (Or.inr (by omega)), hn_up_eq]
  · rw [hn_up_ne (Or.inr (by omega)), hn_up_ne (Or.inr (by omega)), hn_up_ne (Or.inr (by omega)), hn_up_ne (Or.inr (by omega)), hn_up_ne (Or.inr (by omega)), hn_up_ne (Or.inr (by omega)), hn_up_ne (Or.inr (by omega)), hn_up_eq]
  · rw [hn_up_ne (Or.inr (by omega)), hn_up_ne (Or.inr (by omega)), hn_up_ne (Or.inr (by omega)), hn_up_ne (Or.inr (by omega)), hn_up_ne (Or.inr (by omega)), hn_up_ne (Or.inr (by omega)), hn_up_eq]
  · rw [hn_up_ne (Or.inr (by omega)), hn_up_ne (Or.inr (by omega)), hn_up_ne (Or.inr (by omega)), hn_up_ne (Or.inr (by omega)), hn_up_ne (Or.inr (by omega)), hn_up_eq]
  · rw [hn_up_ne (Or.inr (by omega)), hn_up_ne (Or.inr (by omega)), hn_up_ne (Or.inr (by omega)), hn_up_ne (Or.inr (by omega)), hn_up_eq]
  · rw [hn_up_ne (Or.inr (by omega)), hn_up_ne (Or.inr (by omega)), hn_up_ne (Or.inr (by omega)), hn_up_eq]
  · rw [hn_up_ne (Or.inr (by omega)), hn_up_ne (Or.inr (by omega)), hn_up_eq]
  · rw [hn_up_ne (Or.inr (by omega)), hn_up_eq]
  · rw [hn_up_eq]
theorem hn_cpy_HS {a b : Nat} {s : hn_S} (hd : a + 6 < b ∨ b + 6 < a) (h : hn_HS I b s) : hn_HS (hn_cpy I a b) a s := by
  obtain ⟨h0, h1, h2, h3, h4, h5, h6, h7, h8⟩ := h
  refine ⟨?_, ?_, fun j hj => ?_, fun v hv => ?_, fun v hv => ?_, fun v hv => ?_, fun v hv => ?_, fun v hv => ?_, fun j hj => ?_⟩
  · rw [hn_cpy_f a b 0 (by omega) (by omega), h0]
  · rw [hn_cpy_f a b 7 (by omega) (by omega), h1]
  · rw [hn_cpy_f a b (8 + j) (by omega) (by omega), h2 j hj]
  · rw [hn_cpy_ar hd (by omega) (by omega) rfl (by simpa using hv), h3 v hv]
  · rw [hn_cpy_ar hd (by omega) (by omega) rfl (by simpa using hv), h4 v hv]
  · rw [hn_cpy_ar hd (by omega) (by omega) rfl (by simpa using hv), h5 v hv]
  · rw [hn_cpy_ar hd (by omega) (by omega) rfl (by simpa using hv), h6 v hv]
  · rw [hn_cpy_ar hd (by omega) (by omega) rfl (by simpa using hv), h7 v hv]
  · rw [hn_cpy_ar hd (by omega) (by omega) rfl (by simpa using hj), h8 j hj]
theorem hn_HS.mv {I' : Nat → Nat → Int} {b : Nat} {s : hn_S} (h : hn_HS I b s) (e : ∀ c, b ≤ c → c ≤ b + 6 → ∀ j, I' c j = I c j) : hn_HS I' b s := by
  obtain ⟨h0, h1, h2, h3, h4, h5, h6, h7, h8⟩ := h
  exact ⟨by rw [e b (by omega) (by omega), h0], by rw [e b (by omega) (by omega), h1], fun j hj => by rw [e b (by omega) (by omega), h2 j hj], fun v hv => by rw [e _ (by omega) (by omega), h3 v hv], fun v hv => by rw [e _ (by omega) (by omega), h4 v hv], fun v hv => by rw [e _ (by omega) (by omega), h5 v hv], fun v hv => by rw [e _ (by omega) (by omega), h6 v hv], fun v hv => by rw [e _ (by omega) (by omega), h7 v hv], fun j hj => by rw [e _ (by omega) (by omega), h8 j hj]⟩
theorem hn_HS.eq {b : Nat} {s t : hn_S} (h : hn_HS I b s) (e : hn_eq114 s t) : hn_HS I b t := by
  obtain ⟨h0, h1, h2, h3, h4, h5, h6, h7, h8⟩ := h
  exact ⟨by rw [h0, e 0 (by omega)], by rw [h1, e 1 (by omega)], fun j hj => by rw [h2 j hj, e _ (by omega)], fun v hv => by rw [h3 v hv, e _ (by omega)], fun v hv => by rw [h4 v hv, e _ (by omega)], fun v hv => by rw [h5 v hv, e _ (by omega)], fun v hv => by rw [h6 v hv, e _ (by omega)], fun v hv => by rw [h7 v hv, e _ (by omega)], fun j hj => by rw [h8 j hj, e _ (by omega)]⟩
def hn_kb (b : Nat) : Prop := b = 17 ∨ b = 24 ∨ b = 31 ∨ b = 38
theorem hm_copyB (d : Nat) : hn_ret sx sL (d + 1) 36 [hn_vr 8, hn_vr 1] (hn_m I k g) none (hn_m (hn_cpy I 8 1) k g) := hn_of rfl hb_X4_copyFrom_8_1_0_0
theorem hm_copyK (d : Nat) {b : Nat} (hb : hn_kb b) : hn_ret sx sL (d + 1) 36 [hn_vr b, hn_vr 8] (hn_m I k g) none (hn_m (hn_cpy I b 8) k g) := by
  rcases hb with rfl | rfl | rfl | rfl
  · exact hn_of rfl hb_X4_copyFrom_17_8_0_0
  · exact hn_of rfl hb_X4_copyFrom_24_8_0_0
  · exact hn_of rfl hb_X4_copyFrom_31_8_0_0
  · exact hn_of rfl hb_X4_copyFrom_38_8_0_0
theorem hm_copyN (d : Nat) {b : Nat} (hb : hn_kb b) : hn_ret sx sL (d + 1) 36 [hn_vr 1, hn_vr b] (hn_m I k g) none (hn_m (hn_cpy I 1 b) k g) := by
  rcases hb with rfl | rfl | rfl | rfl
  · exact hn_of rfl hb_X4_copyFrom_1_17_0_0
  · exact hn_of rfl hb_X4_copyFrom_1_24_0_0
  · exact hn_of rfl hb_X4_copyFrom_1_31_0_0
  · exact hn_of rfl hb_X4_copyFrom_1_38_0_0
theorem hn_kb_obj {b : Nat} (hb : hn_kb b) : hn_isObj hn_SH b 4 = true := by
  rcases hb with rfl | rfl | rfl | rfl <;> rfl
/-- the history: the cell of each kept State, and what it holds, oldest first -/
def hn_HH (I : Nat → Nat → Int) (k : Nat → Option Nat) (h : List hn_S) : Prop :=
  I 15 1 = (h.length : Int) ∧ h.length ≤ 4 ∧ ∃ B : Nat → Nat, (∀ i, i < 4 → k i = some (B i) ∧ hn_kb (B i)) ∧ (∀ i j, i < 4 → j < 4 → B i = B j → i = j) ∧ ∀ (i : Nat) (s : hn_S), h[i]? = some s → hn_HS I (B i) s
def hn_push (h : List hn_S) (s : hn_S) : List hn_S := (if h.length < 4 then h else h.tail) ++ [s]
theorem hm_dropOldest (d : Nat) {B : Nat → Nat} (hB : ∀ i, i < 4 → k i = some (B i) ∧ hn_kb (B i)) : ∃ k' : Nat → Option Nat, hn_ret sx sL (d + 1) 6 [hn_vr 15] (hn_m I k g) none (hn_m (hn_up I 15 1 3) k' g) ∧ ∀ i, i < 4 → k' i = some (B ((i + 1) % 4)) := by
  have r := hb_X1_dropOldest_0_0 (sx := sx) (sL := sL) (C := hn_ret sx sL d) (I := I) (k := k) (g := g) (hB 0 (by omega)).1 (hB 1 (by omega)).1 (hn_kb_obj (hB 1 (by omega)).2) (hB 2 (by omega)).1 (hn_kb_obj (hB 2 (by omega)).2) (hB 3 (by omega)).1 (hn_kb_obj (hB 3 (by omega)).2) (hn_kb_obj (hB 0 (by omega)).2)
  rw [hn_RR_up, hn_RR_up, hn_RR_up, hn_RR_up] at r
  refine ⟨_, hn_of rfl r, fun i hi => ?_⟩
  have h : i = 0 ∨ i = 1 ∨ i = 2 ∨ i = 3 := by omega
  rcases h with rfl | rfl | rfl | rfl <;> rfl
theorem hn_kb_ap {a b : Nat} (ha : hn_kb a) (hb : hn_kb b) (h : a ≠ b) : a + 6 < b ∨ b + 6 < a := by
  unfold hn_kb at ha hb
  omega
theorem hm_keep (d : Nat) {h : List hn_S} {sb : hn_S} (hH : hn_HH I k h) (hb : hn_HS I 8 sb) : ∃ (I' : Nat → Nat → Int) (k' : Nat → Option Nat), hn_ret sx sL (d + 2) 5 [hn_vr 15, hn_vr 8] (hn_m I k g) none (hn_m I' k' g) ∧ hn_HH I' k' (hn_push h sb) ∧ ∀ c, c < 15 ∨ 45 ≤ c → ∀ j, I' c j = I c j := by
  obtain ⟨h1, h2, B, hB, hBi, hs⟩ := hH
  by_cases hl : h.length < 4
  · obtain ⟨hk, hkb⟩ := hB h.length hl
    have hk' : k (I 15 1).toNat = some (B h.length) := by rw [h1]; exact hk
    have c1 := hm_copyK (sx := sx) (sL := sL) (I := I) (k := k) (g := g) d hkb
    have fr : ∀ c, (c < B h.length ∨ B h.length + 6 < c) → ∀ j, hn_cpy I (B h.length) 8 c j = I c j := fun c hc j => hn_cpy_fr hc
    have hkb2 := hkb
    unfold hn_kb at hkb2
    have e15 : hn_cpy I (B h.length) 8 15 1 = (h.length : Int) := by rw [fr 15 (by omega), h1]
    refine ⟨_, k, hn_of rfl (hb_X1_keep_0_0 (by omega) (by omega) hk' (hn_kb_obj hkb) c1 (by omega)), ⟨?_, ?_, B, hB, hBi, ?_⟩, ?_⟩
    · rw [hn_up_eq, e15, hn_push, if_pos hl]
      simp
    · rw [hn_push, if_pos hl]
      simp
      omega
    · intro i s hi
      rw [hn_push, if_pos hl] at hi
      have hil : i < h.length + 1 := by simpa using (List.getElem?_eq_some_iff.mp hi).1
      have hBk := (hB i (by omega)).2
      have hBk2 := hBk
      unfold hn_kb at hBk2
      refine hn_HS.mv (I := hn_cpy I (B h.length) 8) ?_ (fun c hc1 hc2 j => hn_up_ne (Or.inl (by omega)))
      by_cases e : i = h.length
      · subst e
        rw [List.getElem?_append_right (Nat.le_refl _)] at hi
        simp at hi
        subst hi
        exact hn_cpy_HS (by omega) hb
      · rw [List.getElem?_append_left (by omega)] at hi
        have hap := hn_kb_ap hBk hkb (fun q => e (hBi i h.length (by omega) hl q))
        exact (hs i s hi).mv (fun c hc1 hc2 j => fr c (by omega) j)
    · intro c hc j
      rw [hn_up_ne (Or.inl (by omega)), fr c (by omega)]
  · have h4 : h.length = 4 := by omega
    obtain ⟨k', c1, hk'⟩ := hm_dropOldest (sx := sx) (sL := sL) (I := I) (k := k) (g := g) d hB
    obtain ⟨hk, hkb⟩ := hB 0 (by omega)
    have c2 := hm_copyK (sx := sx) (sL := sL) (I := hn_up I 15 1 3) (k := k') (g := g) d hkb
    have fr : ∀ c, (c < B 0 ∨ B 0 + 6 < c) → ∀ j, hn_cpy (hn_up I 15 1 3) (B 0) 8 c j = hn_up I 15 1 3 c j := fun c hc j => hn_cpy_fr hc
    have hkb2 := hkb
    unfold hn_kb at hkb2
    have e15 : hn_cpy (hn_up I 15 1 3) (B 0) 8 15 1 = 3 := by rw [fr 15 (by omega), hn_up_eq]
    have b15 : hn_up I 15 1 3 15 1 = 3 := hn_up_eq
    have hk3 : k' (hn_up I 15 1 3 15 1).toNat = some (B 0) := by rw [b15]; exact hk' 3 (by omega)
    refine ⟨_, k', hn_of rfl (hb_X1_keep_0_1 (by omega) c1 (by omega) hk3 (hn_kb_obj hkb) c2 (by omega)), ⟨?_, ?_, fun i => B ((i + 1) % 4), ?_, ?_, ?_⟩, ?_⟩
    · rw [hn_up_eq, e15, hn_push, if_neg hl]
      simp [h4]
    · rw [hn_push, if_neg hl]
      simp [h4]
    · exact fun i hi => ⟨hk' i hi, (hB _ (by omega)).2⟩
    · intro i j hi hj e
      have := hBi _ _ (by omega) (by omega) e
      omega
    · intro i s hi
      rw [hn_push, if_neg hl] at hi
      have hil : i < 4 := by have := (List.getElem?_eq_some_iff.mp hi).1; simp at this; omega
      have hBk := (hB ((i + 1) % 4) (by omega)).2
      have hBk2 := hBk
      unfold hn_kb at hBk2
      show hn_HS _ (B ((i + 1) % 4)) s
      refine hn_HS.mv (I := hn_cpy (hn_up I 15 1 3) (B 0) 8) ?_ (fun c hc1 hc2 j => hn_up_ne (Or.inl (by omega)))
      by_cases e : i = 3
      · subst e
        rw [List.getElem?_append_right (by simp; omega)] at hi
        simp [h4] at hi
        subst hi
        exact hn_cpy_HS (by omega) (hb.mv (fun c hc1 hc2 j => hn_up_ne (Or.inl (by omega))))
      · rw [List.getElem?_append_left (by simp; omega)] at hi
        have hi2 : h[i + 1]? = some s := by simpa using hi
        have em : (i + 1) % 4 = i + 1 := by omega
        rw [em] at hBk hBk2 ⊢
        have hap := hn_kb_ap hBk hkb (fun q => by have := hBi (i + 1) 0 (by omega) (by omega) q; omega)
        exact (hs (i + 1) s hi2).mv (fun c hc1 hc2 j => by rw [fr c (by omega) j, hn_up_ne (Or.inl (by omega))])
    · intro c hc j
      rw [hn_up_ne (Or.inl (by omega)), fr c (by omega), hn_up_ne (Or.inl (by omega))]
theorem hm_restore1 (d : Nat) {h : List hn_S} {s : hn_S} (hH : hn_HH I k (h ++ [s])) : ∃ I' : Nat → Nat → Int, hn_ret sx sL (d + 2) 7 [hn_vr 15, hn_vr 1] (hn_m I k g) (some (hn_vi 1)) (hn_m I' k g) ∧ hn_HH I' k h ∧ hn_HS I' 1 s ∧ ∀ c, 8 ≤ c → c ≠ 15 → ∀ j, I' c j = I c j := by
  obtain ⟨h1, h2, B, hB, hBi, hs⟩ := hH
  simp at h1 h2
  obtain ⟨hk, hkb⟩ := hB h.length (by omega)
  have hk' : k ((I 15 1) - 1).toNat = some (B h.length) := by rw [h1, show ((h.length : Int) + 1 - 1).toNat = h.length by omega]; exact hk
  have hkb2 := hkb
  unfold hn_kb at hkb2
  have c1 := hm_copyN (sx := sx) (sL := sL) (I := hn_up I 15 1 ((I 15 1) - 1)) (k := k) (g := g) d hkb
  have fr : ∀ c, 7 < c → ∀ j, hn_cpy (hn_up I 15 1 ((I 15 1) - 1)) 1 (B h.length) c j = hn_up I 15 1 ((I 15 1) - 1) c j := fun c hc j => hn_cpy_fr (by omega)
  refine ⟨_, hn_of rfl (hb_X1_restore_0_0 (by omega) (by omega) (by omega) hk' c1), ⟨?_, by omega, B, hB, hBi, ?_⟩, ?_, ?_⟩
  · rw [fr 15 (by omega), hn_up_eq, h1]
    omega
  · intro i t hi
    have hil := (List.getElem?_eq_some_iff.mp hi).1
    have hBk := (hB i (by omega)).2
    unfold hn_kb at hBk
    exact (hs i t (by rw [List.getElem?_append_left hil]; exact hi)).mv (fun c hc1 hc2 j => by rw [fr c (by omega), hn_up_ne (Or.inl (by omega))])
  · exact hn_cpy_HS (by omega) ((hs h.length s (by simp)).mv (fun c hc1 hc2 j => hn_up_ne (Or.inl (by omega))))
  · intro c hc hc2 j
    rw [fr c (by omega), hn_up_ne (Or.inl hc2)]
theorem hm_restore0 (d : Nat) (hH : hn_HH I k []) : hn_ret sx sL (d + 1) 7 [hn_vr 15, hn_vr 1] (hn_m I k g) (some (hn_vi 0)) (hn_m I k g) := by
  have h1 := hH.1
  exact hn_of rfl (hb_X1_restore_0_1 (by simp at h1; omega))
theorem hm_recorded0 (d : Nat) {x : Int} (hx : x < -1) : hn_ret sx sL (d + 1) 92 [hn_vr 0, hn_vi x] (hn_m I k g) (some (hn_vi x)) (hn_m I k g) := hn_of rfl (hb_X6_recorded_0_0 hx)
theorem hm_recorded1 (d : Nat) {x : Int} (hx : ¬ x < -1) {h : List hn_S} {sb : hn_S} (hH : hn_HH I k h) (hb : hn_HS I 8 sb) : ∃ (I' : Nat → Nat → Int) (k' : Nat → Option Nat), hn_ret sx sL (d + 3) 92 [hn_vr 0, hn_vi x] (hn_m I k g) (some (hn_vi x)) (hn_m I' k' g) ∧ hn_HH I' k' (hn_push h sb) ∧ ∀ c, c < 15 ∨ 45 ≤ c → ∀ j, I' c j = I c j := by
  obtain ⟨I', k', c1, h1, h2⟩ := hm_keep (sx := sx) (sL := sL) (g := g) d hH hb
  exact ⟨I', k', hn_of rfl (hb_X6_recorded_0_1 hx c1), h1, h2⟩
end HX1
