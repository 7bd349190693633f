/-! the class's Search: weigh -/
/-- the best so far: cost, mask, plan -/
def hn_BS (n : Nat) (J : Nat → Nat → Int) (b : Int × Int × (Nat → Int)) : Prop := J 48 15 = b.1 ∧ J 48 16 = b.2.1 ∧ ∀ v, v < n → J 58 v = b.2.2 v
def hn_bet (c w : Int) (P : Nat → Int) (b : Int × Int × (Nat → Int)) : Int × Int × (Nat → Int) := if c < b.1 then (c, w, P) else b
theorem hn_BS.mv {n : Nat} {J J' : Nat → Nat → Int} {b : Int × Int × (Nat → Int)} (h : hn_BS n J b) (e1 : J' 48 15 = J 48 15) (e2 : J' 48 16 = J 48 16) (e3 : ∀ j, J' 58 j = J 58 j) : hn_BS n J' b := ⟨by rw [e1, h.1], by rw [e2, h.2.1], fun v hv => by rw [e3, h.2.2 v hv]⟩
theorem hn_cgf_cg {s : hn_S} {L L' : Nat → Int} {m : Nat} (h : ∀ a, a < hn_n s → m.testBit a = true → L a = L' a) : hn_cg s L m = hn_cg s L' m := by
  refine hn_sm_cg fun a ha => ?_
  unfold hn_cgf
  by_cases e : m.testBit a = true
  · rw [if_pos e, if_pos e, h a ha e]
  · rw [if_neg e, if_neg e]
theorem hn_su_0 {s : hn_S} (hI : hn_Iv s) (h : ¬ 0 < s 5) {P : Nat → Int} {m : Nat} : hn_su s P m = 0 := by
  refine hn_sm_z' fun a ha => ?_
  unfold hn_ro
  by_cases e : m.testBit a = true
  · rw [if_pos e]
    refine hn_sm_z' fun b hb => ?_
    have := hn_tr_b hI (p := P) (k := a) (m := b)
    unfold hn_suf
    rw [if_neg (by omega)]
  · rw [if_neg e]
section HX27
variable {sx : Nat → Int} {sL : Nat} {I : Nat → Nat → Int} {k : Nat → Option Nat} {g : Nat → Nat → Int64} {s : hn_S}
theorem hm_weigh (d : Nat) (hI : hn_Iv s) (h : hn_HS I 1 s) {w : Nat} (hw : w < 256) (hm : I 48 14 = (w : Int)) {P : Nat → Int} (hp : ∀ v, v < hn_n s → I 56 v = P v ∧ -1 ≤ P v ∧ P v ≤ 7) (hL : ∀ j, j < hn_n s → w.testBit j = true → I 57 j = hn_ld s P j) {x : Int} (hx : 0 ≤ x ∧ x ≤ 1600000000) {b : Int × Int × (Nat → Int)} (hb : hn_BS (hn_n s) I b) :
    ∃ I', hn_ret sx sL (d + 3) 34 [hn_vr 48, hn_vi x] (hn_m I k g) none (hn_m I' k g) ∧ hn_BS (hn_n s) I' (hn_bet (x + hn_cg s (hn_ld s P) w + (100 - s 3) * hn_su s P w) w P b) ∧ (∀ j, j ≠ 15 → j ≠ 16 → I' 48 j = I 48 j) ∧ ∀ c, c ≠ 46 → c ≠ 47 → c ≠ 48 → c ≠ 58 → ∀ j, I' c j = I c j := by
  have hn := h.n hI
  have h8 := hn_n8 hI
  have e11 : I 1 11 = s 5 := h.2.2.1 3 (by omega)
  have bg := hn_cg_b hI (L := hn_ld s P) (m := w) (fun a _ _ => hn_ld_b hI)
  have bt := (hn_tkc_b hI (p := P) (m := w)).2
  have c1 := hm_congestionCost_57 (sx := sx) (sL := sL) (k := k) (g := g) (d + 0) hI h (L := hn_ld s P) (m := w) (fun j hj hj2 => ⟨hL j hj hj2, hn_ld_b hI⟩) hw
  rw [← hm] at c1
  by_cases t1 : x + hn_cg s (hn_ld s P) w < I 48 15
  · by_cases t2 : 0 < s 5
    · obtain ⟨I2, c2, a1, a2, a3⟩ := hm_sumUp_56 (sx := sx) (sL := sL) (k := k) (g := g) d hI h hp
      have h' : hn_HS I2 1 s := h.mv (fun c h1 h2 j => a3 c (by omega) (by omega) j)
      have c3 := hm_smallTrunkSurcharge (sx := sx) (sL := sL) (k := k) (g := g) d hI h' a2 hw
      have em : I2 48 14 = (w : Int) := by rw [a3 48 (by omega) (by omega), hm]
      have en : I2 1 0 = hn_n s := by rw [a3 1 (by omega) (by omega), hn]
      have e15 : I2 48 15 = I 48 15 := a3 48 (by omega) (by omega) 15
      rw [← em] at c3
      by_cases t3 : x + hn_cg s (hn_ld s P) w + (100 - s 3) * hn_su s P w < I 48 15
      · have r := hb_X3_weigh_0_0 (sx := sx) (sL := sL) (x1 := x) c1 (by omega) t1 (by omega) c2 c3 (by omega) (by omega) (by omega)
        rw [en, Int.toNat_natCast] at r
        refine ⟨_, hn_of rfl r, ?_, fun j h1 h2 => ?_, fun c h1 h2 h3 h4 j => ?_⟩
        · rw [hn_bet, if_pos (by rw [← hb.1]; exact t3)]
          refine ⟨?_, ?_, fun v hv => ?_⟩
          · rw [hn_cp_ne (by omega), hn_up_ne (Or.inr (by omega)), hn_up_eq]
          · rw [hn_cp_ne (by omega), hn_up_eq, em]
          · rw [hn_cp_in hv, hn_up_ne (Or.inl (by omega)), hn_up_ne (Or.inl (by omega)), a3 56 (by omega) (by omega), (hp v hv).1]
        · rw [hn_cp_ne (by omega), hn_up_ne (Or.inr h2), hn_up_ne (Or.inr h1), a3 48 (by omega) (by omega)]
        · rw [hn_cp_ne h4, hn_up_ne (Or.inl h3), hn_up_ne (Or.inl h3), a3 c h1 h2]
      · have r := hb_X3_weigh_0_1 (sx := sx) (sL := sL) (x1 := x) c1 (by omega) t1 (by omega) c2 c3 (by omega) (by omega)
        refine ⟨_, hn_of rfl r, ?_, fun j h1 h2 => a3 48 (by omega) (by omega) j, fun c h1 h2 h3 h4 j => a3 c h1 h2 j⟩
        rw [hn_bet, if_neg (by rw [← hb.1]; exact t3)]
        exact hb.mv (a3 48 (by omega) (by omega) 15) (a3 48 (by omega) (by omega) 16) (a3 58 (by omega) (by omega))
    · have r := hb_X3_weigh_0_2 (sx := sx) (sL := sL) (x1 := x) c1 (by omega) t1 (by omega) (by omega)
      rw [hn, Int.toNat_natCast] at r
      have e0 : hn_su s P w = 0 := hn_su_0 hI t2
      refine ⟨_, hn_of rfl r, ?_, fun j h1 h2 => ?_, fun c h1 h2 h3 h4 j => ?_⟩
      · rw [e0, Int.mul_zero, Int.add_zero, hn_bet, if_pos (by rw [← hb.1]; exact t1)]
        refine ⟨?_, ?_, fun v hv => ?_⟩
        · rw [hn_cp_ne (by omega), hn_up_ne (Or.inr (by omega)), hn_up_eq]
        · rw [hn_cp_ne (by omega), hn_up_eq, hm]
        · rw [hn_cp_in hv, hn_up_ne (Or.inl (by omega)), hn_up_ne (Or.inl (by omega)), (hp v hv).1]
      · rw [hn_cp_ne (by omega), hn_up_ne (Or.inr h2), hn_up_ne (Or.inr h1)]
      · rw [hn_cp_ne h4, hn_up_ne (Or.inl h3), hn_up_ne (Or.inl h3)]
  · refine ⟨_, hn_of rfl (hb_X3_weigh_0_3 (sx := sx) (sL := sL) (x1 := x) c1 (by omega) t1), ?_, fun j h1 h2 => rfl, fun c h1 h2 h3 h4 j => rfl⟩
    rw [hn_bet, if_neg (by rw [← hb.1]; omega)]
    exact hb
end HX27
