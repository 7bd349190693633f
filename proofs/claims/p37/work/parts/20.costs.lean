/-! the costs of a plan, and the class's Prices -/
def hn_ccf (s : hn_S) (p : Nat → Int) (v : Nat) : Int := if hn_isN s (p v) then hn_out s v * hn_gp s v (p v).toNat else 0
def hn_dcf (s : hn_S) (p : Nat → Int) (v : Nat) : Int := if hn_isN s (p v) then hn_inn s v * hn_gp s v (p v).toNat else 0
def hn_cc (s : hn_S) (p : Nat → Int) : Int := hn_sm (hn_n s) (hn_ccf s p)
def hn_dc (s : hn_S) (p : Nat → Int) : Int := hn_sm (hn_n s) (hn_dcf s p)
def hn_tkf (s : hn_S) (p : Nat → Int) (a b : Nat) : Int := hn_tr s p a b * hn_gp s a b
def hn_suf (s : hn_S) (p : Nat → Int) (a b : Nat) : Int := if 0 < hn_tr s p a b ∧ hn_tr s p a b < s 5 then hn_tkf s p a b else 0
def hn_ro (n : Nat) (f : Nat → Nat → Int) (m a : Nat) : Int := if m.testBit a = true then hn_sm n (f a) else 0
def hn_tk (s : hn_S) (p : Nat → Int) (m : Nat) : Int := hn_sm (hn_n s) (hn_ro (hn_n s) (hn_tkf s p) m)
def hn_su (s : hn_S) (p : Nat → Int) (m : Nat) : Int := hn_sm (hn_n s) (hn_ro (hn_n s) (hn_suf s p) m)
def hn_opf (s : hn_S) (m a : Nat) : Int := if m.testBit a = true then s (26 + a) else 0
def hn_op (s : hn_S) (m : Nat) : Int := hn_sm (hn_n s) (hn_opf s m)
def hn_cg1 (s : hn_S) (l : Int) : Int := max 0 (l - s 6) * s 7 + max 0 (l - s 8) * s 9
def hn_cgf (s : hn_S) (L : Nat → Int) (m a : Nat) : Int := if m.testBit a = true then hn_cg1 s (L a) else 0
def hn_cg (s : hn_S) (L : Nat → Int) (m : Nat) : Int := hn_sm (hn_n s) (hn_cgf s L m)
def hn_tkc (s : hn_S) (p : Nat → Int) (m : Nat) : Int := s 3 * hn_tk s p m + (100 - s 3) * hn_su s p m
def hn_cost (s : hn_S) (m : Nat) (p : Nat → Int) : Int := s 2 * hn_cc s p + hn_tkc s p m + s 4 * hn_dc s p + hn_op s m + hn_cg s (hn_ld s p) m
abbrev hn_fits (s : hn_S) (p : Nat → Int) (m : Nat) : Prop := ∀ v, v < hn_n s → m.testBit v = true → hn_ld s p v ≤ s (34 + v)
theorem hn_sm_b {n : Nat} {f : Nat → Int} (c : Int) (e : ∀ i, i < n → 0 ≤ f i ∧ f i ≤ c) : 0 ≤ hn_sm n f ∧ hn_sm n f ≤ c * n := by
  refine ⟨hn_sm_nn fun i hi => (e i hi).1, ?_⟩
  have := hn_sm_ub fun i hi => (e i hi).2
  rwa [Int.mul_comm] at this
theorem hn_ccf_b {s : hn_S} (h : hn_Iv s) {p : Nat → Int} {v : Nat} (hv : v < 8) : 0 ≤ hn_ccf s p v ∧ hn_ccf s p v ≤ 158400 := by
  have h8 := hn_n8 h
  unfold hn_ccf
  by_cases e : hn_isN s (p v)
  · rw [if_pos e]
    unfold hn_isN at e
    have b1 := hn_out_b h hv
    have b2 := hn_gp_b h hv (b := (p v).toNat) (by omega)
    exact hn_mul_b b1.1 b1.2 b2.1 b2.2
  · rw [if_neg e]
    omega
theorem hn_dcf_b {s : hn_S} (h : hn_Iv s) {p : Nat → Int} {v : Nat} (hv : v < 8) : 0 ≤ hn_dcf s p v ∧ hn_dcf s p v ≤ 158400 := by
  have h8 := hn_n8 h
  unfold hn_dcf
  by_cases e : hn_isN s (p v)
  · rw [if_pos e]
    unfold hn_isN at e
    have b1 := hn_inn_b h hv
    have b2 := hn_gp_b h hv (b := (p v).toNat) (by omega)
    exact hn_mul_b b1.1 b1.2 b2.1 b2.2
  · rw [if_neg e]
    omega
theorem hn_tkf_b {s : hn_S} (h : hn_Iv s) {p : Nat → Int} {a b : Nat} (ha : a < 8) (hb : b < 8) : 0 ≤ hn_tkf s p a b ∧ hn_tkf s p a b ≤ 1267200 := by
  have b1 := hn_tr_b h (p := p) (k := a) (m := b)
  have b2 := hn_gp_b h ha hb
  exact hn_mul_b b1.1 b1.2 b2.1 b2.2
theorem hn_suf_b {s : hn_S} (h : hn_Iv s) {p : Nat → Int} {a b : Nat} (ha : a < 8) (hb : b < 8) : 0 ≤ hn_suf s p a b ∧ hn_suf s p a b ≤ hn_tkf s p a b := by
  have b1 := hn_tkf_b h (p := p) ha hb
  unfold hn_suf
  by_cases e : 0 < hn_tr s p a b ∧ hn_tr s p a b < s 5
  · rw [if_pos e]
    omega
  · rw [if_neg e]
    omega
theorem hn_ro_b {n : Nat} {f : Nat → Nat → Int} {m a : Nat} {c : Int} (h : ∀ b, b < n → 0 ≤ f a b ∧ f a b ≤ c) (hc : 0 ≤ c) : 0 ≤ hn_ro n f m a ∧ hn_ro n f m a ≤ c * n := by
  have := hn_sm_b c h
  unfold hn_ro
  by_cases e : m.testBit a = true
  · rw [if_pos e]
    exact this
  · rw [if_neg e]
    exact ⟨Int.le_refl 0, Int.mul_nonneg hc (by omega)⟩
theorem hn_sm_ind {n : Nat} {y x : Int} (hx : 0 ≤ x) : 0 ≤ hn_sm n (fun k => if y = (k : Int) then x else 0) ∧ hn_sm n (fun k => if y = (k : Int) then x else 0) ≤ x := by
  induction n with
  | zero => exact ⟨Int.le_refl 0, hx⟩
  | succ n ih =>
    rw [hn_sm_up]
    by_cases e : y = (n : Int)
    · rw [if_pos e, hn_sm_z' (fun i hi => if_neg (by omega))]
      omega
    · rw [if_neg e]
      omega
theorem hn_trrow {s : hn_S} (h : hn_Iv s) {p : Nat → Int} {k : Nat} : hn_sm (hn_n s) (hn_tr s p k) ≤ hn_ld s p k := by
  have h8 := hn_n8 h
  have e1 : hn_sm (hn_n s) (hn_tr s p k) = hn_sm (hn_n s) (fun a => hn_sm (hn_n s) (fun m => if p a = k then hn_tw s p a m (hn_n s) else 0)) := hn_sm_swap _ _ (fun m a => if p a = k then hn_tw s p a m (hn_n s) else 0)
  rw [e1]
  refine hn_sm_le fun a ha => ?_
  by_cases e : p a = k
  · rw [if_pos e, hn_sm_cg (h := fun m => hn_tw s p a m (hn_n s)) (fun m _ => if_pos e)]
    have e2 : hn_sm (hn_n s) (fun m => hn_tw s p a m (hn_n s)) = hn_sm (hn_n s) (fun b => hn_sm (hn_n s) (fun m => if p b = m then hn_fl s a b else 0)) := hn_sm_swap _ _ (fun m b => if p b = m then hn_fl s a b else 0)
    rw [e2]
    exact hn_sm_le fun b hb => (hn_sm_ind (hn_fl_b h (a := a) (b := b) (by omega) (by omega)).1).2
  · rw [if_neg e, hn_sm_z' (fun m _ => if_neg e)]
    exact Int.le_refl 0
theorem hn_ldsum {s : hn_S} (h : hn_Iv s) {p : Nat → Int} : hn_sm (hn_n s) (hn_ld s p) ≤ 6400 := by
  have h8 := hn_n8 h
  have e1 : hn_sm (hn_n s) (hn_ld s p) = hn_sm (hn_n s) (fun a => hn_sm (hn_n s) (fun k => if p a = k then hn_out s a else 0)) := hn_sm_swap _ _ (fun k a => if p a = k then hn_out s a else 0)
  rw [e1]
  have h1 : hn_sm (hn_n s) (fun a => hn_sm (hn_n s) (fun k => if p a = k then hn_out s a else 0)) ≤ hn_sm (hn_n s) (fun a => hn_out s a) := hn_sm_le fun a ha => (hn_sm_ind (hn_out_b h (v := a) (by omega)).1).2
  have h2 := hn_sm_b 800 (n := hn_n s) (f := fun a => hn_out s a) (fun a ha => hn_out_b h (v := a) (by omega))
  omega
theorem hn_tk_b {s : hn_S} (h : hn_Iv s) {p : Nat → Int} {m : Nat} : 0 ≤ hn_tk s p m ∧ hn_tk s p m ≤ 1267200 := by
  have h8 := hn_n8 h
  refine ⟨hn_sm_nn fun a ha => (hn_ro_b (c := 1267200) (fun b hb => hn_tkf_b h (a := a) (b := b) (by omega) (by omega)) (by omega)).1, ?_⟩
  have h1 : hn_tk s p m ≤ hn_sm (hn_n s) (fun a => 198 * hn_ld s p a) := by
    refine hn_sm_le fun a ha => ?_
    have hr : hn_sm (hn_n s) (hn_tkf s p a) ≤ 198 * hn_ld s p a := by
      have q1 : hn_sm (hn_n s) (hn_tkf s p a) ≤ hn_sm (hn_n s) (fun b => 198 * hn_tr s p a b) := hn_sm_le fun b hb => by
        have b1 := hn_tr_b h (p := p) (k := a) (m := b)
        have b2 := hn_gp_b h (a := a) (b := b) (by omega) (by omega)
        have := Int.mul_le_mul_of_nonneg_left b2.2 b1.1
        unfold hn_tkf
        omega
      rw [hn_sm_mul] at q1
      have q2 : hn_sm (hn_n s) (hn_tr s p a) ≤ hn_ld s p a := hn_trrow h
      omega
    have hl := hn_ld_b h (p := p) (k := a)
    unfold hn_ro
    by_cases e : m.testBit a = true
    · rw [if_pos e]
      exact hr
    · rw [if_neg e]
      omega
  rw [hn_sm_mul] at h1
  have h2 : hn_sm (hn_n s) (hn_ld s p) ≤ 6400 := hn_ldsum h
  omega
theorem hn_su_b {s : hn_S} (h : hn_Iv s) {p : Nat → Int} {m : Nat} : 0 ≤ hn_su s p m ∧ hn_su s p m ≤ hn_tk s p m := by
  have h8 := hn_n8 h
  refine ⟨hn_sm_nn fun a ha => (hn_ro_b (c := 1267200) (fun b hb => by have q1 := hn_suf_b h (p := p) (a := a) (b := b) (by omega) (by omega); have q2 := hn_tkf_b h (p := p) (a := a) (b := b) (by omega) (by omega); omega) (by omega)).1, hn_sm_le fun a ha => ?_⟩
  unfold hn_ro
  by_cases e : m.testBit a = true
  · rw [if_pos e, if_pos e]
    exact hn_sm_le fun b hb => (hn_suf_b h (p := p) (a := a) (b := b) (by omega) (by omega)).2
  · rw [if_neg e, if_neg e]
    exact Int.le_refl 0
theorem hn_tkc_b {s : hn_S} (h : hn_Iv s) {p : Nat → Int} {m : Nat} : (0 ≤ s 3 * hn_tk s p m ∧ s 3 * hn_tk s p m ≤ 126720000) ∧ (0 ≤ (100 - s 3) * hn_su s p m ∧ (100 - s 3) * hn_su s p m ≤ 126720000) := by
  have b1 := hn_tk_b h (p := p) (m := m)
  have b2 := hn_su_b h (p := p) (m := m)
  have b3 := h.2.2.1.2.1
  exact ⟨hn_mul_b b3.1 b3.2 b1.1 b1.2, hn_mul_b (by omega) (by omega : 100 - s 3 ≤ 100) b2.1 (by omega : hn_su s p m ≤ 1267200)⟩
theorem hn_cc_b {s : hn_S} (h : hn_Iv s) {p : Nat → Int} : (0 ≤ hn_cc s p ∧ hn_cc s p ≤ 1267200) ∧ (0 ≤ s 2 * hn_cc s p ∧ s 2 * hn_cc s p ≤ 380160000) := by
  have h8 := hn_n8 h
  have b1 : 0 ≤ hn_cc s p ∧ hn_cc s p ≤ 158400 * hn_n s := hn_sm_b 158400 (fun v hv => hn_ccf_b h (p := p) (v := v) (by omega))
  have b3 := h.2.2.1.1
  exact ⟨by omega, hn_mul_b (by omega) b3.2 b1.1 (by omega : hn_cc s p ≤ 1267200)⟩
theorem hn_dc_b {s : hn_S} (h : hn_Iv s) {p : Nat → Int} : (0 ≤ hn_dc s p ∧ hn_dc s p ≤ 1267200) ∧ (0 ≤ s 4 * hn_dc s p ∧ s 4 * hn_dc s p ≤ 380160000) := by
  have h8 := hn_n8 h
  have b1 : 0 ≤ hn_dc s p ∧ hn_dc s p ≤ 158400 * hn_n s := hn_sm_b 158400 (fun v hv => hn_dcf_b h (p := p) (v := v) (by omega))
  have b3 := h.2.2.1.2.2.1
  exact ⟨by omega, hn_mul_b (by omega) b3.2 b1.1 (by omega : hn_dc s p ≤ 1267200)⟩
theorem hn_opf_b {s : hn_S} (h : hn_Iv s) {m a : Nat} (ha : a < 8) : 0 ≤ hn_opf s m a ∧ hn_opf s m a ≤ 100000 := by
  have := (h.2.2.2.2.1 a ha).2.2.1
  unfold hn_opf
  by_cases e : m.testBit a = true
  · rw [if_pos e]
    exact this
  · rw [if_neg e]
    omega
theorem hn_op_b {s : hn_S} (h : hn_Iv s) {m : Nat} : 0 ≤ hn_op s m ∧ hn_op s m ≤ 800000 := by
  have h8 := hn_n8 h
  have b1 : 0 ≤ hn_op s m ∧ hn_op s m ≤ 100000 * hn_n s := hn_sm_b 100000 (fun v hv => hn_opf_b h (m := m) (a := v) (by omega))
  omega
theorem hn_cg1_b {s : hn_S} (h : hn_Iv s) {l : Int} (hl : 0 ≤ l ∧ l ≤ 6400) : (0 ≤ max 0 (l - s 6) * s 7 ∧ max 0 (l - s 6) * s 7 ≤ 6400000) ∧ (0 ≤ max 0 (l - s 8) * s 9 ∧ max 0 (l - s 8) * s 9 ≤ 6400000) := by
  have b := h.2.2.2.1
  exact ⟨hn_mul_b (by omega : 0 ≤ max 0 (l - s 6)) (by omega : max 0 (l - s 6) ≤ 6400) b.2.1.1 b.2.1.2, hn_mul_b (by omega : 0 ≤ max 0 (l - s 8)) (by omega : max 0 (l - s 8) ≤ 6400) b.2.2.2.1 b.2.2.2.2⟩
theorem hn_cgf_b {s : hn_S} (h : hn_Iv s) {L : Nat → Int} {m a : Nat} (hl : m.testBit a = true → 0 ≤ L a ∧ L a ≤ 6400) : 0 ≤ hn_cgf s L m a ∧ hn_cgf s L m a ≤ 12800000 := by
  unfold hn_cgf hn_cg1
  by_cases e : m.testBit a = true
  · have := hn_cg1_b h (hl e)
    rw [if_pos e]
    omega
  · rw [if_neg e]
    omega
theorem hn_cg_b {s : hn_S} (h : hn_Iv s) {L : Nat → Int} {m : Nat} (hl : ∀ a, a < hn_n s → m.testBit a = true → 0 ≤ L a ∧ L a ≤ 6400) : 0 ≤ hn_cg s L m ∧ hn_cg s L m ≤ 102400000 := by
  have h8 := hn_n8 h
  have b1 : 0 ≤ hn_cg s L m ∧ hn_cg s L m ≤ 12800000 * hn_n s := hn_sm_b 12800000 (fun v hv => hn_cgf_b h (hl v hv))
  omega
theorem hn_cost_b {s : hn_S} (h : hn_Iv s) {p : Nat → Int} {m : Nat} : 0 ≤ hn_cost s m p ∧ hn_cost s m p ≤ 1200000000 := by
  have b1 := (hn_cc_b h (p := p)).2
  have b2 := hn_tkc_b h (p := p) (m := m)
  have b3 := (hn_dc_b h (p := p)).2
  have b4 := hn_op_b h (m := m)
  have b5 := hn_cg_b h (L := hn_ld s p) (m := m) (fun a _ _ => hn_ld_b h)
  unfold hn_cost hn_tkc
  omega
section HX20
variable {sx : Nat → Int} {sL : Nat} {I : Nat → Nat → Int} {k : Nat → Option Nat} {g : Nat → Nat → Int64} {s : hn_S} {p : Nat → Int}
theorem hm_fits1 (d : Nat) (hI : hn_Iv s) (h : hn_HS I 1 s) (hL : ∀ j, j < 8 → I 46 j = hn_ld s p j) {m : Nat} (hm : m < 256) (hf : hn_fits s p m) : hn_ret sx sL (d + 2) 11 [hn_vr 45, hn_vi m] (hn_m I k g) (some (hn_vi 1)) (hn_m I k g) := by
  have hn := h.n hI
  have h8 := hn_n8 hI
  refine hn_of rfl (hb_X2_fits_0_0.tr ((hn_for (fun i => hn_nx 11 2 [some (hn_vr 45), some (hn_vi m), some (hn_vi (i : Int))] [] (hn_m I k g)) (hn_n s) (fun i hi => ?_)).tr (hb_X2_fits_2_3 (by omega))))
  have c := hm_contains (sx := sx) (sL := sL) (I := I) (k := k) (g := g) d hm (v := i) (by omega)
  by_cases e : m.testBit i = true
  · rw [if_pos e] at c
    have q := hf i hi e
    rw [← hL i (by omega), ← show I 5 i = s (34 + i) from h.2.2.2.2.2.2.1 i (by omega)] at q
    exact hb_X2_fits_2_2 (by omega) c (by decide) (by omega) (by omega)
  · rw [if_neg e] at c
    exact hb_X2_fits_2_0 (by omega) c (by decide)
theorem hm_fits0 (d : Nat) (hI : hn_Iv s) (h : hn_HS I 1 s) (hL : ∀ j, j < 8 → I 46 j = hn_ld s p j) {m : Nat} (hm : m < 256) (hf : ¬ hn_fits s p m) : hn_ret sx sL (d + 2) 11 [hn_vr 45, hn_vi m] (hn_m I k g) (some (hn_vi 0)) (hn_m I k g) := by
  have hn := h.n hI
  have h8 := hn_n8 hI
  have hx : ∃ v, v < hn_n s ∧ m.testBit v = true ∧ s (34 + v) < hn_ld s p v := Classical.byContradiction fun q => hf fun v hv hv2 => Int.not_lt.mp fun w => q ⟨v, hv, hv2, w⟩
  obtain ⟨v, ⟨hv, hv2, hv3⟩, hl⟩ := pk_least _ hx
  have row : ∀ i, i < 8 → I 5 i = s (34 + i) := fun i hi => h.2.2.2.2.2.2.1 i hi
  have cv := hm_contains (sx := sx) (sL := sL) (I := I) (k := k) (g := g) d hm (v := v) (by omega)
  rw [if_pos hv2] at cv
  rw [← hL v (by omega), ← row v (by omega)] at hv3
  refine hn_of rfl (hb_X2_fits_0_0.tr ((hn_for (fun i => hn_nx 11 2 [some (hn_vr 45), some (hn_vi m), some (hn_vi (i : Int))] [] (hn_m I k g)) v (fun i hi => ?_)).tr (hb_X2_fits_2_1 (by omega) cv (by decide) (by omega) hv3)))
  have c := hm_contains (sx := sx) (sL := sL) (I := I) (k := k) (g := g) d hm (v := i) (by omega)
  by_cases e : m.testBit i = true
  · rw [if_pos e] at c
    have q : ¬ s (34 + i) < hn_ld s p i := fun w => hl i hi ⟨by omega, e, w⟩
    rw [← hL i (by omega), ← row i (by omega)] at q
    exact hb_X2_fits_2_2 (by omega) c (by decide) (by omega) q
  · rw [if_neg e] at c
    exact hb_X2_fits_2_0 (by omega) c (by decide)
theorem hm_openingCost (d : Nat) (hI : hn_Iv s) (h : hn_HS I 1 s) {m : Nat} (hm : m < 256) : hn_ret sx sL (d + 2) 16 [hn_vr 45, hn_vi m] (hn_m I k g) (some (hn_vi (hn_op s m))) (hn_m I k g) := by
  have hn := h.n hI
  have h8 := hn_n8 hI
  refine hn_of rfl (hb_X2_openingCost_0_0.tr ((hn_for (fun i => hn_nx 16 4 [some (hn_vr 45), some (hn_vi m), some (hn_vi (hn_sm i (hn_opf s m))), some (hn_vi (i : Int))] [] (hn_m I k g)) (hn_n s) (fun i hi => ?_)).tr (hb_X2_openingCost_4_2 (by omega))))
  have c := hm_contains (sx := sx) (sL := sL) (I := I) (k := k) (g := g) d hm (v := i) (by omega)
  have b : 0 ≤ hn_sm i (hn_opf s m) ∧ hn_sm i (hn_opf s m) ≤ 100000 * i := hn_sm_b 100000 (n := i) (fun v hv => hn_opf_b hI (m := m) (a := v) (by omega))
  have bi := (hI.2.2.2.2.1 i (by omega)).2.2.1
  have er : I 4 i = s (26 + i) := h.2.2.2.2.2.1 i (by omega)
  by_cases e : m.testBit i = true
  · rw [if_pos e] at c
    have r := hb_X2_openingCost_4_1 (sx := sx) (sL := sL) (x2 := hn_sm i (hn_opf s m)) (by omega) c (by decide) (by omega) (by omega)
    have ef : hn_sm (i + 1) (hn_opf s m) = hn_sm i (hn_opf s m) + I 4 i := by rw [hn_sm_up, hn_opf, if_pos e, er]
    rw [← ef] at r
    exact r
  · rw [if_neg e] at c
    have ef : hn_sm (i + 1) (hn_opf s m) = hn_sm i (hn_opf s m) := by rw [hn_sm_up, hn_opf, if_neg e, Int.add_zero]
    have r := hb_X2_openingCost_4_0 (sx := sx) (sL := sL) (x2 := hn_sm i (hn_opf s m)) (by omega) c (by decide)
    show hn_go sx sL _ _ (hn_nx 16 4 [some (hn_vr 45), some (hn_vi m), some (hn_vi (hn_sm (i + 1) (hn_opf s m))), some (hn_vi ((i + 1 : Nat) : Int))] [] (hn_m I k g))
    rw [ef]
    exact r
theorem hm_collectingCost (d : Nat) (hI : hn_Iv s) (h : hn_HS I 1 s) (hp : ∀ v, v < hn_n s → I 6 v = p v ∧ -1 ≤ p v ∧ p v ≤ 7) : hn_ret sx sL (d + 2) 12 [hn_vr 45, hn_vr 6] (hn_m I k g) (some (hn_vi (s 2 * hn_cc s p))) (hn_m I k g) := by
  have hn := h.n hI
  have h8 := hn_n8 hI
  have eC : I 1 8 = s 2 := h.2.2.1 0 (by omega)
  have bc := (hn_cc_b hI (p := p)).2
  rw [← eC] at bc ⊢
  unfold hn_cc at bc ⊢
  refine hn_of rfl (hb_X2_collectingCost_0_0.tr ((hn_for (fun i => hn_nx 12 4 [some (hn_vr 45), some (hn_vr 6), some (hn_vi (hn_sm i (hn_ccf s p))), some (hn_vi (i : Int))] [] (hn_m I k g)) (hn_n s) (fun i hi => ?_)).tr (hb_X2_collectingCost_4_2 (by omega) (by omega))))
  have b : 0 ≤ hn_sm i (hn_ccf s p) ∧ hn_sm i (hn_ccf s p) ≤ 158400 * i := hn_sm_b 158400 (n := i) (fun v hv => hn_ccf_b hI (p := p) (v := v) (by omega))
  have bi := hn_ccf_b hI (p := p) (v := i) (by omega)
  have c := hm_has (sx := sx) (sL := sL) (k := k) (g := g) d hn (I 6 i)
  have ep := (hp i hi).1
  by_cases e : hn_isN s (p i)
  · rw [if_pos (by rw [ep]; exact e)] at c
    have e' := id e
    unfold hn_isN at e'
    obtain ⟨m, hm⟩ : ∃ m : Nat, p i = m := ⟨(p i).toNat, by omega⟩
    have c2 := hm_flowFrom (sx := sx) (sL := sL) (k := k) (g := g) d hI h (v := i) (by omega)
    have c3 := hm_gap (sx := sx) (sL := sL) (k := k) (g := g) d hI h (a := i) (b := m) (by omega) (by omega)
    rw [← hm, ← ep] at c3
    have ev : hn_ccf s p i = hn_out s i * hn_gp s i m := by rw [hn_ccf, if_pos e, hm, Int.toNat_natCast]
    rw [ev] at bi
    have r := hb_X2_collectingCost_4_1 (sx := sx) (sL := sL) (x2 := hn_sm i (hn_ccf s p)) (by omega) (by omega) c (by decide) c2 c3 (by omega) (by omega)
    have ef : hn_sm (i + 1) (hn_ccf s p) = hn_sm i (hn_ccf s p) + hn_out s i * hn_gp s i m := by rw [hn_sm_up, ev]
    rw [← ef] at r
    exact r
  · rw [if_neg (by rw [ep]; exact e)] at c
    have ef : hn_sm (i + 1) (hn_ccf s p) = hn_sm i (hn_ccf s p) := by rw [hn_sm_up, hn_ccf, if_neg e, Int.add_zero]
    have r := hb_X2_collectingCost_4_0 (sx := sx) (sL := sL) (x2 := hn_sm i (hn_ccf s p)) (by omega) (by omega) c (by decide)
    show hn_go sx sL _ _ (hn_nx 12 4 [some (hn_vr 45), some (hn_vr 6), some (hn_vi (hn_sm (i + 1) (hn_ccf s p))), some (hn_vi ((i + 1 : Nat) : Int))] [] (hn_m I k g))
    rw [ef]
    exact r
theorem hm_distributingCost (d : Nat) (hI : hn_Iv s) (h : hn_HS I 1 s) (hp : ∀ v, v < hn_n s → I 6 v = p v ∧ -1 ≤ p v ∧ p v ≤ 7) : hn_ret sx sL (d + 2) 13 [hn_vr 45, hn_vr 6] (hn_m I k g) (some (hn_vi (s 4 * hn_dc s p))) (hn_m I k g) := by
  have hn := h.n hI
  have h8 := hn_n8 hI
  have eC : I 1 10 = s 4 := h.2.2.1 2 (by omega)
  have bc := (hn_dc_b hI (p := p)).2
  rw [← eC] at bc ⊢
  unfold hn_dc at bc ⊢
  refine hn_of rfl (hb_X2_distributingCost_0_0.tr ((hn_for (fun i => hn_nx 13 4 [some (hn_vr 45), some (hn_vr 6), some (hn_vi (hn_sm i (hn_dcf s p))), some (hn_vi (i : Int))] [] (hn_m I k g)) (hn_n s) (fun i hi => ?_)).tr (hb_X2_distributingCost_4_2 (by omega) (by omega))))
  have b : 0 ≤ hn_sm i (hn_dcf s p) ∧ hn_sm i (hn_dcf s p) ≤ 158400 * i := hn_sm_b 158400 (n := i) (fun v hv => hn_dcf_b hI (p := p) (v := v) (by omega))
  have bi := hn_dcf_b hI (p := p) (v := i) (by omega)
  have c := hm_has (sx := sx) (sL := sL) (k := k) (g := g) d hn (I 6 i)
  have ep := (hp i hi).1
  by_cases e : hn_isN s (p i)
  · rw [if_pos (by rw [ep]; exact e)] at c
    have e' := id e
    unfold hn_isN at e'
    obtain ⟨m, hm⟩ : ∃ m : Nat, p i = m := ⟨(p i).toNat, by omega⟩
    have c2 := hm_flowTo (sx := sx) (sL := sL) (k := k) (g := g) d hI h (v := i) (by omega)
    have c3 := hm_gap (sx := sx) (sL := sL) (k := k) (g := g) d hI h (a := i) (b := m) (by omega) (by omega)
    rw [← hm, ← ep] at c3
    have ev : hn_dcf s p i = hn_inn s i * hn_gp s i m := by rw [hn_dcf, if_pos e, hm, Int.toNat_natCast]
    rw [ev] at bi
    have r := hb_X2_distributingCost_4_1 (sx := sx) (sL := sL) (x2 := hn_sm i (hn_dcf s p)) (by omega) (by omega) c (by decide) c2 c3 (by omega) (by omega)
    have ef : hn_sm (i + 1) (hn_dcf s p) = hn_sm i (hn_dcf s p) + hn_inn s i * hn_gp s i m := by rw [hn_sm_up, ev]
    rw [← ef] at r
    exact r
  · rw [if_neg (by rw [ep]; exact e)] at c
    have ef : hn_sm (i + 1) (hn_dcf s p) = hn_sm i (hn_dcf s p) := by rw [hn_sm_up, hn_dcf, if_neg e, Int.add_zero]
    have r := hb_X2_distributingCost_4_0 (sx := sx) (sL := sL) (x2 := hn_sm i (hn_dcf s p)) (by omega) (by omega) c (by decide)
    show hn_go sx sL _ _ (hn_nx 13 4 [some (hn_vr 45), some (hn_vr 6), some (hn_vi (hn_sm (i + 1) (hn_dcf s p))), some (hn_vi ((i + 1 : Nat) : Int))] [] (hn_m I k g))
    rw [ef]
    exact r
theorem hm_congestionCost_46 (d : Nat) (hI : hn_Iv s) (h : hn_HS I 1 s) {L : Nat → Int} {m : Nat} (hL : ∀ j, j < hn_n s → m.testBit j = true → I 46 j = L j ∧ 0 ≤ L j ∧ L j ≤ 6400) (hm : m < 256) : hn_ret sx sL (d + 2) 17 [hn_vr 45, hn_vr 46, hn_vi m] (hn_m I k g) (some (hn_vi (hn_cg s L m))) (hn_m I k g) := by
  have hn := h.n hI
  have h8 := hn_n8 hI
  have e1 : I 1 12 = s 6 := h.2.2.1 4 (by omega)
  have e2 : I 1 13 = s 7 := h.2.2.1 5 (by omega)
  have e3 : I 1 14 = s 8 := h.2.2.1 6 (by omega)
  have e4 : I 1 15 = s 9 := h.2.2.1 7 (by omega)
  refine hn_of rfl (hb_X2_congestionCost_46_0_0.tr ((hn_for (fun i => hn_nx 17 5 [some (hn_vr 45), some (hn_vr 46), some (hn_vi m), some (hn_vi (hn_sm i (hn_cgf s L m))), some (hn_vi (i : Int))] [] (hn_m I k g)) (hn_n s) (fun i hi => ?_)).tr (hb_X2_congestionCost_46_5_2 (by omega))))
  have c := hm_contains (sx := sx) (sL := sL) (I := I) (k := k) (g := g) d hm (v := i) (by omega)
  have b : 0 ≤ hn_sm i (hn_cgf s L m) ∧ hn_sm i (hn_cgf s L m) ≤ 12800000 * i := hn_sm_b 12800000 (n := i) (fun v hv => hn_cgf_b hI (m := m) (fun q => (hL v (by omega) q).2))
  have bs := hI.2.2.2.1
  by_cases e : m.testBit i = true
  · rw [if_pos e] at c
    have bi := hn_cg1_b hI (hL i hi e).2
    have bl := (hL i hi e).2
    have er := (hL i hi e).1
    have ef : hn_sm (i + 1) (hn_cgf s L m) = hn_sm i (hn_cgf s L m) + max 0 (L i - s 6) * s 7 + max 0 (L i - s 8) * s 9 := by rw [hn_sm_up, hn_cgf, if_pos e, hn_cg1, Int.add_assoc]
    have r := hb_X2_congestionCost_46_5_1 (sx := sx) (sL := sL) (x3 := hn_sm i (hn_cgf s L m)) (by omega) c (by decide) (by omega) (by rw [er, e1]; omega) (by rw [er, e1, e2]; omega) (by rw [er, e1, e2]; omega) (by rw [er, e3]; omega) (by rw [er, e3, e4]; omega) (by rw [er, e1, e2, e3, e4]; omega)
    rw [er, e1, e2, e3, e4, ← ef] at r
    exact r
  · rw [if_neg e] at c
    have ef : hn_sm (i + 1) (hn_cgf s L m) = hn_sm i (hn_cgf s L m) := by rw [hn_sm_up, hn_cgf, if_neg e, Int.add_zero]
    have r := hb_X2_congestionCost_46_5_0 (sx := sx) (sL := sL) (x3 := hn_sm i (hn_cgf s L m)) (by omega) c (by decide)
    show hn_go sx sL _ _ (hn_nx 17 5 [some (hn_vr 45), some (hn_vr 46), some (hn_vi m), some (hn_vi (hn_sm (i + 1) (hn_cgf s L m))), some (hn_vi ((i + 1 : Nat) : Int))] [] (hn_m I k g))
    rw [ef]
    exact r
theorem hm_congestionCost_57 (d : Nat) (hI : hn_Iv s) (h : hn_HS I 1 s) {L : Nat → Int} {m : Nat} (hL : ∀ j, j < hn_n s → m.testBit j = true → I 57 j = L j ∧ 0 ≤ L j ∧ L j ≤ 6400) (hm : m < 256) : hn_ret sx sL (d + 2) 17 [hn_vr 45, hn_vr 57, hn_vi m] (hn_m I k g) (some (hn_vi (hn_cg s L m))) (hn_m I k g) := by
  have hn := h.n hI
  have h8 := hn_n8 hI
  have e1 : I 1 12 = s 6 := h.2.2.1 4 (by omega)
  have e2 : I 1 13 = s 7 := h.2.2.1 5 (by omega)
  have e3 : I 1 14 = s 8 := h.2.2.1 6 (by omega)
  have e4 : I 1 15 = s 9 := h.2.2.1 7 (by omega)
  refine hn_of rfl (hb_X2_congestionCost_57_0_0.tr ((hn_for (fun i => hn_nx 17 5 [some (hn_vr 45), some (hn_vr 57), some (hn_vi m), some (hn_vi (hn_sm i (hn_cgf s L m))), some (hn_vi (i : Int))] [] (hn_m I k g)) (hn_n s) (fun i hi => ?_)).tr (hb_X2_congestionCost_57_5_2 (by omega))))
  have c := hm_contains (sx := sx) (sL := sL) (I := I) (k := k) (g := g) d hm (v := i) (by omega)
  have b : 0 ≤ hn_sm i (hn_cgf s L m) ∧ hn_sm i (hn_cgf s L m) ≤ 12800000 * i := hn_sm_b 12800000 (n := i) (fun v hv => hn_cgf_b hI (m := m) (fun q => (hL v (by omega) q).2))
  have bs := hI.2.2.2.1
  by_cases e : m.testBit i = true
  · rw [if_pos e] at c
    have bi := hn_cg1_b hI (hL i hi e).2
    have bl := (hL i hi e).2
    have er := (hL i hi e).1
    have ef : hn_sm (i + 1) (hn_cgf s L m) = hn_sm i (hn_cgf s L m) + max 0 (L i - s 6) * s 7 + max 0 (L i - s 8) * s 9 := by rw [hn_sm_up, hn_cgf, if_pos e, hn_cg1, Int.add_assoc]
    have r := hb_X2_congestionCost_57_5_1 (sx := sx) (sL := sL) (x3 := hn_sm i (hn_cgf s L m)) (by omega) c (by decide) (by omega) (by rw [er, e1]; omega) (by rw [er, e1, e2]; omega) (by rw [er, e1, e2]; omega) (by rw [er, e3]; omega) (by rw [er, e3, e4]; omega) (by rw [er, e1, e2, e3, e4]; omega)
    rw [er, e1, e2, e3, e4, ← ef] at r
    exact r
  · rw [if_neg e] at c
    have ef : hn_sm (i + 1) (hn_cgf s L m) = hn_sm i (hn_cgf s L m) := by rw [hn_sm_up, hn_cgf, if_neg e, Int.add_zero]
    have r := hb_X2_congestionCost_57_5_0 (sx := sx) (sL := sL) (x3 := hn_sm i (hn_cgf s L m)) (by omega) c (by decide)
    show hn_go sx sL _ _ (hn_nx 17 5 [some (hn_vr 45), some (hn_vr 57), some (hn_vi m), some (hn_vi (hn_sm (i + 1) (hn_cgf s L m))), some (hn_vi ((i + 1 : Nat) : Int))] [] (hn_m I k g))
    rw [ef]
    exact r
end HX20
