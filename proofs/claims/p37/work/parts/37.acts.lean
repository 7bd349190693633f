/-! the class's public methods: the state that they speak of, and those that change it -/
abbrev hn_AA : Type := hn_S × List hn_S × (Nat → Int) × Nat
def hn_AI (a : hn_AA) : Prop := hn_Iv a.1 ∧ (∀ x, x ∈ a.2.1 → hn_Iv x) ∧ a.2.1.length ≤ 4 ∧ a.2.2.2 ≤ 120 ∧ ∀ j, j < a.2.2.2 → 0 ≤ a.2.2.1 j ∧ a.2.2.1 j ≤ 255
def hn_HC (I : Nat → Nat → Int) (k : Nat → Option Nat) (a : hn_AA) : Prop := hn_HS I 1 a.1 ∧ hn_HH I k a.2.1 ∧ I 60 1 = (a.2.2.2 : Int) ∧ ∀ j, j < a.2.2.2 → I 61 j = a.2.2.1 j
def hn_fC (I' I : Nat → Nat → Int) : Prop := ∀ c, 64 ≤ c → ∀ j, I' c j = I c j
theorem hn_fC.rf {I : Nat → Nat → Int} : hn_fC I I := fun _ _ _ => rfl
def hn_rec (a : hn_AA) (r : Int) (t : hn_S) : hn_AA := (t, if r < -1 then a.2.1 else hn_push a.2.1 a.1, a.2.2)
theorem hn_push_len {h : List hn_S} {s : hn_S} (hl : h.length ≤ 4) : (hn_push h s).length ≤ 4 := by
  unfold hn_push
  by_cases e : h.length < 4
  · rw [if_pos e, List.length_append, List.length_singleton]
    omega
  · rw [if_neg e, List.length_append, List.length_singleton, List.length_tail]
    omega
theorem hn_push_mem {h : List hn_S} {s x : hn_S} (hx : x ∈ hn_push h s) : x ∈ h ∨ x = s := by
  unfold hn_push at hx
  rcases List.mem_append.mp hx with q | q
  · by_cases e : h.length < 4
    · rw [if_pos e] at q
      exact Or.inl q
    · rw [if_neg e] at q
      exact Or.inl (List.mem_of_mem_tail q)
  · exact Or.inr (List.mem_singleton.mp q)
theorem hn_AI.rec {a : hn_AA} (h : hn_AI a) {r : Int} {t : hn_S} (ht : hn_Iv t) : hn_AI (hn_rec a r t) := by
  obtain ⟨h1, h2, h3, h4, h5⟩ := h
  refine ⟨ht, fun x hx => ?_, ?_, h4, h5⟩
  · by_cases e : r < -1
    · rw [hn_rec, if_pos e] at hx
      exact h2 x hx
    · rw [hn_rec, if_neg e] at hx
      rcases hn_push_mem hx with q | q
      · exact h2 x q
      · rw [q]
        exact h1
  · by_cases e : r < -1
    · rw [hn_rec, if_pos e]
      exact h3
    · rw [hn_rec, if_neg e]
      exact hn_push_len h3
theorem hn_HH.mv {I I' : Nat → Nat → Int} {k : Nat → Option Nat} {h : List hn_S} (H : hn_HH I k h) (e : ∀ c, 15 ≤ c → c ≤ 44 → ∀ j, I' c j = I c j) : hn_HH I' k h := by
  obtain ⟨h1, h2, B, h3, h4, h5⟩ := H
  refine ⟨by rw [e 15 (by omega) (by omega), h1], h2, B, h3, h4, fun i s hi => (h5 i s hi).mv (fun c c1 c2 j => ?_)⟩
  have hl := (List.getElem?_eq_some_iff.mp hi).1
  have := (h3 i (by omega)).2
  unfold hn_kb at this
  exact e c (by omega) (by omega) j
theorem hn_HC.mv {I I' : Nat → Nat → Int} {k : Nat → Option Nat} {a : hn_AA} (h : hn_HC I k a) (e : ∀ c, (1 ≤ c ∧ c ≤ 7) ∨ (15 ≤ c ∧ c ≤ 44) ∨ c = 61 → ∀ j, I' c j = I c j) (e1 : I' 60 1 = I 60 1) : hn_HC I' k a :=
  ⟨h.1.mv (fun c c1 c2 j => e c (by omega) j), h.2.1.mv (fun c c1 c2 j => e c (by omega) j), by rw [e1]; exact h.2.2.1, fun j hj => by rw [e 61 (by omega)]; exact h.2.2.2 j hj⟩
def hr_node (s : hn_S) (v o c : Int) : Int := if hn_isN s v then (if (0 ≤ o ∧ o ≤ 100000) ∧ (0 ≤ c ∧ c ≤ 9999) then s (26 + v.toNat) else -3) else -2
def hs_node (s : hn_S) (v o c : Int) : hn_S := if hr_node s v o c < -1 then s else hn_w (hn_w s (26 + v.toNat) o) (34 + v.toNat) c
def hr_fac (s : hn_S) (a b c m : Int) : Int := if (1 ≤ a ∧ a ≤ 300) ∧ (0 ≤ b ∧ b ≤ 100) ∧ (1 ≤ c ∧ c ≤ 300) ∧ (0 ≤ m ∧ m ≤ 9999) then s 3 else -3
def hs_fac (s : hn_S) (a b c m : Int) : hn_S := if hr_fac s a b c m < -1 then s else hn_w (hn_w (hn_w (hn_w s 2 a) 3 b) 4 c) 5 m
def hr_con (s : hn_S) (a b c m : Int) : Int := if (0 ≤ a ∧ a ≤ 9999) ∧ (0 ≤ b ∧ b ≤ 1000) ∧ (a ≤ c ∧ c ≤ 9999) ∧ (0 ≤ m ∧ m ≤ 1000) then s 6 else -3
def hs_con (s : hn_S) (a b c m : Int) : hn_S := if hr_con s a b c m < -1 then s else hn_w (hn_w (hn_w (hn_w s 6 a) 7 b) 8 c) 9 m
theorem hn_Iv_hs_node {s : hn_S} (hI : hn_Iv s) (v o c : Int) : hn_Iv (hs_node s v o c) := by
  unfold hs_node
  by_cases e : hr_node s v o c < -1
  · rw [if_pos e]
    exact hI
  · rw [if_neg e]
    unfold hr_node at e
    have h8 := hn_n8 hI
    by_cases h1 : hn_isN s v
    · rw [if_pos h1] at e
      by_cases h2 : (0 ≤ o ∧ o ≤ 100000) ∧ (0 ≤ c ∧ c ≤ 9999)
      · exact hn_Iv_w (hn_Iv_w hI (Or.inl ⟨by omega, by omega, h2.1⟩)) (Or.inr (Or.inl ⟨by omega, by omega, h2.2⟩))
      · rw [if_neg h2] at e
        exact absurd (by decide) e
    · rw [if_neg h1] at e
      exact absurd (by decide) e
theorem hn_Iv_hs_fac {s : hn_S} (hI : hn_Iv s) (a b c m : Int) : hn_Iv (hs_fac s a b c m) := by
  unfold hs_fac
  by_cases e : hr_fac s a b c m < -1
  · rw [if_pos e]
    exact hI
  · rw [if_neg e]
    unfold hr_fac at e
    by_cases h2 : (1 ≤ a ∧ a ≤ 300) ∧ (0 ≤ b ∧ b ≤ 100) ∧ (1 ≤ c ∧ c ≤ 300) ∧ (0 ≤ m ∧ m ≤ 9999)
    · refine hn_Iv_par hI (fun j hj => by rw [hn_w_ne (by omega), hn_w_ne (by omega), hn_w_ne (by omega), hn_w_ne (by omega)]) ?_ ?_
      · rw [hn_w_eq, hn_w_ne (by omega), hn_w_ne (by omega), hn_w_ne (by omega), hn_w_eq, hn_w_ne (by omega), hn_w_ne (by omega), hn_w_eq, hn_w_ne (by omega), hn_w_eq]
        exact h2
      · rw [hn_w_ne (by omega), hn_w_ne (by omega), hn_w_ne (by omega), hn_w_ne (by omega), hn_w_ne (by omega), hn_w_ne (by omega), hn_w_ne (by omega), hn_w_ne (by omega), hn_w_ne (by omega), hn_w_ne (by omega), hn_w_ne (by omega), hn_w_ne (by omega), hn_w_ne (by omega), hn_w_ne (by omega), hn_w_ne (by omega), hn_w_ne (by omega)]
        exact hI.2.2.2.1
    · rw [if_neg h2] at e
      exact absurd (by decide) e
theorem hn_Iv_hs_con {s : hn_S} (hI : hn_Iv s) (a b c m : Int) : hn_Iv (hs_con s a b c m) := by
  unfold hs_con
  by_cases e : hr_con s a b c m < -1
  · rw [if_pos e]
    exact hI
  · rw [if_neg e]
    unfold hr_con at e
    by_cases h2 : (0 ≤ a ∧ a ≤ 9999) ∧ (0 ≤ b ∧ b ≤ 1000) ∧ (a ≤ c ∧ c ≤ 9999) ∧ (0 ≤ m ∧ m ≤ 1000)
    · refine hn_Iv_par hI (fun j hj => by rw [hn_w_ne (by omega), hn_w_ne (by omega), hn_w_ne (by omega), hn_w_ne (by omega)]) ?_ ?_
      · rw [hn_w_ne (by omega), hn_w_ne (by omega), hn_w_ne (by omega), hn_w_ne (by omega), hn_w_ne (by omega), hn_w_ne (by omega), hn_w_ne (by omega), hn_w_ne (by omega), hn_w_ne (by omega), hn_w_ne (by omega), hn_w_ne (by omega), hn_w_ne (by omega), hn_w_ne (by omega), hn_w_ne (by omega), hn_w_ne (by omega), hn_w_ne (by omega)]
        exact hI.2.2.1
      · rw [hn_w_eq, hn_w_ne (by omega), hn_w_ne (by omega), hn_w_ne (by omega), hn_w_eq, hn_w_ne (by omega), hn_w_ne (by omega), hn_w_eq, hn_w_ne (by omega), hn_w_eq]
        exact h2
    · rw [if_neg h2] at e
      exact absurd (by decide) e
section HX37
variable {sx : Nat → Int} {sL : Nat} {I : Nat → Nat → Int} {k : Nat → Option Nat} {g : Nat → Nat → Int64} {a : hn_AA}
theorem hc_copy (h : hn_HC I k a) : hn_HS (hn_cpy I 8 1) 8 a.1 ∧ hn_HC (hn_cpy I 8 1) k a :=
  ⟨hn_cpy_HS (by omega) h.1, h.mv (fun c hc j => hn_cpy_fr (by omega)) (hn_cpy_fr (by omega))⟩
/-- a method's end: recorded -/
theorem hc_end (d : Nat) (h : hn_HC I k a) {I2 : Nat → Nat → Int} {t : hn_S} (ht : hn_HS I2 1 t) (hf : ∀ c, (8 ≤ c ∧ c < 46) ∨ 58 < c → ∀ j, I2 c j = hn_cpy I 8 1 c j) (r : Int) :
    ∃ I' k', hn_ret sx sL (d + 3) 92 [hn_vr 0, hn_vi r] (hn_m I2 k g) (some (hn_vi r)) (hn_m I' k' g) ∧ hn_HC I' k' (hn_rec a r t) ∧ hn_fC I' I := by
  obtain ⟨h8, hC⟩ := hc_copy h
  have g8 : hn_HS I2 8 a.1 := h8.mv (fun c c1 c2 j => hf c (by omega) j)
  have gH : hn_HH I2 k a.2.1 := hC.2.1.mv (fun c c1 c2 j => hf c (by omega) j)
  by_cases e : r < -1
  · refine ⟨I2, k, hm_recorded0 (d + 2) e, ⟨ht, ?_, ?_, fun j hj => ?_⟩, fun c hc j => ?_⟩
    · rw [hn_rec, if_pos e]
      exact gH
    · rw [hf 60 (by omega)]
      exact hC.2.2.1
    · rw [hf 61 (by omega)]
      exact hC.2.2.2 j hj
    · rw [hf c (by omega), hn_cpy_fr (by omega)]
  · obtain ⟨I', k', c1, h1, h2⟩ := hm_recorded1 (sx := sx) (sL := sL) (g := g) d e gH g8
    refine ⟨I', k', c1, ⟨ht.mv (fun c c1 c2 j => h2 c (by omega) j), ?_, ?_, fun j hj => ?_⟩, fun c hc j => ?_⟩
    · rw [hn_rec, if_neg e]
      exact h1
    · rw [h2 60 (by omega), hf 60 (by omega)]
      exact hC.2.2.1
    · rw [h2 61 (by omega), hf 61 (by omega)]
      exact hC.2.2.2 j hj
    · rw [h2 c (by omega), hf c (by omega), hn_cpy_fr (by omega)]
theorem hc_addNode (d : Nat) (hA : hn_AI a) (h : hn_HC I k a) (x y o c : Int) : ∃ I' k', hn_ret sx sL (d + 4) 58 [hn_vr 0, hn_vi x, hn_vi y, hn_vi o, hn_vi c] (hn_m I k g) (some (hn_vi (hr_add a.1 x y o c))) (hn_m I' k' g) ∧ hn_HC I' k' (hn_rec a (hr_add a.1 x y o c) (hs_add a.1 x y o c)) ∧ hn_fC I' I := by
  have c1 := hm_copyB (sx := sx) (sL := sL) (I := I) (k := k) (g := g) (d + 2)
  obtain ⟨I2, c2, h2, f2⟩ := hm_insertNode (sx := sx) (sL := sL) (k := k) (g := g) (d + 1) hA.1 (hc_copy h).2.1 x y o c
  obtain ⟨I3, k3, c3, h3, f3⟩ := hc_end (sx := sx) (sL := sL) (g := g) d h h2 (fun c hc j => f2 c (by omega) j) (hr_add a.1 x y o c)
  exact ⟨I3, k3, hn_of rfl (hb_X6_addNode_0_0 c1 c2 c3), h3, f3⟩
theorem hc_setFlow (d : Nat) (hA : hn_AI a) (h : hn_HC I k a) (x y f : Int) : ∃ I' k', hn_ret sx sL (d + 4) 59 [hn_vr 0, hn_vi x, hn_vi y, hn_vi f] (hn_m I k g) (some (hn_vi (hr_flow a.1 x y f))) (hn_m I' k' g) ∧ hn_HC I' k' (hn_rec a (hr_flow a.1 x y f) (hs_flow a.1 x y f)) ∧ hn_fC I' I := by
  have c1 := hm_copyB (sx := sx) (sL := sL) (I := I) (k := k) (g := g) (d + 2)
  obtain ⟨I2, c2, h2, f2⟩ := hm_putFlow (sx := sx) (sL := sL) (k := k) (g := g) (d + 1) hA.1 (hc_copy h).2.1 x y f
  obtain ⟨I3, k3, c3, h3, f3⟩ := hc_end (sx := sx) (sL := sL) (g := g) d h h2 (fun c hc j => f2 c (by omega) j) (hr_flow a.1 x y f)
  exact ⟨I3, k3, hn_of rfl (hb_X6_setFlow_0_0 c1 c2 c3), h3, f3⟩
theorem hc_setHub (d : Nat) (hA : hn_AI a) (h : hn_HC I k a) (v b : Int) : ∃ I' k', hn_ret sx sL (d + 4) 67 [hn_vr 0, hn_vi v, hn_vi b] (hn_m I k g) (some (hn_vi (hr_hub a.1 v))) (hn_m I' k' g) ∧ hn_HC I' k' (hn_rec a (hr_hub a.1 v) (hs_hub a.1 v b)) ∧ hn_fC I' I := by
  have c1 := hm_copyB (sx := sx) (sL := sL) (I := I) (k := k) (g := g) (d + 2)
  obtain ⟨I2, c2, h2, f2⟩ := hm_putHub (sx := sx) (sL := sL) (k := k) (g := g) (d + 1) hA.1 (hc_copy h).2.1 v b
  obtain ⟨I3, k3, c3, h3, f3⟩ := hc_end (sx := sx) (sL := sL) (g := g) d h h2 (fun c hc j => f2 c (by omega) j) (hr_hub a.1 v)
  exact ⟨I3, k3, hn_of rfl (hb_X6_setHub_0_0 c1 c2 c3), h3, f3⟩
theorem hc_assign (d : Nat) (hA : hn_AI a) (h : hn_HC I k a) (v x : Int) : ∃ I' k', hn_ret sx sL (d + 4) 68 [hn_vr 0, hn_vi v, hn_vi x] (hn_m I k g) (some (hn_vi (hr_under a.1 v x))) (hn_m I' k' g) ∧ hn_HC I' k' (hn_rec a (hr_under a.1 v x) (hs_under a.1 v x)) ∧ hn_fC I' I := by
  have c1 := hm_copyB (sx := sx) (sL := sL) (I := I) (k := k) (g := g) (d + 2)
  obtain ⟨I2, c2, h2, f2⟩ := hm_putUnder (sx := sx) (sL := sL) (k := k) (g := g) d hA.1 (hc_copy h).2.1 v x
  obtain ⟨I3, k3, c3, h3, f3⟩ := hc_end (sx := sx) (sL := sL) (g := g) d h h2 (fun c hc j => f2 c (by omega) j) (hr_under a.1 v x)
  exact ⟨I3, k3, hn_of rfl (hb_X6_assign_0_0 c1 c2 c3), h3, f3⟩
theorem hc_same (h : hn_HC I k a) {r : Int} {t : hn_S} (hr : r < -1) (ht : t = a.1) : hn_HC I k (hn_rec a r t) ∧ hn_fC I I := by
  subst ht
  rw [hn_rec, if_pos hr]
  exact ⟨h, hn_fC.rf⟩
theorem hc_setFactors (d : Nat) (hA : hn_AI a) (h : hn_HC I k a) (x y z w : Int) : ∃ I' k', hn_ret sx sL (d + 4) 61 [hn_vr 0, hn_vi x, hn_vi y, hn_vi z, hn_vi w] (hn_m I k g) (some (hn_vi (hr_fac a.1 x y z w))) (hn_m I' k' g) ∧ hn_HC I' k' (hn_rec a (hr_fac a.1 x y z w) (hs_fac a.1 x y z w)) ∧ hn_fC I' I := by
  have c1 := hm_inRange (sx := sx) (sL := sL) (I := I) (k := k) (g := g) (d + 2) x 1 300
  have c2 := hm_inRange (sx := sx) (sL := sL) (I := I) (k := k) (g := g) (d + 2) y 0 100
  have c3 := hm_inRange (sx := sx) (sL := sL) (I := I) (k := k) (g := g) (d + 2) z 1 300
  have c4 := hm_inRange (sx := sx) (sL := sL) (I := I) (k := k) (g := g) (d + 2) w 0 9999
  have c5 := hm_copyB (sx := sx) (sL := sL) (I := I) (k := k) (g := g) (d + 2)
  by_cases h2 : (1 ≤ x ∧ x ≤ 300) ∧ (0 ≤ y ∧ y ≤ 100) ∧ (1 ≤ z ∧ z ≤ 300) ∧ (0 ≤ w ∧ w ≤ 9999)
  · rw [if_pos h2.1] at c1
    rw [if_pos h2.2.1] at c2
    rw [if_pos h2.2.2.1] at c3
    rw [if_pos h2.2.2.2] at c4
    have er : hr_fac a.1 x y z w = a.1 3 := by rw [hr_fac, if_pos h2]
    have b3 := hA.1.2.2.1.2.1
    have hs := (hc_copy h).2.1
    have e9 : hn_cpy I 8 1 1 9 = a.1 3 := hs.2.2.1 1 (by omega)
    have e5 : hs_fac a.1 x y z w = hn_w (hn_w (hn_w (hn_w a.1 2 x) 3 y) 4 z) 5 w := by rw [hs_fac, if_neg (by omega)]
    obtain ⟨I3, k3, c6, h3, f3⟩ := hc_end (sx := sx) (sL := sL) (g := g) d h ((((hs.wf (j := 8) (v := x) (by omega) (by omega)).wf (j := 9) (v := y) (by omega) (by omega)).wf (j := 10) (v := z) (by omega) (by omega)).wf (j := 11) (v := w) (by omega) (by omega)) (fun c hc j => by rw [hn_up_ne (Or.inl (by omega)), hn_up_ne (Or.inl (by omega)), hn_up_ne (Or.inl (by omega)), hn_up_ne (Or.inl (by omega))]) (hn_cpy I 8 1 1 9)
    rw [er, e5, ← e9]
    exact ⟨I3, k3, hn_of rfl (hb_X6_setFactors_0_4 (c1 := c1) (h2 := by decide) (c3 := c2) (h4 := by decide) (c5 := c3) (h6 := by decide) (c7 := c4) (h8 := by decide) (c9 := c5) (c10 := c6)), h3, f3⟩
  · have er : hr_fac a.1 x y z w = -3 := by rw [hr_fac, if_neg h2]
    have es := hc_same h (r := hr_fac a.1 x y z w) (t := hs_fac a.1 x y z w) (by omega) (by rw [hs_fac, if_pos (by omega)])
    refine ⟨I, k, hn_of rfl ?_, es.1, es.2⟩
    rw [er]
    by_cases q1 : 1 ≤ x ∧ x ≤ 300
    · rw [if_pos q1] at c1
      by_cases q2 : 0 ≤ y ∧ y ≤ 100
      · rw [if_pos q2] at c2
        by_cases q3 : 1 ≤ z ∧ z ≤ 300
        · rw [if_pos q3] at c3
          rw [if_neg (fun q => h2 ⟨q1, q2, q3, q⟩)] at c4
          exact hb_X6_setFactors_0_3 (c1 := c1) (h2 := by decide) (c3 := c2) (h4 := by decide) (c5 := c3) (h6 := by decide) (c7 := c4) (h8 := by decide)
        · rw [if_neg q3] at c3
          exact hb_X6_setFactors_0_2 (c1 := c1) (h2 := by decide) (c3 := c2) (h4 := by decide) (c5 := c3) (h6 := by decide)
      · rw [if_neg q2] at c2
        exact hb_X6_setFactors_0_1 (c1 := c1) (h2 := by decide) (c3 := c2) (h4 := by decide)
    · rw [if_neg q1] at c1
      exact hb_X6_setFactors_0_0 (c1 := c1) (h2 := by decide)
theorem hc_setCongestion (d : Nat) (hA : hn_AI a) (h : hn_HC I k a) (x y z w : Int) : ∃ I' k', hn_ret sx sL (d + 4) 62 [hn_vr 0, hn_vi x, hn_vi y, hn_vi z, hn_vi w] (hn_m I k g) (some (hn_vi (hr_con a.1 x y z w))) (hn_m I' k' g) ∧ hn_HC I' k' (hn_rec a (hr_con a.1 x y z w) (hs_con a.1 x y z w)) ∧ hn_fC I' I := by
  have c1 := hm_inRange (sx := sx) (sL := sL) (I := I) (k := k) (g := g) (d + 2) x 0 9999
  have c2 := hm_inRange (sx := sx) (sL := sL) (I := I) (k := k) (g := g) (d + 2) y 0 1000
  have c3 := hm_inRange (sx := sx) (sL := sL) (I := I) (k := k) (g := g) (d + 2) z x 9999
  have c4 := hm_inRange (sx := sx) (sL := sL) (I := I) (k := k) (g := g) (d + 2) w 0 1000
  have c5 := hm_copyB (sx := sx) (sL := sL) (I := I) (k := k) (g := g) (d + 2)
  by_cases h2 : (0 ≤ x ∧ x ≤ 9999) ∧ (0 ≤ y ∧ y ≤ 1000) ∧ (x ≤ z ∧ z ≤ 9999) ∧ (0 ≤ w ∧ w ≤ 1000)
  · rw [if_pos h2.1] at c1
    rw [if_pos h2.2.1] at c2
    rw [if_pos h2.2.2.1] at c3
    rw [if_pos h2.2.2.2] at c4
    have er : hr_con a.1 x y z w = a.1 6 := by rw [hr_con, if_pos h2]
    have b3 := hA.1.2.2.2.1.1
    have hs := (hc_copy h).2.1
    have e9 : hn_cpy I 8 1 1 12 = a.1 6 := hs.2.2.1 4 (by omega)
    have e5 : hs_con a.1 x y z w = hn_w (hn_w (hn_w (hn_w a.1 6 x) 7 y) 8 z) 9 w := by rw [hs_con, if_neg (by omega)]
    obtain ⟨I3, k3, c6, h3, f3⟩ := hc_end (sx := sx) (sL := sL) (g := g) d h ((((hs.wf (j := 12) (v := x) (by omega) (by omega)).wf (j := 13) (v := y) (by omega) (by omega)).wf (j := 14) (v := z) (by omega) (by omega)).wf (j := 15) (v := w) (by omega) (by omega)) (fun c hc j => by rw [hn_up_ne (Or.inl (by omega)), hn_up_ne (Or.inl (by omega)), hn_up_ne (Or.inl (by omega)), hn_up_ne (Or.inl (by omega))]) (hn_cpy I 8 1 1 12)
    rw [er, e5, ← e9]
    exact ⟨I3, k3, hn_of rfl (hb_X6_setCongestion_0_4 (c1 := c1) (h2 := by decide) (c3 := c2) (h4 := by decide) (c5 := c3) (h6 := by decide) (c7 := c4) (h8 := by decide) (c9 := c5) (c10 := c6)), h3, f3⟩
  · have er : hr_con a.1 x y z w = -3 := by rw [hr_con, if_neg h2]
    have es := hc_same h (r := hr_con a.1 x y z w) (t := hs_con a.1 x y z w) (by omega) (by rw [hs_con, if_pos (by omega)])
    refine ⟨I, k, hn_of rfl ?_, es.1, es.2⟩
    rw [er]
    by_cases q1 : 0 ≤ x ∧ x ≤ 9999
    · rw [if_pos q1] at c1
      by_cases q2 : 0 ≤ y ∧ y ≤ 1000
      · rw [if_pos q2] at c2
        by_cases q3 : x ≤ z ∧ z ≤ 9999
        · rw [if_pos q3] at c3
          rw [if_neg (fun q => h2 ⟨q1, q2, q3, q⟩)] at c4
          exact hb_X6_setCongestion_0_3 (c1 := c1) (h2 := by decide) (c3 := c2) (h4 := by decide) (c5 := c3) (h6 := by decide) (c7 := c4) (h8 := by decide)
        · rw [if_neg q3] at c3
          exact hb_X6_setCongestion_0_2 (c1 := c1) (h2 := by decide) (c3 := c2) (h4 := by decide) (c5 := c3) (h6 := by decide)
      · rw [if_neg q2] at c2
        exact hb_X6_setCongestion_0_1 (c1 := c1) (h2 := by decide) (c3 := c2) (h4 := by decide)
    · rw [if_neg q1] at c1
      exact hb_X6_setCongestion_0_0 (c1 := c1) (h2 := by decide)
end HX37
