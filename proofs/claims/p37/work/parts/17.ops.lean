/-! what changes a state, and the class's methods that do so -/
def hn_w (s : hn_S) (q : Nat) (v : Int) : hn_S := fun i => if i = q then v else s i
theorem hn_w_eq {s : hn_S} {q : Nat} {v : Int} : hn_w s q v q = v := if_pos rfl
theorem hn_w_ne {s : hn_S} {q i : Nat} {v : Int} (h : i ≠ q) : hn_w s q v i = s i := if_neg h
def hn_pc (b q : Nat) : Nat := if q < 10 then b else if q < 50 then b + (q - 2) / 8 else b + 6
def hn_pi (q : Nat) : Nat := if q = 0 then 0 else if q < 10 then q + 6 else if q < 50 then (q - 2) % 8 else q - 50
theorem hn_pcs (b q : Nat) : (q = 0 ∧ hn_pc b q = b ∧ hn_pi q = 0) ∨ ((1 ≤ q ∧ q < 10) ∧ hn_pc b q = b ∧ hn_pi q = q + 6) ∨ ((10 ≤ q ∧ q < 50) ∧ hn_pc b q = b + (q - 2) / 8 ∧ hn_pi q = (q - 2) % 8) ∨ (50 ≤ q ∧ hn_pc b q = b + 6 ∧ hn_pi q = q - 50) := by
  unfold hn_pc hn_pi
  by_cases h0 : q = 0
  · exact Or.inl ⟨h0, by rw [if_pos (by omega)], if_pos h0⟩
  · by_cases h1 : q < 10
    · exact Or.inr (Or.inl ⟨by omega, if_pos h1, by rw [if_neg h0, if_pos h1]⟩)
    · by_cases h2 : q < 50
      · exact Or.inr (Or.inr (Or.inl ⟨by omega, by rw [if_neg h1, if_pos h2], by rw [if_neg h0, if_neg h1, if_pos h2]⟩))
      · exact Or.inr (Or.inr (Or.inr ⟨by omega, by rw [if_neg h1, if_neg h2], by rw [if_neg h0, if_neg h1, if_neg h2]⟩))
theorem hn_pi_inj {b q r : Nat} (h1 : hn_pc b q = hn_pc b r) (h2 : hn_pi q = hn_pi r) : q = r := by
  rcases hn_pcs b q with ⟨a1, a2, a3⟩ | ⟨a1, a2, a3⟩ | ⟨a1, a2, a3⟩ | ⟨a1, a2, a3⟩ <;> rcases hn_pcs b r with ⟨b1, b2, b3⟩ | ⟨b1, b2, b3⟩ | ⟨b1, b2, b3⟩ | ⟨b1, b2, b3⟩ <;> rw [a2, b2] at h1 <;> rw [a3, b3] at h2 <;> omega
theorem hn_HS_iff {I : Nat → Nat → Int} {b : Nat} {s : hn_S} : hn_HS I b s ↔ ∀ q, q < 114 → I (hn_pc b q) (hn_pi q) = s q := by
  constructor
  · rintro ⟨h0, h1, h2, h3, h4, h5, h6, h7, h8⟩ q hq
    unfold hn_pc hn_pi
    by_cases a : q < 10
    · rw [if_pos a]
      by_cases e : q = 0
      · rw [if_pos e, h0, e]
      · rw [if_neg e, if_pos a]
        by_cases e1 : q = 1
        · rw [e1]
          exact h1
        · have := h2 (q - 2) (by omega)
          rwa [show 8 + (q - 2) = q + 6 by omega, show 2 + (q - 2) = q by omega] at this
    · rw [if_neg a, if_neg (by omega : ¬ q = 0), if_neg a]
      by_cases c : q < 50
      · rw [if_pos c, if_pos c]
        have hd : (q - 2) / 8 = 1 ∨ (q - 2) / 8 = 2 ∨ (q - 2) / 8 = 3 ∨ (q - 2) / 8 = 4 ∨ (q - 2) / 8 = 5 := by omega
        rcases hd with e | e | e | e | e <;> rw [e]
        · rw [h3 _ (by omega)]
          congr 1
          omega
        · rw [h4 _ (by omega)]
          congr 1
          omega
        · rw [h5 _ (by omega)]
          congr 1
          omega
        · rw [h6 _ (by omega)]
          congr 1
          omega
        · rw [h7 _ (by omega)]
          congr 1
          omega
      · rw [if_neg c, if_neg c, h8 _ (by omega)]
        congr 1
        omega
  · intro h
    have hc : ∀ (c j q : Nat), q < 114 → c = hn_pc b q → j = hn_pi q → I c j = s q := fun c j q hq e1 e2 => by rw [e1, e2, h q hq]
    refine ⟨hc _ _ 0 (by omega) rfl rfl, hc _ _ 1 (by omega) rfl rfl, fun j hj => hc _ _ _ (by omega) ?_ ?_, fun v hv => hc _ _ _ (by omega) ?_ ?_, fun v hv => hc _ _ _ (by omega) ?_ ?_, fun v hv => hc _ _ _ (by omega) ?_ ?_, fun v hv => hc _ _ _ (by omega) ?_ ?_, fun v hv => hc _ _ _ (by omega) ?_ ?_, fun j hj => hc _ _ _ (by omega) ?_ ?_⟩ <;> first | unfold hn_pc | unfold hn_pi
    · rw [if_pos (by omega)]
    · rw [if_neg (by omega), if_pos (by omega)]
      omega
    · rw [if_neg (by omega), if_pos (by omega)]
      omega
    · rw [if_neg (by omega), if_neg (by omega), if_pos (by omega)]
      omega
    · rw [if_neg (by omega), if_pos (by omega)]
      omega
    · rw [if_neg (by omega), if_neg (by omega), if_pos (by omega)]
      omega
    · rw [if_neg (by omega), if_pos (by omega)]
      omega
    · rw [if_neg (by omega), if_neg (by omega), if_pos (by omega)]
      omega
    · rw [if_neg (by omega), if_pos (by omega)]
      omega
    · rw [if_neg (by omega), if_neg (by omega), if_pos (by omega)]
      omega
    · rw [if_neg (by omega), if_pos (by omega)]
      omega
    · rw [if_neg (by omega), if_neg (by omega), if_pos (by omega)]
      omega
    · rw [if_neg (by omega), if_neg (by omega)]
    · rw [if_neg (by omega), if_neg (by omega), if_neg (by omega)]
      omega
theorem hn_HS.w {I : Nat → Nat → Int} {b : Nat} {s : hn_S} (h : hn_HS I b s) (q : Nat) (v : Int) {c j : Nat} (ec : c = hn_pc b q) (ej : j = hn_pi q) : hn_HS (hn_up I c j v) b (hn_w s q v) := by
  subst ec
  subst ej
  rw [hn_HS_iff] at h ⊢
  intro r hr
  by_cases e : r = q
  · subst e
    rw [hn_up_eq, hn_w_eq]
  · rw [hn_w_ne e, ← h r hr]
    by_cases e1 : hn_pc b r = hn_pc b q
    · exact hn_up_ne (Or.inr (fun e2 => e (hn_pi_inj e1 e2)))
    · exact hn_up_ne (Or.inl e1)
theorem hn_HS.wa {I : Nat → Nat → Int} {b : Nat} {s : hn_S} (h : hn_HS I b s) {c p i : Nat} {v : Int} (ep : p + 8 * b = 2 + 8 * c) (hc : b < c) (hc2 : c ≤ b + 5) (hi : i < 8) : hn_HS (hn_up I c i v) b (hn_w s (p + i) v) := by
  refine h.w (p + i) v ?_ ?_
  · unfold hn_pc
    rw [if_neg (by omega), if_pos (by omega)]
    omega
  · unfold hn_pi
    rw [if_neg (by omega), if_neg (by omega), if_pos (by omega)]
    omega
theorem hn_HS.wF {I : Nat → Nat → Int} {b : Nat} {s : hn_S} (h : hn_HS I b s) {c j : Nat} {v : Int} (hc : c = b + 6) : hn_HS (hn_up I c j v) b (hn_w s (50 + j) v) := by
  refine h.w (50 + j) v ?_ ?_
  · unfold hn_pc
    rw [if_neg (by omega), if_neg (by omega), hc]
  · unfold hn_pi
    rw [if_neg (by omega), if_neg (by omega), if_neg (by omega)]
    omega
theorem hn_HS.wf {I : Nat → Nat → Int} {b : Nat} {s : hn_S} (h : hn_HS I b s) {j : Nat} {v : Int} (hj : 7 ≤ j) (hj2 : j < 16) : hn_HS (hn_up I b j v) b (hn_w s (j - 6) v) := by
  refine h.w (j - 6) v ?_ ?_
  · unfold hn_pc
    rw [if_pos (by omega)]
  · unfold hn_pi
    rw [if_neg (by omega), if_pos (by omega)]
    omega
theorem hn_HS.w0 {I : Nat → Nat → Int} {b : Nat} {s : hn_S} (h : hn_HS I b s) {v : Int} : hn_HS (hn_up I b 0 v) b (hn_w s 0 v) := h.w 0 v rfl rfl
abbrev hn_isN (s : hn_S) (x : Int) : Prop := 0 ≤ x ∧ x < (hn_n s : Int)
abbrev hn_hub (s : hn_S) (v : Nat) : Bool := (hn_hm s).testBit v
def hr_add (s : hn_S) (x y o c : Int) : Int := if (0 ≤ x ∧ x ≤ 99) ∧ (0 ≤ y ∧ y ≤ 99) ∧ (0 ≤ o ∧ o ≤ 100000) ∧ (0 ≤ c ∧ c ≤ 9999) then (if hn_n s = 8 then -5 else (hn_n s : Int)) else -3
def hn_add (s : hn_S) (x y o c : Int) : hn_S := hn_w (hn_w (hn_w (hn_w (hn_w (hn_w s (10 + hn_n s) x) (18 + hn_n s) y) (26 + hn_n s) o) (34 + hn_n s) c) (42 + hn_n s) (-1)) 0 ((hn_n s : Int) + 1)
def hs_add (s : hn_S) (x y o c : Int) : hn_S := if hr_add s x y o c < -1 then s else hn_add s x y o c
def hr_flow (s : hn_S) (a b f : Int) : Int := if hn_isN s a ∧ hn_isN s b then (if a ≠ b ∧ 0 ≤ f ∧ f ≤ 100 then hn_fl s a.toNat b.toNat else -3) else -2
def hs_flow (s : hn_S) (a b f : Int) : hn_S := if hr_flow s a b f < -1 then s else hn_w s (50 + (8 * a.toNat + b.toNat)) f
def hr_hub (s : hn_S) (v : Int) : Int := if hn_isN s v then (if hn_hub s v.toNat then 1 else 0) else -2
def hn_on (s : hn_S) (v : Nat) : hn_S := hn_w (hn_w s 1 ((hn_hm s ||| 2 ^ v : Nat) : Int)) (42 + v) v
def hn_off (s : hn_S) (v : Nat) : hn_S := fun i => if i = 1 then ((hn_hm s ^^^ 2 ^ v : Nat) : Int) else if (42 ≤ i ∧ i < 42 + hn_n s) ∧ s i = v then -1 else s i
def hs_hub (s : hn_S) (v b : Int) : hn_S := if hn_isN s v then (if b = 0 then (if hn_hub s v.toNat then hn_off s v.toNat else s) else hn_on s v.toNat) else s
def hr_under (s : hn_S) (v k : Int) : Int := if hn_isN s v ∧ hn_isN s k then (if hn_hub s v.toNat = false ∧ hn_hub s k.toNat = true then s (42 + v.toNat) else -4) else -2
def hs_under (s : hn_S) (v k : Int) : hn_S := if hr_under s v k < -1 then s else hn_w s (42 + v.toNat) k
section HX7
variable {sx : Nat → Int} {sL : Nat} {I : Nat → Nat → Int} {k : Nat → Option Nat} {g : Nat → Nat → Int64} {s : hn_S}
theorem hm_insertNode (d : Nat) (hI : hn_Iv s) (h : hn_HS I 1 s) (x y o c : Int) : ∃ I', hn_ret sx sL (d + 2) 44 [hn_vr 1, hn_vi x, hn_vi y, hn_vi o, hn_vi c] (hn_m I k g) (some (hn_vi (hr_add s x y o c))) (hn_m I' k g) ∧ hn_HS I' 1 (hs_add s x y o c) ∧ ∀ a, a < 1 ∨ 8 ≤ a → ∀ j, I' a j = I a j := by
  have c1 := hm_inRange (sx := sx) (sL := sL) (I := I) (k := k) (g := g) d x 0 99
  have c2 := hm_inRange (sx := sx) (sL := sL) (I := I) (k := k) (g := g) d y 0 99
  have c3 := hm_inRange (sx := sx) (sL := sL) (I := I) (k := k) (g := g) d o 0 100000
  have c4 := hm_inRange (sx := sx) (sL := sL) (I := I) (k := k) (g := g) d c 0 9999
  have hn := h.n hI
  have h8 := hn_n8 hI
  by_cases hx : (0 ≤ x ∧ x ≤ 99) ∧ (0 ≤ y ∧ y ≤ 99) ∧ (0 ≤ o ∧ o ≤ 100000) ∧ (0 ≤ c ∧ c ≤ 9999)
  · obtain ⟨h1, h2, h3, h4⟩ := id hx
    rw [if_pos h1] at c1
    rw [if_pos h2] at c2
    rw [if_pos h3] at c3
    rw [if_pos h4] at c4
    by_cases e : hn_n s = 8
    · have er : hr_add s x y o c = -5 := by rw [hr_add, if_pos hx, if_pos e]
      refine ⟨I, hn_of rfl ?_, by rw [hs_add, er, if_pos (by omega)]; exact h, fun _ _ _ => rfl⟩
      rw [er]
      exact hb_X4_insertNode_0_5 c1 (by decide) c2 (by decide) c3 (by decide) c4 (by decide) (by rw [hn]; omega)
    · have er : hr_add s x y o c = (hn_n s : Int) := by rw [hr_add, if_pos hx, if_neg e]
      have r := hb_X4_insertNode_0_4 (sx := sx) (sL := sL) c1 (by decide) c2 (by decide) c3 (by decide) c4 (by decide) (by rw [hn]; omega)
      rw [hn, Int.toNat_natCast] at r
      refine ⟨_, hn_of rfl (by rw [er]; exact r), ?_, fun a ha j => ?_⟩
      · rw [hs_add, er, if_neg (by omega)]
        exact (((((h.wa (c := 2) (p := 10) (i := hn_n s) (v := x) (by omega) (by omega) (by omega) (by omega)).wa (c := 3) (p := 18) (i := hn_n s) (v := y) (by omega) (by omega) (by omega) (by omega)).wa (c := 4) (p := 26) (i := hn_n s) (v := o) (by omega) (by omega) (by omega) (by omega)).wa (c := 5) (p := 34) (i := hn_n s) (v := c) (by omega) (by omega) (by omega) (by omega)).wa (c := 6) (p := 42) (i := hn_n s) (v := -1) (by omega) (by omega) (by omega) (by omega)).w0
      · rw [hn_up_ne (Or.inl (by omega)), hn_up_ne (Or.inl (by omega)), hn_up_ne (Or.inl (by omega)), hn_up_ne (Or.inl (by omega)), hn_up_ne (Or.inl (by omega)), hn_up_ne (Or.inl (by omega))]
  · have er : hr_add s x y o c = -3 := by rw [hr_add, if_neg hx]
    refine ⟨I, hn_of rfl ?_, by rw [hs_add, er, if_pos (by omega)]; exact h, fun _ _ _ => rfl⟩
    rw [er]
    by_cases h1 : 0 ≤ x ∧ x ≤ 99
    · rw [if_pos h1] at c1
      by_cases h2 : 0 ≤ y ∧ y ≤ 99
      · rw [if_pos h2] at c2
        by_cases h3 : 0 ≤ o ∧ o ≤ 100000
        · rw [if_pos h3] at c3
          by_cases h4 : 0 ≤ c ∧ c ≤ 9999
          · exact absurd ⟨h1, h2, h3, h4⟩ hx
          · rw [if_neg h4] at c4
            exact hb_X4_insertNode_0_3 c1 (by decide) c2 (by decide) c3 (by decide) c4 (by decide)
        · rw [if_neg h3] at c3
          exact hb_X4_insertNode_0_2 c1 (by decide) c2 (by decide) c3 (by decide)
      · rw [if_neg h2] at c2
        exact hb_X4_insertNode_0_1 c1 (by decide) c2 (by decide)
    · rw [if_neg h1] at c1
      exact hb_X4_insertNode_0_0 c1 (by decide)
theorem hm_putFlow (d : Nat) (hI : hn_Iv s) (h : hn_HS I 1 s) (a b f : Int) : ∃ I', hn_ret sx sL (d + 2) 45 [hn_vr 1, hn_vi a, hn_vi b, hn_vi f] (hn_m I k g) (some (hn_vi (hr_flow s a b f))) (hn_m I' k g) ∧ hn_HS I' 1 (hs_flow s a b f) ∧ ∀ c, c < 1 ∨ 8 ≤ c → ∀ j, I' c j = I c j := by
  have hn := h.n hI
  have h8 := hn_n8 hI
  have c1 := hm_has (sx := sx) (sL := sL) (k := k) (g := g) d hn a
  have c2 := hm_has (sx := sx) (sL := sL) (k := k) (g := g) d hn b
  have c3 := hm_inRange (sx := sx) (sL := sL) (I := I) (k := k) (g := g) d f 0 100
  by_cases ha : hn_isN s a
  · rw [if_pos ha] at c1
    by_cases hb : hn_isN s b
    · rw [if_pos hb] at c2
      by_cases hx : a ≠ b ∧ 0 ≤ f ∧ f ≤ 100
      · rw [if_pos hx.2] at c3
        have er : hr_flow s a b f = hn_fl s a.toNat b.toNat := by rw [hr_flow, if_pos ⟨ha, hb⟩, if_pos hx]
        unfold hn_isN at ha hb
        obtain ⟨a', rfl⟩ : ∃ a' : Nat, a = a' := ⟨a.toNat, by omega⟩
        obtain ⟨b', rfl⟩ : ∃ b' : Nat, b = b' := ⟨b.toNat, by omega⟩
        have r := hb_X4_putFlow_0_4 (sx := sx) (sL := sL) c1 (by decide) c2 (by decide) hx.1 c3 (by decide)
        have fb := hn_fl_b hI (a := a') (b := b') (by omega) (by omega)
        rw [h.f (by omega) (by omega)] at r
        refine ⟨_, hn_of rfl (by rw [er]; exact r), ?_, fun c hc j => hn_up_ne (Or.inl (by omega))⟩
        rw [hs_flow, er, if_neg (by simp only [Int.toNat_natCast]; omega), Nat.mul_comm a' 8]
        exact h.wF rfl
      · have er : hr_flow s a b f = -3 := by rw [hr_flow, if_pos ⟨ha, hb⟩, if_neg hx]
        refine ⟨I, hn_of rfl ?_, by rw [hs_flow, er, if_pos (by omega)]; exact h, fun _ _ _ => rfl⟩
        rw [er]
        by_cases e : a = b
        · exact hi_X4_putFlow_0_2 c1 (by decide) c2 (by decide) e
        · rw [if_neg (fun q => hx ⟨e, q⟩)] at c3
          exact hi_X4_putFlow_0_3 c1 (by decide) c2 (by decide) e c3 (by decide)
    · have er : hr_flow s a b f = -2 := by rw [hr_flow, if_neg (fun q => hb q.2)]
      refine ⟨I, hn_of rfl ?_, by rw [hs_flow, er, if_pos (by omega)]; exact h, fun _ _ _ => rfl⟩
      rw [er]
      rw [if_neg hb] at c2
      exact hi_X4_putFlow_0_1 c1 (by decide) c2 (by decide)
  · have er : hr_flow s a b f = -2 := by rw [hr_flow, if_neg (fun q => ha q.1)]
    refine ⟨I, hn_of rfl ?_, by rw [hs_flow, er, if_pos (by omega)]; exact h, fun _ _ _ => rfl⟩
    rw [er]
    rw [if_neg ha] at c1
    exact hi_X4_putFlow_0_0 c1 (by decide)
/-- unassignAll -/
def hn_un (I : Nat → Nat → Int) (x : Int) (n : Nat) : Nat → Nat → Int := fun c j => if (c = 6 ∧ j < n) ∧ I 6 j = x then -1 else I c j
theorem hn_un_ne {x : Int} {n c j : Nat} (h : c ≠ 6) : hn_un I x n c j = I c j := if_neg (fun q => h q.1.1)
theorem hn_un_0 {x : Int} : hn_un I x 0 = I := by
  funext c j
  exact if_neg (fun q => absurd q.1.2 (by omega))
theorem hn_un_hi {x : Int} {n j : Nat} (h : n ≤ j) : hn_un I x n 6 j = I 6 j := if_neg (fun q => absurd q.1.2 (by omega))
theorem hn_un_s1 {x : Int} {n : Nat} (h : I 6 n = x) : hn_up (hn_un I x n) 6 n (-1) = hn_un I x (n + 1) := by
  funext c j
  by_cases e : c = 6
  · subst e
    by_cases e2 : j = n
    · subst e2
      rw [hn_up_eq]
      exact (if_pos ⟨⟨rfl, by omega⟩, h⟩).symm
    · rw [hn_up_ne (Or.inr e2)]
      unfold hn_un
      by_cases q : (6 = 6 ∧ j < n) ∧ I 6 j = x
      · rw [if_pos q, if_pos ⟨⟨rfl, by omega⟩, q.2⟩]
      · rw [if_neg q, if_neg (fun w => q ⟨⟨rfl, by omega⟩, w.2⟩)]
  · rw [hn_up_ne (Or.inl e), hn_un_ne e, hn_un_ne e]
theorem hn_un_s0 {x : Int} {n : Nat} (h : ¬ I 6 n = x) : hn_un I x (n + 1) = hn_un I x n := by
  funext c j
  unfold hn_un
  by_cases q : (c = 6 ∧ j < n) ∧ I 6 j = x
  · rw [if_pos q, if_pos ⟨⟨q.1.1, by omega⟩, q.2⟩]
  · rw [if_neg q, if_neg]
    intro w
    by_cases e : j = n
    · subst e
      exact h w.2
    · exact q ⟨⟨w.1.1, by omega⟩, w.2⟩
theorem hm_unassignAll (d : Nat) {n : Nat} (hn : I 1 0 = n) (h8 : n ≤ 8) (x : Int) : hn_ret sx sL (d + 1) 47 [hn_vr 1, hn_vi x] (hn_m I k g) none (hn_m (hn_un I x n) k g) := by
  have e0 : hn_go sx sL (hn_ret sx sL d) (hn_nx 47 0 [some (hn_vr 1), some (hn_vi x), none] [] (hn_m I k g)) (hn_nx 47 2 [some (hn_vr 1), some (hn_vi x), some (hn_vi ((0 : Nat) : Int))] [] (hn_m (hn_un I x 0) k g)) := by
    rw [hn_un_0]
    exact hb_X4_unassignAll_0_0
  refine hn_of rfl (e0.tr ((hn_for (fun i => hn_nx 47 2 [some (hn_vr 1), some (hn_vi x), some (hn_vi (i : Int))] [] (hn_m (hn_un I x i) k g)) n (fun i hi => ?_)).tr (hb_X4_unassignAll_2_2 (by rw [hn_un_ne (by omega), hn]; omega))))
  have hu : hn_un I x i 1 0 = n := by rw [hn_un_ne (by omega), hn]
  by_cases e : I 6 i = x
  · rw [← hn_un_s1 e]
    exact hb_X4_unassignAll_2_0 (by omega) (by omega) (by rw [hn_un_hi (Nat.le_refl i), e])
  · rw [hn_un_s0 e]
    exact hb_X4_unassignAll_2_1 (by omega) (by omega) (by rw [hn_un_hi (Nat.le_refl i)]; exact e)
set_option maxRecDepth 100000 in
theorem hn_xorb : ∀ m : Nat, m < 256 → ∀ k : Nat, k < 8 → hn_xor (m : Int) (hn_shl 1 (k : Int)) = ((m ^^^ 2 ^ k : Nat) : Int) := by decide +kernel
set_option maxRecDepth 100000 in
theorem hn_orb : ∀ m : Nat, m < 256 → ∀ k : Nat, k < 8 → hn_or (m : Int) (hn_shl 1 (k : Int)) = ((m ||| 2 ^ k : Nat) : Int) := by decide +kernel
set_option maxRecDepth 100000 in
theorem hn_subb : ∀ m : Nat, m < 256 → ∀ k : Nat, k < 8 → m.testBit k = true → (m : Int) - hn_shl 1 (k : Int) = ((m ^^^ 2 ^ k : Nat) : Int) := by decide +kernel
theorem hn_on_same (hI : hn_Iv s) {v : Nat} (hv : v < hn_n s) (h : hn_hub s v = true) : hn_eq114 s (hn_on s v) := by
  have h1 : hn_hm s ||| 2 ^ v = hn_hm s := by
    apply Nat.eq_of_testBit_eq
    intro i
    rw [Nat.testBit_or, Nat.testBit_two_pow]
    by_cases e : v = i
    · subst e
      rw [show (hn_hm s).testBit v = true from h]
      rfl
    · simp [e]
  have h2 := (hI.2.2.2.2.2.2.2 v hv).1 h
  intro j hj
  unfold hn_on
  by_cases e : j = 42 + v
  · subst e
    rw [hn_w_eq, h2]
  · rw [hn_w_ne e]
    by_cases e1 : j = 1
    · subst e1
      rw [hn_w_eq, h1]
      exact hI.2.1.1
    · rw [hn_w_ne e1]
theorem hn_off_HS (h8' : hn_n s ≤ 8) (h : hn_HS I 1 s) {v : Nat} : hn_HS (hn_un (hn_up I 1 7 ((hn_hm s ^^^ 2 ^ v : Nat) : Int)) v (hn_n s)) 1 (hn_off s v) := by
  obtain ⟨h0, h1, h2, h3, h4, h5, h6, h7, h8⟩ := h
  have o : ∀ j, j ≠ 1 → ¬ (42 ≤ j ∧ j < 42 + hn_n s) → hn_off s v j = s j := fun j e1 e2 => by unfold hn_off; rw [if_neg e1, if_neg (fun q => e2 q.1)]
  refine ⟨?_, ?_, fun j hj => ?_, fun u hu => ?_, fun u hu => ?_, fun u hu => ?_, fun u hu => ?_, fun u hu => ?_, fun j hj => ?_⟩
  · rw [hn_un_ne (by omega), hn_up_ne (Or.inr (by omega)), h0, o 0 (by omega) (by omega)]
  · rw [hn_un_ne (by omega), hn_up_eq]
    rfl
  · rw [hn_un_ne (by omega), hn_up_ne (Or.inr (by omega)), h2 j hj, o _ (by omega) (by omega)]
  · rw [hn_un_ne (by omega), hn_up_ne (Or.inl (by omega)), h3 u hu, o _ (by omega) (by omega)]
  · rw [hn_un_ne (by omega), hn_up_ne (Or.inl (by omega)), h4 u hu, o _ (by omega) (by omega)]
  · rw [hn_un_ne (by omega), hn_up_ne (Or.inl (by omega)), h5 u hu, o _ (by omega) (by omega)]
  · rw [hn_un_ne (by omega), hn_up_ne (Or.inl (by omega)), h6 u hu, o _ (by omega) (by omega)]
  · unfold hn_un hn_off
    have h7' : I 6 u = s (42 + u) := h7 u hu
    rw [hn_up_ne (Or.inl (by omega)), h7', if_neg (by omega : ¬ 42 + u = 1)]
    by_cases q : u < hn_n s ∧ s (42 + u) = v
    · rw [if_pos ⟨⟨rfl, q.1⟩, q.2⟩, if_pos ⟨by omega, q.2⟩]
    · rw [if_neg (fun w => q ⟨w.1.2, w.2⟩), if_neg (fun w => q ⟨by omega, w.2⟩)]
  · rw [hn_un_ne (by omega), hn_up_ne (Or.inl (by omega)), h8 j hj, o _ (by omega) (by omega)]
theorem hm_putHub (d : Nat) (hI : hn_Iv s) (h : hn_HS I 1 s) (v b : Int) : ∃ I', hn_ret sx sL (d + 2) 46 [hn_vr 1, hn_vi v, hn_vi b] (hn_m I k g) (some (hn_vi (hr_hub s v))) (hn_m I' k g) ∧ hn_HS I' 1 (hs_hub s v b) ∧ ∀ c, c < 1 ∨ 8 ≤ c → ∀ j, I' c j = I c j := by
  have hn := h.n hI
  have hm := h.m hI
  have h8 := hn_n8 hI
  have m256 := hn_m256 hI
  have c1 := hm_has (sx := sx) (sL := sL) (k := k) (g := g) d hn v
  by_cases hv : hn_isN s v
  · have hv' := id hv
    rw [if_pos hv] at c1
    unfold hn_isN at hv'
    obtain ⟨u, rfl⟩ : ∃ u : Nat, v = u := ⟨v.toNat, by omega⟩
    have c2 := hm_contains (sx := sx) (sL := sL) (I := I) (k := k) (g := g) d m256 (v := u) (by omega)
    rw [← hm] at c2
    have er : hr_hub s u = if hn_hub s u then 1 else 0 := by rw [hr_hub, if_pos hv]; rfl
    by_cases hh : hn_hub s u = true
    · rw [if_pos hh] at er
      rw [if_pos hh] at c2
      by_cases e : b = 0
      · have c3 := hm_unassignAll (sx := sx) (sL := sL) (I := hn_up I 1 7 ((hn_hm s ^^^ 2 ^ u : Nat) : Int)) (k := k) (g := g) d (n := hn_n s) (by rw [hn_up_ne (Or.inr (by omega)), hn]) h8 u
        rw [← hn_xorb _ m256 u (by omega), ← hm] at c3
        have r := hb_X4_putHub_0_2 (sx := sx) (sL := sL) c1 (by decide) c2 e (by decide) c3
        rw [hm, hn_xorb _ m256 u (by omega)] at r
        refine ⟨_, hn_of rfl (by rw [er]; exact r), ?_, fun c hc j => by rw [hn_un_ne (by omega), hn_up_ne (Or.inl (by omega))]⟩
        rw [hs_hub, if_pos hv, if_pos e, Int.toNat_natCast, if_pos hh]
        exact hn_off_HS h8 h
      · refine ⟨I, hn_of rfl (by rw [er]; exact hb_X4_putHub_0_4 c1 (by decide) c2 e (by decide)), ?_, fun _ _ _ => rfl⟩
        rw [hs_hub, if_pos hv, if_neg e, Int.toNat_natCast]
        exact h.eq (hn_on_same hI (by omega) hh)
    · rw [if_neg hh] at er
      rw [if_neg hh] at c2
      by_cases e : b = 0
      · refine ⟨I, hn_of rfl (by rw [er]; exact hb_X4_putHub_0_1 c1 (by decide) c2 e (by decide)), ?_, fun _ _ _ => rfl⟩
        rw [hs_hub, if_pos hv, if_pos e, Int.toNat_natCast, if_neg hh]
        exact h
      · have r := hb_X4_putHub_0_3 (sx := sx) (sL := sL) c1 (by decide) c2 e (by decide)
        rw [hm, hn_orb _ m256 u (by omega)] at r
        refine ⟨_, hn_of rfl (by rw [er]; exact r), ?_, fun c hc j => by rw [hn_up_ne (Or.inl (by omega)), hn_up_ne (Or.inl (by omega))]⟩
        rw [hs_hub, if_pos hv, if_neg e, Int.toNat_natCast]
        exact (h.wf (j := 7) (by omega) (by omega)).wa (c := 6) (p := 42) (by omega) (by omega) (by omega) (by omega)
  · have er : hr_hub s v = -2 := by rw [hr_hub, if_neg hv]
    rw [if_neg hv] at c1
    exact ⟨I, hn_of rfl (by rw [er]; exact hi_X4_putHub_0_0 c1 (by decide)), by rw [hs_hub, if_neg hv]; exact h, fun _ _ _ => rfl⟩
theorem hm_putUnder (d : Nat) (hI : hn_Iv s) (h : hn_HS I 1 s) (v x : Int) : ∃ I', hn_ret sx sL (d + 3) 48 [hn_vr 1, hn_vi v, hn_vi x] (hn_m I k g) (some (hn_vi (hr_under s v x))) (hn_m I' k g) ∧ hn_HS I' 1 (hs_under s v x) ∧ ∀ c, c < 1 ∨ 8 ≤ c → ∀ j, I' c j = I c j := by
  have hn := h.n hI
  have hm := h.m hI
  have h8 := hn_n8 hI
  have m256 := hn_m256 hI
  have c1 := hm_has (sx := sx) (sL := sL) (k := k) (g := g) (d + 1) hn v
  have c2 := hm_has (sx := sx) (sL := sL) (k := k) (g := g) (d + 1) hn x
  by_cases hv : hn_isN s v
  · rw [if_pos hv] at c1
    by_cases hx : hn_isN s x
    · rw [if_pos hx] at c2
      have hv' := id hv
      have hx' := id hx
      unfold hn_isN at hv' hx'
      obtain ⟨u, rfl⟩ : ∃ u : Nat, v = u := ⟨v.toNat, by omega⟩
      obtain ⟨w, rfl⟩ : ∃ w : Nat, x = w := ⟨x.toNat, by omega⟩
      have c3 := hm_isHub (sx := sx) (sL := sL) (k := k) (g := g) d hn h8 hm m256 (v := u) (by omega)
      have c4 := hm_isHub (sx := sx) (sL := sL) (k := k) (g := g) d hn h8 hm m256 (v := w) (by omega)
      by_cases hu : hn_hub s u = true
      · have er : hr_under s u w = -4 := by rw [hr_under, if_pos ⟨hv, hx⟩, if_neg (fun q => by rw [Int.toNat_natCast, hu] at q; exact absurd q.1 (by decide))]
        rw [if_pos hu] at c3
        exact ⟨I, hn_of rfl (by rw [er]; exact hb_X4_putUnder_0_4 c1 (by decide) c2 (by decide) c3 (by decide)), by rw [hs_under, er, if_pos (by omega)]; exact h, fun _ _ _ => rfl⟩
      · rw [if_neg hu] at c3
        by_cases hw : hn_hub s w = true
        · have er : hr_under s u w = s (42 + u) := by rw [hr_under, if_pos ⟨hv, hx⟩, if_pos ⟨by simpa using hu, hw⟩]; rfl
          rw [if_pos hw] at c4
          have r := hb_X4_putUnder_0_3 (sx := sx) (sL := sL) c1 (by decide) c2 (by decide) c3 (by decide) c4 (by decide)
          rw [show I 6 u = s (42 + u) from h.2.2.2.2.2.2.2.1 u (by omega)] at r
          have hb := hI.2.2.2.2.1 u (by omega)
          refine ⟨_, hn_of rfl (by rw [er]; exact r), ?_, fun c hc j => hn_up_ne (Or.inl (by omega))⟩
          rw [hs_under, er, if_neg (by omega), Int.toNat_natCast]
          exact h.wa (c := 6) (p := 42) (by omega) (by omega) (by omega) (by omega)
        · have er : hr_under s u w = -4 := by rw [hr_under, if_pos ⟨hv, hx⟩, if_neg (fun q => hw q.2)]
          rw [if_neg hw] at c4
          exact ⟨I, hn_of rfl (by rw [er]; exact hb_X4_putUnder_0_2 c1 (by decide) c2 (by decide) c3 (by decide) c4 (by decide)), by rw [hs_under, er, if_pos (by omega)]; exact h, fun _ _ _ => rfl⟩
    · have er : hr_under s v x = -2 := by rw [hr_under, if_neg (fun q => hx q.2)]
      rw [if_neg hx] at c2
      exact ⟨I, hn_of rfl (by rw [er]; exact hi_X4_putUnder_0_1 c1 (by decide) c2 (by decide)), by rw [hs_under, er, if_pos (by omega)]; exact h, fun _ _ _ => rfl⟩
  · have er : hr_under s v x = -2 := by rw [hr_under, if_neg (fun q => hv q.1)]
    rw [if_neg hv] at c1
    exact ⟨I, hn_of rfl (by rw [er]; exact hi_X4_putUnder_0_0 c1 (by decide)), by rw [hs_under, er, if_pos (by omega)]; exact h, fun _ _ _ => rfl⟩
end HX7
