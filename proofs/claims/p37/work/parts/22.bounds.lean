/-! folds; the least unit cost -/
def hn_itr {X : Type} : Nat → (Nat → X → X) → X → X
  | 0, _, x => x
  | n + 1, f, x => f n (hn_itr n f x)
theorem hn_itr_up {X : Type} {n : Nat} {f : Nat → X → X} {x : X} : hn_itr (n + 1) f x = f n (hn_itr n f x) := rfl
theorem hn_itr_map {X Y : Type} (φ : X → Y) {f : Nat → X → X} {f' : Nat → Y → Y} {n : Nat} (h : ∀ i x, i < n → φ (f i x) = f' i (φ x)) (x : X) : φ (hn_itr n f x) = hn_itr n f' (φ x) := by
  induction n with
  | zero => rfl
  | succ n ih => rw [hn_itr_up, hn_itr_up, h _ _ (by omega), ih (fun i x hi => h i x (by omega))]
theorem hn_itr_dn {f : Nat → Int → Int} {n : Nat} (h : ∀ i t, i < n → f i t ≤ t) (x : Int) : hn_itr n f x ≤ x := by
  induction n with
  | zero => exact Int.le_refl x
  | succ n ih =>
    rw [hn_itr_up]
    exact Int.le_trans (h _ _ (by omega)) (ih fun i t hi => h i t (by omega))
theorem hn_itr_le {f : Nat → Int → Int} {n k : Nat} {c : Int} (h : ∀ i t, i < n → f i t ≤ t) (hk : k < n) (hc : ∀ t, f k t ≤ c) (x : Int) : hn_itr n f x ≤ c := by
  induction n with
  | zero => omega
  | succ n ih =>
    rw [hn_itr_up]
    by_cases e : k = n
    · rw [← e]
      exact hc _
    · exact Int.le_trans (h _ _ (by omega)) (ih (fun i t hi => h i t (by omega)) (by omega))
theorem hn_itr_ge {f : Nat → Int → Int} {n : Nat} {c : Int} (h : ∀ i t, i < n → c ≤ t → c ≤ f i t) {x : Int} (hx : c ≤ x) : c ≤ hn_itr n f x := by
  induction n with
  | zero => exact hx
  | succ n ih =>
    rw [hn_itr_up]
    exact h _ _ (by omega) (ih fun i t hi => h i t (by omega))
def hn_uc (s : hn_S) (a b k m : Nat) : Int := s 2 * hn_gp s a k + s 3 * hn_gp s k m + s 4 * hn_gp s m b
def hn_fp1 (s : hn_S) (w a b k m : Nat) (t : Int × Int × Int) : Int × Int × Int := if (w.testBit k = true ∧ w.testBit m = true) ∧ hn_uc s a b k m < t.1 then (hn_uc s a b k m, (k : Int), (m : Int)) else t
def hn_fp (s : hn_S) (w a b : Nat) (t : Int × Int × Int) : Int × Int × Int := hn_itr (hn_n s) (fun k t => hn_itr (hn_n s) (hn_fp1 s w a b k) t) t
def hn_ub1 (s : hn_S) (w a b k m : Nat) (t : Int) : Int := if (w.testBit k = true ∧ w.testBit m = true) ∧ hn_uc s a b k m < t then hn_uc s a b k m else t
def hn_ub (s : hn_S) (w a b : Nat) (t : Int) : Int := hn_itr (hn_n s) (fun k t => hn_itr (hn_n s) (hn_ub1 s w a b k) t) t
theorem hn_fp_1 (s : hn_S) (w a b : Nat) (t : Int × Int × Int) : (hn_fp s w a b t).1 = hn_ub s w a b t.1 := by
  refine hn_itr_map (fun t => t.1) (fun k x hk => hn_itr_map (fun t => t.1) (fun m y hm => ?_) x) t
  unfold hn_fp1 hn_ub1
  by_cases e : (w.testBit k = true ∧ w.testBit m = true) ∧ hn_uc s a b k m < y.1
  · rw [if_pos e]
    exact (if_pos e).symm
  · rw [if_neg e]
    exact (if_neg e).symm
theorem hn_uc_b {s : hn_S} (h : hn_Iv s) {a b k m : Nat} (ha : a < 8) (hb : b < 8) (hk : k < 8) (hm : m < 8) : (0 ≤ s 2 * hn_gp s a k ∧ s 2 * hn_gp s a k ≤ 59400) ∧ (0 ≤ s 3 * hn_gp s k m ∧ s 3 * hn_gp s k m ≤ 19800) ∧ (0 ≤ s 4 * hn_gp s m b ∧ s 4 * hn_gp s m b ≤ 59400) := by
  have b0 := h.2.2.1
  have b1 := hn_gp_b h ha hk
  have b2 := hn_gp_b h hk hm
  have b3 := hn_gp_b h hm hb
  exact ⟨hn_mul_b (by omega) b0.1.2 b1.1 b1.2, hn_mul_b b0.2.1.1 b0.2.1.2 b2.1 b2.2, hn_mul_b (by omega) b0.2.2.1.2 b3.1 b3.2⟩
theorem hn_ub1_dn (s : hn_S) (w a b k m : Nat) (t : Int) : hn_ub1 s w a b k m t ≤ t := by
  unfold hn_ub1
  by_cases e : (w.testBit k = true ∧ w.testBit m = true) ∧ hn_uc s a b k m < t
  · rw [if_pos e]
    omega
  · rw [if_neg e]
    exact Int.le_refl t
theorem hn_ub_le {s : hn_S} {w a b k m : Nat} (hk : k < hn_n s) (hm : m < hn_n s) (h1 : w.testBit k = true) (h2 : w.testBit m = true) (t : Int) : hn_ub s w a b t ≤ hn_uc s a b k m := by
  refine hn_itr_le (fun i t hi => hn_itr_dn (fun j u hj => hn_ub1_dn s w a b i j u) t) hk (fun t => hn_itr_le (fun j u hj => hn_ub1_dn s w a b k j u) hm (fun u => ?_) t) t
  unfold hn_ub1
  by_cases e : hn_uc s a b k m < u
  · rw [if_pos ⟨⟨h1, h2⟩, e⟩]
    exact Int.le_refl _
  · rw [if_neg (fun q => e q.2)]
    omega
theorem hn_ub_ge {s : hn_S} (h : hn_Iv s) {w a b : Nat} (ha : a < 8) (hb : b < 8) {t : Int} (ht : 0 ≤ t) : 0 ≤ hn_ub s w a b t := by
  have h8 := hn_n8 h
  refine hn_itr_ge (fun k t hk ht => hn_itr_ge (fun m u hm hu => ?_) ht) ht
  have := hn_uc_b h ha hb (k := k) (m := m) (by omega) (by omega)
  unfold hn_ub1
  by_cases e : (w.testBit k = true ∧ w.testBit m = true) ∧ hn_uc s a b k m < u
  · rw [if_pos e]
    unfold hn_uc
    omega
  · rw [if_neg e]
    exact hu
/-- what a unit costs at least, if there is a hub -/
theorem hn_ub_b {s : hn_S} (h : hn_Iv s) {w a b : Nat} (ha : a < 8) (hb : b < 8) (hw : ∃ k, k < hn_n s ∧ w.testBit k = true) {t : Int} (ht : 0 ≤ t) : 0 ≤ hn_ub s w a b t ∧ hn_ub s w a b t ≤ 138600 := by
  have h8 := hn_n8 h
  obtain ⟨k, hk, hk2⟩ := hw
  have h1 := hn_ub_le (a := a) (b := b) hk hk hk2 hk2 t
  have h2 := hn_uc_b h ha hb (k := k) (m := k) (by omega) (by omega)
  refine ⟨hn_ub_ge h ha hb ht, ?_⟩
  unfold hn_uc at h1
  omega
def hn_fc1 (s : hn_S) (w a b : Nat) : Int := if 0 < hn_fl s a b then hn_fl s a b * hn_ub s w a b 2000000000 else 0
def hn_fc (s : hn_S) (w : Nat) : Int := hn_sm (hn_n s) (fun a => hn_sm (hn_n s) (hn_fc1 s w a))
section HX22
variable {sx : Nat → Int} {sL : Nat} {I : Nat → Nat → Int} {k : Nat → Option Nat} {g : Nat → Nat → Int64} {s : hn_S}
def hn_at59 (J : Nat → Nat → Int) (t : Int × Int × Int) : Prop := J 59 1 = t.1 ∧ J 59 2 = t.2.1 ∧ J 59 3 = t.2.2
theorem hm_findPair (d : Nat) (hI : hn_Iv s) (h : hn_HS I 1 s) {a b w : Nat} (ha : a < 8) (hb : b < 8) (hw : w < 256) :
    ∃ I', hn_ret sx sL (d + 2) 1 [hn_vr 59, hn_vi a, hn_vi b, hn_vi w] (hn_m I k g) none (hn_m I' k g) ∧ hn_at59 I' (hn_fp s w a b (2000000000, I 59 2, I 59 3)) ∧ ∀ c, c ≠ 59 → ∀ j, I' c j = I c j := by
  have hn := h.n hI
  have h8 := hn_n8 hI
  have e8 : I 1 8 = s 2 := h.2.2.1 0 (by omega)
  have e9 : I 1 9 = s 3 := h.2.2.1 1 (by omega)
  have e10 : I 1 10 = s 4 := h.2.2.1 2 (by omega)
  obtain ⟨y, h1, h2, h3⟩ := hn_forE (sx := sx) (sL := sL) (C := hn_ret sx sL (d + 1)) (fun i (J : Nat → Nat → Int) => hn_nx 1 9 [some (hn_vr 59), some (hn_vi a), some (hn_vi b), some (hn_vi w), some (hn_vi (i : Int)), none, none] [] (hn_m J k g)) (fun i J => hn_at59 J (hn_itr i (fun k t => hn_itr (hn_n s) (hn_fp1 s w a b k) t) (2000000000, I 59 2, I 59 3)) ∧ ∀ c, c ≠ 59 → ∀ j, J c j = I c j) (hn_n s) (fun i J hi hJ => by
      have en : ∀ J' : Nat → Nat → Int, (∀ c, c ≠ 59 → ∀ j, J' c j = I c j) → J' 1 0 = hn_n s := fun J' q => by rw [q 1 (by omega), hn]
      obtain ⟨z, g1, g2, g3⟩ := hn_forE (sx := sx) (sL := sL) (C := hn_ret sx sL (d + 1)) (fun j (J' : Nat → Nat → Int) => hn_nx 1 24 [some (hn_vr 59), some (hn_vi a), some (hn_vi b), some (hn_vi w), some (hn_vi (i : Int)), some (hn_vi (j : Int)), none] [] (hn_m J' k g)) (fun j J' => hn_at59 J' (hn_itr j (hn_fp1 s w a b i) (hn_itr i (fun k t => hn_itr (hn_n s) (hn_fp1 s w a b k) t) (2000000000, I 59 2, I 59 3))) ∧ ∀ c, c ≠ 59 → ∀ j, J' c j = I c j) (hn_n s) (fun j J' hj hJ' => by
          obtain ⟨q1, q2⟩ := hJ'
          have eJ := en J' q2
          have hS' : hn_HS J' 1 s := h.mv (fun c h1 h2 j => q2 c (by omega) j)
          have c1 := hm_contains (sx := sx) (sL := sL) (I := J') (k := k) (g := g) d hw (v := i) (by omega)
          have c2 := hm_contains (sx := sx) (sL := sL) (I := J') (k := k) (g := g) d hw (v := j) (by omega)
          have ub := hn_uc_b hI ha hb (k := i) (m := j) (by omega) (by omega)
          rw [← e8, ← e9, ← e10, ← q2 1 (by omega) 8, ← q2 1 (by omega) 9, ← q2 1 (by omega) 10] at ub
          have eu : hn_uc s a b i j = J' 1 8 * hn_gp s a i + J' 1 9 * hn_gp s i j + J' 1 10 * hn_gp s j b := by
            rw [q2 1 (by omega) 8, q2 1 (by omega) 9, q2 1 (by omega) 10, e8, e9, e10]
            rfl
          by_cases t1 : w.testBit i = true
          · rw [if_pos t1] at c1
            by_cases t2 : w.testBit j = true
            · rw [if_pos t2] at c2
              have c3 := hm_gap (sx := sx) (sL := sL) (k := k) (g := g) d hI hS' (a := a) (b := i) (by omega) (by omega)
              have c4 := hm_gap (sx := sx) (sL := sL) (k := k) (g := g) d hI hS' (a := i) (b := j) (by omega) (by omega)
              have c5 := hm_gap (sx := sx) (sL := sL) (k := k) (g := g) d hI hS' (a := j) (b := b) (by omega) (by omega)
              by_cases t3 : hn_uc s a b i j < J' 59 1
              · have r := hb_X0_findPair_24_2 (sx := sx) (sL := sL) (by omega) c1 (by decide) c2 (by decide) c3 (by omega) c4 (by omega) (by omega) c5 (by omega) (by omega) (by omega)
                rw [← eu] at r
                refine ⟨_, r, ?_, fun c hc j => by rw [hn_up_ne (Or.inl hc), hn_up_ne (Or.inl hc), hn_up_ne (Or.inl hc), q2 c hc]⟩
                rw [hn_itr_up, hn_fp1, if_pos ⟨⟨t1, t2⟩, by rw [← q1.1]; exact t3⟩]
                exact ⟨by rw [hn_up_ne (Or.inr (by omega)), hn_up_ne (Or.inr (by omega)), hn_up_eq], by rw [hn_up_ne (Or.inr (by omega)), hn_up_eq], by rw [hn_up_eq]⟩
              · have r := hb_X0_findPair_24_3 (sx := sx) (sL := sL) (by omega) c1 (by decide) c2 (by decide) c3 (by omega) c4 (by omega) (by omega) c5 (by omega) (by omega) (by omega)
                refine ⟨J', r, ?_, q2⟩
                rw [hn_itr_up, hn_fp1, if_neg (fun q => t3 (by rw [q1.1]; exact q.2))]
                exact q1
            · rw [if_neg t2] at c2
              refine ⟨J', hb_X0_findPair_24_1 (by omega) c1 (by decide) c2 (by decide), ?_, q2⟩
              rw [hn_itr_up, hn_fp1, if_neg (fun q => t2 q.1.2)]
              exact q1
          · rw [if_neg t1] at c1
            refine ⟨J', hb_X0_findPair_24_0 (by omega) c1 (by decide), ?_, q2⟩
            rw [hn_itr_up, hn_fp1, if_neg (fun q => t1 q.1.1)]
            exact q1) J ⟨hJ.1, hJ.2⟩
      exact ⟨z, (hb_X0_findPair_9_0 (by have := en J hJ.2; omega)).tr (g1.tr (hb_X0_findPair_24_4 (by have := en z g3; omega))), g2, g3⟩) (hn_up I 59 1 2000000000) ⟨⟨by rw [hn_up_eq]; rfl, by rw [hn_up_ne (Or.inr (by omega))]; rfl, by rw [hn_up_ne (Or.inr (by omega))]; rfl⟩, fun c hc j => hn_up_ne (Or.inl hc)⟩
  exact ⟨y, hn_of rfl (hb_X0_findPair_0_0.tr (h1.tr (hb_X0_findPair_9_1 (by rw [h3 1 (by omega), hn]; omega)))), h2, h3⟩
theorem hn_fc1_b {s : hn_S} (h : hn_Iv s) {w a b : Nat} (ha : a < hn_n s) (hb : b < hn_n s) (hw : 0 < hn_n s → ∃ k, k < hn_n s ∧ w.testBit k = true) : 0 ≤ hn_fc1 s w a b ∧ hn_fc1 s w a b ≤ 13860000 := by
  have h8 := hn_n8 h
  have b1 := hn_fl_b h (a := a) (b := b) (by omega) (by omega)
  have b2 := hn_ub_b h (w := w) (a := a) (b := b) (by omega) (by omega) (hw (by omega)) (t := 2000000000) (by omega)
  unfold hn_fc1
  by_cases e : 0 < hn_fl s a b
  · rw [if_pos e]
    exact hn_mul_b b1.1 b1.2 b2.1 b2.2
  · rw [if_neg e]
    omega
theorem hm_flowCost (d : Nat) (hI : hn_Iv s) (h : hn_HS I 1 s) {w : Nat} (hw : w < 256) (hw2 : 0 < hn_n s → ∃ k, k < hn_n s ∧ w.testBit k = true) :
    ∃ I', hn_ret sx sL (d + 3) 2 [hn_vr 59, hn_vi w] (hn_m I k g) (some (hn_vi (hn_fc s w))) (hn_m I' k g) ∧ ∀ c, c ≠ 59 → ∀ j, I' c j = I c j := by
  have hn := h.n hI
  have h8 := hn_n8 hI
  obtain ⟨y, h1, h2⟩ := hn_forE (sx := sx) (sL := sL) (C := hn_ret sx sL (d + 2)) (fun i (J : Nat → Nat → Int) => hn_nx 2 4 [some (hn_vr 59), some (hn_vi w), some (hn_vi (hn_sm i (fun a => hn_sm (hn_n s) (hn_fc1 s w a)))), some (hn_vi (i : Int)), none, none] [] (hn_m J k g)) (fun i J => ∀ c, c ≠ 59 → ∀ j, J c j = I c j) (hn_n s) (fun i J hi hJ => by
      have b1 : 0 ≤ hn_sm i (fun a => hn_sm (hn_n s) (hn_fc1 s w a)) ∧ hn_sm i (fun a => hn_sm (hn_n s) (hn_fc1 s w a)) ≤ 110880000 * i := hn_sm_b 110880000 (fun a ha => by
        have : 0 ≤ hn_sm (hn_n s) (hn_fc1 s w a) ∧ hn_sm (hn_n s) (hn_fc1 s w a) ≤ 13860000 * hn_n s := hn_sm_b 13860000 (fun b hb => hn_fc1_b hI (a := a) (b := b) (by omega) hb hw2)
        omega)
      obtain ⟨z, g1, g2⟩ := hn_forE (sx := sx) (sL := sL) (C := hn_ret sx sL (d + 2)) (fun j (J' : Nat → Nat → Int) => hn_nx 2 18 [some (hn_vr 59), some (hn_vi w), some (hn_vi (hn_sm i (fun a => hn_sm (hn_n s) (hn_fc1 s w a)) + hn_sm j (hn_fc1 s w i))), some (hn_vi (i : Int)), some (hn_vi (j : Int)), none] [] (hn_m J' k g)) (fun j J' => ∀ c, c ≠ 59 → ∀ j, J' c j = I c j) (hn_n s) (fun j J' hj q2 => by
          have hS' : hn_HS J' 1 s := h.mv (fun c h1 h2 j => q2 c (by omega) j)
          have eJ : J' 1 0 = hn_n s := by rw [q2 1 (by omega), hn]
          have ef : J' 7 (i * 8 + j) = hn_fl s i j := by rw [q2 7 (by omega), h.f (by omega) (by omega)]
          have b2 : 0 ≤ hn_sm j (hn_fc1 s w i) ∧ hn_sm j (hn_fc1 s w i) ≤ 13860000 * j := hn_sm_b 13860000 (fun b hb => hn_fc1_b hI (a := i) (b := b) hi (by omega) hw2)
          have b3 := hn_fc1_b hI (a := i) (b := j) hi hj hw2
          by_cases e : 0 < hn_fl s i j
          · obtain ⟨J2, c1, x1, x2⟩ := hm_findPair (sx := sx) (sL := sL) (k := k) (g := g) d hI hS' (a := i) (b := j) (w := w) (by omega) (by omega) hw
            have x3 : J2 59 1 = hn_ub s w i j 2000000000 := by rw [x1.1, hn_fp_1]
            have ev : hn_fc1 s w i j = hn_fl s i j * hn_ub s w i j 2000000000 := by rw [hn_fc1, if_pos e]
            rw [ev] at b3
            have r := hb_X0_flowCost_18_0 (sx := sx) (sL := sL) (x2 := hn_sm i (fun a => hn_sm (hn_n s) (hn_fc1 s w a)) + hn_sm j (hn_fc1 s w i)) (n3 := i) (n4 := j) (by omega) (by omega) (by omega) (by omega) (by omega) c1 (by rw [ef, x3]; omega) (by rw [ef, x3]; omega)
            rw [ef, x3, ← ev, Int.add_assoc] at r
            exact ⟨J2, r, fun c hc j => by rw [x2 c hc, q2 c hc]⟩
          · have ev : hn_fc1 s w i j = 0 := by rw [hn_fc1, if_neg e]
            have r := hb_X0_flowCost_18_1 (sx := sx) (sL := sL) (C := hn_ret sx sL (d + 2)) (I := J') (k := k) (g := g) (x1 := w) (x2 := hn_sm i (fun a => hn_sm (hn_n s) (hn_fc1 s w a)) + hn_sm j (hn_fc1 s w i)) (n3 := i) (n4 := j) (by omega) (by omega) (by omega) (by omega) (by omega)
            refine ⟨J', ?_, q2⟩
            show hn_go sx sL _ _ (hn_nx 2 18 [some (hn_vr 59), some (hn_vi w), some (hn_vi (hn_sm i (fun a => hn_sm (hn_n s) (hn_fc1 s w a)) + hn_sm (j + 1) (hn_fc1 s w i))), some (hn_vi (i : Int)), some (hn_vi ((j + 1 : Nat) : Int)), none] [] (hn_m J' k g))
            rw [hn_sm_up, ev, Int.add_zero]
            exact r) J hJ
      have e0 : hn_go sx sL (hn_ret sx sL (d + 2)) (hn_nx 2 4 [some (hn_vr 59), some (hn_vi w), some (hn_vi (hn_sm i (fun a => hn_sm (hn_n s) (hn_fc1 s w a)))), some (hn_vi (i : Int)), none, none] [] (hn_m J k g)) (hn_nx 2 18 [some (hn_vr 59), some (hn_vi w), some (hn_vi (hn_sm i (fun a => hn_sm (hn_n s) (hn_fc1 s w a)) + hn_sm 0 (hn_fc1 s w i))), some (hn_vi (i : Int)), some (hn_vi ((0 : Nat) : Int)), none] [] (hn_m J k g)) := by
        rw [show hn_sm 0 (hn_fc1 s w i) = 0 from rfl, Int.add_zero]
        exact hb_X0_flowCost_4_0 (by rw [hJ 1 (by omega), hn]; omega)
      exact ⟨z, e0.tr (g1.tr (hb_X0_flowCost_18_2 (by rw [g2 1 (by omega), hn]; omega) (by omega))), g2⟩) I (fun _ _ _ => rfl)
  exact ⟨y, hn_of rfl (hb_X0_flowCost_0_0.tr (h1.tr (hb_X0_flowCost_4_1 (by rw [h2 1 (by omega), hn]; omega)))), h2⟩
end HX22
