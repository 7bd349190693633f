/-! the class's public methods that search -/
/-- a best so far is a mask's find -/
def hn_gd (s : hn_S) (y : Int × Int × (Nat → Int)) : Prop := ∃ w : Nat, w ≠ 0 ∧ w < 2 ^ hn_n s ∧ 0 ≤ (hn_fnd s w).2.1 ∧ (hn_fnd s w).2.1 ≤ 1200000000 ∧ y = ((hn_fnd s w).2.1, (w : Int), (hn_fnd s w).2.2)
def hn_RB (s : hn_S) (x y : Int × Int × (Nat → Int)) : Prop := ((x.1 = 2000000000 ∧ x.2.1 = 0) ∧ y.1 = 2147483647 ∧ y.2.1 = 0) ∨ (x = y ∧ hn_gd s y)
theorem hn_gd.ne {s : hn_S} {y : Int × Int × (Nat → Int)} (h : hn_gd s y) : y.2.1 ≠ 0 ∧ 0 ≤ y.1 ∧ y.1 ≤ 1200000000 := by
  obtain ⟨w, h0, h1, h2, h3, e⟩ := h
  rw [e]
  exact ⟨fun q => h0 (Int.ofNat.inj q), h2, h3⟩
theorem hn_RB.try {s : hn_S} (hI : hn_Iv s) {w : Nat} (h0 : w ≠ 0) (hw : w < 2 ^ hn_n s) {x y : Int × Int × (Nat → Int)} (h : hn_RB s x y) : hn_RB s (hn_try s w x) (hn_try s w y) := by
  have fb := hn_fnd_b hI (w := w)
  unfold hn_try
  rcases h with ⟨⟨h1, h2⟩, h3, h4⟩ | ⟨e, hg⟩
  · rcases fb with q | q
    · rw [if_neg (by omega), if_neg (by omega)]
      exact Or.inl ⟨⟨h1, h2⟩, h3, h4⟩
    · rw [if_pos (by omega), if_pos (by omega)]
      exact Or.inr ⟨rfl, w, h0, hw, q.1, q.2.1, rfl⟩
  · subst e
    have g := hg.ne
    by_cases t : (hn_fnd s w).2.1 < x.1
    · rw [if_pos t]
      exact Or.inr ⟨rfl, w, h0, hw, by omega, by omega, rfl⟩
    · rw [if_neg t]
      exact Or.inr ⟨rfl, hg⟩
theorem hn_RB.all {s : hn_S} (hI : hn_Iv s) (c : Int) {x y : Int × Int × (Nat → Int)} (h : hn_RB s x y) : hn_RB s (hn_itr (2 ^ hn_n s - 1) (hn_allf s c) x) (hn_itr (2 ^ hn_n s - 1) (hn_allf s c) y) := by
  refine hn_itr_rel (R := hn_RB s) (fun i x y hi r => ?_) h
  unfold hn_allf
  by_cases e : c = 0 ∨ hn_bits (i + 1) = c
  · rw [if_pos e, if_pos e]
    exact r.try hI (by omega) (by omega)
  · rw [if_neg e, if_neg e]
    exact r
theorem hn_xlt {s : hn_S} {w j : Nat} (hw : w < 2 ^ hn_n s) (hj : j < hn_n s) : w ^^^ 2 ^ j < 2 ^ hn_n s := Nat.xor_lt_two_pow hw (Nat.pow_lt_pow_right (by omega) hj)
theorem hn_RB.nbr {s : hn_S} (hI : hn_Iv s) {w : Nat} (hw : w < 2 ^ hn_n s) {x y : Int × Int × (Nat → Int)} (h : hn_RB s x y) : hn_RB s (hn_itr (hn_n s) (hn_nbrf s w) x) (hn_itr (hn_n s) (hn_nbrf s w) y) := by
  refine hn_itr_rel (R := hn_RB s) (fun i x y hi r => ?_) h
  unfold hn_nbrf
  by_cases e : w ^^^ 2 ^ i = 0
  · rw [if_pos e, if_pos e]
    exact r
  · rw [if_neg e, if_neg e]
    exact r.try hI e (hn_xlt hw hi)
def hn_b0 : Int × Int × (Nat → Int) := (2147483647, 0, fun _ => 0)
theorem hn_RB0 (s : hn_S) (P : Nat → Int) : hn_RB s (2000000000, 0, P) hn_b0 := Or.inl ⟨⟨rfl, rfl⟩, rfl, rfl⟩
/-- the cost that is told -/
def hn_lst (y : Int × Int × (Nat → Int)) : Int := if y.2.1 = 0 then -1 else y.1
theorem hn_RB.lst {s : hn_S} {x y : Int × Int × (Nat → Int)} (h : hn_RB s x y) : hn_lst x = hn_lst y := by
  rcases h with ⟨⟨h1, h2⟩, h3, h4⟩ | ⟨e, hg⟩
  · unfold hn_lst
    rw [if_pos h2, if_pos h4]
  · rw [e]
theorem hn_RB.m {s : hn_S} {x y : Int × Int × (Nat → Int)} (h : hn_RB s x y) : x.2.1 = y.2.1 := by
  rcases h with ⟨⟨h1, h2⟩, h3, h4⟩ | ⟨e, hg⟩
  · rw [h2, h4]
  · rw [e]
theorem hn_RB.le {s : hn_S} {x y : Int × Int × (Nat → Int)} (h : hn_RB s x y) : x.1 ≤ 2147483647 := by
  rcases h with ⟨⟨h1, h2⟩, h3, h4⟩ | ⟨e, hg⟩
  · omega
  · rw [e]
    have := hg.ne
    omega
def hn_tk2 (s : hn_S) (y : Int × Int × (Nat → Int)) : hn_S := if y.2.1 = 0 then s else hn_take s y.2.1 y.2.2
theorem hn_RB.tk {s : hn_S} {x y : Int × Int × (Nat → Int)} (h : hn_RB s x y) : hn_tk2 s x = hn_tk2 s y := by
  rcases h with ⟨⟨h1, h2⟩, h3, h4⟩ | ⟨e, hg⟩
  · unfold hn_tk2
    rw [if_pos h2, if_pos h4]
  · rw [e]
theorem hn_RB.Iv {s : hn_S} (hI : hn_Iv s) {x y : Int × Int × (Nat → Int)} (h : hn_RB s x y) : hn_Iv (hn_tk2 s y) := by
  unfold hn_tk2
  rcases h with ⟨⟨h1, h2⟩, h3, h4⟩ | ⟨e, w, h0, h1, h2, h3, h4⟩
  · rw [if_pos h4]
    exact hI
  · rw [h4]
    have hz : ¬ (((hn_fnd s w).2.1, (w : Int), (hn_fnd s w).2.2) : Int × Int × (Nat → Int)).2.1 = 0 := fun q => h0 (Int.ofNat.inj q)
    rw [if_neg hz]
    rcases hn_fnd_b hI (w := w) with q | ⟨-, -, p, hp, e2, -⟩
    · omega
    · show hn_Iv (hn_take s (w : Int) (hn_fnd s w).2.2)
      rw [e2]
      exact hn_take_Iv hI h1 hp
abbrev hn_isM (s : hn_S) (w : Int) : Prop := 1 ≤ w ∧ w ≤ ((2 ^ hn_n s : Nat) : Int) - 1
def hr_least (s : hn_S) (w : Int) : Int := if hn_isM s w then hn_lst (hn_try s w.toNat hn_b0) else -3
def hr_feas (s : hn_S) (w : Int) : Int := if hn_isM s w then (hn_fnd s w.toNat).1 else -3
def hn_bst (s : hn_S) (c : Int) : Int × Int × (Nat → Int) := hn_itr (2 ^ hn_n s - 1) (hn_allf s c) hn_b0
def hr_best (s : hn_S) (c : Int) : Int := if 0 ≤ c ∧ c ≤ 8 then hn_lst (hn_bst s c) else -3
def hr_adopt (s : hn_S) (c : Int) : Int := if 0 ≤ c ∧ c ≤ 8 then (if (hn_bst s c).2.1 = 0 then -1 else (hn_bst s c).2.1) else -3
def hs_adopt (s : hn_S) (c : Int) : hn_S := if 0 ≤ c ∧ c ≤ 8 then hn_tk2 s (hn_bst s c) else s
def hr_settle (s : hn_S) : Int := if s 1 = 0 then -4 else hn_lst (hn_try s (hn_hm s) hn_b0)
def hs_settle (s : hn_S) : hn_S := if s 1 = 0 then s else hn_tk2 s (hn_try s (hn_hm s) hn_b0)
/-- steps to neighbours -/
def hn_imp (s : hn_S) : Nat → Nat → Int × Int × (Nat → Int) → Nat × (Int × Int × (Nat → Int))
  | 0, _, b => (0, b)
  | f + 1, w, b => if (hn_itr (hn_n s) (hn_nbrf s w) b).1 < b.1 then ((hn_imp s f (hn_itr (hn_n s) (hn_nbrf s w) b).2.1.toNat (hn_itr (hn_n s) (hn_nbrf s w) b)).1 + 1, (hn_imp s f (hn_itr (hn_n s) (hn_nbrf s w) b).2.1.toNat (hn_itr (hn_n s) (hn_nbrf s w) b)).2) else (0, b)
def hn_imr (s : hn_S) : Nat × (Int × Int × (Nat → Int)) := hn_imp s 256 (hn_hm s) (hn_try s (hn_hm s) hn_b0)
def hr_improve (s : hn_S) : Int := if s 1 = 0 then -4 else ((hn_imr s).1 : Int)
def hs_improve (s : hn_S) : hn_S := if s 1 = 0 then s else hn_tk2 s (hn_imr s).2
theorem hn_gd.nbr {s : hn_S} (hI : hn_Iv s) {w : Nat} (hw : w < 2 ^ hn_n s) {x y : Int × Int × (Nat → Int)} (h : hn_RB s x y) (hl : (hn_itr (hn_n s) (hn_nbrf s w) x).1 < x.1) : (hn_itr (hn_n s) (hn_nbrf s w) x) = (hn_itr (hn_n s) (hn_nbrf s w) y) ∧ (hn_itr (hn_n s) (hn_nbrf s w) y).1 < y.1 ∧ ∃ v : Nat, v < 2 ^ hn_n s ∧ (hn_itr (hn_n s) (hn_nbrf s w) x).2.1 = (v : Int) := by
  rcases h.nbr hI hw with ⟨⟨h1, h2⟩, h3, h4⟩ | ⟨e, hg⟩
  · have := h.le
    rcases h with ⟨⟨g1, g2⟩, g3, g4⟩ | ⟨e, hg⟩
    · omega
    · have := hg.ne
      rw [e] at hl h1
      omega
  · refine ⟨e, ?_, ?_⟩
    · rw [← e]
      rcases h with ⟨⟨g1, g2⟩, g3, g4⟩ | ⟨e, hg⟩
      · omega
      · rw [← e]
        exact hl
    · rw [e]
      obtain ⟨v, h0, h1, h2, h3, e2⟩ := hg
      exact ⟨v, h1, by rw [e2]⟩
theorem hn_imp_RB {s : hn_S} (hI : hn_Iv s) : ∀ (f w : Nat) {x y : Int × Int × (Nat → Int)}, w < 2 ^ hn_n s → hn_RB s x y → (hn_imp s f w x).1 = (hn_imp s f w y).1 ∧ hn_RB s (hn_imp s f w x).2 (hn_imp s f w y).2
  | 0, _, _, _, _, h => ⟨rfl, h⟩
  | f + 1, w, x, y, hw, h => by
    unfold hn_imp
    by_cases e : (hn_itr (hn_n s) (hn_nbrf s w) x).1 < x.1
    · obtain ⟨e1, e2, v, hv, e3⟩ := hn_gd.nbr hI hw h e
      rw [if_pos e, if_pos e2]
      have r := h.nbr hI hw
      rw [← e1, e3, Int.toNat_natCast]
      rw [← e1] at r
      have q := hn_imp_RB hI f v hv r
      exact ⟨by rw [q.1], q.2⟩
    · have e2 : ¬ (hn_itr (hn_n s) (hn_nbrf s w) y).1 < y.1 := by
        intro e2
        rcases h.nbr hI hw with ⟨⟨h1, h2⟩, h3, h4⟩ | ⟨e5, hg⟩
        · rcases h with ⟨⟨g1, g2⟩, g3, g4⟩ | ⟨e6, hg⟩
          · omega
          · have := hg.ne
            omega
        · have := hg.ne
          rcases h with ⟨⟨g1, g2⟩, g3, g4⟩ | ⟨e6, hg⟩
          · rw [e5] at e
            omega
          · rw [e5, e6] at e
            exact e e2
      rw [if_neg e, if_neg e2]
      exact ⟨rfl, h⟩
theorem hn_nbr_id {s : hn_S} {w : Nat} {b : Int × Int × (Nat → Int)} (e : ¬ (hn_itr (hn_n s) (hn_nbrf s w) b).1 < b.1) : hn_itr (hn_n s) (hn_nbrf s w) b = b := by
  have key : ∀ n, (hn_itr n (hn_nbrf s w) b).1 < b.1 ∨ hn_itr n (hn_nbrf s w) b = b := by
    intro n
    induction n with
    | zero => exact Or.inr rfl
    | succ n ih =>
      rw [hn_itr_up]
      unfold hn_nbrf
      by_cases q : w ^^^ 2 ^ n = 0
      · rw [if_pos q]
        exact ih
      · rw [if_neg q]
        have l := hn_try_le s (w ^^^ 2 ^ n) (hn_itr n (hn_nbrf s w) b)
        rcases ih with h | h
        · exact Or.inl (Int.lt_of_le_of_lt l h)
        · have h' : hn_itr n (fun j b => if w ^^^ 2 ^ j = 0 then b else hn_try s (w ^^^ 2 ^ j) b) b = b := h
          rw [h']
          unfold hn_try
          by_cases t : (hn_fnd s (w ^^^ 2 ^ n)).2.1 < b.1
          · rw [if_pos t]
            exact Or.inl t
          · rw [if_neg t]
            exact Or.inr rfl
  exact (key _).resolve_left e
/-- how many masks are cheaper -/
def hn_low (s : hn_S) (c : Int) : Int := hn_sm 256 (fun w => if w ≠ 0 ∧ w < 2 ^ hn_n s ∧ (hn_fnd s w).2.1 < c then 1 else 0)
theorem hn_low_b (s : hn_S) (c : Int) : 0 ≤ hn_low s c ∧ hn_low s c ≤ 255 := by
  refine ⟨hn_sm_nn fun w _ => ?_, ?_⟩
  · show 0 ≤ if w ≠ 0 ∧ w < 2 ^ hn_n s ∧ (hn_fnd s w).2.1 < c then (1 : Int) else 0
    by_cases e : w ≠ 0 ∧ w < 2 ^ hn_n s ∧ (hn_fnd s w).2.1 < c
    · rw [if_pos e]
      decide
    · rw [if_neg e]
      decide
  · have h1 : hn_low s c ≤ hn_sm 256 (fun w => if w = 0 then (0 : Int) else 1) := hn_sm_le fun w _ => by
      by_cases e : w ≠ 0 ∧ w < 2 ^ hn_n s ∧ (hn_fnd s w).2.1 < c
      · rw [if_pos e, if_neg e.1]
        decide
      · rw [if_neg e]
        by_cases q : w = 0
        · rw [if_pos q]
          decide
        · rw [if_neg q]
          decide
    have h2 : hn_sm 256 (fun w => if w = 0 then (0 : Int) else 1) = 255 := by decide +kernel
    omega
theorem hn_low_lt {s : hn_S} {c c' : Int} (h : c ≤ c') {w : Nat} (h0 : w ≠ 0) (hw : w < 2 ^ hn_n s) (hw8 : w < 256) (h1 : c ≤ (hn_fnd s w).2.1) (h2 : (hn_fnd s w).2.1 < c') : hn_low s c + 1 ≤ hn_low s c' := by
  have e1 : hn_sm 256 (fun v => if v = w then (1 : Int) else 0) = 1 := by
    rw [hn_sm_one (k := w) hw8 (fun i _ hi => if_neg hi), if_pos rfl]
  have e2 : hn_low s c + hn_sm 256 (fun v => if v = w then (1 : Int) else 0) ≤ hn_low s c' := by
    unfold hn_low
    rw [← hn_sm_add]
    refine hn_sm_le fun v _ => ?_
    by_cases q : v = w
    · subst q
      rw [if_pos rfl, if_neg (fun q => by omega), if_pos ⟨h0, hw, h2⟩]
      decide
    · rw [if_neg q]
      by_cases e : v ≠ 0 ∧ v < 2 ^ hn_n s ∧ (hn_fnd s v).2.1 < c
      · rw [if_pos e, if_pos ⟨e.1, e.2.1, by omega⟩]
        decide
      · rw [if_neg e]
        by_cases e : v ≠ 0 ∧ v < 2 ^ hn_n s ∧ (hn_fnd s v).2.1 < c'
        · rw [if_pos e]
          decide
        · rw [if_neg e]
          decide
  omega
/-- so many steps at most -/
theorem hn_imp_lt {s : hn_S} (hI : hn_Iv s) : ∀ (f w : Nat) {x y : Int × Int × (Nat → Int)}, w < 2 ^ hn_n s → hn_RB s x y → ((hn_imp s f w y).1 : Int) ≤ hn_low s y.1
  | 0, _, _, y, _, h => (hn_low_b s y.1).1
  | f + 1, w, x, y, hw, h => by
    unfold hn_imp
    by_cases e : (hn_itr (hn_n s) (hn_nbrf s w) y).1 < y.1
    · rw [if_pos e]
      rcases h.nbr hI hw with ⟨⟨h1, h2⟩, h3, h4⟩ | ⟨e5, hg⟩
      · rcases h with ⟨⟨g1, g2⟩, g3, g4⟩ | ⟨e6, hg⟩
        · omega
        · have := hg.ne
          omega
      · obtain ⟨v, h0, h1, h2, h3, e2⟩ := id hg
        have q := hn_imp_lt hI f v (x := hn_itr (hn_n s) (hn_nbrf s w) y) (y := hn_itr (hn_n s) (hn_nbrf s w) y) h1 (Or.inr ⟨rfl, hg⟩)
        have ev : (hn_itr (hn_n s) (hn_nbrf s w) y).2.1.toNat = v := by rw [e2]; exact Int.toNat_natCast v
        rw [ev]
        have e1 : (hn_itr (hn_n s) (hn_nbrf s w) y).1 = (hn_fnd s v).2.1 := by rw [e2]
        have l := hn_low_lt (s := s) (c := (hn_itr (hn_n s) (hn_nbrf s w) y).1) (c' := y.1) (by omega) h0 h1 (hn_w256 hI h1) (by omega) (by omega)
        show (((hn_imp s f v (hn_itr (hn_n s) (hn_nbrf s w) y)).1 + 1 : Nat) : Int) ≤ _
        omega
    · rw [if_neg e]
      exact (hn_low_b s y.1).1
section HX39
variable {sx : Nat → Int} {sL : Nat} {I : Nat → Nat → Int} {k : Nat → Option Nat} {g : Nat → Nat → Int64} {a : hn_AA}
theorem hc_ktk (h : hn_HC I k a) {I' : Nat → Nat → Int} (e : ∀ c, c < 46 ∨ 58 < c → ∀ j, I' c j = I c j) : hn_HC I' k a ∧ hn_fC I' I :=
  ⟨h.mv (fun c hc j => e c (by omega) j) (e 60 (by omega) 1), fun c hc j => e c (by omega) j⟩
theorem hn_lst_ret (d : Nat) {n : Nat} {b : Int × Int × (Nat → Int)} (hB : hn_BS n I b) : hn_ret sx sL (d + 1) 21 [hn_vr 48] (hn_m I k g) (some (hn_vi (hn_lst b))) (hn_m I k g) := by
  have := hm_leastCost (sx := sx) (sL := sL) (I := I) (k := k) (g := g) d
  rw [hB.2.1, hB.1] at this
  exact this
theorem hc_start (d : Nat) (hI : hn_Iv a.1) (h : hn_HS I 1 a.1) : ∃ I' P, hn_ret sx sL (d + 2) 20 [hn_vr 48] (hn_m I k g) none (hn_m I' k g) ∧ hn_SS a.1 I' ∧ hn_BS (hn_n a.1) I' (2000000000, 0, P) ∧ hn_RB a.1 (2000000000, 0, P) hn_b0 ∧ ∀ c, c < 48 ∨ 52 < c → ∀ j, I' c j = I c j := by
  obtain ⟨I', c1, h1, h2, h3⟩ := hm_start (sx := sx) (sL := sL) (k := k) (g := g) d hI h
  exact ⟨I', fun v => I' 58 v, c1, h1, ⟨h2.1, h2.2, fun v _ => rfl⟩, hn_RB0 _ _, h3⟩
theorem hc_mask (d : Nat) (hA : hn_AI a) (h : hn_HC I k a) (w : Int) : hn_ret sx sL (d + 1) 39 [hn_vr 1] (hn_m I k g) (some (hn_vi (((2 ^ hn_n a.1 : Nat) : Int) - 1))) (hn_m I k g) ∧ hn_ret sx sL (d + 1) 94 [hn_vi w, hn_vi 1, hn_vi (((2 ^ hn_n a.1 : Nat) : Int) - 1)] (hn_m I k g) (some (hn_vi (if hn_isM a.1 w then 1 else 0))) (hn_m I k g) :=
  ⟨hm_allNodes d (h.1.n hA.1) (hn_n8 hA.1), hm_inRange d _ _ _⟩
theorem hc_least (d : Nat) (hA : hn_AI a) (h : hn_HC I k a) (w : Int) : ∃ I', hn_ret sx sL (d + 13) 78 [hn_vr 0, hn_vi w] (hn_m I k g) (some (hn_vi (hr_least a.1 w))) (hn_m I' k g) ∧ hn_HC I' k a ∧ hn_fC I' I := by
  obtain ⟨c1, c2⟩ := hc_mask (sx := sx) (sL := sL) (g := g) (d + 11) hA h w
  unfold hr_least
  by_cases e : hn_isM a.1 w
  · rw [if_pos e] at c2 ⊢
    obtain ⟨I3, P, c3, s3, b3, r3, f3⟩ := hc_start (sx := sx) (sL := sL) (k := k) (g := g) (d + 10) hA.1 h.1
    obtain ⟨u, rfl⟩ : ∃ u : Nat, w = u := ⟨w.toNat, by omega⟩
    rw [Int.toNat_natCast]
    obtain ⟨I4, c4, b4, f4⟩ := hm_tryHubs (sx := sx) (sL := sL) (k := k) (g := g) d hA.1 (h.1.mv (fun c c1 c2 j => f3 c (by omega) j)) s3 (w := u) (by omega) (by omega) b3 r3.le
    have c5 := hn_lst_ret (sx := sx) (sL := sL) (k := k) (g := g) (d + 11) b4
    rw [(r3.try hA.1 (w := u) (by omega) (by omega)).lst] at c5
    have key : ∀ c, c < 46 ∨ 58 < c → ∀ j, I4 c j = I c j := fun c hc j => by rw [f4 c (by omega), f3 c (by omega)]
    exact ⟨I4, hn_of rfl (hb_X6_least_0_1 (c1 := c1) (c2 := c2) (h3 := by decide) (c4 := c3) (c5 := c4) (c6 := c5)), (hc_ktk h key).1, (hc_ktk h key).2⟩
  · rw [if_neg e] at c2 ⊢
    exact ⟨I, hn_of rfl (hb_X6_least_0_0 (c1 := c1) (c2 := c2) (h3 := by decide)), h, hn_fC.rf⟩
theorem hc_feasible (d : Nat) (hA : hn_AI a) (h : hn_HC I k a) (w : Int) : ∃ I', hn_ret sx sL (d + 12) 85 [hn_vr 0, hn_vi w] (hn_m I k g) (some (hn_vi (hr_feas a.1 w))) (hn_m I' k g) ∧ hn_HC I' k a ∧ hn_fC I' I := by
  obtain ⟨c1, c2⟩ := hc_mask (sx := sx) (sL := sL) (g := g) (d + 10) hA h w
  unfold hr_feas
  by_cases e : hn_isM a.1 w
  · rw [if_pos e] at c2 ⊢
    obtain ⟨I3, P, c3, s3, b3, r3, f3⟩ := hc_start (sx := sx) (sL := sL) (k := k) (g := g) (d + 9) hA.1 h.1
    obtain ⟨u, rfl⟩ : ∃ u : Nat, w = u := ⟨w.toNat, by omega⟩
    rw [Int.toNat_natCast]
    obtain ⟨I4, c4, f4⟩ := hm_countPlans (sx := sx) (sL := sL) (k := k) (g := g) d hA.1 (h.1.mv (fun c c1 c2 j => f3 c (by omega) j)) s3 (w := u) (by omega) (by omega)
    have key : ∀ c, c < 46 ∨ 58 < c → ∀ j, I4 c j = I c j := fun c hc j => by rw [f4 c (by omega), f3 c (by omega)]
    exact ⟨I4, hn_of rfl (hb_X6_feasible_0_1 (c1 := c1) (c2 := c2) (h3 := by decide) (c4 := c3) (c5 := c4)), (hc_ktk h key).1, (hc_ktk h key).2⟩
  · rw [if_neg e] at c2 ⊢
    exact ⟨I, hn_of rfl (hb_X6_feasible_0_0 (c1 := c1) (c2 := c2) (h3 := by decide)), h, hn_fC.rf⟩
theorem hc_best (d : Nat) (hA : hn_AI a) (h : hn_HC I k a) (w : Int) : ∃ I', hn_ret sx sL (d + 14) 79 [hn_vr 0, hn_vi w] (hn_m I k g) (some (hn_vi (hr_best a.1 w))) (hn_m I' k g) ∧ hn_HC I' k a ∧ hn_fC I' I := by
  have c1 := hm_inRange (sx := sx) (sL := sL) (I := I) (k := k) (g := g) (d + 12) w 0 8
  unfold hr_best
  by_cases e : 0 ≤ w ∧ w ≤ 8
  · rw [if_pos e] at c1 ⊢
    obtain ⟨I3, P, c3, s3, b3, r3, f3⟩ := hc_start (sx := sx) (sL := sL) (k := k) (g := g) (d + 11) hA.1 h.1
    obtain ⟨I4, c4, b4, f4⟩ := hm_tryAll (sx := sx) (sL := sL) (k := k) (g := g) d hA.1 (h.1.mv (fun c c1 c2 j => f3 c (by omega) j)) s3 w b3 r3.le
    have c5 := hn_lst_ret (sx := sx) (sL := sL) (k := k) (g := g) (d + 12) b4
    rw [(r3.all hA.1 w).lst] at c5
    have key : ∀ c, c < 46 ∨ 58 < c → ∀ j, I4 c j = I c j := fun c hc j => by rw [f4 c (by omega), f3 c (by omega)]
    exact ⟨I4, hn_of rfl (hb_X6_best_0_1 (c1 := c1) (h2 := by decide) (c3 := c3) (c4 := c4) (c5 := c5)), (hc_ktk h key).1, (hc_ktk h key).2⟩
  · rw [if_neg e] at c1 ⊢
    exact ⟨I, hn_of rfl (hb_X6_best_0_0 (c1 := c1) (h2 := by decide)), h, hn_fC.rf⟩
/-- takeOver, in one -/
theorem hc_takeOver (d : Nat) {s : hn_S} (hI : hn_Iv s) (h : hn_HS I 1 s) {b y : Int × Int × (Nat → Int)} (hB : hn_BS (hn_n s) I b) (hr : hn_RB s b y) :
    ∃ I', hn_ret sx sL (d + 1) 22 [hn_vr 48] (hn_m I k g) none (hn_m I' k g) ∧ hn_HS I' 1 (hn_tk2 s y) ∧ ∀ c, c < 1 ∨ 8 ≤ c → ∀ j, I' c j = I c j := by
  rw [← hr.tk]
  unfold hn_tk2
  by_cases e : b.2.1 = 0
  · rw [if_pos e]
    exact ⟨I, hm_takeOver0 d hB e, h, fun _ _ _ => rfl⟩
  · rw [if_neg e]
    exact hm_takeOver1 d hI h hB e
theorem hc_adopt (d : Nat) (hA : hn_AI a) (h : hn_HC I k a) (w : Int) : ∃ I' k', hn_ret sx sL (d + 14) 80 [hn_vr 0, hn_vi w] (hn_m I k g) (some (hn_vi (hr_adopt a.1 w))) (hn_m I' k' g) ∧ hn_HC I' k' (hn_rec a (hr_adopt a.1 w) (hs_adopt a.1 w)) ∧ hn_fC I' I := by
  have c1 := hm_inRange (sx := sx) (sL := sL) (I := I) (k := k) (g := g) (d + 12) w 0 8
  by_cases e : 0 ≤ w ∧ w ≤ 8
  · have er : hr_adopt a.1 w = if (hn_bst a.1 w).2.1 = 0 then -1 else (hn_bst a.1 w).2.1 := by rw [hr_adopt, if_pos e]
    have es : hs_adopt a.1 w = hn_tk2 a.1 (hn_bst a.1 w) := by rw [hs_adopt, if_pos e]
    rw [if_pos e] at c1
    have c2 := hm_copyB (sx := sx) (sL := sL) (I := I) (k := k) (g := g) (d + 12)
    obtain ⟨g8, gC⟩ := hc_copy h
    obtain ⟨I3, P, c3, s3, b3, r3, f3⟩ := hc_start (sx := sx) (sL := sL) (k := k) (g := g) (d + 11) hA.1 gC.1
    have H3 : hn_HS I3 1 a.1 := gC.1.mv (fun c c1 c2 j => f3 c (by omega) j)
    obtain ⟨I4, c4, b4, f4⟩ := hm_tryAll (sx := sx) (sL := sL) (k := k) (g := g) d hA.1 H3 s3 w b3 r3.le
    have r4 := r3.all hA.1 w
    obtain ⟨I5, c5, t5, f5⟩ := hc_takeOver (sx := sx) (sL := sL) (k := k) (g := g) (d + 12) hA.1 (H3.mv (fun c c1 c2 j => f4 c (by omega) j)) b4 r4
    have e16 : I5 48 16 = (hn_bst a.1 w).2.1 := by rw [f5 48 (by omega), b4.2.1, r4.m]; rfl
    obtain ⟨I6, k6, c6, h6, f6⟩ := hc_end (sx := sx) (sL := sL) (g := g) (d + 10) h t5 (fun c hc j => by rw [f5 c (by omega), f4 c (by omega), f3 c (by omega)]) (hr_adopt a.1 w)
    rw [es]
    refine ⟨I6, k6, hn_of rfl ?_, h6, f6⟩
    by_cases q : (hn_bst a.1 w).2.1 = 0
    · rw [if_pos q] at er
      rw [er] at c6 ⊢
      exact hb_X6_adopt_0_1 (c1 := c1) (h2 := by decide) (c3 := c2) (c4 := c3) (c5 := c4) (c6 := c5) (h7 := by rw [e16]; exact q) (c8 := c6)
    · rw [if_neg q] at er
      rw [er] at c6 ⊢
      have c6' := c6
      rw [← e16] at c6'
      rw [← e16]
      exact hb_X6_adopt_0_2 (c1 := c1) (h2 := by decide) (c3 := c2) (c4 := c3) (c5 := c4) (c6 := c5) (h7 := by rw [e16]; exact q) (c8 := c6')
  · have er : hr_adopt a.1 w = -3 := by rw [hr_adopt, if_neg e]
    have es := hc_same h (r := hr_adopt a.1 w) (t := hs_adopt a.1 w) (by omega) (by rw [hs_adopt, if_neg e])
    rw [if_neg e] at c1
    refine ⟨I, k, hn_of rfl ?_, es.1, es.2⟩
    rw [er]
    exact hb_X6_adopt_0_0 (c1 := c1) (h2 := by decide)
theorem hc_hm0 (hA : hn_AI a) (e : ¬ a.1 1 = 0) : hn_hm a.1 ≠ 0 ∧ hn_hm a.1 < 2 ^ hn_n a.1 := by
  have := hA.1.2.1
  exact ⟨fun q => by rw [q] at this; exact e this.1, this.2⟩
theorem hc_settle (d : Nat) (hA : hn_AI a) (h : hn_HC I k a) : ∃ I' k', hn_ret sx sL (d + 13) 77 [hn_vr 0] (hn_m I k g) (some (hn_vi (hr_settle a.1))) (hn_m I' k' g) ∧ hn_HC I' k' (hn_rec a (hr_settle a.1) (hs_settle a.1)) ∧ hn_fC I' I := by
  have e7 : I 1 7 = a.1 1 := h.1.2.1
  by_cases e : a.1 1 = 0
  · have er : hr_settle a.1 = -4 := by rw [hr_settle, if_pos e]
    have es := hc_same h (r := hr_settle a.1) (t := hs_settle a.1) (by omega) (by rw [hs_settle, if_pos e])
    refine ⟨I, k, hn_of rfl ?_, es.1, es.2⟩
    rw [er]
    exact hb_X6_settle_0_0 (h1 := by rw [e7]; exact e)
  · have er : hr_settle a.1 = hn_lst (hn_try a.1 (hn_hm a.1) hn_b0) := by rw [hr_settle, if_neg e]
    have es : hs_settle a.1 = hn_tk2 a.1 (hn_try a.1 (hn_hm a.1) hn_b0) := by rw [hs_settle, if_neg e]
    obtain ⟨m0, m1⟩ := hc_hm0 hA e
    have c2 := hm_copyB (sx := sx) (sL := sL) (I := I) (k := k) (g := g) (d + 11)
    obtain ⟨g8, gC⟩ := hc_copy h
    obtain ⟨I3, P, c3, s3, b3, r3, f3⟩ := hc_start (sx := sx) (sL := sL) (k := k) (g := g) (d + 10) hA.1 gC.1
    have H3 : hn_HS I3 1 a.1 := gC.1.mv (fun c c1 c2 j => f3 c (by omega) j)
    obtain ⟨I4, c4, b4, f4⟩ := hm_tryHubs (sx := sx) (sL := sL) (k := k) (g := g) d hA.1 H3 s3 m0 m1 b3 r3.le
    have r4 := r3.try hA.1 m0 m1
    rw [← H3.m hA.1] at c4
    obtain ⟨I5, c5, t5, f5⟩ := hc_takeOver (sx := sx) (sL := sL) (k := k) (g := g) (d + 11) hA.1 (H3.mv (fun c c1 c2 j => f4 c (by omega) j)) b4 r4
    have c6 := hn_lst_ret (sx := sx) (sL := sL) (k := k) (g := g) (d + 11) (b4.mv (f5 48 (by omega) 15) (f5 48 (by omega) 16) (f5 58 (by omega)))
    rw [r4.lst] at c6
    obtain ⟨I6, k6, c7, h7, f7⟩ := hc_end (sx := sx) (sL := sL) (g := g) (d + 9) h t5 (fun c hc j => by rw [f5 c (by omega), f4 c (by omega), f3 c (by omega)]) (hn_lst (hn_try a.1 (hn_hm a.1) hn_b0))
    rw [er, es]
    exact ⟨I6, k6, hn_of rfl (hb_X6_settle_0_1 (h1 := by rw [e7]; exact e) (c2 := c2) (c3 := c3) (c4 := c4) (c5 := c5) (c6 := c6) (c7 := c7)), h7, f7⟩
/-- the loop of improve -/
theorem hc_steps (d : Nat) {s : hn_S} (hI : hn_Iv s) : ∀ (f w i : Nat) (J : Nat → Nat → Int) {b y : Int × Int × (Nat → Int)}, 256 ≤ (i : Int) + (f : Int) → (i : Int) + hn_low s y.1 ≤ 255 → w < 2 ^ hn_n s → hn_HS J 1 s → hn_SS s J → hn_BS (hn_n s) J b → hn_RB s b y →
    ∃ J' b', hn_BS (hn_n s) J' b' ∧ hn_RB s b' (hn_imp s f w y).2 ∧ hn_kt J' J ∧ ∀ (J2 J3 : Nat → Nat → Int) (k3 : Nat → Option Nat), hn_ret sx sL (d + 13) 22 [hn_vr 48] (hn_m J' k g) none (hn_m J2 k g) → hn_ret sx sL (d + 13) 92 [hn_vr 0, hn_vi ((i + (hn_imp s f w y).1 : Nat) : Int)] (hn_m J2 k g) (some (hn_vi ((i + (hn_imp s f w y).1 : Nat) : Int))) (hn_m J3 k3 g) →
      hn_go sx sL (hn_ret sx sL (d + 13)) (hn_nx 81 56 [some (hn_vr 0), some (hn_vi w), some (hn_vi i)] [] (hn_m J k g)) (.inr (some (hn_vi ((i + (hn_imp s f w y).1 : Nat) : Int)), hn_m J3 k3 g)) := by
  intro f
  induction f with
  | zero =>
    intro w i J b y hi hl hw hH hS hB hr
    exfalso
    have q := (hn_low_b s y.1).1
    have e : ((0 : Nat) : Int) = 0 := rfl
    rw [e] at hi
    clear hw hH hS hB hr
    omega
  | succ f ih =>
    intro w i J b y hi hl hw hH hS hB hr
    obtain ⟨J1, c1, b1, k1⟩ := hm_tryNeighbours (sx := sx) (sL := sL) (k := k) (g := g) d hI hH hS hw hB hr.le
    have lb := hn_low_b s y.1
    by_cases e : (hn_itr (hn_n s) (hn_nbrf s w) b).1 < b.1
    · obtain ⟨e1, e2, v, hv, e3⟩ := hn_gd.nbr hI hw hr e
      rw [if_pos e] at c1
      have r1 := hr.nbr hI hw
      have lw : hn_low s (hn_itr (hn_n s) (hn_nbrf s w) y).1 + 1 ≤ hn_low s y.1 := by
        rcases r1 with ⟨⟨h1, h2⟩, h3, h4⟩ | ⟨e5, hg⟩
        · exfalso
          rcases hr with ⟨⟨g1, g2⟩, g3, g4⟩ | ⟨e6, hg⟩
          · omega
          · have := hg.ne
            omega
        · obtain ⟨u, h0, h1, h2, h3, e4⟩ := id hg
          have e6 : (hn_itr (hn_n s) (hn_nbrf s w) y).1 = (hn_fnd s u).2.1 := by rw [e4]
          exact hn_low_lt (by omega) h0 h1 (hn_w256 hI h1) (by omega) (by omega)
      have em : (hn_imp s (f + 1) w y) = ((hn_imp s f v (hn_itr (hn_n s) (hn_nbrf s w) y)).1 + 1, (hn_imp s f v (hn_itr (hn_n s) (hn_nbrf s w) y)).2) := by
        have ev : (hn_itr (hn_n s) (hn_nbrf s w) y).2.1.toNat = v := by rw [← e1, e3]; exact Int.toNat_natCast v
        rw [hn_imp, if_pos e2, ev]
      obtain ⟨J', b', p1, p2, p3, p4⟩ := ih v (i + 1) J1 (b := hn_itr (hn_n s) (hn_nbrf s w) b) (y := hn_itr (hn_n s) (hn_nbrf s w) y) (by omega) (by omega) hv (hH.mv (fun c a b j => k1 c (by omega) j)) (hS.mv (fun c a b j => k1 c (by omega) j)) b1 r1
      rw [em]
      refine ⟨J', b', p1, p2, p3.tr k1, fun J2 J3 k3 q1 q2 => ?_⟩
      have ei : i + ((hn_imp s f v (hn_itr (hn_n s) (hn_nbrf s w) y)).1 + 1) = i + 1 + (hn_imp s f v (hn_itr (hn_n s) (hn_nbrf s w) y)).1 := by omega
      show hn_go sx sL _ _ (.inr (some (hn_vi ((i + ((hn_imp s f v (hn_itr (hn_n s) (hn_nbrf s w) y)).1 + 1) : Nat) : Int)), hn_m J3 k3 g))
      have q2' : hn_ret sx sL (d + 13) 92 [hn_vr 0, hn_vi ((i + ((hn_imp s f v (hn_itr (hn_n s) (hn_nbrf s w) y)).1 + 1) : Nat) : Int)] (hn_m J2 k g) (some (hn_vi ((i + ((hn_imp s f v (hn_itr (hn_n s) (hn_nbrf s w) y)).1 + 1) : Nat) : Int))) (hn_m J3 k3 g) := q2
      rw [ei] at q2' ⊢
      have q := p4 J2 J3 k3 q1 q2'
      have r0 := hb_X6_improve_56_1 (sx := sx) (sL := sL) (x1 := (w : Int)) (x2 := (i : Int)) (h1 := by omega) (c2 := c1) (h3 := by decide) (h4 := by omega)
      rw [b1.2.1, e3, ← Int.natCast_succ] at r0
      exact r0.tr q
    · rw [if_neg e] at c1
      have e2 : ¬ (hn_itr (hn_n s) (hn_nbrf s w) y).1 < y.1 := by
        intro e2
        rcases hr.nbr hI hw with ⟨⟨h1, h2⟩, h3, h4⟩ | ⟨e5, hg⟩
        · rcases hr with ⟨⟨g1, g2⟩, g3, g4⟩ | ⟨e6, hg⟩
          · omega
          · have := hg.ne
            omega
        · have := hg.ne
          rcases hr with ⟨⟨g1, g2⟩, g3, g4⟩ | ⟨e6, hg⟩
          · rw [e5] at e
            omega
          · rw [e5, e6] at e
            exact e e2
      have em : (hn_imp s (f + 1) w y) = (0, y) := by rw [hn_imp, if_neg e2]
      have le := hn_nbrf_le s w b (hn_n s)
      have eb : hn_RB s (hn_itr (hn_n s) (hn_nbrf s w) b) y := by
        have : hn_itr (hn_n s) (hn_nbrf s w) b = b := hn_nbr_id e
        rw [this]
        exact hr
      rw [em]
      refine ⟨J1, _, b1, eb, k1, fun J2 J3 k3 q1 q2 => ?_⟩
      exact hb_X6_improve_56_0 (h1 := by omega) (c2 := c1) (h3 := rfl) (c4 := q1) (c5 := q2)
theorem hc_improve (d : Nat) (hA : hn_AI a) (h : hn_HC I k a) : ∃ I' k', hn_ret sx sL (d + 14) 81 [hn_vr 0] (hn_m I k g) (some (hn_vi (hr_improve a.1))) (hn_m I' k' g) ∧ hn_HC I' k' (hn_rec a (hr_improve a.1) (hs_improve a.1)) ∧ hn_fC I' I := by
  have e7 : I 1 7 = a.1 1 := h.1.2.1
  by_cases e : a.1 1 = 0
  · have er : hr_improve a.1 = -4 := by rw [hr_improve, if_pos e]
    have es := hc_same h (r := hr_improve a.1) (t := hs_improve a.1) (by omega) (by rw [hs_improve, if_pos e])
    refine ⟨I, k, hn_of rfl ?_, es.1, es.2⟩
    rw [er]
    exact hb_X6_improve_0_0 (h1 := by rw [e7]; exact e)
  · have er : hr_improve a.1 = ((hn_imr a.1).1 : Int) := by rw [hr_improve, if_neg e]
    have es : hs_improve a.1 = hn_tk2 a.1 (hn_imr a.1).2 := by rw [hs_improve, if_neg e]
    obtain ⟨m0, m1⟩ := hc_hm0 hA e
    have c2 := hm_copyB (sx := sx) (sL := sL) (I := I) (k := k) (g := g) (d + 12)
    obtain ⟨g8, gC⟩ := hc_copy h
    obtain ⟨I3, P, c3, s3, b3, r3, f3⟩ := hc_start (sx := sx) (sL := sL) (k := k) (g := g) (d + 11) hA.1 gC.1
    have H3 : hn_HS I3 1 a.1 := gC.1.mv (fun c c1 c2 j => f3 c (by omega) j)
    obtain ⟨I4, c4, b4, f4⟩ := hm_tryHubs (sx := sx) (sL := sL) (k := k) (g := g) (d + 1) hA.1 H3 s3 m0 m1 b3 r3.le
    have r4 := r3.try hA.1 m0 m1
    rw [← H3.m hA.1] at c4
    have H4 : hn_HS I4 1 a.1 := H3.mv (fun c c1 c2 j => f4 c (by omega) j)
    have lb := hn_low_b a.1 (hn_try a.1 (hn_hm a.1) hn_b0).1
    obtain ⟨J', b', p1, p2, p3, p4⟩ := hc_steps (sx := sx) (sL := sL) (k := k) (g := g) d hA.1 256 (hn_hm a.1) 0 I4 (b := hn_try a.1 (hn_hm a.1) (2000000000, 0, P)) (y := hn_try a.1 (hn_hm a.1) hn_b0) (by decide) (by omega) m1 H4 (s3.mv (fun c a b j => f4 c (by omega) j)) b4 r4
    obtain ⟨I5, c5, t5, f5⟩ := hc_takeOver (sx := sx) (sL := sL) (k := k) (g := g) (d + 12) hA.1 (H4.mv (fun c c1 c2 j => p3 c (by omega) j)) p1 p2
    obtain ⟨I6, k6, c6, h6, f6⟩ := hc_end (sx := sx) (sL := sL) (g := g) (d + 10) h t5 (fun c hc j => by rw [f5 c (by omega), p3 c (by omega), f4 c (by omega), f3 c (by omega)]) ((hn_imr a.1).1 : Int)
    rw [er, es]
    have z := p4 I5 I6 k6 c5 (by rw [Nat.zero_add]; exact c6)
    rw [Nat.zero_add] at z
    have r0 := hb_X6_improve_0_1 (sx := sx) (sL := sL) (h1 := by rw [e7]; exact e) (c2 := c2) (c3 := c3) (c4 := c4)
    rw [H4.m hA.1] at r0
    exact ⟨I6, k6, hn_of rfl (r0.tr z), h6, f6⟩
end HX39
