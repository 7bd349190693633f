/-! texts: what they say -/
def hn_rn (c : Nat → Bool) (ln : Nat) : Nat → Nat → Nat
  | 0, i => i
  | f + 1, i => if i < ln ∧ c i = true then hn_rn c ln f (i + 1) else i
def hn_af (c : Nat → Bool) (ln i : Nat) : Nat := hn_rn c ln (ln - i) i
theorem hn_af_s {c : Nat → Bool} {ln i : Nat} (h : i < ln ∧ c i = true) : hn_af c ln i = hn_af c ln (i + 1) := by
  unfold hn_af
  rw [show ln - i = (ln - (i + 1)) + 1 by omega]
  exact if_pos h
theorem hn_af_e {c : Nat → Bool} {ln i : Nat} (h : ¬ (i < ln ∧ c i = true)) : hn_af c ln i = i := by
  unfold hn_af
  by_cases e : i < ln
  · rw [show ln - i = (ln - (i + 1)) + 1 by omega]
    exact if_neg h
  · rw [show ln - i = 0 by omega]
    rfl
theorem hn_af_p {c : Nat → Bool} {ln : Nat} : ∀ (f i : Nat), ln ≤ i + f → i ≤ hn_af c ln i ∧ (i ≤ ln → hn_af c ln i ≤ ln) ∧ (∀ u, i ≤ u → u < hn_af c ln i → u < ln ∧ c u = true) ∧ ¬ (hn_af c ln i < ln ∧ c (hn_af c ln i) = true)
  | 0, i, h => by
    have e : ¬ (i < ln ∧ c i = true) := by omega
    rw [hn_af_e e]
    exact ⟨Nat.le_refl i, fun q => q, fun u h1 h2 => absurd h1 (by omega), e⟩
  | f + 1, i, h => by
    by_cases e : i < ln ∧ c i = true
    · rw [hn_af_s e]
      obtain ⟨h1, h2, h3, h4⟩ := hn_af_p (c := c) (ln := ln) f (i + 1) (by omega)
      refine ⟨by omega, fun q => h2 (by omega), fun u h5 h6 => ?_, h4⟩
      by_cases q : u = i
      · rw [q]
        exact e
      · exact h3 u (by omega) h6
    · rw [hn_af_e e]
      exact ⟨Nat.le_refl i, fun q => q, fun u h1 h2 => absurd h1 (by omega), e⟩
abbrev hn_bl (t : Nat → Int) : Nat → Bool := fun i => decide (t i = 32)
abbrev hn_dg (t : Nat → Int) : Nat → Bool := fun i => decide (48 ≤ t i ∧ t i ≤ 57)
def hn_vf (t : Nat → Int) (i n : Nat) : Int := hn_itr n (fun j v => v * 10 + t (i + j) - 48) 0
theorem hn_vf_b {t : Nat → Int} {i : Nat} : ∀ {n : Nat}, (∀ u, i ≤ u → u < i + n → hn_dg t u = true) → 0 ≤ hn_vf t i n ∧ hn_vf t i n < ((10 ^ n : Nat) : Int)
  | 0, _ => by
    show 0 ≤ (0 : Int) ∧ (0 : Int) < ((10 ^ 0 : Nat) : Int)
    decide
  | n + 1, h => by
    have ih := hn_vf_b (t := t) (i := i) (n := n) (fun u h1 h2 => h u h1 (by omega))
    have q := of_decide_eq_true (h (i + n) (by omega) (by omega))
    show 0 ≤ hn_vf t i n * 10 + t (i + n) - 48 ∧ hn_vf t i n * 10 + t (i + n) - 48 < _
    rw [Nat.pow_succ]
    omega
def hn_nof (x : Int) : Nat := if x = 97 then 2 else if x = 102 then 3 else if x = 104 then 1 else if x = 110 then 4 else if x = 117 then 1 else 0
theorem hn_nof_b (x : Int) : hn_nof x ≤ 4 := by
  unfold hn_nof
  repeat' split
  all_goals omega
def hn_ups (V : Nat → Int) (c : Nat) (x : Int) : Nat → Int := fun u => if u = c then x else V u
/-- the numbers of a command -/
def hn_rdR (t : Nat → Int) (ln : Nat) : Nat → Nat → Nat → (Nat → Int) → Bool × Nat × (Nat → Int)
  | 0, _, i, V => (true, i, V)
  | q + 1, c, i, V => if hn_af (hn_dg t) ln (hn_af (hn_bl t) ln i) = hn_af (hn_bl t) ln i ∨ 6 < hn_af (hn_dg t) ln (hn_af (hn_bl t) ln i) - hn_af (hn_bl t) ln i then (false, hn_af (hn_bl t) ln i, V)
      else hn_rdR t ln q (c + 1) (hn_af (hn_dg t) ln (hn_af (hn_bl t) ln i)) (hn_ups V c (hn_vf t (hn_af (hn_bl t) ln i) (hn_af (hn_dg t) ln (hn_af (hn_bl t) ln i) - hn_af (hn_bl t) ln i)))
/-- a command -/
def hn_cm (t : Nat → Int) (ln i : Nat) : Bool × Nat × (Int × (Nat → Int)) :=
  if hn_af (hn_bl t) ln i < ln ∧ hn_nof (t (hn_af (hn_bl t) ln i)) ≠ 0 then
    ((hn_rdR t ln (hn_nof (t (hn_af (hn_bl t) ln i))) 0 (hn_af (hn_bl t) ln i + 1) (fun _ => 0)).1, (hn_rdR t ln (hn_nof (t (hn_af (hn_bl t) ln i))) 0 (hn_af (hn_bl t) ln i + 1) (fun _ => 0)).2.1, (t (hn_af (hn_bl t) ln i), (hn_rdR t ln (hn_nof (t (hn_af (hn_bl t) ln i))) 0 (hn_af (hn_bl t) ln i + 1) (fun _ => 0)).2.2))
  else (false, hn_af (hn_bl t) ln i, (0, fun _ => 0))
/-- all commands, and the fault -/
def hn_par (t : Nat → Int) (ln : Nat) : Nat → Nat → List (Int × (Nat → Int)) × Int
  | 0, i => ([], (i : Int))
  | f + 1, i => if (hn_cm t ln i).1 = true then
      (if hn_af (hn_bl t) ln (hn_cm t ln i).2.1 < ln then
        (if t (hn_af (hn_bl t) ln (hn_cm t ln i).2.1) = 59 then ((hn_cm t ln i).2.2 :: (hn_par t ln f (hn_af (hn_bl t) ln (hn_cm t ln i).2.1 + 1)).1, (hn_par t ln f (hn_af (hn_bl t) ln (hn_cm t ln i).2.1 + 1)).2)
         else ([(hn_cm t ln i).2.2], ((hn_af (hn_bl t) ln (hn_cm t ln i).2.1 : Nat) : Int)))
       else ([(hn_cm t ln i).2.2], -1))
    else ([], (((hn_cm t ln i).2.1 : Nat) : Int))
/-! the class's Text -/
def hn_tx (J : Nat → Nat → Int) (t : Nat → Int) (ln : Nat) : Prop := J 60 1 = (ln : Int) ∧ ln ≤ 120 ∧ ∀ j, j < ln → J 61 j = t j ∧ 0 ≤ t j ∧ t j ≤ 255
section HX41
variable {sx : Nat → Int} {sL : Nat} {I : Nat → Nat → Int} {k : Nat → Option Nat} {g : Nat → Nat → Int64} {t : Nat → Int} {ln : Nat}
theorem hm_blanks (d : Nat) (h : hn_tx I t ln) (i : Nat) : hn_ret sx sL (d + 1) 54 [hn_vr 60, hn_vi i] (hn_m I k g) (some (hn_vi (hn_af (hn_bl t) ln i))) (hn_m I k g) := by
  obtain ⟨h1, h2, h3⟩ := h
  obtain ⟨p1, p2, p3, p4⟩ := hn_af_p (c := hn_bl t) (ln := ln) ln i (by omega)
  have r := hn_for1 (sx := sx) (sL := sL) (C := hn_ret sx sL d) (fun j => hn_nx 54 2 [some (hn_vr 60), none, some (hn_vi (j : Int))] [] (hn_m I k g)) i (hn_af (hn_bl t) ln i) p1 (fun j q1 q2 => by
    have q := p3 j q1 q2
    exact hb_X5_afterBlanks_2_0 (h1 := by omega) (h2 := by omega) (h3 := by rw [(h3 j q.1).1]; exact of_decide_eq_true q.2))
  refine hn_of rfl (hb_X5_afterBlanks_0_0.tr (r.tr ?_))
  by_cases e : hn_af (hn_bl t) ln i < ln
  · exact hb_X5_afterBlanks_2_1 (h1 := by omega) (h2 := by omega) (h3 := by rw [(h3 _ e).1]; exact fun q => p4 ⟨e, decide_eq_true q⟩)
  · exact hb_X5_afterBlanks_2_2 (h1 := by omega)
theorem hm_digits (d : Nat) (h : hn_tx I t ln) (i : Nat) : hn_ret sx sL (d + 2) 55 [hn_vr 60, hn_vi i] (hn_m I k g) (some (hn_vi (hn_af (hn_dg t) ln i))) (hn_m I k g) := by
  obtain ⟨h1, h2, h3⟩ := h
  obtain ⟨p1, p2, p3, p4⟩ := hn_af_p (c := hn_dg t) (ln := ln) ln i (by omega)
  have r := hn_for1 (sx := sx) (sL := sL) (C := hn_ret sx sL (d + 1)) (fun j => hn_nx 55 2 [some (hn_vr 60), none, some (hn_vi (j : Int))] [] (hn_m I k g)) i (hn_af (hn_dg t) ln i) p1 (fun j q1 q2 => by
    have q := p3 j q1 q2
    have c := hm_inRange (sx := sx) (sL := sL) (I := I) (k := k) (g := g) d (I 61 j) 48 57
    rw [if_pos (by rw [(h3 j q.1).1]; exact of_decide_eq_true q.2)] at c
    exact hb_X5_afterDigits_2_1 (h1 := by omega) (h2 := by omega) (c3 := c) (h4 := by decide))
  refine hn_of rfl (hb_X5_afterDigits_0_0.tr (r.tr ?_))
  by_cases e : hn_af (hn_dg t) ln i < ln
  · have c := hm_inRange (sx := sx) (sL := sL) (I := I) (k := k) (g := g) d (I 61 (hn_af (hn_dg t) ln i)) 48 57
    rw [if_neg (by rw [(h3 _ e).1]; exact fun q => p4 ⟨e, decide_eq_true q⟩)] at c
    exact hb_X5_afterDigits_2_0 (h1 := by omega) (h2 := by omega) (c3 := c) (h4 := rfl)
  · exact hb_X5_afterDigits_2_2 (h1 := by omega)
theorem hm_valueOf (d : Nat) (h : hn_tx I t ln) {i n : Nat} (hn : n ≤ 6) (hd : ∀ u, i ≤ u → u < i + n → u < ln ∧ hn_dg t u = true) : hn_ret sx sL (d + 1) 56 [hn_vr 60, hn_vi i, hn_vi ((i + n : Nat) : Int)] (hn_m I k g) (some (hn_vi (hn_vf t i n))) (hn_m I k g) := by
  obtain ⟨h1, h2, h3⟩ := h
  have r := hn_for (sx := sx) (sL := sL) (C := hn_ret sx sL d) (fun j => hn_nx 56 5 [some (hn_vr 60), none, some (hn_vi ((i + n : Nat) : Int)), some (hn_vi (hn_vf t i j)), some (hn_vi ((i + j : Nat) : Int))] [] (hn_m I k g)) n (fun j hj => by
    have q := hd (i + j) (by omega) (by omega)
    have b := hn_vf_b (t := t) (i := i) (n := j) (fun u u1 u2 => (hd u u1 (by omega)).2)
    have hp : 10 ^ j ≤ 10 ^ 6 := Nat.pow_le_pow_right (by omega) (by omega)
    have e := h3 (i + j) q.1
    have r := hb_X5_valueOf_5_0 (sx := sx) (sL := sL) (C := hn_ret sx sL d) (I := I) (k := k) (g := g) (x2 := ((i + n : Nat) : Int)) (x3 := hn_vf t i j) (n4 := i + j) (h1 := by omega) (h2 := by omega) (h3 := by omega) (h4 := by omega) (h5 := by omega)
    rw [e.1] at r
    exact r)
  exact hn_of rfl (hb_X5_valueOf_0_0.tr (r.tr (hb_X5_valueOf_5_1 (h1 := by omega))))
theorem hm_numbersOf (d : Nat) (x : Int) : hn_ret sx sL (d + 1) 53 [hn_vi x] (hn_m I k g) (some (hn_vi (hn_nof x))) (hn_m I k g) := by
  refine hn_of rfl ?_
  unfold hn_nof
  by_cases e1 : x = 97
  · rw [if_pos e1]
    exact hb_X5_numbersOf_0_0 (h1 := e1)
  rw [if_neg e1]
  by_cases e2 : x = 102
  · rw [if_pos e2]
    exact hb_X5_numbersOf_0_1 (h1 := e1) (h2 := e2)
  rw [if_neg e2]
  by_cases e3 : x = 104
  · rw [if_pos e3]
    exact hb_X5_numbersOf_0_2 (h1 := e1) (h2 := e2) (h3 := e3)
  rw [if_neg e3]
  by_cases e4 : x = 110
  · rw [if_pos e4]
    exact hb_X5_numbersOf_0_3 (h1 := e1) (h2 := e2) (h3 := e3) (h4 := e4)
  rw [if_neg e4]
  by_cases e5 : x = 117
  · rw [if_pos e5]
    exact hb_X5_numbersOf_0_4 (h1 := e1) (h2 := e2) (h3 := e3) (h4 := e4) (h5 := e5)
  rw [if_neg e5]
  exact hb_X5_numbersOf_0_5 (h1 := e1) (h2 := e2) (h3 := e3) (h4 := e4) (h5 := e5)
theorem hn_tx.mv {J : Nat → Nat → Int} (h : hn_tx I t ln) (e1 : J 60 1 = I 60 1) (e : ∀ j, J 61 j = I 61 j) : hn_tx J t ln := ⟨by rw [e1, h.1], h.2.1, fun j hj => by rw [e j]; exact h.2.2 j hj⟩
theorem hm_nums (d : Nat) {n wt : Nat} (hn : n < 41) (hw : wt ≤ 4) : ∀ (q c i : Nat) (J : Nat → Nat → Int) (V : Nat → Int), c + q = wt → hn_tx J t ln → i ≤ ln → J 60 4 = (n : Int) → (∀ u, u < c → J 63 (4 * n + u) = V u) →
    ∃ J', hn_go sx sL (hn_ret sx sL (d + 2)) (hn_nx 52 73 [some (hn_vr 60), some (hn_vi i), none, some (hn_vi wt), some (hn_vi c), none] [] (hn_m J k g)) (if (hn_rdR t ln q c i V).1 = true then hn_nx 52 73 [some (hn_vr 60), some (hn_vi (hn_rdR t ln q c i V).2.1), none, some (hn_vi wt), some (hn_vi wt), none] [] (hn_m J' k g) else .inr (some (hn_vi (hn_rdR t ln q c i V).2.1), hn_m J' k g)) ∧
      (∀ a, a ≠ 63 → ∀ j, J' a j = J a j) ∧ (∀ j, j < 4 * n → J' 63 j = J 63 j) ∧ (hn_rdR t ln q c i V).2.1 ≤ ln ∧ ((hn_rdR t ln q c i V).1 = true → ∀ u, u < wt → J' 63 (4 * n + u) = (hn_rdR t ln q c i V).2.2 u)
  | 0, c, i, J, V, hc, ht, hi, h4, hV => by
    refine ⟨J, ?_, fun _ _ _ => rfl, fun _ _ => rfl, hi, fun _ u hu => hV u (by omega)⟩
    rw [if_pos (show (hn_rdR t ln 0 c i V).1 = true from rfl)]
    have : c = wt := by omega
    subst this
    exact hn_go.rf
  | q + 1, c, i, J, V, hc, ht, hi, h4, hV => by
    obtain ⟨p1, p2, p3, p4⟩ := hn_af_p (c := hn_bl t) (ln := ln) ln i (by omega)
    obtain ⟨j, hj⟩ : ∃ j, j = hn_af (hn_bl t) ln i := ⟨_, rfl⟩
    obtain ⟨g1, g2, g3, g4⟩ := hn_af_p (c := hn_dg t) (ln := ln) ln j (by omega)
    have c1 := hm_blanks (sx := sx) (sL := sL) (k := k) (g := g) (d + 1) ht i
    rw [← hj] at p1 p2 p3 p4 c1
    have c2 := hm_digits (sx := sx) (sL := sL) (k := k) (g := g) d ht j
    obtain ⟨e, he⟩ : ∃ e, e = hn_af (hn_dg t) ln j := ⟨_, rfl⟩
    rw [← he] at g1 g2 g3 g4 c2
    have hjl := p2 hi
    have hel := g2 hjl
    have h2 := ht.2.1
    have es : hn_rdR t ln (q + 1) c i V = if e = j ∨ 6 < e - j then (false, j, V) else hn_rdR t ln q (c + 1) e (hn_ups V c (hn_vf t j (e - j))) := by
      rw [he, hj]
      rfl
    rw [es]
    by_cases x : e = j ∨ 6 < e - j
    · rw [if_pos x]
      refine ⟨J, ?_, fun _ _ _ => rfl, fun _ _ => rfl, hjl, fun q => absurd q Bool.false_ne_true⟩
      rw [if_neg (show ¬ (false, j, V).1 = true from Bool.false_ne_true)]
      by_cases y : e = j
      · have r := hb_X5_parse_73_0 (sx := sx) (sL := sL) (x1 := (i : Int)) (x3 := (wt : Int)) (x4 := (c : Int)) (h1 := by omega) (c2 := c1) (c3 := c2) (h4 := by omega)
        exact r
      · have r := hb_X5_parse_73_1 (sx := sx) (sL := sL) (x1 := (i : Int)) (x3 := (wt : Int)) (x4 := (c : Int)) (h1 := by omega) (c2 := c1) (c3 := c2) (h4 := by omega) (h5 := by omega) (h6 := by omega)
        exact r
    · rw [if_neg x]
      have c3 := hm_valueOf (sx := sx) (sL := sL) (k := k) (g := g) (d + 1) ht (i := j) (n := e - j) (by omega) (fun u u1 u2 => g3 u u1 (by omega))
      rw [show j + (e - j) = e by omega] at c3
      have r := hb_X5_parse_73_2 (sx := sx) (sL := sL) (x1 := (i : Int)) (x3 := (wt : Int)) (x4 := (c : Int)) (h1 := by omega) (c2 := c1) (c3 := c2) (h4 := by omega) (h5 := by omega) (h6 := by omega) (h7 := by omega) (h8 := by omega) (c9 := c3) (h10 := by omega) (h11 := by omega)
      have ei : (J 60 4 * 4 + (c : Int)).toNat = 4 * n + c := by omega
      rw [ei] at r
      obtain ⟨J', z1, z2, z3, z4, z5⟩ := hm_nums d hn hw q (c + 1) e (hn_up J 63 (4 * n + c) (hn_vf t j (e - j))) (hn_ups V c (hn_vf t j (e - j))) (by omega) (ht.mv (hn_up_ne (Or.inl (by omega))) (fun _ => hn_up_ne (Or.inl (by omega)))) hel (by rw [hn_up_ne (Or.inl (by omega)), h4]) (fun u hu => by
        unfold hn_ups
        by_cases y : u = c
        · rw [y, hn_up_eq, if_pos rfl]
        · rw [hn_up_ne (Or.inr (by omega)), if_neg y]
          exact hV u (by omega))
      refine ⟨J', r.tr z1, fun a ha j => by rw [z2 a ha, hn_up_ne (Or.inl ha)], fun j hj => by rw [z3 j hj, hn_up_ne (Or.inr (by omega))], z4, z5⟩
/-- the list of commands that parse left -/
def hn_ls (J : Nat → Nat → Int) (n : Nat) (L : List (Int × (Nat → Int))) : Prop := ∀ (m : Nat) (c : Int × (Nat → Int)), L[m]? = some c → J 62 (n + m) = c.1 ∧ ∀ u, u < hn_nof c.1 → J 63 (4 * (n + m) + u) = c.2 u
theorem hm_parseL (d : Nat) : ∀ (f i n : Nat) (J : Nat → Nat → Int), n + f = 41 → hn_tx J t ln → i ≤ ln → J 60 4 = (n : Int) →
    ∃ J', hn_go sx sL (hn_ret sx sL (d + 2)) (hn_nx 52 7 [some (hn_vr 60), some (hn_vi i), none, none, none, none] [] (hn_m J k g)) (.inr (some (hn_vi (hn_par t ln f i).2), hn_m J' k g)) ∧ (∀ a, a ≠ 60 → a ≠ 62 → a ≠ 63 → ∀ j, J' a j = J a j) ∧ J' 60 1 = J 60 1 ∧ (∀ m, m < n → J' 62 m = J 62 m) ∧ (∀ m, m < 4 * n → J' 63 m = J 63 m) ∧ ((hn_par t ln f i).2 = -1 → J' 60 4 = ((n + (hn_par t ln f i).1.length : Nat) : Int) ∧ n + (hn_par t ln f i).1.length ≤ 41 ∧ hn_ls J' n (hn_par t ln f i).1)
  | 0, i, n, J, hf, ht, hi, h4 => ⟨J, hb_X5_parse_7_3 (h1 := by omega), fun _ _ _ _ _ => rfl, rfl, fun _ _ => rfl, fun _ _ => rfl, fun q => absurd q (by show ¬ (i : Int) = -1; omega)⟩
  | f + 1, i, n, J, hf, ht, hi, h4 => by
    have h2 := ht.2.1
    obtain ⟨p1, p2, p3, p4⟩ := hn_af_p (c := hn_bl t) (ln := ln) ln i (by omega)
    have c1 := hm_blanks (sx := sx) (sL := sL) (k := k) (g := g) (d + 1) ht i
    have ec : hn_cm t ln i = if hn_af (hn_bl t) ln i < ln ∧ hn_nof (t (hn_af (hn_bl t) ln i)) ≠ 0 then
        ((hn_rdR t ln (hn_nof (t (hn_af (hn_bl t) ln i))) 0 (hn_af (hn_bl t) ln i + 1) (fun _ => 0)).1, (hn_rdR t ln (hn_nof (t (hn_af (hn_bl t) ln i))) 0 (hn_af (hn_bl t) ln i + 1) (fun _ => 0)).2.1, (t (hn_af (hn_bl t) ln i), (hn_rdR t ln (hn_nof (t (hn_af (hn_bl t) ln i))) 0 (hn_af (hn_bl t) ln i + 1) (fun _ => 0)).2.2))
      else (false, hn_af (hn_bl t) ln i, (0, fun _ => 0)) := rfl
    obtain ⟨j, hj⟩ : ∃ j, j = hn_af (hn_bl t) ln i := ⟨_, rfl⟩
    rw [← hj] at p1 p2 p3 p4 c1 ec
    have hjl := p2 hi
    obtain ⟨cm, hcm⟩ : ∃ cm, cm = hn_cm t ln i := ⟨_, rfl⟩
    rw [← hcm] at ec
    have ep : hn_par t ln (f + 1) i = if cm.1 = true then
      (if hn_af (hn_bl t) ln cm.2.1 < ln then
        (if t (hn_af (hn_bl t) ln cm.2.1) = 59 then (cm.2.2 :: (hn_par t ln f (hn_af (hn_bl t) ln cm.2.1 + 1)).1, (hn_par t ln f (hn_af (hn_bl t) ln cm.2.1 + 1)).2)
         else ([cm.2.2], ((hn_af (hn_bl t) ln cm.2.1 : Nat) : Int)))
       else ([cm.2.2], -1))
      else ([], ((cm.2.1 : Nat) : Int)) := by
      rw [hcm]
      rfl
    rw [ep]
    by_cases x1 : j < ln
    · have tj := ht.2.2 j x1
      have c2 := hm_numbersOf (sx := sx) (sL := sL) (I := J) (k := k) (g := g) (d + 1) (J 61 j)
      by_cases x2 : hn_nof (t j) = 0
      · rw [if_neg (fun q => q.2 x2)] at ec
        rw [tj.1, x2] at c2
        rw [← tj.1] at c2
        have r := hb_X5_parse_7_0 (sx := sx) (sL := sL) (x1 := (i : Int)) (h1 := by omega) (c2 := c1) (h3 := by rw [ht.1]; omega) (h4 := by omega) (c5 := c2) (h6 := rfl)
        rw [ec, if_neg (show ¬ (false, j, ((0 : Int), fun _ : Nat => (0 : Int))).1 = true from Bool.false_ne_true)]
        exact ⟨J, r, fun _ _ _ _ _ => rfl, rfl, fun _ _ => rfl, fun _ _ => rfl, fun q => absurd q (by show ¬ (j : Int) = -1; omega)⟩
      · rw [if_pos ⟨x1, x2⟩] at ec
        obtain ⟨w, hw⟩ : ∃ w, w = hn_nof (t j) := ⟨_, rfl⟩
        have w4 := hn_nof_b (t j)
        rw [← hw] at ec x2 w4
        rw [tj.1, ← hw, ← tj.1] at c2
        have r0 := hb_X5_parse_7_1 (sx := sx) (sL := sL) (x1 := (i : Int)) (h1 := by omega) (c2 := c1) (h3 := by rw [ht.1]; omega) (h4 := by omega) (c5 := c2) (h6 := by omega) (h7 := by omega) (h8 := by omega)
        have e4 : (J 60 4).toNat = n := by omega
        rw [e4, Int.toNat_natCast, tj.1] at r0
        have ht1 : hn_tx (hn_up J 62 n (t j)) t ln := ht.mv (hn_up_ne (Or.inl (by omega))) (fun _ => hn_up_ne (Or.inl (by omega)))
        obtain ⟨J2, z1, z2, z3, z4, z5⟩ := hm_nums (sx := sx) (sL := sL) (k := k) (g := g) d (n := n) (wt := w) (by omega) w4 w 0 (j + 1) (hn_up J 62 n (t j)) (fun _ => 0) (by omega) ht1 (by omega) (by rw [hn_up_ne (Or.inl (by omega)), h4]) (fun u hu => absurd hu (by omega))
        obtain ⟨y, hy⟩ : ∃ y, y = hn_rdR t ln w 0 (j + 1) (fun _ => 0) := ⟨_, rfl⟩
        rw [← hy] at ec z1 z4 z5
        have r1 := r0.tr z1
        have f62 : ∀ m, m < n → J2 62 m = J 62 m := fun m hm => by rw [z2 62 (by omega), hn_up_ne (Or.inr (by omega))]
        have f63 : ∀ m, m < 4 * n → J2 63 m = J 63 m := fun m hm => by rw [z3 m hm, hn_up_ne (Or.inl (by omega))]
        have fr : ∀ a, a ≠ 60 → a ≠ 62 → a ≠ 63 → ∀ j, J2 a j = J a j := fun a q1 q2 q3 j => by rw [z2 a q3, hn_up_ne (Or.inl q2)]
        have f60 : ∀ m, J2 60 m = J 60 m := fun m => by rw [z2 60 (by omega), hn_up_ne (Or.inl (by omega))]
        by_cases x3 : y.1 = true
        · rw [if_pos x3] at r1
          have ec1 : cm.1 = true := by rw [ec]; exact x3
          have ec2 : cm.2.1 = y.2.1 := by rw [ec]
          have ec3 : cm.2.2 = (t j, y.2.2) := by rw [ec]
          rw [if_pos ec1, ec2, ec3]
          have ht2 : hn_tx (hn_up J2 60 4 (J2 60 4 + 1)) t ln := ht.mv (by rw [hn_up_ne (Or.inr (by omega)), f60]) (fun m => by rw [hn_up_ne (Or.inl (by omega)), fr 61 (by omega) (by omega) (by omega)])
          have c3 := hm_blanks (sx := sx) (sL := sL) (k := k) (g := g) (d + 1) ht2 y.2.1
          obtain ⟨u1, u2, u3, u4⟩ := hn_af_p (c := hn_bl t) (ln := ln) ln y.2.1 (by omega)
          obtain ⟨j2, hj2⟩ : ∃ j2, j2 = hn_af (hn_bl t) ln y.2.1 := ⟨_, rfl⟩
          rw [← hj2] at c3 u1 u2 u3 u4 ⊢
          have hj2l := u2 z4
          have e41 : J2 60 4 = (n : Int) := by rw [f60, h4]
          have one : hn_ls (hn_up J2 60 4 (J2 60 4 + 1)) n [(t j, y.2.2)] := by
            intro m c hm
            have m0 : m = 0 := by
              have := (List.getElem?_eq_some_iff.mp hm).1
              simpa using this
            subst m0
            have hc : (t j, y.2.2) = c := Option.some.inj hm
            rw [← hc]
            refine ⟨by rw [hn_up_ne (Or.inl (by omega)), z2 62 (by omega)]; exact hn_up_eq, fun u hu => ?_⟩
            rw [hn_up_ne (Or.inl (by omega))]
            exact z5 x3 u (by rw [hw]; exact hu)
          by_cases x4 : j2 < ln
          · rw [if_pos x4]
            have t2 := ht2.2.2 j2 x4
            by_cases x5 : t j2 = 59
            · rw [if_pos x5]
              have r2 := hb_X5_parse_73_3 (sx := sx) (sL := sL) (x1 := (y.2.1 : Int)) (x3 := (w : Int)) (x4 := (w : Int)) (h1 := by omega) (h2 := by omega) (c3 := c3) (h4 := by rw [ht2.1]; omega) (h5 := by omega) (h6 := by rw [Int.toNat_natCast, t2.1]; exact x5) (h7 := by omega)
              obtain ⟨J4, v1, v2, v3, v4, v5, v6⟩ := hm_parseL d f (j2 + 1) (n + 1) (hn_up J2 60 4 (J2 60 4 + 1)) (by omega) ht2 (by omega) (by rw [hn_up_eq, e41]; rfl)
              have v1' := v1
              rw [Int.natCast_succ] at v1'
              refine ⟨J4, r1.tr (r2.tr v1'), fun a q1 q2 q3 j => by rw [v2 a q1 q2 q3, hn_up_ne (Or.inl q1), fr a q1 q2 q3], by rw [v3, hn_up_ne (Or.inr (by omega)), f60], fun m hm => by rw [v4 m (by omega), hn_up_ne (Or.inl (by omega)), f62 m hm], fun m hm => by rw [v5 m (by omega), hn_up_ne (Or.inl (by omega)), f63 m hm], fun q => ?_⟩
              obtain ⟨w1, w2, w3⟩ := v6 q
              refine ⟨by rw [w1, List.length_cons]; congr 1; omega, by rw [List.length_cons]; omega, fun m c hm => ?_⟩
              match m, hm with
              | 0, hm =>
                have hc : (t j, y.2.2) = c := Option.some.inj hm
                have q1 := one 0 c (by rw [← hc]; rfl)
                refine ⟨by rw [v4 _ (by omega)]; exact q1.1, fun u hu => ?_⟩
                have u4 := hn_nof_b c.1
                rw [v5 _ (by omega)]
                exact q1.2 u hu
              | m + 1, hm =>
                have q1 := w3 m c hm
                rw [show n + (m + 1) = n + 1 + m by omega]
                exact q1
            · rw [if_neg x5]
              have r2 := hb_X5_parse_73_4 (sx := sx) (sL := sL) (x1 := (y.2.1 : Int)) (x3 := (w : Int)) (x4 := (w : Int)) (h1 := by omega) (h2 := by omega) (c3 := c3) (h4 := by rw [ht2.1]; omega) (h5 := by omega) (h6 := by rw [Int.toNat_natCast, t2.1]; exact x5)
              exact ⟨_, r1.tr r2, fun a q1 q2 q3 j => by rw [hn_up_ne (Or.inl q1), fr a q1 q2 q3], by rw [hn_up_ne (Or.inr (by omega)), f60], fun m hm => by rw [hn_up_ne (Or.inl (by omega)), f62 m hm], fun m hm => by rw [hn_up_ne (Or.inl (by omega)), f63 m hm], fun q => absurd q (by show ¬ (j2 : Int) = -1; omega)⟩
          · rw [if_neg x4]
            have r2 := hb_X5_parse_73_5 (sx := sx) (sL := sL) (x1 := (y.2.1 : Int)) (x3 := (w : Int)) (x4 := (w : Int)) (h1 := by omega) (h2 := by omega) (c3 := c3) (h4 := by rw [ht2.1]; omega)
            exact ⟨_, r1.tr r2, fun a q1 q2 q3 j => by rw [hn_up_ne (Or.inl q1), fr a q1 q2 q3], by rw [hn_up_ne (Or.inr (by omega)), f60], fun m hm => by rw [hn_up_ne (Or.inl (by omega)), f62 m hm], fun m hm => by rw [hn_up_ne (Or.inl (by omega)), f63 m hm], fun _ => ⟨by rw [hn_up_eq, e41]; rfl, by show n + 1 ≤ 41; omega, one⟩⟩
        · rw [if_neg x3] at r1
          have ec1 : ¬ cm.1 = true := by rw [ec]; exact x3
          have ec2 : cm.2.1 = y.2.1 := by rw [ec]
          rw [if_neg ec1, ec2]
          exact ⟨J2, r1, fr, f60 1, f62, f63, fun q => absurd q (by show ¬ (y.2.1 : Int) = -1; omega)⟩
    · rw [if_neg (fun q => x1 q.1)] at ec
      rw [ec, if_neg (show ¬ (false, j, ((0 : Int), fun _ : Nat => (0 : Int))).1 = true from Bool.false_ne_true)]
      have e1 : J 60 1 = (j : Int) := by rw [ht.1]; omega
      have r := hb_X5_parse_7_2 (sx := sx) (sL := sL) (x1 := (i : Int)) (h1 := by omega) (c2 := c1) (h3 := by omega)
      rw [e1] at r
      exact ⟨J, r, fun _ _ _ _ _ => rfl, rfl, fun _ _ => rfl, fun _ _ => rfl, fun q => absurd q (by show ¬ (j : Int) = -1; omega)⟩
theorem hm_parse (d : Nat) (ht : hn_tx I t ln) : ∃ I', hn_ret sx sL (d + 3) 52 [hn_vr 60] (hn_m I k g) (some (hn_vi (hn_par t ln 41 0).2)) (hn_m I' k g) ∧ (∀ a, a ≠ 60 → a ≠ 62 → a ≠ 63 → ∀ j, I' a j = I a j) ∧ I' 60 1 = I 60 1 ∧ ((hn_par t ln 41 0).2 = -1 → I' 60 4 = ((hn_par t ln 41 0).1.length : Int) ∧ (hn_par t ln 41 0).1.length ≤ 41 ∧ hn_ls I' 0 (hn_par t ln 41 0).1) := by
  obtain ⟨J', v1, v2, v3, v4, v5, v6⟩ := hm_parseL (sx := sx) (sL := sL) (k := k) (g := g) d 41 0 0 (hn_up I 60 4 0) rfl (ht.mv (hn_up_ne (Or.inr (by omega))) (fun _ => hn_up_ne (Or.inl (by omega)))) (by omega) hn_up_eq
  refine ⟨J', hn_of rfl (hb_X5_parse_0_0.tr v1), fun a q1 q2 q3 j => by rw [v2 a q1 q2 q3, hn_up_ne (Or.inl q1)], by rw [v3, hn_up_ne (Or.inr (by omega))], fun q => ?_⟩
  obtain ⟨w1, w2, w3⟩ := v6 q
  rw [Nat.zero_add] at w1 w2
  exact ⟨w1, w2, w3⟩
end HX41
