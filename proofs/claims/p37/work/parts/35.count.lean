/-! the class's Search: how many plans fit -/
def hn_cs1 (s : hn_S) (w : Nat) (q : Nat → Nat) (x : Int) : Int := if hn_fits s (hn_P q) w then x + 1 else x
theorem hn_fnd_1 (s : hn_S) (w : Nat) : (hn_fnd s w).1 = hn_dfs (hn_hl w (hn_n s)) (hn_cs1 s w) (hn_fr w (hn_n s)) (fun u => u) 0 := by
  refine hn_dfs_rel (R := fun (x : Int × Int × (Nat → Int)) (y : Int) => x.1 = y) (f := hn_ms1 s w) (h := hn_cs1 s w) (hn_fr w (hn_n s)) (fun u => u) (fun q _ x y r => ?_) (hn_fr_nd w _) _ _ rfl
  unfold hn_ms1 hn_cs1
  by_cases e : hn_fits s (hn_P q) w
  · rw [if_pos e, if_pos e, ← r]
  · rw [if_neg e, if_neg e, r]
theorem hn_cs1_add {s : hn_S} {w : Nat} {H : List Nat} : ∀ (F : List Nat) (p : Nat → Nat) (x : Int), hn_dfs H (hn_cs1 s w) F p x = x + hn_dfs H (hn_cs1 s w) F p 0
  | [], p, x => by
    show hn_cs1 s w p x = x + hn_cs1 s w p 0
    unfold hn_cs1
    by_cases e : hn_fits s (hn_P p) w
    · rw [if_pos e, if_pos e]
      omega
    · rw [if_neg e, if_neg e]
      omega
  | v :: F, p, x => by
    have key : ∀ n x, hn_itr n (fun j x => hn_dfs H (hn_cs1 s w) F (hn_put p v (H.getD j 0)) x) x = x + hn_itr n (fun j x => hn_dfs H (hn_cs1 s w) F (hn_put p v (H.getD j 0)) x) 0 := by
      intro n
      induction n with
      | zero =>
        intro x
        show x = x + 0
        omega
      | succ n ih =>
        intro x
        rw [hn_itr_up, hn_itr_up, ih x, hn_cs1_add F _ (x + _), hn_cs1_add F _ (hn_itr n _ 0)]
        omega
    exact key H.length x
theorem hn_cs1_b {s : hn_S} {w : Nat} {H : List Nat} : ∀ (F : List Nat) (p : Nat → Nat), 0 ≤ hn_dfs H (hn_cs1 s w) F p 0 ∧ hn_dfs H (hn_cs1 s w) F p 0 ≤ ((H.length ^ F.length : Nat) : Int)
  | [], p => by
    show 0 ≤ hn_cs1 s w p 0 ∧ hn_cs1 s w p 0 ≤ 1
    unfold hn_cs1
    by_cases e : hn_fits s (hn_P p) w
    · rw [if_pos e]
      decide
    · rw [if_neg e]
      decide
  | v :: F, p => by
    have key : ∀ n, 0 ≤ hn_itr n (fun j x => hn_dfs H (hn_cs1 s w) F (hn_put p v (H.getD j 0)) x) 0 ∧ hn_itr n (fun j x => hn_dfs H (hn_cs1 s w) F (hn_put p v (H.getD j 0)) x) 0 ≤ ((H.length ^ F.length * n : Nat) : Int) := by
      intro n
      induction n with
      | zero => exact ⟨Int.le_refl 0, by show (0 : Int) ≤ _; omega⟩
      | succ n ih =>
        rw [hn_itr_up, hn_cs1_add, Nat.mul_succ]
        have := hn_cs1_b (s := s) (w := w) (H := H) F (hn_put p v (H.getD n 0))
        omega
    have := key H.length
    rw [List.length_cons, Nat.pow_succ]
    exact this
theorem hn_pow8 {a b : Nat} (ha : a ≤ 8) (hb : b ≤ 8) : a ^ b ≤ 16777216 := Nat.le_trans (Nat.pow_le_pow_left ha b) (Nat.pow_le_pow_right (n := 8) (by omega) hb)
section HX35
variable {sx : Nat → Int} {sL : Nat} {k : Nat → Option Nat} {g : Nat → Nat → Int64} {s : hn_S}
theorem hm_countFrom (hI : hn_Iv s) {w : Nat} : ∀ (r i d : Nat) (p : Nat → Nat) (I : Nat → Nat → Int), i + r = (hn_fr w (hn_n s)).length → hn_Pl (hn_hl w (hn_n s)) (hn_fr w (hn_n s)) p i → hn_HS I 1 s → hn_PL s (hn_hl w (hn_n s)) (hn_fr w (hn_n s)) I → hn_PI s w p i I →
    ∃ I', hn_ret sx sL (d + r + 2) 31 [hn_vr 48, hn_vi i] (hn_m I k g) (some (hn_vi (hn_dfs (hn_hl w (hn_n s)) (hn_cs1 s w) ((hn_fr w (hn_n s)).drop i) p 0))) (hn_m I' k g) ∧ hn_PI s w p i I' ∧ hn_kp I' I := by
  intro r
  induction r with
  | zero =>
    intro i d p I hir hV hH hL hP
    have hi : i = (hn_fr w (hn_n s)).length := by omega
    have e13 := hL.2.2.1
    refine ⟨I, hn_of rfl ?_, hP, hn_kp.rf⟩
    subst hi
    have hf : hn_fits s (hn_P p) w := fun j hj hj2 => by
      have m := hn_hl_mem.mpr ⟨hj, hj2⟩
      rw [hn_ld_split hV.1 m]
      exact (hP.2.2 j m).2
    have e : hn_dfs (hn_hl w (hn_n s)) (hn_cs1 s w) ((hn_fr w (hn_n s)).drop (hn_fr w (hn_n s)).length) p 0 = 1 := by
      rw [List.drop_length]
      show hn_cs1 s w p 0 = 1
      unfold hn_cs1
      rw [if_pos hf]
      rfl
    rw [e]
    exact hb_X3_countFrom_0_1 (h1 := by omega)
  | succ r ih =>
    intro i d p I hir hV hH hL hP
    have e13 := hL.2.2.1
    have h8 := hn_n8 hI
    have hl := hn_hl_len w (hn_n s)
    have hd := hn_fr_nd w (hn_n s)
    have bH : ∀ u, u ∈ hn_hl w (hn_n s) → u < 8 := fun u hu => by have := (hn_hl_mem.mp hu).1; omega
    have bF : ∀ u, u ∈ hn_fr w (hn_n s) → u < 8 := fun u hu => by have := (hn_fr_mem.mp hu).1; omega
    have eF := hn_li_get hL.2.2.2.2.1 (j := i) (by omega)
    have mF := hn_getD_mem (L := hn_fr w (hn_n s)) (j := i) (by omega)
    have vF := bF _ mF
    have r1 := hb_X3_countFrom_0_0 (sx := sx) (sL := sL) (C := hn_ret sx sL (d + r + 2)) (I := I) (k := k) (g := g) (n1 := i) (h1 := by omega)
    rw [eF] at r1
    have bd : ((hn_fr w (hn_n s)).drop (i + 1)).length ≤ 8 := by rw [List.length_drop]; omega
    have b8 := hn_pow8 (a := (hn_hl w (hn_n s)).length) (by omega) bd
    have bi : ∀ n, n ≤ 8 → 0 ≤ hn_itr n (fun j x => hn_dfs (hn_hl w (hn_n s)) (hn_cs1 s w) ((hn_fr w (hn_n s)).drop (i + 1)) (hn_put p ((hn_fr w (hn_n s)).getD i 0) ((hn_hl w (hn_n s)).getD j 0)) x) 0 ∧ hn_itr n (fun j x => hn_dfs (hn_hl w (hn_n s)) (hn_cs1 s w) ((hn_fr w (hn_n s)).drop (i + 1)) (hn_put p ((hn_fr w (hn_n s)).getD i 0) ((hn_hl w (hn_n s)).getD j 0)) x) 0 ≤ 16777216 * n := by
      intro n
      induction n with
      | zero => exact fun _ => ⟨Int.le_refl 0, by show (0 : Int) ≤ _; omega⟩
      | succ n ih =>
        intro hn
        rw [hn_itr_up, hn_cs1_add]
        have := hn_cs1_b (s := s) (w := w) (H := hn_hl w (hn_n s)) ((hn_fr w (hn_n s)).drop (i + 1)) (hn_put p ((hn_fr w (hn_n s)).getD i 0) ((hn_hl w (hn_n s)).getD n 0))
        have := ih (by omega)
        omega
    obtain ⟨y, q1, q2, q3, q4, q5⟩ := hn_forE (sx := sx) (sL := sL) (C := hn_ret sx sL (d + r + 2)) (fun m (J : Nat → Nat → Int) => hn_nx 31 22 [some (hn_vr 48), some (hn_vi (i : Int)), some (hn_vi ((((hn_fr w (hn_n s)).getD i 0 : Nat)) : Int)), some (hn_vi (hn_itr m (fun j x => hn_dfs (hn_hl w (hn_n s)) (hn_cs1 s w) ((hn_fr w (hn_n s)).drop (i + 1)) (hn_put p ((hn_fr w (hn_n s)).getD i 0) ((hn_hl w (hn_n s)).getD j 0)) x) 0)), some (hn_vi (m : Int)), none] [] (hn_m J k g)) (fun m J => hn_HS J 1 s ∧ hn_PL s (hn_hl w (hn_n s)) (hn_fr w (hn_n s)) J ∧ hn_PI s w p i J ∧ hn_kp J I) (hn_hl w (hn_n s)).length (fun m J hm hJ => by
      obtain ⟨jH, jL, jP, jK⟩ := hJ
      have f12 := jL.2.1
      have eH := hn_li_get jL.2.2.2.1 (j := m) hm
      have mH := hn_getD_mem hm
      have vH := bH _ mH
      obtain ⟨u57, u57b⟩ := jP.2.2 _ mH
      have u52 : J 52 ((hn_fr w (hn_n s)).getD i 0) = hn_out s ((hn_fr w (hn_n s)).getD i 0) := jL.1.1 _ (hn_fr_mem.mp mF).1
      have u5 : J 5 ((hn_hl w (hn_n s)).getD m 0) = s (34 + (hn_hl w (hn_n s)).getD m 0) := jH.2.2.2.2.2.2.1 _ vH
      have bcap := (hI.2.2.2.2.1 _ vH).2.2.2.1
      have bout := hn_out_b hI vF
      have blf := hn_lf_b hI bF (p := p) (i := i) vH (by omega)
      have bm := bi m (by omega)
      by_cases rm : s (34 + (hn_hl w (hn_n s)).getD m 0) < hn_lf s (hn_fr w (hn_n s)) p i ((hn_hl w (hn_n s)).getD m 0) + hn_out s ((hn_fr w (hn_n s)).getD i 0)
      · have c3 : hn_ret sx sL (d + r + 2) 32 [hn_vr 48, hn_vi ((((hn_fr w (hn_n s)).getD i 0 : Nat)) : Int), hn_vi (J 53 m)] (hn_m J k g) (some (hn_vi 0)) (hn_m J k g) := by
          rw [eH]
          exact hn_of rfl (hb_X3_enter_0_0 (h1 := by omega) (h2 := by omega) (h3 := by omega) (h4 := by omega))
        refine ⟨J, ?_, jH, jL, jP, jK⟩
        have ez : hn_dfs (hn_hl w (hn_n s)) (hn_cs1 s w) ((hn_fr w (hn_n s)).drop (i + 1)) (hn_put p ((hn_fr w (hn_n s)).getD i 0) ((hn_hl w (hn_n s)).getD m 0)) (hn_itr m (fun j x => hn_dfs (hn_hl w (hn_n s)) (hn_cs1 s w) ((hn_fr w (hn_n s)).drop (i + 1)) (hn_put p ((hn_fr w (hn_n s)).getD i 0) ((hn_hl w (hn_n s)).getD j 0)) x) 0) = hn_itr m (fun j x => hn_dfs (hn_hl w (hn_n s)) (hn_cs1 s w) ((hn_fr w (hn_n s)).drop (i + 1)) (hn_put p ((hn_fr w (hn_n s)).getD i 0) ((hn_hl w (hn_n s)).getD j 0)) x) 0 :=
          hn_dfs_id (hn_nd_drop hd (i + 1)) (fun q hq => by
            unfold hn_cs1
            exact if_neg (hn_noroom hI hV (by omega) mH rm hq))
        have r := hb_X3_countFrom_22_0 (sx := sx) (sL := sL) (C := hn_ret sx sL (d + r + 2)) (I := J) (k := k) (g := g) (x1 := (i : Int)) (n2 := (hn_fr w (hn_n s)).getD i 0) (x3 := hn_itr m (fun j x => hn_dfs (hn_hl w (hn_n s)) (hn_cs1 s w) ((hn_fr w (hn_n s)).drop (i + 1)) (hn_put p ((hn_fr w (hn_n s)).getD i 0) ((hn_hl w (hn_n s)).getD j 0)) x) 0) (n4 := m) (h1 := by omega) (h2 := by omega) (c3 := c3) (h4 := rfl) (h5 := by omega)
        show hn_go sx sL _ _ (hn_nx 31 22 [some (hn_vr 48), some (hn_vi (i : Int)), some (hn_vi ((((hn_fr w (hn_n s)).getD i 0 : Nat)) : Int)), some (hn_vi (hn_itr (m + 1) (fun j x => hn_dfs (hn_hl w (hn_n s)) (hn_cs1 s w) ((hn_fr w (hn_n s)).drop (i + 1)) (hn_put p ((hn_fr w (hn_n s)).getD i 0) ((hn_hl w (hn_n s)).getD j 0)) x) 0)), some (hn_vi ((m + 1 : Nat) : Int)), none] [] (hn_m J k g))
        rw [hn_itr_up, ez]
        exact r
      · have kp1 : hn_kp (hn_up (hn_up J 57 ((hn_hl w (hn_n s)).getD m 0) (J 57 ((hn_hl w (hn_n s)).getD m 0) + J 52 ((hn_fr w (hn_n s)).getD i 0))) 56 ((hn_fr w (hn_n s)).getD i 0) (((hn_hl w (hn_n s)).getD m 0 : Nat) : Int)) J := (hn_kp.rf.up (by omega) (by omega)).up (by omega) (by omega)
        have c3 : hn_ret sx sL (d + r + 2) 32 [hn_vr 48, hn_vi ((((hn_fr w (hn_n s)).getD i 0 : Nat)) : Int), hn_vi (J 53 m)] (hn_m J k g) (some (hn_vi 1)) (hn_m (hn_up (hn_up J 57 ((hn_hl w (hn_n s)).getD m 0) (J 57 ((hn_hl w (hn_n s)).getD m 0) + J 52 ((hn_fr w (hn_n s)).getD i 0))) 56 ((hn_fr w (hn_n s)).getD i 0) (((hn_hl w (hn_n s)).getD m 0 : Nat) : Int)) k g) := by
          rw [eH]
          exact hn_of rfl (hb_X3_enter_0_1 (h1 := by omega) (h2 := by omega) (h3 := by omega) (h4 := by omega))
        obtain ⟨J1, hJ1⟩ : ∃ J1, J1 = hn_up (hn_up J 57 ((hn_hl w (hn_n s)).getD m 0) (J 57 ((hn_hl w (hn_n s)).getD m 0) + J 52 ((hn_fr w (hn_n s)).getD i 0))) 56 ((hn_fr w (hn_n s)).getD i 0) (((hn_hl w (hn_n s)).getD m 0 : Nat) : Int) := ⟨_, rfl⟩
        rw [← hJ1] at c3 kp1
        have hne : ∀ u, u ∈ hn_hl w (hn_n s) → u ≠ (hn_fr w (hn_n s)).getD i 0 := fun u hu q => hn_HF u hu (by rw [q]; exact mF)
        have a56 : ∀ j, j < i → J1 56 ((hn_fr w (hn_n s)).getD j 0) = J 56 ((hn_fr w (hn_n s)).getD j 0) := fun j hj => by
          rw [hJ1, hn_up_ne (Or.inr (fun q => by have := hn_nd_inj hd (by omega) (by omega) q; omega)), hn_up_ne (Or.inl (by omega))]
        have H1 : hn_HS J1 1 s := jH.mv (fun c a b j => kp1.2 c (by omega) j)
        have L1 := jL.mv (J' := J1) (fun c a b j => kp1.2 c (by omega) j) (kp1.1 12 (by decide) (by decide)) (kp1.1 13 (by decide) (by decide))
        have P1 : hn_PI s w (hn_put p ((hn_fr w (hn_n s)).getD i 0) ((hn_hl w (hn_n s)).getD m 0)) (i + 1) J1 := by
          refine ⟨fun u hu => ?_, fun j hj => ?_, fun h hh => ?_⟩
          · rw [hJ1, hn_up_ne (Or.inr (hne u hu)), hn_up_ne (Or.inl (by omega))]
            exact jP.1 u hu
          · by_cases e : j = i
            · rw [e, hJ1, hn_up_eq, hn_put_eq]
            · rw [a56 j (by omega), ← hn_put_lt hd (by omega) j (by omega)]
              exact jP.2.1 j (by omega)
          · have uh := jP.2.2 h hh
            rw [hn_lf_put hd (by omega), hJ1, hn_up_ne (Or.inl (by omega))]
            by_cases e : (hn_hl w (hn_n s)).getD m 0 = h
            · subst e
              rw [if_pos rfl, hn_up_eq, u57, u52]
              exact ⟨rfl, by omega⟩
            · rw [if_neg e, hn_up_ne (Or.inr (fun q => e q.symm)), Int.add_zero]
              exact uh
        obtain ⟨I3, c6, p3, k3⟩ := ih (i + 1) d (hn_put p ((hn_fr w (hn_n s)).getD i 0) ((hn_hl w (hn_n s)).getD m 0)) J1 (by omega) (hV.put hd hn_HF (by omega) mH) H1 L1 P1
        rw [Int.natCast_succ] at c6
        have x57 := (p3.2.2 _ mH).1
        have H3 : hn_HS I3 1 s := H1.mv (fun c a b j => k3.2 c (by omega) j)
        have L3 := L1.mv (J' := I3) (fun c a b j => k3.2 c (by omega) j) (k3.1 12 (by decide) (by decide)) (k3.1 13 (by decide) (by decide))
        have x52 : I3 52 ((hn_fr w (hn_n s)).getD i 0) = hn_out s ((hn_fr w (hn_n s)).getD i 0) := L3.1.1 _ (hn_fr_mem.mp mF).1
        rw [hn_lf_put hd (by omega), if_pos rfl] at x57
        have et : (J 53 m).toNat = (hn_hl w (hn_n s)).getD m 0 := by rw [eH]; omega
        have bc := hn_cs1_b (s := s) (w := w) (H := hn_hl w (hn_n s)) ((hn_fr w (hn_n s)).drop (i + 1)) (hn_put p ((hn_fr w (hn_n s)).getD i 0) ((hn_hl w (hn_n s)).getD m 0))
        have r := hb_X3_countFrom_22_1 (sx := sx) (sL := sL) (C := hn_ret sx sL (d + r + 2)) (I := J) (k := k) (g := g) (x1 := (i : Int)) (n2 := (hn_fr w (hn_n s)).getD i 0) (x3 := hn_itr m (fun j x => hn_dfs (hn_hl w (hn_n s)) (hn_cs1 s w) ((hn_fr w (hn_n s)).drop (i + 1)) (hn_put p ((hn_fr w (hn_n s)).getD i 0) ((hn_hl w (hn_n s)).getD j 0)) x) 0) (n4 := m) (h1 := by omega) (h2 := by omega) (c3 := c3) (h4 := by decide) (h5 := by omega) (c6 := c6) (h7 := by omega) (h8 := by omega) (h9 := by omega) (h10 := by rw [et]; omega) (h11 := by omega)
        rw [et, x57, x52] at r
        obtain ⟨J4, hJ4⟩ : ∃ J4, J4 = hn_up I3 57 ((hn_hl w (hn_n s)).getD m 0) (hn_lf s (hn_fr w (hn_n s)) p i ((hn_hl w (hn_n s)).getD m 0) + hn_out s ((hn_fr w (hn_n s)).getD i 0) - hn_out s ((hn_fr w (hn_n s)).getD i 0)) := ⟨_, rfl⟩
        rw [← hJ4] at r
        have k4 : hn_kp J4 I3 := by
          rw [hJ4]
          exact hn_kp.rf.up (by omega) (by omega)
        refine ⟨J4, ?_, H3.mv (fun c a b j => k4.2 c (by omega) j), L3.mv (fun c a b j => k4.2 c (by omega) j) (k4.1 12 (by decide) (by decide)) (k4.1 13 (by decide) (by decide)), ⟨fun u hu => ?_, fun j hj => ?_, fun h hh => ?_⟩, k4.tr (k3.tr (kp1.tr jK))⟩
        · show hn_go sx sL _ _ (hn_nx 31 22 [some (hn_vr 48), some (hn_vi (i : Int)), some (hn_vi ((((hn_fr w (hn_n s)).getD i 0 : Nat)) : Int)), some (hn_vi (hn_itr (m + 1) (fun j x => hn_dfs (hn_hl w (hn_n s)) (hn_cs1 s w) ((hn_fr w (hn_n s)).drop (i + 1)) (hn_put p ((hn_fr w (hn_n s)).getD i 0) ((hn_hl w (hn_n s)).getD j 0)) x) 0)), some (hn_vi ((m + 1 : Nat) : Int)), none] [] _)
          rw [hn_itr_up, hn_cs1_add]
          exact r
        · rw [hJ4, hn_up_ne (Or.inl (by omega))]
          exact p3.1 u hu
        · rw [hJ4, hn_up_ne (Or.inl (by omega)), p3.2.1 j (by omega), ← hn_put_lt hd (by omega) j hj]
        · by_cases e : (hn_hl w (hn_n s)).getD m 0 = h
          · subst e
            rw [hJ4, hn_up_eq]
            exact ⟨by omega, u57b⟩
          · rw [hJ4, hn_up_ne (Or.inr (fun q => e q.symm))]
            have := (p3.2.2 h hh).1
            rw [hn_lf_put hd (by omega), if_neg e, Int.add_zero] at this
            exact ⟨this, (jP.2.2 h hh).2⟩) I ⟨hH, hL, hP, hn_kp.rf⟩
    have f12 := q3.2.1
    refine ⟨y, hn_of rfl (r1.tr (q1.tr ?_)), q4, q5⟩
    rw [hn_drop_cons (L := hn_fr w (hn_n s)) (i := i) (by omega)]
    exact hb_X3_countFrom_22_2 (n4 := (hn_hl w (hn_n s)).length) (h1 := by omega)
theorem hm_countPlans (d : Nat) (hI : hn_Iv s) {I : Nat → Nat → Int} (h : hn_HS I 1 s) (hS : hn_SS s I) {w : Nat} (h0 : w ≠ 0) (hw : w < 2 ^ hn_n s) :
    ∃ I', hn_ret sx sL (d + 11) 26 [hn_vr 48, hn_vi w] (hn_m I k g) (some (hn_vi (hn_fnd s w).1)) (hn_m I' k g) ∧ hn_kt I' I := by
  have w8 := hn_w256 hI hw
  have h8 := hn_n8 hI
  rw [hn_fnd_1]
  obtain ⟨I1, c1, p1, e1, f1⟩ := hm_placeHubs (sx := sx) (sL := sL) (k := k) (g := g) (d + 8) hI h hS w8
  have kt1 : hn_kt I1 I := fun c hc j => f1 c (by omega) j
  by_cases hr : hn_room s w (hn_n s) = 1
  · have L1 := hn_PL0 hI (hS.mv (fun c a b j => f1 c (by omega) j)) p1 h0 hw
    have H1 : hn_HS I1 1 s := h.mv (fun c a b j => f1 c (by omega) j)
    have PI1 := hn_PI0 p1 hr
    have hl := hn_hl_len w (hn_n s)
    have hl0 := hn_hl_pos h0 hw
    obtain ⟨I3, c5, -, k3⟩ := hm_countFrom (sx := sx) (sL := sL) (k := k) (g := g) hI (w := w) (hn_fr w (hn_n s)).length 0 (d + 8 - (hn_fr w (hn_n s)).length) (fun u => u) I1 (by omega) ⟨fun _ _ => rfl, fun j hj => absurd hj (by omega)⟩ H1 L1 PI1
    rw [show d + 8 - (hn_fr w (hn_n s)).length + (hn_fr w (hn_n s)).length + 2 = d + 10 by omega, List.drop_zero] at c5
    rw [hr] at c1
    exact ⟨I3, hn_of rfl (hb_X3_countPlans_0_1 (c1 := c1) (h2 := by decide) (c3 := c5)), fun c hc j => by rw [k3.2 c (by omega), kt1 c hc]⟩
  · have et : hn_dfs (hn_hl w (hn_n s)) (hn_cs1 s w) (hn_fr w (hn_n s)) (fun u => u) 0 = 0 := hn_dfs_id (hn_fr_nd w _) fun q hq => by
      unfold hn_cs1
      exact if_neg (hn_noroom0 hI hr hq)
    have er := (hn_room_01 s w (hn_n s)).resolve_right hr
    rw [er] at c1
    rw [et]
    exact ⟨I1, hn_of rfl (hb_X3_countPlans_0_0 (c1 := c1) (h2 := rfl)), kt1⟩
end HX35
