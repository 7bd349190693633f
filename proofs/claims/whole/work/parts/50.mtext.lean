/-! the model's text -/
def hn_ty (J : Nat → Nat → Int) (t : Nat → Int) (ln : Nat) : Prop := J 64 18 = (ln : Int) ∧ ln ≤ 120 ∧ ∀ j, j < ln → J 75 j = t j ∧ 0 ≤ t j ∧ t j ≤ 255
def hn_ft (J I : Nat → Nat → Int) : Prop := (∀ c, c ≠ 64 → c ≠ 76 → ∀ j, J c j = I c j) ∧ ∀ j, j ≠ 19 → j ≠ 20 → J 64 j = I 64 j
theorem hn_ft.rf {I : Nat → Nat → Int} : hn_ft I I := ⟨fun _ _ _ _ => rfl, fun _ _ _ => rfl⟩
theorem hn_ft.tr {A B I : Nat → Nat → Int} (h1 : hn_ft A B) (h2 : hn_ft B I) : hn_ft A I := ⟨fun c a b j => by rw [h1.1 c a b, h2.1 c a b], fun j a b => by rw [h1.2 j a b, h2.2 j a b]⟩
theorem hn_ft.up {A I : Nat → Nat → Int} (h : hn_ft A I) {j : Nat} {v : Int} (hj : j = 19 ∨ j = 20) : hn_ft (hn_up A 64 j v) I := ⟨fun c a b i => by rw [hn_up_ne (Or.inl a), h.1 c a b], fun i a b => by rw [hn_up_ne (Or.inr (by omega)), h.2 i a b]⟩
theorem hn_ft.un {A I : Nat → Nat → Int} (h : hn_ft A I) {j : Nat} {v : Int} : hn_ft (hn_up A 76 j v) I := ⟨fun c a b i => by rw [hn_up_ne (Or.inl b), h.1 c a b], fun i a b => by rw [hn_up_ne (Or.inl (by omega)), h.2 i a b]⟩
theorem hn_ft.ty {J I : Nat → Nat → Int} {t : Nat → Int} {ln : Nat} (h : hn_ft J I) (ht : hn_ty I t ln) : hn_ty J t ln := ⟨by rw [h.2 18 (by omega) (by omega)]; exact ht.1, ht.2.1, fun j hj => by rw [h.1 75 (by omega) (by omega)]; exact ht.2.2 j hj⟩
theorem hn_ft.MC {J I : Nat → Nat → Int} {b : Int} {a : hn_AA} (h : hn_ft J I) (hM : hn_MC I b a) : hn_MC J b a := hM.mv (fun j => h.1 65 (by omega) (by omega) j) (fun j hj => h.2 j (by omega) (by omega)) (fun j => h.1 75 (by omega) (by omega) j)
theorem hn_ft.fM {J I : Nat → Nat → Int} (h : hn_ft J I) : hn_fM J I := fun c hc j => h.1 c (by omega) (by omega) j
theorem hn_rdR_ge {t : Nat → Int} {ln : Nat} : ∀ (q c i : Nat) (V : Nat → Int), (hn_rdR t ln q c i V).1 = true → i + q ≤ (hn_rdR t ln q c i V).2.1
  | 0, c, i, V, _ => Nat.le_refl i
  | q + 1, c, i, V, h => by
    obtain ⟨p1, p2, p3, p4⟩ := hn_af_p (c := hn_bl t) (ln := ln) ln i (by omega)
    obtain ⟨g1, g2, g3, g4⟩ := hn_af_p (c := hn_dg t) (ln := ln) ln (hn_af (hn_bl t) ln i) (by omega)
    unfold hn_rdR at h ⊢
    by_cases x : hn_af (hn_dg t) ln (hn_af (hn_bl t) ln i) = hn_af (hn_bl t) ln i ∨ 6 < hn_af (hn_dg t) ln (hn_af (hn_bl t) ln i) - hn_af (hn_bl t) ln i
    · rw [if_pos x] at h
      exact absurd h Bool.false_ne_true
    · rw [if_neg x] at h ⊢
      have := hn_rdR_ge q _ _ _ h
      omega
theorem hn_rdR_le {t : Nat → Int} {ln : Nat} : ∀ (q c i : Nat) (V : Nat → Int), i ≤ ln → (hn_rdR t ln q c i V).2.1 ≤ ln
  | 0, c, i, V, h => h
  | q + 1, c, i, V, h => by
    obtain ⟨p1, p2, p3, p4⟩ := hn_af_p (c := hn_bl t) (ln := ln) ln i (by omega)
    obtain ⟨g1, g2, g3, g4⟩ := hn_af_p (c := hn_dg t) (ln := ln) ln (hn_af (hn_bl t) ln i) (by omega)
    unfold hn_rdR
    by_cases x : hn_af (hn_dg t) ln (hn_af (hn_bl t) ln i) = hn_af (hn_bl t) ln i ∨ 6 < hn_af (hn_dg t) ln (hn_af (hn_bl t) ln i) - hn_af (hn_bl t) ln i
    · rw [if_pos x]
      exact p2 h
    · rw [if_neg x]
      exact hn_rdR_le q _ _ _ (g2 (p2 h))
section HX50
variable {sx : Nat → Int} {sL : Nat} {I : Nat → Nat → Int} {k : Nat → Option Nat} {g : Nat → Nat → Int64} {a : hn_AA} {s : hn_S} {b : Int} {t : Nat → Int} {ln : Nat}
theorem hx_here (d : Nat) (ht : hn_ty I t ln) {i : Nat} (hi : I 64 19 = (i : Int)) : ∃ I', hn_ret sx sL (d + 1) 154 [hn_vr 64] (hn_m I k g) (some (hn_vi (if hn_af (hn_bl t) ln i < ln then t (hn_af (hn_bl t) ln i) else -1))) (hn_m I' k g) ∧ I' 64 19 = (hn_af (hn_bl t) ln i : Int) ∧ hn_ft I' I ∧ I' 64 20 = I 64 20 ∧ ∀ j, I' 76 j = I 76 j := by
  obtain ⟨p1, p2, p3, p4⟩ := hn_af_p (c := hn_bl t) (ln := ln) ln i (by omega)
  obtain ⟨h1, h2, h3⟩ := id ht
  obtain ⟨n, hn⟩ : ∃ n, n = hn_af (hn_bl t) ln i - i := ⟨_, rfl⟩
  obtain ⟨y, r, q1, q2, q3, q4⟩ := hn_forE (sx := sx) (sL := sL) (C := hn_ret sx sL d) (fun _ (J : Nat → Nat → Int) => hn_nx 154 0 [some (hn_vr 64)] [] (hn_m J k g)) (fun j J => J 64 19 = ((i + j : Nat) : Int) ∧ hn_ft J I ∧ J 64 20 = I 64 20 ∧ ∀ j, J 76 j = I 76 j) n (fun j J hj hJ => by
    obtain ⟨j1, j2, j3, j4⟩ := hJ
    have tJ := j2.ty ht
    have q := p3 (i + j) (by omega) (by omega)
    have e := of_decide_eq_true q.2
    have et : (J 64 19).toNat = i + j := by omega
    refine ⟨_, hb_X7_here_0_0 (h1 := by rw [j1, tJ.1]; omega) (h2 := by omega) (h3 := by rw [et, (tJ.2.2 _ q.1).1]; exact e) (h4 := by omega), by rw [hn_up_eq, j1]; rfl, j2.up (Or.inl rfl), by rw [hn_up_ne (Or.inr (by omega)), j3], fun j => by rw [hn_up_ne (Or.inl (by omega)), j4]⟩) I ⟨hi, hn_ft.rf, rfl, fun _ => rfl⟩
  have ty := q2.ty ht
  have e19 : y 64 19 = (hn_af (hn_bl t) ln i : Int) := by rw [q1]; congr 1; omega
  have et : (y 64 19).toNat = hn_af (hn_bl t) ln i := by omega
  by_cases e : hn_af (hn_bl t) ln i < ln
  · rw [if_pos e]
    have r2 := hb_X7_here_0_1 (sx := sx) (sL := sL) (C := hn_ret sx sL d) (I := y) (k := k) (g := g) (h1 := by rw [ty.1]; omega) (h2 := by omega) (h3 := by rw [et, (ty.2.2 _ e).1]; exact fun q => p4 ⟨e, decide_eq_true q⟩)
    rw [et, (ty.2.2 _ e).1] at r2
    exact ⟨y, hn_of rfl (r.tr r2), e19, q2, q3, q4⟩
  · rw [if_neg e]
    exact ⟨y, hn_of rfl (r.tr (hb_X7_here_0_2 (h1 := by rw [ty.1]; omega))), e19, q2, q3, q4⟩
theorem hx_number0 (d : Nat) {i : Nat} (hi : I 64 19 = (i : Int)) (hf : I 64 20 = 0) : ∃ I', hn_ret sx sL (d + 1) 155 [hn_vr 64] (hn_m I k g) (some (hn_vi 0)) (hn_m I' k g) ∧ I' 64 19 = (i : Int) ∧ I' 64 20 = 0 ∧ hn_ft I' I ∧ ∀ j, I' 76 j = I 76 j := by
  have r0 := hb_X7_readsNumber_0_0 (sx := sx) (sL := sL) (C := hn_ret sx sL d) (I := I) (k := k) (g := g) (h1 := hf)
  rw [hi] at r0
  have r1 := hb_X7_readsNumber_37_0 (sx := sx) (sL := sL) (C := hn_ret sx sL d) (I := hn_up I 64 20 0) (k := k) (g := g) (n1 := i) (x2 := 0) (h1 := hn_up_eq)
  exact ⟨_, hn_of rfl (r0.tr r1), by rw [hn_up_eq, hn_up_ne (Or.inr (by omega)), hi], by rw [hn_up_ne (Or.inr (by omega)), hn_up_eq], ((hn_ft.rf.up (Or.inr rfl)).up (Or.inr rfl)).up (Or.inl rfl), fun j => by rw [hn_up_ne (Or.inl (by omega)), hn_up_ne (Or.inl (by omega)), hn_up_ne (Or.inl (by omega))]⟩
theorem hx_number (d : Nat) (ht : hn_ty I t ln) {i : Nat} (hi : I 64 19 = (i : Int)) (hil : i ≤ ln) (hf : I 64 20 = 1) : ∃ I' v, hn_ret sx sL (d + 2) 155 [hn_vr 64] (hn_m I k g) (some (hn_vi v)) (hn_m I' k g) ∧ hn_ft I' I ∧ (∀ j, I' 76 j = I 76 j) ∧ (((hn_af (hn_dg t) ln (hn_af (hn_bl t) ln i) = hn_af (hn_bl t) ln i ∨ 6 < hn_af (hn_dg t) ln (hn_af (hn_bl t) ln i) - hn_af (hn_bl t) ln i) ∧ I' 64 19 = (hn_af (hn_bl t) ln i : Int) ∧ I' 64 20 = 0) ∨ (¬ (hn_af (hn_dg t) ln (hn_af (hn_bl t) ln i) = hn_af (hn_bl t) ln i ∨ 6 < hn_af (hn_dg t) ln (hn_af (hn_bl t) ln i) - hn_af (hn_bl t) ln i) ∧ I' 64 19 = (hn_af (hn_dg t) ln (hn_af (hn_bl t) ln i) : Int) ∧ I' 64 20 = 1 ∧ v = hn_vf t (hn_af (hn_bl t) ln i) (hn_af (hn_dg t) ln (hn_af (hn_bl t) ln i) - hn_af (hn_bl t) ln i))) := by
  obtain ⟨p1, p2, p3, p4⟩ := hn_af_p (c := hn_bl t) (ln := ln) ln i (by omega)
  obtain ⟨I1, c2, e19, f1, f20, f76⟩ := hx_here (sx := sx) (sL := sL) (k := k) (g := g) d ht hi
  obtain ⟨j, hj⟩ : ∃ j, j = hn_af (hn_bl t) ln i := ⟨_, rfl⟩
  rw [← hj] at p1 p2 p3 p4 c2 e19 ⊢
  obtain ⟨g1, g2, g3, g4⟩ := hn_af_p (c := hn_dg t) (ln := ln) ln j (by omega)
  obtain ⟨e, he⟩ : ∃ e, e = hn_af (hn_dg t) ln j := ⟨_, rfl⟩
  rw [← he] at g1 g2 g3 g4 ⊢
  have hjl := p2 hil
  have hel := g2 hjl
  have t1 := f1.ty ht
  have l120 := ht.2.1
  have c3 := hx_in (sx := sx) (sL := sL) (I := I1) (k := k) (g := g) d (if j < ln then t j else -1) 48 57
  by_cases dj : j < ln ∧ hn_dg t j = true
  · have dg := of_decide_eq_true dj.2
    rw [if_pos dj.1] at c2 c3
    rw [if_pos dg] at c3
    have ej : e ≠ j := fun q => g4 (by rw [q]; exact dj)
    have r0 := hb_X7_readsNumber_0_2 (sx := sx) (sL := sL) (h1 := by rw [hf]; decide) (c2 := c2) (c3 := c3) (h4 := by decide)
    rw [e19] at r0
    obtain ⟨J, hJ⟩ : ∃ J, J = hn_up I1 64 20 1 := ⟨_, rfl⟩
    rw [← hJ] at r0
    have J20 : J 64 20 = 1 := by rw [hJ, hn_up_eq]
    have J19 : J 64 19 = (j : Int) := by rw [hJ, hn_up_ne (Or.inr (by omega)), e19]
    have J76 : ∀ u, J 76 u = I 76 u := fun u => by rw [hJ, hn_up_ne (Or.inl (by omega)), f76]
    have fJ : hn_ft J I := by rw [hJ]; exact f1.up (Or.inr rfl)
    have tJ := fJ.ty ht
    have dgs : ∀ u, j ≤ u → u < e → u < ln ∧ 48 ≤ t u ∧ t u ≤ 57 := fun u h1 h2 => ⟨(g3 u h1 h2).1, of_decide_eq_true (g3 u h1 h2).2⟩
    have cin : ∀ u, j ≤ u → u < e → hn_ret sx sL (d + 1) 97 [hn_vi (J 75 u), hn_vi 48, hn_vi 57] (hn_m J k g) (some (hn_vi 1)) (hn_m J k g) := fun u h1 h2 => by
      have c := hx_in (sx := sx) (sL := sL) (I := J) (k := k) (g := g) d (J 75 u) 48 57
      have q := dgs u h1 h2
      rw [if_pos (by rw [(tJ.2.2 u q.1).1]; exact q.2)] at c
      exact c
    -- the first six
    have rA := hn_for (sx := sx) (sL := sL) (C := hn_ret sx sL (d + 1)) (fun c => hn_nx 155 37 [some (hn_vr 64), some (hn_vi ((j + c : Nat) : Int)), some (hn_vi (hn_vf t j c))] [] (hn_m J k g)) (min 6 (e - j)) (fun c hc => by
      have q := dgs (j + c) (by omega) (by omega)
      have vb := hn_vf_b (t := t) (i := j) (n := c) (fun u h1 h2 => decide_eq_true (dgs u h1 (by omega)).2)
      have hp : 10 ^ c ≤ 10 ^ 6 := Nat.pow_le_pow_right (by omega) (by omega)
      have e75 := (tJ.2.2 _ q.1).1
      have r := hb_X7_readsNumber_37_4 (sx := sx) (sL := sL) (n1 := j + c) (x2 := hn_vf t j c) (h1 := by rw [J20]; decide) (h2 := by rw [tJ.1]; omega) (h3 := by omega) (c4 := cin (j + c) (by omega) (by omega)) (h5 := by decide) (h6 := by omega) (h7 := by omega) (h8 := by omega) (h9 := by omega) (h10 := by omega) (h11 := by omega)
      rw [e75, Int.mul_comm 10 (hn_vf t j c)] at r
      exact r)
    by_cases h6 : 6 < e - j
    · rw [show min 6 (e - j) = 6 by omega] at rA
      have rB := hn_for1 (sx := sx) (sL := sL) (C := hn_ret sx sL (d + 1)) (fun c => hn_nx 155 37 [some (hn_vr 64), some (hn_vi (c : Int)), some (hn_vi (hn_vf t j 6))] [] (hn_m J k g)) (j + 6) e (by omega) (fun c h1 h2 => by
        have q := dgs c (by omega) h2
        exact hb_X7_readsNumber_37_5 (h1 := by rw [J20]; decide) (h2 := by rw [tJ.1]; omega) (h3 := by omega) (c4 := cin c (by omega) h2) (h5 := by decide) (h6 := by omega) (h7 := by omega) (h8 := by omega))
      refine ⟨hn_up (hn_up J 64 20 0) 64 19 (J 64 19), hn_vf t j 6, hn_of rfl (r0.tr (rA.tr (rB.tr ?_))), (fJ.up (Or.inr rfl)).up (Or.inl rfl), fun u => by rw [hn_up_ne (Or.inl (by omega)), hn_up_ne (Or.inl (by omega)), J76], Or.inl ⟨Or.inr h6, by rw [hn_up_eq, J19], by rw [hn_up_ne (Or.inr (by omega)), hn_up_eq]⟩⟩
      by_cases el : e < ln
      · have c := hx_in (sx := sx) (sL := sL) (I := J) (k := k) (g := g) d (J 75 e) 48 57
        rw [if_neg (by rw [(tJ.2.2 e el).1]; exact fun q => g4 ⟨el, decide_eq_true q⟩)] at c
        exact hb_X7_readsNumber_37_2 (h1 := by rw [J20]; decide) (h2 := by rw [tJ.1]; omega) (h3 := by omega) (c4 := c) (h5 := rfl) (h6 := by rw [J20]; decide) (h7 := by omega) (h8 := by omega)
      · exact hb_X7_readsNumber_37_6 (h1 := by rw [J20]; decide) (h2 := by rw [tJ.1]; omega) (h3 := by omega) (h4 := by omega)
    · rw [show min 6 (e - j) = e - j by omega, show j + (e - j) = e by omega] at rA
      refine ⟨hn_up (hn_up J 64 20 1) 64 19 (e : Int), hn_vf t j (e - j), hn_of rfl (r0.tr (rA.tr ?_)), (fJ.up (Or.inr rfl)).up (Or.inl rfl), fun u => by rw [hn_up_ne (Or.inl (by omega)), hn_up_ne (Or.inl (by omega)), J76], Or.inr ⟨by omega, by rw [hn_up_eq], by rw [hn_up_ne (Or.inr (by omega)), hn_up_eq], rfl⟩⟩
      by_cases el : e < ln
      · have c := hx_in (sx := sx) (sL := sL) (I := J) (k := k) (g := g) d (J 75 e) 48 57
        rw [if_neg (by rw [(tJ.2.2 e el).1]; exact fun q => g4 ⟨el, decide_eq_true q⟩)] at c
        exact hb_X7_readsNumber_37_3 (h1 := by rw [J20]; decide) (h2 := by rw [tJ.1]; omega) (h3 := by omega) (c4 := c) (h5 := rfl) (h6 := by rw [J20]; decide) (h7 := by omega) (h8 := by omega)
      · exact hb_X7_readsNumber_37_7 (h1 := by rw [J20]; decide) (h2 := by rw [tJ.1]; omega) (h3 := by omega) (h4 := by omega)
  · have ej : e = j := by
      rw [he]
      exact hn_af_e dj
    have nn : ¬ (48 ≤ (if j < ln then t j else -1) ∧ (if j < ln then t j else -1) ≤ 57) := by
      by_cases q : j < ln
      · rw [if_pos q]
        exact fun z => dj ⟨q, decide_eq_true z⟩
      · rw [if_neg q]
        omega
    rw [if_neg nn] at c3
    have r0 := hb_X7_readsNumber_0_1 (sx := sx) (sL := sL) (h1 := by rw [hf]; decide) (c2 := c2) (c3 := c3) (h4 := rfl)
    rw [e19] at r0
    have r1 := hb_X7_readsNumber_37_0 (sx := sx) (sL := sL) (C := hn_ret sx sL (d + 1)) (I := hn_up I1 64 20 0) (k := k) (g := g) (n1 := j) (x2 := 0) (h1 := hn_up_eq)
    exact ⟨_, 0, hn_of rfl (r0.tr r1), ((f1.up (Or.inr rfl)).up (Or.inr rfl)).up (Or.inl rfl), fun u => by rw [hn_up_ne (Or.inl (by omega)), hn_up_ne (Or.inl (by omega)), hn_up_ne (Or.inl (by omega)), f76], Or.inl ⟨Or.inl ej, by rw [hn_up_eq, hn_up_ne (Or.inr (by omega)), e19], by rw [hn_up_ne (Or.inr (by omega)), hn_up_eq]⟩⟩
theorem hx_nums0 (d : Nat) {wt : Nat} (hw : wt ≤ 4) {x1 x2 : Int} : ∀ (q c i : Nat) (J : Nat → Nat → Int), c + q = wt → J 64 19 = (i : Int) → J 64 20 = 0 → ∃ J', hn_go sx sL (hn_ret sx sL (d + 2)) (hn_nx 156 90 [some (hn_vr 64), some (hn_vi x1), some (hn_vi x2), some (hn_vi wt), some (hn_vi c)] [] (hn_m J k g)) (hn_nx 156 90 [some (hn_vr 64), some (hn_vi x1), some (hn_vi x2), some (hn_vi wt), some (hn_vi wt)] [] (hn_m J' k g)) ∧ J' 64 19 = (i : Int) ∧ J' 64 20 = 0 ∧ hn_ft J' J
  | 0, c, i, J, hc, h1, h2 => by
    have : c = wt := by omega
    subst this
    exact ⟨J, hn_go.rf, h1, h2, hn_ft.rf⟩
  | q + 1, c, i, J, hc, h1, h2 => by
    obtain ⟨J1, c1, a1, a2, a3, a4⟩ := hx_number0 (sx := sx) (sL := sL) (k := k) (g := g) (d + 1) h1 h2
    have r := hb_X7_command_90_0 (sx := sx) (sL := sL) (x1 := x1) (x2 := x2) (x3 := (wt : Int)) (n4 := c) (h1 := by omega) (c2 := c1) (h3 := by omega) (h4 := by omega)
    obtain ⟨J2, z1, z2, z3, z4⟩ := hx_nums0 d hw q (c + 1) i (hn_up J1 76 c 0) (by omega) (by rw [hn_up_ne (Or.inl (by omega)), a1]) (by rw [hn_up_ne (Or.inl (by omega)), a2])
    exact ⟨J2, r.tr z1, z2, z3, z4.tr a3.un⟩
theorem hx_nums (d : Nat) {wt : Nat} (hw : wt ≤ 4) {x1 x2 : Int} : ∀ (q c i : Nat) (J : Nat → Nat → Int) (V : Nat → Int), c + q = wt → hn_ty J t ln → i ≤ ln → J 64 19 = (i : Int) → J 64 20 = 1 → (∀ u, u < c → J 76 u = V u) →
    ∃ J', hn_go sx sL (hn_ret sx sL (d + 2)) (hn_nx 156 90 [some (hn_vr 64), some (hn_vi x1), some (hn_vi x2), some (hn_vi wt), some (hn_vi c)] [] (hn_m J k g)) (hn_nx 156 90 [some (hn_vr 64), some (hn_vi x1), some (hn_vi x2), some (hn_vi wt), some (hn_vi wt)] [] (hn_m J' k g)) ∧ J' 64 19 = ((hn_rdR t ln q c i V).2.1 : Int) ∧ J' 64 20 = (if (hn_rdR t ln q c i V).1 = true then 1 else 0) ∧ hn_ft J' J ∧ ((hn_rdR t ln q c i V).1 = true → ∀ u, u < wt → J' 76 u = (hn_rdR t ln q c i V).2.2 u)
  | 0, c, i, J, V, hc, ht, hi, h1, h2, hV => by
    have : c = wt := by omega
    subst this
    exact ⟨J, hn_go.rf, h1, by rw [if_pos (show (hn_rdR t ln 0 c i V).1 = true from rfl)]; exact h2, hn_ft.rf, fun _ u hu => hV u hu⟩
  | q + 1, c, i, J, V, hc, ht, hi, h1, h2, hV => by
    obtain ⟨p1, p2, p3, p4⟩ := hn_af_p (c := hn_bl t) (ln := ln) ln i (by omega)
    obtain ⟨g1, g2, g3, g4⟩ := hn_af_p (c := hn_dg t) (ln := ln) ln (hn_af (hn_bl t) ln i) (by omega)
    obtain ⟨J1, v, c1, a1, a2, a3⟩ := hx_number (sx := sx) (sL := sL) (k := k) (g := g) d ht h1 hi h2
    have r := hb_X7_command_90_0 (sx := sx) (sL := sL) (x1 := x1) (x2 := x2) (x3 := (wt : Int)) (n4 := c) (h1 := by omega) (c2 := c1) (h3 := by omega) (h4 := by omega)
    unfold hn_rdR
    rcases a3 with ⟨x, e19, e20⟩ | ⟨x, e19, e20, ev⟩
    · rw [if_pos x]
      obtain ⟨J2, z1, z2, z3, z4⟩ := hx_nums0 (sx := sx) (sL := sL) (k := k) (g := g) d hw (x1 := x1) (x2 := x2) q (c + 1) (hn_af (hn_bl t) ln i) (hn_up J1 76 c v) (by omega) (by rw [hn_up_ne (Or.inl (by omega)), e19]) (by rw [hn_up_ne (Or.inl (by omega)), e20])
      exact ⟨J2, r.tr z1, z2, z3, z4.tr a1.un, fun z => absurd z Bool.false_ne_true⟩
    · rw [if_neg x]
      have fJ : hn_ft (hn_up J1 76 c v) J := a1.un
      obtain ⟨J2, z1, z2, z3, z4, z5⟩ := hx_nums d hw q (c + 1) (hn_af (hn_dg t) ln (hn_af (hn_bl t) ln i)) (hn_up J1 76 c v) (hn_ups V c (hn_vf t (hn_af (hn_bl t) ln i) (hn_af (hn_dg t) ln (hn_af (hn_bl t) ln i) - hn_af (hn_bl t) ln i))) (by omega) (fJ.ty ht) (g2 (p2 hi)) (by rw [hn_up_ne (Or.inl (by omega)), e19]) (by rw [hn_up_ne (Or.inl (by omega)), e20]) (fun u hu => by
        unfold hn_ups
        by_cases y : u = c
        · rw [y, hn_up_eq, if_pos rfl, ev]
        · rw [hn_up_ne (Or.inr y), if_neg y, a2]
          exact hV u (by omega))
      exact ⟨J2, r.tr z1, z2, z3, z4.tr fJ, z5⟩
/-- a command, as far as it is read -/
theorem hx_cmdHead (d : Nat) (ht : hn_ty I t ln) {i : Nat} (hi : I 64 19 = (i : Int)) (hil : i ≤ ln) {x1 : Int} : ∃ (I' : Nat → Nat → Int) (x2 : Int) (wt : Nat), hn_go sx sL (hn_ret sx sL (d + 3)) (hn_nx 156 0 [some (hn_vr 64), some (hn_vi x1), none, none, none] [] (hn_m I k g)) (hn_nx 156 90 [some (hn_vr 64), some (hn_vi x1), some (hn_vi x2), some (hn_vi wt), some (hn_vi wt)] [] (hn_m I' k g)) ∧ I' 64 19 = ((hn_cm t ln i).2.1 : Int) ∧ I' 64 20 = (if (hn_cm t ln i).1 = true then 1 else 0) ∧ hn_ft I' I ∧ (hn_cm t ln i).2.1 ≤ ln ∧ ((hn_cm t ln i).1 = true → x2 = (hn_cm t ln i).2.2.1 ∧ i + 2 ≤ (hn_cm t ln i).2.1 ∧ ∀ u, u < hn_nof (hn_cm t ln i).2.2.1 → I' 76 u = (hn_cm t ln i).2.2.2 u) := by
  obtain ⟨p1, p2, p3, p4⟩ := hn_af_p (c := hn_bl t) (ln := ln) ln i (by omega)
  obtain ⟨I1, c1, e19, f1, f20, f76⟩ := hx_here (sx := sx) (sL := sL) (k := k) (g := g) (d + 2) ht hi
  have ec : hn_cm t ln i = if hn_af (hn_bl t) ln i < ln ∧ hn_nof (t (hn_af (hn_bl t) ln i)) ≠ 0 then
      ((hn_rdR t ln (hn_nof (t (hn_af (hn_bl t) ln i))) 0 (hn_af (hn_bl t) ln i + 1) (fun _ => 0)).1, (hn_rdR t ln (hn_nof (t (hn_af (hn_bl t) ln i))) 0 (hn_af (hn_bl t) ln i + 1) (fun _ => 0)).2.1, (t (hn_af (hn_bl t) ln i), (hn_rdR t ln (hn_nof (t (hn_af (hn_bl t) ln i))) 0 (hn_af (hn_bl t) ln i + 1) (fun _ => 0)).2.2))
    else (false, hn_af (hn_bl t) ln i, (0, fun _ => 0)) := rfl
  obtain ⟨cm, hcm⟩ : ∃ cm, cm = hn_cm t ln i := ⟨_, rfl⟩
  rw [← hcm] at ec ⊢
  obtain ⟨j, hj⟩ : ∃ j, j = hn_af (hn_bl t) ln i := ⟨_, rfl⟩
  rw [← hj] at p1 p2 p3 p4 c1 e19 ec
  have hjl := p2 hil
  have l120 := ht.2.1
  by_cases x : j < ln ∧ hn_nof (t j) ≠ 0
  · rw [if_pos x] at ec
    rw [if_pos x.1] at c1
    obtain ⟨w, hw⟩ : ∃ w, w = hn_nof (t j) := ⟨_, rfl⟩
    have w4 := hn_nof_b (t j)
    have wne := x.2
    rw [← hw] at ec w4 wne
    have r0 : hn_go sx sL (hn_ret sx sL (d + 3)) (hn_nx 156 0 [some (hn_vr 64), some (hn_vi x1), none, none, none] [] (hn_m I k g)) (hn_nx 156 90 [some (hn_vr 64), some (hn_vi x1), some (hn_vi (t j)), some (hn_vi w), some (hn_vi ((0 : Nat) : Int))] [] (hn_m (hn_up (hn_up I1 64 20 1) 64 19 ((I1 64 19) + 1)) k g)) := by
      rw [hw]
      have wne' := x.2
      unfold hn_nof at wne' ⊢
      by_cases z1 : t j = 97
      · rw [if_pos z1]
        exact hb_X7_command_0_2 (c1 := c1) (h2 := by omega) (h3 := by omega) (h4 := z1) (h5 := by omega)
      rw [if_neg z1] at wne' ⊢
      by_cases z2 : t j = 102
      · rw [if_pos z2]
        exact hb_X7_command_0_1 (c1 := c1) (h2 := by omega) (h3 := z2) (h4 := by omega)
      rw [if_neg z2] at wne' ⊢
      by_cases z3 : t j = 104
      · rw [if_pos z3]
        exact hb_X7_command_0_3 (c1 := c1) (h2 := by omega) (h3 := by omega) (h4 := by omega) (h5 := z3) (h6 := by omega)
      rw [if_neg z3] at wne' ⊢
      by_cases z4 : t j = 110
      · rw [if_pos z4]
        exact hb_X7_command_0_0 (c1 := c1) (h2 := z4) (h3 := by omega)
      rw [if_neg z4] at wne' ⊢
      by_cases z5 : t j = 117
      · rw [if_pos z5]
        exact hb_X7_command_0_4 (c1 := c1) (h2 := by omega) (h3 := by omega) (h4 := by omega) (h5 := by omega) (h6 := z5) (h7 := by omega)
      rw [if_neg z5] at wne'
      exact absurd rfl wne'
    have fJ : hn_ft (hn_up (hn_up I1 64 20 1) 64 19 ((I1 64 19) + 1)) I := (f1.up (Or.inr rfl)).up (Or.inl rfl)
    obtain ⟨J2, z1, z2, z3, z4, z5⟩ := hx_nums (sx := sx) (sL := sL) (k := k) (g := g) (d + 1) w4 (x1 := x1) (x2 := t j) w 0 (j + 1) _ (fun _ => 0) (by omega) (fJ.ty ht) (by omega) (by rw [hn_up_eq, e19]; rfl) (by rw [hn_up_ne (Or.inr (by omega)), hn_up_eq]) (fun u hu => absurd hu (by omega))
    have le := hn_rdR_le (t := t) (ln := ln) w 0 (j + 1) (fun _ => 0) (by omega)
    rw [ec]
    refine ⟨J2, t j, w, r0.tr z1, z2, z3, z4.tr fJ, le, fun q => ⟨rfl, ?_, fun u hu => z5 q u (by rw [hw]; exact hu)⟩⟩
    have := hn_rdR_ge (t := t) (ln := ln) w 0 (j + 1) (fun _ => 0) q
    show i + 2 ≤ (hn_rdR t ln w 0 (j + 1) (fun _ => 0)).2.1
    omega
  · rw [if_neg x] at ec
    obtain ⟨L, hL⟩ : ∃ L : Int, L = if j < ln then t j else -1 := ⟨_, rfl⟩
    rw [← hL] at c1
    have nL : hn_nof L = 0 := by
      by_cases q : j < ln
      · rw [if_pos q] at hL
        rw [hL]
        exact Classical.byContradiction fun z => x ⟨q, z⟩
      · rw [if_neg q] at hL
        rw [hL]
        decide
    have l1 : L ≠ 110 := fun z => by rw [z] at nL; exact absurd nL (by decide)
    have l2 : L ≠ 102 := fun z => by rw [z] at nL; exact absurd nL (by decide)
    have l3 : L ≠ 97 := fun z => by rw [z] at nL; exact absurd nL (by decide)
    have l4 : L ≠ 104 := fun z => by rw [z] at nL; exact absurd nL (by decide)
    have l5 : L ≠ 117 := fun z => by rw [z] at nL; exact absurd nL (by decide)
    have r0 := hb_X7_command_0_5 (sx := sx) (sL := sL) (x1 := x1) (c1 := c1) (h2 := l1) (h3 := l2) (h4 := l3) (h5 := l4) (h6 := l5) (h7 := by omega)
    rw [ec]
    exact ⟨_, L, 0, r0, by rw [hn_up_eq, e19]; show (j : Int) + 0 = (j : Int); omega, by rw [hn_up_ne (Or.inr (by omega)), hn_up_eq, if_neg (show ¬ (false, j, ((0 : Int), fun _ : Nat => (0 : Int))).1 = true from Bool.false_ne_true)], (f1.up (Or.inr rfl)).up (Or.inl rfl), hjl, fun q => absurd q Bool.false_ne_true⟩
theorem hx_command0 (d : Nat) (ht : hn_ty I t ln) {i : Nat} (hi : I 64 19 = (i : Int)) (hil : i ≤ ln) : ∃ I', hn_ret sx sL (d + 4) 156 [hn_vr 64, hn_vi 0] (hn_m I k g) (some (hn_vi 0)) (hn_m I' k g) ∧ I' 64 19 = ((hn_cm t ln i).2.1 : Int) ∧ I' 64 20 = (if (hn_cm t ln i).1 = true then 1 else 0) ∧ hn_ft I' I ∧ (hn_cm t ln i).2.1 ≤ ln ∧ ((hn_cm t ln i).1 = true → i + 2 ≤ (hn_cm t ln i).2.1) := by
  obtain ⟨J, x2, wt, r, a1, a2, a3, a4, a5⟩ := hx_cmdHead (sx := sx) (sL := sL) (k := k) (g := g) d ht hi hil (x1 := 0)
  refine ⟨J, hn_of rfl (r.tr ?_), a1, a2, a3, a4, fun q => (a5 q).2.1⟩
  by_cases e : (hn_cm t ln i).1 = true
  · rw [if_pos e] at a2
    exact hb_X7_command_90_2 (h1 := by omega) (h2 := by omega) (h3 := rfl)
  · rw [if_neg e] at a2
    exact hb_X7_command_90_1 (h1 := by omega) (h2 := a2)
/-- all commands, only read -/
theorem hx_commands0 (d : Nat) : ∀ (f i : Nat) (J : Nat → Nat → Int) (n : Int), 0 ≤ n → n + f ≤ 1000 → 123 ≤ 3 * f + i → hn_ty J t ln → i ≤ ln → J 64 19 = (i : Int) → J 64 20 = 1 →
    ∃ J' m, hn_go sx sL (hn_ret sx sL (d + 4)) (hn_nx 157 14 [some (hn_vr 64), some (hn_vi 0), some (hn_vi n), some (hn_vi 1), none, none, none] [] (hn_m J k g)) (.inr (some (hn_vi m), hn_m J' k g)) ∧ hn_ft J' J ∧ ((J' 64 20 = 1 ∧ (hn_par t ln f i).2 = -1) ∨ (J' 64 20 = 0 ∧ J' 64 19 = (hn_par t ln f i).2 ∧ (hn_par t ln f i).2 ≠ -1))
  | 0, i, J, n, h0, h1, hf, ht, hi, h19, h20 => by
    have := ht.2.1
    omega
  | f + 1, i, J, n, h0, h1, hf, ht, hi, h19, h20 => by
    have l120 := ht.2.1
    obtain ⟨J1, c2, a1, a2, a3, a4, a5⟩ := hx_command0 (sx := sx) (sL := sL) (k := k) (g := g) d ht h19 hi
    have t1 := a3.ty ht
    unfold hn_par
    by_cases e : (hn_cm t ln i).1 = true
    · rw [if_pos e] at a2 ⊢
      obtain ⟨p1, p2, p3, p4⟩ := hn_af_p (c := hn_bl t) (ln := ln) ln (hn_cm t ln i).2.1 (by omega)
      obtain ⟨J2, c6, b1, b2, b3, b4⟩ := hx_here (sx := sx) (sL := sL) (k := k) (g := g) (d + 3) t1 a1
      obtain ⟨j, hj⟩ : ∃ j, j = hn_af (hn_bl t) ln (hn_cm t ln i).2.1 := ⟨_, rfl⟩
      rw [← hj] at p1 p2 p3 p4 c6 b1 ⊢
      have jl := p2 a4
      have ge := a5 e
      have f20 : J2 64 20 = 1 := by rw [b3, a2]
      by_cases x : j < ln
      · rw [if_pos x] at c6 ⊢
        by_cases y : t j = 59
        · rw [if_pos y]
          have r := hb_X7_commands_14_7 (sx := sx) (sL := sL) (x2 := n) (x3 := 1) (h1 := by decide) (c2 := c2) (h3 := by omega) (h4 := by decide) (h5 := by omega) (c6 := c6) (h7 := by omega) (h8 := y) (h9 := by omega)
          have fJ : hn_ft (hn_up (hn_up J2 64 20 1) 64 19 ((J2 64 19) + 1)) J := ((b2.up (Or.inr rfl)).up (Or.inl rfl)).tr a3
          obtain ⟨J', m, z1, z2, z3⟩ := hx_commands0 d f (j + 1) (hn_up (hn_up J2 64 20 1) 64 19 ((J2 64 19) + 1)) (n + 1) (by omega) (by omega) (by omega) (fJ.ty ht) (by omega) (by rw [hn_up_eq, b1]; rfl) (by rw [hn_up_ne (Or.inr (by omega)), hn_up_eq])
          exact ⟨J', m, r.tr z1, z2.tr fJ, z3⟩
        · rw [if_neg y]
          have tj := t1.2.2 j x
          have r := hb_X7_commands_14_9 (sx := sx) (sL := sL) (x2 := n) (x3 := 1) (h1 := by decide) (c2 := c2) (h3 := by omega) (h4 := by decide) (h5 := by omega) (c6 := c6) (h7 := by omega) (h8 := y) (h9 := by omega) (h10 := by omega)
          exact ⟨_, _, r.tr (hb_X7_commands_14_0 (h1 := rfl)), ((b2.up (Or.inr rfl)).up (Or.inl rfl)).tr a3, Or.inr ⟨by rw [hn_up_ne (Or.inr (by omega)), hn_up_eq], by rw [hn_up_eq, b1]; show (j : Int) + 0 = (j : Int); omega, by show ¬ (j : Int) = -1; omega⟩⟩
      · rw [if_neg x] at c6 ⊢
        have r := hb_X7_commands_14_8 (sx := sx) (sL := sL) (x2 := n) (x3 := 1) (h1 := by decide) (c2 := c2) (h3 := by omega) (h4 := by decide) (h5 := by omega) (c6 := c6) (h7 := by omega) (h8 := by decide) (h9 := rfl) (h10 := by omega)
        exact ⟨_, _, r.tr (hb_X7_commands_14_0 (h1 := rfl)), ((b2.up (Or.inr rfl)).up (Or.inl rfl)).tr a3, Or.inl ⟨by rw [hn_up_ne (Or.inr (by omega)), hn_up_eq], rfl⟩⟩
    · rw [if_neg e] at a2 ⊢
      have r := hb_X7_commands_14_1 (sx := sx) (sL := sL) (x2 := n) (x3 := 1) (h1 := by decide) (c2 := c2) (h3 := a2) (h4 := by omega) (h5 := by omega)
      exact ⟨_, _, r.tr (hb_X7_commands_14_0 (h1 := rfl)), (((show hn_ft J1 J1 from hn_ft.rf).up (Or.inr rfl)).up (Or.inl rfl)).tr a3, Or.inr ⟨by rw [hn_up_ne (Or.inr (by omega)), hn_up_eq], by rw [hn_up_eq, a1]; show ((hn_cm t ln i).2.1 : Int) + 0 = _; omega, by show ¬ ((hn_cm t ln i).2.1 : Int) = -1; omega⟩⟩
/-- a command, carried out (silently) -/
theorem hx_command1 (d : Nat) (hA : hn_AI a) (hM : hn_MC I 1 a) (ht : hn_ty I t ln) {i : Nat} (hi : I 64 19 = (i : Int)) (hil : i ≤ ln) (hc : (hn_cm t ln i).1 = true) : ∃ I', hn_ret sx sL (d + 4) 156 [hn_vr 64, hn_vi 1] (hn_m I k g) (some (hn_vi (hn_do a.1 (hn_cm t ln i).2.2).1)) (hn_m I' k g) ∧ I' 64 19 = ((hn_cm t ln i).2.1 : Int) ∧ I' 64 20 = 1 ∧ hn_MC I' 1 ((hn_do a.1 (hn_cm t ln i).2.2).2, a.2) ∧ hn_ty I' t ln ∧ hn_fM I' I ∧ (hn_cm t ln i).2.1 ≤ ln ∧ i + 2 ≤ (hn_cm t ln i).2.1 := by
  obtain ⟨J, x2, wt, r, a1, a2, a3, a4, a5⟩ := hx_cmdHead (sx := sx) (sL := sL) (k := k) (g := g) d ht hi hil (x1 := 1)
  obtain ⟨e2, ge, e76⟩ := a5 hc
  have ok := hn_cm_ok hc
  rw [if_pos hc] at a2
  have MJ := a3.MC hM
  have tJ := a3.ty ht
  obtain ⟨c, hcc⟩ : ∃ c, c = (hn_cm t ln i).2.2 := ⟨_, rfl⟩
  rw [← hcc] at e2 e76 ok ⊢
  subst e2
  have fin : ∀ (I' : Nat → Nat → Int) (x : Int) (s' : hn_S), hn_MC I' 1 (hn_recM 1 a x s') → hn_fx I' J → I' 64 19 = ((hn_cm t ln i).2.1 : Int) ∧ I' 64 20 = 1 ∧ hn_MC I' 1 (s', a.2) ∧ hn_ty I' t ln ∧ hn_fM I' I ∧ (hn_cm t ln i).2.1 ≤ ln ∧ i + 2 ≤ (hn_cm t ln i).2.1 := fun I' x s' hM' hf => by
    have e : hn_recM 1 a x s' = (s', a.2) := by
      unfold hn_recM
      rw [if_pos (Or.inr (by decide))]
    rw [e] at hM'
    exact ⟨by rw [hf.2 19 (by omega), a1], by rw [hf.2 20 (by omega), a2], hM', ⟨by rw [hf.2 18 (by omega)]; exact tJ.1, tJ.2.1, fun j hj => by rw [hf.1 75 (by omega) (by omega)]; exact tJ.2.2 j hj⟩, hf.fM.tr a3.fM, a4, ge⟩
  unfold hn_do
  by_cases z2 : c.1 = 102
  · have en : hn_nof c.1 = 3 := by rw [z2]; rfl
    rw [en] at e76
    obtain ⟨I', c6, M', f'⟩ := hx_setFlow (sx := sx) (sL := sL) (k := k) (g := g) d hA MJ (J 76 0) (J 76 1) (J 76 2)
    have r2 := hb_X7_command_90_4 (sx := sx) (sL := sL) (x1 := 1) (x2 := c.1) (x3 := (wt : Int)) (n4 := wt) (h1 := by omega) (h2 := by omega) (h3 := by decide) (h4 := by omega) (h5 := z2) (c6 := c6)
    rw [e76 0 (by omega), e76 1 (by omega), e76 2 (by omega)] at r2 M'
    rw [if_pos z2]
    exact ⟨I', hn_of rfl (r.tr r2), fin I' _ _ M' f'⟩
  rw [if_neg z2]
  by_cases z3 : c.1 = 104
  · have en : hn_nof c.1 = 1 := by rw [z3]; rfl
    rw [en] at e76
    obtain ⟨I', c8, M', f'⟩ := hx_setHub (sx := sx) (sL := sL) (k := k) (g := g) d hA MJ (J 76 0) 1
    have r2 := hb_X7_command_90_6 (sx := sx) (sL := sL) (x1 := 1) (x2 := c.1) (x3 := (wt : Int)) (n4 := wt) (h1 := by omega) (h2 := by omega) (h3 := by decide) (h4 := by omega) (h5 := by omega) (h6 := by omega) (h7 := z3) (c8 := c8)
    rw [e76 0 (by omega)] at r2 M'
    rw [if_pos z3]
    exact ⟨I', hn_of rfl (r.tr r2), fin I' _ _ M' f'⟩
  rw [if_neg z3]
  by_cases z4 : c.1 = 110
  · have en : hn_nof c.1 = 4 := by rw [z4]; rfl
    rw [en] at e76
    obtain ⟨I', c7, M', f'⟩ := hx_addNode (sx := sx) (sL := sL) (k := k) (g := g) d hA MJ (J 76 0) (J 76 1) (J 76 2) (J 76 3)
    have r2 := hb_X7_command_90_5 (sx := sx) (sL := sL) (x1 := 1) (x2 := c.1) (x3 := (wt : Int)) (n4 := wt) (h1 := by omega) (h2 := by omega) (h3 := by decide) (h4 := by omega) (h5 := by omega) (h6 := z4) (c7 := c7)
    rw [e76 0 (by omega), e76 1 (by omega), e76 2 (by omega), e76 3 (by omega)] at r2 M'
    rw [if_pos z4]
    exact ⟨I', hn_of rfl (r.tr r2), fin I' _ _ M' f'⟩
  rw [if_neg z4]
  by_cases z5 : c.1 = 117
  · have en : hn_nof c.1 = 1 := by rw [z5]; rfl
    rw [en] at e76
    obtain ⟨I', c8, M', f'⟩ := hx_setHub (sx := sx) (sL := sL) (k := k) (g := g) d hA MJ (J 76 0) 0
    have r2 := hb_X7_command_90_7 (sx := sx) (sL := sL) (x1 := 1) (x2 := c.1) (x3 := (wt : Int)) (n4 := wt) (h1 := by omega) (h2 := by omega) (h3 := by decide) (h4 := by omega) (h5 := by omega) (h6 := by omega) (h7 := by omega) (c8 := c8)
    rw [e76 0 (by omega)] at r2 M'
    rw [if_pos z5]
    exact ⟨I', hn_of rfl (r.tr r2), fin I' _ _ M' f'⟩
  rw [if_neg z5]
  have z1 : c.1 = 97 := by
    unfold hn_nof at ok
    rw [if_neg z2, if_neg z3, if_neg z4, if_neg z5] at ok
    by_cases q : c.1 = 97
    · exact q
    · rw [if_neg q] at ok
      exact absurd rfl ok
  have en : hn_nof c.1 = 2 := by rw [z1]; rfl
  rw [en] at e76
  obtain ⟨I', c5, M', f'⟩ := hx_assign (sx := sx) (sL := sL) (k := k) (g := g) d hA MJ (J 76 0) (J 76 1)
  have r2 := hb_X7_command_90_3 (sx := sx) (sL := sL) (x1 := 1) (x2 := c.1) (x3 := (wt : Int)) (n4 := wt) (h1 := by omega) (h2 := by omega) (h3 := by decide) (h4 := z1) (c5 := c5)
  rw [e76 0 (by omega), e76 1 (by omega)] at r2 M'
  exact ⟨I', hn_of rfl (r.tr r2), fin I' _ _ M' f'⟩
/-- all commands, carried out -/
theorem hx_commands1 (d : Nat) {x : List hn_S × (Nat → Int) × Nat} : ∀ (f i : Nat) (J : Nat → Nat → Int) (n : Nat) (s : hn_S), n + f ≤ 1000 → 123 ≤ 3 * f + i → hn_AI (s, x) → hn_MC J 1 (s, x) → hn_ty J t ln → i ≤ ln → J 64 19 = (i : Int) → J 64 20 = 1 → (hn_par t ln f i).2 = -1 →
    ∃ J', hn_go sx sL (hn_ret sx sL (d + 4)) (hn_nx 157 14 [some (hn_vr 64), some (hn_vi 1), some (hn_vi n), some (hn_vi 1), none, none, none] [] (hn_m J k g)) (.inr (some (hn_vi ((n + (hn_ex (hn_par t ln f i).1 s).1 : Nat) : Int)), hn_m J' k g)) ∧ hn_MC J' 1 ((hn_ex (hn_par t ln f i).1 s).2, x) ∧ hn_fM J' J
  | 0, i, J, n, s, h1, hf, hA, hM, ht, hi, h19, h20, hp => by
    have := ht.2.1
    omega
  | f + 1, i, J, n, s, h1, hf, hA, hM, ht, hi, h19, h20, hp => by
    unfold hn_par at hp ⊢
    by_cases e : (hn_cm t ln i).1 = true
    · rw [if_pos e] at hp ⊢
      have l120 := ht.2.1
      obtain ⟨J1, c2, a1, a2, a3, a4, a5, a6, a7⟩ := hx_command1 (sx := sx) (sL := sL) (k := k) (g := g) d hA hM ht h19 hi e
      obtain ⟨p1, p2, p3, p4⟩ := hn_af_p (c := hn_bl t) (ln := ln) ln (hn_cm t ln i).2.1 (by omega)
      obtain ⟨J2, c6, b1, b2, b3, b4⟩ := hx_here (sx := sx) (sL := sL) (k := k) (g := g) (d + 3) a4 a1
      obtain ⟨j, hj⟩ : ∃ j, j = hn_af (hn_bl t) ln (hn_cm t ln i).2.1 := ⟨_, rfl⟩
      rw [← hj] at p1 p2 p3 p4 c6 b1 hp ⊢
      have jl := p2 a6
      have f20 : J2 64 20 = 1 := by rw [b3, a2]
      obtain ⟨c, hcc⟩ : ∃ c, c = (hn_cm t ln i).2.2 := ⟨_, rfl⟩
      rw [← hcc] at c2 a3 hp ⊢
      have M2 : ∀ {v w : Int}, hn_MC (hn_up (hn_up J2 64 20 v) 64 19 w) 1 ((hn_do s c).2, x) := fun {v w} => (show hn_ft (hn_up (hn_up J2 64 20 v) 64 19 w) J1 from (b2.up (Or.inr rfl)).up (Or.inl rfl)).MC a3
      have F2 : ∀ {v w : Int}, hn_fM (hn_up (hn_up J2 64 20 v) 64 19 w) J := fun {v w} => (show hn_ft (hn_up (hn_up J2 64 20 v) 64 19 w) J1 from (b2.up (Or.inr rfl)).up (Or.inl rfl)).fM.tr a5
      by_cases y : j < ln
      · rw [if_pos y] at c6 hp ⊢
        by_cases z : t j = 59
        · rw [if_pos z] at hp ⊢
          by_cases q : (hn_do s c).1 < -1
          · have ee : hn_ex (c :: (hn_par t ln f (j + 1)).1) s = (0, (hn_do s c).2) := if_pos q
            rw [ee]
            have r := hb_X7_commands_14_3 (sx := sx) (sL := sL) (x2 := (n : Int)) (x3 := 1) (h1 := by decide) (c2 := c2) (h3 := by omega) (h4 := q) (h5 := by omega) (c6 := c6) (h7 := by omega) (h8 := z) (h9 := by omega)
            rw [Int.add_zero] at r
            exact ⟨_, r.tr (hb_X7_commands_14_0 (h1 := rfl)), M2, F2⟩
          · have ee : hn_ex (c :: (hn_par t ln f (j + 1)).1) s = ((hn_ex (hn_par t ln f (j + 1)).1 (hn_do s c).2).1 + 1, (hn_ex (hn_par t ln f (j + 1)).1 (hn_do s c).2).2) := if_neg q
            rw [ee]
            have r := hb_X7_commands_14_7 (sx := sx) (sL := sL) (x2 := (n : Int)) (x3 := 1) (h1 := by decide) (c2 := c2) (h3 := by omega) (h4 := q) (h5 := by omega) (c6 := c6) (h7 := by omega) (h8 := z) (h9 := by omega)
            rw [← Int.natCast_succ] at r
            have tJ : hn_ty (hn_up (hn_up J2 64 20 1) 64 19 ((J2 64 19) + 1)) t ln := (show hn_ft (hn_up (hn_up J2 64 20 1) 64 19 ((J2 64 19) + 1)) J1 from (b2.up (Or.inr rfl)).up (Or.inl rfl)).ty a4
            obtain ⟨J', q1, q2, q3⟩ := hx_commands1 d f (j + 1) (hn_up (hn_up J2 64 20 1) 64 19 ((J2 64 19) + 1)) (n + 1) (hn_do s c).2 (by omega) (by omega) ⟨hn_do_Iv hA.1 c, hA.2⟩ M2 tJ (by omega) (by rw [hn_up_eq, b1]; rfl) (by rw [hn_up_ne (Or.inr (by omega)), hn_up_eq]) hp
            refine ⟨J', ?_, q2, q3.tr F2⟩
            show hn_go sx sL _ _ (.inr (some (hn_vi ((n + ((hn_ex (hn_par t ln f (j + 1)).1 (hn_do s c).2).1 + 1) : Nat) : Int)), hn_m J' k g))
            rw [show n + ((hn_ex (hn_par t ln f (j + 1)).1 (hn_do s c).2).1 + 1) = n + 1 + (hn_ex (hn_par t ln f (j + 1)).1 (hn_do s c).2).1 by omega]
            exact r.tr q1
        · rw [if_neg z] at hp
          exact absurd hp (by show ¬ (j : Int) = -1; omega)
      · rw [if_neg y] at c6 ⊢
        by_cases q : (hn_do s c).1 < -1
        · have ee : hn_ex [c] s = (0, (hn_do s c).2) := if_pos q
          rw [ee]
          have r := hb_X7_commands_14_4 (sx := sx) (sL := sL) (x2 := (n : Int)) (x3 := 1) (h1 := by decide) (c2 := c2) (h3 := by omega) (h4 := q) (h5 := by omega) (c6 := c6) (h7 := by omega) (h8 := by decide) (h9 := rfl) (h10 := by omega)
          rw [Int.add_zero] at r
          exact ⟨_, r.tr (hb_X7_commands_14_0 (h1 := rfl)), M2, F2⟩
        · have ee : hn_ex [c] s = (1, (hn_do s c).2) := if_neg q
          rw [ee]
          have r := hb_X7_commands_14_8 (sx := sx) (sL := sL) (x2 := (n : Int)) (x3 := 1) (h1 := by decide) (c2 := c2) (h3 := by omega) (h4 := q) (h5 := by omega) (c6 := c6) (h7 := by omega) (h8 := by decide) (h9 := rfl) (h10 := by omega)
          exact ⟨_, r.tr (hb_X7_commands_14_0 (h1 := rfl)), M2, F2⟩
    · rw [if_neg e] at hp
      exact absurd hp (by show ¬ ((hn_cm t ln i).2.1 : Int) = -1; omega)
end HX50
