/-! the class's Search: place on the machine -/
def hn_PB (s : hn_S) (w : Nat) (J : Nat → Nat → Int) : Prop :=
  hn_HS J 1 s ∧ hn_PL s (hn_hl w (hn_n s)) (hn_fr w (hn_n s)) J ∧ J 48 14 = (w : Int) ∧ ∀ j, j ≤ (hn_fr w (hn_n s)).length → J 55 j = hn_rst s (hn_hl w (hn_n s)) (hn_fr w (hn_n s)) ((hn_fr w (hn_n s)).length - j)
def hn_PI (s : hn_S) (w : Nat) (p : Nat → Nat) (i : Nat) (J : Nat → Nat → Int) : Prop :=
  (∀ u, u ∈ hn_hl w (hn_n s) → J 56 u = (u : Int)) ∧ (∀ j, j < i → J 56 ((hn_fr w (hn_n s)).getD j 0) = ((p ((hn_fr w (hn_n s)).getD j 0) : Nat) : Int)) ∧ ∀ h, h ∈ hn_hl w (hn_n s) → J 57 h = hn_lf s (hn_fr w (hn_n s)) p i h ∧ hn_lf s (hn_fr w (hn_n s)) p i h ≤ s (34 + h)
def hn_kp (J I : Nat → Nat → Int) : Prop := (∀ j, j ≠ 15 → j ≠ 16 → J 48 j = I 48 j) ∧ ∀ c, c < 46 ∨ (48 < c ∧ c < 56) ∨ 58 < c → ∀ j, J c j = I c j
theorem hn_kp.rf {I : Nat → Nat → Int} : hn_kp I I := ⟨fun _ _ _ => rfl, fun _ _ _ => rfl⟩
theorem hn_kp.tr {A B I : Nat → Nat → Int} (h1 : hn_kp A B) (h2 : hn_kp B I) : hn_kp A I := ⟨fun j a b => by rw [h1.1 j a b, h2.1 j a b], fun c a j => by rw [h1.2 c a j, h2.2 c a j]⟩
theorem hn_kp.up {A I : Nat → Nat → Int} (h : hn_kp A I) {c j : Nat} {x : Int} (hc : 55 < c) (hc2 : c < 59) : hn_kp (hn_up A c j x) I := ⟨fun j a b => by rw [hn_up_ne (Or.inl (by omega)), h.1 j a b], fun c a j => by rw [hn_up_ne (Or.inl (by omega)), h.2 c a j]⟩
theorem hn_PB.mv {s : hn_S} {w : Nat} {J I : Nat → Nat → Int} (h : hn_PB s w I) (e : hn_kp J I) : hn_PB s w J :=
  ⟨h.1.mv (fun c a b j => e.2 c (by omega) j), h.2.1.mv (fun c a b j => e.2 c (by omega) j) (e.1 12 (by decide) (by decide)) (e.1 13 (by decide) (by decide)), by rw [e.1 14 (by decide) (by decide)]; exact h.2.2.1, fun j hj => by rw [e.2 55 (by omega)]; exact h.2.2.2 j hj⟩
section HX33
variable {sx : Nat → Int} {sL : Nat} {k : Nat → Option Nat} {g : Nat → Nat → Int64} {s : hn_S}
theorem hm_leaf (d : Nat) (hI : hn_Iv s) {w : Nat} (hw : w < 256) {p : Nat → Nat} {I : Nat → Nat → Int} {b : Int × Int × (Nat → Int)} (hV : hn_Pl (hn_hl w (hn_n s)) (hn_fr w (hn_n s)) p (hn_fr w (hn_n s)).length) (hB : hn_PB s w I) (hP : hn_PI s w p (hn_fr w (hn_n s)).length I) (hS : hn_BS (hn_n s) I b) :
    ∃ I', hn_ret sx sL (d + 3) 34 [hn_vr 48, hn_vi (hn_sf s w (hn_hl w (hn_n s)) (hn_fr w (hn_n s)) p (hn_fr w (hn_n s)).length)] (hn_m I k g) none (hn_m I' k g) ∧ hn_BS (hn_n s) I' (hn_step s w p b) ∧ hn_PI s w p (hn_fr w (hn_n s)).length I' ∧ hn_kp I' I := by
  have h8 := hn_n8 hI
  have hp := hV.hp
  have hl := hn_hl_len w (hn_n s)
  have bH : ∀ u, u ∈ hn_hl w (hn_n s) → u < 8 := fun u hu => by have := (hn_hl_mem.mp hu).1; omega
  have bF : ∀ u, u ∈ hn_fr w (hn_n s) → u < 8 := fun u hu => by have := (hn_fr_mem.mp hu).1; omega
  have bs := hn_sf_b hI (w := w) (p := p) bH bF (Nat.le_refl _) (by omega) (fun j hj => by have := (hp _ (hn_fr_mem.mp (hn_getD_mem hj)).1).1; omega)
  have h0 := hB.2.1.2.2.2.2.2.2.2.2
  have e56 : ∀ v, v < hn_n s → I 56 v = hn_P p v := by
    intro v hv
    by_cases e : w.testBit v = true
    · have m := hn_hl_mem.mpr ⟨hv, e⟩
      rw [hP.1 v m, hn_P, hV.1 v m]
    · obtain ⟨j, hj, q⟩ := hn_mem_getD (hn_fr_mem.mpr ⟨hv, by simpa using e⟩)
      have := hP.2.1 j hj
      rw [q] at this
      exact this
  have eld : ∀ j, j ∈ hn_hl w (hn_n s) → hn_ld s (hn_P p) j = hn_lf s (hn_fr w (hn_n s)) p (hn_fr w (hn_n s)).length j := fun j hj => by
    rw [hn_ld_split hV.1 hj]
    rfl
  obtain ⟨I', r1, r2, r3, r4⟩ := hm_weigh (sx := sx) (sL := sL) (k := k) (g := g) d hI hB.1 hw hB.2.2.1 (P := hn_P p) (fun v hv => by
    have := (hp v hv).1
    exact ⟨e56 v hv, by unfold hn_P; omega, by unfold hn_P; omega⟩) (fun j hj hj2 => by
    have m := hn_hl_mem.mpr ⟨hj, hj2⟩
    rw [(hP.2.2 j m).1, eld j m]) (x := hn_sf s w (hn_hl w (hn_n s)) (hn_fr w (hn_n s)) p (hn_fr w (hn_n s)).length) (by omega) hS
  rw [hn_leaf hV.1 hp] at r2
  have hf : hn_fits s (hn_P p) w := fun j hj hj2 => by
    have m := hn_hl_mem.mpr ⟨hj, hj2⟩
    rw [eld j m]
    exact (hP.2.2 j m).2
  refine ⟨I', r1, ?_, ⟨fun u hu => by rw [r4 56 (by omega) (by omega) (by omega) (by omega)]; exact hP.1 u hu, fun j hj => by rw [r4 56 (by omega) (by omega) (by omega) (by omega)]; exact hP.2.1 j hj, fun h hh => by rw [r4 57 (by omega) (by omega) (by omega) (by omega)]; exact hP.2.2 h hh⟩, r3, fun c hc j => r4 c (by omega) (by omega) (by omega) (by omega) j⟩
  unfold hn_step
  rw [if_pos hf]
  exact r2
theorem hm_place (hI : hn_Iv s) {w : Nat} (hw : w < 256) : ∀ (r i d : Nat) (p : Nat → Nat) (I : Nat → Nat → Int) (b : Int × Int × (Nat → Int)), i + r = (hn_fr w (hn_n s)).length → hn_Pl (hn_hl w (hn_n s)) (hn_fr w (hn_n s)) p i → hn_PB s w I → hn_PI s w p i I → hn_BS (hn_n s) I b →
    ∃ I', hn_ret sx sL (d + r + 4) 30 [hn_vr 48, hn_vi i, hn_vi (hn_sf s w (hn_hl w (hn_n s)) (hn_fr w (hn_n s)) p i)] (hn_m I k g) none (hn_m I' k g) ∧ hn_BS (hn_n s) I' (hn_dfs (hn_hl w (hn_n s)) (hn_step s w) ((hn_fr w (hn_n s)).drop i) p b) ∧ hn_PI s w p i I' ∧ hn_kp I' I := by
  intro r
  induction r with
  | zero =>
    intro i d p I b hir hV hB hP hS
    have hi : i = (hn_fr w (hn_n s)).length := by omega
    have e13 := hB.2.1.2.2.1
    have h8 := hn_n8 hI
    have hl := hn_hl_len w (hn_n s)
    have bH : ∀ u, u ∈ hn_hl w (hn_n s) → u < 8 := fun u hu => by have := (hn_hl_mem.mp hu).1; omega
    have bF : ∀ u, u ∈ hn_fr w (hn_n s) → u < 8 := fun u hu => by have := (hn_fr_mem.mp hu).1; omega
    have h0 := hB.2.1.2.2.2.2.2.2.2.2
    have er := hB.2.2.2 i (by omega)
    have bs := hn_sf_b hI (w := w) (p := p) bH bF (i := i) (by omega) (by omega) (fun j hj => bH _ (hV.2 j hj))
    have br := hn_rst_b hI bH bF h0 (c := (hn_fr w (hn_n s)).length - i) (by omega)
    by_cases t : hn_sf s w (hn_hl w (hn_n s)) (hn_fr w (hn_n s)) p i + I 55 i < I 48 15
    · subst hi
      obtain ⟨I', r1, r2, r3, r4⟩ := hm_leaf (sx := sx) (sL := sL) (k := k) (g := g) d hI hw hV hB hP hS
      refine ⟨I', hn_of rfl (hb_X3_place_0_1 (h1 := by omega) (h3 := by omega) (h4 := t) (h5 := by omega) (c6 := r1)), ?_, r3, r4⟩
      rw [List.drop_length]
      exact r2
    · refine ⟨I, hn_of rfl (hb_X3_place_0_3 (h1 := by omega) (h3 := by omega) (h4 := t)), ?_, hP, hn_kp.rf⟩
      rw [hn_prune hI hV (by omega) (by rw [← hS.1, ← er]; omega)]
      exact hS
  | succ r ih =>
    intro i d p I b hir hV hB hP hS
    have e13 := hB.2.1.2.2.1
    have e12 := hB.2.1.2.1
    have h8 := hn_n8 hI
    have hl := hn_hl_len w (hn_n s)
    have hd := hn_fr_nd w (hn_n s)
    have bH : ∀ u, u ∈ hn_hl w (hn_n s) → u < 8 := fun u hu => by have := (hn_hl_mem.mp hu).1; omega
    have bF : ∀ u, u ∈ hn_fr w (hn_n s) → u < 8 := fun u hu => by have := (hn_fr_mem.mp hu).1; omega
    have h0 := hB.2.1.2.2.2.2.2.2.2.2
    have er := hB.2.2.2 i (by omega)
    have bs := hn_sf_b hI (w := w) (p := p) bH bF (i := i) (by omega) (by omega) (fun j hj => bH _ (hV.2 j hj))
    have br := hn_rst_b hI bH bF h0 (c := (hn_fr w (hn_n s)).length - i) (by omega)
    by_cases t : hn_sf s w (hn_hl w (hn_n s)) (hn_fr w (hn_n s)) p i + I 55 i < I 48 15
    · have eF := hn_li_get hB.2.1.2.2.2.2.1 (j := i) (by omega)
      have mF := hn_getD_mem (L := hn_fr w (hn_n s)) (j := i) (by omega)
      have vF := bF _ mF
      have r1 := hb_X3_place_0_2 (sx := sx) (sL := sL) (C := hn_ret sx sL (d + r + 4)) (I := I) (k := k) (g := g) (n1 := i) (x2 := hn_sf s w (hn_hl w (hn_n s)) (hn_fr w (hn_n s)) p i) (h1 := by omega) (h3 := by omega) (h4 := t) (h5 := by omega)
      rw [eF] at r1
      obtain ⟨y, q1, q2, q3, q4, q5⟩ := hn_forE (sx := sx) (sL := sL) (C := hn_ret sx sL (d + r + 4)) (fun m (J : Nat → Nat → Int) => hn_nx 30 48 [some (hn_vr 48), some (hn_vi (i : Int)), some (hn_vi (hn_sf s w (hn_hl w (hn_n s)) (hn_fr w (hn_n s)) p i)), some (hn_vi ((((hn_fr w (hn_n s)).getD i 0 : Nat)) : Int)), some (hn_vi (m : Int)), none] [] (hn_m J k g)) (fun m J => hn_PB s w J ∧ hn_PI s w p i J ∧ hn_BS (hn_n s) J (hn_itr m (fun j x => hn_dfs (hn_hl w (hn_n s)) (hn_step s w) ((hn_fr w (hn_n s)).drop (i + 1)) (hn_put p ((hn_fr w (hn_n s)).getD i 0) ((hn_hl w (hn_n s)).getD j 0)) x) b) ∧ hn_kp J I) (hn_hl w (hn_n s)).length (fun m J hm hJ => by
        obtain ⟨jB, jP, jS, jK⟩ := hJ
        have f12 := jB.2.1.2.1
        have eH := hn_li_get jB.2.1.2.2.2.1 (j := m) hm
        have mH := hn_getD_mem hm
        have vH := bH _ mH
        obtain ⟨u57, u57b⟩ := jP.2.2 _ mH
        have u52 : J 52 ((hn_fr w (hn_n s)).getD i 0) = hn_out s ((hn_fr w (hn_n s)).getD i 0) := jB.2.1.1.1 _ (hn_fr_mem.mp mF).1
        have u5 : J 5 ((hn_hl w (hn_n s)).getD m 0) = s (34 + (hn_hl w (hn_n s)).getD m 0) := jB.1.2.2.2.2.2.2.1 _ vH
        have bcap := (hI.2.2.2.2.1 _ vH).2.2.2.1
        have bout := hn_out_b hI vF
        have blf := hn_lf_b hI bF (p := p) (i := i) vH (by omega)
        by_cases rm : s (34 + (hn_hl w (hn_n s)).getD m 0) < hn_lf s (hn_fr w (hn_n s)) p i ((hn_hl w (hn_n s)).getD m 0) + hn_out s ((hn_fr w (hn_n s)).getD i 0)
        · have c3 : hn_ret sx sL (d + r + 4) 32 [hn_vr 48, hn_vi ((((hn_fr w (hn_n s)).getD i 0 : Nat)) : Int), hn_vi (J 53 m)] (hn_m J k g) (some (hn_vi 0)) (hn_m J k g) := by
            rw [eH]
            exact hn_of rfl (hb_X3_enter_0_0 (h1 := by omega) (h2 := by omega) (h3 := by omega) (h4 := by omega))
          refine ⟨J, hb_X3_place_48_0 (h1 := by omega) (h2 := by omega) (c3 := c3) (h4 := rfl) (h5 := by omega), jB, jP, ?_, jK⟩
          rw [hn_itr_up, hn_dfs_id (hn_nd_drop hd (i + 1)) (fun q hq => by
            unfold hn_step
            exact if_neg (hn_noroom hI hV (by omega) mH rm hq))]
          exact jS
        · have kp1 : hn_kp (hn_up (hn_up J 57 ((hn_hl w (hn_n s)).getD m 0) (J 57 ((hn_hl w (hn_n s)).getD m 0) + J 52 ((hn_fr w (hn_n s)).getD i 0))) 56 ((hn_fr w (hn_n s)).getD i 0) (((hn_hl w (hn_n s)).getD m 0 : Nat) : Int)) J := (hn_kp.rf.up (by omega) (by omega)).up (by omega) (by omega)
          have c3 : hn_ret sx sL (d + r + 4) 32 [hn_vr 48, hn_vi ((((hn_fr w (hn_n s)).getD i 0 : Nat)) : Int), hn_vi (J 53 m)] (hn_m J k g) (some (hn_vi 1)) (hn_m (hn_up (hn_up J 57 ((hn_hl w (hn_n s)).getD m 0) (J 57 ((hn_hl w (hn_n s)).getD m 0) + J 52 ((hn_fr w (hn_n s)).getD i 0))) 56 ((hn_fr w (hn_n s)).getD i 0) (((hn_hl w (hn_n s)).getD m 0 : Nat) : Int)) k g) := by
            rw [eH]
            exact hn_of rfl (hb_X3_enter_0_1 (h1 := by omega) (h2 := by omega) (h3 := by omega) (h4 := by omega))
          obtain ⟨J1, hJ1⟩ : ∃ J1, J1 = hn_up (hn_up J 57 ((hn_hl w (hn_n s)).getD m 0) (J 57 ((hn_hl w (hn_n s)).getD m 0) + J 52 ((hn_fr w (hn_n s)).getD i 0))) 56 ((hn_fr w (hn_n s)).getD i 0) (((hn_hl w (hn_n s)).getD m 0 : Nat) : Int) := ⟨_, rfl⟩
          rw [← hJ1] at c3 kp1
          have hne : ∀ u, u ∈ hn_hl w (hn_n s) → u ≠ (hn_fr w (hn_n s)).getD i 0 := fun u hu q => hn_HF u hu (by rw [q]; exact mF)
          have a56 : ∀ j, j < i → J1 56 ((hn_fr w (hn_n s)).getD j 0) = J 56 ((hn_fr w (hn_n s)).getD j 0) := fun j hj => by
            rw [hJ1, hn_up_ne (Or.inr (fun q => by have := hn_nd_inj hd (by omega) (by omega) q; omega)), hn_up_ne (Or.inl (by omega))]
          have B1 := jB.mv kp1
          have P1 : hn_PI s w (hn_put p ((hn_fr w (hn_n s)).getD i 0) ((hn_hl w (hn_n s)).getD m 0)) (i + 1) J1 := by
            refine ⟨fun u hu => ?_, fun j hj => ?_, fun h hh => ?_⟩
            · rw [hJ1, hn_up_ne (Or.inr (hne u hu)), hn_up_ne (Or.inl (by omega))]
              exact jP.1 u hu
            · by_cases e : j = i
              · rw [e, hJ1, hn_up_eq, hn_put_eq]
              · rw [a56 j (by omega), ← hn_put_lt hd (by omega) j (by omega)]
                exact jP.2.1 j (by omega)
            · have uh := jP.2.2 h hh
              rw [hn_lf_put hd (by omega), hJ1, hn_up_ne (Or.inl (by omega))]
              by_cases e : (hn_hl w (hn_n s)).getD m 0 = h
              · subst e
                rw [if_pos rfl, hn_up_eq, u57, u52]
                exact ⟨rfl, by omega⟩
              · rw [if_neg e, hn_up_ne (Or.inr (fun q => e q.symm)), Int.add_zero]
                exact uh
          have c6 := hm_joining (sx := sx) (sL := sL) (k := k) (g := g) (d + r + 3) hI B1.2.1 (p := p) (v := (hn_fr w (hn_n s)).getD i 0) (h := (hn_hl w (hn_n s)).getD m 0) (i := i) (hn_fr_mem.mp mF).1 (hn_hl_mem.mp mH).1 (by omega) (fun j hj => ⟨by rw [a56 j hj]; exact jP.2.1 j hj, (hn_hl_mem.mp (hV.2 j hj)).1⟩)
          have bj := hn_jn_b hI (p := p) vF vH bH bF (i := i) (by omega) (by omega) (fun j hj => bH _ (hV.2 j hj))
          have S1 : hn_BS (hn_n s) J1 (hn_itr m (fun j x => hn_dfs (hn_hl w (hn_n s)) (hn_step s w) ((hn_fr w (hn_n s)).drop (i + 1)) (hn_put p ((hn_fr w (hn_n s)).getD i 0) ((hn_hl w (hn_n s)).getD j 0)) x) b) := jS.mv (by rw [hJ1, hn_up_ne (Or.inl (by omega)), hn_up_ne (Or.inl (by omega))]) (by rw [hJ1, hn_up_ne (Or.inl (by omega)), hn_up_ne (Or.inl (by omega))]) (fun j => by rw [hJ1, hn_up_ne (Or.inl (by omega)), hn_up_ne (Or.inl (by omega))])
          obtain ⟨I3, c8, s3, p3, k3⟩ := ih (i + 1) d (hn_put p ((hn_fr w (hn_n s)).getD i 0) ((hn_hl w (hn_n s)).getD m 0)) J1 _ (by omega) (hV.put hd hn_HF (by omega) mH) B1 P1 S1
          rw [hn_sf_put hd (by omega), Int.natCast_succ] at c8
          rw [← eH] at c6
          have x57 := (p3.2.2 _ mH).1
          have B3 := B1.mv k3
          have x52 : I3 52 ((hn_fr w (hn_n s)).getD i 0) = hn_out s ((hn_fr w (hn_n s)).getD i 0) := B3.2.1.1.1 _ (hn_fr_mem.mp mF).1
          rw [hn_lf_put hd (by omega), if_pos rfl] at x57
          have et : (J 53 m).toNat = (hn_hl w (hn_n s)).getD m 0 := by rw [eH]; omega
          have r := hb_X3_place_48_1 (sx := sx) (sL := sL) (C := hn_ret sx sL (d + r + 4)) (I := J) (k := k) (g := g) (x1 := (i : Int)) (x2 := hn_sf s w (hn_hl w (hn_n s)) (hn_fr w (hn_n s)) p i) (n3 := (hn_fr w (hn_n s)).getD i 0) (n4 := m) (h1 := by omega) (h2 := by omega) (c3 := c3) (h4 := by decide) (h5 := by omega) (c6 := c6) (h7 := by omega) (c8 := c8) (h9 := by omega) (h10 := by omega) (h11 := by rw [et]; omega) (h12 := by omega)
          rw [et, x57, x52] at r
          refine ⟨_, r, B3.mv (hn_kp.rf.up (by omega) (by omega)), ⟨fun u hu => ?_, fun j hj => ?_, fun h hh => ?_⟩, ?_, (k3.tr (kp1.tr jK)).up (by omega) (by omega)⟩
          · rw [hn_up_ne (Or.inl (by omega))]
            exact p3.1 u hu
          · rw [hn_up_ne (Or.inl (by omega)), p3.2.1 j (by omega), ← hn_put_lt hd (by omega) j hj]
          · by_cases e : (hn_hl w (hn_n s)).getD m 0 = h
            · subst e
              rw [hn_up_eq]
              exact ⟨by omega, u57b⟩
            · rw [hn_up_ne (Or.inr (fun q => e q.symm))]
              have := (p3.2.2 h hh).1
              rw [hn_lf_put hd (by omega), if_neg e, Int.add_zero] at this
              exact ⟨this, (jP.2.2 h hh).2⟩
          · exact s3.mv (hn_up_ne (Or.inl (by omega))) (hn_up_ne (Or.inl (by omega))) (fun j => hn_up_ne (Or.inl (by omega)))) I ⟨hB, hP, hS, hn_kp.rf⟩
      have f12 := q2.2.1.2.1
      refine ⟨y, hn_of rfl (r1.tr (q1.tr (hb_X3_place_48_2 (h1 := by omega)))), ?_, q3, q5⟩
      rw [hn_drop_cons (by omega)]
      exact q4
    · refine ⟨I, hn_of rfl (hb_X3_place_0_3 (h1 := by omega) (h3 := by omega) (h4 := t)), ?_, hP, hn_kp.rf⟩
      rw [hn_prune hI hV (by omega) (by rw [← hS.1, ← er]; omega)]
      exact hS
end HX33
