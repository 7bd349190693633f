/-! the model: texts, run, undo, digest -/
theorem hn_MC.sil {I : Nat → Nat → Int} {b : Int} {a : hn_AA} (h : hn_MC I b a) (v : Int) : hn_MC (hn_up I 64 2 v) v a :=
  ⟨fun j hj => by rw [hn_up_ne (Or.inl (by omega))]; exact h.1 j hj, by rw [hn_up_ne (Or.inr (by omega))]; exact h.2.1, fun i x hx j hj => by rw [hn_up_ne (Or.inl (by omega))]; exact h.2.2.1 i x hx j hj, hn_up_eq, by rw [hn_up_ne (Or.inr (by omega))]; exact h.2.2.2.2.1, fun j hj => by rw [hn_up_ne (Or.inl (by omega))]; exact h.2.2.2.2.2 j hj⟩
theorem hn_MC.tx {I : Nat → Nat → Int} {b : Int} {a : hn_AA} (hA : hn_AI a) (h : hn_MC I b a) : hn_ty I a.2.2.1 a.2.2.2 := ⟨h.2.2.2.2.1, hA.2.2.2.1, fun j hj => ⟨h.2.2.2.2.2 j hj, hA.2.2.2.2 j hj⟩⟩
section HX51
variable {sx : Nat → Int} {sL : Nat} {I : Nat → Nat → Int} {k : Nat → Option Nat} {g : Nat → Nat → Int64} {a : hn_AA} {s : hn_S} {b : Int}
theorem hx_cmds0 (d : Nat) (hA : hn_AI a) (h : hn_MC I b a) : ∃ I' m, hn_ret sx sL (d + 5) 157 [hn_vr 64, hn_vi 0] (hn_m I k g) (some (hn_vi m)) (hn_m I' k g) ∧ hn_MC I' b a ∧ hn_fM I' I ∧ ((I' 64 20 = 1 ∧ (hn_txt a).2 = -1) ∨ (I' 64 20 = 0 ∧ I' 64 19 = (hn_txt a).2 ∧ (hn_txt a).2 ≠ -1)) := by
  have f0 : hn_ft (hn_up (hn_up I 64 19 0) 64 20 1) I := (hn_ft.rf.up (Or.inl rfl)).up (Or.inr rfl)
  obtain ⟨J', m, r, f, q⟩ := hx_commands0 (sx := sx) (sL := sL) (k := k) (g := g) (t := a.2.2.1) (ln := a.2.2.2) d 41 0 (hn_up (hn_up I 64 19 0) 64 20 1) 0 (by decide) (by decide) (by decide) (f0.ty (h.tx hA)) (Nat.zero_le _) (by rw [hn_up_ne (Or.inr (by omega)), hn_up_eq]; rfl) hn_up_eq
  exact ⟨J', m, hn_of rfl (hb_X7_commands_0_0.tr r), (f.tr f0).MC h, (f.tr f0).fM, q⟩
theorem hx_textFault (d : Nat) (hA : hn_AI a) (h : hn_MC I b a) : ∃ I', hn_ret sx sL (d + 6) 158 [hn_vr 64] (hn_m I k g) (some (hn_vi (hn_txt a).2)) (hn_m I' k g) ∧ hn_MC I' b a ∧ hn_fM I' I := by
  obtain ⟨I', m, c1, h1, f1, q⟩ := hx_cmds0 (sx := sx) (sL := sL) (k := k) (g := g) d hA h
  refine ⟨I', hn_of rfl ?_, h1, f1⟩
  rcases q with ⟨q1, q2⟩ | ⟨q1, q2, q3⟩
  · rw [q2]
    exact hb_X7_textFault_0_1 (c1 := c1) (h2 := by omega)
  · rw [← q2]
    exact hb_X7_textFault_0_0 (c1 := c1) (h2 := q1)
theorem hx_run (d : Nat) (hA : hn_AI a) (h : hn_MC I 0 a) : ∃ I', hn_ret sx sL (d + 6) 159 [hn_vr 64] (hn_m I k g) (some (hn_vi (hr_run a))) (hn_m I' k g) ∧ hn_MC I' 0 (hn_recM 0 a (hr_run a) (hs_run a)) ∧ hn_fM I' I := by
  obtain ⟨I1, m, c1, h1, f1, q⟩ := hx_cmds0 (sx := sx) (sL := sL) (k := k) (g := g) d hA h
  rcases q with ⟨q1, q2⟩ | ⟨q1, q2, q3⟩
  · have er : hr_run a = ((hn_ex (hn_txt a).1 a.1).1 : Int) := if_pos q2
    have es : hs_run a = (hn_ex (hn_txt a).1 a.1).2 := if_pos q2
    obtain ⟨I2, c3, h2, f2⟩ := hx_records (sx := sx) (sL := sL) (k := k) (g := g) (d + 3) hA.2.2.1 h1
    have h2' : hn_MC I2 0 (a.1, (hn_rcd 0 a).2) := h2
    have h3 := h2'.sil 1
    have hA' : hn_AI (a.1, (hn_rcd 0 a).2) := by
      have z : hn_AI (hn_rec a 0 a.1) := hA.rec hA.1
      have e : hn_rec a 0 a.1 = (a.1, (hn_rcd 0 a).2) := by
        unfold hn_rec hn_rcd
        rw [if_neg (by decide), if_neg (fun q => q rfl)]
      rw [← e]
      exact z
    have f0 : hn_ft (hn_up (hn_up (hn_up I2 64 2 1) 64 19 0) 64 20 1) (hn_up I2 64 2 1) := (hn_ft.rf.up (Or.inl rfl)).up (Or.inr rfl)
    obtain ⟨J', r, M', F'⟩ := hx_commands1 (sx := sx) (sL := sL) (k := k) (g := g) (t := a.2.2.1) (ln := a.2.2.2) (x := (hn_rcd 0 a).2) d 41 0 (hn_up (hn_up (hn_up I2 64 2 1) 64 19 0) 64 20 1) 0 a.1 (by decide) (by decide) hA' (f0.MC h3) (f0.ty (show hn_ty (hn_up I2 64 2 1) a.2.2.1 a.2.2.2 from hn_MC.tx (a := (a.1, (hn_rcd 0 a).2)) hA' h3)) (Nat.zero_le _) (by rw [hn_up_ne (Or.inr (by omega)), hn_up_eq]; rfl) hn_up_eq q2
    rw [Nat.zero_add] at r
    have c4 : hn_ret sx sL (d + 5) 157 [hn_vr 64, hn_vi 1] (hn_m (hn_up I2 64 2 1) k g) _ _ := hn_of rfl (hb_X7_commands_0_0.tr r)
    rw [er, es]
    exact ⟨hn_up J' 64 2 0, hn_of rfl (hb_X7_run_0_1 (c1 := c1) (h2 := by omega) (c3 := c3) (c4 := c4)), hx_rec (by omega) (M'.sil 0), fun c hc j => by rw [hn_up_ne (Or.inl (by omega)), F' c hc, f0.fM c hc, hn_up_ne (Or.inl (by omega)), f2.fM c hc, f1 c hc]⟩
  · have er : hr_run a = -4 := if_neg q3
    refine ⟨I1, hn_of rfl ?_, hx_same h1 (by omega) (if_neg q3), f1⟩
    rw [er]
    exact hb_X7_run_0_0 (c1 := c1) (h2 := q1)
theorem hx_type (d : Nat) (hA : hn_AI a) (h : hn_MC I b a) (c : Int) : ∃ I', hn_ret sx sL (d + 2) 152 [hn_vr 64, hn_vi c] (hn_m I k g) (some (hn_vi (hr_type a c))) (hn_m I' k g) ∧ hn_MC I' b (hn_typ a c) ∧ hn_fM I' I := by
  have c1 := hx_in (sx := sx) (sL := sL) (I := I) (k := k) (g := g) d c 0 255
  have e18 := h.2.2.2.2.1
  have l120 := hA.2.2.2.1
  by_cases e : 0 ≤ c ∧ c ≤ 255
  · rw [if_pos e] at c1
    by_cases q : a.2.2.2 < 120
    · have er : hr_type a c = (a.2.2.2 : Int) + 1 := by rw [hr_type, if_pos e, if_pos q]
      have et : hn_typ a c = (a.1, a.2.1, hn_ups a.2.2.1 a.2.2.2 c, a.2.2.2 + 1) := if_pos ⟨e, q⟩
      have r := hb_X7_type_0_2 (sx := sx) (sL := sL) (c1 := c1) (h2 := by decide) (h3 := by omega) (h4 := by omega) (h5 := by omega)
      rw [e18, Int.toNat_natCast] at r
      rw [er, et]
      refine ⟨_, hn_of rfl r, ⟨fun j hj => by rw [hn_up_ne (Or.inl (by omega)), hn_up_ne (Or.inl (by omega))]; exact h.1 j hj, by rw [hn_up_ne (Or.inr (by omega)), hn_up_ne (Or.inl (by omega))]; exact h.2.1, fun i x hx j hj => by rw [hn_up_ne (Or.inl (by omega)), hn_up_ne (Or.inl (by omega))]; exact h.2.2.1 i x hx j hj, by rw [hn_up_ne (Or.inr (by omega)), hn_up_ne (Or.inl (by omega))]; exact h.2.2.2.1, by rw [hn_up_eq]; rfl, fun j hj => ?_⟩, fun c hc j => by rw [hn_up_ne (Or.inl (by omega)), hn_up_ne (Or.inl (by omega))]⟩
      have hj' : j < a.2.2.2 + 1 := hj
      show _ = hn_ups a.2.2.1 a.2.2.2 c j
      unfold hn_ups
      rw [hn_up_ne (Or.inl (by omega))]
      by_cases y : j = a.2.2.2
      · rw [y, hn_up_eq, if_pos rfl]
      · rw [hn_up_ne (Or.inr y), if_neg y]
        exact h.2.2.2.2.2 j (by omega)
    · have er : hr_type a c = -5 := by rw [hr_type, if_pos e, if_neg q]
      have et : hn_typ a c = a := if_neg (fun x => q x.2)
      rw [er, et]
      exact ⟨I, hn_of rfl (hb_X7_type_0_1 (c1 := c1) (h2 := by decide) (h3 := by omega)), h, hn_fM.rf⟩
  · have er : hr_type a c = -3 := by rw [hr_type, if_neg e]
    have et : hn_typ a c = a := if_neg (fun x => e x.1)
    rw [er, et]
    rw [if_neg e] at c1
    exact ⟨I, hn_of rfl (hb_X7_type_0_0 (c1 := c1) (h2 := rfl)), h, hn_fM.rf⟩
theorem hx_clear (d : Nat) (h : hn_MC I b a) : ∃ I', hn_ret sx sL (d + 1) 153 [hn_vr 64] (hn_m I k g) (some (hn_vi a.2.2.2)) (hn_m I' k g) ∧ hn_MC I' b (hn_clr a) ∧ hn_fM I' I := by
  have r := hb_X7_clearText_0_0 (sx := sx) (sL := sL) (C := hn_ret sx sL d) (I := I) (k := k) (g := g)
  rw [h.2.2.2.2.1] at r
  exact ⟨_, hn_of rfl r, ⟨fun j hj => by rw [hn_up_ne (Or.inl (by omega))]; exact h.1 j hj, by rw [hn_up_ne (Or.inr (by omega))]; exact h.2.1, fun i x hx j hj => by rw [hn_up_ne (Or.inl (by omega))]; exact h.2.2.1 i x hx j hj, by rw [hn_up_ne (Or.inr (by omega))]; exact h.2.2.2.1, hn_up_eq, fun j hj => absurd hj (Nat.not_lt_zero j)⟩, fun c hc j => hn_up_ne (Or.inl (by omega))⟩
theorem hx_undo (d : Nat) (hA : hn_AI a) (h : hn_MC I b a) : ∃ I', hn_ret sx sL (d + 2) 160 [hn_vr 64] (hn_m I k g) (some (hn_vi (hr_undo a))) (hn_m I' k g) ∧ hn_MC I' b (hn_und a) ∧ hn_fM I' I := by
  have e1 := h.2.1
  rcases List.eq_nil_or_concat a.2.1 with e | ⟨L, x, e⟩
  · rw [hn_und_n e, hr_undo, if_pos e]
    exact ⟨I, hn_of rfl (hb_X7_undo_0_0 (h1 := by rw [e1, e]; rfl)), h, hn_fM.rf⟩
  · have e' : a.2.1 = L ++ [x] := by rw [e]; simp
    have hl := hA.2.2.1
    rw [e', List.length_append, List.length_singleton] at hl
    rw [e', List.length_append, List.length_singleton] at e1
    have er : hr_undo a = (L.length : Int) := by
      rw [hr_undo, if_neg (by rw [e']; simp), e', List.length_append, List.length_singleton]
      omega
    obtain ⟨y, c3, p1, p2, p3⟩ := hx_copies (sx := sx) (sL := sL) (k := k) (g := g) (I := I) d (q1 := L.length + 1) (q2 := 0) (by omega) (by omega) (by omega)
    have ea : ((114 * (L.length + 1) : Nat) : Int) = 114 * I 64 1 := by rw [e1]; omega
    rw [ea] at c3
    have y1 : y 64 1 = ((L.length + 1 : Nat) : Int) := by rw [p3 64 (by omega), e1]
    have r := hb_X7_undo_0_1 (sx := sx) (sL := sL) (h1 := by omega) (h2 := by omega) (c3 := c3) (h4 := by omega)
    have ey : y 64 1 - 1 = (L.length : Int) := by omega
    rw [ey] at r
    rw [hn_und_c e', er]
    have hx : hn_HR I (L.length + 1) x := h.2.2.1 L.length x (by rw [e']; simp)
    refine ⟨_, hn_of rfl r, ⟨fun j hj => ?_, hn_up_eq, fun i z hz j hj => ?_, by rw [hn_up_ne (Or.inr (by omega)), p3 64 (by omega)]; exact h.2.2.2.1, by rw [hn_up_ne (Or.inr (by omega)), p3 64 (by omega)]; exact h.2.2.2.2.1, fun j hj => by rw [hn_up_ne (Or.inl (by omega)), p3 75 (by omega)]; exact h.2.2.2.2.2 j hj⟩, fun c hc j => by rw [hn_up_ne (Or.inl (by omega)), p3 c (by omega)]⟩
    · rw [hn_up_ne (Or.inl (by omega))]
      have q := p1 j hj
      rw [Nat.mul_zero, Nat.zero_add] at q
      rw [q]
      exact hx j hj
    · have hil := (List.getElem?_eq_some_iff.mp hz).1
      have hil' : i < L.length := hil
      rw [hn_up_ne (Or.inl (by omega)), p2 _ (by omega)]
      refine h.2.2.1 i z ?_ j hj
      rw [e', List.getElem?_append_left hil']
      exact hz
/-- the digest: only one number is written -/
theorem hx_note (d : Nat) (x : Int64) : ∃ g', hn_ret sx sL (d + 1) 161 [hn_vr 64, hn_vl x] (hn_m I k g) none (hn_m I k g') ∧ g' 64 22 = 31 * g 64 22 + x := ⟨_, hn_of rfl hb_X7_note_0_0, hn_up_eq⟩
theorem hx_digest (d : Nat) (hA : hn_AI a) (h : hn_MC I b a) : ∃ g', hn_ret sx sL (d + 3) 162 [hn_vr 64] (hn_m I k g) (some (hn_vl (hr_digest a.1))) (hn_m I k g') := by
  have hn := h.1.n hA.1
  have h8 := hn_n8 hA.1
  obtain ⟨g0, c0, e0⟩ := hx_note (sx := sx) (sL := sL) (I := I) (k := k) (g := hn_up g 64 22 7) (d + 1) (Int64.ofInt (I 65 0))
  rw [hn_up_eq] at e0
  have e0' : g0 64 22 = 217 + Int64.ofInt (a.1 0) := by
    rw [e0, h.1 0 (by omega)]
    rfl
  obtain ⟨g1, r1, e1⟩ := hn_forE (sx := sx) (sL := sL) (C := hn_ret sx sL (d + 2)) (fun i (G : Nat → Nat → Int64) => hn_nx 162 20 [some (hn_vr 64), some (hn_vi (i : Int)), none] [] (hn_m I k G)) (fun i G => G 64 22 = hn_itr i (hn_dg1 a.1) (217 + Int64.ofInt (a.1 0))) (hn_n a.1) (fun i G hi hG => by
    obtain ⟨G1, q1, f1⟩ := hn_forE (sx := sx) (sL := sL) (C := hn_ret sx sL (d + 2)) (fun w (K : Nat → Nat → Int64) => hn_nx 162 32 [some (hn_vr 64), some (hn_vi (i : Int)), some (hn_vi (w : Int))] [] (hn_m I k K)) (fun w K => K 64 22 = hn_itr w (fun w h => hn_dgs h (hr_prop a.1 i w)) (G 64 22)) 6 (fun w K hw hK => by
      have c2 := hx_propertyOf (sx := sx) (sL := sL) (k := k) (g := K) d hA.1 h.1 hi hw
      obtain ⟨K', c3, e3⟩ := hx_note (sx := sx) (sL := sL) (I := I) (k := k) (g := K) (d + 1) (Int64.ofInt (hr_prop a.1 i w))
      exact ⟨K', hb_X7_digest_32_0 (h1 := by omega) (c2 := c2) (c3 := c3) (h4 := by omega), by rw [e3, hK]; rfl⟩) G rfl
    obtain ⟨G2, c4, e4⟩ := hx_note (sx := sx) (sL := sL) (I := I) (k := k) (g := G1) (d + 1) (Int64.ofInt (I 65 (42 + i)))
    refine ⟨G2, (hb_X7_digest_20_0 (h1 := by omega)).tr (q1.tr (hb_X7_digest_32_1 (h1 := by decide) (h2 := by omega) (h3 := by omega) (c4 := c4) (h5 := by omega))), ?_⟩
    rw [e4, f1, hG, h.1 _ (by omega)]
    rfl) g0 e0'
  have r2 := hb_X7_digest_20_1 (sx := sx) (sL := sL) (C := hn_ret sx sL (d + 2)) (I := I) (k := k) (g := g1) (x1 := (hn_n a.1 : Int)) (h1 := by omega)
  obtain ⟨g2, r3, e2⟩ := hn_forE (sx := sx) (sL := sL) (C := hn_ret sx sL (d + 2)) (fun i (G : Nat → Nat → Int64) => hn_nx 162 77 [some (hn_vr 64), some (hn_vi (i : Int)), none] [] (hn_m I k G)) (fun i G => G 64 22 = hn_itr i (hn_dg2 a.1) (hn_itr (hn_n a.1) (hn_dg1 a.1) (217 + Int64.ofInt (a.1 0)))) (hn_n a.1) (fun i G hi hG => by
    obtain ⟨G1, q1, f1⟩ := hn_forE (sx := sx) (sL := sL) (C := hn_ret sx sL (d + 2)) (fun w (K : Nat → Nat → Int64) => hn_nx 162 89 [some (hn_vr 64), some (hn_vi (i : Int)), some (hn_vi (w : Int))] [] (hn_m I k K)) (fun w K => K 64 22 = hn_itr w (fun b h => hn_dgs h (hr_fl a.1 i b)) (G 64 22)) (hn_n a.1) (fun w K hw hK => by
      have c2 := hx_flowOf (sx := sx) (sL := sL) (k := k) (g := K) (d + 1) h.1 (u := i) (v := w) (by omega) (by omega)
      have ef : hr_fl a.1 i w = hn_fl a.1 i w := by rw [hr_fl, if_pos ⟨by unfold hn_isN; omega, by unfold hn_isN; omega⟩, Int.toNat_natCast, Int.toNat_natCast]
      obtain ⟨K', c3, e3⟩ := hx_note (sx := sx) (sL := sL) (I := I) (k := k) (g := K) (d + 1) (Int64.ofInt (hn_fl a.1 i w))
      refine ⟨K', hb_X7_digest_89_0 (h1 := by omega) (c2 := c2) (c3 := c3) (h4 := by omega), ?_⟩
      rw [e3, hK, hn_itr_up, ef]
      rfl) G rfl
    refine ⟨G1, (hb_X7_digest_77_0 (h1 := by omega)).tr (q1.tr (hb_X7_digest_89_1 (h1 := by omega) (h2 := by omega))), ?_⟩
    rw [f1, hG]
    rfl) g1 e1
  obtain ⟨g3, c5, e5⟩ := hx_note (sx := sx) (sL := sL) (I := I) (k := k) (g := g2) (d + 1) (Int64.ofInt (I 65 1))
  have r4 := hb_X7_digest_77_1 (sx := sx) (sL := sL) (x1 := (hn_n a.1 : Int)) (h1 := by omega) (c2 := c5)
  obtain ⟨g4, r5, e6⟩ := hn_forE (sx := sx) (sL := sL) (C := hn_ret sx sL (d + 2)) (fun i (G : Nat → Nat → Int64) => hn_nx 162 135 [some (hn_vr 64), some (hn_vi ((i + 2 : Nat) : Int)), none] [] (hn_m I k G)) (fun i G => G 64 22 = hn_itr (i + 1) (fun j h => hn_dgs h (a.1 (j + 1))) (hn_itr (hn_n a.1) (hn_dg2 a.1) (hn_itr (hn_n a.1) (hn_dg1 a.1) (217 + Int64.ofInt (a.1 0))))) 8 (fun i G hi hG => by
    obtain ⟨K', c3, e3⟩ := hx_note (sx := sx) (sL := sL) (I := I) (k := k) (g := G) (d + 1) (Int64.ofInt (I 65 (i + 2)))
    refine ⟨K', hb_X7_digest_135_1 (n1 := i + 2) (h1 := by omega) (h2 := by omega) (c3 := c3) (h4 := by omega), ?_⟩
    rw [e3, hG, hn_itr_up (n := i + 1), h.1 _ (by omega)]
    rfl) g3 (by rw [e5, e2, h.1 1 (by omega)]; rfl)
  have r6 := hb_X7_digest_135_0 (sx := sx) (sL := sL) (C := hn_ret sx sL (d + 2)) (I := I) (k := k) (g := g4) (n1 := 8 + 2) (h1 := by decide)
  have e7 : g4 64 22 = hr_digest a.1 := e6
  rw [e7] at r6
  exact ⟨g4, hn_of rfl ((hb_X7_digest_0_0 (c1 := c0)).tr (r1.tr (r2.tr (r3.tr (r4.tr (r5.tr r6))))))⟩
end HX51
