/-! the model's bounds -/
def hn_ub5 (J : Nat → Nat → Int) (t : Int × Int × Int) (x : Int) : Prop := x = t.1 ∧ J 64 15 = t.2.1 ∧ J 64 16 = t.2.2
def hn_fu (J I : Nat → Nat → Int) : Prop := (∀ c, c ≠ 64 → ∀ j, J c j = I c j) ∧ ∀ j, j ≠ 15 → j ≠ 16 → J 64 j = I 64 j
theorem hn_fu.rf {I : Nat → Nat → Int} : hn_fu I I := ⟨fun _ _ _ => rfl, fun _ _ _ => rfl⟩
theorem hn_fu.tr {A B I : Nat → Nat → Int} (h1 : hn_fu A B) (h2 : hn_fu B I) : hn_fu A I := ⟨fun c a j => by rw [h1.1 c a, h2.1 c a], fun j a b => by rw [h1.2 j a b, h2.2 j a b]⟩
theorem hn_fu.MC {J I : Nat → Nat → Int} {b : Int} {a : hn_AA} (h : hn_fu J I) (hM : hn_MC I b a) : hn_MC J b a := hM.mv (fun j => h.1 65 (by omega) j) (fun j hj => h.2 j (by omega) (by omega)) (fun j => h.1 75 (by omega) j)
theorem hn_fu.fM {J I : Nat → Nat → Int} (h : hn_fu J I) : hn_fM J I := fun c hc j => h.1 c (by omega) j
section HX49
variable {sx : Nat → Int} {sL : Nat} {I : Nat → Nat → Int} {k : Nat → Option Nat} {g : Nat → Nat → Int64} {a : hn_AA} {s : hn_S} {b : Int} {w : Nat}
theorem hi_X7_bound_68_0 {C : hn_C} {x1 : Int} {x2 : Int} {x3 : Int} {x4 : Int} {x5 : Int} {n6 : Nat} (h1 : (n6 : Int) < I 65 0) (h2 : hn_and (hn_shr x3 (n6 : Int)) 1 = 0) (h3 : x5 = (-1)) (h4 : hn_R ((n6 : Int) + 1) := by omega) : hn_go sx sL C (hn_nx 151 68 [some (hn_vr 64), some (hn_vi x1), some (hn_vi x2), some (hn_vi x3), some (hn_vi x4), some (hn_vi x5), some (hn_vi (n6 : Int))] [] (hn_m I k g))
    (hn_nx 151 68 [some (hn_vr 64), some (hn_vi x1), some (hn_vi x2), some (hn_vi x3), some (hn_vi x4), some (hn_vi (n6 : Int)), some (hn_vi ((n6 : Int) + 1))] [] (hn_m I k g)) :=
  fun P hc hw ht => hc _ (hc _ (hc _ (hc _ (hc _ (And.intro (show (0 : Int) ≤ 0 ∧ (0 : Int) < 570 by decide) (hc _ (br_t h1 (hc _ (hc _ (hc _ (hc _ (hc _ (hc _ (br_t h2 (hc _ (hc _ (hc _ (br_t h3 (hc _ (hc _ (hc _ (hc (hn_nx 151 126 [some (hn_vr 64), some (hn_vi x1), some (hn_vi x2), some (hn_vi x3), some (hn_vi x4), some (hn_vi (n6 : Int)), some (hn_vi (n6 : Int))] [] (hn_m I k g)) (And.intro h4 (hc (hn_nx 151 129 [some (hn_vr 64), some (hn_vi x1), some (hn_vi x2), some (hn_vi x3), some (hn_vi x4), some (hn_vi (n6 : Int)), some (hn_vi ((n6 : Int) + 1))] [] (hn_m I k g)) (ht)))))))))))))))))))))))))
theorem hi_X7_bound_68_3 {C : hn_C} {x1 : Int} {x2 : Int} {x3 : Int} {x4 : Int} {x5 : Int} {n6 : Nat} (h1 : (n6 : Int) < I 65 0) (h2 : ¬ hn_and (hn_shr x3 (n6 : Int)) 1 = 0) (h3 : hn_R ((n6 : Int) + 1) := by omega) : hn_go sx sL C (hn_nx 151 68 [some (hn_vr 64), some (hn_vi x1), some (hn_vi x2), some (hn_vi x3), some (hn_vi x4), some (hn_vi x5), some (hn_vi (n6 : Int))] [] (hn_m I k g))
    (hn_nx 151 68 [some (hn_vr 64), some (hn_vi x1), some (hn_vi x2), some (hn_vi x3), some (hn_vi x4), some (hn_vi x5), some (hn_vi ((n6 : Int) + 1))] [] (hn_m I k g)) :=
  fun P hc hw ht => hc _ (hc _ (hc _ (hc _ (hc _ (And.intro (show (0 : Int) ≤ 0 ∧ (0 : Int) < 570 by decide) (hc _ (br_t h1 (hc _ (hc _ (hc _ (hc _ (hc _ (hc _ (br_f h2 (hc _ (hc _ (hc (hn_nx 151 126 [some (hn_vr 64), some (hn_vi x1), some (hn_vi x2), some (hn_vi x3), some (hn_vi x4), some (hn_vi x5), some (hn_vi (n6 : Int))] [] (hn_m I k g)) (And.intro h3 (hc (hn_nx 151 129 [some (hn_vr 64), some (hn_vi x1), some (hn_vi x2), some (hn_vi x3), some (hn_vi x4), some (hn_vi x5), some (hn_vi ((n6 : Int) + 1))] [] (hn_m I k g)) (ht))))))))))))))))))))
theorem hx_unitOf (d : Nat) (hI : hn_Iv s) (h : hn_MS I s) {u v : Nat} (hu : u < 8) (hv : v < 8) (hw : w < 256) : ∃ I', hn_ret sx sL (d + 2) 147 [hn_vr 64, hn_vi u, hn_vi v, hn_vi w] (hn_m I k g) (some (hn_vi (hn_fp s w u v (2147483647, I 64 15, I 64 16)).1)) (hn_m I' k g) ∧ hn_ub5 I' (hn_fp s w u v (2147483647, I 64 15, I 64 16)) (hn_fp s w u v (2147483647, I 64 15, I 64 16)).1 ∧ hn_fu I' I := by
  have h8 := hn_n8 hI
  obtain ⟨y, r, p1, p2⟩ := hn_forE (sx := sx) (sL := sL) (C := hn_ret sx sL (d + 1)) (fun i (Z : (Nat → Nat → Int) × (Int × Int × Int)) => hn_nx 147 7 [some (hn_vr 64), some (hn_vi u), some (hn_vi v), some (hn_vi w), some (hn_vi Z.2.1), some (hn_vi (i : Int)), none, none, none] [] (hn_m Z.1 k g)) (fun i Z => (Z.2 = hn_itr i (fun k t => hn_itr (hn_n s) (hn_fp1 s w u v k) t) (2147483647, I 64 15, I 64 16) ∧ hn_ub5 Z.1 Z.2 Z.2.1) ∧ hn_fu Z.1 I) (hn_n s) (fun i Z hi hZ => by
    obtain ⟨⟨z0, z1⟩, z2⟩ := hZ
    have MZ : hn_MS Z.1 s := h.mv (fun j => z2.1 65 (by omega) j)
    have n0 := MZ.n hI
    obtain ⟨Y, r1, ⟨q0, q1⟩, q2⟩ := hn_forE (sx := sx) (sL := sL) (C := hn_ret sx sL (d + 1)) (fun j (Y : (Nat → Nat → Int) × (Int × Int × Int)) => hn_nx 147 21 [some (hn_vr 64), some (hn_vi u), some (hn_vi v), some (hn_vi w), some (hn_vi Y.2.1), some (hn_vi (i : Int)), some (hn_vi (j : Int)), none, none] [] (hn_m Y.1 k g)) (fun j Y => (Y.2 = hn_itr j (hn_fp1 s w u v i) Z.2 ∧ hn_ub5 Y.1 Y.2 Y.2.1) ∧ hn_fu Y.1 I) (hn_n s) (fun j Y hj hY => by
      obtain ⟨⟨y0, y1⟩, y2⟩ := hY
      have MY : hn_MS Y.1 s := h.mv (fun j => y2.1 65 (by omega) j)
      have m0 := MY.n hI
      have e2 : Y.1 65 2 = s 2 := MY 2 (by omega)
      have e3 : Y.1 65 3 = s 3 := MY 3 (by omega)
      have e4 : Y.1 65 4 = s 4 := MY 4 (by omega)
      have c1 := hx_far (sx := sx) (sL := sL) (k := k) (g := g) d hI MY (u := u) (v := i) hu (by omega)
      have c2 := hx_far (sx := sx) (sL := sL) (k := k) (g := g) d hI MY (u := i) (v := j) (by omega) (by omega)
      have c3 := hx_far (sx := sx) (sL := sL) (k := k) (g := g) d hI MY (u := j) (v := v) (by omega) hv
      have ub := hn_uc_b hI hu hv (k := i) (m := j) (by omega) (by omega)
      have eb1 := hn_bit w hw i (by omega)
      have eb2 := hn_bit w hw j (by omega)
      have eU : hn_uc s u v i j = s 2 * hn_gp s u i + s 3 * hn_gp s i j + s 4 * hn_gp s j v := rfl
      by_cases b1 : w.testBit i = true
      · rw [if_pos b1] at eb1
        by_cases b2 : w.testBit j = true
        · rw [if_pos b2] at eb2
          by_cases t : hn_uc s u v i j < Y.2.1
          · have ef : hn_fp1 s w u v i j Y.2 = (hn_uc s u v i j, (i : Int), (j : Int)) := if_pos ⟨⟨b1, b2⟩, t⟩
            have r := hb_X7_unitOf_21_0 (sx := sx) (sL := sL) (x1 := (u : Int)) (x2 := (v : Int)) (x3 := (w : Int)) (x4 := Y.2.1) (x5 := (i : Int)) (x6 := (j : Int)) (h1 := by omega) (h2 := eb1) (h3 := eb2) (c4 := c1) (h5 := by rw [e2]; omega) (c6 := c2) (h7 := by rw [e3]; omega) (h8 := by rw [e2, e3]; omega) (c9 := c3) (h10 := by rw [e4]; omega) (h11 := by rw [e2, e3, e4]; omega) (h12 := by rw [e2, e3, e4]; exact t) (h13 := by omega)
            rw [e2, e3, e4, ← eU] at r
            refine ⟨(hn_up (hn_up Y.1 64 15 (i : Int)) 64 16 (j : Int), (hn_uc s u v i j, (i : Int), (j : Int))), r, ⟨?_, rfl, ?_, ?_⟩, ⟨fun c hc j => ?_, fun q q1 q2 => ?_⟩⟩
            · rw [hn_itr_up, ← y0, ef]
            · show hn_up (hn_up Y.1 64 15 (i : Int)) 64 16 (j : Int) 64 15 = (i : Int)
              rw [hn_up_ne (Or.inr (by omega)), hn_up_eq]
            · show hn_up (hn_up Y.1 64 15 (i : Int)) 64 16 (j : Int) 64 16 = (j : Int)
              rw [hn_up_eq]
            · show hn_up (hn_up Y.1 64 15 (i : Int)) 64 16 _ c j = _
              rw [hn_up_ne (Or.inl hc), hn_up_ne (Or.inl hc), y2.1 c hc]
            · show hn_up (hn_up Y.1 64 15 (i : Int)) 64 16 _ 64 q = _
              rw [hn_up_ne (Or.inr q2), hn_up_ne (Or.inr q1), y2.2 q q1 q2]
          · have ef : hn_fp1 s w u v i j Y.2 = Y.2 := if_neg (fun x => t x.2)
            have r := hb_X7_unitOf_21_1 (sx := sx) (sL := sL) (x1 := (u : Int)) (x2 := (v : Int)) (x3 := (w : Int)) (x4 := Y.2.1) (x5 := (i : Int)) (x6 := (j : Int)) (h1 := by omega) (h2 := eb1) (h3 := eb2) (c4 := c1) (h5 := by rw [e2]; omega) (c6 := c2) (h7 := by rw [e3]; omega) (h8 := by rw [e2, e3]; omega) (c9 := c3) (h10 := by rw [e4]; omega) (h11 := by rw [e2, e3, e4]; omega) (h12 := by rw [e2, e3, e4]; exact t) (h13 := by omega)
            exact ⟨Y, r, ⟨by rw [hn_itr_up, ← y0, ef], y1⟩, y2⟩
        · rw [if_neg b2] at eb2
          have ef : hn_fp1 s w u v i j Y.2 = Y.2 := if_neg (fun x => b2 x.1.2)
          have r := hb_X7_unitOf_21_2 (sx := sx) (sL := sL) (x1 := (u : Int)) (x2 := (v : Int)) (x3 := (w : Int)) (x4 := Y.2.1) (x5 := (i : Int)) (x6 := (j : Int)) (h1 := by omega) (h2 := eb1) (h3 := by rw [eb2]; decide) (c4 := c1) (h5 := by rw [e2]; omega) (c6 := c2) (h7 := by rw [e3]; omega) (h8 := by rw [e2, e3]; omega) (c9 := c3) (h10 := by rw [e4]; omega) (h11 := by rw [e2, e3, e4]; omega) (h12 := by omega)
          exact ⟨Y, r, ⟨by rw [hn_itr_up, ← y0, ef], y1⟩, y2⟩
      · rw [if_neg b1] at eb1
        have ef : hn_fp1 s w u v i j Y.2 = Y.2 := if_neg (fun x => b1 x.1.1)
        have r := hb_X7_unitOf_21_3 (sx := sx) (sL := sL) (x1 := (u : Int)) (x2 := (v : Int)) (x3 := (w : Int)) (x4 := Y.2.1) (x5 := (i : Int)) (x6 := (j : Int)) (h1 := by omega) (h2 := by rw [eb1]; decide) (c3 := c1) (h4 := by rw [e2]; omega) (c5 := c2) (h6 := by rw [e3]; omega) (h7 := by rw [e2, e3]; omega) (c8 := c3) (h9 := by rw [e4]; omega) (h10 := by rw [e2, e3, e4]; omega) (h11 := by omega)
        exact ⟨Y, r, ⟨by rw [hn_itr_up, ← y0, ef], y1⟩, y2⟩) Z ⟨⟨rfl, z1⟩, z2⟩
    have MY : hn_MS Y.1 s := h.mv (fun j => q2.1 65 (by omega) j)
    have m0 := MY.n hI
    exact ⟨Y, (hb_X7_unitOf_7_0 (h1 := by omega)).tr (r1.tr (hb_X7_unitOf_21_4 (h1 := by omega) (h2 := by omega))), ⟨by rw [hn_itr_up, ← z0]; exact q0, q1⟩, q2⟩) (I, (2147483647, I 64 15, I 64 16)) ⟨⟨rfl, rfl, rfl, rfl⟩, hn_fu.rf⟩
  have My : hn_MS y.1 s := h.mv (fun j => p2.1 65 (by omega) j)
  have n0 := My.n hI
  have ep : y.2 = hn_fp s w u v (2147483647, I 64 15, I 64 16) := p1.1
  rw [← ep]
  exact ⟨y.1, hn_of rfl (hb_X7_unitOf_0_0.tr (r.tr (hb_X7_unitOf_7_1 (h1 := by omega)))), p1.2, p2⟩
theorem hx_boundOf (d : Nat) (hI : hn_Iv s) (h : hn_MS I s) (hw : w < 256) (hw2 : 0 < hn_n s → ∃ k, k < hn_n s ∧ w.testBit k = true) : ∃ I', hn_ret sx sL (d + 3) 149 [hn_vr 64, hn_vi w] (hn_m I k g) (some (hn_vi (hn_fc s w))) (hn_m I' k g) ∧ hn_fu I' I := by
  have h8 := hn_n8 hI
  obtain ⟨y, r, p⟩ := hn_forE (sx := sx) (sL := sL) (C := hn_ret sx sL (d + 2)) (fun i (J : Nat → Nat → Int) => hn_nx 149 4 [some (hn_vr 64), some (hn_vi w), some (hn_vi (hn_sm i (fun a => hn_sm (hn_n s) (hn_fc1 s w a)))), some (hn_vi (i : Int)), none] [] (hn_m J k g)) (fun _ J => hn_fu J I) (hn_n s) (fun i J hi j2 => by
    have MJ : hn_MS J s := h.mv (fun j => j2.1 65 (by omega) j)
    have n0 := MJ.n hI
    have b1 : 0 ≤ hn_sm i (fun a => hn_sm (hn_n s) (hn_fc1 s w a)) ∧ hn_sm i (fun a => hn_sm (hn_n s) (hn_fc1 s w a)) ≤ 110880000 * i := hn_sm_b 110880000 (fun a ha => by
      have : 0 ≤ hn_sm (hn_n s) (hn_fc1 s w a) ∧ hn_sm (hn_n s) (hn_fc1 s w a) ≤ 13860000 * hn_n s := hn_sm_b 13860000 (fun b hb => hn_fc1_b hI (a := a) (b := b) (by omega) hb hw2)
      omega)
    obtain ⟨z, r1, q⟩ := hn_forE (sx := sx) (sL := sL) (C := hn_ret sx sL (d + 2)) (fun j (K : Nat → Nat → Int) => hn_nx 149 17 [some (hn_vr 64), some (hn_vi w), some (hn_vi (hn_sm i (fun a => hn_sm (hn_n s) (hn_fc1 s w a)) + hn_sm j (hn_fc1 s w i))), some (hn_vi (i : Int)), some (hn_vi (j : Int))] [] (hn_m K k g)) (fun _ K => hn_fu K I) (hn_n s) (fun j K hj k2 => by
      have MK : hn_MS K s := h.mv (fun j => k2.1 65 (by omega) j)
      have m0 := MK.n hI
      have b2 : 0 ≤ hn_sm j (hn_fc1 s w i) ∧ hn_sm j (hn_fc1 s w i) ≤ 13860000 * j := hn_sm_b 13860000 (fun b hb => hn_fc1_b hI (a := i) (b := b) hi (by omega) hw2)
      have b3 := hn_fc1_b hI (a := i) (b := j) hi hj hw2
      have c2 := hx_flowOf (sx := sx) (sL := sL) (k := k) (g := g) (d + 1) MK (u := i) (v := j) (by omega) (by omega)
      show ∃ z, hn_go sx sL _ (hn_nx 149 17 [some (hn_vr 64), some (hn_vi w), some (hn_vi (hn_sm i (fun a => hn_sm (hn_n s) (hn_fc1 s w a)) + hn_sm j (hn_fc1 s w i))), some (hn_vi (i : Int)), some (hn_vi (j : Int))] [] (hn_m K k g)) (hn_nx 149 17 [some (hn_vr 64), some (hn_vi w), some (hn_vi (hn_sm i (fun a => hn_sm (hn_n s) (hn_fc1 s w a)) + (hn_sm j (hn_fc1 s w i) + hn_fc1 s w i j))), some (hn_vi (i : Int)), some (hn_vi ((j : Int) + 1))] [] (hn_m z k g)) ∧ hn_fu z I
      rw [← Int.add_assoc (hn_sm i (fun a => hn_sm (hn_n s) (hn_fc1 s w a))) (hn_sm j (hn_fc1 s w i)) (hn_fc1 s w i j)]
      by_cases e : 0 < hn_fl s i j
      · obtain ⟨K2, c5, q1, q2⟩ := hx_unitOf (sx := sx) (sL := sL) (k := k) (g := g) d hI MK (u := i) (v := j) (w := w) (by omega) (by omega) hw
        have ev : hn_fc1 s w i j = hn_fl s i j * (hn_fp s w i j (2147483647, K 64 15, K 64 16)).1 := by
          rw [hn_fc1, if_pos e, hn_fp_1]
          have hx := hw2 (by omega)
          have e1 := hn_fp_eq hI (w := w) (a := i) (b := j) (by omega) (by omega) hx (t := (2000000000, 0, 0)) (u := (2147483647, K 64 15, K 64 16)) (show (2000000000 : Int) ≤ 2000000000 by decide) (show (2000000000 : Int) ≤ 2147483647 by decide)
          have e2 : (hn_fp s w i j (2000000000, 0, 0)).1 = hn_ub s w i j 2000000000 := hn_fp_1 s w i j (2000000000, 0, 0)
          have e3 : (hn_fp s w i j (2147483647, K 64 15, K 64 16)).1 = hn_ub s w i j 2147483647 := hn_fp_1 s w i j (2147483647, K 64 15, K 64 16)
          rw [e1] at e2
          show _ = hn_fl s i j * hn_ub s w i j 2147483647
          rw [← e3, e2]
        rw [ev] at b3 ⊢
        exact ⟨K2, hb_X7_boundOf_17_0 (h1 := by omega) (c2 := c2) (h3 := e) (c4 := c2) (c5 := c5) (h6 := by omega) (h7 := by omega) (h8 := by omega), q2.tr k2⟩
      · have ev : hn_fc1 s w i j = 0 := by rw [hn_fc1, if_neg e]
        rw [ev]
        exact ⟨K, hb_X7_boundOf_17_1 (h1 := by omega) (c2 := c2) (h3 := e) (h4 := by omega) (h5 := by omega), k2⟩) J j2
    have Mz : hn_MS z s := h.mv (fun j => q.1 65 (by omega) j)
    have m0 := Mz.n hI
    have r0 : hn_go sx sL (hn_ret sx sL (d + 2)) (hn_nx 149 4 [some (hn_vr 64), some (hn_vi w), some (hn_vi (hn_sm i (fun a => hn_sm (hn_n s) (hn_fc1 s w a)))), some (hn_vi (i : Int)), none] [] (hn_m J k g)) (hn_nx 149 17 [some (hn_vr 64), some (hn_vi w), some (hn_vi (hn_sm i (fun a => hn_sm (hn_n s) (hn_fc1 s w a)) + hn_sm 0 (hn_fc1 s w i))), some (hn_vi (i : Int)), some (hn_vi ((0 : Nat) : Int))] [] (hn_m J k g)) := by
      rw [show hn_sm 0 (hn_fc1 s w i) = 0 from rfl, Int.add_zero]
      exact hb_X7_boundOf_4_0 (h1 := by omega)
    exact ⟨z, r0.tr (r1.tr (hb_X7_boundOf_17_2 (h1 := by omega) (h2 := by omega))), q⟩) I hn_fu.rf
  have My : hn_MS y s := h.mv (fun j => p.1 65 (by omega) j)
  have n0 := My.n hI
  exact ⟨y, hn_of rfl (hb_X7_boundOf_0_0.tr (r.tr (hb_X7_boundOf_4_1 (h1 := by omega)))), p⟩
theorem hx_hubBound (d : Nat) (hA : hn_AI a) (h : hn_MC I b a) : ∃ I', hn_ret sx sL (d + 4) 150 [hn_vr 64] (hn_m I k g) (some (hn_vi (hr_hubB a.1))) (hn_m I' k g) ∧ hn_MC I' b a ∧ hn_fM I' I := by
  have e1 : I 65 1 = a.1 1 := h.1 1 (by omega)
  have h8 := hn_n8 hA.1
  unfold hr_hubB
  by_cases e : a.1 1 = 0
  · rw [if_pos e]
    exact ⟨I, hn_of rfl (hb_X7_hubBound_0_0 (h1 := by omega)), h, hn_fM.rf⟩
  · rw [if_neg e]
    have m256 := hn_m256 hA.1
    have hw := hn_w_ex hA.1 e
    obtain ⟨I1, c1, p1, f1⟩ := hx_takes (sx := sx) (sL := sL) (k := k) (g := g) (d + 2) hA.1 h.1
    obtain ⟨M1, w1⟩ := h.mp f1
    obtain ⟨I2, c2, f2⟩ := hx_boundOf (sx := sx) (sL := sL) (k := k) (g := g) d hA.1 M1.1 m256 (fun _ => hw)
    rw [← M1.1.m hA.1] at c2
    have M2 := f2.MC M1
    have n2 := M2.1.n hA.1
    have bf := hn_fc_b hA.1 (fun _ => hw)
    have r0 := hb_X7_hubBound_0_1 (sx := sx) (sL := sL) (h1 := by omega) (c2 := c1) (c3 := c2)
    have bi : ∀ i, i ≤ hn_n a.1 → 0 ≤ hn_sm i (hn_opf a.1 (hn_hm a.1)) ∧ hn_sm i (hn_opf a.1 (hn_hm a.1)) ≤ 100000 * i := fun i hi => hn_sm_b 100000 (fun v hv => hn_opf_b hA.1 (by omega))
    have r1 := hn_for (sx := sx) (sL := sL) (C := hn_ret sx sL (d + 3)) (fun i => hn_nx 150 29 [some (hn_vr 64), some (hn_vi (hn_fc a.1 (hn_hm a.1) + hn_sm i (hn_opf a.1 (hn_hm a.1)))), some (hn_vi (i : Int))] [] (hn_m I2 k g)) (hn_n a.1) (fun i hi => by
      have b1 := bi i (by omega)
      have b2 := hn_opf_b hA.1 (m := hn_hm a.1) (a := i) (by omega)
      have c := hx_isHub (sx := sx) (sL := sL) (k := k) (g := g) (d + 2) hA.1 M2.1 (v := i) (by omega)
      have e26 : I2 65 (26 + i) = a.1 (26 + i) := M2.1 _ (by omega)
      show hn_go sx sL _ _ (hn_nx 150 29 [some (hn_vr 64), some (hn_vi (hn_fc a.1 (hn_hm a.1) + (hn_sm i (hn_opf a.1 (hn_hm a.1)) + hn_opf a.1 (hn_hm a.1) i))), some (hn_vi ((i + 1 : Nat) : Int))] [] (hn_m I2 k g))
      rw [← Int.add_assoc]
      by_cases q : hn_hub a.1 i = true
      · rw [if_pos q] at c
        have eo : hn_opf a.1 (hn_hm a.1) i = a.1 (26 + i) := if_pos q
        rw [eo] at b2 ⊢
        have r := hb_X7_hubBound_29_1 (sx := sx) (sL := sL) (x1 := hn_fc a.1 (hn_hm a.1) + hn_sm i (hn_opf a.1 (hn_hm a.1))) (n2 := i) (h1 := by omega) (c2 := c) (h3 := by decide) (h4 := by omega) (h5 := by omega) (h6 := by omega) (h7 := by omega)
        rw [e26] at r
        exact r
      · rw [if_neg q] at c
        have eo : hn_opf a.1 (hn_hm a.1) i = 0 := if_neg q
        rw [eo]
        exact hb_X7_hubBound_29_0 (h1 := by omega) (c2 := c) (h3 := by decide) (h4 := by omega) (h5 := by omega))
    rw [show hn_sm 0 (hn_opf a.1 (hn_hm a.1)) = 0 from rfl, Int.add_zero] at r1
    exact ⟨I2, hn_of rfl (r0.tr (r1.tr (hb_X7_hubBound_29_2 (h1 := by omega)))), M2, f2.fM.tr w1⟩
/-- the node with the least opening that is not used yet -/
def hn_mlo (x : Int × Int) : Int := if x.1 = 2000000000 then -1 else x.2
theorem hx_bound (d : Nat) (hA : hn_AI a) (h : hn_MC I b a) (c : Int) : ∃ I', hn_ret sx sL (d + 4) 151 [hn_vr 64, hn_vi c] (hn_m I k g) (some (hn_vi (hr_bound a.1 c))) (hn_m I' k g) ∧ hn_MC I' b a ∧ hn_fM I' I := by
  have hn := h.1.n hA.1
  have h8 := hn_n8 hA.1
  have c1 := hx_in (sx := sx) (sL := sL) (I := I) (k := k) (g := g) (d + 2) c 0 (hn_n a.1)
  rw [← hn] at c1
  unfold hr_bound
  by_cases e : 0 ≤ c ∧ c ≤ (hn_n a.1 : Int)
  · rw [if_pos (by rw [hn]; exact e)] at c1
    rw [if_pos e]
    by_cases n0 : hn_n a.1 = 0
    · have ez : hn_fc a.1 (2 ^ hn_n a.1 - 1) + (hn_so a.1 (hn_soN a.1 c)).2 = 0 := by
        have c0 : c = 0 := by omega
        have e1 : hn_fc a.1 (2 ^ hn_n a.1 - 1) = 0 := by
          unfold hn_fc
          rw [n0]
          rfl
        have e2 : hn_soN a.1 c = 0 := by
          rw [hn_soN, if_pos c0, n0]
          rfl
        rw [e1, e2]
        rfl
      rw [ez]
      exact ⟨I, hn_of rfl (hb_X7_bound_0_1 (c1 := c1) (h2 := by decide) (h3 := by omega)), h, hn_fM.rf⟩
    · have hp : 2 ^ hn_n a.1 ≤ 2 ^ 8 := Nat.pow_le_pow_right (by omega) h8
      have hp0 : 0 < 2 ^ hn_n a.1 := Nat.pow_pos (by omega)
      have ep := hn_pow (hn_n a.1) (by omega)
      have hw2 : 0 < hn_n a.1 → ∃ k, k < hn_n a.1 ∧ (2 ^ hn_n a.1 - 1).testBit k = true := fun q => ⟨0, q, hn_tb q⟩
      obtain ⟨I2, c2, f2⟩ := hx_boundOf (sx := sx) (sL := sL) (k := k) (g := g) d hA.1 h.1 (w := 2 ^ hn_n a.1 - 1) (by omega) hw2
      have e2 : ((2 ^ hn_n a.1 - 1 : Nat) : Int) = hn_shl 1 (I 65 0) - 1 := by rw [hn, ep]; omega
      rw [e2] at c2
      have M2 := f2.MC h
      have n2 := M2.1.n hA.1
      have bf := hn_fc_b hA.1 hw2
      have r0 := hb_X7_bound_0_2 (sx := sx) (sL := sL) (x1 := c) (c1 := c1) (h2 := by decide) (h3 := by omega) (h4 := by have z := e2; omega) (c5 := c2)
      have hsN : hn_soN a.1 c ≤ hn_n a.1 := by
        unfold hn_soN
        by_cases z : c = 0
        · rw [if_pos z]
          omega
        · rw [if_neg z]
          omega
      obtain ⟨F, hF⟩ : ∃ F, F = hn_fc a.1 (2 ^ hn_n a.1 - 1) := ⟨_, rfl⟩
      rw [← hF] at bf r0 ⊢
      have r1 := hn_for (sx := sx) (sL := sL) (C := hn_ret sx sL (d + 3)) (fun i => hn_nx 151 48 [some (hn_vr 64), some (hn_vi c), some (hn_vi (F + (hn_so a.1 i).2)), some (hn_vi ((hn_so a.1 i).1 : Int)), some (hn_vi (i : Int)), none, none] [] (hn_m I2 k g)) (hn_soN a.1 c) (fun i hi => by
        have sb := hn_so_b hA.1 i (by omega)
        obtain ⟨v, hv, hv2, hv3⟩ := hn_so_nx hA.1 i (by omega)
        have b26 : ∀ u, u < hn_n a.1 → 0 ≤ a.1 (26 + u) ∧ a.1 (26 + u) ≤ 100000 := fun u hu => (hA.1.2.2.2.2.1 u (by omega)).2.2.1
        have q0 : hn_go sx sL (hn_ret sx sL (d + 3)) (hn_nx 151 48 [some (hn_vr 64), some (hn_vi c), some (hn_vi (F + (hn_so a.1 i).2)), some (hn_vi ((hn_so a.1 i).1 : Int)), some (hn_vi (i : Int)), none, none] [] (hn_m I2 k g)) (hn_nx 151 68 [some (hn_vr 64), some (hn_vi c), some (hn_vi (F + (hn_so a.1 i).2)), some (hn_vi ((hn_so a.1 i).1 : Int)), some (hn_vi (i : Int)), some (hn_vi (-1)), some (hn_vi 0)] [] (hn_m I2 k g)) := by
          unfold hn_soN at hi
          by_cases z : c = 0
          · rw [if_pos z] at hi
            exact hb_X7_bound_48_0 (h1 := z) (h2 := by omega)
          · rw [if_neg z] at hi
            exact hb_X7_bound_48_2 (h1 := z) (h2 := by omega)
        have q1 := hn_for (sx := sx) (sL := sL) (C := hn_ret sx sL (d + 3)) (fun j => hn_nx 151 68 [some (hn_vr 64), some (hn_vi c), some (hn_vi (F + (hn_so a.1 i).2)), some (hn_vi ((hn_so a.1 i).1 : Int)), some (hn_vi (i : Int)), some (hn_vi (hn_mlo (hn_itr j (hn_mo1 a.1 (hn_so a.1 i).1) (2000000000, 0)))), some (hn_vi (j : Int))] [] (hn_m I2 k g)) (hn_n a.1) (fun j hj => by
          have eb := hn_bit _ sb.1 j (by omega)
          have e26 : I2 65 (26 + j) = a.1 (26 + j) := M2.1 _ (by omega)
          have bj := b26 j hj
          show hn_go sx sL _ _ (hn_nx 151 68 [some (hn_vr 64), some (hn_vi c), some (hn_vi (F + (hn_so a.1 i).2)), some (hn_vi ((hn_so a.1 i).1 : Int)), some (hn_vi (i : Int)), some (hn_vi (hn_mlo (hn_mo1 a.1 (hn_so a.1 i).1 j (hn_itr j (hn_mo1 a.1 (hn_so a.1 i).1) (2000000000, 0))))), some (hn_vi ((j + 1 : Nat) : Int))] [] (hn_m I2 k g))
          by_cases q : (hn_so a.1 i).1.testBit j = true
          · rw [if_pos q] at eb
            have ef : hn_mo1 a.1 (hn_so a.1 i).1 j (hn_itr j (hn_mo1 a.1 (hn_so a.1 i).1) (2000000000, 0)) = hn_itr j (hn_mo1 a.1 (hn_so a.1 i).1) (2000000000, 0) := if_neg (fun x => by rw [q] at x; exact absurd x.1 (by decide))
            rw [ef]
            exact hi_X7_bound_68_3 (h1 := by omega) (h2 := by rw [eb]; decide) (h3 := by omega)
          · rw [if_neg q] at eb
            have q' : (hn_so a.1 i).1.testBit j = false := by simpa using q
            have nj : hn_mlo (a.1 (26 + j), (j : Int)) = (j : Int) := if_neg (by show ¬ a.1 (26 + j) = 2000000000; omega)
            rcases hn_mo_gd hA.1 (hn_so a.1 i).1 j (by omega) with ⟨g1, -⟩ | ⟨u, hu, -, g1⟩
            · rw [g1]
              have ef : hn_mo1 a.1 (hn_so a.1 i).1 j (2000000000, 0) = (a.1 (26 + j), (j : Int)) := if_pos ⟨q', by show a.1 (26 + j) < 2000000000; omega⟩
              rw [ef, nj]
              exact hi_X7_bound_68_0 (h1 := by omega) (h2 := eb) (h3 := rfl) (h4 := by omega)
            · rw [g1]
              have bu := b26 u (by omega)
              have nu : hn_mlo (a.1 (26 + u), (u : Int)) = (u : Int) := if_neg (by show ¬ a.1 (26 + u) = 2000000000; omega)
              have e26u : I2 65 (26 + u) = a.1 (26 + u) := M2.1 _ (by omega)
              by_cases t : a.1 (26 + j) < a.1 (26 + u)
              · have ef : hn_mo1 a.1 (hn_so a.1 i).1 j (a.1 (26 + u), (u : Int)) = (a.1 (26 + j), (j : Int)) := if_pos ⟨q', t⟩
                rw [ef, nj, nu]
                exact hb_X7_bound_68_1 (h1 := by omega) (h2 := eb) (h3 := by omega) (h4 := by omega) (h5 := by omega) (h6 := by omega) (h7 := by omega) (h8 := by omega) (h9 := by omega)
              · have ef : hn_mo1 a.1 (hn_so a.1 i).1 j (a.1 (26 + u), (u : Int)) = (a.1 (26 + u), (u : Int)) := if_neg (fun x => t x.2)
                rw [ef, nu]
                exact hb_X7_bound_68_2 (h1 := by omega) (h2 := eb) (h3 := by omega) (h4 := by omega) (h5 := by omega) (h6 := by omega) (h7 := by omega) (h8 := by omega) (h9 := by omega))
        have em : hn_itr (hn_n a.1) (hn_mo1 a.1 (hn_so a.1 i).1) (2000000000, 0) = (a.1 (26 + v), (v : Int)) := hv3
        have bv := b26 v hv
        have nv : hn_mlo (a.1 (26 + v), (v : Int)) = (v : Int) := if_neg (by show ¬ a.1 (26 + v) = 2000000000; omega)
        rw [em, nv] at q1
        have e26 : I2 65 (26 + v) = a.1 (26 + v) := M2.1 _ (by omega)
        have q2 := hb_X7_bound_68_4 (sx := sx) (sL := sL) (C := hn_ret sx sL (d + 3)) (I := I2) (k := k) (g := g) (x1 := c) (x2 := F + (hn_so a.1 i).2) (x3 := ((hn_so a.1 i).1 : Int)) (x4 := (i : Int)) (n5 := v) (n6 := hn_n a.1) (h1 := by omega) (h2 := by omega) (h3 := by omega) (h4 := by omega) (h5 := by omega)
        rw [hn_orb _ sb.1 v (by omega), e26, Int.add_assoc] at q2
        have es : hn_so a.1 (i + 1) = ((hn_so a.1 i).1 ||| 2 ^ v, (hn_so a.1 i).2 + a.1 (26 + v)) := by
          show hn_so1 a.1 i (hn_so a.1 i) = _
          unfold hn_so1
          rw [hv3]
          show ((hn_so a.1 i).1 ||| 2 ^ (v : Int).toNat, _) = _
          rw [Int.toNat_natCast]
        show hn_go sx sL _ _ (hn_nx 151 48 [some (hn_vr 64), some (hn_vi c), some (hn_vi (F + (hn_so a.1 (i + 1)).2)), some (hn_vi ((hn_so a.1 (i + 1)).1 : Int)), some (hn_vi ((i + 1 : Nat) : Int)), none, none] [] (hn_m I2 k g))
        rw [es]
        exact q0.tr (q1.tr q2))
      have r1' : hn_go sx sL (hn_ret sx sL (d + 3)) (hn_nx 151 48 [some (hn_vr 64), some (hn_vi c), some (hn_vi F), some (hn_vi 0), some (hn_vi 0), none, none] [] (hn_m I2 k g)) (hn_nx 151 48 [some (hn_vr 64), some (hn_vi c), some (hn_vi (F + (hn_so a.1 (hn_soN a.1 c)).2)), some (hn_vi ((hn_so a.1 (hn_soN a.1 c)).1 : Int)), some (hn_vi ((hn_soN a.1 c : Nat) : Int)), none, none] [] (hn_m I2 k g)) := by
        have e0 : F + (hn_so a.1 0).2 = F := Int.add_zero F
        have z : hn_go sx sL (hn_ret sx sL (d + 3)) (hn_nx 151 48 [some (hn_vr 64), some (hn_vi c), some (hn_vi (F + (hn_so a.1 0).2)), some (hn_vi 0), some (hn_vi 0), none, none] [] (hn_m I2 k g)) (hn_nx 151 48 [some (hn_vr 64), some (hn_vi c), some (hn_vi (F + (hn_so a.1 (hn_soN a.1 c)).2)), some (hn_vi ((hn_so a.1 (hn_soN a.1 c)).1 : Int)), some (hn_vi ((hn_soN a.1 c : Nat) : Int)), none, none] [] (hn_m I2 k g)) := r1
        rw [e0] at z
        exact z
      refine ⟨I2, hn_of rfl (r0.tr (r1'.tr ?_)), M2, f2.fM⟩
      by_cases z : c = 0
      · have e3 : hn_soN a.1 c = 1 := by
          rw [hn_soN, if_pos z]
          omega
        exact hb_X7_bound_48_1 (h1 := z) (h2 := by rw [e3]; decide)
      · have e3 : hn_soN a.1 c = c.toNat := by rw [hn_soN, if_neg z]
        exact hb_X7_bound_48_3 (h1 := z) (h2 := by rw [e3]; omega)
  · rw [if_neg (by rw [hn]; exact e)] at c1
    rw [if_neg e]
    exact ⟨I, hn_of rfl (hb_X7_bound_0_0 (c1 := c1) (h2 := by decide)), h, hn_fM.rf⟩
theorem hx_cheapest (d : Nat) (hA : hn_AI a) (h : hn_MC I b a) (x y z : Int) : ∃ I', hn_ret sx sL (d + 3) 148 [hn_vr 64, hn_vi x, hn_vi y, hn_vi z] (hn_m I k g) (some (hn_vi (hr_cheap a.1 x y z))) (hn_m I' k g) ∧ hn_MC I' b a ∧ hn_fM I' I := by
  have h8 := hn_n8 hA.1
  have e1 : I 65 1 = a.1 1 := h.1 1 (by omega)
  have c1 := hx_isNode (sx := sx) (sL := sL) (k := k) (g := g) d hA.1 h.1 x
  have c2 := hx_isNode (sx := sx) (sL := sL) (k := k) (g := g) d hA.1 h.1 y
  have c3 := hx_in (sx := sx) (sL := sL) (I := I) (k := k) (g := g) (d + 1) z 0 2
  unfold hr_cheap
  by_cases h1 : hn_isN a.1 x
  · rw [if_pos h1] at c1
    by_cases h2 : hn_isN a.1 y
    · rw [if_pos h2] at c2
      rw [if_pos ⟨h1, h2⟩]
      by_cases h3 : 0 ≤ z ∧ z ≤ 2
      · rw [if_pos h3] at c3 ⊢
        by_cases e : a.1 1 = 0
        · rw [if_pos e]
          exact ⟨I, hn_of rfl (hb_X7_cheapest_0_3 (c1 := c1) (h2 := by decide) (c3 := c2) (h4 := by decide) (c5 := c3) (h6 := by decide) (h7 := by omega)), h, hn_fM.rf⟩
        · rw [if_neg e]
          have m256 := hn_m256 hA.1
          have hw := hn_w_ex hA.1 e
          obtain ⟨u, rfl⟩ : ∃ u : Nat, x = u := ⟨x.toNat, by omega⟩
          obtain ⟨v, rfl⟩ : ∃ v : Nat, y = v := ⟨y.toNat, by omega⟩
          rw [Int.toNat_natCast, Int.toNat_natCast]
          obtain ⟨I4, c4, p4, f4⟩ := hx_unitOf (sx := sx) (sL := sL) (k := k) (g := g) d hA.1 h.1 (u := u) (v := v) (by omega) (by omega) m256
          rw [hn_fp_eq hA.1 (by omega) (by omega) hw (u := (2147483647, 0, 0)) (show (2000000000 : Int) ≤ 2147483647 by decide) (show (2000000000 : Int) ≤ 2147483647 by decide)] at p4 c4
          rw [← h.1.m hA.1] at c4
          have M4 := f4.MC h
          refine ⟨I4, hn_of rfl ?_, M4, f4.fM⟩
          unfold hn_ch
          by_cases w0 : z = 0
          · rw [if_pos w0]
            exact hb_X7_cheapest_0_4 (c1 := c1) (h2 := by decide) (c3 := c2) (h4 := by decide) (c5 := c3) (h6 := by decide) (h7 := by omega) (c8 := by rw [h.1.m hA.1] at c4 ⊢; exact c4) (h9 := w0)
          rw [if_neg w0]
          by_cases w1 : z = 1
          · rw [if_pos w1, ← p4.2.1]
            exact hb_X7_cheapest_0_5 (c1 := c1) (h2 := by decide) (c3 := c2) (h4 := by decide) (c5 := c3) (h6 := by decide) (h7 := by omega) (c8 := c4) (h9 := w0) (h10 := w1)
          rw [if_neg w1, ← p4.2.2]
          exact hb_X7_cheapest_0_6 (c1 := c1) (h2 := by decide) (c3 := c2) (h4 := by decide) (c5 := c3) (h6 := by decide) (h7 := by omega) (c8 := c4) (h9 := w0) (h10 := w1)
      · rw [if_neg h3] at c3 ⊢
        exact ⟨I, hn_of rfl (hb_X7_cheapest_0_2 (c1 := c1) (h2 := by decide) (c3 := c2) (h4 := by decide) (c5 := c3) (h6 := by decide)), h, hn_fM.rf⟩
    · rw [if_neg h2] at c2
      rw [if_neg (fun q => h2 q.2)]
      exact ⟨I, hn_of rfl (hb_X7_cheapest_0_1 (c1 := c1) (h2 := by decide) (c3 := c2) (h4 := by decide)), h, hn_fM.rf⟩
  · rw [if_neg h1] at c1
    rw [if_neg (fun q => h1 q.1)]
    exact ⟨I, hn_of rfl (hb_X7_cheapest_0_0 (c1 := c1) (h2 := by decide)), h, hn_fM.rf⟩
end HX49
