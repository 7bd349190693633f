/-! the model: what it tells of its row -/
def hn_fM (J I : Nat → Nat → Int) : Prop := ∀ c, c < 64 → ∀ j, J c j = I c j
theorem hn_fM.rf {I : Nat → Nat → Int} : hn_fM I I := fun _ _ _ => rfl
theorem hn_fM.tr {A B I : Nat → Nat → Int} (h1 : hn_fM A B) (h2 : hn_fM B I) : hn_fM A I := fun c a j => by rw [h1 c a, h2 c a]
theorem hn_fx.fM {J I : Nat → Nat → Int} (h : hn_fx J I) : hn_fM J I := fun c hc j => h.1 c (by omega) (by omega) j
section HX44
variable {sx : Nat → Int} {sL : Nat} {I : Nat → Nat → Int} {k : Nat → Option Nat} {g : Nat → Nat → Int64} {a : hn_AA} {s : hn_S} {b : Int} {p : Nat → Int}
theorem hn_MS.mv {J : Nat → Nat → Int} (h : hn_MS I s) (e : ∀ j, J 65 j = I 65 j) : hn_MS J s := fun j hj => by rw [e]; exact h j hj
theorem hn_MC.mp (h : hn_MC I b a) {J : Nat → Nat → Int} (e : ∀ c, c ≠ 66 → ∀ j, J c j = I c j) : hn_MC J b a ∧ hn_fM J I :=
  ⟨h.mv (e 65 (by omega)) (fun j _ => e 64 (by omega) j) (e 75 (by omega)), fun c hc j => e c (by omega) j⟩
theorem hx_propertyOf (d : Nat) (hI : hn_Iv s) (h : hn_MS I s) {v w : Nat} (hv : v < hn_n s) (hw : w < 6) : hn_ret sx sL (d + 2) 110 [hn_vr 64, hn_vi v, hn_vi w] (hn_m I k g) (some (hn_vi (hr_prop s v w))) (hn_m I k g) := by
  have h8 := hn_n8 hI
  have hn := h.n hI
  have e0 : hr_prop s v w = if (w : Int) = 0 then s (10 + v) else if (w : Int) = 1 then s (18 + v) else if (w : Int) = 2 then s (26 + v) else if (w : Int) = 3 then s (34 + v) else if (w : Int) = 4 then hn_out s v else if (w : Int) = 5 then hn_inn s v else -3 := by
    rw [hr_prop, if_pos (by unfold hn_isN; omega), Int.toNat_natCast]
  by_cases e : w < 4
  · have r := hb_X7_propertyOf_0_0 (sx := sx) (sL := sL) (C := hn_ret sx sL (d + 1)) (I := I) (k := k) (g := g) (n1 := v) (n2 := w) (h1 := by omega) (h2 := by omega) (h3 := by omega) (h4 := by omega) (h5 := by omega)
    rw [h _ (by omega)] at r
    have e1 : hr_prop s v w = s (10 + 8 * w + v) := by
      rw [e0]
      match w, e with
      | 0, _ => exact if_pos rfl
      | 1, _ => exact (if_neg (by decide)).trans (if_pos rfl)
      | 2, _ => exact (if_neg (by decide)).trans ((if_neg (by decide)).trans (if_pos rfl))
      | 3, _ => exact (if_neg (by decide)).trans ((if_neg (by decide)).trans ((if_neg (by decide)).trans (if_pos rfl)))
    rw [e1]
    exact hn_of rfl r
  · have r0 := hb_X7_propertyOf_0_1 (sx := sx) (sL := sL) (C := hn_ret sx sL (d + 1)) (I := I) (k := k) (g := g) (n1 := v) (n2 := w) (h1 := by omega)
    by_cases e4 : w = 4
    · subst e4
      have e1 : hr_prop s v ((4 : Nat) : Int) = hn_out s v := e0.trans ((if_neg (by decide)).trans ((if_neg (by decide)).trans ((if_neg (by decide)).trans ((if_neg (by decide)).trans (if_pos rfl)))))
      rw [e1]
      have r1 := hn_for (sx := sx) (sL := sL) (C := hn_ret sx sL (d + 1)) (fun i => hn_nx 110 25 [some (hn_vr 64), some (hn_vi v), some (hn_vi 4), some (hn_vi (hn_sm i (fun b => hn_fl s v b))), some (hn_vi (i : Int))] [] (hn_m I k g)) (hn_n s) (fun i hi => by
        have b1 := hn_fl_b hI (a := v) (b := i) (by omega) (by omega)
        have b2 : 0 ≤ hn_sm i (fun b => hn_fl s v b) ∧ hn_sm i (fun b => hn_fl s v b) ≤ 8 * 100 := hn_sm_b8 (n := i) (c := 100) (by omega) (by omega) (fun j hj => hn_fl_b hI (a := v) (b := j) (by omega) (by omega))
        have r := hb_X7_propertyOf_25_0 (sx := sx) (sL := sL) (x1 := (v : Int)) (x2 := 4) (x3 := hn_sm i (fun b => hn_fl s v b)) (x4 := (i : Int)) (h1 := by omega) (h2 := rfl) (c3 := hx_flowOf (sx := sx) (sL := sL) (k := k) (g := g) d h (u := v) (v := i) (by omega) (by omega)) (h4 := by omega) (h5 := by omega)
        exact r)
      exact hn_of rfl (r0.tr (r1.tr (hb_X7_propertyOf_25_2 (h1 := by omega))))
    · have e5 : w = 5 := by omega
      subst e5
      have e1 : hr_prop s v ((5 : Nat) : Int) = hn_inn s v := e0.trans ((if_neg (by decide)).trans ((if_neg (by decide)).trans ((if_neg (by decide)).trans ((if_neg (by decide)).trans ((if_neg (by decide)).trans (if_pos rfl))))))
      rw [e1]
      have r1 := hn_for (sx := sx) (sL := sL) (C := hn_ret sx sL (d + 1)) (fun i => hn_nx 110 25 [some (hn_vr 64), some (hn_vi v), some (hn_vi 5), some (hn_vi (hn_sm i (fun b => hn_fl s b v))), some (hn_vi (i : Int))] [] (hn_m I k g)) (hn_n s) (fun i hi => by
        have b1 := hn_fl_b hI (a := i) (b := v) (by omega) (by omega)
        have b2 : 0 ≤ hn_sm i (fun b => hn_fl s b v) ∧ hn_sm i (fun b => hn_fl s b v) ≤ 8 * 100 := hn_sm_b8 (n := i) (c := 100) (by omega) (by omega) (fun j hj => hn_fl_b hI (a := j) (b := v) (by omega) (by omega))
        have r := hb_X7_propertyOf_25_1 (sx := sx) (sL := sL) (x1 := (v : Int)) (x2 := 5) (x3 := hn_sm i (fun b => hn_fl s b v)) (x4 := (i : Int)) (h1 := by omega) (h2 := by decide) (c3 := hx_flowOf (sx := sx) (sL := sL) (k := k) (g := g) d h (u := i) (v := v) (by omega) (by omega)) (h4 := by omega) (h5 := by omega)
        exact r)
      exact hn_of rfl (r0.tr (r1.tr (hb_X7_propertyOf_25_2 (h1 := by omega))))
theorem hx_takes (d : Nat) (hI : hn_Iv s) (h : hn_MS I s) : ∃ I', hn_ret sx sL (d + 1) 114 [hn_vr 64] (hn_m I k g) none (hn_m I' k g) ∧ (∀ v, v < hn_n s → I' 66 v = hn_ho s v) ∧ ∀ c, c ≠ 66 → ∀ j, I' c j = I c j := by
  have h8 := hn_n8 hI
  have hn := h.n hI
  obtain ⟨y, r, p1, p2⟩ := hn_forE (sx := sx) (sL := sL) (C := hn_ret sx sL d) (fun i (J : Nat → Nat → Int) => hn_nx 114 2 [some (hn_vr 64), some (hn_vi (i : Int))] [] (hn_m J k g)) (fun i J => (∀ v, v < i → J 66 v = hn_ho s v) ∧ ∀ c, c ≠ 66 → ∀ j, J c j = I c j) (hn_n s) (fun i J hi hJ => by
    obtain ⟨j1, j2⟩ := hJ
    have e0 : J 65 0 = (hn_n s : Int) := by rw [j2 65 (by omega), hn]
    refine ⟨_, hb_X7_takesPresent_2_0 (h1 := by omega) (h2 := by omega) (h3 := by omega) (h4 := by omega) (h5 := by omega), fun v hv => ?_, fun c hc j => by rw [hn_up_ne (Or.inl hc), j2 c hc]⟩
    by_cases e : v = i
    · rw [e, hn_up_eq, j2 65 (by omega)]
      exact h _ (by omega)
    · rw [hn_up_ne (Or.inr e)]
      exact j1 v (by omega)) I ⟨fun v hv => absurd hv (by omega), fun _ _ _ => rfl⟩
  exact ⟨y, hn_of rfl (hb_X7_takesPresent_0_0.tr (r.tr (hb_X7_takesPresent_2_1 (h1 := by rw [p2 65 (by omega)]; omega)))), p1, p2⟩
theorem hx_loadOf (d : Nat) (hI : hn_Iv s) (h : hn_MS I s) (hp : ∀ v, v < hn_n s → I 66 v = p v) (v : Nat) : hn_ret sx sL (d + 2) 115 [hn_vr 64, hn_vi v] (hn_m I k g) (some (hn_vi (hn_ld s p v))) (hn_m I k g) := by
  have h8 := hn_n8 hI
  have hn := h.n hI
  refine hn_of rfl (hb_X7_loadOf_0_0.tr ((hn_for (fun i => hn_nx 115 4 [some (hn_vr 64), some (hn_vi v), some (hn_vi (hn_sm i (fun a => if p a = v then hn_out s a else 0))), some (hn_vi (i : Int)), none] [] (hn_m I k g)) (hn_n s) (fun i hi => ?_)).tr (hb_X7_loadOf_4_1 (h1 := by omega))))
  have bs := hn_ldi_b hI (p := p) (k := v) (i := i) (by omega)
  have r0 := hb_X7_loadOf_4_0 (sx := sx) (sL := sL) (C := hn_ret sx sL (d + 1)) (I := I) (k := k) (g := g) (x1 := (v : Int)) (x2 := hn_sm i (fun a => if p a = v then hn_out s a else 0)) (x3 := (i : Int)) (h1 := by omega)
  show hn_go sx sL _ _ (hn_nx 115 4 [some (hn_vr 64), some (hn_vi v), some (hn_vi (hn_sm i (fun a => if p a = v then hn_out s a else 0) + if p i = v then hn_out s i else 0)), some (hn_vi ((i + 1 : Nat) : Int)), none] [] (hn_m I k g))
  by_cases e : p i = v
  · rw [if_pos e]
    have r1 := hn_for (sx := sx) (sL := sL) (C := hn_ret sx sL (d + 1)) (fun j => hn_nx 115 17 [some (hn_vr 64), some (hn_vi v), some (hn_vi (hn_sm i (fun a => if p a = v then hn_out s a else 0) + hn_sm j (fun b => hn_fl s i b))), some (hn_vi (i : Int)), some (hn_vi (j : Int))] [] (hn_m I k g)) (hn_n s) (fun j hj => by
      have b1 := hn_fl_b hI (a := i) (b := j) (by omega) (by omega)
      have b2 : 0 ≤ hn_sm j (fun b => hn_fl s i b) ∧ hn_sm j (fun b => hn_fl s i b) ≤ 8 * 100 := hn_sm_b8 (n := j) (c := 100) (by omega) (by omega) (fun q hq => hn_fl_b hI (a := i) (b := q) (by omega) (by omega))
      have r := hb_X7_loadOf_17_0 (sx := sx) (sL := sL) (x1 := (v : Int)) (x2 := hn_sm i (fun a => if p a = v then hn_out s a else 0) + hn_sm j (fun b => hn_fl s i b)) (h1 := by omega) (h2 := by omega) (h3 := by rw [hp i hi]; exact e) (c4 := hx_flowOf (sx := sx) (sL := sL) (k := k) (g := g) d h (u := i) (v := j) (by omega) (by omega)) (h5 := by omega) (h6 := by omega)
      rw [Int.add_assoc] at r
      exact r)
    have r0' : hn_go sx sL (hn_ret sx sL (d + 1)) (hn_nx 115 4 [some (hn_vr 64), some (hn_vi v), some (hn_vi (hn_sm i (fun a => if p a = v then hn_out s a else 0))), some (hn_vi (i : Int)), none] [] (hn_m I k g)) (hn_nx 115 17 [some (hn_vr 64), some (hn_vi v), some (hn_vi (hn_sm i (fun a => if p a = v then hn_out s a else 0) + hn_sm 0 (fun b => hn_fl s i b))), some (hn_vi (i : Int)), some (hn_vi ((0 : Nat) : Int))] [] (hn_m I k g)) := by
      rw [show hn_sm 0 (fun b => hn_fl s i b) = 0 from rfl, Int.add_zero]
      exact r0
    exact r0'.tr (r1.tr (hb_X7_loadOf_17_2 (h1 := by omega) (h2 := by omega)))
  · rw [if_neg e, Int.add_zero]
    exact r0.tr (hb_X7_loadOf_17_1 (h1 := by omega) (h2 := by omega) (h3 := by rw [hp i hi]; exact e) (h4 := by omega))
theorem hx_trunkOf (d : Nat) (hI : hn_Iv s) (h : hn_MS I s) (hp : ∀ v, v < hn_n s → I 66 v = p v) (u v : Nat) : hn_ret sx sL (d + 2) 116 [hn_vr 64, hn_vi u, hn_vi v] (hn_m I k g) (some (hn_vi (hn_tr s p u v))) (hn_m I k g) := by
  have h8 := hn_n8 hI
  have hn := h.n hI
  refine hn_of rfl (hb_X7_trunkOf_0_0.tr ((hn_for (fun i => hn_nx 116 5 [some (hn_vr 64), some (hn_vi u), some (hn_vi v), some (hn_vi (hn_sm i (fun a => if p a = u then hn_tw s p a v (hn_n s) else 0))), some (hn_vi (i : Int)), none] [] (hn_m I k g)) (hn_n s) (fun i hi => ?_)).tr (hb_X7_trunkOf_5_1 (h1 := by omega))))
  have bs := hn_tri_b hI (p := p) (k := u) (m := v) (i := i) (by omega)
  have r0 := hb_X7_trunkOf_5_0 (sx := sx) (sL := sL) (C := hn_ret sx sL (d + 1)) (I := I) (k := k) (g := g) (x1 := (u : Int)) (x2 := (v : Int)) (x3 := hn_sm i (fun a => if p a = u then hn_tw s p a v (hn_n s) else 0)) (x4 := (i : Int)) (h1 := by omega)
  show hn_go sx sL _ _ (hn_nx 116 5 [some (hn_vr 64), some (hn_vi u), some (hn_vi v), some (hn_vi (hn_sm i (fun a => if p a = u then hn_tw s p a v (hn_n s) else 0) + if p i = u then hn_tw s p i v (hn_n s) else 0)), some (hn_vi ((i + 1 : Nat) : Int)), none] [] (hn_m I k g))
  by_cases e : p i = u
  · rw [if_pos e]
    have r1 := hn_for (sx := sx) (sL := sL) (C := hn_ret sx sL (d + 1)) (fun j => hn_nx 116 19 [some (hn_vr 64), some (hn_vi u), some (hn_vi v), some (hn_vi (hn_sm i (fun a => if p a = u then hn_tw s p a v (hn_n s) else 0) + hn_tw s p i v j)), some (hn_vi (i : Int)), some (hn_vi (j : Int))] [] (hn_m I k g)) (hn_n s) (fun j hj => by
      have b1 := hn_fl_b hI (a := i) (b := j) (by omega) (by omega)
      have b2 := hn_tw_b hI (p := p) (a := i) (m := v) (i := j) (by omega) (by omega)
      show hn_go sx sL _ _ (hn_nx 116 19 [some (hn_vr 64), some (hn_vi u), some (hn_vi v), some (hn_vi (hn_sm i (fun a => if p a = u then hn_tw s p a v (hn_n s) else 0) + (hn_tw s p i v j + if p j = v then hn_fl s i j else 0))), some (hn_vi (i : Int)), some (hn_vi ((j + 1 : Nat) : Int))] [] (hn_m I k g))
      rw [← Int.add_assoc]
      by_cases e2 : p j = v
      · rw [if_pos e2]
        exact hb_X7_trunkOf_19_0 (h1 := by omega) (h2 := by omega) (h3 := by rw [hp i hi]; exact e) (h4 := by omega) (h5 := by rw [hp j hj]; exact e2) (c6 := hx_flowOf (sx := sx) (sL := sL) (k := k) (g := g) d h (u := i) (v := j) (by omega) (by omega)) (h7 := by omega) (h8 := by omega)
      · rw [if_neg e2]
        exact hb_X7_trunkOf_19_1 (h1 := by omega) (h2 := by omega) (h3 := by rw [hp i hi]; exact e) (h4 := by omega) (h5 := by rw [hp j hj]; exact e2) (h6 := by omega) (h7 := by omega))
    have r0' : hn_go sx sL (hn_ret sx sL (d + 1)) (hn_nx 116 5 [some (hn_vr 64), some (hn_vi u), some (hn_vi v), some (hn_vi (hn_sm i (fun a => if p a = u then hn_tw s p a v (hn_n s) else 0))), some (hn_vi (i : Int)), none] [] (hn_m I k g)) (hn_nx 116 19 [some (hn_vr 64), some (hn_vi u), some (hn_vi v), some (hn_vi (hn_sm i (fun a => if p a = u then hn_tw s p a v (hn_n s) else 0) + hn_tw s p i v 0)), some (hn_vi (i : Int)), some (hn_vi ((0 : Nat) : Int))] [] (hn_m I k g)) := by
      rw [show hn_tw s p i v 0 = 0 from rfl, Int.add_zero]
      exact r0
    exact r0'.tr (r1.tr (hb_X7_trunkOf_19_3 (h1 := by omega) (h2 := by omega)))
  · rw [if_neg e, Int.add_zero]
    exact r0.tr (hb_X7_trunkOf_19_2 (n4 := i) (n5 := 0) (h1 := by omega) (h2 := by omega) (h3 := by rw [hp i hi]; exact e) (h4 := by omega))
abbrev hn_cmi (s : hn_S) (i : Nat) : Prop := s 1 ≠ 0 ∧ ∀ v, v < i → s (42 + v) ≠ -1
abbrev hn_fti (s : hn_S) (p : Nat → Int) (m i : Nat) : Prop := ∀ v, v < i → m.testBit v = true → hn_ld s p v ≤ s (34 + v)
theorem hn_if01 {P : Prop} [Decidable P] : (if P then (1 : Int) else 0) = 0 ∨ (if P then (1 : Int) else 0) = 1 := by
  by_cases e : P
  · rw [if_pos e]
    exact Or.inr rfl
  · rw [if_neg e]
    exact Or.inl rfl
theorem hx_isComplete (d : Nat) (hI : hn_Iv s) (h : hn_MS I s) : hn_ret sx sL (d + 1) 125 [hn_vr 64] (hn_m I k g) (some (hn_vi (if hn_cmp s then 1 else 0))) (hn_m I k g) := by
  have h8 := hn_n8 hI
  have hn := h.n hI
  have e1 : I 65 1 = s 1 := h 1 (by omega)
  have r0 : hn_go sx sL (hn_ret sx sL d) (hn_nx 125 0 [some (hn_vr 64), none, none] [] (hn_m I k g)) (hn_nx 125 17 [some (hn_vr 64), some (hn_vi (if hn_cmi s 0 then 1 else 0)), some (hn_vi ((0 : Nat) : Int))] [] (hn_m I k g)) := by
    by_cases e : s 1 = 0
    · rw [if_neg (fun q => q.1 e)]
      exact hb_X7_isComplete_0_0 (h1 := by omega)
    · rw [if_pos ⟨e, fun v hv => absurd hv (by omega)⟩]
      exact hb_X7_isComplete_0_1 (h1 := by omega)
  have r1 := hn_for (sx := sx) (sL := sL) (C := hn_ret sx sL d) (fun i => hn_nx 125 17 [some (hn_vr 64), some (hn_vi (if hn_cmi s i then 1 else 0)), some (hn_vi (i : Int))] [] (hn_m I k g)) (hn_n s) (fun i hi => by
    have e42 : I 65 (42 + i) = s (42 + i) := h _ (by omega)
    by_cases e : hn_cmi s i
    · by_cases q : s (42 + i) = -1
      · have e2 : ¬ hn_cmi s (i + 1) := fun x => x.2 i (by omega) q
        rw [if_pos e, if_neg e2]
        exact hb_X7_isComplete_17_1 (h1 := by omega) (h2 := by decide) (h3 := by omega) (h4 := by omega) (h5 := by omega) (h6 := by omega)
      · have e2 : hn_cmi s (i + 1) := ⟨e.1, fun v hv => by
          by_cases y : v = i
          · rw [y]
            exact q
          · exact e.2 v (by omega)⟩
        rw [if_pos e, if_pos e2]
        exact hb_X7_isComplete_17_2 (h1 := by omega) (h2 := by decide) (h3 := by omega) (h4 := by omega) (h5 := by omega) (h6 := by omega)
    · have e2 : ¬ hn_cmi s (i + 1) := fun x => e ⟨x.1, fun v hv => x.2 v (by omega)⟩
      rw [if_neg e, if_neg e2]
      exact hb_X7_isComplete_17_0 (h1 := by omega) (h2 := rfl) (h3 := by omega))
  exact hn_of rfl (r0.tr (r1.tr (hb_X7_isComplete_17_3 (h1 := by omega) (h2 := hn_if01))))
theorem hx_isFeasible (d : Nat) (hI : hn_Iv s) (h : hn_MS I s) (hp : ∀ v, v < hn_n s → I 66 v = p v) {m : Nat} (hm : m < 256) : hn_ret sx sL (d + 3) 117 [hn_vr 64, hn_vi m] (hn_m I k g) (some (hn_vi (if hn_fits s p m then 1 else 0))) (hn_m I k g) := by
  have h8 := hn_n8 hI
  have hn := h.n hI
  have r0 : hn_go sx sL (hn_ret sx sL (d + 2)) (hn_nx 117 0 [some (hn_vr 64), some (hn_vi m), none, none] [] (hn_m I k g)) (hn_nx 117 4 [some (hn_vr 64), some (hn_vi m), some (hn_vi (if hn_fti s p m 0 then 1 else 0)), some (hn_vi ((0 : Nat) : Int))] [] (hn_m I k g)) := by
    rw [if_pos (fun v hv => absurd hv (by omega))]
    exact hb_X7_isFeasible_0_0
  have r1 := hn_for (sx := sx) (sL := sL) (C := hn_ret sx sL (d + 2)) (fun i => hn_nx 117 4 [some (hn_vr 64), some (hn_vi m), some (hn_vi (if hn_fti s p m i then 1 else 0)), some (hn_vi (i : Int))] [] (hn_m I k g)) (hn_n s) (fun i hi => by
    have e34 : I 65 (34 + i) = s (34 + i) := h _ (by omega)
    have eb := hn_bit m hm i (by omega)
    by_cases e : hn_fti s p m i
    · by_cases q : m.testBit i = true
      · rw [if_pos q] at eb
        have c4 := hx_loadOf (sx := sx) (sL := sL) (k := k) (g := g) d hI h hp i
        by_cases z : s (34 + i) < hn_ld s p i
        · have e2 : ¬ hn_fti s p m (i + 1) := fun x => by have := x i (by omega) q; omega
          rw [if_pos e, if_neg e2]
          exact hb_X7_isFeasible_4_2 (h1 := by omega) (h2 := by decide) (h3 := by rw [eb]; decide) (c4 := c4) (h5 := by omega) (h6 := by omega) (h7 := by omega) (h8 := by omega)
        · have e2 : hn_fti s p m (i + 1) := fun v hv hv2 => by
            by_cases y : v = i
            · rw [y]
              omega
            · exact e v (by omega) hv2
          rw [if_pos e, if_pos e2]
          exact hb_X7_isFeasible_4_3 (h1 := by omega) (h2 := by decide) (h3 := by rw [eb]; decide) (c4 := c4) (h5 := by omega) (h6 := by omega) (h7 := by omega) (h8 := by omega)
      · rw [if_neg q] at eb
        have e2 : hn_fti s p m (i + 1) := fun v hv hv2 => by
          by_cases y : v = i
          · rw [y] at hv2
            exact absurd hv2 q
          · exact e v (by omega) hv2
        rw [if_pos e, if_pos e2]
        exact hb_X7_isFeasible_4_1 (h1 := by omega) (h2 := by decide) (h3 := by rw [eb]) (h4 := by omega)
    · have e2 : ¬ hn_fti s p m (i + 1) := fun x => e (fun v hv => x v (by omega))
      rw [if_neg e, if_neg e2]
      exact hb_X7_isFeasible_4_0 (h1 := by omega) (h2 := rfl) (h3 := by omega))
  exact hn_of rfl (r0.tr (r1.tr (hb_X7_isFeasible_4_4 (h1 := by omega) (h2 := hn_if01))))
theorem hx_nodes (d : Nat) (h : hn_MC I b a) : hn_ret sx sL (d + 1) 109 [hn_vr 64] (hn_m I k g) (some (hn_vi (a.1 0))) (hn_m I k g) := by
  rw [← h.1 0 (by omega)]
  exact hn_of rfl hb_X7_nodes_0_0
theorem hx_hubs (d : Nat) (h : hn_MC I b a) : hn_ret sx sL (d + 1) 123 [hn_vr 64] (hn_m I k g) (some (hn_vi (a.1 1))) (hn_m I k g) := by
  rw [← h.1 1 (by omega)]
  exact hn_of rfl hb_X7_hubs_0_0
theorem hx_node (d : Nat) (hA : hn_AI a) (h : hn_MC I b a) (v w : Int) : hn_ret sx sL (d + 3) 111 [hn_vr 64, hn_vi v, hn_vi w] (hn_m I k g) (some (hn_vi (hr_prop a.1 v w))) (hn_m I k g) := by
  have h8 := hn_n8 hA.1
  have c1 := hx_isNode (sx := sx) (sL := sL) (k := k) (g := g) d hA.1 h.1 v
  have c2 := hx_in (sx := sx) (sL := sL) (I := I) (k := k) (g := g) (d + 1) w 0 5
  by_cases h1 : hn_isN a.1 v
  · rw [if_pos h1] at c1
    unfold hn_isN at h1
    obtain ⟨u, rfl⟩ : ∃ u : Nat, v = u := ⟨v.toNat, by omega⟩
    by_cases h2 : 0 ≤ w ∧ w ≤ 5
    · rw [if_pos h2] at c2
      obtain ⟨x, rfl⟩ : ∃ x : Nat, w = x := ⟨w.toNat, by omega⟩
      exact hn_of rfl (hb_X7_node_0_2 (c1 := c1) (h2 := by decide) (c3 := c2) (h4 := by decide) (c5 := hx_propertyOf d hA.1 h.1 (by omega) (by omega)))
    · rw [if_neg h2] at c2
      have er : hr_prop a.1 u w = -3 := by
        rw [hr_prop, if_pos h1, if_neg (by omega), if_neg (by omega), if_neg (by omega), if_neg (by omega), if_neg (by omega), if_neg (by omega)]
      rw [er]
      exact hn_of rfl (hb_X7_node_0_1 (c1 := c1) (h2 := by decide) (c3 := c2) (h4 := by decide))
  · rw [if_neg h1] at c1
    rw [hr_prop, if_neg h1]
    exact hn_of rfl (hb_X7_node_0_0 (c1 := c1) (h2 := by decide))
theorem hx_flow (d : Nat) (hA : hn_AI a) (h : hn_MC I b a) (x y : Int) : hn_ret sx sL (d + 3) 112 [hn_vr 64, hn_vi x, hn_vi y] (hn_m I k g) (some (hn_vi (hr_fl a.1 x y))) (hn_m I k g) := by
  have h8 := hn_n8 hA.1
  have c1 := hx_isNode (sx := sx) (sL := sL) (k := k) (g := g) d hA.1 h.1 x
  have c2 := hx_isNode (sx := sx) (sL := sL) (k := k) (g := g) d hA.1 h.1 y
  unfold hr_fl
  by_cases h1 : hn_isN a.1 x
  · rw [if_pos h1] at c1
    by_cases h2 : hn_isN a.1 y
    · rw [if_pos h2] at c2
      rw [if_pos ⟨h1, h2⟩]
      obtain ⟨u, rfl⟩ : ∃ u : Nat, x = u := ⟨x.toNat, by omega⟩
      obtain ⟨v, rfl⟩ : ∃ v : Nat, y = v := ⟨y.toNat, by omega⟩
      rw [Int.toNat_natCast, Int.toNat_natCast]
      exact hn_of rfl (hb_X7_flow_0_2 (c1 := c1) (h2 := by decide) (c3 := c2) (h4 := by decide) (c5 := hx_flowOf (d + 1) h.1 (by omega) (by omega)))
    · rw [if_neg h2] at c2
      rw [if_neg (fun q => h2 q.2)]
      exact hn_of rfl (hb_X7_flow_0_1 (c1 := c1) (h2 := by decide) (c3 := c2) (h4 := by decide))
  · rw [if_neg h1] at c1
    rw [if_neg (fun q => h1 q.1)]
    exact hn_of rfl (hb_X7_flow_0_0 (c1 := c1) (h2 := by decide))
theorem hx_distance (d : Nat) (hA : hn_AI a) (h : hn_MC I b a) (x y : Int) : hn_ret sx sL (d + 3) 113 [hn_vr 64, hn_vi x, hn_vi y] (hn_m I k g) (some (hn_vi (hr_gp a.1 x y))) (hn_m I k g) := by
  have h8 := hn_n8 hA.1
  have c1 := hx_isNode (sx := sx) (sL := sL) (k := k) (g := g) d hA.1 h.1 x
  have c2 := hx_isNode (sx := sx) (sL := sL) (k := k) (g := g) d hA.1 h.1 y
  unfold hr_gp
  by_cases h1 : hn_isN a.1 x
  · rw [if_pos h1] at c1
    by_cases h2 : hn_isN a.1 y
    · rw [if_pos h2] at c2
      rw [if_pos ⟨h1, h2⟩]
      obtain ⟨u, rfl⟩ : ∃ u : Nat, x = u := ⟨x.toNat, by omega⟩
      obtain ⟨v, rfl⟩ : ∃ v : Nat, y = v := ⟨y.toNat, by omega⟩
      rw [Int.toNat_natCast, Int.toNat_natCast]
      exact hn_of rfl (hb_X7_distance_0_2 (c1 := c1) (h2 := by decide) (c3 := c2) (h4 := by decide) (c5 := hx_far (d + 1) hA.1 h.1 (by omega) (by omega)))
    · rw [if_neg h2] at c2
      rw [if_neg (fun q => h2 q.2)]
      exact hn_of rfl (hb_X7_distance_0_1 (c1 := c1) (h2 := by decide) (c3 := c2) (h4 := by decide))
  · rw [if_neg h1] at c1
    rw [if_neg (fun q => h1 q.1)]
    exact hn_of rfl (hb_X7_distance_0_0 (c1 := c1) (h2 := by decide))
theorem hx_hubOf (d : Nat) (hA : hn_AI a) (h : hn_MC I b a) (x : Int) : hn_ret sx sL (d + 3) 124 [hn_vr 64, hn_vi x] (hn_m I k g) (some (hn_vi (hr_ho a.1 x))) (hn_m I k g) := by
  have h8 := hn_n8 hA.1
  have c1 := hx_isNode (sx := sx) (sL := sL) (k := k) (g := g) d hA.1 h.1 x
  unfold hr_ho
  by_cases h1 : hn_isN a.1 x
  · rw [if_pos h1] at c1 ⊢
    obtain ⟨u, rfl⟩ : ∃ u : Nat, x = u := ⟨x.toNat, by omega⟩
    rw [Int.toNat_natCast, ← h.1 (42 + u) (by omega)]
    exact hn_of rfl (hb_X7_hubOf_0_1 (c1 := c1) (h2 := by decide) (h3 := by omega) (h4 := by omega))
  · rw [if_neg h1] at c1 ⊢
    exact hn_of rfl (hi_X7_hubOf_0_0 (c1 := c1) (h2 := by decide))
theorem hx_check (d : Nat) (hA : hn_AI a) (h : hn_MC I b a) : ∃ I', hn_ret sx sL (d + 4) 126 [hn_vr 64] (hn_m I k g) (some (hn_vi (hr_check a.1))) (hn_m I' k g) ∧ hn_MC I' b a ∧ hn_fM I' I := by
  obtain ⟨I1, c1, p1, f1⟩ := hx_takes (sx := sx) (sL := sL) (k := k) (g := g) (d + 2) hA.1 h.1
  obtain ⟨m1, w1⟩ := h.mp f1
  have c2 := hx_isComplete (sx := sx) (sL := sL) (k := k) (g := g) (d + 2) hA.1 m1.1
  unfold hr_check
  by_cases e : hn_cmp a.1
  · rw [if_pos e] at c2 ⊢
    have c3 := hx_isFeasible (sx := sx) (sL := sL) (k := k) (g := g) d hA.1 m1.1 p1 (hn_m256 hA.1)
    rw [← m1.1.m hA.1] at c3
    by_cases f : hn_fits a.1 (hn_ho a.1) (hn_hm a.1)
    · rw [if_pos f] at c3 ⊢
      exact ⟨I1, hn_of rfl (hb_X7_check_0_2 (c1 := c1) (c2 := c2) (h3 := by decide) (c4 := c3) (h5 := by decide)), m1, w1⟩
    · rw [if_neg f] at c3 ⊢
      exact ⟨I1, hn_of rfl (hb_X7_check_0_1 (c1 := c1) (c2 := c2) (h3 := by decide) (c4 := c3) (h5 := by decide)), m1, w1⟩
  · rw [if_neg e] at c2 ⊢
    exact ⟨I1, hn_of rfl (hb_X7_check_0_0 (c1 := c1) (c2 := c2) (h3 := by decide)), m1, w1⟩
theorem hx_load (d : Nat) (hA : hn_AI a) (h : hn_MC I b a) (x : Int) : ∃ I', hn_ret sx sL (d + 3) 127 [hn_vr 64, hn_vi x] (hn_m I k g) (some (hn_vi (hr_load a.1 x))) (hn_m I' k g) ∧ hn_MC I' b a ∧ hn_fM I' I := by
  have h8 := hn_n8 hA.1
  have c1 := hx_isNode (sx := sx) (sL := sL) (k := k) (g := g) d hA.1 h.1 x
  unfold hr_load
  by_cases h1 : hn_isN a.1 x
  · rw [if_pos h1] at c1 ⊢
    obtain ⟨u, rfl⟩ : ∃ u : Nat, x = u := ⟨x.toNat, by omega⟩
    rw [Int.toNat_natCast]
    obtain ⟨I1, c2, p1, f1⟩ := hx_takes (sx := sx) (sL := sL) (k := k) (g := g) (d + 1) hA.1 h.1
    obtain ⟨m1, w1⟩ := h.mp f1
    have c3 := hx_isHub (sx := sx) (sL := sL) (k := k) (g := g) (d + 1) hA.1 m1.1 (v := u) (by omega)
    by_cases e : hn_hub a.1 u = true
    · rw [if_pos e] at c3 ⊢
      exact ⟨I1, hn_of rfl (hb_X7_load_0_2 (c1 := c1) (h2 := by decide) (c3 := c2) (c4 := c3) (h5 := by decide) (c6 := hx_loadOf d hA.1 m1.1 p1 u)), m1, w1⟩
    · rw [if_neg e] at c3 ⊢
      exact ⟨I1, hn_of rfl (hb_X7_load_0_1 (c1 := c1) (h2 := by decide) (c3 := c2) (c4 := c3) (h5 := by decide)), m1, w1⟩
  · rw [if_neg h1] at c1 ⊢
    exact ⟨I, hn_of rfl (hb_X7_load_0_0 (c1 := c1) (h2 := by decide)), h, hn_fM.rf⟩
theorem hx_trunk (d : Nat) (hA : hn_AI a) (h : hn_MC I b a) (x y : Int) : ∃ I', hn_ret sx sL (d + 3) 128 [hn_vr 64, hn_vi x, hn_vi y] (hn_m I k g) (some (hn_vi (hr_trunk a.1 x y))) (hn_m I' k g) ∧ hn_MC I' b a ∧ hn_fM I' I := by
  have h8 := hn_n8 hA.1
  have c1 := hx_isNode (sx := sx) (sL := sL) (k := k) (g := g) d hA.1 h.1 x
  have c2 := hx_isNode (sx := sx) (sL := sL) (k := k) (g := g) d hA.1 h.1 y
  unfold hr_trunk
  by_cases h1 : hn_isN a.1 x
  · rw [if_pos h1] at c1
    by_cases h2 : hn_isN a.1 y
    · rw [if_pos h2] at c2
      rw [if_pos ⟨h1, h2⟩]
      obtain ⟨u, rfl⟩ : ∃ u : Nat, x = u := ⟨x.toNat, by omega⟩
      obtain ⟨v, rfl⟩ : ∃ v : Nat, y = v := ⟨y.toNat, by omega⟩
      rw [Int.toNat_natCast, Int.toNat_natCast]
      obtain ⟨I1, c3, p1, f1⟩ := hx_takes (sx := sx) (sL := sL) (k := k) (g := g) (d + 1) hA.1 h.1
      obtain ⟨m1, w1⟩ := h.mp f1
      have c4 := hx_isHub (sx := sx) (sL := sL) (k := k) (g := g) (d + 1) hA.1 m1.1 (v := u) (by omega)
      have c5 := hx_isHub (sx := sx) (sL := sL) (k := k) (g := g) (d + 1) hA.1 m1.1 (v := v) (by omega)
      by_cases e : hn_hub a.1 u = true
      · rw [if_pos e] at c4
        by_cases e2 : hn_hub a.1 v = true
        · rw [if_pos e2] at c5
          by_cases e3 : (u : Int) = v
          · rw [if_neg (fun q => q.2.2 e3)]
            exact ⟨I1, hn_of rfl (hb_X7_trunk_0_4 (c1 := c1) (h2 := by decide) (c3 := c2) (h4 := by decide) (c5 := c3) (c6 := c4) (h7 := by decide) (c8 := c5) (h9 := by decide) (h10 := e3)), m1, w1⟩
          · rw [if_pos ⟨e, e2, e3⟩]
            exact ⟨I1, hn_of rfl (hb_X7_trunk_0_5 (c1 := c1) (h2 := by decide) (c3 := c2) (h4 := by decide) (c5 := c3) (c6 := c4) (h7 := by decide) (c8 := c5) (h9 := by decide) (h10 := e3) (c11 := hx_trunkOf d hA.1 m1.1 p1 u v)), m1, w1⟩
        · rw [if_neg e2] at c5
          rw [if_neg (fun q => e2 q.2.1)]
          exact ⟨I1, hn_of rfl (hb_X7_trunk_0_3 (c1 := c1) (h2 := by decide) (c3 := c2) (h4 := by decide) (c5 := c3) (c6 := c4) (h7 := by decide) (c8 := c5) (h9 := by decide)), m1, w1⟩
      · rw [if_neg e] at c4
        rw [if_neg (fun q => e q.1)]
        exact ⟨I1, hn_of rfl (hb_X7_trunk_0_2 (c1 := c1) (h2 := by decide) (c3 := c2) (h4 := by decide) (c5 := c3) (c6 := c4) (h7 := by decide)), m1, w1⟩
    · rw [if_neg h2] at c2
      rw [if_neg (fun q => h2 q.2)]
      exact ⟨I, hn_of rfl (hb_X7_trunk_0_1 (c1 := c1) (h2 := by decide) (c3 := c2) (h4 := by decide)), h, hn_fM.rf⟩
  · rw [if_neg h1] at c1
    rw [if_neg (fun q => h1 q.1)]
    exact ⟨I, hn_of rfl (hb_X7_trunk_0_0 (c1 := c1) (h2 := by decide)), h, hn_fM.rf⟩
theorem hx_path0 (d : Nat) (hA : hn_AI a) (h : hn_MC I b a) (x y z : Int) : ∃ I', hn_ret sx sL (d + 3) 130 [hn_vr 64, hn_vi x, hn_vi y, hn_vi z] (hn_m I k g) (some (hn_vi (hr_path a.1 x y z))) (hn_m I' k g) ∧ ∀ c, c ≠ 67 → ∀ j, I' c j = I c j := by
  have h8 := hn_n8 hA.1
  have c1 := hx_isNode (sx := sx) (sL := sL) (k := k) (g := g) d hA.1 h.1 x
  have c2 := hx_isNode (sx := sx) (sL := sL) (k := k) (g := g) d hA.1 h.1 y
  unfold hr_path
  by_cases h1 : hn_isN a.1 x
  · rw [if_pos h1] at c1
    by_cases h2 : hn_isN a.1 y
    · rw [if_pos h2] at c2
      rw [if_pos ⟨h1, h2⟩]
      have t1 : (42 + x).toNat = 42 + x.toNat := by omega
      have t2 : (42 + y).toNat = 42 + y.toNat := by omega
      have e1 : I 65 (42 + x).toNat = a.1 (42 + x.toNat) := by rw [t1]; exact h.1 _ (by omega)
      have e2 : I 65 (42 + y).toNat = a.1 (42 + y.toNat) := by rw [t2]; exact h.1 _ (by omega)
      obtain ⟨K, hK⟩ : ∃ K, K = a.1 (42 + x.toNat) := ⟨_, rfl⟩
      obtain ⟨M, hM⟩ : ∃ M, M = a.1 (42 + y.toNat) := ⟨_, rfl⟩
      rw [← hK] at e1 ⊢
      rw [← hM] at e2 ⊢
      by_cases hx : x = y
      · rw [if_neg (fun q => q.1 hx)]
        exact ⟨I, hn_of rfl (hi_X7_path_0_2 (c1 := c1) (h2 := by decide) (c3 := c2) (h4 := by decide) (h5 := hx)), fun _ _ _ => rfl⟩
      by_cases hz : z < 0
      · rw [if_neg (by omega)]
        exact ⟨I, hn_of rfl (hi_X7_path_0_3 (c1 := c1) (h2 := by decide) (c3 := c2) (h4 := by decide) (h5 := hx) (h6 := hz)), fun _ _ _ => rfl⟩
      rw [if_pos ⟨hx, by omega⟩]
      by_cases k1 : K = -1
      · rw [if_neg (fun q => q.1 k1)]
        exact ⟨I, hn_of rfl (hi_X7_path_0_4 (c1 := c1) (h2 := by decide) (c3 := c2) (h4 := by decide) (h5 := hx) (h6 := hz) (h7 := by omega) (h8 := by omega) (h9 := by omega) (h10 := by omega) (h11 := by omega)), fun _ _ _ => rfl⟩
      by_cases k2 : M = -1
      · rw [if_neg (fun q => q.2 k2)]
        exact ⟨I, hn_of rfl (hi_X7_path_0_5 (c1 := c1) (h2 := by decide) (c3 := c2) (h4 := by decide) (h5 := hx) (h6 := hz) (h7 := by omega) (h8 := by omega) (h9 := by omega) (h10 := by omega) (h11 := by omega) (h12 := by omega)), fun _ _ _ => rfl⟩
      rw [if_pos ⟨k1, k2⟩]
      obtain ⟨i, rfl⟩ : ∃ i : Nat, z = i := ⟨z.toNat, by omega⟩
      have r0 := hi_X7_path_0_6 (sx := sx) (sL := sL) (x3 := (i : Int)) (c1 := c1) (h2 := by decide) (c3 := c2) (h4 := by decide) (h5 := hx) (h6 := hz) (h7 := by omega) (h8 := by omega) (h9 := by omega) (h10 := by omega) (h11 := by omega) (h12 := by omega)
      rw [e1, e2] at r0
      unfold hn_pth
      by_cases q1 : K = x
      · rw [if_pos q1]
        by_cases q2 : M = K
        · rw [if_pos q2]
          by_cases q3 : y = M
          · rw [if_pos q3]
            have s0 := hb_X7_path_74_0 (sx := sx) (sL := sL) (C := hn_ret sx sL (d + 2)) (I := I) (k := k) (g := g) (x1 := x) (x2 := y) (n3 := i) (x4 := K) (x5 := M) (n6 := 0) (x7 := 0) (h1 := by decide) (h2 := rfl) (h3 := rfl) (h4 := by decide) (h5 := by decide) (h6 := by decide)
            have s1 := hb_X7_path_74_4 (sx := sx) (sL := sL) (C := hn_ret sx sL (d + 2)) (I := (hn_up I 67 0 x)) (k := k) (g := g) (x1 := x) (x2 := y) (n3 := i) (x4 := K) (x5 := M) (n6 := 1) (x7 := 1) (h1 := by decide) (h2 := by decide) (h3 := rfl) (h4 := by decide) (h5 := by decide) (h6 := by decide) (h7 := (show x = K by omega)) (h8 := by decide)
            have s2 := hb_X7_path_74_7 (sx := sx) (sL := sL) (C := hn_ret sx sL (d + 2)) (I := (hn_up I 67 0 x)) (k := k) (g := g) (x1 := x) (x2 := y) (n3 := i) (x4 := K) (x5 := M) (n6 := 1) (x7 := 2) (h1 := by decide) (h2 := by decide) (h3 := by decide) (h4 := rfl) (h5 := by decide) (h6 := by decide) (h7 := by decide) (h8 := (show x = M by omega)) (h9 := by decide)
            have s3 := hb_X7_path_74_10 (sx := sx) (sL := sL) (C := hn_ret sx sL (d + 2)) (I := (hn_up I 67 0 x)) (k := k) (g := g) (x1 := x) (x2 := y) (n3 := i) (x4 := K) (x5 := M) (n6 := 1) (x7 := 3) (h1 := by decide) (h2 := by decide) (h3 := by decide) (h4 := by decide) (h5 := by decide) (h6 := by decide) (h7 := by decide) (h8 := (show x = y by omega)) (h9 := by decide)
            by_cases i0 : (i : Int) = 0
            · rw [if_pos i0]
              obtain rfl : i = 0 := by omega
              have f := hb_X7_path_74_12 (sx := sx) (sL := sL) (C := hn_ret sx sL (d + 2)) (I := (hn_up I 67 0 x)) (k := k) (g := g) (x1 := x) (x2 := y) (n3 := 0) (x4 := K) (x5 := M) (n6 := 1) (x7 := 4) (h1 := by decide) (h2 := by decide) (h3 := by decide)
              have key : x = x := by omega
              rw [← key]
              exact ⟨_, hn_of rfl (r0.tr (s0.tr (s1.tr (s2.tr (s3.tr f))))), fun c hc j => by rw [hn_up_ne (Or.inl (by omega))]⟩
            · rw [if_neg i0]
              have f := hb_X7_path_74_13 (sx := sx) (sL := sL) (C := hn_ret sx sL (d + 2)) (I := (hn_up I 67 0 x)) (k := k) (g := g) (x1 := x) (x2 := y) (n3 := i) (x4 := K) (x5 := M) (n6 := 1) (x7 := 4) (h1 := by decide) (h2 := by omega)
              exact ⟨_, hn_of rfl (r0.tr (s0.tr (s1.tr (s2.tr (s3.tr f))))), fun c hc j => by rw [hn_up_ne (Or.inl (by omega))]⟩
          · rw [if_neg q3]
            have s0 := hb_X7_path_74_0 (sx := sx) (sL := sL) (C := hn_ret sx sL (d + 2)) (I := I) (k := k) (g := g) (x1 := x) (x2 := y) (n3 := i) (x4 := K) (x5 := M) (n6 := 0) (x7 := 0) (h1 := by decide) (h2 := rfl) (h3 := rfl) (h4 := by decide) (h5 := by decide) (h6 := by decide)
            have s1 := hb_X7_path_74_4 (sx := sx) (sL := sL) (C := hn_ret sx sL (d + 2)) (I := (hn_up I 67 0 x)) (k := k) (g := g) (x1 := x) (x2 := y) (n3 := i) (x4 := K) (x5 := M) (n6 := 1) (x7 := 1) (h1 := by decide) (h2 := by decide) (h3 := rfl) (h4 := by decide) (h5 := by decide) (h6 := by decide) (h7 := (show x = K by omega)) (h8 := by decide)
            have s2 := hb_X7_path_74_7 (sx := sx) (sL := sL) (C := hn_ret sx sL (d + 2)) (I := (hn_up I 67 0 x)) (k := k) (g := g) (x1 := x) (x2 := y) (n3 := i) (x4 := K) (x5 := M) (n6 := 1) (x7 := 2) (h1 := by decide) (h2 := by decide) (h3 := by decide) (h4 := rfl) (h5 := by decide) (h6 := by decide) (h7 := by decide) (h8 := (show x = M by omega)) (h9 := by decide)
            have s3 := hb_X7_path_74_11 (sx := sx) (sL := sL) (C := hn_ret sx sL (d + 2)) (I := (hn_up I 67 0 x)) (k := k) (g := g) (x1 := x) (x2 := y) (n3 := i) (x4 := K) (x5 := M) (n6 := 1) (x7 := 3) (h1 := by decide) (h2 := by decide) (h3 := by decide) (h4 := by decide) (h5 := by decide) (h6 := by decide) (h7 := by decide) (h8 := (show ¬ x = y by omega)) (h9 := by decide) (h10 := by decide) (h11 := by decide)
            by_cases i0 : (i : Int) = 0
            · rw [if_pos i0]
              obtain rfl : i = 0 := by omega
              have f := hb_X7_path_74_12 (sx := sx) (sL := sL) (C := hn_ret sx sL (d + 2)) (I := (hn_up (hn_up I 67 0 x) 67 1 y)) (k := k) (g := g) (x1 := x) (x2 := y) (n3 := 0) (x4 := K) (x5 := M) (n6 := 2) (x7 := 4) (h1 := by decide) (h2 := by decide) (h3 := by decide)
              have key : x = x := by omega
              rw [← key]
              exact ⟨_, hn_of rfl (r0.tr (s0.tr (s1.tr (s2.tr (s3.tr f))))), fun c hc j => by rw [hn_up_ne (Or.inl (by omega)), hn_up_ne (Or.inl (by omega))]⟩
            · rw [if_neg i0]
              by_cases i1 : (i : Int) = 1
              · rw [if_pos i1]
                obtain rfl : i = 1 := by omega
                have f := hb_X7_path_74_12 (sx := sx) (sL := sL) (C := hn_ret sx sL (d + 2)) (I := (hn_up (hn_up I 67 0 x) 67 1 y)) (k := k) (g := g) (x1 := x) (x2 := y) (n3 := 1) (x4 := K) (x5 := M) (n6 := 2) (x7 := 4) (h1 := by decide) (h2 := by decide) (h3 := by decide)
                have key : y = y := by omega
                rw [← key]
                exact ⟨_, hn_of rfl (r0.tr (s0.tr (s1.tr (s2.tr (s3.tr f))))), fun c hc j => by rw [hn_up_ne (Or.inl (by omega)), hn_up_ne (Or.inl (by omega))]⟩
              · rw [if_neg i1]
                have f := hb_X7_path_74_13 (sx := sx) (sL := sL) (C := hn_ret sx sL (d + 2)) (I := (hn_up (hn_up I 67 0 x) 67 1 y)) (k := k) (g := g) (x1 := x) (x2 := y) (n3 := i) (x4 := K) (x5 := M) (n6 := 2) (x7 := 4) (h1 := by decide) (h2 := by omega)
                exact ⟨_, hn_of rfl (r0.tr (s0.tr (s1.tr (s2.tr (s3.tr f))))), fun c hc j => by rw [hn_up_ne (Or.inl (by omega)), hn_up_ne (Or.inl (by omega))]⟩
        · rw [if_neg q2]
          by_cases q3 : y = M
          · rw [if_pos q3]
            have s0 := hb_X7_path_74_0 (sx := sx) (sL := sL) (C := hn_ret sx sL (d + 2)) (I := I) (k := k) (g := g) (x1 := x) (x2 := y) (n3 := i) (x4 := K) (x5 := M) (n6 := 0) (x7 := 0) (h1 := by decide) (h2 := rfl) (h3 := rfl) (h4 := by decide) (h5 := by decide) (h6 := by decide)
            have s1 := hb_X7_path_74_4 (sx := sx) (sL := sL) (C := hn_ret sx sL (d + 2)) (I := (hn_up I 67 0 x)) (k := k) (g := g) (x1 := x) (x2 := y) (n3 := i) (x4 := K) (x5 := M) (n6 := 1) (x7 := 1) (h1 := by decide) (h2 := by decide) (h3 := rfl) (h4 := by decide) (h5 := by decide) (h6 := by decide) (h7 := (show x = K by omega)) (h8 := by decide)
            have s2 := hb_X7_path_74_8 (sx := sx) (sL := sL) (C := hn_ret sx sL (d + 2)) (I := (hn_up I 67 0 x)) (k := k) (g := g) (x1 := x) (x2 := y) (n3 := i) (x4 := K) (x5 := M) (n6 := 1) (x7 := 2) (h1 := by decide) (h2 := by decide) (h3 := by decide) (h4 := rfl) (h5 := by decide) (h6 := by decide) (h7 := by decide) (h8 := (show ¬ x = M by omega)) (h9 := by decide) (h10 := by decide) (h11 := by decide)
            have s3 := hb_X7_path_74_10 (sx := sx) (sL := sL) (C := hn_ret sx sL (d + 2)) (I := (hn_up (hn_up I 67 0 x) 67 1 M)) (k := k) (g := g) (x1 := x) (x2 := y) (n3 := i) (x4 := K) (x5 := M) (n6 := 2) (x7 := 3) (h1 := by decide) (h2 := by decide) (h3 := by decide) (h4 := by decide) (h5 := by decide) (h6 := by decide) (h7 := by decide) (h8 := (show M = y by omega)) (h9 := by decide)
            by_cases i0 : (i : Int) = 0
            · rw [if_pos i0]
              obtain rfl : i = 0 := by omega
              have f := hb_X7_path_74_12 (sx := sx) (sL := sL) (C := hn_ret sx sL (d + 2)) (I := (hn_up (hn_up I 67 0 x) 67 1 M)) (k := k) (g := g) (x1 := x) (x2 := y) (n3 := 0) (x4 := K) (x5 := M) (n6 := 2) (x7 := 4) (h1 := by decide) (h2 := by decide) (h3 := by decide)
              have key : x = x := by omega
              rw [← key]
              exact ⟨_, hn_of rfl (r0.tr (s0.tr (s1.tr (s2.tr (s3.tr f))))), fun c hc j => by rw [hn_up_ne (Or.inl (by omega)), hn_up_ne (Or.inl (by omega))]⟩
            · rw [if_neg i0]
              by_cases i1 : (i : Int) = 1
              · rw [if_pos i1]
                obtain rfl : i = 1 := by omega
                have f := hb_X7_path_74_12 (sx := sx) (sL := sL) (C := hn_ret sx sL (d + 2)) (I := (hn_up (hn_up I 67 0 x) 67 1 M)) (k := k) (g := g) (x1 := x) (x2 := y) (n3 := 1) (x4 := K) (x5 := M) (n6 := 2) (x7 := 4) (h1 := by decide) (h2 := by decide) (h3 := by decide)
                have key : M = M := by omega
                rw [← key]
                exact ⟨_, hn_of rfl (r0.tr (s0.tr (s1.tr (s2.tr (s3.tr f))))), fun c hc j => by rw [hn_up_ne (Or.inl (by omega)), hn_up_ne (Or.inl (by omega))]⟩
              · rw [if_neg i1]
                have f := hb_X7_path_74_13 (sx := sx) (sL := sL) (C := hn_ret sx sL (d + 2)) (I := (hn_up (hn_up I 67 0 x) 67 1 M)) (k := k) (g := g) (x1 := x) (x2 := y) (n3 := i) (x4 := K) (x5 := M) (n6 := 2) (x7 := 4) (h1 := by decide) (h2 := by omega)
                exact ⟨_, hn_of rfl (r0.tr (s0.tr (s1.tr (s2.tr (s3.tr f))))), fun c hc j => by rw [hn_up_ne (Or.inl (by omega)), hn_up_ne (Or.inl (by omega))]⟩
          · rw [if_neg q3]
            have s0 := hb_X7_path_74_0 (sx := sx) (sL := sL) (C := hn_ret sx sL (d + 2)) (I := I) (k := k) (g := g) (x1 := x) (x2 := y) (n3 := i) (x4 := K) (x5 := M) (n6 := 0) (x7 := 0) (h1 := by decide) (h2 := rfl) (h3 := rfl) (h4 := by decide) (h5 := by decide) (h6 := by decide)
            have s1 := hb_X7_path_74_4 (sx := sx) (sL := sL) (C := hn_ret sx sL (d + 2)) (I := (hn_up I 67 0 x)) (k := k) (g := g) (x1 := x) (x2 := y) (n3 := i) (x4 := K) (x5 := M) (n6 := 1) (x7 := 1) (h1 := by decide) (h2 := by decide) (h3 := rfl) (h4 := by decide) (h5 := by decide) (h6 := by decide) (h7 := (show x = K by omega)) (h8 := by decide)
            have s2 := hb_X7_path_74_8 (sx := sx) (sL := sL) (C := hn_ret sx sL (d + 2)) (I := (hn_up I 67 0 x)) (k := k) (g := g) (x1 := x) (x2 := y) (n3 := i) (x4 := K) (x5 := M) (n6 := 1) (x7 := 2) (h1 := by decide) (h2 := by decide) (h3 := by decide) (h4 := rfl) (h5 := by decide) (h6 := by decide) (h7 := by decide) (h8 := (show ¬ x = M by omega)) (h9 := by decide) (h10 := by decide) (h11 := by decide)
            have s3 := hb_X7_path_74_11 (sx := sx) (sL := sL) (C := hn_ret sx sL (d + 2)) (I := (hn_up (hn_up I 67 0 x) 67 1 M)) (k := k) (g := g) (x1 := x) (x2 := y) (n3 := i) (x4 := K) (x5 := M) (n6 := 2) (x7 := 3) (h1 := by decide) (h2 := by decide) (h3 := by decide) (h4 := by decide) (h5 := by decide) (h6 := by decide) (h7 := by decide) (h8 := (show ¬ M = y by omega)) (h9 := by decide) (h10 := by decide) (h11 := by decide)
            by_cases i0 : (i : Int) = 0
            · rw [if_pos i0]
              obtain rfl : i = 0 := by omega
              have f := hb_X7_path_74_12 (sx := sx) (sL := sL) (C := hn_ret sx sL (d + 2)) (I := (hn_up (hn_up (hn_up I 67 0 x) 67 1 M) 67 2 y)) (k := k) (g := g) (x1 := x) (x2 := y) (n3 := 0) (x4 := K) (x5 := M) (n6 := 3) (x7 := 4) (h1 := by decide) (h2 := by decide) (h3 := by decide)
              have key : x = x := by omega
              rw [← key]
              exact ⟨_, hn_of rfl (r0.tr (s0.tr (s1.tr (s2.tr (s3.tr f))))), fun c hc j => by rw [hn_up_ne (Or.inl (by omega)), hn_up_ne (Or.inl (by omega)), hn_up_ne (Or.inl (by omega))]⟩
            · rw [if_neg i0]
              by_cases i1 : (i : Int) = 1
              · rw [if_pos i1]
                obtain rfl : i = 1 := by omega
                have f := hb_X7_path_74_12 (sx := sx) (sL := sL) (C := hn_ret sx sL (d + 2)) (I := (hn_up (hn_up (hn_up I 67 0 x) 67 1 M) 67 2 y)) (k := k) (g := g) (x1 := x) (x2 := y) (n3 := 1) (x4 := K) (x5 := M) (n6 := 3) (x7 := 4) (h1 := by decide) (h2 := by decide) (h3 := by decide)
                have key : M = M := by omega
                rw [← key]
                exact ⟨_, hn_of rfl (r0.tr (s0.tr (s1.tr (s2.tr (s3.tr f))))), fun c hc j => by rw [hn_up_ne (Or.inl (by omega)), hn_up_ne (Or.inl (by omega)), hn_up_ne (Or.inl (by omega))]⟩
              · rw [if_neg i1]
                by_cases i2 : (i : Int) = 2
                · rw [if_pos i2]
                  obtain rfl : i = 2 := by omega
                  have f := hb_X7_path_74_12 (sx := sx) (sL := sL) (C := hn_ret sx sL (d + 2)) (I := (hn_up (hn_up (hn_up I 67 0 x) 67 1 M) 67 2 y)) (k := k) (g := g) (x1 := x) (x2 := y) (n3 := 2) (x4 := K) (x5 := M) (n6 := 3) (x7 := 4) (h1 := by decide) (h2 := by decide) (h3 := by decide)
                  have key : y = y := by omega
                  rw [← key]
                  exact ⟨_, hn_of rfl (r0.tr (s0.tr (s1.tr (s2.tr (s3.tr f))))), fun c hc j => by rw [hn_up_ne (Or.inl (by omega)), hn_up_ne (Or.inl (by omega)), hn_up_ne (Or.inl (by omega))]⟩
                · rw [if_neg i2]
                  have f := hb_X7_path_74_13 (sx := sx) (sL := sL) (C := hn_ret sx sL (d + 2)) (I := (hn_up (hn_up (hn_up I 67 0 x) 67 1 M) 67 2 y)) (k := k) (g := g) (x1 := x) (x2 := y) (n3 := i) (x4 := K) (x5 := M) (n6 := 3) (x7 := 4) (h1 := by decide) (h2 := by omega)
                  exact ⟨_, hn_of rfl (r0.tr (s0.tr (s1.tr (s2.tr (s3.tr f))))), fun c hc j => by rw [hn_up_ne (Or.inl (by omega)), hn_up_ne (Or.inl (by omega)), hn_up_ne (Or.inl (by omega))]⟩
      · rw [if_neg q1]
        by_cases q2 : M = K
        · rw [if_pos q2]
          by_cases q3 : y = M
          · rw [if_pos q3]
            have s0 := hb_X7_path_74_0 (sx := sx) (sL := sL) (C := hn_ret sx sL (d + 2)) (I := I) (k := k) (g := g) (x1 := x) (x2 := y) (n3 := i) (x4 := K) (x5 := M) (n6 := 0) (x7 := 0) (h1 := by decide) (h2 := rfl) (h3 := rfl) (h4 := by decide) (h5 := by decide) (h6 := by decide)
            have s1 := hb_X7_path_74_5 (sx := sx) (sL := sL) (C := hn_ret sx sL (d + 2)) (I := (hn_up I 67 0 x)) (k := k) (g := g) (x1 := x) (x2 := y) (n3 := i) (x4 := K) (x5 := M) (n6 := 1) (x7 := 1) (h1 := by decide) (h2 := by decide) (h3 := rfl) (h4 := by decide) (h5 := by decide) (h6 := by decide) (h7 := (show ¬ x = K by omega)) (h8 := by decide) (h9 := by decide) (h10 := by decide)
            have s2 := hb_X7_path_74_7 (sx := sx) (sL := sL) (C := hn_ret sx sL (d + 2)) (I := (hn_up (hn_up I 67 0 x) 67 1 K)) (k := k) (g := g) (x1 := x) (x2 := y) (n3 := i) (x4 := K) (x5 := M) (n6 := 2) (x7 := 2) (h1 := by decide) (h2 := by decide) (h3 := by decide) (h4 := rfl) (h5 := by decide) (h6 := by decide) (h7 := by decide) (h8 := (show K = M by omega)) (h9 := by decide)
            have s3 := hb_X7_path_74_10 (sx := sx) (sL := sL) (C := hn_ret sx sL (d + 2)) (I := (hn_up (hn_up I 67 0 x) 67 1 K)) (k := k) (g := g) (x1 := x) (x2 := y) (n3 := i) (x4 := K) (x5 := M) (n6 := 2) (x7 := 3) (h1 := by decide) (h2 := by decide) (h3 := by decide) (h4 := by decide) (h5 := by decide) (h6 := by decide) (h7 := by decide) (h8 := (show K = y by omega)) (h9 := by decide)
            by_cases i0 : (i : Int) = 0
            · rw [if_pos i0]
              obtain rfl : i = 0 := by omega
              have f := hb_X7_path_74_12 (sx := sx) (sL := sL) (C := hn_ret sx sL (d + 2)) (I := (hn_up (hn_up I 67 0 x) 67 1 K)) (k := k) (g := g) (x1 := x) (x2 := y) (n3 := 0) (x4 := K) (x5 := M) (n6 := 2) (x7 := 4) (h1 := by decide) (h2 := by decide) (h3 := by decide)
              have key : x = x := by omega
              rw [← key]
              exact ⟨_, hn_of rfl (r0.tr (s0.tr (s1.tr (s2.tr (s3.tr f))))), fun c hc j => by rw [hn_up_ne (Or.inl (by omega)), hn_up_ne (Or.inl (by omega))]⟩
            · rw [if_neg i0]
              by_cases i1 : (i : Int) = 1
              · rw [if_pos i1]
                obtain rfl : i = 1 := by omega
                have f := hb_X7_path_74_12 (sx := sx) (sL := sL) (C := hn_ret sx sL (d + 2)) (I := (hn_up (hn_up I 67 0 x) 67 1 K)) (k := k) (g := g) (x1 := x) (x2 := y) (n3 := 1) (x4 := K) (x5 := M) (n6 := 2) (x7 := 4) (h1 := by decide) (h2 := by decide) (h3 := by decide)
                have key : K = K := by omega
                rw [← key]
                exact ⟨_, hn_of rfl (r0.tr (s0.tr (s1.tr (s2.tr (s3.tr f))))), fun c hc j => by rw [hn_up_ne (Or.inl (by omega)), hn_up_ne (Or.inl (by omega))]⟩
              · rw [if_neg i1]
                have f := hb_X7_path_74_13 (sx := sx) (sL := sL) (C := hn_ret sx sL (d + 2)) (I := (hn_up (hn_up I 67 0 x) 67 1 K)) (k := k) (g := g) (x1 := x) (x2 := y) (n3 := i) (x4 := K) (x5 := M) (n6 := 2) (x7 := 4) (h1 := by decide) (h2 := by omega)
                exact ⟨_, hn_of rfl (r0.tr (s0.tr (s1.tr (s2.tr (s3.tr f))))), fun c hc j => by rw [hn_up_ne (Or.inl (by omega)), hn_up_ne (Or.inl (by omega))]⟩
          · rw [if_neg q3]
            have s0 := hb_X7_path_74_0 (sx := sx) (sL := sL) (C := hn_ret sx sL (d + 2)) (I := I) (k := k) (g := g) (x1 := x) (x2 := y) (n3 := i) (x4 := K) (x5 := M) (n6 := 0) (x7 := 0) (h1 := by decide) (h2 := rfl) (h3 := rfl) (h4 := by decide) (h5 := by decide) (h6 := by decide)
            have s1 := hb_X7_path_74_5 (sx := sx) (sL := sL) (C := hn_ret sx sL (d + 2)) (I := (hn_up I 67 0 x)) (k := k) (g := g) (x1 := x) (x2 := y) (n3 := i) (x4 := K) (x5 := M) (n6 := 1) (x7 := 1) (h1 := by decide) (h2 := by decide) (h3 := rfl) (h4 := by decide) (h5 := by decide) (h6 := by decide) (h7 := (show ¬ x = K by omega)) (h8 := by decide) (h9 := by decide) (h10 := by decide)
            have s2 := hb_X7_path_74_7 (sx := sx) (sL := sL) (C := hn_ret sx sL (d + 2)) (I := (hn_up (hn_up I 67 0 x) 67 1 K)) (k := k) (g := g) (x1 := x) (x2 := y) (n3 := i) (x4 := K) (x5 := M) (n6 := 2) (x7 := 2) (h1 := by decide) (h2 := by decide) (h3 := by decide) (h4 := rfl) (h5 := by decide) (h6 := by decide) (h7 := by decide) (h8 := (show K = M by omega)) (h9 := by decide)
            have s3 := hb_X7_path_74_11 (sx := sx) (sL := sL) (C := hn_ret sx sL (d + 2)) (I := (hn_up (hn_up I 67 0 x) 67 1 K)) (k := k) (g := g) (x1 := x) (x2 := y) (n3 := i) (x4 := K) (x5 := M) (n6 := 2) (x7 := 3) (h1 := by decide) (h2 := by decide) (h3 := by decide) (h4 := by decide) (h5 := by decide) (h6 := by decide) (h7 := by decide) (h8 := (show ¬ K = y by omega)) (h9 := by decide) (h10 := by decide) (h11 := by decide)
            by_cases i0 : (i : Int) = 0
            · rw [if_pos i0]
              obtain rfl : i = 0 := by omega
              have f := hb_X7_path_74_12 (sx := sx) (sL := sL) (C := hn_ret sx sL (d + 2)) (I := (hn_up (hn_up (hn_up I 67 0 x) 67 1 K) 67 2 y)) (k := k) (g := g) (x1 := x) (x2 := y) (n3 := 0) (x4 := K) (x5 := M) (n6 := 3) (x7 := 4) (h1 := by decide) (h2 := by decide) (h3 := by decide)
              have key : x = x := by omega
              rw [← key]
              exact ⟨_, hn_of rfl (r0.tr (s0.tr (s1.tr (s2.tr (s3.tr f))))), fun c hc j => by rw [hn_up_ne (Or.inl (by omega)), hn_up_ne (Or.inl (by omega)), hn_up_ne (Or.inl (by omega))]⟩
            · rw [if_neg i0]
              by_cases i1 : (i : Int) = 1
              · rw [if_pos i1]
                obtain rfl : i = 1 := by omega
                have f := hb_X7_path_74_12 (sx := sx) (sL := sL) (C := hn_ret sx sL (d + 2)) (I := (hn_up (hn_up (hn_up I 67 0 x) 67 1 K) 67 2 y)) (k := k) (g := g) (x1 := x) (x2 := y) (n3 := 1) (x4 := K) (x5 := M) (n6 := 3) (x7 := 4) (h1 := by decide) (h2 := by decide) (h3 := by decide)
                have key : K = K := by omega
                rw [← key]
                exact ⟨_, hn_of rfl (r0.tr (s0.tr (s1.tr (s2.tr (s3.tr f))))), fun c hc j => by rw [hn_up_ne (Or.inl (by omega)), hn_up_ne (Or.inl (by omega)), hn_up_ne (Or.inl (by omega))]⟩
              · rw [if_neg i1]
                by_cases i2 : (i : Int) = 2
                · rw [if_pos i2]
                  obtain rfl : i = 2 := by omega
                  have f := hb_X7_path_74_12 (sx := sx) (sL := sL) (C := hn_ret sx sL (d + 2)) (I := (hn_up (hn_up (hn_up I 67 0 x) 67 1 K) 67 2 y)) (k := k) (g := g) (x1 := x) (x2 := y) (n3 := 2) (x4 := K) (x5 := M) (n6 := 3) (x7 := 4) (h1 := by decide) (h2 := by decide) (h3 := by decide)
                  have key : y = y := by omega
                  rw [← key]
                  exact ⟨_, hn_of rfl (r0.tr (s0.tr (s1.tr (s2.tr (s3.tr f))))), fun c hc j => by rw [hn_up_ne (Or.inl (by omega)), hn_up_ne (Or.inl (by omega)), hn_up_ne (Or.inl (by omega))]⟩
                · rw [if_neg i2]
                  have f := hb_X7_path_74_13 (sx := sx) (sL := sL) (C := hn_ret sx sL (d + 2)) (I := (hn_up (hn_up (hn_up I 67 0 x) 67 1 K) 67 2 y)) (k := k) (g := g) (x1 := x) (x2 := y) (n3 := i) (x4 := K) (x5 := M) (n6 := 3) (x7 := 4) (h1 := by decide) (h2 := by omega)
                  exact ⟨_, hn_of rfl (r0.tr (s0.tr (s1.tr (s2.tr (s3.tr f))))), fun c hc j => by rw [hn_up_ne (Or.inl (by omega)), hn_up_ne (Or.inl (by omega)), hn_up_ne (Or.inl (by omega))]⟩
        · rw [if_neg q2]
          by_cases q3 : y = M
          · rw [if_pos q3]
            have s0 := hb_X7_path_74_0 (sx := sx) (sL := sL) (C := hn_ret sx sL (d + 2)) (I := I) (k := k) (g := g) (x1 := x) (x2 := y) (n3 := i) (x4 := K) (x5 := M) (n6 := 0) (x7 := 0) (h1 := by decide) (h2 := rfl) (h3 := rfl) (h4 := by decide) (h5 := by decide) (h6 := by decide)
            have s1 := hb_X7_path_74_5 (sx := sx) (sL := sL) (C := hn_ret sx sL (d + 2)) (I := (hn_up I 67 0 x)) (k := k) (g := g) (x1 := x) (x2 := y) (n3 := i) (x4 := K) (x5 := M) (n6 := 1) (x7 := 1) (h1 := by decide) (h2 := by decide) (h3 := rfl) (h4 := by decide) (h5 := by decide) (h6 := by decide) (h7 := (show ¬ x = K by omega)) (h8 := by decide) (h9 := by decide) (h10 := by decide)
            have s2 := hb_X7_path_74_8 (sx := sx) (sL := sL) (C := hn_ret sx sL (d + 2)) (I := (hn_up (hn_up I 67 0 x) 67 1 K)) (k := k) (g := g) (x1 := x) (x2 := y) (n3 := i) (x4 := K) (x5 := M) (n6 := 2) (x7 := 2) (h1 := by decide) (h2 := by decide) (h3 := by decide) (h4 := rfl) (h5 := by decide) (h6 := by decide) (h7 := by decide) (h8 := (show ¬ K = M by omega)) (h9 := by decide) (h10 := by decide) (h11 := by decide)
            have s3 := hb_X7_path_74_10 (sx := sx) (sL := sL) (C := hn_ret sx sL (d + 2)) (I := (hn_up (hn_up (hn_up I 67 0 x) 67 1 K) 67 2 M)) (k := k) (g := g) (x1 := x) (x2 := y) (n3 := i) (x4 := K) (x5 := M) (n6 := 3) (x7 := 3) (h1 := by decide) (h2 := by decide) (h3 := by decide) (h4 := by decide) (h5 := by decide) (h6 := by decide) (h7 := by decide) (h8 := (show M = y by omega)) (h9 := by decide)
            by_cases i0 : (i : Int) = 0
            · rw [if_pos i0]
              obtain rfl : i = 0 := by omega
              have f := hb_X7_path_74_12 (sx := sx) (sL := sL) (C := hn_ret sx sL (d + 2)) (I := (hn_up (hn_up (hn_up I 67 0 x) 67 1 K) 67 2 M)) (k := k) (g := g) (x1 := x) (x2 := y) (n3 := 0) (x4 := K) (x5 := M) (n6 := 3) (x7 := 4) (h1 := by decide) (h2 := by decide) (h3 := by decide)
              have key : x = x := by omega
              rw [← key]
              exact ⟨_, hn_of rfl (r0.tr (s0.tr (s1.tr (s2.tr (s3.tr f))))), fun c hc j => by rw [hn_up_ne (Or.inl (by omega)), hn_up_ne (Or.inl (by omega)), hn_up_ne (Or.inl (by omega))]⟩
            · rw [if_neg i0]
              by_cases i1 : (i : Int) = 1
              · rw [if_pos i1]
                obtain rfl : i = 1 := by omega
                have f := hb_X7_path_74_12 (sx := sx) (sL := sL) (C := hn_ret sx sL (d + 2)) (I := (hn_up (hn_up (hn_up I 67 0 x) 67 1 K) 67 2 M)) (k := k) (g := g) (x1 := x) (x2 := y) (n3 := 1) (x4 := K) (x5 := M) (n6 := 3) (x7 := 4) (h1 := by decide) (h2 := by decide) (h3 := by decide)
                have key : K = K := by omega
                rw [← key]
                exact ⟨_, hn_of rfl (r0.tr (s0.tr (s1.tr (s2.tr (s3.tr f))))), fun c hc j => by rw [hn_up_ne (Or.inl (by omega)), hn_up_ne (Or.inl (by omega)), hn_up_ne (Or.inl (by omega))]⟩
              · rw [if_neg i1]
                by_cases i2 : (i : Int) = 2
                · rw [if_pos i2]
                  obtain rfl : i = 2 := by omega
                  have f := hb_X7_path_74_12 (sx := sx) (sL := sL) (C := hn_ret sx sL (d + 2)) (I := (hn_up (hn_up (hn_up I 67 0 x) 67 1 K) 67 2 M)) (k := k) (g := g) (x1 := x) (x2 := y) (n3 := 2) (x4 := K) (x5 := M) (n6 := 3) (x7 := 4) (h1 := by decide) (h2 := by decide) (h3 := by decide)
                  have key : M = M := by omega
                  rw [← key]
                  exact ⟨_, hn_of rfl (r0.tr (s0.tr (s1.tr (s2.tr (s3.tr f))))), fun c hc j => by rw [hn_up_ne (Or.inl (by omega)), hn_up_ne (Or.inl (by omega)), hn_up_ne (Or.inl (by omega))]⟩
                · rw [if_neg i2]
                  have f := hb_X7_path_74_13 (sx := sx) (sL := sL) (C := hn_ret sx sL (d + 2)) (I := (hn_up (hn_up (hn_up I 67 0 x) 67 1 K) 67 2 M)) (k := k) (g := g) (x1 := x) (x2 := y) (n3 := i) (x4 := K) (x5 := M) (n6 := 3) (x7 := 4) (h1 := by decide) (h2 := by omega)
                  exact ⟨_, hn_of rfl (r0.tr (s0.tr (s1.tr (s2.tr (s3.tr f))))), fun c hc j => by rw [hn_up_ne (Or.inl (by omega)), hn_up_ne (Or.inl (by omega)), hn_up_ne (Or.inl (by omega))]⟩
          · rw [if_neg q3]
            have s0 := hb_X7_path_74_0 (sx := sx) (sL := sL) (C := hn_ret sx sL (d + 2)) (I := I) (k := k) (g := g) (x1 := x) (x2 := y) (n3 := i) (x4 := K) (x5 := M) (n6 := 0) (x7 := 0) (h1 := by decide) (h2 := rfl) (h3 := rfl) (h4 := by decide) (h5 := by decide) (h6 := by decide)
            have s1 := hb_X7_path_74_5 (sx := sx) (sL := sL) (C := hn_ret sx sL (d + 2)) (I := (hn_up I 67 0 x)) (k := k) (g := g) (x1 := x) (x2 := y) (n3 := i) (x4 := K) (x5 := M) (n6 := 1) (x7 := 1) (h1 := by decide) (h2 := by decide) (h3 := rfl) (h4 := by decide) (h5 := by decide) (h6 := by decide) (h7 := (show ¬ x = K by omega)) (h8 := by decide) (h9 := by decide) (h10 := by decide)
            have s2 := hb_X7_path_74_8 (sx := sx) (sL := sL) (C := hn_ret sx sL (d + 2)) (I := (hn_up (hn_up I 67 0 x) 67 1 K)) (k := k) (g := g) (x1 := x) (x2 := y) (n3 := i) (x4 := K) (x5 := M) (n6 := 2) (x7 := 2) (h1 := by decide) (h2 := by decide) (h3 := by decide) (h4 := rfl) (h5 := by decide) (h6 := by decide) (h7 := by decide) (h8 := (show ¬ K = M by omega)) (h9 := by decide) (h10 := by decide) (h11 := by decide)
            have s3 := hb_X7_path_74_11 (sx := sx) (sL := sL) (C := hn_ret sx sL (d + 2)) (I := (hn_up (hn_up (hn_up I 67 0 x) 67 1 K) 67 2 M)) (k := k) (g := g) (x1 := x) (x2 := y) (n3 := i) (x4 := K) (x5 := M) (n6 := 3) (x7 := 3) (h1 := by decide) (h2 := by decide) (h3 := by decide) (h4 := by decide) (h5 := by decide) (h6 := by decide) (h7 := by decide) (h8 := (show ¬ M = y by omega)) (h9 := by decide) (h10 := by decide) (h11 := by decide)
            by_cases i0 : (i : Int) = 0
            · rw [if_pos i0]
              obtain rfl : i = 0 := by omega
              have f := hb_X7_path_74_12 (sx := sx) (sL := sL) (C := hn_ret sx sL (d + 2)) (I := (hn_up (hn_up (hn_up (hn_up I 67 0 x) 67 1 K) 67 2 M) 67 3 y)) (k := k) (g := g) (x1 := x) (x2 := y) (n3 := 0) (x4 := K) (x5 := M) (n6 := 4) (x7 := 4) (h1 := by decide) (h2 := by decide) (h3 := by decide)
              have key : x = x := by omega
              rw [← key]
              exact ⟨_, hn_of rfl (r0.tr (s0.tr (s1.tr (s2.tr (s3.tr f))))), fun c hc j => by rw [hn_up_ne (Or.inl (by omega)), hn_up_ne (Or.inl (by omega)), hn_up_ne (Or.inl (by omega)), hn_up_ne (Or.inl (by omega))]⟩
            · rw [if_neg i0]
              by_cases i1 : (i : Int) = 1
              · rw [if_pos i1]
                obtain rfl : i = 1 := by omega
                have f := hb_X7_path_74_12 (sx := sx) (sL := sL) (C := hn_ret sx sL (d + 2)) (I := (hn_up (hn_up (hn_up (hn_up I 67 0 x) 67 1 K) 67 2 M) 67 3 y)) (k := k) (g := g) (x1 := x) (x2 := y) (n3 := 1) (x4 := K) (x5 := M) (n6 := 4) (x7 := 4) (h1 := by decide) (h2 := by decide) (h3 := by decide)
                have key : K = K := by omega
                rw [← key]
                exact ⟨_, hn_of rfl (r0.tr (s0.tr (s1.tr (s2.tr (s3.tr f))))), fun c hc j => by rw [hn_up_ne (Or.inl (by omega)), hn_up_ne (Or.inl (by omega)), hn_up_ne (Or.inl (by omega)), hn_up_ne (Or.inl (by omega))]⟩
              · rw [if_neg i1]
                by_cases i2 : (i : Int) = 2
                · rw [if_pos i2]
                  obtain rfl : i = 2 := by omega
                  have f := hb_X7_path_74_12 (sx := sx) (sL := sL) (C := hn_ret sx sL (d + 2)) (I := (hn_up (hn_up (hn_up (hn_up I 67 0 x) 67 1 K) 67 2 M) 67 3 y)) (k := k) (g := g) (x1 := x) (x2 := y) (n3 := 2) (x4 := K) (x5 := M) (n6 := 4) (x7 := 4) (h1 := by decide) (h2 := by decide) (h3 := by decide)
                  have key : M = M := by omega
                  rw [← key]
                  exact ⟨_, hn_of rfl (r0.tr (s0.tr (s1.tr (s2.tr (s3.tr f))))), fun c hc j => by rw [hn_up_ne (Or.inl (by omega)), hn_up_ne (Or.inl (by omega)), hn_up_ne (Or.inl (by omega)), hn_up_ne (Or.inl (by omega))]⟩
                · rw [if_neg i2]
                  by_cases i3 : (i : Int) = 3
                  · rw [if_pos i3]
                    obtain rfl : i = 3 := by omega
                    have f := hb_X7_path_74_12 (sx := sx) (sL := sL) (C := hn_ret sx sL (d + 2)) (I := (hn_up (hn_up (hn_up (hn_up I 67 0 x) 67 1 K) 67 2 M) 67 3 y)) (k := k) (g := g) (x1 := x) (x2 := y) (n3 := 3) (x4 := K) (x5 := M) (n6 := 4) (x7 := 4) (h1 := by decide) (h2 := by decide) (h3 := by decide)
                    have key : y = y := by omega
                    rw [← key]
                    exact ⟨_, hn_of rfl (r0.tr (s0.tr (s1.tr (s2.tr (s3.tr f))))), fun c hc j => by rw [hn_up_ne (Or.inl (by omega)), hn_up_ne (Or.inl (by omega)), hn_up_ne (Or.inl (by omega)), hn_up_ne (Or.inl (by omega))]⟩
                  · rw [if_neg i3]
                    have f := hb_X7_path_74_13 (sx := sx) (sL := sL) (C := hn_ret sx sL (d + 2)) (I := (hn_up (hn_up (hn_up (hn_up I 67 0 x) 67 1 K) 67 2 M) 67 3 y)) (k := k) (g := g) (x1 := x) (x2 := y) (n3 := i) (x4 := K) (x5 := M) (n6 := 4) (x7 := 4) (h1 := by decide) (h2 := by omega)
                    exact ⟨_, hn_of rfl (r0.tr (s0.tr (s1.tr (s2.tr (s3.tr f))))), fun c hc j => by rw [hn_up_ne (Or.inl (by omega)), hn_up_ne (Or.inl (by omega)), hn_up_ne (Or.inl (by omega)), hn_up_ne (Or.inl (by omega))]⟩
    · rw [if_neg h2] at c2
      rw [if_neg (fun q => h2 q.2)]
      exact ⟨I, hn_of rfl (hi_X7_path_0_1 (c1 := c1) (h2 := by decide) (c3 := c2) (h4 := by decide)), fun _ _ _ => rfl⟩
  · rw [if_neg h1] at c1
    rw [if_neg (fun q => h1 q.1)]
    exact ⟨I, hn_of rfl (hi_X7_path_0_0 (c1 := c1) (h2 := by decide)), fun _ _ _ => rfl⟩
theorem hx_path (d : Nat) (hA : hn_AI a) (h : hn_MC I b a) (x y z : Int) : ∃ I', hn_ret sx sL (d + 3) 130 [hn_vr 64, hn_vi x, hn_vi y, hn_vi z] (hn_m I k g) (some (hn_vi (hr_path a.1 x y z))) (hn_m I' k g) ∧ hn_MC I' b a ∧ hn_fM I' I := by
  obtain ⟨I', r, f⟩ := hx_path0 (sx := sx) (sL := sL) (k := k) (g := g) d hA h x y z
  exact ⟨I', r, h.mv (f 65 (by omega)) (fun j _ => f 64 (by omega) j) (f 75 (by omega)), fun c hc j => f c (by omega) j⟩
end HX44
