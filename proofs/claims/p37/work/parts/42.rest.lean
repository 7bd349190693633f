/-! the class's public methods: texts, run, undo, digest -/
theorem hc_tx {I : Nat → Nat → Int} {k : Nat → Option Nat} {a : hn_AA} (hA : hn_AI a) (h : hn_HC I k a) : hn_tx I a.2.2.1 a.2.2.2 := ⟨h.2.2.1, hA.2.2.2.1, fun j hj => ⟨h.2.2.2 j hj, hA.2.2.2.2 j hj⟩⟩
def hn_do (s : hn_S) (c : Int × (Nat → Int)) : Int × hn_S :=
  if c.1 = 102 then (hr_flow s (c.2 0) (c.2 1) (c.2 2), hs_flow s (c.2 0) (c.2 1) (c.2 2)) else if c.1 = 104 then (hr_hub s (c.2 0), hs_hub s (c.2 0) 1) else if c.1 = 110 then (hr_add s (c.2 0) (c.2 1) (c.2 2) (c.2 3), hs_add s (c.2 0) (c.2 1) (c.2 2) (c.2 3)) else if c.1 = 117 then (hr_hub s (c.2 0), hs_hub s (c.2 0) 0) else (hr_under s (c.2 0) (c.2 1), hs_under s (c.2 0) (c.2 1))
theorem hn_do_Iv {s : hn_S} (hI : hn_Iv s) (c : Int × (Nat → Int)) : hn_Iv (hn_do s c).2 := by
  unfold hn_do
  by_cases e1 : c.1 = 102
  · rw [if_pos e1]
    exact hn_Iv_hs_flow hI _ _ _
  rw [if_neg e1]
  by_cases e2 : c.1 = 104
  · rw [if_pos e2]
    exact hn_Iv_hs_hub hI _ _
  rw [if_neg e2]
  by_cases e3 : c.1 = 110
  · rw [if_pos e3]
    exact hn_Iv_hs_add hI _ _ _ _
  rw [if_neg e3]
  by_cases e4 : c.1 = 117
  · rw [if_pos e4]
    exact hn_Iv_hs_hub hI _ _
  rw [if_neg e4]
  exact hn_Iv_hs_under hI _ _
def hn_ex : List (Int × (Nat → Int)) → hn_S → Nat × hn_S
  | [], s => (0, s)
  | c :: L, s => if (hn_do s c).1 < -1 then (0, (hn_do s c).2) else ((hn_ex L (hn_do s c).2).1 + 1, (hn_ex L (hn_do s c).2).2)
theorem hn_ex_Iv : ∀ (L : List (Int × (Nat → Int))) {s : hn_S}, hn_Iv s → hn_Iv (hn_ex L s).2
  | [], _, h => h
  | c :: L, s, h => by
    have q := hn_do_Iv h c
    unfold hn_ex
    by_cases e : (hn_do s c).1 < -1
    · rw [if_pos e]
      exact q
    · rw [if_neg e]
      exact hn_ex_Iv L q
theorem hn_cm_ok {t : Nat → Int} {ln i : Nat} (h : (hn_cm t ln i).1 = true) : hn_nof (hn_cm t ln i).2.2.1 ≠ 0 := by
  unfold hn_cm at h ⊢
  by_cases e : hn_af (hn_bl t) ln i < ln ∧ hn_nof (t (hn_af (hn_bl t) ln i)) ≠ 0
  · rw [if_pos e]
    exact e.2
  · rw [if_neg e] at h
    exact absurd h Bool.false_ne_true
theorem hn_par_ok {t : Nat → Int} {ln : Nat} : ∀ (f i : Nat) (c : Int × (Nat → Int)), c ∈ (hn_par t ln f i).1 → hn_nof c.1 ≠ 0
  | 0, i, c, h => absurd h (by show ¬ c ∈ []; simp)
  | f + 1, i, c, h => by
    unfold hn_par at h
    by_cases e1 : (hn_cm t ln i).1 = true
    · have ok := hn_cm_ok e1
      rw [if_pos e1] at h
      by_cases e2 : hn_af (hn_bl t) ln (hn_cm t ln i).2.1 < ln
      · rw [if_pos e2] at h
        by_cases e3 : t (hn_af (hn_bl t) ln (hn_cm t ln i).2.1) = 59
        · rw [if_pos e3] at h
          rcases List.mem_cons.mp h with q | q
          · rw [q]
            exact ok
          · exact hn_par_ok f _ c q
        · rw [if_neg e3] at h
          rw [List.mem_singleton.mp h]
          exact ok
      · rw [if_neg e2] at h
        rw [List.mem_singleton.mp h]
        exact ok
    · rw [if_neg e1] at h
      exact absurd h (by show ¬ c ∈ []; simp)
def hn_txt (a : hn_AA) : List (Int × (Nat → Int)) × Int := hn_par a.2.2.1 a.2.2.2 41 0
def hr_run (a : hn_AA) : Int := if (hn_txt a).2 = -1 then ((hn_ex (hn_txt a).1 a.1).1 : Int) else -4
def hs_run (a : hn_AA) : hn_S := if (hn_txt a).2 = -1 then (hn_ex (hn_txt a).1 a.1).2 else a.1
def hr_type (a : hn_AA) (c : Int) : Int := if 0 ≤ c ∧ c ≤ 255 then (if a.2.2.2 < 120 then (a.2.2.2 : Int) + 1 else -5) else -3
def hn_typ (a : hn_AA) (c : Int) : hn_AA := if (0 ≤ c ∧ c ≤ 255) ∧ a.2.2.2 < 120 then (a.1, a.2.1, hn_ups a.2.2.1 a.2.2.2 c, a.2.2.2 + 1) else a
def hn_clr (a : hn_AA) : hn_AA := (a.1, a.2.1, a.2.2.1, 0)
def hr_undo (a : hn_AA) : Int := if a.2.1 = [] then -4 else (a.2.1.length : Int) - 1
def hn_und (a : hn_AA) : hn_AA := (a.2.1.getLast?.getD a.1, a.2.1.dropLast, a.2.2)
theorem hn_AI.typ {a : hn_AA} (h : hn_AI a) (c : Int) : hn_AI (hn_typ a c) := by
  unfold hn_typ
  by_cases e : (0 ≤ c ∧ c ≤ 255) ∧ a.2.2.2 < 120
  · rw [if_pos e]
    refine ⟨h.1, h.2.1, h.2.2.1, by show a.2.2.2 + 1 ≤ 120; omega, fun j hj => ?_⟩
    show 0 ≤ hn_ups a.2.2.1 a.2.2.2 c j ∧ hn_ups a.2.2.1 a.2.2.2 c j ≤ 255
    unfold hn_ups
    by_cases q : j = a.2.2.2
    · rw [if_pos q]
      exact e.1
    · rw [if_neg q]
      have hj' : j < a.2.2.2 + 1 := hj
      exact h.2.2.2.2 j (by omega)
  · rw [if_neg e]
    exact h
theorem hn_AI.clr {a : hn_AA} (h : hn_AI a) : hn_AI (hn_clr a) := ⟨h.1, h.2.1, h.2.2.1, Nat.zero_le _, fun j hj => absurd hj (Nat.not_lt_zero j)⟩
theorem hn_und_c {a : hn_AA} {h : List hn_S} {x : hn_S} (e : a.2.1 = h ++ [x]) : hn_und a = (x, h, a.2.2) := by
  unfold hn_und
  rw [e]
  simp
theorem hn_und_n {a : hn_AA} (e : a.2.1 = []) : hn_und a = a := by
  unfold hn_und
  rw [e]
  show (a.1, [], a.2.2) = a
  rw [← e]
theorem hn_AI.und {a : hn_AA} (h : hn_AI a) : hn_AI (hn_und a) := by
  rcases List.eq_nil_or_concat a.2.1 with e | ⟨L, x, e⟩
  · rw [hn_und_n e]
    exact h
  · have e' : a.2.1 = L ++ [x] := by rw [e]; simp
    rw [hn_und_c e']
    obtain ⟨h1, h2, h3, h4⟩ := h
    rw [e'] at h2 h3
    refine ⟨h2 x (by simp), fun y hy => h2 y (by simp [hy]), ?_, h4⟩
    rw [List.length_append, List.length_singleton] at h3
    show L.length ≤ 4
    omega
/-- the digest -/
def hn_dgs (h : Int64) (x : Int) : Int64 := 31 * h + Int64.ofInt x
def hn_dg1 (s : hn_S) (v : Nat) (h : Int64) : Int64 := hn_dgs (hn_itr 6 (fun w h => hn_dgs h (hr_prop s v w)) h) (s (42 + v))
def hn_dg2 (s : hn_S) (a : Nat) (h : Int64) : Int64 := hn_itr (hn_n s) (fun b h => hn_dgs h (hr_fl s a b)) h
def hr_digest (s : hn_S) : Int64 := hn_itr 9 (fun j h => hn_dgs h (s (j + 1))) (hn_itr (hn_n s) (hn_dg2 s) (hn_itr (hn_n s) (hn_dg1 s) (217 + Int64.ofInt (s 0))))
section HX42
variable {sx : Nat → Int} {sL : Nat} {I : Nat → Nat → Int} {k : Nat → Option Nat} {g : Nat → Nat → Int64} {a : hn_AA} {s : hn_S}
theorem hm_number (d : Nat) {m u : Nat} (hm : m < 41) (hu : u < 4) : hn_ret sx sL (d + 1) 51 [hn_vr 60, hn_vi m, hn_vi u] (hn_m I k g) (some (hn_vi (I 63 (4 * m + u)))) (hn_m I k g) := by
  rw [Nat.mul_comm 4 m]
  exact hn_of rfl (hb_X5_number_0_0 (h1 := by omega) (h2 := by omega) (h3 := by omega))
theorem hm_carryOut (d : Nat) (hI : hn_Iv s) (h : hn_HS I 1 s) {m : Nat} (hm : m < 41) {c : Int × (Nat → Int)} (h1 : I 62 m = c.1) (h2 : ∀ u, u < hn_nof c.1 → I 63 (4 * m + u) = c.2 u) (h3 : hn_nof c.1 ≠ 0) :
    ∃ I', hn_ret sx sL (d + 4) 93 [hn_vr 0, hn_vi m] (hn_m I k g) (some (hn_vi (hn_do s c).1)) (hn_m I' k g) ∧ hn_HS I' 1 (hn_do s c).2 ∧ ∀ c, c < 1 ∨ 8 ≤ c → ∀ j, I' c j = I c j := by
  have c0 := hm_number (sx := sx) (sL := sL) (I := I) (k := k) (g := g) (d + 2) hm (u := 0) (by omega)
  have c1 := hm_number (sx := sx) (sL := sL) (I := I) (k := k) (g := g) (d + 2) hm (u := 1) (by omega)
  have c2 := hm_number (sx := sx) (sL := sL) (I := I) (k := k) (g := g) (d + 2) hm (u := 2) (by omega)
  have c3 := hm_number (sx := sx) (sL := sL) (I := I) (k := k) (g := g) (d + 2) hm (u := 3) (by omega)
  unfold hn_do
  by_cases e1 : c.1 = 102
  · have en : hn_nof c.1 = 3 := by rw [e1]; rfl
    rw [en] at h2
    rw [h2 0 (by omega)] at c0
    rw [h2 1 (by omega)] at c1
    rw [h2 2 (by omega)] at c2
    rw [if_pos e1]
    obtain ⟨I', r, t, f⟩ := hm_putFlow (sx := sx) (sL := sL) (k := k) (g := g) (d + 1) hI h (c.2 0) (c.2 1) (c.2 2)
    exact ⟨I', hn_of rfl (hb_X6_carryOut_0_0 (c1 := c0) (c2 := c1) (c3 := c2) (h4 := by omega) (h5 := by omega) (c6 := r)), t, f⟩
  rw [if_neg e1]
  by_cases e2 : c.1 = 104
  · have en : hn_nof c.1 = 1 := by rw [e2]; rfl
    rw [en] at h2
    rw [h2 0 (by omega)] at c0
    rw [if_pos e2]
    obtain ⟨I', r, t, f⟩ := hm_putHub (sx := sx) (sL := sL) (k := k) (g := g) (d + 1) hI h (c.2 0) 1
    exact ⟨I', hn_of rfl (hb_X6_carryOut_0_1 (c1 := c0) (c2 := c1) (c3 := c2) (h4 := by omega) (h5 := by omega) (h6 := by omega) (c7 := r)), t, f⟩
  rw [if_neg e2]
  by_cases e3 : c.1 = 110
  · have en : hn_nof c.1 = 4 := by rw [e3]; rfl
    rw [en] at h2
    rw [h2 0 (by omega)] at c0
    rw [h2 1 (by omega)] at c1
    rw [h2 2 (by omega)] at c2
    rw [h2 3 (by omega)] at c3
    rw [if_pos e3]
    obtain ⟨I', r, t, f⟩ := hm_insertNode (sx := sx) (sL := sL) (k := k) (g := g) (d + 1) hI h (c.2 0) (c.2 1) (c.2 2) (c.2 3)
    exact ⟨I', hn_of rfl (hb_X6_carryOut_0_2 (c1 := c0) (c2 := c1) (c3 := c2) (h4 := by omega) (h5 := by omega) (h6 := by omega) (h7 := by omega) (c8 := c3) (c9 := r)), t, f⟩
  rw [if_neg e3]
  by_cases e4 : c.1 = 117
  · have en : hn_nof c.1 = 1 := by rw [e4]; rfl
    rw [en] at h2
    rw [h2 0 (by omega)] at c0
    rw [if_pos e4]
    obtain ⟨I', r, t, f⟩ := hm_putHub (sx := sx) (sL := sL) (k := k) (g := g) (d + 1) hI h (c.2 0) 0
    exact ⟨I', hn_of rfl (hb_X6_carryOut_0_3 (c1 := c0) (c2 := c1) (c3 := c2) (h4 := by omega) (h5 := by omega) (h6 := by omega) (h7 := by omega) (h8 := by omega) (c9 := r)), t, f⟩
  rw [if_neg e4]
  have e5 : c.1 = 97 := by
    unfold hn_nof at h3
    rw [if_neg e1, if_neg e2, if_neg e3, if_neg e4] at h3
    by_cases q : c.1 = 97
    · exact q
    · rw [if_neg q] at h3
      exact absurd rfl h3
  have en : hn_nof c.1 = 2 := by rw [e5]; rfl
  rw [en] at h2
  rw [h2 0 (by omega)] at c0
  rw [h2 1 (by omega)] at c1
  obtain ⟨I', r, t, f⟩ := hm_putUnder (sx := sx) (sL := sL) (k := k) (g := g) d hI h (c.2 0) (c.2 1)
  exact ⟨I', hn_of rfl (hb_X6_carryOut_0_4 (c1 := c0) (c2 := c1) (c3 := c2) (h4 := by omega) (h5 := by omega) (h6 := by omega) (h7 := by omega) (h8 := by omega) (c9 := r)), t, f⟩
theorem hc_runL (d : Nat) : ∀ (L : List (Int × (Nat → Int))) (m : Nat) (J : Nat → Nat → Int) (s : hn_S), hn_Iv s → hn_HS J 1 s → J 60 4 = ((m + L.length : Nat) : Int) → m + L.length ≤ 41 → hn_ls J m L → (∀ c, c ∈ L → hn_nof c.1 ≠ 0) →
    ∃ J', hn_HS J' 1 (hn_ex L s).2 ∧ (∀ c, c < 1 ∨ 8 ≤ c → ∀ j, J' c j = J c j) ∧ ∀ (J3 : Nat → Nat → Int) (k3 : Nat → Option Nat), hn_ret sx sL (d + 4) 92 [hn_vr 0, hn_vi ((m + (hn_ex L s).1 : Nat) : Int)] (hn_m J' k g) (some (hn_vi ((m + (hn_ex L s).1 : Nat) : Int))) (hn_m J3 k3 g) →
      hn_go sx sL (hn_ret sx sL (d + 4)) (hn_nx 89 27 [some (hn_vr 0), some (hn_vi m)] [] (hn_m J k g)) (.inr (some (hn_vi ((m + (hn_ex L s).1 : Nat) : Int)), hn_m J3 k3 g))
  | [], m, J, s, hI, hH, h4, hl, hL, hk => ⟨J, hH, fun _ _ _ => rfl, fun J3 k3 q => hb_X6_run_27_2 (x1 := (m : Int)) (h1 := by rw [h4]; show ¬ (m : Int) < ((m + 0 : Nat) : Int); omega) (c2 := q)⟩
  | c :: L, m, J, s, hI, hH, h4, hl, hL, hk => by
    rw [List.length_cons] at h4 hl
    have h0 := hL 0 c rfl
    obtain ⟨J1, c1, t1, f1⟩ := hm_carryOut (sx := sx) (sL := sL) (k := k) (g := g) d hI hH (m := m) (by omega) (c := c) h0.1 h0.2 (hk c (by simp))
    by_cases e : (hn_do s c).1 < -1
    · have ee : hn_ex (c :: L) s = (0, (hn_do s c).2) := if_pos e
      rw [ee]
      exact ⟨J1, t1, f1, fun J3 k3 q => hb_X6_run_27_0 (x1 := (m : Int)) (h1 := by omega) (c2 := c1) (h3 := e) (c4 := q)⟩
    · have ee : hn_ex (c :: L) s = ((hn_ex L (hn_do s c).2).1 + 1, (hn_ex L (hn_do s c).2).2) := if_neg e
      rw [ee]
      obtain ⟨J2, t2, f2, r2⟩ := hc_runL d L (m + 1) J1 (hn_do s c).2 (hn_do_Iv hI c) t1 (by rw [f1 60 (by omega), h4]; congr 1; omega) (by omega) (fun i x hx => by
        have q := hL (i + 1) x hx
        rw [show m + 1 + i = m + (i + 1) by omega]
        exact ⟨by rw [f1 62 (by omega)]; exact q.1, fun u hu => by rw [f1 63 (by omega)]; exact q.2 u hu⟩) (fun x hx => hk x (by simp [hx]))
      refine ⟨J2, t2, fun c hc j => by rw [f2 c hc, f1 c hc], fun J3 k3 q => ?_⟩
      have q' : hn_ret sx sL (d + 4) 92 [hn_vr 0, hn_vi ((m + ((hn_ex L (hn_do s c).2).1 + 1) : Nat) : Int)] (hn_m J2 k g) (some (hn_vi ((m + ((hn_ex L (hn_do s c).2).1 + 1) : Nat) : Int))) (hn_m J3 k3 g) := q
      have em : m + ((hn_ex L (hn_do s c).2).1 + 1) = m + 1 + (hn_ex L (hn_do s c).2).1 := by omega
      rw [em] at q'
      have z := r2 J3 k3 q'
      have r0 := hb_X6_run_27_1 (sx := sx) (sL := sL) (x1 := (m : Int)) (h1 := by omega) (c2 := c1) (h3 := e) (h4 := by omega)
      rw [← Int.natCast_succ] at r0
      show hn_go sx sL _ _ (.inr (some (hn_vi ((m + ((hn_ex L (hn_do s c).2).1 + 1) : Nat) : Int)), hn_m J3 k3 g))
      rw [em]
      exact r0.tr z
theorem hc_textFault (d : Nat) (hA : hn_AI a) (h : hn_HC I k a) : ∃ I', hn_ret sx sL (d + 4) 88 [hn_vr 0] (hn_m I k g) (some (hn_vi (hn_txt a).2)) (hn_m I' k g) ∧ hn_HC I' k a ∧ hn_fC I' I := by
  obtain ⟨I', c1, f1, f2, -⟩ := hm_parse (sx := sx) (sL := sL) (k := k) (g := g) d (hc_tx hA h)
  exact ⟨I', hn_of rfl (hb_X6_textFault_0_0 c1), h.mv (fun c hc j => f1 c (by omega) (by omega) (by omega) j) f2, fun c hc j => f1 c (by omega) (by omega) (by omega) j⟩
theorem hc_run (d : Nat) (hA : hn_AI a) (h : hn_HC I k a) : ∃ I' k', hn_ret sx sL (d + 5) 89 [hn_vr 0] (hn_m I k g) (some (hn_vi (hr_run a))) (hn_m I' k' g) ∧ hn_HC I' k' (hn_rec a (hr_run a) (hs_run a)) ∧ hn_fC I' I := by
  obtain ⟨I1, c1, f1, f2, f3⟩ := hm_parse (sx := sx) (sL := sL) (k := k) (g := g) (d + 1) (hc_tx hA h)
  have h1 : hn_HC I1 k a := h.mv (fun c hc j => f1 c (by omega) (by omega) (by omega) j) f2
  have w1 : hn_fC I1 I := fun c hc j => f1 c (by omega) (by omega) (by omega) j
  by_cases e : (hn_txt a).2 = -1
  · have er : hr_run a = ((hn_ex (hn_txt a).1 a.1).1 : Int) := if_pos e
    have es : hs_run a = (hn_ex (hn_txt a).1 a.1).2 := if_pos e
    obtain ⟨q1, q2, q3⟩ := f3 e
    have c2 := hm_copyB (sx := sx) (sL := sL) (I := I1) (k := k) (g := g) (d + 3)
    obtain ⟨g8, gC⟩ := hc_copy h1
    obtain ⟨J', t, f, r⟩ := hc_runL (sx := sx) (sL := sL) (k := k) (g := g) d (hn_txt a).1 0 (hn_cpy I1 8 1) a.1 hA.1 gC.1 (by rw [hn_cpy_fr (by omega), q1, Nat.zero_add]; rfl) (by rw [Nat.zero_add]; exact q2) (fun m c hm => by
      have q := q3 m c hm
      rw [hn_cpy_fr (by omega)]
      exact ⟨q.1, fun u hu => by rw [hn_cpy_fr (by omega)]; exact q.2 u hu⟩) (fun c hc => hn_par_ok 41 0 c hc)
    obtain ⟨I6, k6, c6, h6, w6⟩ := hc_end (sx := sx) (sL := sL) (g := g) (d + 1) h1 t (fun c hc j => f c (by omega) j) ((hn_ex (hn_txt a).1 a.1).1 : Int)
    rw [er, es]
    have z := r I6 k6 (by rw [Nat.zero_add]; exact c6)
    rw [Nat.zero_add] at z
    exact ⟨I6, k6, hn_of rfl ((hb_X6_run_0_0 (c1 := c1) (h2 := e) (c3 := c2)).tr z), h6, fun c hc j => by rw [w6 c hc, w1 c hc]⟩
  · have er : hr_run a = -4 := if_neg e
    have es := hc_same h1 (r := hr_run a) (t := hs_run a) (by omega) (if_neg e)
    refine ⟨I1, k, hn_of rfl ?_, es.1, w1⟩
    rw [er]
    exact hb_X6_run_0_1 (c1 := c1) (h2 := e)
theorem hc_undo (d : Nat) (h : hn_HC I k a) : ∃ I', hn_ret sx sL (d + 3) 90 [hn_vr 0] (hn_m I k g) (some (hn_vi (hr_undo a))) (hn_m I' k g) ∧ hn_HC I' k (hn_und a) ∧ hn_fC I' I := by
  rcases List.eq_nil_or_concat a.2.1 with e | ⟨L, x, e⟩
  · have hh := h.2.1
    rw [e] at hh
    have c1 := hm_restore0 (sx := sx) (sL := sL) (g := g) (d + 1) hh
    rw [hn_und_n e, hr_undo, if_pos e]
    exact ⟨I, hn_of rfl (hb_X6_undo_0_0 (c1 := c1) (h2 := rfl)), h, hn_fC.rf⟩
  · have e' : a.2.1 = L ++ [x] := by rw [e]; simp
    have hh := h.2.1
    rw [e'] at hh
    obtain ⟨I', c1, h1, h2, f1⟩ := hm_restore1 (sx := sx) (sL := sL) (g := g) d hh
    have er : hr_undo a = (L.length : Int) := by
      rw [hr_undo, if_neg (by rw [e']; simp), e', List.length_append, List.length_singleton]
      omega
    rw [hn_und_c e', er]
    have r := hb_X6_undo_0_1 (sx := sx) (sL := sL) (c1 := c1) (h2 := by decide)
    rw [h1.1] at r
    exact ⟨I', hn_of rfl r, ⟨h2, h1, by rw [f1 60 (by omega) (by omega)]; exact h.2.2.1, fun j hj => by rw [f1 61 (by omega) (by omega)]; exact h.2.2.2 j hj⟩, fun c hc j => f1 c (by omega) (by omega) j⟩
theorem hc_digest (d : Nat) (hA : hn_AI a) (h : hn_HC I k a) : hn_ret sx sL (d + 3) 91 [hn_vr 0] (hn_m I k g) (some (hn_vl (hr_digest a.1))) (hn_m I k g) := by
  have hn := h.1.n hA.1
  have h8 := hn_n8 hA.1
  have e0 := h.1.1
  have r0 := hb_X6_digest_0_0 (sx := sx) (sL := sL) (C := hn_ret sx sL (d + 2)) (I := I) (k := k) (g := g)
  rw [e0] at r0
  have r1 := hn_for (sx := sx) (sL := sL) (C := hn_ret sx sL (d + 2)) (fun i => hn_nx 91 15 [some (hn_vr 0), some (hn_vl (hn_itr i (hn_dg1 a.1) (217 + Int64.ofInt (a.1 0)))), none, some (hn_vi (i : Int)), none] [] (hn_m I k g)) (hn_n a.1) (fun i hi => by
    have q0 := hb_X6_digest_15_0 (sx := sx) (sL := sL) (C := hn_ret sx sL (d + 2)) (I := I) (k := k) (g := g) (x1 := hn_itr i (hn_dg1 a.1) (217 + Int64.ofInt (a.1 0))) (x3 := (i : Int)) (h1 := by omega)
    have q1 := hn_for (sx := sx) (sL := sL) (C := hn_ret sx sL (d + 2)) (fun w => hn_nx 91 29 [some (hn_vr 0), some (hn_vl (hn_itr w (fun w h => hn_dgs h (hr_prop a.1 i w)) (hn_itr i (hn_dg1 a.1) (217 + Int64.ofInt (a.1 0))))), none, some (hn_vi (i : Int)), some (hn_vi (w : Int))] [] (hn_m I k g)) 6 (fun w hw =>
      hb_X6_digest_29_1 (h1 := by omega) (c2 := hc_node d hA h (i : Int) (w : Int)) (h3 := by omega))
    have q2 := hb_X6_digest_29_0 (sx := sx) (sL := sL) (C := hn_ret sx sL (d + 2)) (I := I) (k := k) (g := g) (x1 := hn_itr 6 (fun w h => hn_dgs h (hr_prop a.1 i w)) (hn_itr i (hn_dg1 a.1) (217 + Int64.ofInt (a.1 0)))) (n3 := i) (x4 := 6) (h1 := by decide) (h2 := by omega) (h3 := by omega)
    rw [(hc_ho hA h i hi).1] at q2
    exact q0.tr (q1.tr q2))
  have r2 := hb_X6_digest_15_1 (sx := sx) (sL := sL) (C := hn_ret sx sL (d + 2)) (I := I) (k := k) (g := g) (x1 := hn_itr (hn_n a.1) (hn_dg1 a.1) (217 + Int64.ofInt (a.1 0))) (x3 := (hn_n a.1 : Int)) (h1 := by omega)
  have r3 := hn_for (sx := sx) (sL := sL) (C := hn_ret sx sL (d + 2)) (fun i => hn_nx 91 81 [some (hn_vr 0), some (hn_vl (hn_itr i (hn_dg2 a.1) (hn_itr (hn_n a.1) (hn_dg1 a.1) (217 + Int64.ofInt (a.1 0))))), none, some (hn_vi (i : Int)), none] [] (hn_m I k g)) (hn_n a.1) (fun i hi => by
    have q0 := hb_X6_digest_81_0 (sx := sx) (sL := sL) (C := hn_ret sx sL (d + 2)) (I := I) (k := k) (g := g) (x1 := hn_itr i (hn_dg2 a.1) (hn_itr (hn_n a.1) (hn_dg1 a.1) (217 + Int64.ofInt (a.1 0)))) (x3 := (i : Int)) (h1 := by omega)
    have q1 := hn_for (sx := sx) (sL := sL) (C := hn_ret sx sL (d + 2)) (fun w => hn_nx 91 95 [some (hn_vr 0), some (hn_vl (hn_itr w (fun b h => hn_dgs h (hr_fl a.1 i b)) (hn_itr i (hn_dg2 a.1) (hn_itr (hn_n a.1) (hn_dg1 a.1) (217 + Int64.ofInt (a.1 0)))))), none, some (hn_vi (i : Int)), some (hn_vi (w : Int))] [] (hn_m I k g)) (hn_n a.1) (fun w hw =>
      hb_X6_digest_95_0 (h1 := by omega) (c2 := hc_flow d hA h (i : Int) (w : Int)) (h3 := by omega))
    have q2 := hb_X6_digest_95_1 (sx := sx) (sL := sL) (C := hn_ret sx sL (d + 2)) (I := I) (k := k) (g := g) (x1 := hn_dg2 a.1 i (hn_itr i (hn_dg2 a.1) (hn_itr (hn_n a.1) (hn_dg1 a.1) (217 + Int64.ofInt (a.1 0))))) (x3 := (i : Int)) (x4 := (hn_n a.1 : Int)) (h1 := by omega) (h2 := by omega)
    exact q0.tr (q1.tr q2))
  have r4 := hb_X6_digest_81_1 (sx := sx) (sL := sL) (C := hn_ret sx sL (d + 2)) (I := I) (k := k) (g := g) (x1 := hn_itr (hn_n a.1) (hn_dg2 a.1) (hn_itr (hn_n a.1) (hn_dg1 a.1) (217 + Int64.ofInt (a.1 0)))) (x3 := (hn_n a.1 : Int)) (h1 := by omega)
  have p := h.1.2.2.1
  have p7 : I 1 7 = a.1 1 := h.1.2.1
  have p8 : I 1 8 = a.1 2 := p 0 (by omega)
  have p9 : I 1 9 = a.1 3 := p 1 (by omega)
  have p10 : I 1 10 = a.1 4 := p 2 (by omega)
  have p11 : I 1 11 = a.1 5 := p 3 (by omega)
  have p12 : I 1 12 = a.1 6 := p 4 (by omega)
  have p13 : I 1 13 = a.1 7 := p 5 (by omega)
  have p14 : I 1 14 = a.1 8 := p 6 (by omega)
  have p15 : I 1 15 = a.1 9 := p 7 (by omega)
  rw [p7, p8, p9, p10, p11, p12, p13, p14, p15] at r4
  exact hn_of rfl (r0.tr (r1.tr (r2.tr (r3.tr r4))))
end HX42
