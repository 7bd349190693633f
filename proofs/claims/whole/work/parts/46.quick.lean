/-! the model: the flows, and the quick cost of a plan -/
def hn_lg (L : List (Nat × Nat)) (q : Nat) : Nat × Nat := L.getD q (0, 0)
def hn_lsm (L : List (Nat × Nat)) (F : Nat → Nat → Int) : Int := hn_sm L.length (fun q => F (hn_lg L q).1 (hn_lg L q).2)
theorem hn_lg_get {L : List (Nat × Nat)} {q : Nat} (h : q < L.length) : L[q]? = some (hn_lg L q) := by
  unfold hn_lg
  rw [List.getD_eq_getElem?_getD, List.getElem?_eq_getElem h]
  rfl
theorem hn_lg_l {L : List (Nat × Nat)} {x : Nat × Nat} {q : Nat} (h : q < L.length) : hn_lg (L ++ [x]) q = hn_lg L q := by
  unfold hn_lg
  rw [List.getD_eq_getElem?_getD, List.getD_eq_getElem?_getD, List.getElem?_append_left h]
theorem hn_lg_r {L : List (Nat × Nat)} {x : Nat × Nat} : hn_lg (L ++ [x]) L.length = x := by
  unfold hn_lg
  rw [List.getD_eq_getElem?_getD, List.getElem?_append_right (Nat.le_refl _), Nat.sub_self]
  rfl
theorem hn_lsm_app1 {L : List (Nat × Nat)} {x : Nat × Nat} {F : Nat → Nat → Int} : hn_lsm (L ++ [x]) F = hn_lsm L F + F x.1 x.2 := by
  unfold hn_lsm
  rw [List.length_append, List.length_singleton, hn_sm_up, hn_lg_r]
  rw [hn_sm_cg (f := fun q => F (hn_lg (L ++ [x]) q).1 (hn_lg (L ++ [x]) q).2) (h := fun q => F (hn_lg L q).1 (hn_lg L q).2) (fun q hq => by rw [hn_lg_l hq])]
/-- the flows above 0: those of the rows before i, and of row i before j -/
def hn_flr (s : hn_S) (L : List (Nat × Nat)) (i : Nat) : Nat → List (Nat × Nat)
  | 0 => L
  | j + 1 => if 0 < hn_fl s i j then hn_flr s L i j ++ [(i, j)] else hn_flr s L i j
def hn_flA (s : hn_S) : Nat → List (Nat × Nat)
  | 0 => []
  | i + 1 => hn_flr s (hn_flA s i) i (hn_n s)
theorem hn_flr_sm (s : hn_S) (L : List (Nat × Nat)) (i : Nat) (F : Nat → Nat → Int) : ∀ j, hn_lsm (hn_flr s L i j) F = hn_lsm L F + hn_sm j (fun b => if 0 < hn_fl s i b then F i b else 0)
  | 0 => (Int.add_zero _).symm
  | j + 1 => by
    have ih := hn_flr_sm s L i F j
    unfold hn_flr
    rw [hn_sm_up]
    by_cases e : 0 < hn_fl s i j
    · rw [if_pos e, hn_lsm_app1, ih, if_pos e, Int.add_assoc]
    · rw [if_neg e, ih, if_neg e, Int.add_zero]
theorem hn_flA_sm (s : hn_S) (F : Nat → Nat → Int) : ∀ i, hn_lsm (hn_flA s i) F = hn_sm i (fun a => hn_sm (hn_n s) (fun b => if 0 < hn_fl s a b then F a b else 0))
  | 0 => rfl
  | i + 1 => by
    have ih := hn_flA_sm s F i
    unfold hn_flA
    rw [hn_flr_sm, ih]
    rfl
theorem hn_flr_mem {s : hn_S} {L : List (Nat × Nat)} {i : Nat} {x : Nat × Nat} : ∀ {j : Nat}, x ∈ hn_flr s L i j → x ∈ L ∨ (x.1 = i ∧ x.2 < j ∧ 0 < hn_fl s x.1 x.2)
  | 0, h => Or.inl h
  | j + 1, h => by
    unfold hn_flr at h
    by_cases e : 0 < hn_fl s i j
    · rw [if_pos e] at h
      rcases List.mem_append.mp h with q | q
      · rcases hn_flr_mem q with z | z
        · exact Or.inl z
        · exact Or.inr ⟨z.1, by omega, z.2.2⟩
      · rw [List.mem_singleton.mp q]
        exact Or.inr ⟨rfl, by show j < j + 1; omega, e⟩
    · rw [if_neg e] at h
      rcases hn_flr_mem h with z | z
      · exact Or.inl z
      · exact Or.inr ⟨z.1, by omega, z.2.2⟩
theorem hn_flA_mem {s : hn_S} {x : Nat × Nat} : ∀ {i : Nat}, x ∈ hn_flA s i → x.1 < i ∧ x.2 < hn_n s ∧ 0 < hn_fl s x.1 x.2
  | 0, h => absurd h (by show ¬ x ∈ []; simp)
  | i + 1, h => by
    rcases hn_flr_mem h with q | q
    · have := hn_flA_mem q
      exact ⟨by omega, this.2⟩
    · exact ⟨by omega, q.2.1, q.2.2⟩
theorem hn_flr_len {s : hn_S} (hI : hn_Iv s) {L : List (Nat × Nat)} {i : Nat} (hi : i < 8) : ∀ j, (hn_flr s L i j).length + (if i < j then 1 else 0) ≤ L.length + j
  | 0 => by
    rw [if_neg (by omega)]
    exact Nat.le_refl _
  | j + 1 => by
    have ih := hn_flr_len hI (L := L) hi j
    unfold hn_flr
    by_cases e : 0 < hn_fl s i j
    · have ne : i ≠ j := fun q => by
        have z : hn_fl s i i = 0 := hI.2.2.2.2.2.2.1 i hi
        rw [← q, z] at e
        exact absurd e (by decide)
      rw [if_pos e, List.length_append, List.length_singleton]
      by_cases x : i < j
      · rw [if_pos x] at ih
        rw [if_pos (by omega)]
        omega
      · rw [if_neg x] at ih
        rw [if_neg (by omega)]
        omega
    · rw [if_neg e]
      by_cases x : i < j
      · rw [if_pos x] at ih
        rw [if_pos (by omega)]
        omega
      · rw [if_neg x] at ih
        by_cases y : i < j + 1
        · rw [if_pos y]
          omega
        · rw [if_neg y]
          omega
theorem hn_flr_le7 {s : hn_S} (hI : hn_Iv s) {L : List (Nat × Nat)} {i j : Nat} (hi : i < 8) (hj : j ≤ 8) : (hn_flr s L i j).length ≤ L.length + 7 := by
  have q := hn_flr_len hI (L := L) hi j
  by_cases x : i < j
  · rw [if_pos x] at q
    omega
  · rw [if_neg x] at q
    omega
theorem hn_flA_len {s : hn_S} (hI : hn_Iv s) : ∀ i, i ≤ hn_n s → (hn_flA s i).length ≤ 7 * i
  | 0, _ => Nat.le_refl 0
  | i + 1, h => by
    have h8 := hn_n8 hI
    have ih := hn_flA_len hI i (by omega)
    have q := hn_flr_le7 hI (L := hn_flA s i) (i := i) (j := hn_n s) (by omega) h8
    have e : hn_flA s (i + 1) = hn_flr s (hn_flA s i) i (hn_n s) := rfl
    rw [e]
    omega
/-- what prepares leaves -/
def hn_QL (s : hn_S) (L : List (Nat × Nat)) (J : Nat → Nat → Int) : Prop := J 64 11 = (L.length : Int) ∧ ∀ q, q < L.length → J 70 q = (((hn_lg L q).1 : Nat) : Int) ∧ J 71 q = (((hn_lg L q).2 : Nat) : Int) ∧ J 72 q = hn_fl s (hn_lg L q).1 (hn_lg L q).2
def hn_QD (s : hn_S) (J : Nat → Nat → Int) : Prop := hn_QL s (hn_flA s (hn_n s)) J ∧ ∀ a b, a < hn_n s → b < hn_n s → J 69 (8 * a + b) = hn_gp s a b
theorem hn_QD.mv {s : hn_S} {J K : Nat → Nat → Int} (h : hn_QD s J) (e : ∀ c, 69 ≤ c → c ≤ 72 → ∀ j, K c j = J c j) (e1 : K 64 11 = J 64 11) : hn_QD s K :=
  ⟨⟨by rw [e1]; exact h.1.1, fun q hq => by rw [e 70 (by omega) (by omega), e 71 (by omega) (by omega), e 72 (by omega) (by omega)]; exact h.1.2 q hq⟩, fun a b ha hb => by rw [e 69 (by omega) (by omega)]; exact h.2 a b ha hb⟩
section HX46
variable {sx : Nat → Int} {sL : Nat} {I : Nat → Nat → Int} {k : Nat → Option Nat} {g : Nat → Nat → Int64} {a : hn_AA} {s : hn_S} {b : Int} {p : Nat → Int} {w : Nat}
theorem hx_prepares (d : Nat) (hI : hn_Iv s) (h : hn_MS I s) : ∃ I', hn_ret sx sL (d + 2) 135 [hn_vr 64] (hn_m I k g) none (hn_m I' k g) ∧ hn_QD s I' ∧ (∀ c, c ≠ 64 → c < 69 ∨ 72 < c → ∀ j, I' c j = I c j) ∧ ∀ j, j ≠ 11 → I' 64 j = I 64 j := by
  have h8 := hn_n8 hI
  have hn := h.n hI
  obtain ⟨y, r, p1, p2, p3, p4⟩ := hn_forE (sx := sx) (sL := sL) (C := hn_ret sx sL (d + 1)) (fun i (J : Nat → Nat → Int) => hn_nx 135 7 [some (hn_vr 64), some (hn_vi (i : Int)), none] [] (hn_m J k g)) (fun i J => hn_QL s (hn_flA s i) J ∧ (∀ a b, a < i → b < hn_n s → J 69 (8 * a + b) = hn_gp s a b) ∧ (∀ c, c ≠ 64 → c < 69 ∨ 72 < c → ∀ j, J c j = I c j) ∧ ∀ j, j ≠ 11 → J 64 j = I 64 j) (hn_n s) (fun i J hi hJ => by
    obtain ⟨j1, j2, j3, j4⟩ := hJ
    have n0 : J 65 0 = (hn_n s : Int) := by rw [j3 65 (by omega) (by omega), hn]
    have lA := hn_flA_len hI i (by omega)
    obtain ⟨z, r1, z1, z2, z2b, z3, z4⟩ := hn_forE (sx := sx) (sL := sL) (C := hn_ret sx sL (d + 1)) (fun j (K : Nat → Nat → Int) => hn_nx 135 19 [some (hn_vr 64), some (hn_vi (i : Int)), some (hn_vi (j : Int))] [] (hn_m K k g)) (fun j K => hn_QL s (hn_flr s (hn_flA s i) i j) K ∧ (∀ a b, a < i → b < hn_n s → K 69 (8 * a + b) = hn_gp s a b) ∧ (∀ b, b < j → K 69 (8 * i + b) = hn_gp s i b) ∧ (∀ c, c ≠ 64 → c < 69 ∨ 72 < c → ∀ j, K c j = I c j) ∧ ∀ j, j ≠ 11 → K 64 j = I 64 j) (hn_n s) (fun j K hj hK => by
      obtain ⟨k1, k2, k2b, k3, k4⟩ := hK
      have m0 : K 65 0 = (hn_n s : Int) := by rw [k3 65 (by omega) (by omega), hn]
      have mK : hn_MS K s := h.mv (fun j => k3 65 (by omega) (by omega) j)
      have c4 := hx_far (sx := sx) (sL := sL) (k := k) (g := g) d hI mK (u := i) (v := j) (by omega) (by omega)
      have mK1 : hn_MS (hn_up K 69 ((8 * i) + j) (hn_gp s i j)) s := mK.mv (fun j => hn_up_ne (Or.inl (by omega)))
      have c6 := hx_flowOf (sx := sx) (sL := sL) (k := k) (g := g) d mK1 (u := i) (v := j) (by omega) (by omega)
      have f2 : ∀ a b, a < i → b < hn_n s → hn_up K 69 ((8 * i) + j) (hn_gp s i j) 69 (8 * a + b) = hn_gp s a b := fun a b ha hb => by
        rw [hn_up_ne (Or.inr (by omega))]
        exact k2 a b ha hb
      have f2b : ∀ b, b < j + 1 → hn_up K 69 ((8 * i) + j) (hn_gp s i j) 69 (8 * i + b) = hn_gp s i b := fun b hb => by
        by_cases e : b = j
        · rw [e, hn_up_eq]
        · rw [hn_up_ne (Or.inr (by omega))]
          exact k2b b (by omega)
      by_cases e : 0 < hn_fl s i j
      · have l7 := hn_flr_le7 hI (L := hn_flA s i) (i := i) (j := j + 1) (by omega) (by omega)
        have el : hn_flr s (hn_flA s i) i (j + 1) = hn_flr s (hn_flA s i) i j ++ [(i, j)] := if_pos e
        rw [el, List.length_append, List.length_singleton] at l7
        obtain ⟨N, hN⟩ : ∃ N, N = (hn_flr s (hn_flA s i) i j).length := ⟨_, rfl⟩
        rw [← hN] at l7
        have e11 : hn_up K 69 ((8 * i) + j) (hn_gp s i j) 64 11 = (N : Int) := by rw [hn_up_ne (Or.inl (by omega)), k1.1, hN]
        have et : (hn_up K 69 ((8 * i) + j) (hn_gp s i j) 64 11).toNat = N := by rw [e11]; omega
        have mK2 : hn_MS (hn_up (hn_up (hn_up K 69 ((8 * i) + j) (hn_gp s i j)) 70 N (i : Int)) 71 N (j : Int)) s := mK1.mv (fun j => by rw [hn_up_ne (Or.inl (by omega)), hn_up_ne (Or.inl (by omega))])
        have c9 := hx_flowOf (sx := sx) (sL := sL) (k := k) (g := g) d mK2 (u := i) (v := j) (by omega) (by omega)
        rw [← et] at c9
        have r := hb_X7_prepares_19_0 (sx := sx) (sL := sL) (n1 := i) (n2 := j) (h1 := by omega) (h2 := by omega) (h3 := by omega) (c4 := c4) (h5 := by omega) (c6 := c6) (h7 := e) (h8 := by omega) (c9 := c9) (h10 := by rw [hn_up_ne (Or.inl (by omega)), hn_up_ne (Or.inl (by omega))]; omega) (h11 := by omega)
        rw [et, hn_up_ne (c := 71) (c' := 64) (Or.inl (by omega)), hn_up_ne (c := 70) (c' := 64) (Or.inl (by omega)), e11] at r
        rw [el]
        refine ⟨_, r, ⟨by rw [hn_up_eq, List.length_append, List.length_singleton, ← hN]; rfl, fun q hq => ?_⟩, fun a b ha hb => by rw [hn_up_ne (Or.inl (by omega)), hn_up_ne (Or.inl (by omega)), hn_up_ne (Or.inl (by omega)), hn_up_ne (Or.inl (by omega))]; exact f2 a b ha hb, fun b hb => by rw [hn_up_ne (Or.inl (by omega)), hn_up_ne (Or.inl (by omega)), hn_up_ne (Or.inl (by omega)), hn_up_ne (Or.inl (by omega))]; exact f2b b hb, fun c c1 c2 j => by rw [hn_up_ne (Or.inl (by omega)), hn_up_ne (Or.inl (by omega)), hn_up_ne (Or.inl (by omega)), hn_up_ne (Or.inl (by omega)), hn_up_ne (Or.inl (by omega)), k3 c c1 c2], fun j hj => by rw [hn_up_ne (Or.inr hj), hn_up_ne (Or.inl (by omega)), hn_up_ne (Or.inl (by omega)), hn_up_ne (Or.inl (by omega)), hn_up_ne (Or.inl (by omega)), k4 j hj]⟩
        rw [List.length_append, List.length_singleton, ← hN] at hq
        by_cases eq : q = N
        · subst eq
          have lr : hn_lg (hn_flr s (hn_flA s i) i j ++ [(i, j)]) q = (i, j) := by rw [hN]; exact hn_lg_r
          rw [lr]
          refine ⟨?_, ?_, ?_⟩
          · rw [hn_up_ne (Or.inl (by omega)), hn_up_ne (Or.inl (by omega)), hn_up_ne (Or.inl (by omega)), hn_up_eq]
          · rw [hn_up_ne (Or.inl (by omega)), hn_up_ne (Or.inl (by omega)), hn_up_eq]
          · rw [hn_up_ne (Or.inl (by omega)), hn_up_eq]
        · rw [hn_lg_l (by omega)]
          have kq := k1.2 q (by omega)
          refine ⟨?_, ?_, ?_⟩
          · rw [hn_up_ne (Or.inl (by omega)), hn_up_ne (Or.inl (by omega)), hn_up_ne (Or.inl (by omega)), hn_up_ne (Or.inr eq), hn_up_ne (Or.inl (by omega))]
            exact kq.1
          · rw [hn_up_ne (Or.inl (by omega)), hn_up_ne (Or.inl (by omega)), hn_up_ne (Or.inr eq), hn_up_ne (Or.inl (by omega)), hn_up_ne (Or.inl (by omega))]
            exact kq.2.1
          · rw [hn_up_ne (Or.inl (by omega)), hn_up_ne (Or.inr eq), hn_up_ne (Or.inl (by omega)), hn_up_ne (Or.inl (by omega)), hn_up_ne (Or.inl (by omega))]
            exact kq.2.2
      · have el : hn_flr s (hn_flA s i) i (j + 1) = hn_flr s (hn_flA s i) i j := if_neg e
        have r := hb_X7_prepares_19_1 (sx := sx) (sL := sL) (n1 := i) (n2 := j) (h1 := by omega) (h2 := by omega) (h3 := by omega) (c4 := c4) (h5 := by omega) (c6 := c6) (h7 := e) (h8 := by omega)
        rw [el]
        exact ⟨_, r, ⟨by rw [hn_up_ne (Or.inl (by omega))]; exact k1.1, fun q hq => by rw [hn_up_ne (Or.inl (by omega)), hn_up_ne (Or.inl (by omega)), hn_up_ne (Or.inl (by omega))]; exact k1.2 q hq⟩, f2, f2b, fun c c1 c2 j => by rw [hn_up_ne (Or.inl (by omega)), k3 c c1 c2], fun j hj => by rw [hn_up_ne (Or.inl (by omega)), k4 j hj]⟩) J ⟨j1, j2, fun b hb => absurd hb (by omega), j3, j4⟩
    have m0 : z 65 0 = (hn_n s : Int) := by rw [z3 65 (by omega) (by omega), hn]
    refine ⟨z, (hb_X7_prepares_7_0 (h1 := by omega)).tr (r1.tr (hb_X7_prepares_19_2 (h1 := by omega) (h2 := by omega))), z1, fun a b ha hb => ?_, z3, z4⟩
    by_cases e : a = i
    · rw [e]
      exact z2b b hb
    · exact z2 a b (by omega) hb) (hn_up I 64 11 0) ⟨⟨hn_up_eq, fun q hq => absurd hq (Nat.not_lt_zero q)⟩, fun a b ha => absurd ha (by omega), fun c c1 c2 j => hn_up_ne (Or.inl c1), fun j hj => hn_up_ne (Or.inr hj)⟩
  exact ⟨y, hn_of rfl (hb_X7_prepares_0_0.tr (r.tr (hb_X7_prepares_7_1 (h1 := by rw [p3 65 (by omega) (by omega)]; omega)))), ⟨p1, p2⟩, p3, p4⟩
/-- the sums over the flows -/
def hn_fL (p : Nat → Int) (s : hn_S) (u a b : Nat) : Int := if p a = u then hn_fl s a b else 0
def hn_fTr (p : Nat → Int) (s : hn_S) (u v a b : Nat) : Int := if p a = u ∧ p b = v then hn_fl s a b else 0
def hn_fC' (p : Nat → Int) (s : hn_S) (a b : Nat) : Int := hn_fl s a b * (s 2 * hn_gp s a (p a).toNat + s 4 * hn_gp s (p b).toNat b)
theorem hn_fl0 (hI : hn_Iv s) {a b : Nat} (ha : a < 8) (hb : b < 8) (e : ¬ 0 < hn_fl s a b) : hn_fl s a b = 0 := by
  have := hn_fl_b hI ha hb
  omega
theorem hn_fL_all (hI : hn_Iv s) (p : Nat → Int) (u : Nat) : hn_lsm (hn_flA s (hn_n s)) (hn_fL p s u) = hn_ld s p u := by
  have h8 := hn_n8 hI
  rw [hn_flA_sm]
  refine hn_sm_cg fun a ha => ?_
  rw [hn_sm_cg (f := fun b => if 0 < hn_fl s a b then hn_fL p s u a b else 0) (h := fun b => if p a = u then hn_fl s a b else 0) (fun b hb => by
    unfold hn_fL
    by_cases e : 0 < hn_fl s a b
    · rw [if_pos e]
    · rw [if_neg e, hn_fl0 hI (by omega) (by omega) e, ite_self])]
  by_cases e : p a = u
  · rw [if_pos e, hn_sm_cg (f := fun b => if p a = u then hn_fl s a b else 0) (h := fun b => hn_fl s a b) (fun b _ => if_pos e)]
    rfl
  · rw [if_neg e]
    exact hn_sm_z' fun b _ => if_neg e
theorem hn_fTr_all (hI : hn_Iv s) (p : Nat → Int) (u v : Nat) : hn_lsm (hn_flA s (hn_n s)) (hn_fTr p s u v) = hn_tr s p u v := by
  have h8 := hn_n8 hI
  rw [hn_flA_sm]
  refine hn_sm_cg fun a ha => ?_
  rw [hn_sm_cg (f := fun b => if 0 < hn_fl s a b then hn_fTr p s u v a b else 0) (h := fun b => if p a = u ∧ p b = v then hn_fl s a b else 0) (fun b hb => by
    unfold hn_fTr
    by_cases e : 0 < hn_fl s a b
    · rw [if_pos e]
    · rw [if_neg e, hn_fl0 hI (by omega) (by omega) e, ite_self])]
  by_cases e : p a = u
  · rw [if_pos e]
    refine hn_sm_cg fun b hb => ?_
    by_cases q : p b = v
    · rw [if_pos ⟨e, q⟩, if_pos q]
    · rw [if_neg (fun x => q x.2), if_neg q]
  · rw [if_neg e]
    exact hn_sm_z' fun b _ => if_neg (fun x => e x.1)
theorem hn_fC_all (hI : hn_Iv s) {p : Nat → Int} {m : Nat} (hf : hn_full' s m p) : hn_lsm (hn_flA s (hn_n s)) (hn_fC' p s) = s 2 * hn_cc s p + s 4 * hn_dc s p := by
  have h8 := hn_n8 hI
  rw [hn_flA_sm, ← hn_cc_2 hf, ← hn_dc_2 hf, ← hn_sm_add]
  refine hn_sm_cg fun a ha => ?_
  rw [← hn_sm_add]
  refine hn_sm_cg fun b hb => ?_
  have e0 : hn_fC' p s a b = s 2 * hn_fl s a b * hn_gp s a (p a).toNat + s 4 * hn_fl s a b * hn_gp s (p b).toNat b := by
    unfold hn_fC'
    rw [Int.mul_add, ← Int.mul_assoc, ← Int.mul_assoc, Int.mul_comm (hn_fl s a b) (s 2), Int.mul_comm (hn_fl s a b) (s 4)]
  rw [← e0]
  by_cases e : 0 < hn_fl s a b
  · rw [if_pos e]
  · rw [if_neg e]
    unfold hn_fC'
    rw [hn_fl0 hI (by omega) (by omega) e, Int.zero_mul]
/-- parts of sums over the list -/
def hn_lpt (L : List (Nat × Nat)) (F : Nat → Nat → Int) (q : Nat) : Int := hn_sm q (fun q => F (hn_lg L q).1 (hn_lg L q).2)
theorem hn_lpt_b {L : List (Nat × Nat)} {F : Nat → Nat → Int} {q : Nat} (hq : q ≤ L.length) (h : ∀ i, i < L.length → 0 ≤ F (hn_lg L i).1 (hn_lg L i).2) : 0 ≤ hn_lpt L F q ∧ hn_lpt L F q ≤ hn_lsm L F :=
  ⟨hn_sm_nn fun i hi => h i (by omega), hn_sm_mono hq h⟩
theorem hn_lg_mem {L : List (Nat × Nat)} {q : Nat} (h : q < L.length) : hn_lg L q ∈ L := List.mem_of_getElem? (hn_lg_get h)
/-- a hub's part: its opening, congestion and trunks -/
def hn_hp (s : hn_S) (p : Nat → Int) (w a : Nat) : Int := hn_opf s w a + hn_cgf s (hn_ld s p) w a + hn_ro (hn_n s) (hn_tm s p) w a
theorem hn_hp_all (hI : hn_Iv s) (p : Nat → Int) (w : Nat) : s 2 * hn_cc s p + s 4 * hn_dc s p + hn_sm (hn_n s) (hn_hp s p w) = hn_cost s w p := by
  have e : hn_sm (hn_n s) (hn_hp s p w) = hn_op s w + hn_cg s (hn_ld s p) w + hn_sm (hn_n s) (hn_ro (hn_n s) (hn_tm s p) w) := by
    unfold hn_hp
    rw [hn_sm_add (hn_n s) (fun a => hn_opf s w a + hn_cgf s (hn_ld s p) w a), hn_sm_add]
    rfl
  rw [e, hn_tm_all hI]
  unfold hn_cost
  omega
theorem hn_hp_b (hI : hn_Iv s) (p : Nat → Int) (w i : Nat) (hi : i ≤ hn_n s) : 0 ≤ hn_sm i (hn_hp s p w) ∧ hn_sm i (hn_hp s p w) ≤ 229920000 := by
  have h8 := hn_n8 hI
  have b1 : 0 ≤ hn_sm i (hn_opf s w) ∧ hn_sm i (hn_opf s w) ≤ 100000 * i := hn_sm_b 100000 (fun a ha => hn_opf_b hI (by omega))
  have b2 : 0 ≤ hn_sm i (hn_cgf s (hn_ld s p) w) ∧ hn_sm i (hn_cgf s (hn_ld s p) w) ≤ 12800000 * i := hn_sm_b 12800000 (fun a ha => hn_cgf_b hI (fun _ => hn_ld_b hI))
  have b3 := hn_tm_i hI p (m := w) hi
  have e : hn_sm i (hn_hp s p w) = hn_sm i (hn_opf s w) + hn_sm i (hn_cgf s (hn_ld s p) w) + hn_sm i (hn_ro (hn_n s) (hn_tm s p) w) := by
    unfold hn_hp
    rw [hn_sm_add i (fun a => hn_opf s w a + hn_cgf s (hn_ld s p) w a), hn_sm_add]
  omega
def hn_q46 (s : hn_S) (p : Nat → Int) (q : Nat) (J I : Nat → Nat → Int) : Prop := (∀ u, u < 8 → J 73 u = hn_lpt (hn_flA s (hn_n s)) (hn_fL p s u) q) ∧ (∀ u v, u < 8 → v < 8 → J 74 (8 * u + v) = hn_lpt (hn_flA s (hn_n s)) (hn_fTr p s u v) q) ∧ ∀ c, c ≠ 73 → c ≠ 74 → ∀ j, J c j = I c j
theorem hx_quick0 (d : Nat) (hI : hn_Iv s) (h : hn_MS I s) (hQ : hn_QD s I) (hp : ∀ v, v < hn_n s → I 66 v = p v) (hf : hn_full' s w p) : ∃ I', hn_go sx sL (hn_ret sx sL d) (hn_nx 136 0 [some (hn_vr 64), some (hn_vi w), none, none, none, none] [] (hn_m I k g)) (hn_nx 136 185 [some (hn_vr 64), some (hn_vi w), some (hn_vi (s 2 * hn_cc s p + s 4 * hn_dc s p)), some (hn_vi 0), none, none] [] (hn_m I' k g)) ∧ (∀ u, u < 8 → I' 73 u = hn_ld s p u) ∧ (∀ u v, u < 8 → v < 8 → I' 74 (8 * u + v) = hn_tr s p u v) ∧ ∀ c, c ≠ 73 → c ≠ 74 → ∀ j, I' c j = I c j := by
  have h8 := hn_n8 hI
  have hn := h.n hI
  obtain ⟨L, hL⟩ : ∃ L, L = hn_flA s (hn_n s) := ⟨_, rfl⟩
  have hQ1 := hQ.1
  rw [← hL] at hQ1
  have hlen : L.length ≤ 56 := by have := hn_flA_len hI (hn_n s) (Nat.le_refl _); rw [hL]; omega
  have hmem : ∀ q, q < L.length → (hn_lg L q).1 < hn_n s ∧ (hn_lg L q).2 < hn_n s := fun q hq => by
    have m := hn_lg_mem hq
    rw [hL] at m ⊢
    have := hn_flA_mem m
    exact ⟨this.1, this.2.1⟩
  obtain ⟨y1, r1, a1, a2⟩ := hn_forE (sx := sx) (sL := sL) (C := hn_ret sx sL d) (fun i (J : Nat → Nat → Int) => hn_nx 136 4 [some (hn_vr 64), some (hn_vi w), some (hn_vi 0), some (hn_vi (i : Int)), none, none] [] (hn_m J k g)) (fun i J => (∀ j, j < i → J 74 j = 0) ∧ ∀ c, c ≠ 74 → ∀ j, J c j = I c j) 64 (fun i J hi hJ => ⟨_, hb_X7_quickCost_4_0 (h1 := by omega) (h2 := by omega) (h3 := by omega), fun j hj => by
    by_cases e : j = i
    · rw [e, hn_up_eq]
    · rw [hn_up_ne (Or.inr e)]
      exact hJ.1 j (by omega), fun c hc j => by rw [hn_up_ne (Or.inl hc), hJ.2 c hc]⟩) I ⟨fun j hj => absurd hj (by omega), fun _ _ _ => rfl⟩
  obtain ⟨y2, r2, b1, b2⟩ := hn_forE (sx := sx) (sL := sL) (C := hn_ret sx sL d) (fun i (J : Nat → Nat → Int) => hn_nx 136 25 [some (hn_vr 64), some (hn_vi w), some (hn_vi 0), some (hn_vi (i : Int)), none, none] [] (hn_m J k g)) (fun i J => (∀ j, j < i → J 73 j = 0) ∧ ∀ c, c ≠ 73 → ∀ j, J c j = y1 c j) 8 (fun i J hi hJ => ⟨_, hb_X7_quickCost_25_0 (h1 := by omega) (h2 := by omega) (h3 := by omega), fun j hj => by
    by_cases e : j = i
    · rw [e, hn_up_eq]
    · rw [hn_up_ne (Or.inr e)]
      exact hJ.1 j (by omega), fun c hc j => by rw [hn_up_ne (Or.inl hc), hJ.2 c hc]⟩) y1 ⟨fun j hj => absurd hj (by omega), fun _ _ _ => rfl⟩
  have bF : ∀ q, q < L.length → 0 ≤ hn_fl s (hn_lg L q).1 (hn_lg L q).2 ∧ hn_fl s (hn_lg L q).1 (hn_lg L q).2 ≤ 100 := fun q hq => by
    have := hmem q hq
    exact hn_fl_b hI (by omega) (by omega)
  have nL : ∀ u q, q < L.length → 0 ≤ hn_fL p s u (hn_lg L q).1 (hn_lg L q).2 := fun u q hq => by
    have := bF q hq
    unfold hn_fL
    by_cases e : p (hn_lg L q).1 = u
    · rw [if_pos e]
      exact this.1
    · rw [if_neg e]
      exact Int.le_refl 0
  have nT : ∀ u v q, q < L.length → 0 ≤ hn_fTr p s u v (hn_lg L q).1 (hn_lg L q).2 := fun u v q hq => by
    have := bF q hq
    unfold hn_fTr
    by_cases e : p (hn_lg L q).1 = u ∧ p (hn_lg L q).2 = v
    · rw [if_pos e]
      exact this.1
    · rw [if_neg e]
      exact Int.le_refl 0
  have bC : ∀ q, q < L.length → 0 ≤ hn_fC' p s (hn_lg L q).1 (hn_lg L q).2 := fun q hq => by
    obtain ⟨m1, m2⟩ := hmem q hq
    obtain ⟨x, ex, hx, -⟩ := hf _ m1
    obtain ⟨z, ez, hz, -⟩ := hf _ m2
    have g1 := hn_gp_b hI (a := (hn_lg L q).1) (b := (p (hn_lg L q).1).toNat) (by omega) (by omega)
    have g2 := hn_gp_b hI (a := (p (hn_lg L q).2).toNat) (b := (hn_lg L q).2) (by omega) (by omega)
    have t := hI.2.2.1
    have o1 := hn_mul_b (show 0 ≤ s 2 by omega) t.1.2 g1.1 g1.2
    have o2 := hn_mul_b (show 0 ≤ s 4 by omega) t.2.2.1.2 g2.1 g2.2
    exact Int.mul_nonneg (bF q hq).1 (by omega)
  have cc := (hn_cc_b hI (p := p)).2
  have dc := (hn_dc_b hI (p := p)).2
  have totC := hn_fC_all hI hf
  have totL : ∀ u, hn_lsm L (hn_fL p s u) ≤ 6400 := fun u => by rw [hL, hn_fL_all hI]; exact (hn_ld_b hI).2
  have totT : ∀ u v, hn_lsm L (hn_fTr p s u v) ≤ 6400 := fun u v => by rw [hL, hn_fTr_all hI]; exact (hn_tr_b hI).2
  rw [← hL] at totC
  obtain ⟨y3, r3, c1, c2, c3⟩ := hn_forE (sx := sx) (sL := sL) (C := hn_ret sx sL d) (fun q (J : Nat → Nat → Int) => hn_nx 136 46 [some (hn_vr 64), some (hn_vi w), some (hn_vi (hn_lpt L (hn_fC' p s) q)), some (hn_vi (q : Int)), none, none] [] (hn_m J k g)) (fun q J => (∀ u, u < 8 → J 73 u = hn_lpt L (hn_fL p s u) q) ∧ (∀ u v, u < 8 → v < 8 → J 74 (8 * u + v) = hn_lpt L (hn_fTr p s u v) q) ∧ ∀ c, c ≠ 73 → c ≠ 74 → ∀ j, J c j = I c j) L.length (fun q J hq hJ => by
    obtain ⟨j1, j2, j3⟩ := hJ
    obtain ⟨m1, m2⟩ := hmem q hq
    obtain ⟨A, hA⟩ : ∃ A, A = (hn_lg L q).1 := ⟨_, rfl⟩
    obtain ⟨B, hB⟩ : ∃ B, B = (hn_lg L q).2 := ⟨_, rfl⟩
    have bq := bF q hq
    have q1 := (hQ1.2 q hq).1
    have q2 := (hQ1.2 q hq).2.1
    have q3 := (hQ1.2 q hq).2.2
    rw [← hA] at m1 bq q1 q3
    rw [← hB] at m2 bq q2 q3
    obtain ⟨K, eK, hK, -⟩ := hf A m1
    obtain ⟨M, eM, hM, -⟩ := hf B m2
    have e70 : J 70 q = (A : Int) := by rw [j3 70 (by omega) (by omega)]; exact q1
    have e71 : J 71 q = (B : Int) := by rw [j3 71 (by omega) (by omega)]; exact q2
    have e72 : J 72 q = hn_fl s A B := by rw [j3 72 (by omega) (by omega)]; exact q3
    have u1 : J 66 A = (K : Int) := by rw [j3 66 (by omega) (by omega), hp A m1, eK]
    have u2 : J 66 B = (M : Int) := by rw [j3 66 (by omega) (by omega), hp B m2, eM]
    have x1 : (8 * (A : Int) + (K : Int)).toNat = 8 * A + K := by omega
    have x2 : (8 * (M : Int) + (B : Int)).toNat = 8 * M + B := by omega
    have x3 : (8 * (K : Int) + (M : Int)).toNat = 8 * K + M := by omega
    have d1 : J 69 (8 * A + K) = hn_gp s A K := by rw [j3 69 (by omega) (by omega)]; exact hQ.2 A K m1 hK
    have d2 : J 69 (8 * M + B) = hn_gp s M B := by rw [j3 69 (by omega) (by omega)]; exact hQ.2 M B hM m2
    have e2 : J 65 2 = s 2 := by rw [j3 65 (by omega) (by omega)]; exact h 2 (by omega)
    have e4 : J 65 4 = s 4 := by rw [j3 65 (by omega) (by omega)]; exact h 4 (by omega)
    have e11 : J 64 11 = (L.length : Int) := by rw [j3 64 (by omega) (by omega)]; exact hQ1.1
    have g1 := hn_gp_b hI (a := A) (b := K) (by omega) (by omega)
    have g2 := hn_gp_b hI (a := M) (b := B) (by omega) (by omega)
    have t := hI.2.2.1
    have o1 := hn_mul_b (show 0 ≤ s 2 by omega) t.1.2 g1.1 g1.2
    have o2 := hn_mul_b (show 0 ≤ s 4 by omega) t.2.2.1.2 g2.1 g2.2
    have o3 := hn_mul_b bq.1 bq.2 (show 0 ≤ s 2 * hn_gp s A K + s 4 * hn_gp s M B by omega) (show s 2 * hn_gp s A K + s 4 * hn_gp s M B ≤ 118800 by omega)
    have l73 := hn_lpt_b (F := hn_fL p s K) (q := q) (by omega) (nL K)
    have l74 := hn_lpt_b (F := hn_fTr p s K M) (q := q) (by omega) (nT K M)
    have lC := hn_lpt_b (F := hn_fC' p s) (q := q) (by omega) bC
    have tL := totL K
    have tT := totT K M
    have w73 := j1 K (by omega)
    have w74 := j2 K M (by omega) (by omega)
    have eC : hn_fC' p s A B = hn_fl s A B * (s 2 * hn_gp s A K + s 4 * hn_gp s M B) := by
      unfold hn_fC'
      rw [eK, eM, Int.toNat_natCast, Int.toNat_natCast]
    have r := hb_X7_quickCost_46_0 (sx := sx) (sL := sL) (C := hn_ret sx sL d) (I := J) (k := k) (g := g) (x1 := (w : Int)) (x2 := hn_lpt L (hn_fC' p s) q) (n3 := q) (h1 := by omega) (h2 := by omega) (h3 := (by (try simp only [e70, e71, e72, Int.toNat_natCast, u1, u2, x1, x2, x3, d1, d2, e2, e4]); omega)) (h4 := (by (try simp only [e70, e71, e72, Int.toNat_natCast, u1, u2, x1, x2, x3, d1, d2, e2, e4]); omega)) (h5 := (by (try simp only [e70, e71, e72, Int.toNat_natCast, u1, u2, x1, x2, x3, d1, d2, e2, e4]); omega)) (h6 := (by (try simp only [e70, e71, e72, Int.toNat_natCast, u1, u2, x1, x2, x3, d1, d2, e2, e4, w73]); omega)) (h7 := (by (try simp only [e70, e71, e72, Int.toNat_natCast, u1, u2, x1, x2, x3, d1, d2, e2, e4]); omega)) (h8 := (by (try simp only [e70, e71, e72, Int.toNat_natCast, u1, u2, x1, x2, x3, d1, d2, e2, e4]); omega)) (h9 := (by (try simp only [e70, e71, e72, Int.toNat_natCast, u1, u2, x1, x2, x3, d1, d2, e2, e4]); omega)) (h10 := (by (try simp only [e70, e71, e72, Int.toNat_natCast, u1, u2, x1, x2, x3, d1, d2, e2, e4, w74]); omega)) (h11 := (by (try simp only [e70, e71, e72, Int.toNat_natCast, u1, u2, x1, x2, x3, d1, d2, e2, e4]); omega)) (h12 := (by (try simp only [e70, e71, e72, Int.toNat_natCast, u1, u2, x1, x2, x3, d1, d2, e2, e4]); omega)) (h13 := (by (try simp only [e70, e71, e72, Int.toNat_natCast, u1, u2, x1, x2, x3, d1, d2, e2, e4]); omega)) (h14 := (by (try simp only [e70, e71, e72, Int.toNat_natCast, u1, u2, x1, x2, x3, d1, d2, e2, e4]); omega)) (h15 := (by (try simp only [e70, e71, e72, Int.toNat_natCast, u1, u2, x1, x2, x3, d1, d2, e2, e4]); omega)) (h16 := (by (try simp only [e70, e71, e72, Int.toNat_natCast, u1, u2, x1, x2, x3, d1, d2, e2, e4]); omega)) (h17 := (by (try simp only [e70, e71, e72, Int.toNat_natCast, u1, u2, x1, x2, x3, d1, d2, e2, e4]); omega)) (h18 := (by (try simp only [e70, e71, e72, Int.toNat_natCast, u1, u2, x1, x2, x3, d1, d2, e2, e4]); omega)) (h19 := (by (try simp only [e70, e71, e72, Int.toNat_natCast, u1, u2, x1, x2, x3, d1, d2, e2, e4]); omega)) (h20 := (by (try simp only [e70, e71, e72, Int.toNat_natCast, u1, u2, x1, x2, x3, d1, d2, e2, e4]); omega)) (h21 := (by (try simp only [e70, e71, e72, Int.toNat_natCast, u1, u2, x1, x2, x3, d1, d2, e2, e4]); omega)) (h22 := by omega)
    simp only [e70, e71, e72, Int.toNat_natCast, u1, u2, x1, x2, x3, d1, d2, e2, e4, w73, w74] at r
    rw [← eC] at r
    have fC : hn_fC' p s A B = hn_fC' p s (hn_lg L q).1 (hn_lg L q).2 := by rw [hA, hB]
    rw [fC] at r
    refine ⟨_, r, fun u hu => ?_, fun u v hu hv => ?_, fun c c1 c2 j => by rw [hn_up_ne (Or.inl c2), hn_up_ne (Or.inl c1), j3 c c1 c2]⟩
    · show _ = hn_lpt L (hn_fL p s u) q + hn_fL p s u (hn_lg L q).1 (hn_lg L q).2
      rw [← hA, ← hB, hn_up_ne (Or.inl (by omega))]
      unfold hn_fL
      by_cases e : u = K
      · subst e
        rw [hn_up_eq, if_pos eK]
      · rw [hn_up_ne (Or.inr e), if_neg (fun x => e (Int.ofNat.inj (x.symm.trans eK))), Int.add_zero]
        exact j1 u hu
    · show _ = hn_lpt L (hn_fTr p s u v) q + hn_fTr p s u v (hn_lg L q).1 (hn_lg L q).2
      rw [← hA, ← hB]
      unfold hn_fTr
      by_cases e : u = K ∧ v = M
      · obtain ⟨f1, f2⟩ := e
        subst f1
        subst f2
        rw [hn_up_eq, if_pos ⟨eK, eM⟩]
      · rw [hn_up_ne (Or.inr (by omega)), hn_up_ne (Or.inl (by omega)), if_neg (fun x => e ⟨Int.ofNat.inj (x.1.symm.trans eK), Int.ofNat.inj (x.2.symm.trans eM)⟩), Int.add_zero]
        exact j2 u v hu hv) y2 ⟨fun u hu => b1 u hu, fun u v hu hv => by rw [b2 74 (by omega)]; exact a1 _ (by omega), fun c c1 c2 j => by rw [b2 c c1, a2 c c2]⟩
  have e11 : y3 64 11 = (L.length : Int) := by rw [c3 64 (by omega) (by omega)]; exact hQ1.1
  have z1 := hb_X7_quickCost_4_1 (sx := sx) (sL := sL) (C := hn_ret sx sL d) (I := y1) (k := k) (g := g) (x1 := (w : Int)) (x2 := 0) (n3 := 64) (h1 := by decide)
  have z2 := hb_X7_quickCost_25_1 (sx := sx) (sL := sL) (C := hn_ret sx sL d) (I := y2) (k := k) (g := g) (x1 := (w : Int)) (x2 := 0) (n3 := 8) (h1 := by decide)
  have z3 := hb_X7_quickCost_46_1 (sx := sx) (sL := sL) (C := hn_ret sx sL d) (I := y3) (k := k) (g := g) (x1 := (w : Int)) (x2 := hn_lpt L (hn_fC' p s) L.length) (n3 := L.length) (h1 := by omega)
  have eL : hn_lpt L (hn_fC' p s) L.length = s 2 * hn_cc s p + s 4 * hn_dc s p := totC
  have r4 := r3.tr z3
  rw [eL] at r4
  refine ⟨y3, hb_X7_quickCost_0_0.tr (r1.tr (z1.tr (r2.tr (z2.tr r4)))), fun u hu => ?_, fun u v hu hv => ?_, c3⟩
  · rw [c1 u hu, ← hn_fL_all hI, ← hL]
    rfl
  · rw [c2 u v hu hv, ← hn_fTr_all hI, ← hL]
    rfl
theorem hx_quickHub (d : Nat) (hI : hn_Iv s) (h : hn_MS I s) (hw : w < 256) (hf : hn_full' s w p) (hL : ∀ u, u < 8 → I 73 u = hn_ld s p u) (hT : ∀ u v, u < 8 → v < 8 → I 74 (8 * u + v) = hn_tr s p u v) (hD : ∀ a b, a < hn_n s → b < hn_n s → I 69 (8 * a + b) = hn_gp s a b) {i : Nat} (hi : i < hn_n s) (hc : w.testBit i = true → hn_ld s p i ≤ s (34 + i)) {x : Int} (hx : 0 ≤ x ∧ x ≤ 800000000) :
    hn_go sx sL (hn_ret sx sL (d + 1)) (hn_nx 136 185 [some (hn_vr 64), some (hn_vi w), some (hn_vi (x + hn_sm i (hn_hp s p w))), some (hn_vi (i : Int)), none, none] [] (hn_m I k g)) (hn_nx 136 185 [some (hn_vr 64), some (hn_vi w), some (hn_vi (x + hn_sm (i + 1) (hn_hp s p w))), some (hn_vi ((i + 1 : Nat) : Int)), none, none] [] (hn_m I k g)) := by
  have h8 := hn_n8 hI
  have hn := h.n hI
  have eb := hn_bit w hw i (by omega)
  have bi := hn_hp_b hI p w i (by omega)
  have t3 := hI.2.2.1.2.1
  have e3 : I 65 3 = s 3 := h _ (by omega)
  have e5 : I 65 5 = s 5 := h _ (by omega)
  rw [hn_sm_up, ← Int.add_assoc]
  by_cases q : w.testBit i = true
  · rw [if_pos q] at eb
    have l := hn_ld_b hI (p := p) (k := i)
    have e73 := hL i (by omega)
    have e34 : I 65 (34 + i) = s (34 + i) := h _ (by omega)
    have e26 : I 65 (26 + i) = s (26 + i) := h _ (by omega)
    have b26 := (hI.2.2.2.2.1 i (by omega)).2.2.1
    have cb := hn_cg1_b hI l
    have c9 := hx_congestionOf (sx := sx) (sL := sL) (k := k) (g := g) d hI h l
    rw [← e73] at c9
    have hcc := hc q
    have cg1 : 0 ≤ hn_cg1 s (hn_ld s p i) ∧ hn_cg1 s (hn_ld s p i) ≤ 12800000 := by
      unfold hn_cg1
      omega
    have r0 := hb_X7_quickCost_185_1 (sx := sx) (sL := sL) (x1 := (w : Int)) (x2 := x + hn_sm i (hn_hp s p w)) (n3 := i) (h1 := by omega) (h2 := eb) (h3 := by omega) (h4 := by omega) (h5 := by omega) (h6 := by omega) (h7 := by omega) (h8 := by omega) (c9 := c9) (h10 := by rw [e73]; omega) (h11 := by rw [e73]; omega)
    rw [e73, e26] at r0
    have eh : hn_hp s p w i = s (26 + i) + hn_cg1 s (hn_ld s p i) + hn_sm (hn_n s) (hn_tm s p i) := by
      unfold hn_hp hn_opf hn_cgf hn_ro
      rw [if_pos q, if_pos q, if_pos q]
    have r1 := hn_for (sx := sx) (sL := sL) (C := hn_ret sx sL (d + 1)) (fun j => hn_nx 136 251 [some (hn_vr 64), some (hn_vi w), some (hn_vi (x + hn_sm i (hn_hp s p w) + (s (26 + i) + hn_cg1 s (hn_ld s p i)) + hn_sm j (hn_tm s p i))), some (hn_vi (i : Int)), some (hn_vi (j : Int)), none] [] (hn_m I k g)) (hn_n s) (fun j hj => by
      have b3 := hn_tm_j hI p (a := i) (j := j) (by omega) (by omega)
      have b4 := hn_tm_b hI p (a := i) (m := j) (by omega) (by omega)
      have b5 := hn_tr_b hI (p := p) (k := i) (m := j)
      have e74 := hT i j (by omega) (by omega)
      have e69 := hD i j hi hj
      show hn_go sx sL _ _ (hn_nx 136 251 [some (hn_vr 64), some (hn_vi w), some (hn_vi (x + hn_sm i (hn_hp s p w) + (s (26 + i) + hn_cg1 s (hn_ld s p i)) + (hn_sm j (hn_tm s p i) + hn_tm s p i j))), some (hn_vi (i : Int)), some (hn_vi ((j + 1 : Nat) : Int)), none] [] (hn_m I k g))
      rw [← Int.add_assoc (x + hn_sm i (hn_hp s p w) + (s (26 + i) + hn_cg1 s (hn_ld s p i))) (hn_sm j (hn_tm s p i)) (hn_tm s p i j)]
      by_cases z1 : j = i
      · have e0 : hn_tm s p i j = 0 := by
          unfold hn_tm
          rw [z1, hn_gp_self, Int.mul_zero]
        rw [e0]
        exact hb_X7_quickCost_251_0 (h1 := by omega) (h2 := by omega) (h3 := by omega) (h4 := by omega)
      · by_cases z2 : hn_tr s p i j = 0
        · have e0 : hn_tm s p i j = 0 := by
            unfold hn_tm
            rw [z2, Int.mul_zero, Int.zero_mul]
          rw [e0]
          exact hb_X7_quickCost_251_1 (h1 := by omega) (h2 := by omega) (h3 := by omega) (h4 := by omega) (h5 := by omega) (h6 := by omega) (h7 := by omega) (h8 := by omega)
        · by_cases z3 : s 5 ≤ hn_tr s p i j
          · have et : hn_tm s p i j = s 3 * hn_tr s p i j * hn_gp s i j := by rw [hn_tm, if_pos z3]
            have b6 := hn_mul_b t3.1 t3.2 b5.1 b5.2
            rw [et] at b4 ⊢
            have r := hb_X7_quickCost_251_3 (sx := sx) (sL := sL) (C := hn_ret sx sL (d + 1)) (I := I) (k := k) (g := g) (x1 := (w : Int)) (x2 := x + hn_sm i (hn_hp s p w) + (s (26 + i) + hn_cg1 s (hn_ld s p i)) + hn_sm j (hn_tm s p i)) (n3 := i) (n4 := j) (h1 := by omega) (h2 := by omega) (h3 := by omega) (h4 := by omega) (h5 := by omega) (h6 := by omega) (h7 := by omega) (h8 := by rw [e3, e74]; omega) (h9 := by rw [e3, e74, e69]; omega) (h10 := by rw [e3, e74, e69]; omega) (h11 := by omega)
            rw [e3, e74, e69] at r
            exact r
          · have et : hn_tm s p i j = 100 * hn_tr s p i j * hn_gp s i j := by rw [hn_tm, if_neg z3]
            rw [et] at b4 ⊢
            have r := hb_X7_quickCost_251_2 (sx := sx) (sL := sL) (C := hn_ret sx sL (d + 1)) (I := I) (k := k) (g := g) (x1 := (w : Int)) (x2 := x + hn_sm i (hn_hp s p w) + (s (26 + i) + hn_cg1 s (hn_ld s p i)) + hn_sm j (hn_tm s p i)) (n3 := i) (n4 := j) (h1 := by omega) (h2 := by omega) (h3 := by omega) (h4 := by omega) (h5 := by omega) (h6 := by omega) (h7 := by omega) (h8 := by rw [e74]; omega) (h9 := by rw [e74, e69]; omega) (h10 := by rw [e74, e69]; omega) (h11 := by omega)
            rw [e74, e69] at r
            exact r)
    rw [show hn_sm 0 (hn_tm s p i) = 0 from rfl, Int.add_zero] at r1
    rw [eh, ← Int.add_assoc (x + hn_sm i (hn_hp s p w)) (s (26 + i) + hn_cg1 s (hn_ld s p i)) (hn_sm (hn_n s) (hn_tm s p i))]
    exact r0.tr (r1.tr (hb_X7_quickCost_251_4 (h1 := by omega) (h2 := by omega)))
  · rw [if_neg q] at eb
    have eh : hn_hp s p w i = 0 := by
      unfold hn_hp hn_opf hn_cgf hn_ro
      rw [if_neg q, if_neg q, if_neg q]
      rfl
    rw [eh, Int.add_zero]
    exact hb_X7_quickCost_185_2 (h1 := by omega) (h2 := by rw [eb]; decide) (h3 := by omega)
theorem hx_quickCost (d : Nat) (hI : hn_Iv s) (h : hn_MS I s) (hQ : hn_QD s I) (hp : ∀ v, v < hn_n s → I 66 v = p v) (hw : w < 256) (hf : hn_full' s w p) : ∃ I', hn_ret sx sL (d + 2) 136 [hn_vr 64, hn_vi w] (hn_m I k g) (some (hn_vi (if hn_fits s p w then hn_cost s w p else 2147483647))) (hn_m I' k g) ∧ ∀ c, c ≠ 73 → c ≠ 74 → ∀ j, I' c j = I c j := by
  have h8 := hn_n8 hI
  obtain ⟨y, r0, a1, a2, a3⟩ := hx_quick0 (sx := sx) (sL := sL) (k := k) (g := g) (d + 1) hI h hQ hp hf
  have hy : hn_MS y s := h.mv (fun j => a3 65 (by omega) (by omega) j)
  have hn := hy.n hI
  have hD : ∀ a b, a < hn_n s → b < hn_n s → y 69 (8 * a + b) = hn_gp s a b := fun a b ha hb => by
    rw [a3 69 (by omega) (by omega)]
    exact hQ.2 a b ha hb
  have cc := (hn_cc_b hI (p := p)).2
  have dc := (hn_dc_b hI (p := p)).2
  have hx : 0 ≤ s 2 * hn_cc s p + s 4 * hn_dc s p ∧ s 2 * hn_cc s p + s 4 * hn_dc s p ≤ 800000000 := by omega
  have r0' : hn_go sx sL (hn_ret sx sL (d + 1)) (hn_nx 136 0 [some (hn_vr 64), some (hn_vi w), none, none, none, none] [] (hn_m I k g)) (hn_nx 136 185 [some (hn_vr 64), some (hn_vi w), some (hn_vi (s 2 * hn_cc s p + s 4 * hn_dc s p + hn_sm 0 (hn_hp s p w))), some (hn_vi ((0 : Nat) : Int)), none, none] [] (hn_m y k g)) := by
    rw [show hn_sm 0 (hn_hp s p w) = 0 from rfl, Int.add_zero]
    exact r0
  refine ⟨y, hn_of rfl (r0'.tr ?_), a3⟩
  by_cases e : hn_fits s p w
  · rw [if_pos e, ← hn_hp_all hI p w]
    exact (hn_for (fun i => hn_nx 136 185 [some (hn_vr 64), some (hn_vi w), some (hn_vi (s 2 * hn_cc s p + s 4 * hn_dc s p + hn_sm i (hn_hp s p w))), some (hn_vi (i : Int)), none, none] [] (hn_m y k g)) (hn_n s) (fun i hi => hx_quickHub d hI hy hw hf a1 a2 hD hi (e i hi) hx)).tr (hb_X7_quickCost_185_3 (h1 := by omega))
  · rw [if_neg e]
    have ex : ∃ v, v < hn_n s ∧ w.testBit v = true ∧ s (34 + v) < hn_ld s p v := Classical.byContradiction fun x => e fun v hv hv2 => Int.not_lt.mp fun z => x ⟨v, hv, hv2, z⟩
    obtain ⟨v, ⟨hv, hv2, hv3⟩, hl⟩ := pk_least _ ex
    have bi := hn_hp_b hI p w v (by omega)
    have eb := hn_bit w hw v (by omega)
    rw [if_pos hv2] at eb
    have e73 := a1 v (by omega)
    have e34 : y 65 (34 + v) = s (34 + v) := hy _ (by omega)
    exact (hn_for (fun i => hn_nx 136 185 [some (hn_vr 64), some (hn_vi w), some (hn_vi (s 2 * hn_cc s p + s 4 * hn_dc s p + hn_sm i (hn_hp s p w))), some (hn_vi (i : Int)), none, none] [] (hn_m y k g)) v (fun i hi => hx_quickHub d hI hy hw hf a1 a2 hD (by omega) (fun q => Int.not_lt.mp fun z => hl i hi ⟨by omega, q, z⟩) hx)).tr (hb_X7_quickCost_185_0 (h1 := by omega) (h2 := eb) (h3 := by omega) (h4 := by omega) (h5 := by omega) (h6 := by omega))
end HX46
