/-! the model's search: the next plan, and all plans of a mask -/
theorem hn_hl_lt {w : Nat} : ∀ {n i j : Nat}, i < j → j < (hn_hl w n).length → (hn_hl w n).getD i 0 < (hn_hl w n).getD j 0
  | 0, i, j, h, hj => absurd hj (by simp [hn_hl])
  | n + 1, i, j, h, hj => by
    unfold hn_hl at hj ⊢
    by_cases e : w.testBit n = true
    · rw [if_pos e] at hj ⊢
      rw [List.length_append, List.length_singleton] at hj
      by_cases q : j < (hn_hl w n).length
      · rw [hn_getD_l q, hn_getD_l (by omega)]
        exact hn_hl_lt h q
      · have ej : j = (hn_hl w n).length := by omega
        rw [ej, hn_getD_r, hn_getD_l (by omega)]
        exact (hn_hl_mem.mp (hn_getD_mem (by omega))).1
    · rw [if_neg e] at hj ⊢
      exact hn_hl_lt h hj
theorem hn_fr_lt {w : Nat} : ∀ {n i j : Nat}, i < j → j < (hn_fr w n).length → (hn_fr w n).getD i 0 < (hn_fr w n).getD j 0
  | 0, i, j, h, hj => absurd hj (by simp [hn_fr])
  | n + 1, i, j, h, hj => by
    unfold hn_fr at hj ⊢
    by_cases e : w.testBit n = true
    · rw [if_pos e] at hj ⊢
      exact hn_fr_lt h hj
    · rw [if_neg e] at hj ⊢
      rw [List.length_append, List.length_singleton] at hj
      by_cases q : j < (hn_fr w n).length
      · rw [hn_getD_l q, hn_getD_l (by omega)]
        exact hn_fr_lt h q
      · have ej : j = (hn_fr w n).length := by omega
        rw [ej, hn_getD_r, hn_getD_l (by omega)]
        exact (hn_fr_mem.mp (hn_getD_mem (by omega))).1
/-- a free node lies behind another just if it is greater -/
theorem hn_drop_lt {w n i u : Nat} (hi : i < (hn_fr w n).length) : u ∈ (hn_fr w n).drop (i + 1) ↔ u ∈ hn_fr w n ∧ (hn_fr w n).getD i 0 < u := by
  constructor
  · intro h
    obtain ⟨j, h1, h2, h3⟩ := hn_mem_drop.mp h
    refine ⟨List.mem_of_mem_drop h, ?_⟩
    rw [← h3]
    exact hn_fr_lt (by omega) h2
  · rintro ⟨h1, h2⟩
    obtain ⟨j, hj, e⟩ := hn_mem_getD h1
    refine hn_mem_drop.mpr ⟨j, ?_, hj, e⟩
    by_cases q : i + 1 ≤ j
    · exact q
    · exfalso
      by_cases z : j = i
      · rw [z] at e
        omega
      · have := hn_fr_lt (w := w) (n := n) (i := j) (j := i) (by omega) hi
        omega
def hn_fill (p : Nat → Nat) (L : List Nat) (h : Nat) : Nat → Nat := fun u => if u ∈ L then h else p u
theorem hn_fill_put {p : Nat → Nat} {L : List Nat} {v h : Nat} (hv : v ∉ L) : hn_fill p (v :: L) h = hn_fill (hn_put p v h) L h := by
  funext u
  unfold hn_fill hn_put
  by_cases e : u ∈ L
  · rw [if_pos e, if_pos (List.mem_cons_of_mem v e)]
  · rw [if_neg e]
    by_cases q : u = v
    · rw [if_pos q, if_pos (by rw [q]; exact List.mem_cons_self)]
    · rw [if_neg q, if_neg (fun x => (List.mem_cons.mp x).elim q e)]
def hn_pln (J : Nat → Nat → Int) (n : Nat) (q : Nat → Nat) : Prop := ∀ u, u < n → J 66 u = ((q u : Nat) : Int)
/-- what the search has: how many, the least cost, the first plan of that cost -/
def hn_XR (J : Nat → Nat → Int) (n : Nat) (x : Int) (X : Int × Int × (Nat → Int)) : Prop := J 64 6 = X.1 ∧ x = X.2.1 ∧ (X.2.1 ≠ 2147483647 → ∀ v, v < n → J 68 v = X.2.2 v)
theorem hn_XR.mv {J K : Nat → Nat → Int} {n : Nat} {x : Int} {X : Int × Int × (Nat → Int)} (h : hn_XR J n x X) (e1 : K 64 6 = J 64 6) (e2 : ∀ j, K 68 j = J 68 j) : hn_XR K n x X := ⟨by rw [e1]; exact h.1, h.2.1, fun q v hv => by rw [e2]; exact h.2.2 q v hv⟩
theorem hn_ms1_cnt {s : hn_S} {w : Nat} {F : List Nat} (hd : F.Nodup) (p : Nat → Nat) (X : Int × Int × (Nat → Int)) : X.1 ≤ (hn_dfs (hn_hl w (hn_n s)) (hn_ms1 s w) F p X).1 ∧ (hn_dfs (hn_hl w (hn_n s)) (hn_ms1 s w) F p X).1 ≤ X.1 + (((hn_hl w (hn_n s)).length ^ F.length : Nat) : Int) := by
  have e : (hn_dfs (hn_hl w (hn_n s)) (hn_ms1 s w) F p X).1 = hn_dfs (hn_hl w (hn_n s)) (hn_cs1 s w) F p X.1 := by
    refine hn_dfs_rel (R := fun (x : Int × Int × (Nat → Int)) (y : Int) => x.1 = y) (f := hn_ms1 s w) (h := hn_cs1 s w) F p (fun q _ x y r => ?_) hd _ _ rfl
    unfold hn_ms1 hn_cs1
    by_cases e : hn_fits s (hn_P q) w
    · rw [if_pos e, if_pos e, ← r]
    · rw [if_neg e, if_neg e, r]
  rw [e, hn_cs1_add]
  have b := hn_cs1_b (s := s) (w := w) (H := hn_hl w (hn_n s)) F p
  omega
section HX47
variable {sx : Nat → Int} {sL : Nat} {I : Nat → Nat → Int} {k : Nat → Option Nat} {g : Nat → Nat → Int64} {a : hn_AA} {s : hn_S} {b : Int} {w : Nat}
theorem hi_X7_steps_9_0 {C : hn_C} {x1 x2 : Int} (h1 : x2 < 0) : hn_go sx sL C (hn_nx 134 9 [some (hn_vr 64), some (hn_vi x1), some (hn_vi x2), none] [] (hn_m I k g)) (.inr (some (hn_vi 0), (hn_m I k g))) :=
  fun P hc hw ht => hc _ (hc _ (br_t h1 (hc _ (hc _ (And.intro (show (0 : Int) = 0 ∨ (0 : Int) = 1 by decide) ht)))))
theorem hx_nextSome (d : Nat) (h8 : hn_n s ≤ 8) (hn : I 65 0 = (hn_n s : Int)) (hw : w < 256) {x : Int} {c v : Nat} (hx : x + 1 = (c : Int)) (hcv : c ≤ v) (hv : v < hn_n s) (hv2 : w.testBit v = true) (hl : ∀ u, c ≤ u → u < v → ¬ w.testBit u = true) : hn_ret sx sL (d + 1) 133 [hn_vr 64, hn_vi w, hn_vi x] (hn_m I k g) (some (hn_vi v)) (hn_m I k g) := by
  have r0 := hb_X7_nextHub_0_0 (sx := sx) (sL := sL) (C := hn_ret sx sL d) (I := I) (k := k) (g := g) (x1 := (w : Int)) (x2 := x) (h1 := by omega)
  rw [hx] at r0
  have r1 := hn_for1 (sx := sx) (sL := sL) (C := hn_ret sx sL d) (fun j => hn_nx 133 4 [some (hn_vr 64), some (hn_vi w), none, some (hn_vi (j : Int))] [] (hn_m I k g)) c v hcv (fun j q1 q2 => by
    have eb := hn_bit w hw j (by omega)
    rw [if_neg (hl j q1 q2)] at eb
    exact hb_X7_nextHub_4_0 (h1 := by omega) (h2 := eb) (h3 := by omega))
  have eb := hn_bit w hw v (by omega)
  rw [if_pos hv2] at eb
  exact hn_of rfl (r0.tr (r1.tr (hb_X7_nextHub_4_1 (h1 := by omega) (h2 := by rw [eb]; decide))))
theorem hx_nextNone (d : Nat) (h8 : hn_n s ≤ 8) (hn : I 65 0 = (hn_n s : Int)) (hw : w < 256) {x : Int} {c : Nat} (hx : x + 1 = (c : Int)) (hc : c ≤ hn_n s) (hl : ∀ u, c ≤ u → u < hn_n s → ¬ w.testBit u = true) : hn_ret sx sL (d + 1) 133 [hn_vr 64, hn_vi w, hn_vi x] (hn_m I k g) (some (hn_vi (-1))) (hn_m I k g) := by
  have r0 := hb_X7_nextHub_0_0 (sx := sx) (sL := sL) (C := hn_ret sx sL d) (I := I) (k := k) (g := g) (x1 := (w : Int)) (x2 := x) (h1 := by omega)
  rw [hx] at r0
  have r1 := hn_for1 (sx := sx) (sL := sL) (C := hn_ret sx sL d) (fun j => hn_nx 133 4 [some (hn_vr 64), some (hn_vi w), none, some (hn_vi (j : Int))] [] (hn_m I k g)) c (hn_n s) hc (fun j q1 q2 => by
    have eb := hn_bit w hw j (by omega)
    rw [if_neg (hl j q1 q2)] at eb
    exact hb_X7_nextHub_4_0 (h1 := by omega) (h2 := eb) (h3 := by omega))
  exact hn_of rfl (r0.tr (r1.tr (hb_X7_nextHub_4_2 (h1 := by omega))))
/-- no hub between one and the next -/
theorem hn_hl_gap {n j : Nat} (hj : j + 1 < (hn_hl w n).length) : ∀ u, (hn_hl w n).getD j 0 + 1 ≤ u → u < (hn_hl w n).getD (j + 1) 0 → ¬ w.testBit u = true := fun u h1 h2 hu => by
  have hn1 := (hn_hl_mem.mp (hn_getD_mem hj)).1
  obtain ⟨i, hi, e⟩ := hn_mem_getD (hn_hl_mem.mpr ⟨show u < n by omega, hu⟩)
  by_cases q : i ≤ j
  · by_cases z : i = j
    · rw [z] at e
      omega
    · have := hn_hl_lt (w := w) (n := n) (i := i) (j := j) (by omega) (by omega)
      omega
  · by_cases z : i = j + 1
    · rw [z] at e
      omega
    · have := hn_hl_lt (w := w) (n := n) (i := j + 1) (j := i) (by omega) hi
      omega
theorem hn_hl_first {n : Nat} (h0 : 0 < (hn_hl w n).length) : ∀ u, u < (hn_hl w n).getD 0 0 → ¬ w.testBit u = true := fun u h2 hu => by
  have hn1 := (hn_hl_mem.mp (hn_getD_mem h0)).1
  obtain ⟨i, hi, e⟩ := hn_mem_getD (hn_hl_mem.mpr ⟨show u < n by omega, hu⟩)
  by_cases z : i = 0
  · rw [z] at e
    omega
  · have := hn_hl_lt (w := w) (n := n) (i := 0) (j := i) (by omega) hi
    omega
theorem hn_hl_last {n : Nat} (h0 : 0 < (hn_hl w n).length) : ∀ u, (hn_hl w n).getD ((hn_hl w n).length - 1) 0 + 1 ≤ u → u < n → ¬ w.testBit u = true := fun u h1 h2 hu => by
  obtain ⟨i, hi, e⟩ := hn_mem_getD (hn_hl_mem.mpr ⟨h2, hu⟩)
  by_cases z : i = (hn_hl w n).length - 1
  · rw [z] at e
    omega
  · have := hn_hl_lt (w := w) (n := n) (i := i) (j := (hn_hl w n).length - 1) (by omega) (by omega)
    omega
theorem hx_nextFirst (d : Nat) (h8 : hn_n s ≤ 8) (hn : I 65 0 = (hn_n s : Int)) (hw : w < 256) (h0 : 0 < (hn_hl w (hn_n s)).length) : hn_ret sx sL (d + 1) 133 [hn_vr 64, hn_vi w, hn_vi (-1)] (hn_m I k g) (some (hn_vi (((hn_hl w (hn_n s)).getD 0 0 : Nat) : Int))) (hn_m I k g) :=
  have m := hn_hl_mem.mp (hn_getD_mem h0)
  hx_nextSome d h8 hn hw (c := 0) (by decide) (by omega) m.1 m.2 (fun u _ h2 => hn_hl_first h0 u h2)
theorem hx_nextAfter (d : Nat) (h8 : hn_n s ≤ 8) (hn : I 65 0 = (hn_n s : Int)) (hw : w < 256) {j : Nat} (hj : j + 1 < (hn_hl w (hn_n s)).length) : hn_ret sx sL (d + 1) 133 [hn_vr 64, hn_vi w, hn_vi (((hn_hl w (hn_n s)).getD j 0 : Nat) : Int)] (hn_m I k g) (some (hn_vi (((hn_hl w (hn_n s)).getD (j + 1) 0 : Nat) : Int))) (hn_m I k g) :=
  have m := hn_hl_mem.mp (hn_getD_mem hj)
  have l := hn_hl_lt (w := w) (n := hn_n s) (i := j) (j := j + 1) (by omega) hj
  hx_nextSome d h8 hn hw (c := (hn_hl w (hn_n s)).getD j 0 + 1) (by omega) (by omega) m.1 m.2 (hn_hl_gap hj)
theorem hx_nextLast (d : Nat) (h8 : hn_n s ≤ 8) (hn : I 65 0 = (hn_n s : Int)) (hw : w < 256) (h0 : 0 < (hn_hl w (hn_n s)).length) : hn_ret sx sL (d + 1) 133 [hn_vr 64, hn_vi w, hn_vi (((hn_hl w (hn_n s)).getD ((hn_hl w (hn_n s)).length - 1) 0 : Nat) : Int)] (hn_m I k g) (some (hn_vi (-1))) (hn_m I k g) :=
  have m := hn_hl_mem.mp (hn_getD_mem (L := hn_hl w (hn_n s)) (j := (hn_hl w (hn_n s)).length - 1) (by omega))
  hx_nextNone d h8 hn hw (c := (hn_hl w (hn_n s)).getD ((hn_hl w (hn_n s)).length - 1) 0 + 1) (by omega) (by omega) (hn_hl_last h0)
/-- the carry, from the last node down to v -/
theorem hx_carry (d : Nat) (h8 : hn_n s ≤ 8) (hn : I 65 0 = (hn_n s : Int)) (hw : w < 256) (h0 : 0 < (hn_hl w (hn_n s)).length) {q : Nat → Nat} (hq : hn_pln I (hn_n s) q) (hH : ∀ u, u < hn_n s → w.testBit u = true → q u = u) {c : Nat} (hc : c ≤ hn_n s) (hl : ∀ u, hn_n s - c ≤ u → u < hn_n s → ¬ w.testBit u = true → q u = (hn_hl w (hn_n s)).getD ((hn_hl w (hn_n s)).length - 1) 0) :
    ∃ I', hn_go sx sL (hn_ret sx sL (d + 1)) (hn_nx 134 9 [some (hn_vr 64), some (hn_vi w), some (hn_vi ((hn_n s : Int) - 1)), none] [] (hn_m I k g)) (hn_nx 134 9 [some (hn_vr 64), some (hn_vi w), some (hn_vi ((hn_n s : Int) - 1 - (c : Int))), none] [] (hn_m I' k g)) ∧ hn_pln I' (hn_n s) (fun u => if hn_n s - c ≤ u ∧ ¬ w.testBit u = true then (hn_hl w (hn_n s)).getD 0 0 else q u) ∧ ∀ c, c ≠ 66 → ∀ j, I' c j = I c j := by
  obtain ⟨y, r, p1, p2⟩ := hn_forE (sx := sx) (sL := sL) (C := hn_ret sx sL (d + 1)) (fun i (J : Nat → Nat → Int) => hn_nx 134 9 [some (hn_vr 64), some (hn_vi w), some (hn_vi ((hn_n s : Int) - 1 - (i : Int))), none] [] (hn_m J k g)) (fun i J => hn_pln J (hn_n s) (fun u => if hn_n s - i ≤ u ∧ ¬ w.testBit u = true then (hn_hl w (hn_n s)).getD 0 0 else q u) ∧ ∀ c, c ≠ 66 → ∀ j, J c j = I c j) c (fun i J hi hJ => by
    obtain ⟨j1, j2⟩ := hJ
    obtain ⟨v, hv⟩ : ∃ v, v = hn_n s - 1 - i := ⟨_, rfl⟩
    have ev : (hn_n s : Int) - 1 - (i : Int) = (v : Int) := by omega
    have ev2 : (hn_n s : Int) - 1 - ((i + 1 : Nat) : Int) = (v : Int) + (-1) := by omega
    show ∃ z, hn_go sx sL _ (hn_nx 134 9 [some (hn_vr 64), some (hn_vi w), some (hn_vi ((hn_n s : Int) - 1 - (i : Int))), none] [] (hn_m J k g)) (hn_nx 134 9 [some (hn_vr 64), some (hn_vi w), some (hn_vi ((hn_n s : Int) - 1 - ((i + 1 : Nat) : Int))), none] [] (hn_m z k g)) ∧ _
    rw [ev, ev2]
    have n0 : J 65 0 = (hn_n s : Int) := by rw [j2 65 (by omega), hn]
    have eb := hn_bit w hw v (by omega)
    have jv : J 66 v = ((q v : Nat) : Int) := by
      have := j1 v (by omega)
      rw [this]
      show (((if hn_n s - i ≤ v ∧ ¬ w.testBit v = true then (hn_hl w (hn_n s)).getD 0 0 else q v) : Nat) : Int) = _
      rw [if_neg (by omega)]
    by_cases e : w.testBit v = true
    · rw [if_pos e] at eb
      refine ⟨_, hb_X7_steps_9_1 (h1 := by omega) (h2 := eb) (h3 := by omega) (h4 := by omega), fun u hu => ?_, fun c hc j => by rw [hn_up_ne (Or.inl hc), j2 c hc]⟩
      show _ = (((if hn_n s - (i + 1) ≤ u ∧ ¬ w.testBit u = true then (hn_hl w (hn_n s)).getD 0 0 else q u) : Nat) : Int)
      by_cases z : u = v
      · rw [z, hn_up_eq, if_neg (fun x => x.2 e), hH v (by omega) e]
      · rw [hn_up_ne (Or.inr z), j1 u hu]
        show (((if hn_n s - i ≤ u ∧ ¬ w.testBit u = true then (hn_hl w (hn_n s)).getD 0 0 else q u) : Nat) : Int) = _
        by_cases y : hn_n s - i ≤ u ∧ ¬ w.testBit u = true
        · rw [if_pos y, if_pos ⟨by omega, y.2⟩]
        · rw [if_neg y, if_neg (fun x => y ⟨by omega, x.2⟩)]
    · rw [if_neg e] at eb
      have c4 := hx_nextLast (sx := sx) (sL := sL) (I := J) (k := k) (g := g) d h8 n0 hw h0
      rw [← hl v (by omega) (by omega) e, ← jv] at c4
      have c6 := hx_nextFirst (sx := sx) (sL := sL) (I := J) (k := k) (g := g) d h8 n0 hw h0
      refine ⟨_, hb_X7_steps_9_2 (h1 := by omega) (h2 := by rw [eb]; decide) (h3 := by omega) (c4 := c4) (h5 := rfl) (c6 := c6) (h7 := by omega), fun u hu => ?_, fun c hc j => by rw [hn_up_ne (Or.inl hc), j2 c hc]⟩
      show _ = (((if hn_n s - (i + 1) ≤ u ∧ ¬ w.testBit u = true then (hn_hl w (hn_n s)).getD 0 0 else q u) : Nat) : Int)
      by_cases z : u = v
      · rw [z, hn_up_eq, if_pos ⟨by omega, e⟩]
      · rw [hn_up_ne (Or.inr z), j1 u hu]
        show (((if hn_n s - i ≤ u ∧ ¬ w.testBit u = true then (hn_hl w (hn_n s)).getD 0 0 else q u) : Nat) : Int) = _
        by_cases y : hn_n s - i ≤ u ∧ ¬ w.testBit u = true
        · rw [if_pos y, if_pos ⟨by omega, y.2⟩]
        · rw [if_neg y, if_neg (fun x => y ⟨by omega, x.2⟩)]) I ⟨fun u hu => by
      show _ = (((if hn_n s - 0 ≤ u ∧ ¬ w.testBit u = true then (hn_hl w (hn_n s)).getD 0 0 else q u) : Nat) : Int)
      rw [if_neg (by omega)]
      exact hq u hu, fun _ _ _ => rfl⟩
  have r' : hn_go sx sL (hn_ret sx sL (d + 1)) (hn_nx 134 9 [some (hn_vr 64), some (hn_vi w), some (hn_vi ((hn_n s : Int) - 1 - ((0 : Nat) : Int))), none] [] (hn_m I k g)) _ := r
  have e0 : (hn_n s : Int) - 1 - ((0 : Nat) : Int) = (hn_n s : Int) - 1 := by omega
  rw [e0] at r'
  exact ⟨y, r', p1, p2⟩
theorem hx_stepsEnd (d : Nat) (h8 : hn_n s ≤ 8) (hn : I 65 0 = (hn_n s : Int)) (hw : w < 256) (h0 : 0 < (hn_hl w (hn_n s)).length) {q : Nat → Nat} (hq : hn_pln I (hn_n s) q) (hH : ∀ u, u < hn_n s → w.testBit u = true → q u = u) (hl : ∀ u, u < hn_n s → ¬ w.testBit u = true → q u = (hn_hl w (hn_n s)).getD ((hn_hl w (hn_n s)).length - 1) 0) :
    ∃ I', hn_ret sx sL (d + 2) 134 [hn_vr 64, hn_vi w] (hn_m I k g) (some (hn_vi 0)) (hn_m I' k g) ∧ ∀ c, c ≠ 66 → ∀ j, I' c j = I c j := by
  obtain ⟨y, r, p1, p2⟩ := hx_carry (sx := sx) (sL := sL) (k := k) (g := g) d h8 hn hw h0 hq hH (c := hn_n s) (Nat.le_refl _) (fun u _ h2 h3 => hl u h2 h3)
  have r0 := hb_X7_steps_0_0 (sx := sx) (sL := sL) (C := hn_ret sx sL (d + 1)) (I := I) (k := k) (g := g) (x1 := (w : Int)) (h1 := by omega)
  rw [hn] at r0
  exact ⟨y, hn_of rfl (r0.tr (r.tr (hi_X7_steps_9_0 (by omega)))), p2⟩
theorem hx_stepsOne (d : Nat) (h8 : hn_n s ≤ 8) (hn : I 65 0 = (hn_n s : Int)) (hw : w < 256) {q : Nat → Nat} (hq : hn_pln I (hn_n s) q) (hH : ∀ u, u < hn_n s → w.testBit u = true → q u = u) {v j : Nat} (hv : v < hn_n s) (hv2 : ¬ w.testBit v = true) (hj : j + 1 < (hn_hl w (hn_n s)).length) (hqv : q v = (hn_hl w (hn_n s)).getD j 0) (hl : ∀ u, v < u → u < hn_n s → ¬ w.testBit u = true → q u = (hn_hl w (hn_n s)).getD ((hn_hl w (hn_n s)).length - 1) 0) :
    ∃ I', hn_ret sx sL (d + 2) 134 [hn_vr 64, hn_vi w] (hn_m I k g) (some (hn_vi 1)) (hn_m I' k g) ∧ hn_pln I' (hn_n s) (fun u => if u = v then (hn_hl w (hn_n s)).getD (j + 1) 0 else if v < u ∧ ¬ w.testBit u = true then (hn_hl w (hn_n s)).getD 0 0 else q u) ∧ ∀ c, c ≠ 66 → ∀ j, I' c j = I c j := by
  obtain ⟨y, r, p1, p2⟩ := hx_carry (sx := sx) (sL := sL) (k := k) (g := g) d h8 hn hw (by omega) hq hH (c := hn_n s - 1 - v) (by omega) (fun u h1 h2 h3 => hl u (by omega) h2 h3)
  have r0 := hb_X7_steps_0_0 (sx := sx) (sL := sL) (C := hn_ret sx sL (d + 1)) (I := I) (k := k) (g := g) (x1 := (w : Int)) (h1 := by omega)
  rw [hn] at r0
  have ev : (hn_n s : Int) - 1 - ((hn_n s - 1 - v : Nat) : Int) = (v : Int) := by omega
  rw [ev] at r
  have n0 : y 65 0 = (hn_n s : Int) := by rw [p2 65 (by omega), hn]
  have eb := hn_bit w hw v (by omega)
  rw [if_neg hv2] at eb
  have yv : y 66 v = (((hn_hl w (hn_n s)).getD j 0 : Nat) : Int) := by
    rw [p1 v hv]
    show (((if hn_n s - (hn_n s - 1 - v) ≤ v ∧ ¬ w.testBit v = true then (hn_hl w (hn_n s)).getD 0 0 else q v) : Nat) : Int) = _
    rw [if_neg (by omega), hqv]
  have c4 := hx_nextAfter (sx := sx) (sL := sL) (I := y) (k := k) (g := g) d h8 n0 hw hj
  rw [← yv] at c4
  have r2 := hb_X7_steps_9_3 (sx := sx) (sL := sL) (x1 := (w : Int)) (n2 := v) (h1 := by omega) (h2 := by rw [eb]; decide) (h3 := by omega) (c4 := c4) (h5 := by omega)
  refine ⟨_, hn_of rfl (r0.tr (r.tr r2)), fun u hu => ?_, fun c hc j => by rw [hn_up_ne (Or.inl hc), p2 c hc]⟩
  show _ = (((if u = v then (hn_hl w (hn_n s)).getD (j + 1) 0 else if v < u ∧ ¬ w.testBit u = true then (hn_hl w (hn_n s)).getD 0 0 else q u) : Nat) : Int)
  by_cases z : u = v
  · rw [z, hn_up_eq, if_pos rfl]
  · rw [hn_up_ne (Or.inr z), if_neg z, p1 u hu]
    show (((if hn_n s - (hn_n s - 1 - v) ≤ u ∧ ¬ w.testBit u = true then (hn_hl w (hn_n s)).getD 0 0 else q u) : Nat) : Int) = _
    by_cases x : v < u ∧ ¬ w.testBit u = true
    · rw [if_pos x, if_pos ⟨by omega, x.2⟩]
    · rw [if_neg x, if_neg (fun t => x ⟨by omega, t.2⟩)]
/-- what the search leaves alone -/
def hn_fs (J I : Nat → Nat → Int) : Prop := (∀ c, c ≠ 64 → c ≠ 66 → c ≠ 68 → c ≠ 73 → c ≠ 74 → ∀ j, J c j = I c j) ∧ ∀ j, j ≠ 6 → J 64 j = I 64 j
theorem hn_fs.rf {I : Nat → Nat → Int} : hn_fs I I := ⟨fun _ _ _ _ _ _ _ => rfl, fun _ _ => rfl⟩
theorem hn_fs.tr {A B I : Nat → Nat → Int} (h1 : hn_fs A B) (h2 : hn_fs B I) : hn_fs A I := ⟨fun c a b e f g j => by rw [h1.1 c a b e f g, h2.1 c a b e f g], fun j a => by rw [h1.2 j a, h2.2 j a]⟩
theorem hn_fs.p {J I : Nat → Nat → Int} (h : ∀ c, c ≠ 66 → ∀ j, J c j = I c j) : hn_fs J I := ⟨fun c _ b _ _ _ j => h c b j, fun j _ => h 64 (by omega) j⟩
theorem hn_fs.QD {J I : Nat → Nat → Int} (h : hn_fs J I) (hQ : hn_QD s I) : hn_QD s J := hQ.mv (fun c a b j => h.1 c (by omega) (by omega) (by omega) (by omega) (by omega) j) (h.2 11 (by omega))
theorem hn_fs.MS {J I : Nat → Nat → Int} (h : hn_fs J I) (hM : hn_MS I s) : hn_MS J s := hM.mv (fun j => h.1 65 (by omega) (by omega) (by omega) (by omega) (by omega) j)
/-- from one plan to behind it -/
def hn_lap (sx : Nat → Int) (sL d : Nat) (k : Nat → Option Nat) (g : Nat → Nat → Int64) (w : Nat) (J J1 : Nat → Nat → Int) (x x1 : Int) : Prop := ∀ (r2 : Int) (J2 : Nat → Nat → Int), hn_ret sx sL d 134 [hn_vr 64, hn_vi w] (hn_m J1 k g) (some (hn_vi r2)) (hn_m J2 k g) → hn_go sx sL (hn_ret sx sL d) (hn_nx 137 62 [some (hn_vr 64), some (hn_vi w), some (hn_vi x), some (hn_vi 1), none, none] [] (hn_m J k g)) (hn_nx 137 62 [some (hn_vr 64), some (hn_vi w), some (hn_vi x1), some (hn_vi r2), none, none] [] (hn_m J2 k g))
theorem hx_lap1 (d : Nat) (hI : hn_Iv s) (hw : w < 256) {J : Nat → Nat → Int} (h : hn_MS J s) (hQ : hn_QD s J) {q : Nat → Nat} (hV : hn_Pl (hn_hl w (hn_n s)) (hn_fr w (hn_n s)) q (hn_fr w (hn_n s)).length) (hp : hn_pln J (hn_n s) q) {x : Int} {X : Int × Int × (Nat → Int)} (hX : hn_XR J (hn_n s) x X) (hb : 0 ≤ X.1 ∧ X.1 ≤ 16777216) :
    ∃ J1 x1, hn_XR J1 (hn_n s) x1 (hn_ms1 s w q X) ∧ hn_pln J1 (hn_n s) q ∧ hn_fs J1 J ∧ hn_lap sx sL (d + 2) k g w J J1 x x1 := by
  have h8 := hn_n8 hI
  have hq := hV.hp
  have hf : hn_full' s w (hn_P q) := fun v hv => ⟨q v, rfl, (hq v hv).1, (hq v hv).2⟩
  obtain ⟨K, c2, f2⟩ := hx_quickCost (sx := sx) (sL := sL) (k := k) (g := g) d hI h hQ (p := hn_P q) (fun v hv => hp v hv) hw hf
  have fK : hn_fs K J := ⟨fun c _ _ _ e f j => f2 c e f j, fun j _ => f2 64 (by omega) (by omega) j⟩
  have hK : hn_MS K s := fK.MS h
  have nK := hK.n hI
  have pK : hn_pln K (hn_n s) q := fun u hu => by rw [f2 66 (by omega) (by omega)]; exact hp u hu
  have cb := hn_cost_b hI (p := hn_P q) (m := w)
  unfold hn_ms1
  by_cases e : hn_fits s (hn_P q) w
  · rw [if_pos e] at c2 ⊢
    have e6 : K 64 6 = X.1 := by rw [f2 64 (by omega) (by omega)]; exact hX.1
    by_cases e2 : hn_cost s w (hn_P q) < X.2.1
    · rw [if_pos e2]
      have r0 := hb_X7_finds_62_2 (sx := sx) (sL := sL) (x1 := (w : Int)) (x2 := x) (x3 := 1) (h1 := by decide) (c2 := c2) (h3 := by omega) (h4 := by omega) (h5 := by rw [hX.2.1]; exact e2)
      obtain ⟨y, r1, p1, p2⟩ := hn_forE (sx := sx) (sL := sL) (C := hn_ret sx sL (d + 2)) (fun i (Y : Nat → Nat → Int) => hn_nx 137 102 [some (hn_vr 64), some (hn_vi w), some (hn_vi (hn_cost s w (hn_P q))), none, none, some (hn_vi (i : Int))] [] (hn_m Y k g)) (fun i Y => (∀ v, v < i → Y 68 v = hn_P q v) ∧ ∀ c, c ≠ 68 → ∀ j, Y c j = hn_up K 64 6 ((K 64 6) + 1) c j) (hn_n s) (fun i Y hi hY => by
        have n0 : Y 65 0 = (hn_n s : Int) := by rw [hY.2 65 (by omega), hn_up_ne (Or.inl (by omega)), nK]
        refine ⟨_, hb_X7_finds_102_0 (h1 := by omega) (h2 := by omega) (h3 := by omega), fun v hv => ?_, fun c hc j => by rw [hn_up_ne (Or.inl hc), hY.2 c hc]⟩
        by_cases z : v = i
        · rw [z, hn_up_eq, hY.2 66 (by omega), hn_up_ne (Or.inl (by omega))]
          exact pK i hi
        · rw [hn_up_ne (Or.inr z)]
          exact hY.1 v (by omega)) (hn_up K 64 6 ((K 64 6) + 1)) ⟨fun v hv => absurd hv (by omega), fun _ _ _ => rfl⟩
      have n0 : y 65 0 = (hn_n s : Int) := by rw [p2 65 (by omega), hn_up_ne (Or.inl (by omega)), nK]
      refine ⟨y, hn_cost s w (hn_P q), ⟨by rw [p2 64 (by omega), hn_up_eq, e6], rfl, fun _ v hv => p1 v hv⟩, fun u hu => by rw [p2 66 (by omega), hn_up_ne (Or.inl (by omega))]; exact pK u hu, (show hn_fs y K from ⟨fun c c1 _ c3 _ _ j => by rw [p2 c c3, hn_up_ne (Or.inl c1)], fun j hj => by rw [p2 64 (by omega), hn_up_ne (Or.inr hj)]⟩).tr fK, fun r2 J2 c => r0.tr (r1.tr (hb_X7_finds_102_1 (h1 := by omega) (c2 := c)))⟩
    · rw [if_neg e2]
      refine ⟨hn_up K 64 6 ((K 64 6) + 1), x, ⟨by rw [hn_up_eq, e6], hX.2.1, fun z v hv => by rw [hn_up_ne (Or.inl (by omega)), f2 68 (by omega) (by omega)]; exact hX.2.2 z v hv⟩, fun u hu => by rw [hn_up_ne (Or.inl (by omega))]; exact pK u hu, (show hn_fs (hn_up K 64 6 ((K 64 6) + 1)) K from ⟨fun c c1 _ c3 _ _ j => hn_up_ne (Or.inl c1), fun j hj => hn_up_ne (Or.inr hj)⟩).tr fK, fun r2 J2 c => hb_X7_finds_62_3 (h1 := by decide) (c2 := c2) (h3 := by omega) (h4 := by omega) (h5 := by rw [hX.2.1]; exact e2) (c6 := c)⟩
  · rw [if_neg e] at c2 ⊢
    exact ⟨K, x, hX.mv (f2 64 (by omega) (by omega) 6) (f2 68 (by omega) (by omega)), pK, fK, fun r2 J2 c => hb_X7_finds_62_1 (h1 := by decide) (c2 := c2) (h3 := rfl) (c4 := c)⟩
theorem hx_laps (d : Nat) (hI : hn_Iv s) (hw : w < 256) (h0 : 0 < (hn_hl w (hn_n s)).length) : ∀ (r i : Nat) (p : Nat → Nat) (J : Nat → Nat → Int) (x : Int) (X : Int × Int × (Nat → Int)), i + r = (hn_fr w (hn_n s)).length → hn_Pl (hn_hl w (hn_n s)) (hn_fr w (hn_n s)) p i → hn_MS J s → hn_QD s J → hn_pln J (hn_n s) (hn_fill p ((hn_fr w (hn_n s)).drop i) ((hn_hl w (hn_n s)).getD 0 0)) → hn_XR J (hn_n s) x X → 0 ≤ X.1 ∧ X.1 + (((hn_hl w (hn_n s)).length ^ r : Nat) : Int) ≤ 16777216 →
    ∃ J1 x1, hn_XR J1 (hn_n s) x1 (hn_dfs (hn_hl w (hn_n s)) (hn_ms1 s w) ((hn_fr w (hn_n s)).drop i) p X) ∧ hn_pln J1 (hn_n s) (hn_fill p ((hn_fr w (hn_n s)).drop i) ((hn_hl w (hn_n s)).getD ((hn_hl w (hn_n s)).length - 1) 0)) ∧ hn_fs J1 J ∧ hn_lap sx sL (d + 2) k g w J J1 x x1 := by
  intro r
  have h8 := hn_n8 hI
  have hd := hn_fr_nd w (hn_n s)
  induction r with
  | zero =>
    intro i p J x X hir hV hM hQ hp hX hb
    have hi : i = (hn_fr w (hn_n s)).length := by omega
    subst hi
    have ef : ∀ h, hn_fill p ((hn_fr w (hn_n s)).drop (hn_fr w (hn_n s)).length) h = p := fun h => by
      funext u
      unfold hn_fill
      rw [List.drop_length, if_neg (by simp)]
    rw [ef] at hp
    rw [ef, List.drop_length]
    have e1 : (hn_hl w (hn_n s)).length ^ 0 = 1 := rfl
    rw [e1] at hb
    exact hx_lap1 (sx := sx) (sL := sL) (k := k) (g := g) d hI hw hM hQ hV hp hX (by omega)
  | succ r ih =>
    intro i p J x X hir hV hM hQ hp hX hb
    have hi : i < (hn_fr w (hn_n s)).length := by omega
    have mF := hn_fr_mem.mp (hn_getD_mem hi)
    have nF : (hn_fr w (hn_n s)).getD i 0 ∉ (hn_fr w (hn_n s)).drop (i + 1) := hn_drop_nd hd (by omega) hi
    rw [hn_drop_cons hi, hn_fill_put nF] at hp
    rw [hn_drop_cons hi, hn_fill_put nF]
    have ePow : (hn_hl w (hn_n s)).length ^ (r + 1) = (hn_hl w (hn_n s)).length ^ r * (hn_hl w (hn_n s)).length := Nat.pow_succ _ _
    rw [ePow] at hb
    -- the blocks, one hub after another
    have key : ∀ m, m < (hn_hl w (hn_n s)).length → ∃ J1 x1, hn_XR J1 (hn_n s) x1 (hn_itr (m + 1) (fun j X => hn_dfs (hn_hl w (hn_n s)) (hn_ms1 s w) ((hn_fr w (hn_n s)).drop (i + 1)) (hn_put p ((hn_fr w (hn_n s)).getD i 0) ((hn_hl w (hn_n s)).getD j 0)) X) X) ∧ hn_pln J1 (hn_n s) (hn_fill (hn_put p ((hn_fr w (hn_n s)).getD i 0) ((hn_hl w (hn_n s)).getD m 0)) ((hn_fr w (hn_n s)).drop (i + 1)) ((hn_hl w (hn_n s)).getD ((hn_hl w (hn_n s)).length - 1) 0)) ∧ hn_fs J1 J ∧ hn_lap sx sL (d + 2) k g w J J1 x x1 ∧ (X.1 ≤ (hn_itr (m + 1) (fun j X => hn_dfs (hn_hl w (hn_n s)) (hn_ms1 s w) ((hn_fr w (hn_n s)).drop (i + 1)) (hn_put p ((hn_fr w (hn_n s)).getD i 0) ((hn_hl w (hn_n s)).getD j 0)) X) X).1 ∧ (hn_itr (m + 1) (fun j X => hn_dfs (hn_hl w (hn_n s)) (hn_ms1 s w) ((hn_fr w (hn_n s)).drop (i + 1)) (hn_put p ((hn_fr w (hn_n s)).getD i 0) ((hn_hl w (hn_n s)).getD j 0)) X) X).1 ≤ X.1 + (((hn_hl w (hn_n s)).length ^ r * (m + 1) : Nat) : Int)) := by
      intro m
      have elen : ((hn_fr w (hn_n s)).drop (i + 1)).length = r := by rw [List.length_drop]; omega
      induction m with
      | zero =>
        intro hm
        have p1 : (hn_hl w (hn_n s)).length ^ r * 1 ≤ (hn_hl w (hn_n s)).length ^ r * (hn_hl w (hn_n s)).length := Nat.mul_le_mul_left _ (by omega)
        obtain ⟨J1, x1, a1, a2, a3, a4⟩ := ih (i + 1) (hn_put p ((hn_fr w (hn_n s)).getD i 0) ((hn_hl w (hn_n s)).getD 0 0)) J x X (by omega) (hV.put hd hn_HF hi (hn_getD_mem hm)) hM hQ hp hX (by omega)
        have ct := hn_ms1_cnt (s := s) (w := w) (hn_nd_drop hd (i + 1)) (hn_put p ((hn_fr w (hn_n s)).getD i 0) ((hn_hl w (hn_n s)).getD 0 0)) X
        rw [elen] at ct
        exact ⟨J1, x1, a1, a2, a3, a4, ct.1, by have := ct.2; show (hn_dfs (hn_hl w (hn_n s)) (hn_ms1 s w) ((hn_fr w (hn_n s)).drop (i + 1)) (hn_put p ((hn_fr w (hn_n s)).getD i 0) ((hn_hl w (hn_n s)).getD 0 0)) X).1 ≤ _; rw [Nat.zero_add, Nat.mul_one]; exact this⟩
      | succ m im =>
        intro hm
        obtain ⟨J1, x1, a1, a2, a3, a4, a5, a6⟩ := im (by omega)
        obtain ⟨Y, hY⟩ : ∃ Y, Y = hn_itr (m + 1) (fun j X => hn_dfs (hn_hl w (hn_n s)) (hn_ms1 s w) ((hn_fr w (hn_n s)).drop (i + 1)) (hn_put p ((hn_fr w (hn_n s)).getD i 0) ((hn_hl w (hn_n s)).getD j 0)) X) X := ⟨_, rfl⟩
        rw [hn_itr_up, ← hY]
        rw [← hY] at a1 a5 a6
        have M1 := a3.MS hM
        have n1 := M1.n hI
        -- the step
        have hVm := hV.put hd hn_HF hi (hn_getD_mem (L := hn_hl w (hn_n s)) (j := m) (by omega))
        have qh : ∀ u, u < hn_n s → w.testBit u = true → hn_fill (hn_put p ((hn_fr w (hn_n s)).getD i 0) ((hn_hl w (hn_n s)).getD m 0)) ((hn_fr w (hn_n s)).drop (i + 1)) ((hn_hl w (hn_n s)).getD ((hn_hl w (hn_n s)).length - 1) 0) u = u := fun u hu hu2 => by
          have mm := hn_hl_mem.mpr ⟨hu, hu2⟩
          unfold hn_fill
          rw [if_neg (fun z => hn_HF u mm (List.mem_of_mem_drop z))]
          exact hVm.1 u mm
        have qv : hn_fill (hn_put p ((hn_fr w (hn_n s)).getD i 0) ((hn_hl w (hn_n s)).getD m 0)) ((hn_fr w (hn_n s)).drop (i + 1)) ((hn_hl w (hn_n s)).getD ((hn_hl w (hn_n s)).length - 1) 0) ((hn_fr w (hn_n s)).getD i 0) = (hn_hl w (hn_n s)).getD m 0 := by
          unfold hn_fill
          rw [if_neg nF, hn_put_eq]
        have ql : ∀ u, (hn_fr w (hn_n s)).getD i 0 < u → u < hn_n s → ¬ w.testBit u = true → hn_fill (hn_put p ((hn_fr w (hn_n s)).getD i 0) ((hn_hl w (hn_n s)).getD m 0)) ((hn_fr w (hn_n s)).drop (i + 1)) ((hn_hl w (hn_n s)).getD ((hn_hl w (hn_n s)).length - 1) 0) u = (hn_hl w (hn_n s)).getD ((hn_hl w (hn_n s)).length - 1) 0 := fun u h1 h2 h3 => by
          unfold hn_fill
          rw [if_pos ((hn_drop_lt hi).mpr ⟨hn_fr_mem.mpr ⟨h2, by simpa using h3⟩, h1⟩)]
        obtain ⟨J2, s1, s2, s3⟩ := hx_stepsOne (sx := sx) (sL := sL) (k := k) (g := g) d h8 n1 hw a2 qh mF.1 (by rw [mF.2]; decide) hm qv ql
        have s2' : hn_pln J2 (hn_n s) (hn_fill (hn_put p ((hn_fr w (hn_n s)).getD i 0) ((hn_hl w (hn_n s)).getD (m + 1) 0)) ((hn_fr w (hn_n s)).drop (i + 1)) ((hn_hl w (hn_n s)).getD 0 0)) := fun u hu => by
          rw [s2 u hu]
          congr 1
          show (if u = (hn_fr w (hn_n s)).getD i 0 then _ else if (hn_fr w (hn_n s)).getD i 0 < u ∧ ¬ w.testBit u = true then _ else _) = _
          by_cases z : u = (hn_fr w (hn_n s)).getD i 0
          · rw [if_pos z]
            unfold hn_fill
            rw [if_neg (by rw [z]; exact nF), z, hn_put_eq]
          · rw [if_neg z]
            by_cases y : (hn_fr w (hn_n s)).getD i 0 < u ∧ ¬ w.testBit u = true
            · rw [if_pos y]
              unfold hn_fill
              rw [if_pos ((hn_drop_lt hi).mpr ⟨hn_fr_mem.mpr ⟨hu, by simpa using y.2⟩, y.1⟩)]
            · rw [if_neg y]
              have nd : u ∉ (hn_fr w (hn_n s)).drop (i + 1) := fun t => by
                obtain ⟨t1, t2⟩ := (hn_drop_lt hi).mp t
                exact y ⟨t2, by rw [(hn_fr_mem.mp t1).2]; decide⟩
              unfold hn_fill hn_put
              rw [if_neg nd, if_neg nd, if_neg z, if_neg z]
        have F2 : hn_fs J2 J1 := hn_fs.p s3
        have pw : (hn_hl w (hn_n s)).length ^ r * (m + 1 + 1) ≤ (hn_hl w (hn_n s)).length ^ r * (hn_hl w (hn_n s)).length := Nat.mul_le_mul_left _ (by omega)
        have pw2 : (hn_hl w (hn_n s)).length ^ r * (m + 1 + 1) = (hn_hl w (hn_n s)).length ^ r * (m + 1) + (hn_hl w (hn_n s)).length ^ r := Nat.mul_succ _ _
        obtain ⟨J3, x3, b1, b2, b3, b4⟩ := ih (i + 1) (hn_put p ((hn_fr w (hn_n s)).getD i 0) ((hn_hl w (hn_n s)).getD (m + 1) 0)) J2 x1 Y (by omega) (hV.put hd hn_HF hi (hn_getD_mem hm)) (F2.MS M1) (F2.QD (a3.QD hQ)) s2' (a1.mv (s3 64 (by omega) 6) (s3 68 (by omega))) (by omega)
        have ct := hn_ms1_cnt (s := s) (w := w) (hn_nd_drop hd (i + 1)) (hn_put p ((hn_fr w (hn_n s)).getD i 0) ((hn_hl w (hn_n s)).getD (m + 1) 0)) Y
        rw [elen] at ct
        exact ⟨J3, x3, b1, b2, b3.tr (F2.tr a3), fun r2 J4 c => (a4 1 J2 s1).tr (b4 r2 J4 c), by omega, by omega⟩
    obtain ⟨J1, x1, a1, a2, a3, a4, -⟩ := key ((hn_hl w (hn_n s)).length - 1) (by omega)
    rw [show (hn_hl w (hn_n s)).length - 1 + 1 = (hn_hl w (hn_n s)).length by omega] at a1
    exact ⟨J1, x1, a1, a2, a3, a4⟩
/-- what finds leaves alone -/
def hn_fd (J I : Nat → Nat → Int) : Prop := (∀ c, c < 64 ∨ c = 65 ∨ c = 67 ∨ 74 < c → ∀ j, J c j = I c j) ∧ ∀ j, j ≠ 6 → j ≠ 11 → J 64 j = I 64 j
theorem hn_fd.rf {I : Nat → Nat → Int} : hn_fd I I := ⟨fun _ _ _ => rfl, fun _ _ _ => rfl⟩
theorem hn_fd.tr {A B I : Nat → Nat → Int} (h1 : hn_fd A B) (h2 : hn_fd B I) : hn_fd A I := ⟨fun c a j => by rw [h1.1 c a, h2.1 c a], fun j a b => by rw [h1.2 j a b, h2.2 j a b]⟩
theorem hx_finds (d : Nat) (hI : hn_Iv s) (h : hn_MS I s) {w : Nat} (w0 : w ≠ 0) (hw2 : w < 2 ^ hn_n s) : ∃ I', hn_ret sx sL (d + 3) 137 [hn_vr 64, hn_vi w] (hn_m I k g) (some (hn_vi (hn_fnd s w).2.1)) (hn_m I' k g) ∧ I' 64 6 = (hn_fnd s w).1 ∧ ((hn_fnd s w).2.1 ≠ 2147483647 → ∀ v, v < hn_n s → I' 68 v = (hn_fnd s w).2.2 v) ∧ hn_fd I' I := by
  have h8 := hn_n8 hI
  have hw := hn_w256 hI hw2
  have h0 := hn_hl_pos w0 hw2
  have hd := hn_fr_nd w (hn_n s)
  have hlen := hn_hl_len w (hn_n s)
  obtain ⟨I1, c1, Q1, f1, g1⟩ := hx_prepares (sx := sx) (sL := sL) (k := k) (g := g) (I := hn_up I 64 6 0) d hI (h.mv (fun j => hn_up_ne (Or.inl (by omega))))
  have M1 : hn_MS I1 s := h.mv (fun j => by rw [f1 65 (by omega) (by omega), hn_up_ne (Or.inl (by omega))])
  have n1 := M1.n hI
  obtain ⟨y, r1, p1, p2⟩ := hn_forE (sx := sx) (sL := sL) (C := hn_ret sx sL (d + 2)) (fun i (Y : Nat → Nat → Int) => hn_nx 137 17 [some (hn_vr 64), some (hn_vi w), some (hn_vi 2147483647), some (hn_vi 1), some (hn_vi (i : Int)), none] [] (hn_m Y k g)) (fun i Y => (∀ v, v < i → Y 66 v = ((hn_fill (fun u => u) (hn_fr w (hn_n s)) ((hn_hl w (hn_n s)).getD 0 0) v : Nat) : Int)) ∧ ∀ c, c ≠ 66 → ∀ j, Y c j = I1 c j) (hn_n s) (fun i Y hi hY => by
    have n0 : Y 65 0 = (hn_n s : Int) := by rw [hY.2 65 (by omega), n1]
    have eb := hn_bit w hw i (by omega)
    by_cases e : w.testBit i = true
    · rw [if_pos e] at eb
      refine ⟨_, hb_X7_finds_17_0 (h1 := by omega) (h2 := eb) (h3 := by omega) (h4 := by omega), fun v hv => ?_, fun c hc j => by rw [hn_up_ne (Or.inl hc), hY.2 c hc]⟩
      by_cases z : v = i
      · rw [z, hn_up_eq]
        unfold hn_fill
        rw [if_neg (fun t => by rw [(hn_fr_mem.mp t).2] at e; exact absurd e (by decide))]
      · rw [hn_up_ne (Or.inr z)]
        exact hY.1 v (by omega)
    · rw [if_neg e] at eb
      have c3 := hx_nextFirst (sx := sx) (sL := sL) (I := Y) (k := k) (g := g) (d + 1) h8 n0 hw h0
      refine ⟨_, hb_X7_finds_17_1 (h1 := by omega) (h2 := by rw [eb]; decide) (c3 := c3) (h4 := by omega) (h5 := by omega), fun v hv => ?_, fun c hc j => by rw [hn_up_ne (Or.inl hc), hY.2 c hc]⟩
      by_cases z : v = i
      · rw [z, hn_up_eq]
        unfold hn_fill
        rw [if_pos (hn_fr_mem.mpr ⟨hi, by simpa using e⟩)]
      · rw [hn_up_ne (Or.inr z)]
        exact hY.1 v (by omega)) I1 ⟨fun v hv => absurd hv (by omega), fun _ _ _ => rfl⟩
  have My : hn_MS y s := M1.mv (fun j => p2 65 (by omega) j)
  have ny := My.n hI
  have Qy : hn_QD s y := Q1.mv (fun c a b j => p2 c (by omega) j) (p2 64 (by omega) 11)
  have b8 := hn_pow8 (a := (hn_hl w (hn_n s)).length) (b := (hn_fr w (hn_n s)).length) (by omega) (by omega)
  have e6 : y 64 6 = 0 := by rw [p2 64 (by omega), g1 6 (by omega), hn_up_eq]
  obtain ⟨J1, x1, a1, a2, a3, a4⟩ := hx_laps (sx := sx) (sL := sL) (k := k) (g := g) d hI hw h0 (hn_fr w (hn_n s)).length 0 (fun u => u) y 2147483647 (0, 2147483647, fun _ => 0) (by omega) ⟨fun _ _ => rfl, fun j hj => absurd hj (by omega)⟩ My Qy (fun u hu => by rw [List.drop_zero]; exact p1 u hu) ⟨e6, rfl, fun z => absurd rfl z⟩ ⟨Int.le_refl 0, by show (0 : Int) + _ ≤ _; omega⟩
  rw [List.drop_zero] at a1 a2
  have n2 := (a3.MS My).n hI
  have mlast := hn_getD_mem (L := hn_hl w (hn_n s)) (j := (hn_hl w (hn_n s)).length - 1) (by omega)
  obtain ⟨J2, s1, s3⟩ := hx_stepsEnd (sx := sx) (sL := sL) (k := k) (g := g) d h8 n2 hw h0 a2 (fun u hu hu2 => by
    unfold hn_fill
    rw [if_neg (fun t => by rw [(hn_fr_mem.mp t).2] at hu2; exact absurd hu2 (by decide))]) (fun u hu hu2 => by
    unfold hn_fill
    rw [if_pos (hn_fr_mem.mpr ⟨hu, by simpa using hu2⟩)])
  have rr := a4 0 J2 s1
  have ex : x1 = (hn_fnd s w).2.1 := a1.2.1
  rw [ex] at rr
  have F : hn_fs J2 y := (hn_fs.p s3).tr a3
  refine ⟨J2, hn_of rfl ((hb_X7_finds_0_0 c1).tr (r1.tr ((hb_X7_finds_17_2 (h1 := by omega)).tr (rr.tr (hb_X7_finds_62_0 (h1 := rfl)))))), by rw [s3 64 (by omega)]; exact a1.1, fun z v hv => by rw [s3 68 (by omega)]; exact a1.2.2 z v hv, fun c hc j => ?_, fun j j1 j2 => ?_⟩
  · rw [F.1 c (by omega) (by omega) (by omega) (by omega) (by omega), p2 c (by omega), f1 c (by omega) (by omega), hn_up_ne (Or.inl (by omega))]
  · rw [F.2 j j1, p2 64 (by omega), g1 j j2, hn_up_ne (Or.inr j1)]
end HX47
