/-! the class's Search: sumRest, hubTrunks, joining -/
theorem hn_li_get {J : Nat → Nat → Int} {c : Nat} {L : List Nat} (h : hn_li J c L) {j : Nat} (hj : j < L.length) : J c j = ((L.getD j 0 : Nat) : Int) := by
  refine h j _ ?_
  rw [List.getD_eq_getElem?_getD, List.getElem?_eq_getElem hj]
  rfl
theorem hn_getD_mem {L : List Nat} {j : Nat} (hj : j < L.length) : L.getD j 0 ∈ L := by
  rw [List.getD_eq_getElem?_getD, List.getElem?_eq_getElem hj]
  exact List.getElem_mem hj
def hn_hb1 (s : hn_S) (H : List Nat) (v j : Nat) (x : Int) : Int := min x (hn_ow s v (H.getD j 0))
/-- the least own cost of a node -/
def hn_hb (s : hn_S) (H : List Nat) (v : Nat) : Int := hn_itr H.length (hn_hb1 s H v) 2000000000
def hn_rst (s : hn_S) (H F : List Nat) : Nat → Int
  | 0 => 0
  | c + 1 => hn_rst s H F c + hn_hb s H (F.getD (F.length - 1 - c) 0)
theorem hn_hb_b {s : hn_S} (hI : hn_Iv s) {H : List Nat} {v : Nat} (hv : v < 8) (hH : ∀ u, u ∈ H → u < 8) (h0 : 0 < H.length) : 0 ≤ hn_hb s H v ∧ hn_hb s H v ≤ 95040000 := by
  have b : ∀ j, j < H.length → 0 ≤ hn_ow s v (H.getD j 0) ∧ hn_ow s v (H.getD j 0) ≤ 95040000 := fun j hj => hn_ow_b hI hv (hH _ (hn_getD_mem hj))
  refine ⟨hn_itr_ge (fun i t hi ht => ?_) (by omega), hn_itr_le (k := 0) (fun i t hi => ?_) h0 (fun t => ?_) _⟩
  · have := b i hi
    unfold hn_hb1
    omega
  · unfold hn_hb1
    omega
  · have := b 0 h0
    unfold hn_hb1
    omega
theorem hn_hb_le {s : hn_S} {H : List Nat} {v j : Nat} (hj : j < H.length) : hn_hb s H v ≤ hn_ow s v (H.getD j 0) := by
  refine hn_itr_le (k := j) (fun i t hi => ?_) hj (fun t => ?_) _
  · unfold hn_hb1
    omega
  · unfold hn_hb1
    omega
theorem hn_rst_b {s : hn_S} (hI : hn_Iv s) {H F : List Nat} (hH : ∀ u, u ∈ H → u < 8) (hF : ∀ u, u ∈ F → u < 8) (h0 : 0 < H.length) {c : Nat} (hc : c ≤ F.length) : 0 ≤ hn_rst s H F c ∧ hn_rst s H F c ≤ 95040000 * c := by
  induction c with
  | zero => exact ⟨Int.le_refl 0, by show (0 : Int) ≤ _; omega⟩
  | succ c ih =>
    have q := ih (by omega)
    have b := hn_hb_b hI (v := F.getD (F.length - 1 - c) 0) (hF _ (hn_getD_mem (by omega))) hH h0
    show 0 ≤ hn_rst s H F c + _ ∧ hn_rst s H F c + _ ≤ _
    omega
/-- what the two lists and the arrays of start hold -/
def hn_PL (s : hn_S) (H F : List Nat) (J : Nat → Nat → Int) : Prop :=
  hn_SS s J ∧ J 48 12 = (H.length : Int) ∧ J 48 13 = (F.length : Int) ∧ hn_li J 53 H ∧ hn_li J 54 F ∧ (∀ u, u ∈ H → u < hn_n s) ∧ (∀ u, u ∈ F → u < hn_n s) ∧ H.length + F.length ≤ 8 ∧ 0 < H.length
theorem hn_PL.mv {s : hn_S} {H F : List Nat} {J J' : Nat → Nat → Int} (h : hn_PL s H F J) (e : ∀ c, 49 ≤ c → c ≤ 54 → ∀ j, J' c j = J c j) (e1 : J' 48 12 = J 48 12) (e2 : J' 48 13 = J 48 13) : hn_PL s H F J' := by
  obtain ⟨h1, h2, h3, h4, h5, h6⟩ := h
  exact ⟨h1.mv (fun c a b j => e c (by omega) (by omega) j), by rw [e1, h2], by rw [e2, h3], h4.mv (fun j => e 53 (by omega) (by omega) j), h5.mv (fun j => e 54 (by omega) (by omega) j), h6⟩
section HX25
variable {sx : Nat → Int} {sL : Nat} {I : Nat → Nat → Int} {k : Nat → Option Nat} {g : Nat → Nat → Int64} {s : hn_S} {H F : List Nat}
theorem hm_sumRest (d : Nat) (hI : hn_Iv s) (hP : hn_PL s H F I) :
    ∃ I', hn_ret sx sL (d + 1) 28 [hn_vr 48] (hn_m I k g) none (hn_m I' k g) ∧ (∀ j, j ≤ F.length → I' 55 j = hn_rst s H F (F.length - j)) ∧ ∀ c, c ≠ 55 → ∀ j, I' c j = I c j := by
  have h8 := hn_n8 hI
  obtain ⟨hS, p12, p13, pH, pF, bH, bF, bl, b0⟩ := hP
  have bH8 : ∀ u, u ∈ H → u < 8 := fun u hu => by have := bH u hu; omega
  have bF8 : ∀ u, u ∈ F → u < 8 := fun u hu => by have := bF u hu; omega
  obtain ⟨y, h1, h2, h3⟩ := hn_forE (sx := sx) (sL := sL) (C := hn_ret sx sL d) (fun c (J : Nat → Nat → Int) => hn_nx 28 17 [some (hn_vr 48), some (hn_vi ((F.length : Int) - 1 - c)), none, none, none] [] (hn_m J k g)) (fun c J => (∀ j, F.length - c ≤ j → j ≤ F.length → J 55 j = hn_rst s H F (F.length - j)) ∧ ∀ a, a ≠ 55 → ∀ j, J a j = I a j) F.length (fun c J hc hJ => by
      obtain ⟨j1, j2⟩ := hJ
      have ec : (F.length : Int) - 1 - c = ((F.length - 1 - c : Nat) : Int) := by omega
      have ec2 : (F.length : Int) - 1 - (c + 1 : Nat) = ((F.length - 1 - c : Nat) : Int) + (-1) := by omega
      show ∃ z, hn_go sx sL _ (hn_nx 28 17 [some (hn_vr 48), some (hn_vi ((F.length : Int) - 1 - c)), none, none, none] [] (hn_m J k g)) (hn_nx 28 17 [some (hn_vr 48), some (hn_vi ((F.length : Int) - 1 - (c + 1 : Nat))), none, none, none] [] (hn_m z k g)) ∧ _
      rw [ec, ec2]
      have hv := hn_getD_mem (L := F) (j := F.length - 1 - c) (by omega)
      have ef : J 54 (F.length - 1 - c) = ((F.getD (F.length - 1 - c) 0 : Nat) : Int) := by rw [j2 54 (by omega)]; exact hn_li_get pF (by omega)
      have hv8 := bF8 _ hv
      have hvn := bF _ hv
      have r1 := hb_X3_sumRest_17_1 (sx := sx) (sL := sL) (C := hn_ret sx sL d) (I := J) (k := k) (g := g) (n1 := F.length - 1 - c) (by omega) (by omega) (by omega)
      rw [ef] at r1
      have e12 : J 48 12 = (H.length : Int) := by rw [j2 48 (by omega), p12]
      have r2 := hn_for (sx := sx) (sL := sL) (C := hn_ret sx sL d) (fun i => hn_nx 28 37 [some (hn_vr 48), some (hn_vi ((F.length - 1 - c : Nat) : Int)), some (hn_vi (((F.getD (F.length - 1 - c) 0 : Nat) : Int) * 8)), some (hn_vi (hn_itr i (hn_hb1 s H (F.getD (F.length - 1 - c) 0)) 2000000000)), some (hn_vi (i : Int))] [] (hn_m J k g)) H.length (fun i hi => by
        have hu := hn_getD_mem (L := H) (j := i) hi
        have hu8 := bH8 _ hu
        have hun := bH _ hu
        have eh : J 53 i = ((H.getD i 0 : Nat) : Int) := by rw [j2 53 (by omega)]; exact hn_li_get pH hi
        have ei : (((F.getD (F.length - 1 - c) 0 : Nat) : Int) * 8 + J 53 i).toNat = F.getD (F.length - 1 - c) 0 * 8 + H.getD i 0 := by rw [eh]; omega
        have r := hb_X3_sumRest_37_0 (sx := sx) (sL := sL) (C := hn_ret sx sL d) (I := J) (k := k) (g := g) (n1 := F.length - 1 - c) (x2 := ((F.getD (F.length - 1 - c) 0 : Nat) : Int) * 8) (x3 := hn_itr i (hn_hb1 s H (F.getD (F.length - 1 - c) 0)) 2000000000) (n4 := i) (by omega) (by omega) (by omega) (by omega) (by omega)
        rw [ei, j2 50 (by omega), (hS.2 _ _ hvn hun).2.1] at r
        exact r)
      have e55 := j1 (F.length - 1 - c + 1) (by omega) (by omega)
      have bb := hn_hb_b hI hv8 bH8 b0
      have br := hn_rst_b hI bH8 bF8 b0 (c := c) (by omega)
      have er : F.length - (F.length - 1 - c + 1) = c := by omega
      rw [er] at e55
      have r3 := hb_X3_sumRest_37_1 (sx := sx) (sL := sL) (C := hn_ret sx sL d) (I := J) (k := k) (g := g) (n1 := F.length - 1 - c) (x2 := ((F.getD (F.length - 1 - c) 0 : Nat) : Int) * 8) (x3 := hn_hb s H (F.getD (F.length - 1 - c) 0)) (n4 := H.length) (by omega) (by omega) (by omega) (by omega) (by omega) (by omega)
      refine ⟨_, r1.tr (r2.tr r3), fun j hj1 hj2 => ?_, fun a ha j => by rw [hn_up_ne (Or.inl ha), j2 a ha]⟩
      by_cases e : j = F.length - 1 - c
      · rw [e, hn_up_eq, e55, show F.length - (F.length - 1 - c) = c + 1 by omega]
        rfl
      · rw [hn_up_ne (Or.inr e)]
        exact j1 j (by omega) hj2) (hn_up I 55 F.length 0) ⟨fun j hj1 hj2 => by
        rw [show j = F.length by omega, hn_up_eq, Nat.sub_self]
        rfl, fun a ha j => hn_up_ne (Or.inl ha)⟩
  have r0 := hb_X3_sumRest_0_0 (sx := sx) (sL := sL) (C := hn_ret sx sL d) (I := I) (k := k) (g := g) (by omega) (by omega)
  rw [p13, Int.toNat_natCast] at r0
  have e0 : (F.length : Int) - 1 - ((0 : Nat) : Int) = (F.length : Int) - 1 := by omega
  rw [e0] at h1
  exact ⟨y, hn_of rfl (r0.tr (h1.tr (hi_X3_sumRest_17_0 (by omega)))), fun j hj => h2 j (by omega) hj, h3⟩
/-- the trunks between the hubs -/
def hn_pq (s : hn_S) (v u k q : Nat) : Int := hn_bo s v u * hn_gp s k q
theorem hn_pq_b (hI : hn_Iv s) {v u k q : Nat} (h1 : v < 8) (h2 : u < 8) (h3 : k < 8) (h4 : q < 8) : 0 ≤ hn_pq s v u k q ∧ hn_pq s v u k q ≤ 3960000 := by
  have b1 := hn_bo_b hI h1 h2
  have b2 := hn_gp_b hI h3 h4
  exact hn_mul_b b1.1 b1.2 b2.1 b2.2
def hn_htf (s : hn_S) (H : List Nat) (i j : Nat) : Int := hn_pq s (H.getD i 0) (H.getD j 0) (H.getD i 0) (H.getD j 0)
def hn_ht (s : hn_S) (H : List Nat) : Int := hn_sm H.length (fun i => hn_sm i (hn_htf s H i))
theorem hm_hubTrunks (d : Nat) (hI : hn_Iv s) (hP : hn_PL s H F I) : hn_ret sx sL (d + 1) 29 [hn_vr 48] (hn_m I k g) (some (hn_vi (hn_ht s H))) (hn_m I k g) := by
  have h8 := hn_n8 hI
  obtain ⟨hS, p12, p13, pH, pF, bH, bF, bl, b0⟩ := hP
  have bz : ∀ i j, i < H.length → j < H.length → 0 ≤ hn_htf s H i j ∧ hn_htf s H i j ≤ 3960000 := fun i j hi hj => by
    have q1 := bH _ (hn_getD_mem hi)
    have q2 := bH _ (hn_getD_mem hj)
    exact hn_pq_b hI (by omega) (by omega) (by omega) (by omega)
  refine hn_of rfl (hb_X3_hubTrunks_0_0.tr ((hn_for (fun i => hn_nx 29 4 [some (hn_vr 48), some (hn_vi (hn_sm i (fun i => hn_sm i (hn_htf s H i)))), some (hn_vi (i : Int)), none, none] [] (hn_m I k g)) H.length (fun i hi => ?_)).tr (hb_X3_hubTrunks_4_1 (by omega))))
  have hv := bH _ (hn_getD_mem hi)
  have ev := hn_li_get pH hi
  have r1 := hb_X3_hubTrunks_4_0 (sx := sx) (sL := sL) (C := hn_ret sx sL d) (I := I) (k := k) (g := g) (x1 := hn_sm i (fun i => hn_sm i (hn_htf s H i))) (n2 := i) (by omega) (by omega) (by omega)
  rw [ev] at r1
  have b1 : 0 ≤ hn_sm i (fun i => hn_sm i (hn_htf s H i)) ∧ hn_sm i (fun i => hn_sm i (hn_htf s H i)) ≤ 31680000 * i := hn_sm_b 31680000 (fun v hv => by
    have : 0 ≤ hn_sm v (hn_htf s H v) ∧ hn_sm v (hn_htf s H v) ≤ 3960000 * v := hn_sm_b 3960000 (fun j hj => bz v j (by omega) (by omega))
    omega)
  have r1' : hn_go sx sL (hn_ret sx sL d) (hn_nx 29 4 [some (hn_vr 48), some (hn_vi (hn_sm i (fun i => hn_sm i (hn_htf s H i)))), some (hn_vi (i : Int)), none, none] [] (hn_m I k g)) (hn_nx 29 25 [some (hn_vr 48), some (hn_vi (hn_sm i (fun i => hn_sm i (hn_htf s H i)) + hn_sm 0 (hn_htf s H i))), some (hn_vi (i : Int)), some (hn_vi (((H.getD i 0 : Nat) : Int) * 8)), some (hn_vi ((0 : Nat) : Int))] [] (hn_m I k g)) := by
    rw [show hn_sm 0 (hn_htf s H i) = 0 from rfl, Int.add_zero]
    exact r1
  refine r1'.tr ((hn_for (fun j => hn_nx 29 25 [some (hn_vr 48), some (hn_vi (hn_sm i (fun i => hn_sm i (hn_htf s H i)) + hn_sm j (hn_htf s H i))), some (hn_vi (i : Int)), some (hn_vi (((H.getD i 0 : Nat) : Int) * 8)), some (hn_vi (j : Int))] [] (hn_m I k g)) i (fun j hj => ?_)).tr (hb_X3_hubTrunks_25_1 (by omega) (by omega)))
  have hu := bH _ (hn_getD_mem (L := H) (j := j) (by omega))
  have eu := hn_li_get pH (j := j) (by omega)
  have ei : (((H.getD i 0 : Nat) : Int) * 8 + I 53 j).toNat = H.getD i 0 * 8 + H.getD j 0 := by rw [eu]; omega
  have b2 : 0 ≤ hn_sm j (hn_htf s H i) ∧ hn_sm j (hn_htf s H i) ≤ 3960000 * j := hn_sm_b 3960000 (fun q hq => bz i q hi (by omega))
  have b3 := bz i j hi (by omega)
  have e1 : I 51 (H.getD i 0 * 8 + H.getD j 0) * I 49 (H.getD i 0 * 8 + H.getD j 0) = hn_htf s H i j := by
    rw [(hS.2 _ _ hv hu).1, (hS.2 _ _ hv hu).2.2]
    rfl
  have r := hb_X3_hubTrunks_25_0 (sx := sx) (sL := sL) (C := hn_ret sx sL d) (I := I) (k := k) (g := g) (x1 := hn_sm i (fun i => hn_sm i (hn_htf s H i)) + hn_sm j (hn_htf s H i)) (x2 := i) (x3 := ((H.getD i 0 : Nat) : Int) * 8) (n4 := j) (by omega) (by omega) (by omega) (by omega) (by rw [ei, e1]; omega) (by rw [ei, e1]; omega)
  rw [ei, e1, Int.add_assoc] at r
  exact r
end HX25
