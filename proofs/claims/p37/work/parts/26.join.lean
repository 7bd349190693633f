/-! the class's Search: joining, weigh -/
def hn_jn (s : hn_S) (H F : List Nat) (p : Nat → Nat) (v h i : Nat) : Int := hn_ow s v h + hn_sm H.length (fun j => hn_pq s v (H.getD j 0) h (H.getD j 0)) + hn_sm i (fun j => hn_pq s v (F.getD j 0) h (p (F.getD j 0)))
section HX26
variable {sx : Nat → Int} {sL : Nat} {I : Nat → Nat → Int} {k : Nat → Option Nat} {g : Nat → Nat → Int64} {s : hn_S} {H F : List Nat} {p : Nat → Nat}
theorem hm_joining (d : Nat) (hI : hn_Iv s) (hP : hn_PL s H F I) {v h i : Nat} (hv : v < hn_n s) (hh : h < hn_n s) (hi : i ≤ F.length) (hp : ∀ j, j < i → I 56 (F.getD j 0) = ((p (F.getD j 0) : Nat) : Int) ∧ p (F.getD j 0) < hn_n s) :
    hn_ret sx sL (d + 1) 33 [hn_vr 48, hn_vi v, hn_vi h, hn_vi i] (hn_m I k g) (some (hn_vi (hn_jn s H F p v h i))) (hn_m I k g) := by
  have h8 := hn_n8 hI
  obtain ⟨hS, p12, p13, pH, pF, bH, bF, bl, b0⟩ := hP
  have bz : ∀ j, j < H.length → 0 ≤ hn_pq s v (H.getD j 0) h (H.getD j 0) ∧ hn_pq s v (H.getD j 0) h (H.getD j 0) ≤ 3960000 := fun j hj => by
    have q := bH _ (hn_getD_mem hj)
    exact hn_pq_b hI (by omega) (by omega) (by omega) (by omega)
  have by' : ∀ j, j < i → 0 ≤ hn_pq s v (F.getD j 0) h (p (F.getD j 0)) ∧ hn_pq s v (F.getD j 0) h (p (F.getD j 0)) ≤ 3960000 := fun j hj => by
    have q := bF _ (hn_getD_mem (L := F) (j := j) (by omega))
    have q2 := (hp j hj).2
    exact hn_pq_b hI (by omega) (by omega) (by omega) (by omega)
  have bo := hn_ow_b hI (a := v) (b := h) (by omega) (by omega)
  have bs1 : ∀ j, j ≤ H.length → 0 ≤ hn_sm j (fun j => hn_pq s v (H.getD j 0) h (H.getD j 0)) ∧ hn_sm j (fun j => hn_pq s v (H.getD j 0) h (H.getD j 0)) ≤ 3960000 * j := fun j hj => hn_sm_b 3960000 (fun q hq => bz q (by omega))
  have bs2 : ∀ j, j ≤ i → 0 ≤ hn_sm j (fun j => hn_pq s v (F.getD j 0) h (p (F.getD j 0))) ∧ hn_sm j (fun j => hn_pq s v (F.getD j 0) h (p (F.getD j 0))) ≤ 3960000 * j := fun j hj => hn_sm_b 3960000 (fun q hq => by' q (by omega))
  have bsH := bs1 H.length (by omega)
  have r1 := hb_X3_joining_0_0 (sx := sx) (sL := sL) (C := hn_ret sx sL d) (I := I) (k := k) (g := g) (n1 := v) (n2 := h) (x3 := i) (by omega) (by omega) (by omega) (by omega)
  rw [(hS.2 v h hv hh).2.1] at r1
  have r1' : hn_go sx sL (hn_ret sx sL d) (hn_nx 33 0 [some (hn_vr 48), some (hn_vi v), some (hn_vi h), some (hn_vi i), none, none, none, none] [] (hn_m I k g)) (hn_nx 33 26 [some (hn_vr 48), none, none, some (hn_vi i), some (hn_vi ((v : Int) * 8)), some (hn_vi ((h : Int) * 8)), some (hn_vi (hn_ow s v h + hn_sm 0 (fun j => hn_pq s v (H.getD j 0) h (H.getD j 0)))), some (hn_vi ((0 : Nat) : Int))] [] (hn_m I k g)) := by
    rw [show hn_sm 0 (fun j => hn_pq s v (H.getD j 0) h (H.getD j 0)) = 0 from rfl, Int.add_zero]
    exact r1
  have r3 := hb_X3_joining_26_1 (sx := sx) (sL := sL) (C := hn_ret sx sL d) (I := I) (k := k) (g := g) (x3 := i) (x4 := (v : Int) * 8) (x5 := (h : Int) * 8) (x6 := hn_ow s v h + hn_sm H.length (fun j => hn_pq s v (H.getD j 0) h (H.getD j 0))) (n7 := H.length) (by omega)
  have r3' : hn_go sx sL (hn_ret sx sL d) (hn_nx 33 26 [some (hn_vr 48), none, none, some (hn_vi i), some (hn_vi ((v : Int) * 8)), some (hn_vi ((h : Int) * 8)), some (hn_vi (hn_ow s v h + hn_sm H.length (fun j => hn_pq s v (H.getD j 0) h (H.getD j 0)))), some (hn_vi ((H.length : Nat) : Int))] [] (hn_m I k g)) (hn_nx 33 80 [some (hn_vr 48), none, none, some (hn_vi i), some (hn_vi ((v : Int) * 8)), some (hn_vi ((h : Int) * 8)), some (hn_vi (hn_ow s v h + hn_sm H.length (fun j => hn_pq s v (H.getD j 0) h (H.getD j 0)) + hn_sm 0 (fun j => hn_pq s v (F.getD j 0) h (p (F.getD j 0))))), some (hn_vi ((0 : Nat) : Int))] [] (hn_m I k g)) := by
    rw [show hn_sm 0 (fun j => hn_pq s v (F.getD j 0) h (p (F.getD j 0))) = 0 from rfl, Int.add_zero]
    exact r3
  refine hn_of rfl (r1'.tr ((hn_for (fun j => hn_nx 33 26 [some (hn_vr 48), none, none, some (hn_vi i), some (hn_vi ((v : Int) * 8)), some (hn_vi ((h : Int) * 8)), some (hn_vi (hn_ow s v h + hn_sm j (fun j => hn_pq s v (H.getD j 0) h (H.getD j 0)))), some (hn_vi (j : Int))] [] (hn_m I k g)) H.length (fun j hj => ?_)).tr (r3'.tr ((hn_for (fun j => hn_nx 33 80 [some (hn_vr 48), none, none, some (hn_vi i), some (hn_vi ((v : Int) * 8)), some (hn_vi ((h : Int) * 8)), some (hn_vi (hn_ow s v h + hn_sm H.length (fun j => hn_pq s v (H.getD j 0) h (H.getD j 0)) + hn_sm j (fun j => hn_pq s v (F.getD j 0) h (p (F.getD j 0))))), some (hn_vi (j : Int))] [] (hn_m I k g)) i (fun j hj => ?_)).tr (hb_X3_joining_80_1 (by omega))))))
  · have hu := bH _ (hn_getD_mem (L := H) (j := j) hj)
    have eu := hn_li_get pH hj
    have e1 : ((v : Int) * 8 + I 53 j).toNat = v * 8 + H.getD j 0 := by rw [eu]; omega
    have e2 : ((h : Int) * 8 + I 53 j).toNat = h * 8 + H.getD j 0 := by rw [eu]; omega
    have e3 : I 51 (v * 8 + H.getD j 0) * I 49 (h * 8 + H.getD j 0) = hn_pq s v (H.getD j 0) h (H.getD j 0) := by
      rw [(hS.2 _ _ hh hu).1, (hS.2 _ _ hv hu).2.2]
      rfl
    have b1 := bs1 j (by omega)
    have b2 := bz j hj
    have r := hb_X3_joining_26_0 (sx := sx) (sL := sL) (C := hn_ret sx sL d) (I := I) (k := k) (g := g) (x3 := i) (x4 := (v : Int) * 8) (x5 := (h : Int) * 8) (x6 := hn_ow s v h + hn_sm j (fun j => hn_pq s v (H.getD j 0) h (H.getD j 0))) (n7 := j) (by omega) (by omega) (by omega) (by omega) (by omega) (by omega) (by rw [e1, e2, e3]; omega) (by rw [e1, e2, e3]; omega)
    rw [e1, e2, e3, Int.add_assoc] at r
    exact r
  · have hu := bF _ (hn_getD_mem (L := F) (j := j) (by omega))
    have eu := hn_li_get pF (j := j) (by omega)
    obtain ⟨eq, hq⟩ := hp j hj
    have e0 : (I 54 j).toNat = F.getD j 0 := by rw [eu]; omega
    have e1 : ((v : Int) * 8 + I 54 j).toNat = v * 8 + F.getD j 0 := by rw [eu]; omega
    have e2 : ((h : Int) * 8 + I 56 (F.getD j 0)).toNat = h * 8 + p (F.getD j 0) := by rw [eq]; omega
    have e3 : I 51 (v * 8 + F.getD j 0) * I 49 (h * 8 + p (F.getD j 0)) = hn_pq s v (F.getD j 0) h (p (F.getD j 0)) := by
      rw [(hS.2 _ _ hh hq).1, (hS.2 _ _ hv hu).2.2]
      rfl
    have b1 := bs2 j (by omega)
    have b2 := by' j hj
    have r := hb_X3_joining_80_0 (sx := sx) (sL := sL) (C := hn_ret sx sL d) (I := I) (k := k) (g := g) (x3 := i) (x4 := (v : Int) * 8) (x5 := (h : Int) * 8) (x6 := hn_ow s v h + hn_sm H.length (fun j => hn_pq s v (H.getD j 0) h (H.getD j 0)) + hn_sm j (fun j => hn_pq s v (F.getD j 0) h (p (F.getD j 0)))) (n7 := j) (by omega) (by omega) (by omega) (by omega) (by omega) (by rw [e0]; omega) (by rw [e0]; omega) (by rw [e0, e1, e2, e3]; omega) (by rw [e0, e1, e2, e3]; omega)
    rw [e0, e1, e2, e3, Int.add_assoc (hn_ow s v h + hn_sm H.length (fun j => hn_pq s v (H.getD j 0) h (H.getD j 0))) _ (hn_pq s v (F.getD j 0) h (p (F.getD j 0)))] at r
    exact r
end HX26
