/-! the sum that place carries; at a leaf it is the cost without congestion and surcharge -/
def hn_sf (s : hn_S) (w : Nat) (H F : List Nat) (p : Nat → Nat) (i : Nat) : Int := hn_op s w + hn_ht s H + hn_sm i (fun j => hn_jn s H F p (F.getD j 0) (p (F.getD j 0)) j)
theorem hn_ow_cc {s : hn_S} {p : Nat → Nat} (hp : ∀ u, u < hn_n s → p u < hn_n s) : hn_sm (hn_n s) (fun v => hn_ow s v (p v)) = s 2 * hn_cc s (hn_P p) + s 4 * hn_dc s (hn_P p) := by
  unfold hn_cc hn_dc
  rw [← hn_sm_mul, ← hn_sm_mul, ← hn_sm_add]
  refine hn_sm_cg fun v hv => ?_
  have e : hn_isN s (hn_P p v) := by
    have := hp v hv
    unfold hn_isN hn_P
    omega
  unfold hn_ow hn_pu hn_ccf hn_dcf
  rw [if_pos e, if_pos e, show (hn_P p v).toNat = p v from Int.toNat_natCast _, Int.add_mul, Int.mul_assoc, Int.mul_assoc]
theorem hn_sf_all {s : hn_S} {w : Nat} {p : Nat → Nat} (hH : ∀ u, u ∈ hn_hl w (hn_n s) → p u = u) (hp : ∀ u, u < hn_n s → p u < hn_n s ∧ w.testBit (p u) = true) :
    hn_sf s w (hn_hl w (hn_n s)) (hn_fr w (hn_n s)) p (hn_fr w (hn_n s)).length = s 2 * hn_cc s (hn_P p) + s 3 * hn_tk s (hn_P p) w + s 4 * hn_dc s (hn_P p) + hn_op s w := by
  have e1 : hn_ht s (hn_hl w (hn_n s)) = hn_sm (hn_hl w (hn_n s)).length (fun i => hn_sm i (fun j => hn_Q s p ((hn_hl w (hn_n s)).getD i 0) ((hn_hl w (hn_n s)).getD j 0))) := by
    refine hn_sm_cg fun i hi => hn_sm_cg fun j hj => ?_
    unfold hn_htf hn_Q
    rw [hH _ (hn_getD_mem hi), hH _ (hn_getD_mem (L := hn_hl w (hn_n s)) (j := j) (by omega))]
  have e2 : hn_sm (hn_fr w (hn_n s)).length (fun j => hn_jn s (hn_hl w (hn_n s)) (hn_fr w (hn_n s)) p ((hn_fr w (hn_n s)).getD j 0) (p ((hn_fr w (hn_n s)).getD j 0)) j) = hn_sl (hn_fr w (hn_n s)) (fun v => hn_ow s v (p v)) + hn_sl (hn_fr w (hn_n s)) (fun u => hn_sl (hn_hl w (hn_n s)) (hn_Q s p u)) + hn_sm (hn_fr w (hn_n s)).length (fun i => hn_sm i (fun j => hn_Q s p ((hn_fr w (hn_n s)).getD i 0) ((hn_fr w (hn_n s)).getD j 0))) := by
    unfold hn_sl
    rw [← hn_sm_add, ← hn_sm_add]
    refine hn_sm_cg fun j hj => ?_
    unfold hn_jn
    have q : hn_sm (hn_hl w (hn_n s)).length (fun i => hn_pq s ((hn_fr w (hn_n s)).getD j 0) ((hn_hl w (hn_n s)).getD i 0) (p ((hn_fr w (hn_n s)).getD j 0)) ((hn_hl w (hn_n s)).getD i 0)) = hn_sm (hn_hl w (hn_n s)).length (fun i => hn_Q s p ((hn_fr w (hn_n s)).getD j 0) ((hn_hl w (hn_n s)).getD i 0)) := by
      refine hn_sm_cg fun i hi => ?_
      unfold hn_Q
      rw [hH _ (hn_getD_mem hi)]
    rw [q]
    rfl
  have e3 := hn_sl_all w (fun v => hn_ow s v (p v)) (hn_n s)
  have e4 : hn_sl (hn_hl w (hn_n s)) (fun v => hn_ow s v (p v)) = 0 := by
    refine hn_sm_z' fun j hj => ?_
    show hn_ow s _ (p _) = 0
    rw [hH _ (hn_getD_mem hj)]
    unfold hn_ow
    rw [hn_gp_self, Int.mul_zero]
  have e5 := hn_ow_cc (s := s) (p := p) (fun u hu => (hp u hu).1)
  have e6 := hn_pairs (q := hn_Q s p) (hn_Q_self s p) (hn_Q_comm s p) w (hn_n s)
  rw [hn_QQ] at e6
  rw [hn_tk_GG hp]
  unfold hn_sf
  rw [e1, e2]
  omega
/-- .. and the cost -/
theorem hn_leaf {s : hn_S} {w : Nat} {p : Nat → Nat} (hH : ∀ u, u ∈ hn_hl w (hn_n s) → p u = u) (hp : ∀ u, u < hn_n s → p u < hn_n s ∧ w.testBit (p u) = true) :
    hn_sf s w (hn_hl w (hn_n s)) (hn_fr w (hn_n s)) p (hn_fr w (hn_n s)).length + hn_cg s (hn_ld s (hn_P p)) w + (100 - s 3) * hn_su s (hn_P p) w = hn_cost s w (hn_P p) := by
  rw [hn_sf_all hH hp]
  unfold hn_cost hn_tkc
  omega
