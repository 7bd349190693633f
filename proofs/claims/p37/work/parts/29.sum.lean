/-! the sum of a complete plan -/
def hn_P (p : Nat → Nat) : Nat → Int := fun v => (p v : Int)
def hn_gf (s : hn_S) (p : Nat → Nat) (u v : Nat) : Int := hn_fl s u v * hn_gp s (p u) (p v)
def hn_gg (s : hn_S) (p : Nat → Nat) : Int := hn_sm (hn_n s) (fun u => hn_sm (hn_n s) (fun v => hn_gf s p u v))
def hn_Q (s : hn_S) (p : Nat → Nat) (u v : Nat) : Int := hn_pq s u v (p u) (p v)
theorem hn_Q_eq (s : hn_S) (p : Nat → Nat) (u v : Nat) : hn_Q s p u v = s 3 * hn_gf s p u v + s 3 * hn_gf s p v u := by
  unfold hn_Q hn_pq hn_bo hn_gf
  rw [hn_gp_comm s (p v) (p u), Int.mul_add, Int.add_mul, Int.mul_assoc, Int.mul_assoc]
theorem hn_Q_comm (s : hn_S) (p : Nat → Nat) (u v : Nat) : hn_Q s p u v = hn_Q s p v u := by
  rw [hn_Q_eq, hn_Q_eq, Int.add_comm]
theorem hn_Q_self (s : hn_S) (p : Nat → Nat) (u : Nat) : hn_Q s p u u = 0 := by
  unfold hn_Q hn_pq
  rw [hn_gp_self, Int.mul_zero]
theorem hn_QQ (s : hn_S) (p : Nat → Nat) : hn_sm (hn_n s) (fun u => hn_sm (hn_n s) (fun v => hn_Q s p u v)) = 2 * (s 3 * hn_gg s p) := by
  have e1 : hn_sm (hn_n s) (fun u => hn_sm (hn_n s) (fun v => hn_Q s p u v)) = hn_sm (hn_n s) (fun u => s 3 * hn_sm (hn_n s) (fun v => hn_gf s p u v) + s 3 * hn_sm (hn_n s) (fun v => hn_gf s p v u)) := by
    refine hn_sm_cg fun u _ => ?_
    rw [hn_sm_cg (f := fun v => hn_Q s p u v) (h := fun v => s 3 * hn_gf s p u v + s 3 * hn_gf s p v u) (fun v _ => hn_Q_eq s p u v), hn_sm_add, hn_sm_mul (hn_n s) (s 3) (fun v => hn_gf s p u v), hn_sm_mul (hn_n s) (s 3) (fun v => hn_gf s p v u)]
  rw [e1, hn_sm_add, hn_sm_mul (hn_n s) (s 3) (fun u => hn_sm (hn_n s) (fun v => hn_gf s p u v)), hn_sm_mul (hn_n s) (s 3) (fun u => hn_sm (hn_n s) (fun v => hn_gf s p v u)), hn_sm_swap (hn_n s) (hn_n s) (fun u v => hn_gf s p v u)]
  show s 3 * hn_gg s p + s 3 * hn_gg s p = _
  omega
/-- all pairs, from those of the hubs, the mixed and the free ones -/
theorem hn_pairs {q : Nat → Nat → Int} (h0 : ∀ i, q i i = 0) (hs : ∀ i j, q i j = q j i) (w n : Nat) :
    2 * (hn_sm (hn_hl w n).length (fun i => hn_sm i (fun j => q ((hn_hl w n).getD i 0) ((hn_hl w n).getD j 0))) + hn_sl (hn_fr w n) (fun u => hn_sl (hn_hl w n) (q u)) + hn_sm (hn_fr w n).length (fun i => hn_sm i (fun j => q ((hn_fr w n).getD i 0) ((hn_fr w n).getD j 0)))) = hn_sm n (fun u => hn_sm n (fun v => q u v)) := by
  have t1 := hn_tri (q := fun i j => q ((hn_hl w n).getD i 0) ((hn_hl w n).getD j 0)) (fun i => h0 _) (fun i j => hs _ _) (hn_hl w n).length
  have t2 := hn_tri (q := fun i j => q ((hn_fr w n).getD i 0) ((hn_fr w n).getD j 0)) (fun i => h0 _) (fun i j => hs _ _) (hn_fr w n).length
  have a : hn_sm n (fun u => hn_sm n (fun v => q u v)) = hn_sl (hn_hl w n) (fun u => hn_sl (hn_hl w n) (q u)) + hn_sl (hn_hl w n) (fun u => hn_sl (hn_fr w n) (q u)) + (hn_sl (hn_fr w n) (fun u => hn_sl (hn_hl w n) (q u)) + hn_sl (hn_fr w n) (fun u => hn_sl (hn_fr w n) (q u))) := by
    rw [hn_sm_cg (f := fun u => hn_sm n (fun v => q u v)) (h := fun u => hn_sl (hn_hl w n) (q u) + hn_sl (hn_fr w n) (q u)) (fun u _ => (hn_sl_all w (q u) n).symm), ← hn_sl_all w _ n]
    unfold hn_sl
    rw [hn_sm_add, hn_sm_add]
  have c : hn_sl (hn_hl w n) (fun u => hn_sl (hn_fr w n) (q u)) = hn_sl (hn_fr w n) (fun u => hn_sl (hn_hl w n) (q u)) := by
    unfold hn_sl
    rw [hn_sm_swap (hn_hl w n).length (hn_fr w n).length (fun i j => q ((hn_hl w n).getD i 0) ((hn_fr w n).getD j 0))]
    exact hn_sm_cg fun i _ => hn_sm_cg fun j _ => hs _ _
  have e1 : hn_sl (hn_hl w n) (fun u => hn_sl (hn_hl w n) (q u)) = hn_sm (hn_hl w n).length (fun i => hn_sm (hn_hl w n).length (fun j => q ((hn_hl w n).getD i 0) ((hn_hl w n).getD j 0))) := rfl
  have e2 : hn_sl (hn_fr w n) (fun u => hn_sl (hn_fr w n) (q u)) = hn_sm (hn_fr w n).length (fun i => hn_sm (hn_fr w n).length (fun j => q ((hn_fr w n).getD i 0) ((hn_fr w n).getD j 0))) := rfl
  rw [a, c, e1, e2]
  omega
/-- trunks: all flows from the sender's hub to the receiver's -/
theorem hn_tk_GG {s : hn_S} {p : Nat → Nat} {w : Nat} (hp : ∀ u, u < hn_n s → p u < hn_n s ∧ w.testBit (p u) = true) : hn_tk s (hn_P p) w = hn_gg s p := by
  have e0 : hn_tk s (hn_P p) w = hn_sm (hn_n s) (fun a => hn_sm (hn_n s) (fun b => hn_sm (hn_n s) (fun u => hn_sm (hn_n s) (fun v => if p u = a ∧ p v = b then hn_gf s p u v else 0)))) := by
    refine hn_sm_cg fun a ha => ?_
    have e1 : hn_sm (hn_n s) (hn_tkf s (hn_P p) a) = hn_sm (hn_n s) (fun b => hn_sm (hn_n s) (fun u => hn_sm (hn_n s) (fun v => if p u = a ∧ p v = b then hn_gf s p u v else 0))) := by
      refine hn_sm_cg fun b hb => ?_
      unfold hn_tkf hn_tr
      rw [← hn_sm_mulr]
      refine hn_sm_cg fun u hu => ?_
      by_cases q1 : p u = a
      · rw [if_pos (by unfold hn_P; omega)]
        unfold hn_tw
        rw [← hn_sm_mulr]
        refine hn_sm_cg fun v hv => ?_
        by_cases q2 : p v = b
        · rw [if_pos (by unfold hn_P; omega), if_pos ⟨q1, q2⟩]
          unfold hn_gf
          rw [q1, q2]
        · rw [if_neg (by unfold hn_P; omega), if_neg (fun q => q2 q.2), Int.zero_mul]
      · rw [if_neg (by unfold hn_P; omega), Int.zero_mul, hn_sm_z' (fun v _ => if_neg (fun q => q1 q.1))]
    unfold hn_ro
    by_cases e : w.testBit a = true
    · rw [if_pos e, e1]
    · rw [if_neg e]
      refine (hn_sm_z' fun b _ => hn_sm_z' fun u hu => hn_sm_z' fun v _ => if_neg (fun q => e ?_)).symm
      rw [← q.1]
      exact (hp u hu).2
  rw [e0]
  rw [hn_sm_cg (f := fun a => hn_sm (hn_n s) (fun b => hn_sm (hn_n s) (fun u => hn_sm (hn_n s) (fun v => if p u = a ∧ p v = b then hn_gf s p u v else 0)))) (h := fun a => hn_sm (hn_n s) (fun u => hn_sm (hn_n s) (fun b => hn_sm (hn_n s) (fun v => if p u = a ∧ p v = b then hn_gf s p u v else 0)))) (fun a _ => hn_sm_swap _ _ _)]
  rw [hn_sm_swap]
  refine hn_sm_cg fun u hu => ?_
  rw [hn_sm_one (k := p u) (hp u hu).1 (fun a _ ha => hn_sm_z' fun b _ => hn_sm_z' fun v _ => if_neg (fun q => ha q.1.symm))]
  rw [hn_sm_swap]
  refine hn_sm_cg fun v hv => ?_
  rw [hn_sm_one (k := p v) (hp v hv).1 (fun b _ hb => if_neg (fun q => hb q.2.symm)), if_pos ⟨rfl, rfl⟩]
