/-! the law's small methods: cell, low, ones -/
theorem hq_and_nn (x : Int) : 0 ≤ hn_and x 2147483647 := by
  have h : (Int32.ofInt x &&& Int32.ofInt 2147483647).toBitVec.msb = false := by
    rw [Int32.toBitVec_and, BitVec.msb_and, show (Int32.ofInt 2147483647).toBitVec.msb = false by decide, Bool.and_false]
  show 0 ≤ (Int32.ofInt x &&& Int32.ofInt 2147483647).toBitVec.toInt
  rw [BitVec.toInt_eq_toNat_of_msb h]
  exact Int.natCast_nonneg _
def hq_low (v n : Int) : Int := hn_and v 2147483647 % n
theorem hq_low_b (v : Int) {n : Int} (hn : 0 < n) : 0 ≤ hq_low v n ∧ hq_low v n < n := ⟨Int.emod_nonneg _ (by omega), Int.emod_lt_of_pos _ hn⟩
def hq_cell (sx : Nat → Int) (sL : Nat) (x : Int) : Int := if x < (sL : Int) then sx x.toNat else 7919 * (x + 3) * (x + 11)
section HQ61
variable {sx : Nat → Int} {sL : Nat} {I : Nat → Nat → Int} {k : Nat → Option Nat} {g : Nat → Nat → Int64}
theorem hq_mlow (d : Nat) (v : Int) {n : Int} (hn : 0 < n) : hn_ret sx sL (d + 1) 97 [hn_vi v, hn_vi n] (hn_m I k g) (some (hn_vi (hq_low v n))) (hn_m I k g) :=
  hn_of rfl (hb_L_low_0_0 (h1 := ⟨hq_and_nn v, hn⟩))
theorem hq_mcell (d : Nat) {x : Int} (hx : 0 ≤ x ∧ x ≤ 100) : hn_ret sx sL (d + 1) 96 [hn_vs, hn_vi x] (hn_m I k g) (some (hn_vi (hq_cell sx sL x))) (hn_m I k g) := by
  unfold hq_cell
  by_cases e : x < (sL : Int)
  · rw [if_pos e]
    exact hn_of rfl (hb_L_cell_0_0 (h1 := e) (h2 := by omega))
  · rw [if_neg e]
    have b := hn_mul_b (a := 7919 * (x + 3)) (b := x + 11) (A := 815657) (B := 111) (by omega) (by omega) (by omega) (by omega)
    exact hn_of rfl (hb_L_cell_0_1 (h1 := e) (h2 := by omega) (h3 := by omega) (h4 := by omega) (h5 := by omega))
theorem hq_mones (d : Nat) {w : Nat} (hw : w < 256) : hn_ret sx sL (d + 1) 98 [hn_vi (w : Int)] (hn_m I k g) (some (hn_vi (hn_bits w))) (hn_m I k g) := by
  have r := hn_for (sx := sx) (sL := sL) (C := hn_ret sx sL d) (fun i => hn_nx 98 4 [some (hn_vi (w : Int)), some (hn_vi (hn_sm i (fun k => if w.testBit k then 1 else 0))), some (hn_vi (i : Int))] [] (hn_m I k g)) 8 (fun i hi => by
    have b := hn_bit w hw i hi
    have c := hn_sm_b8 (n := i) (f := fun k => if w.testBit k then (1 : Int) else 0) (c := 1) (by omega) (by omega) (fun j _ => by
      show 0 ≤ (if w.testBit j = true then (1 : Int) else 0) ∧ (if w.testBit j = true then (1 : Int) else 0) ≤ 1
      cases w.testBit j <;> decide)
    have t := hb_L_ones_4_0 (sx := sx) (sL := sL) (C := hn_ret sx sL d) (I := I) (k := k) (g := g) (x0 := (w : Int)) (x1 := hn_sm i (fun k => if w.testBit k then 1 else 0)) (n2 := i) (h1 := by omega) (h2 := by
      rw [b]
      cases w.testBit i <;> (constructor <;> simp <;> omega)) (h3 := by omega)
    rw [b] at t
    exact t)
  exact hn_of rfl (hb_L_ones_0_0.tr (r.tr (hb_L_ones_4_1 (h1 := by omega))))
end HQ61
