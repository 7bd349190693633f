/-! the mathematical state: 114 numbers: 0 nodes, 1 hubs, 2 C, 3 T, 4 D, 5 minimum, 6 S1, 7 R1, 8 S2, 9 R2, 10.. x, 18.. y, 26.. opening, 34.. capacity, 42.. hub of, 50.. flows -/
abbrev hn_S : Type := Nat → Int
def hn_n (s : hn_S) : Nat := (s 0).toNat
def hn_hm (s : hn_S) : Nat := (s 1).toNat
/-- what holds of every state -/
def hn_Iv (s : hn_S) : Prop :=
  (s 0 = (hn_n s : Int) ∧ hn_n s ≤ 8) ∧ (s 1 = (hn_hm s : Int) ∧ hn_hm s < 2 ^ hn_n s) ∧ ((1 ≤ s 2 ∧ s 2 ≤ 300) ∧ (0 ≤ s 3 ∧ s 3 ≤ 100) ∧ (1 ≤ s 4 ∧ s 4 ≤ 300) ∧ (0 ≤ s 5 ∧ s 5 ≤ 9999)) ∧ ((0 ≤ s 6 ∧ s 6 ≤ 9999) ∧ (0 ≤ s 7 ∧ s 7 ≤ 1000) ∧ (s 6 ≤ s 8 ∧ s 8 ≤ 9999) ∧ (0 ≤ s 9 ∧ s 9 ≤ 1000)) ∧
  (∀ v, v < 8 → (0 ≤ s (10 + v) ∧ s (10 + v) ≤ 99) ∧ (0 ≤ s (18 + v) ∧ s (18 + v) ≤ 99) ∧ (0 ≤ s (26 + v) ∧ s (26 + v) ≤ 100000) ∧ (0 ≤ s (34 + v) ∧ s (34 + v) ≤ 9999) ∧ (-1 ≤ s (42 + v) ∧ s (42 + v) ≤ 7)) ∧
  (∀ j, j < 64 → 0 ≤ s (50 + j) ∧ s (50 + j) ≤ 100) ∧ (∀ v, v < 8 → s (50 + (8 * v + v)) = 0) ∧
  (∀ v, v < hn_n s → ((hn_hm s).testBit v = true → s (42 + v) = v) ∧ (s (42 + v) ≠ -1 → ∃ k : Nat, k < hn_n s ∧ s (42 + v) = k ∧ (hn_hm s).testBit k = true))
/-- the class's State at the cell b holds s -/
def hn_HS (I : Nat → Nat → Int) (b : Nat) (s : hn_S) : Prop :=
  I b 0 = s 0 ∧ I b 7 = s 1 ∧ (∀ j, j < 8 → I b (8 + j) = s (2 + j)) ∧ (∀ v, v < 8 → I (b + 1) v = s (10 + v)) ∧ (∀ v, v < 8 → I (b + 2) v = s (18 + v)) ∧ (∀ v, v < 8 → I (b + 3) v = s (26 + v)) ∧ (∀ v, v < 8 → I (b + 4) v = s (34 + v)) ∧ (∀ v, v < 8 → I (b + 5) v = s (42 + v)) ∧ (∀ j, j < 64 → I (b + 6) j = s (50 + j))
/-- .. and the model's row at place 114 q -/
def hn_HR (I : Nat → Nat → Int) (q : Nat) (s : hn_S) : Prop := ∀ j, j < 114 → I 65 (114 * q + j) = s j
/-- two states that hold the same 114 numbers -/
def hn_eq114 (s t : hn_S) : Prop := ∀ j, j < 114 → s j = t j
def hn_fl (s : hn_S) (a b : Nat) : Int := s (50 + (8 * a + b))
def hn_gp (s : hn_S) (a b : Nat) : Int := (Int.natAbs (s (10 + a) - s (10 + b)) : Int) + (Int.natAbs (s (18 + a) - s (18 + b)) : Int)
def hn_out (s : hn_S) (v : Nat) : Int := hn_sm (hn_n s) (fun b => hn_fl s v b)
def hn_inn (s : hn_S) (v : Nat) : Int := hn_sm (hn_n s) (fun a => hn_fl s a v)
theorem hn_fl_b {s : hn_S} (h : hn_Iv s) {a b : Nat} (ha : a < 8) (hb : b < 8) : 0 ≤ hn_fl s a b ∧ hn_fl s a b ≤ 100 := h.2.2.2.2.2.1 (8 * a + b) (by omega)
theorem hn_gp_b {s : hn_S} (h : hn_Iv s) {a b : Nat} (ha : a < 8) (hb : b < 8) : 0 ≤ hn_gp s a b ∧ hn_gp s a b ≤ 198 := by
  have h1 := h.2.2.2.2.1 a ha
  have h2 := h.2.2.2.2.1 b hb
  unfold hn_gp
  omega
theorem hn_gp_self (s : hn_S) (a : Nat) : hn_gp s a a = 0 := by
  unfold hn_gp
  omega
theorem hn_gp_comm (s : hn_S) (a b : Nat) : hn_gp s a b = hn_gp s b a := by
  unfold hn_gp
  omega
theorem hn_n8 {s : hn_S} (h : hn_Iv s) : hn_n s ≤ 8 := h.1.2
theorem hn_n0 {s : hn_S} (h : hn_Iv s) : s 0 = (hn_n s : Int) := h.1.1
theorem hn_out_b {s : hn_S} (h : hn_Iv s) {v : Nat} (hv : v < 8) : 0 ≤ hn_out s v ∧ hn_out s v ≤ 800 := by
  have := hn_sm_b8 (n := hn_n s) (c := 100) (hn_n8 h) (by omega) (fun i hi => hn_fl_b h hv (b := i) (by have := hn_n8 h; omega))
  exact ⟨this.1, by have := this.2; unfold hn_out; omega⟩
theorem hn_inn_b {s : hn_S} (h : hn_Iv s) {v : Nat} (hv : v < 8) : 0 ≤ hn_inn s v ∧ hn_inn s v ≤ 800 := by
  have := hn_sm_b8 (n := hn_n s) (c := 100) (hn_n8 h) (by omega) (fun i hi => hn_fl_b h (a := i) (by have := hn_n8 h; omega) hv)
  exact ⟨this.1, by have := this.2; unfold hn_inn; omega⟩
/-! masks of eight -/
set_option maxRecDepth 100000 in
theorem hn_bit : ∀ m : Nat, m < 256 → ∀ k : Nat, k < 8 → hn_and (hn_shr (m : Int) (k : Int)) 1 = (if m.testBit k then 1 else 0) := by decide +kernel
theorem hn_pow : ∀ k : Nat, k < 9 → hn_shl 1 (k : Int) = ((2 ^ k : Nat) : Int) := by decide +kernel
