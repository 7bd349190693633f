/-! sums -/
def hn_sm : Nat → (Nat → Int) → Int
  | 0, _ => 0
  | n + 1, f => hn_sm n f + f n
theorem hn_sm_cg {f h : Nat → Int} : ∀ {n : Nat}, (∀ i, i < n → f i = h i) → hn_sm n f = hn_sm n h
  | 0, _ => rfl
  | n + 1, e => by
    show hn_sm n f + f n = hn_sm n h + h n
    rw [hn_sm_cg fun i hi => e i (by omega), e n (by omega)]
theorem hn_sm_z {n : Nat} : hn_sm n (fun _ => 0) = 0 := by
  induction n with
  | zero => rfl
  | succ n ih => show hn_sm n _ + 0 = 0; rw [ih]; rfl
theorem hn_sm_z' {n : Nat} {f : Nat → Int} (h : ∀ i, i < n → f i = 0) : hn_sm n f = 0 := by rw [hn_sm_cg h, hn_sm_z]
theorem hn_sm_add (n : Nat) (f h : Nat → Int) : hn_sm n (fun i => f i + h i) = hn_sm n f + hn_sm n h := by
  induction n with
  | zero => rfl
  | succ n ih => show hn_sm n _ + (f n + h n) = hn_sm n f + f n + (hn_sm n h + h n); rw [ih]; omega
theorem hn_sm_mul (n : Nat) (c : Int) (f : Nat → Int) : hn_sm n (fun i => c * f i) = c * hn_sm n f := by
  induction n with
  | zero => exact (Int.mul_zero c).symm
  | succ n ih => show hn_sm n _ + c * f n = c * (hn_sm n f + f n); rw [ih, Int.mul_add]
theorem hn_sm_mulr (n : Nat) (c : Int) (f : Nat → Int) : hn_sm n (fun i => f i * c) = hn_sm n f * c := by
  rw [Int.mul_comm, ← hn_sm_mul]
  exact hn_sm_cg fun i _ => Int.mul_comm _ _
theorem hn_sm_swap (n m : Nat) (f : Nat → Nat → Int) : hn_sm n (fun i => hn_sm m (fun j => f i j)) = hn_sm m (fun j => hn_sm n (fun i => f i j)) := by
  induction n with
  | zero => exact hn_sm_z.symm
  | succ n ih =>
    show hn_sm n _ + hn_sm m (fun j => f n j) = hn_sm m (fun j => hn_sm n (fun i => f i j) + f n j)
    rw [ih, hn_sm_add]
theorem hn_sm_le {n : Nat} {f h : Nat → Int} (e : ∀ i, i < n → f i ≤ h i) : hn_sm n f ≤ hn_sm n h := by
  induction n with
  | zero => exact Int.le_refl 0
  | succ n ih =>
    have h1 := ih fun i hi => e i (by omega)
    have h2 := e n (by omega)
    show hn_sm n f + f n ≤ hn_sm n h + h n
    omega
theorem hn_sm_nn {n : Nat} {f : Nat → Int} (e : ∀ i, i < n → 0 ≤ f i) : 0 ≤ hn_sm n f := by
  have := hn_sm_le (f := fun _ => 0) e
  rwa [hn_sm_z] at this
theorem hn_sm_c (n : Nat) (c : Int) : hn_sm n (fun _ => c) = n * c := by
  induction n with
  | zero => simp [hn_sm]
  | succ n ih =>
    show hn_sm n _ + c = _
    rw [ih]
    push_cast
    rw [Int.add_mul]
    omega
theorem hn_sm_ub {n : Nat} {f : Nat → Int} {c : Int} (e : ∀ i, i < n → f i ≤ c) : hn_sm n f ≤ n * c := by
  have := hn_sm_le (h := fun _ => c) e
  rwa [hn_sm_c] at this
/-- of eight at most -/
theorem hn_sm_b8 {n : Nat} {f : Nat → Int} {c : Int} (hn : n ≤ 8) (hc : 0 ≤ c) (e : ∀ i, i < n → 0 ≤ f i ∧ f i ≤ c) : 0 ≤ hn_sm n f ∧ hn_sm n f ≤ 8 * c := by
  refine ⟨hn_sm_nn fun i hi => (e i hi).1, ?_⟩
  have h1 := hn_sm_ub fun i hi => (e i hi).2
  have h2 : (n : Int) * c ≤ 8 * c := Int.mul_le_mul_of_nonneg_right (by omega) hc
  omega
theorem hn_sm_one {n k : Nat} {f : Nat → Int} (hk : k < n) (h : ∀ i, i < n → i ≠ k → f i = 0) : hn_sm n f = f k := by
  induction n with
  | zero => omega
  | succ n ih =>
    show hn_sm n f + f n = f k
    by_cases e : k = n
    · subst e
      rw [hn_sm_z' fun i hi => h i (by omega) (by omega)]
      omega
    · rw [ih (by omega) fun i hi hne => h i (by omega) hne, h n (by omega) (fun q => e q.symm)]
      omega
theorem hn_sm_up {n : Nat} {f : Nat → Int} : hn_sm (n + 1) f = hn_sm n f + f n := rfl
/-- products in range -/
theorem hn_mul_b {a b A B : Int} (h1 : 0 ≤ a) (h2 : a ≤ A) (h3 : 0 ≤ b) (h4 : b ≤ B) : 0 ≤ a * b ∧ a * b ≤ A * B := by
  refine ⟨Int.mul_nonneg h1 h3, ?_⟩
  have e1 : a * b ≤ A * b := Int.mul_le_mul_of_nonneg_right h2 h3
  have e2 : A * b ≤ A * B := Int.mul_le_mul_of_nonneg_left h4 (by omega)
  omega
