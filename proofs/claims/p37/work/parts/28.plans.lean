/-! sums over the hubs and the free nodes; plans in their order -/
def hn_sl (L : List Nat) (f : Nat → Int) : Int := hn_sm L.length (fun j => f (L.getD j 0))
theorem hn_getD_l {L : List Nat} {v j : Nat} (h : j < L.length) : (L ++ [v]).getD j 0 = L.getD j 0 := by
  rw [List.getD_eq_getElem?_getD, List.getD_eq_getElem?_getD, List.getElem?_append_left h]
theorem hn_getD_r {L : List Nat} {v : Nat} : (L ++ [v]).getD L.length 0 = v := by
  rw [List.getD_eq_getElem?_getD, List.getElem?_append_right (Nat.le_refl _), Nat.sub_self]
  rfl
theorem hn_sl_app {L : List Nat} {v : Nat} {f : Nat → Int} : hn_sl (L ++ [v]) f = hn_sl L f + f v := by
  unfold hn_sl
  rw [List.length_append, List.length_singleton, hn_sm_up, hn_getD_r]
  rw [hn_sm_cg (h := fun j => f (L.getD j 0)) (fun j hj => by rw [hn_getD_l hj])]
theorem hn_sl_all (w : Nat) (f : Nat → Int) : ∀ n, hn_sl (hn_hl w n) f + hn_sl (hn_fr w n) f = hn_sm n f
  | 0 => rfl
  | n + 1 => by
    have ih := hn_sl_all w f n
    unfold hn_hl hn_fr
    rw [hn_sm_up]
    by_cases e : w.testBit n = true
    · rw [if_pos e, if_pos e, hn_sl_app]
      omega
    · rw [if_neg e, if_neg e, hn_sl_app]
      omega
theorem hn_tri {q : Nat → Nat → Int} (h0 : ∀ i, q i i = 0) (hs : ∀ i j, q i j = q j i) : ∀ m, 2 * hn_sm m (fun i => hn_sm i (q i)) = hn_sm m (fun i => hn_sm m (q i))
  | 0 => rfl
  | m + 1 => by
    have ih := hn_tri h0 hs m
    rw [hn_sm_up, hn_sm_up]
    have e1 : hn_sm m (fun i => hn_sm (m + 1) (q i)) = hn_sm m (fun i => hn_sm m (q i)) + hn_sm m (q m) := by
      have : hn_sm m (fun i => hn_sm (m + 1) (q i)) = hn_sm m (fun i => hn_sm m (q i) + q i m) := hn_sm_cg fun i _ => rfl
      rw [this, hn_sm_add, hn_sm_cg (f := fun i => q i m) (h := q m) (fun i _ => hs i m)]
    rw [e1, hn_sm_up, h0 m]
    omega
/-- the plans that a prefix leaves open, in their order -/
def hn_put (p : Nat → Nat) (v h : Nat) : Nat → Nat := fun u => if u = v then h else p u
def hn_dfs {X : Type} (H : List Nat) (f : (Nat → Nat) → X → X) : List Nat → (Nat → Nat) → X → X
  | [], p, x => f p x
  | v :: F, p, x => hn_itr H.length (fun j x => hn_dfs H f F (hn_put p v (H.getD j 0)) x) x
theorem hn_itr_id {X : Type} {n : Nat} {f : Nat → X → X} {x : X} (h : ∀ i, i < n → f i x = x) : hn_itr n f x = x := by
  induction n with
  | zero => rfl
  | succ n ih => rw [hn_itr_up, ih (fun i hi => h i (by omega)), h n (by omega)]
/-- a plan agrees with another outside a list, and takes hubs in it -/
def hn_ext (H F : List Nat) (p q : Nat → Nat) : Prop := (∀ u, u ∉ F → q u = p u) ∧ ∀ u, u ∈ F → q u ∈ H
/-- nothing happens below a prefix if nothing happens at its leaves -/
theorem hn_dfs_id {X : Type} {H : List Nat} {f : (Nat → Nat) → X → X} {x : X} : ∀ {F : List Nat} {p : Nat → Nat}, F.Nodup → (∀ q, hn_ext H F p q → f q x = x) → hn_dfs H f F p x = x
  | [], p, _, h => h p ⟨fun _ _ => rfl, fun u hu => absurd hu (by simp)⟩
  | v :: F, p, hd, h => by
    refine hn_itr_id fun j hj => hn_dfs_id (List.nodup_cons.mp hd).2 fun q hq => h q ⟨fun u hu => ?_, fun u hu => ?_⟩
    · rw [List.mem_cons, not_or] at hu
      rw [hq.1 u hu.2]
      exact if_neg hu.1
    · rcases List.mem_cons.mp hu with e | e
      · have hv : u ∉ F := by rw [e]; exact (List.nodup_cons.mp hd).1
        rw [hq.1 u hv]
        unfold hn_put
        rw [if_pos e]
        exact hn_getD_mem hj
      · exact hq.2 u e
