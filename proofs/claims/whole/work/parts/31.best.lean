/-! a leaf's step; lists without doubles -/
def hn_step (s : hn_S) (w : Nat) (q : Nat → Nat) (b : Int × Int × (Nat → Int)) : Int × Int × (Nat → Int) := if hn_fits s (hn_P q) w then hn_bet (hn_cost s w (hn_P q)) w (hn_P q) b else b
theorem hn_step_hi {s : hn_S} {w : Nat} {q : Nat → Nat} {b : Int × Int × (Nat → Int)} (h : b.1 ≤ hn_cost s w (hn_P q)) : hn_step s w q b = b := by
  unfold hn_step hn_bet
  by_cases e : hn_fits s (hn_P q) w
  · rw [if_pos e, if_neg (by omega)]
  · rw [if_neg e]
theorem hn_fr_nd (w : Nat) : ∀ n, (hn_fr w n).Nodup
  | 0 => List.nodup_nil
  | n + 1 => by
    have ih := hn_fr_nd w n
    unfold hn_fr
    by_cases e : w.testBit n = true
    · rw [if_pos e]
      exact ih
    · rw [if_neg e, List.nodup_append]
      refine ⟨ih, List.nodup_cons.mpr ⟨by simp, List.nodup_nil⟩, fun a ha b hb q => ?_⟩
      rw [List.mem_singleton] at hb
      have := (hn_fr_mem.mp ha).1
      omega
