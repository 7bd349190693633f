theorem hn_law (L : Nat) (xs : Nat → Int32) (hL : L ≤ 260) : ∃ (d : Nat) (Mend : hn_Mem), d ≤ 1000 ∧ Mend.1.length ≤ 600000 ∧ hn_sz Mend.1 ≤ 7302250 ∧ hn_ret (fun j => (xs j).toInt) L (d + 1) 168 [hn_vs] hn_M0 (some (.inl 1)) Mend := by
  obtain ⟨Mend, e, r⟩ := hq_all (sx := fun j => (xs j).toInt) (sL := L)
  exact ⟨14, Mend, by decide, by rw [e]; exact hn_SHok.1, by rw [e]; exact hn_SHok.2, r⟩
