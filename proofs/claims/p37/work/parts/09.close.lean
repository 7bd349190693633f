/-! the shadow's runs are the machine's -/
theorem hn_cond_ex {b : Bool} {X : Prop} (h : cond b X False) : X := by
  cases b
  · exact h.elim
  · exact h
theorem hn_br_ex {c A B : Prop} (h : hn_br c A B) : A ∨ B := by
  by_cases hc : c
  · exact Or.inl (h.1 hc)
  · exact Or.inr (h.2 hc)
theorem hn_lda_ex {ls : hn_Ls} {i : Nat} {K : hn_V → Prop} (h : hn_lda ls i K) : ∃ v, K v := by
  unfold hn_lda at h
  split at h
  · exact ⟨_, h⟩
  · exact h.elim
theorem hn_ld1_ex {ls : hn_Ls} {i : Nat} {K : hn_V → Prop} (h : hn_ld1 ls i K) : ∃ v, K v := by
  unfold hn_ld1 at h
  split at h
  · exact ⟨_, h⟩
  · exact h.elim
theorem hn_ldl_ex {ls : hn_Ls} {i : Nat} {K : hn_V → Prop} (h : hn_ldl ls i K) : ∃ v, K v := by
  unfold hn_ldl at h
  split at h
  · exact ⟨_, h⟩
  · exact h.elim
theorem hn_getf_ex {M : hn_Mem} {o c k : Nat} {K : hn_V → Prop} (h : hn_getf M o c k K) : ∃ v, K v := by
  unfold hn_getf at h
  have h := hn_cond_ex h
  split at h
  · exact ⟨_, h⟩
  · exact ⟨_, h⟩
  · exact ⟨_, h⟩
  · split at h
    · exact ⟨_, h⟩
    · exact h.elim
theorem hn_putf_ex {M : hn_Mem} {o c k : Nat} {v : hn_V} {K : hn_Mem → Prop} (h : hn_putf M o c k v K) : ∃ M', K M' ∧ M'.1 = M.1 := by
  unfold hn_putf at h
  have h := hn_cond_ex h
  split at h
  · exact ⟨_, h, rfl⟩
  · exact ⟨_, h.2, rfl⟩
  · exact ⟨_, h, rfl⟩
  · exact ⟨_, h, rfl⟩
  · exact h.elim
theorem hn_ilen_ex {sh : List hn_Sh} {a : Nat} {K : Nat → Prop} (h : hn_ilen sh a K) : ∃ n, K n := by
  unfold hn_ilen at h
  split at h
  · exact ⟨_, h⟩
  · exact h.elim
theorem hn_qlen_ex {sh : List hn_Sh} {a : Nat} {K : Nat → Prop} (h : hn_qlen sh a K) : ∃ n, K n := by
  unfold hn_qlen at h
  split at h
  · exact ⟨_, h⟩
  · exact h.elim
theorem hn_alen_ex {sh : List hn_Sh} {a : Nat} {K : Nat → Prop} (h : hn_alen sh a K) : ∃ n, K n := by
  unfold hn_alen at h
  split at h
  · exact ⟨_, h⟩
  · exact ⟨_, h⟩
  · exact h.elim
theorem hn_opt_ex {o : Option Nat} {K : Nat → Prop} (h : hn_opt o K) : ∃ r, K r := by
  unfold hn_opt at h
  split at h
  · exact ⟨_, h⟩
  · exact h.elim
abbrev hn_gr (M M' : hn_Mem) : Prop := M.1.length ≤ M'.1.length ∧ hn_sz M.1 ≤ hn_sz M'.1
theorem hn_gr.rf {M : hn_Mem} : hn_gr M M := ⟨Nat.le_refl _, Nat.le_refl _⟩
theorem hn_gr.of {M M' : hn_Mem} (h : M'.1 = M.1) : hn_gr M M' := ⟨by rw [h]; exact Nat.le_refl _, by rw [h]; exact Nat.le_refl _⟩
theorem hn_gr.new {M : hn_Mem} {s : hn_Sh} : hn_gr M (hn_new M s) := ⟨by simp [hn_new], by show _ ≤ hn_sz (M.1 ++ [s]); rw [hn_sz_push]; omega⟩
theorem hn_ivk_ex {C : hn_C} (hC : ∀ t as M r M', C t as M r M' → hn_gr M M') {t : Nat} {st : List hn_V} {M : hn_Mem} {K : List hn_V → hn_Mem → Prop} (h : hn_ivk C t st M K) : ∃ st' M', K st' M' ∧ hn_gr M M' := by
  unfold hn_ivk at h
  split at h
  · have h := hn_cond_ex h
    unfold hn_call at h
    obtain ⟨r, M', h1, h2⟩ := hn_cond_ex h
    exact ⟨_, _, h2, hC _ _ _ _ _ h1⟩
  · exact h.elim
theorem hn_ivs_ex {C : hn_C} (hC : ∀ t as M r M', C t as M r M' → hn_gr M M') {t : Nat} {st : List hn_V} {M : hn_Mem} {K : List hn_V → hn_Mem → Prop} (h : hn_ivs C t st M K) : ∃ st' M', K st' M' ∧ hn_gr M M' := by
  unfold hn_ivs at h
  split at h
  · have h := hn_cond_ex h
    unfold hn_call at h
    obtain ⟨r, M', h1, h2⟩ := hn_cond_ex h
    exact ⟨_, _, h2, hC _ _ _ _ _ h1⟩
  · exact h.elim
theorem hn_math_ex {t : Nat} {st : List hn_V} {K : List hn_V → Prop} (h : hn_math t st K) : ∃ st', K st' := by
  unfold hn_math at h
  split at h
  · exact ⟨_, (hn_cond_ex h).2⟩
  · exact ⟨_, hn_cond_ex h⟩
  · exact ⟨_, hn_cond_ex h⟩
  · exact h.elim
/-- what comes behind: the same method, no smaller a memory -/
def hn_fw (m : Nat) (M : hn_Mem) : hn_St → Prop
  | .inl (m', _, _, _, M') => m' = m ∧ hn_gr M M'
  | .inr (_, M') => hn_gr M M'
set_option maxHeartbeats 4000000 in
theorem hn_ins_nx {sx : Nat → Int} {sL : Nat} {C : hn_C} (hC : ∀ t as M r M', C t as M r M' → hn_gr M M') {m pc len : Nat} {ls : hn_Ls} {st : List hn_V} {M : hn_Mem} {K : hn_St → Prop} {ins : Instr} (h : hn_ins sx sL C m pc len ls st M K ins) : ∃ q, K q ∧ hn_fw m M q := by
  unfold hn_ins at h
  split at h
  all_goals first
    | exact h.elim
    | exact ⟨_, h, rfl, hn_gr.rf⟩
    | exact ⟨_, h.2, rfl, hn_gr.rf⟩
    | exact ⟨_, h.2, rfl, hn_gr.new⟩
    | exact ⟨_, hn_cond_ex h, rfl, hn_gr.rf⟩
    | exact ⟨_, hn_lookOf h, rfl, hn_gr.rf⟩
    | (obtain ⟨v, h⟩ := hn_lda_ex h; exact ⟨_, h, rfl, hn_gr.rf⟩)
    | (obtain ⟨v, h⟩ := hn_ld1_ex h; exact ⟨_, h, rfl, hn_gr.rf⟩)
    | (obtain ⟨v, h⟩ := hn_ldl_ex h; exact ⟨_, h, rfl, hn_gr.rf⟩)
    | (obtain ⟨n, h⟩ := hn_ilen_ex h; exact ⟨_, h.2, rfl, hn_gr.rf⟩)
    | (obtain ⟨n, h⟩ := hn_ilen_ex h; exact ⟨_, h.2, rfl, hn_gr.of rfl⟩)
    | (obtain ⟨n, h⟩ := hn_qlen_ex h; exact ⟨_, hn_cond_ex h.2, rfl, hn_gr.of rfl⟩)
    | (obtain ⟨n, h⟩ := hn_qlen_ex h; obtain ⟨r', h⟩ := hn_opt_ex h.2; exact ⟨_, h, rfl, hn_gr.rf⟩)
    | (obtain ⟨n, h⟩ := hn_alen_ex h; exact ⟨_, hn_cond_ex h, rfl, hn_gr.rf⟩)
    | (rcases hn_br_ex h with h | h <;> exact ⟨_, h, rfl, hn_gr.rf⟩)
    | (rcases hn_br_ex h with h | h <;> first | exact ⟨_, h, rfl, hn_gr.rf⟩ | (split at h <;> first | exact ⟨_, h, rfl, hn_gr.rf⟩ | exact h.elim))
    | (split at h <;> first | exact ⟨_, h, rfl, hn_gr.rf⟩ | exact ⟨_, h.2, rfl, hn_gr.rf⟩ | exact ⟨_, h, rfl, hn_gr.new⟩ | exact h.elim)
    | (split at h <;> first | exact ⟨_, h, hn_gr.rf⟩ | exact ⟨_, h.2, hn_gr.rf⟩ | exact h.elim)
    | (split at h <;> first | exact ⟨_, (hn_cond_ex h).2, rfl, hn_gr.new⟩ | exact h.elim)
    | (split at h <;> first | (obtain ⟨v, h⟩ := hn_getf_ex h; exact ⟨_, h, rfl, hn_gr.rf⟩) | exact h.elim)
    | (split at h <;> first | (obtain ⟨M', h, e⟩ := hn_putf_ex (hn_cond_ex h); exact ⟨_, h, rfl, hn_gr.of e⟩) | exact h.elim)
    | (split at h <;> first | (obtain ⟨st', M', h, e⟩ := hn_ivk_ex hC (hn_cond_ex h); exact ⟨_, h, rfl, e⟩) | exact h.elim)
    | skip
  · split at h
    · rename_i t _
      cases h1 : Nat.beq t 1001 with
      | true =>
        rw [h1] at h
        dsimp only [cond_true] at h
        split at h
        · exact ⟨_, hn_cond_ex h, rfl, hn_gr.rf⟩
        · exact h.elim
      | false =>
        rw [h1] at h
        obtain ⟨st', M', h, e⟩ := hn_ivk_ex hC (hn_cond_ex h)
        exact ⟨_, h, rfl, e⟩
    · exact h.elim
  · split at h
    · rename_i t _
      cases h1 : Nat.beq t 1000 with
      | true =>
        rw [h1] at h
        dsimp only [cond_true] at h
        split at h
        · obtain ⟨n0, h⟩ := hn_ilen_ex (hn_cond_ex h)
          obtain ⟨n1, h⟩ := hn_ilen_ex h
          exact ⟨_, h.2, rfl, hn_gr.of rfl⟩
        · exact h.elim
      | false =>
        rw [h1] at h
        dsimp only [cond_false] at h
        cases h2 : (Nat.beq (hn_mk t) 0 && hn_gen t) with
        | true =>
          rw [h2] at h
          dsimp only [cond_true] at h
          obtain ⟨st', M', h, e⟩ := hn_ivs_ex hC h
          exact ⟨_, h, rfl, e⟩
        | false =>
          rw [h2] at h
          dsimp only [cond_false] at h
          cases h3 : hn_nest (hn_oc m * 1024 + _) with
          | true => rw [h3] at h; exact h.elim
          | false =>
            rw [h3] at h
            dsimp only [cond_false] at h
            obtain ⟨st', h⟩ := hn_math_ex h
            exact ⟨_, h, rfl, hn_gr.rf⟩
    · exact h.elim
theorem hn_stpOf {sx : Nat → Int} {sL : Nat} {C : hn_C} {K : hn_St → Prop} {m pc : Nat} {ls : hn_Ls} {st : List hn_V} {M : hn_Mem} (h : hn_stp sx sL C K (.inl (m, pc, ls, st, M))) : ∃ ins len, hn_code m pc = some (ins, len) ∧ hn_ins sx sL C m pc len ls st M K ins := by
  unfold hn_stp at h
  cases e : hn_code m pc with
  | none => simp only [e] at h
  | some v =>
    obtain ⟨ins, len⟩ := v
    simp only [e] at h
    exact ⟨ins, len, rfl, h⟩
theorem hn_mono {sx : Nat → Int} {sL : Nat} : ∀ (d t : Nat) (as : List hn_V) (M : hn_Mem) (r : Option hn_V) (M' : hn_Mem), hn_ret sx sL d t as M r M' → hn_gr M M'
  | 0, t, as, M, r, M', h => h.elim
  | d + 1, t, as, M, r, M', h => by
    let P : hn_St → Prop := fun q => match q with
      | .inl (m', _, _, _, M1) => hn_gr M1 M'
      | .inr x => x = (r, M')
    refine h P ?_ (fun _ _ _ _ _ _ hp => hp) rfl
    intro q hq
    rcases q with ⟨m', pc, ls, st, M1⟩ | x
    · obtain ⟨ins, len, -, hq⟩ := hn_stpOf hq
      obtain ⟨q', h1, h2⟩ := hn_ins_nx (hn_mono d) hq
      rcases q' with ⟨m2, pc2, ls2, st2, M2⟩ | ⟨r2, M2⟩
      · have h3 : hn_gr M2 M' := h1
        exact ⟨Nat.le_trans h2.2.1 h3.1, Nat.le_trans h2.2.2 h3.2⟩
      · have h3 : (r2, M2) = (r, M') := h1
        cases h3
        exact h2
    · exact hq.elim
