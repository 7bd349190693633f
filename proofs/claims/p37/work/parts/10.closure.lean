/-! the closure: wherever the shadow goes on, the machine does; whole methods; the law -/
section HNZ
variable {p : Program} {l : Launch} {e : Env} {R : Room} {s : State} {m : MethodId} {args : Array Value} {below : List Frame} {meth : Method} {c : Code} {Q : State → Prop}
variable {D : va_G} {base : Nat} {cI cS : ClassId} {b sL : Nat} {xs : Nat → Int32} {mi d n0 s0 : Nat} {r : Option hn_V} {Mend : hn_Mem}
/-- the method's end -/
def hn_Rt (p : Program) (l : Launch) (e : Env) (R : Room) (s : State) (m : MethodId) (args : Array Value) (below : List Frame) (meth : Method) (c : Code) (D : va_G) (base : Nat) (cI cS : ClassId) (b mi n0 s0 : Nat) (Q : State → Prop) (r : Option hn_V) (Mend : hn_Mem) : Prop :=
  ∀ (pc : Nat) (a : Array Slot) (H : Heap) (locs : List Loc), hn_Wd D base cI cS Mend H → hn_oM Mend → hn_oS r.toList → va_S (hn_A base) s.heap H locs → (match r with
    | some (.inl x) => decode (hn_c mi) pc = .ok (.ireturn, 1) ∧ ((hn_rt mi = some .boolean ∧ (x = 0 ∨ x = 1)) ∨ hn_rt mi = some .int)
    | some (.inr (.inl _)) => decode (hn_c mi) pc = .ok (.lreturn, 1) ∧ hn_rt mi = some .long
    | none => decode (hn_c mi) pc = .ok (.return_, 1) ∧ hn_rt mi = none
    | _ => False) → W p l e R s m args below meth c H locs (Mend.1.length - n0) (hn_sz Mend.1 - s0) Q (F0 m pc a (r.toList.map (hn_cv base b)))

set_option maxHeartbeats 4000000 in
theorem hn_closeW (hX : hn_X p R s m args meth c D base cI cS b sL xs mi d n0 s0 Mend) {C : hn_C} (hmono : ∀ t as M r M', C t as M r M' → hn_gr M M') (hIH : ∀ t as M1 r1 M2, C t as M1 r1 M2 → hn_gen t = true → hn_oM M1 → hn_oS as → (hn_args as).length ≤ hn_ml t → hn_Met l D base cI cS b sL xs d t as M1 r1 M2) (hret : hn_Rt p l e R s m args below meth c D base cI cS b mi n0 s0 Q r Mend) {pc len : Nat} {ls : hn_Ls} {st : List hn_V} {M : hn_Mem} {ins : Instr} (hd : decode (hn_c mi) pc = .ok (ins, len)) (hc : hn_chk mi pc ins len = true)
    (h : hn_ins (fun j => (xs j).toInt) sL C mi pc len ls st M (hn_G p l e R s m args below meth c D base cI cS b mi n0 s0 Q r Mend) ins) : hn_GW p l e R s m args below meth c D base cI cS b mi n0 s0 Q pc ls st M := by
  unfold hn_ins at h
  split at h

  ·
    have hl : len = 1 := Nat.eq_of_beq_eq_true hc
    subst hl
    exact hn_s_aload_n hX hd h
  ·
    unfold hn_lda at h
    split at h
    · rename_i v e
      have hl : len = 2 := Nat.eq_of_beq_eq_true hc
      subst hl
      refine hn_pure (r := r) h (fun h1 h2 _ => hn_oS.n (fun x q => by cases q) h1) ?_
      intro H locs cells slots a hF k
      rcases v with v | v
      · exact lv_aload (x := base + v) hX.1.1 hX.1.2.1 hd (hF.2.2.1.2.2.2 _ _ e) k
      · exact lv_aload (x := b) hX.1.1 hX.1.2.1 hd (hF.2.2.1.2.2.2 _ _ e) k
    · exact h.elim
  ·
    have hl : len = 1 := Nat.eq_of_beq_eq_true hc
    subst hl
    exact hn_s_iload_n hX hd h
  ·
    have hl : len = 2 := Nat.eq_of_beq_eq_true hc
    subst hl
    exact hn_s_iload hX hd h
  ·
    have hl : len = 1 := Nat.eq_of_beq_eq_true hc
    subst hl
    exact hn_s_lload_n hX hd h
  ·
    have hl : len = 2 := Nat.eq_of_beq_eq_true hc
    subst hl
    exact hn_s_lload hX hd h
  ·
    have hl : len = 1 := Nat.eq_of_beq_eq_true hc
    subst hl
    exact hn_s_istore_n hX hd h
  ·
    have hl : len = 2 := Nat.eq_of_beq_eq_true hc
    subst hl
    exact hn_s_istore hX hd h
  ·
    have hl : len = 1 := Nat.eq_of_beq_eq_true hc
    subst hl
    exact hn_s_astore_n hX hd h
  ·
    have hl : len = 1 := Nat.eq_of_beq_eq_true hc
    subst hl
    exact hn_s_lstore_n hX hd h
  ·
    have hl : len = 2 := Nat.eq_of_beq_eq_true hc
    subst hl
    exact hn_s_lstore hX hd h
  ·
    have hc2 := Bool.and_eq_true_iff.mp hc
    have hl : len = 3 := Nat.eq_of_beq_eq_true hc2.2
    subst hl
    exact hn_s_iinc hX hd h
  ·
    have hc2 := Bool.and_eq_true_iff.mp hc
    have hl : len = 1 := Nat.eq_of_beq_eq_true hc2.2
    subst hl
    exact hn_s_iconst hX hd (of_decide_eq_true hc2.1) h
  ·
    have hc2 := Bool.and_eq_true_iff.mp hc
    have hl : len = 2 := Nat.eq_of_beq_eq_true hc2.2
    subst hl
    exact hn_s_bipush hX hd (of_decide_eq_true hc2.1) h
  ·
    have hc2 := Bool.and_eq_true_iff.mp hc
    have hl : len = 3 := Nat.eq_of_beq_eq_true hc2.2
    subst hl
    exact hn_s_sipush hX hd (of_decide_eq_true hc2.1) h
  ·
    have hc2 := Bool.and_eq_true_iff.mp hc
    have hl : len = 2 := Nat.eq_of_beq_eq_true hc2.1
    subst hl
    have hc3 := hc2.2
    split at h
    · rename_i v ev
      rw [ev] at hc3
      have hc4 := Bool.and_eq_true_iff.mp hc3
      exact hn_s_ldc hX hd (of_decide_eq_true hc4.1) (of_decide_eq_true hc4.2) h
    · exact h.elim
  ·
    have hc2 := Bool.and_eq_true_iff.mp hc
    have hl : len = 3 := Nat.eq_of_beq_eq_true hc2.1
    subst hl
    have hc3 := hc2.2
    split at h
    · rename_i v ev
      rw [ev] at hc3
      have hc4 := Bool.and_eq_true_iff.mp hc3
      exact hn_s_ldc_w hX hd (of_decide_eq_true hc4.1) (of_decide_eq_true hc4.2) h
    · exact h.elim
  ·
    have hc2 := Bool.and_eq_true_iff.mp hc
    have hl : len = 3 := Nat.eq_of_beq_eq_true hc2.1
    subst hl
    have hc3 := hc2.2
    split at h
    · rename_i v ev
      rw [ev] at hc3
      exact hn_s_ldc2_w hX hd (of_decide_eq_true hc3) h
    · exact h.elim
  ·
    have hl : len = 1 := Nat.eq_of_beq_eq_true hc
    subst hl
    exact hn_s_iadd hX hd h
  ·
    have hl : len = 1 := Nat.eq_of_beq_eq_true hc
    subst hl
    exact hn_s_isub hX hd h
  ·
    have hl : len = 1 := Nat.eq_of_beq_eq_true hc
    subst hl
    exact hn_s_imul hX hd h
  ·
    have hl : len = 1 := Nat.eq_of_beq_eq_true hc
    subst hl
    exact hn_s_irem hX hd h
  ·
    have hl : len = 1 := Nat.eq_of_beq_eq_true hc
    subst hl
    exact hn_s_ineg hX hd h
  ·
    have hl : len = 1 := Nat.eq_of_beq_eq_true hc
    subst hl
    exact hn_s_iand hX hd h
  ·
    have hl : len = 1 := Nat.eq_of_beq_eq_true hc
    subst hl
    exact hn_s_ior hX hd h
  ·
    have hl : len = 1 := Nat.eq_of_beq_eq_true hc
    subst hl
    exact hn_s_ixor hX hd h
  ·
    have hl : len = 1 := Nat.eq_of_beq_eq_true hc
    subst hl
    exact hn_s_ishl hX hd h
  ·
    have hl : len = 1 := Nat.eq_of_beq_eq_true hc
    subst hl
    exact hn_s_ishr hX hd h
  ·
    have hl : len = 1 := Nat.eq_of_beq_eq_true hc
    subst hl
    exact hn_s_iushr hX hd h
  ·
    have hl : len = 1 := Nat.eq_of_beq_eq_true hc
    subst hl
    exact hn_s_i2l hX hd h
  ·
    have hl : len = 1 := Nat.eq_of_beq_eq_true hc
    subst hl
    exact hn_s_ladd hX hd h
  ·
    have hl : len = 1 := Nat.eq_of_beq_eq_true hc
    subst hl
    exact hn_s_lmul hX hd h
  ·
    have hl : len = 1 := Nat.eq_of_beq_eq_true hc
    subst hl
    exact hn_s_lcmp hX hd h
  ·
    have hl : len = 1 := Nat.eq_of_beq_eq_true hc
    subst hl
    exact hn_s_dup hX hd h
  ·
    have hl : len = 1 := Nat.eq_of_beq_eq_true hc
    subst hl
    exact hn_s_dup_x1 hX hd h
  ·
    have hl : len = 1 := Nat.eq_of_beq_eq_true hc
    subst hl
    exact hn_s_dup2 hX hd h
  ·
    have hl : len = 1 := Nat.eq_of_beq_eq_true hc
    subst hl
    exact hn_s_pop hX hd h
  ·
    have hc2 := Bool.and_eq_true_iff.mp hc
    have hl : len = 3 := Nat.eq_of_beq_eq_true hc2.2
    subst hl
    exact hn_s_goto hX hd hc2.1 h
  ·
    have hc2 := Bool.and_eq_true_iff.mp hc
    have hl : len = 3 := Nat.eq_of_beq_eq_true hc2.2
    subst hl
    exact hn_s_ifeq hX hd hc2.1 h
  ·
    have hc2 := Bool.and_eq_true_iff.mp hc
    have hl : len = 3 := Nat.eq_of_beq_eq_true hc2.2
    subst hl
    exact hn_s_ifne hX hd hc2.1 h
  ·
    have hc2 := Bool.and_eq_true_iff.mp hc
    have hl : len = 3 := Nat.eq_of_beq_eq_true hc2.2
    subst hl
    exact hn_s_iflt hX hd hc2.1 h
  ·
    have hc2 := Bool.and_eq_true_iff.mp hc
    have hl : len = 3 := Nat.eq_of_beq_eq_true hc2.2
    subst hl
    exact hn_s_ifge hX hd hc2.1 h
  ·
    have hc2 := Bool.and_eq_true_iff.mp hc
    have hl : len = 3 := Nat.eq_of_beq_eq_true hc2.2
    subst hl
    exact hn_s_ifgt hX hd hc2.1 h
  ·
    have hc2 := Bool.and_eq_true_iff.mp hc
    have hl : len = 3 := Nat.eq_of_beq_eq_true hc2.2
    subst hl
    exact hn_s_ifle hX hd hc2.1 h
  ·
    have hc2 := Bool.and_eq_true_iff.mp hc
    have hl : len = 3 := Nat.eq_of_beq_eq_true hc2.2
    subst hl
    exact hn_s_cmpeq hX hd hc2.1 h
  ·
    have hc2 := Bool.and_eq_true_iff.mp hc
    have hl : len = 3 := Nat.eq_of_beq_eq_true hc2.2
    subst hl
    exact hn_s_cmpne hX hd hc2.1 h
  ·
    have hc2 := Bool.and_eq_true_iff.mp hc
    have hl : len = 3 := Nat.eq_of_beq_eq_true hc2.2
    subst hl
    exact hn_s_cmplt hX hd hc2.1 h
  ·
    have hc2 := Bool.and_eq_true_iff.mp hc
    have hl : len = 3 := Nat.eq_of_beq_eq_true hc2.2
    subst hl
    exact hn_s_cmpge hX hd hc2.1 h
  ·
    have hc2 := Bool.and_eq_true_iff.mp hc
    have hl : len = 3 := Nat.eq_of_beq_eq_true hc2.2
    subst hl
    exact hn_s_cmpgt hX hd hc2.1 h
  ·
    have hc2 := Bool.and_eq_true_iff.mp hc
    have hl : len = 3 := Nat.eq_of_beq_eq_true hc2.2
    subst hl
    exact hn_s_cmple hX hd hc2.1 h
  ·
    have hc2 := Bool.and_eq_true_iff.mp hc
    exact hn_s_tsw hX hd hc2.1 hc2.2 h
  ·
    have hc2 := Bool.and_eq_true_iff.mp hc
    have hc3 := Bool.and_eq_true_iff.mp hc2.1
    exact hn_s_lsw hX hd hc3.1 hc3.2 hc2.2 h
  ·
    have hc2 := Bool.and_eq_true_iff.mp hc
    have hl : len = 3 := Nat.eq_of_beq_eq_true hc2.1
    subst hl
    have hc3 := hc2.2
    split at h
    · rename_i k j ev
      rw [ev] at hc3
      have hc4 := Bool.and_eq_true_iff.mp hc3
      have hc5 := Bool.and_eq_true_iff.mp hc4.1
      exact hn_s_getfield hX hd (of_decide_eq_true hc5.1) (hn_bltT.mp hc5.2) (hn_bltT.mp hc4.2) h
    · exact h.elim
  ·
    have hc2 := Bool.and_eq_true_iff.mp hc
    have hl : len = 3 := Nat.eq_of_beq_eq_true hc2.1
    subst hl
    have hc3 := hc2.2
    split at h
    · rename_i k j ev
      rw [ev] at hc3
      have hc4 := Bool.and_eq_true_iff.mp hc3
      have hc5 := Bool.and_eq_true_iff.mp hc4.1
      exact hn_s_putfield hX hd (of_decide_eq_true hc5.1) (hn_bltT.mp hc5.2) (hn_bltT.mp hc4.2) h
    · exact h.elim
  ·
    have hl : len = 1 := Nat.eq_of_beq_eq_true hc
    subst hl
    exact hn_s_iaload hX hd h
  ·
    have hl : len = 1 := Nat.eq_of_beq_eq_true hc
    subst hl
    exact hn_s_sload hX hd h
  ·
    have hl : len = 1 := Nat.eq_of_beq_eq_true hc
    subst hl
    exact hn_s_iastore hX hd h
  ·
    have hl : len = 1 := Nat.eq_of_beq_eq_true hc
    subst hl
    exact hn_s_aaload hX hd h
  ·
    have hl : len = 1 := Nat.eq_of_beq_eq_true hc
    subst hl
    exact hn_s_aastore hX hd h
  ·
    have hl : len = 1 := Nat.eq_of_beq_eq_true hc
    subst hl
    exact hn_s_alen hX hd h
  ·
    have hl : len = 1 := Nat.eq_of_beq_eq_true hc
    subst hl
    exact hn_s_slen hX hd h
  ·
    have hc2 := Bool.and_eq_true_iff.mp hc
    have hl : len = 3 := Nat.eq_of_beq_eq_true hc2.1
    subst hl
    have hc3 := hc2.2
    split at h
    · rename_i k ev
      rw [ev] at hc3
      have hc4 := Bool.and_eq_true_iff.mp hc3
      exact hn_s_new hX hd (of_decide_eq_true hc4.1) (hn_bltT.mp hc4.2) h
    · exact h.elim
  ·
    have hl : len = 2 := Nat.eq_of_beq_eq_true hc
    subst hl
    exact hn_s_newI hX hd h
  ·
    have hc2 := Bool.and_eq_true_iff.mp hc
    have hl : len = 3 := Nat.eq_of_beq_eq_true hc2.1
    subst hl
    have hc3 := hc2.2
    split at h
    · rename_i k ev
      rw [ev] at hc3
      have hc4 := Bool.and_eq_true_iff.mp hc3
      exact hn_s_newQ hX hd (of_decide_eq_true hc4.1) h
    · exact h.elim
  ·
    have hc2 := Bool.and_eq_true_iff.mp hc
    have hl : len = 3 := Nat.eq_of_beq_eq_true hc2.1
    subst hl
    have hc3 := hc2.2
    split at h
    · rename_i t ev
      rw [ev] at hc3
      have hc4 := Bool.and_eq_true_iff.mp hc3
      have hc5 := Bool.and_eq_true_iff.mp hc4.1
      cases hb : (Nat.beq (hn_mk t) 1 && hn_gen t) with
      | false => rw [hb] at h; exact h.elim
      | true =>
        rw [hb] at h
        have hb2 := Bool.and_eq_true_iff.mp hb
        exact hn_s_virtual hX hmono hIH hd hb2.2 (Nat.eq_of_beq_eq_true hb2.1) (of_decide_eq_true hc4.2) h
    · exact h.elim
  ·
    have hc2 := Bool.and_eq_true_iff.mp hc
    have hl : len = 3 := Nat.eq_of_beq_eq_true hc2.1
    subst hl
    have hc3 := hc2.2
    split at h
    · rename_i t ev
      rw [ev] at hc3
      cases h1 : Nat.beq t 1001 with
      | true =>
        rw [h1] at h
        dsimp only [cond_true] at h
        simp only [h1, cond_true] at hc3
        split at h
        · exact hn_s_objInit hX hd (of_decide_eq_true hc3) h
        · exact h.elim
      | false =>
        rw [h1] at h
        dsimp only [cond_false] at h
        simp only [h1, cond_false] at hc3
        have hc4 := Bool.and_eq_true_iff.mp hc3
        cases hb : (Nat.beq (hn_mk t) 2 && hn_gen t) with
        | false => rw [hb] at h; exact h.elim
        | true =>
          rw [hb] at h
          have hb2 := Bool.and_eq_true_iff.mp hb
          exact hn_s_special hX hmono hIH hd hb2.2 (Nat.eq_of_beq_eq_true hb2.1) hc4.2 h
    · exact h.elim
  ·
    have hc2 := Bool.and_eq_true_iff.mp hc
    have hl : len = 3 := Nat.eq_of_beq_eq_true hc2.1
    subst hl
    have hc3 := hc2.2
    split at h
    · rename_i t ev
      rw [ev] at hc3
      cases h1 : Nat.beq t 1000 with
      | true =>
        rw [h1] at h
        dsimp only [cond_true] at h
        simp only [h1, cond_true] at hc3
        split at h
        · exact hn_s_copy hX hd (of_decide_eq_true hc3) h
        · exact h.elim
      | false =>
        rw [h1] at h
        dsimp only [cond_false] at h
        simp only [h1, cond_false] at hc3
        have hc4 := Bool.and_eq_true_iff.mp hc3
        cases hb : (Nat.beq (hn_mk t) 0 && hn_gen t) with
        | false =>
          rw [hb] at h
          dsimp only [cond_false] at h
          cases h3 : hn_nest (hn_oc mi * 1024 + _) with
          | true => rw [h3] at h; exact h.elim
          | false =>
            rw [h3] at h
            dsimp only [cond_false] at h
            have hc5 := hc4.2
            rw [h3] at hc5
            have hc6 := of_decide_eq_true hc5
            have h' := h
            unfold hn_math at h'
            split at h'
            · exact hn_s_abs hX hd hc6 h
            · exact hn_s_max hX hd hc6 h
            · exact hn_s_min hX hd hc6 h
            · exact h'.elim
        | true =>
          rw [hb] at h
          dsimp only [cond_true] at h
          have hb2 := Bool.and_eq_true_iff.mp hb
          exact hn_s_static hX hmono hIH hd hb2.2 (Nat.eq_of_beq_eq_true hb2.1) hc4.2 h
    · exact h.elim
  ·
    have hl : len = 1 := Nat.eq_of_beq_eq_true hc
    subst hl
    intro h1 h2 H locs a hF
    have fin : ∀ x, ((hn_rt mi = some .boolean ∧ (x = 0 ∨ x = 1)) ∨ hn_rt mi = some .int) → hn_Fr D base cI cS b (hn_ml mi) s M ls [.inl x] H locs a → decode (hn_c mi) pc = .ok (.ireturn, 1) → (some (.inl x), M) = (r, Mend) → W p l e R s m args below meth c H locs (M.1.length - n0) (hn_sz M.1 - s0) Q (F0 m pc a ([.inl x].map (hn_cv base b))) := by
      intro x hx hF hd hr
      cases hr
      exact hret pc a H locs hF.1 hF.2.1 hF.2.2.2.2.1 hF.2.2.2.2.2 ⟨hd, hx⟩
    split at h
    · rename_i ert
      exact fin _ (Or.inl ⟨ert, h.1⟩) hF hd h.2
    · rename_i ert
      exact fin _ (Or.inr ert) hF hd h
    · exact h.elim
  ·
    have hl : len = 1 := Nat.eq_of_beq_eq_true hc
    subst hl
    intro h1 h2 H locs a hF
    split at h
    · rename_i ert
      cases (h : (some _, M) = (r, Mend))
      exact hret pc a H locs hF.1 hF.2.1 hF.2.2.2.2.1 hF.2.2.2.2.2 ⟨hd, ert⟩
    · exact h.elim
  ·
    have hl : len = 1 := Nat.eq_of_beq_eq_true hc
    subst hl
    intro h1 h2 H locs a hF
    split at h
    · rename_i ert
      cases (h : (none, M) = (r, Mend))
      exact hret pc a H locs hF.1 hF.2.1 hF.2.2.2.2.1 hF.2.2.2.2.2 ⟨hd, ert⟩
    · exact h.elim
  ·
    exact h.elim
theorem hn_close (hmi : mi < 169) (hX : hn_X p R s m args meth c D base cI cS b sL xs mi d n0 s0 Mend) {C : hn_C} (hmono : ∀ t as M r M', C t as M r M' → hn_gr M M') (hIH : ∀ t as M1 r1 M2, C t as M1 r1 M2 → hn_gen t = true → hn_oM M1 → hn_oS as → (hn_args as).length ≤ hn_ml t → hn_Met l D base cI cS b sL xs d t as M1 r1 M2) (hret : hn_Rt p l e R s m args below meth c D base cI cS b mi n0 s0 Q r Mend) : ∀ q, hn_stp (fun j => (xs j).toInt) sL C (hn_G p l e R s m args below meth c D base cI cS b mi n0 s0 Q r Mend) q → hn_G p l e R s m args below meth c D base cI cS b mi n0 s0 Q r Mend q := by
  intro q h
  rcases q with ⟨m', pc, ls, st, M⟩ | x
  · obtain ⟨ins, len, hcode, h⟩ := hn_stpOf h
    intro hm
    subst hm
    have hcd := hn_kda m' hmi pc
    unfold hn_cd at hcd
    rw [hcode] at hcd
    have hcd2 := Bool.and_eq_true_iff.mp hcd
    refine ⟨?_, hn_closeW hX hmono hIH hret (of_decide_eq_true hcd2.1) hcd2.2 h⟩
    obtain ⟨q', h1, h2⟩ := hn_ins_nx hmono h
    rcases q' with ⟨m2, pc2, ls2, st2, M2⟩ | ⟨r2, M2⟩
    · have h3 := (h1 h2.1).1
      exact ⟨Nat.le_trans h2.2.1 h3.1, Nat.le_trans h2.2.2 h3.2⟩
    · cases (h1 : (r2, M2) = (r, Mend))
      exact h2
  · exact h.elim
theorem hn_kl_len : ∀ (k : List Bool) (ls : hn_Ls), (hn_kl k ls).length = ls.length
  | [], ls => by cases ls <;> rfl
  | true :: k, [] => rfl
  | false :: k, [] => rfl
  | true :: k, x :: ls => by simp [hn_kl, hn_kl_len k ls]
  | false :: k, x :: ls => by simp [hn_kl, hn_kl_len k ls]
theorem hn_kl_get : ∀ (k : List Bool) (ls : hn_Ls) (i : Nat) (v : hn_V), (hn_kl k ls)[i]? = some (some v) → ls[i]? = some (some v)
  | [], ls, i, v, h => by cases ls <;> exact h
  | true :: k, [], i, v, h => h
  | false :: k, [], i, v, h => h
  | true :: k, x :: ls, 0, v, h => h
  | false :: k, x :: ls, 0, v, h => by simp [hn_kl] at h
  | true :: k, x :: ls, i + 1, v, h => hn_kl_get k ls i v (by simpa [hn_kl] using h)
  | false :: k, x :: ls, i + 1, v, h => hn_kl_get k ls i v (by simpa [hn_kl] using h)
theorem hn_closeK (k : List Bool) (m' pc : Nat) (ls : hn_Ls) (st : List hn_V) (M : hn_Mem) (h : hn_G p l e R s m args below meth c D base cI cS b mi n0 s0 Q r Mend (hn_nx m' pc (hn_kl k ls) st M)) : hn_G p l e R s m args below meth c D base cI cS b mi n0 s0 Q r Mend (hn_nx m' pc ls st M) := by
  intro hm
  obtain ⟨h1, h2⟩ := h hm
  refine ⟨h1, fun g1 g2 H locs a hF => h2 g1 g2 H locs a ⟨hF.1, hF.2.1, ⟨hF.2.2.1.1, hF.2.2.1.2.1, by rw [hn_kl_len]; exact hF.2.2.1.2.2.1, fun i v hv => hF.2.2.1.2.2.2 i v (hn_kl_get k ls i v hv)⟩, fun i x hx => hF.2.2.2.1 i x (hn_kl_get k ls i _ hx), hF.2.2.2.2⟩⟩
end HNZ
/-- A METHOD OF THE SHADOW IS THE MACHINE'S -/
theorem hn_met (l : Launch) (D : va_G) (base : Nat) (cI cS : ClassId) (b sL : Nat) (xs : Nat → Int32) (hsL : sL < 2147483648) (hb : b < base) : ∀ (d t : Nat) (as : List hn_V) (M : hn_Mem) (r : Option hn_V) (M' : hn_Mem), hn_ret (fun j => (xs j).toInt) sL d t as M r M' → hn_gen t = true → hn_oM M → hn_oS as → (hn_args as).length ≤ hn_ml t → hn_Met l D base cI cS b sL xs d t as M r M'
  | 0, t, as, M, r, M', h, _, _, _, _ => h.elim
  | d + 1, t, as, M, r, M', h, hg, hoM, hoS, hle => by
    have ht := hn_genL hg
    obtain ⟨y1, y2, y3, y4, y5, y6, y7, y8, y9⟩ := hn_my t ht
    unfold hn_Met
    refine Met.ofW (cc := hn_c t) (maxL := hn_ml t) (ret := hn_rt t) (y1 (hn_genP hg)) rfl ?_
    intro p e s m args below meth c s₁ B hml hv
    obtain ⟨rfl, hW, hK, hXs, hN⟩ := hv
    have hts0 := atoms_spec (ws := hn_ws t) B.pre
    have hown : s.vm.findClass (hn_cn (hn_oc t)) = some m.cls := by
      have := findClass_of_methodNamed B.named
      rwa [y5] at this
    have hX : hn_X p (headSpec (hn_ws t) (hn_rm (d + 1) M M')).room s m (as.map (hn_cv base b)).toArray meth c D base cI cS b sL xs t d M.1.length (hn_sz M.1) M' := ⟨⟨B.exec, B.bytes, hml, hown⟩, fun w hw => hts0 w (List.mem_cons_of_mem _ hw), ⟨fun hk => by rw [← y6 hk]; exact (name_of_methodNamed B.named B.method).1, hN⟩, hK, ⟨by rw [hW.1]; omega, hXs, hb, hsL⟩, ⟨Nat.le_refl _, by show d * 64 + 64 ≤ (d + 1) * 64; omega, Nat.le_refl _, Nat.le_refl _⟩⟩
    have hret : hn_Rt p l e (headSpec (hn_ws t) (hn_rm (d + 1) M M')).room s m (as.map (hn_cv base b)).toArray below meth c D base cI cS b t M.1.length (hn_sz M.1) (MQ below (hn_Qc D base cI cS b r M') (as.map (hn_cv base b)).toArray s (M'.1.length - M.1.length) (hn_sz M'.1 - hn_sz M.1) (hn_A base)) r M' := by
      intro pc a H locs hW' hoM' hoS' hS hr
      have hq : ∀ (v : Option Value), v = r.map (hn_cv base b) → ∀ T : State, T.heap = H → s.WarmedH T.vm → hn_Qc D base cI cS b r M' (as.map (hn_cv base b)).toArray s (.returned v) T := fun v hv T hT _ => ⟨⟨by rw [hv], by rw [hT]; exact hW', hoM', hoS'⟩, hS.F hT⟩
      split at hr
      · obtain ⟨hd, hx⟩ := hr
        rcases hx with ⟨hrt, hx⟩ | hrt
        · exact W.zret B.exec B.bytes (by rw [B.returns, hrt]) (by rcases hx with rfl | rfl <;> rfl) (hq _ rfl) hS.2.2 hd B.notSynchronized
        · exact W.iret B.exec B.bytes (by rw [B.returns, hrt]) (hq _ rfl) hS.2.2 hd B.notSynchronized
      · exact W.lret B.exec B.bytes (by rw [B.returns, hr.2]) (hq _ rfl) hS.2.2 hr.1 B.notSynchronized
      · exact W.vret B.exec B.bytes (by rw [B.returns, hr.2]) (hq _ rfl) hS.2.2 hr.1 B.notSynchronized
      · exact hr.elim
    have hG := h _ (hn_close (l := l) (e := e) (below := below) (by omega) hX (hn_mono d) (hn_met l D base cI cS b sL xs hsL hb d) hret) (fun k m' pc ls st M hp => hn_closeK k m' pc ls st M hp) rfl
    have h3 := (hG rfl).2 (Nat.le_refl _) (Nat.le_refl _) s.heap [] _ ⟨hW, hoM, hn_lvEntry base b hle, fun i x hx => hoS x (hn_args_in as i _ (hn_loc0_get hx)), fun x hx => by simp at hx, va_S.rf⟩
    rw [Nat.sub_self, Nat.sub_self] at h3
    rw [lg_entry_eq]
    exact h3

