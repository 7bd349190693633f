/-! THE CLAIM OUT OF ONE WALK OF THE LAW'S BODY. Your part is whole_start (and what it stands on); all else here is the same for every law, but numbers. -/
def R_law : String := "HubNetworksLaw"
def lw_P (b : Addr) (xs : List Int32) (args : Array Value) (s : State) : Prop := args = #[.ref b] ∧ s.IntsAt b xs ∧ xs.length ≤ 260 ∧ (Jvm.Cond.and given_1 narrow_1).before args s = true
def lw_Q (_ : Array Value) (s : State) (o : Outcome) (t : State) : Prop := o = .returned (some (.int 1)) ∧ Framed s o t [] 600000 7302250
def lw_Z (below : List Frame) (a : Array Value) (s : State) : State → Prop := fun t => ∃ o, t.status = .running ∧ Ended t below o ∧ lw_Q a s o t
/-- the law's own end, with 1 on the stack, nothing written that was there before, its room as the claim has it -/
theorem lw_ret {p : Program} {l : Launch} {e : Env} {s : State} {m : MethodId} {below : List Frame} {meth : Method} {c : Code} {b : Nat} (hx : p.tables.exec = Jvm.exec) (hb : c.code = code) (hr : meth.sig.returnType = ret) (hlocks : meth.locks = false) {pc : Nat} {H : Heap} {ls : Array Slot} (hdg : decode code pc = .ok (.ireturn, 1)) : W p l e room_1 s m #[Value.ref b] below meth c H [] 600000 7302250 (lw_Z below #[Value.ref b] s) (F0 m pc ls [.int 1]) := by
  intro T hT X
  obtain ⟨fs, hret, hrun, hended, hW, hframe⟩ := X.leave (v := some (.int 1)) (hlocks := hlocks) (fun h => by rw [hr] at h; cases h)
  have hmeth' : T.vm.method? m = some meth := X.method'
  refine ⟨T.setFrames fs, ?_, .returned (some (.int 1)), hrun, hended, rfl, ⟨_, rfl⟩, hW, hframe⟩
  jvm_step X.here [X.here.top, hx, hb, hdg, hmeth', hr, ret, narrow_b1]
  (try refine ⟨rfl, ?_⟩); (try refine ⟨rfl, ?_⟩)
  first | (intro acts; rw [hret _ acts rfl rfl rfl]) | rw [hret _ _ rfl rfl rfl]
  exact Steps.refl _
/-- what holds at the law's entry: the machine, the code, the tables' words (any of lw_tbl by 'hts w (by decide +kernel)'), the script of L ints xs at the cell b, what the Statement gives of the start (any of its parts by flat_of_before) -/
def lw_At (p : Program) (s : State) (m : MethodId) (meth : Method) (c : Code) (b L : Nat) (xs : Nat → Int32) : Prop :=
  p.tables.exec = Jvm.exec ∧ c.code = code ∧ meth.sig.returnType = ret ∧ c.maxLocals = 14 ∧ s.vm.findClass R_law = some m.cls ∧ (∀ w ∈ lw_tbl, w.before #[Value.ref b] s = true) ∧ va_X b L xs s s.heap ∧ b < s.heap.size ∧ meth.locks = false ∧ (Jvm.Cond.and given_1 narrow_1).before #[Value.ref b] s = true
-- ===== YOUR PART BEGINS =====
def hn_M0 : hn_Mem := ([], fun _ _ => 0, fun _ _ => none, fun _ _ => 0)
theorem hn_known {s : State} {args : Array Value} (hts : ∀ w ∈ hn_T, w.before args s = true) : ∃ D : va_G, ∀ (k : Nat) (q : vw_C), hn_cl[k]? = some q → u_Kn s q.1 q.2.1 q.2.2 (D.1 k) (D.2 k) := by
  have h : ∀ k : Nat, ∃ (cC : ClassId) (iS : Nat → Nat), ∀ q : vw_C, hn_cl[k]? = some q → u_Kn s q.1 q.2.1 q.2.2 cC iS := by
    intro k
    by_cases hk : k < 8
    · obtain ⟨C, T, N, ty, g1, -, -, g4, -, -, -, -, -, -, g11, -⟩ := hn_cf k hk
      obtain ⟨cC, iS, hh⟩ := u_known hts g4 (hts _ g11)
      refine ⟨cC, iS, fun q hq => ?_⟩
      cases g1.symm.trans hq
      exact hh
    · refine ⟨0, fun _ => 0, fun q hq => ?_⟩
      have := (List.getElem?_eq_some_iff.mp hq).1
      exact absurd this (by simpa [hn_cl] using hk)
  exact ⟨(fun k => Classical.choose (h k), fun k => Classical.choose (Classical.choose_spec (h k))), fun k q hq => Classical.choose_spec (Classical.choose_spec (h k)) q hq⟩
/-- the claim out of the shadow's run of the law -/
theorem hn_start {p : Program} {e : Env} {s : State} {m : MethodId} {below : List Frame} {meth : Method} {c : Code} (l : Launch) {b L : Nat} {xs : Nat → Int32} (hL : L ≤ 260) (C0 : lw_At p s m meth c b L xs) {d : Nat} {Mend : hn_Mem} (hd : d ≤ 1000) (h1 : Mend.1.length ≤ 600000) (h2 : hn_sz Mend.1 ≤ 7302250) (hrun : hn_ret (fun j => (xs j).toInt) L (d + 1) 168 [hn_vs] hn_M0 (some (.inl 1)) Mend) : W p l e room_1 s m #[Value.ref b] below meth c s.heap [] 0 0 (lw_Z below #[Value.ref b] s) (entryFrame m ([Value.ref b] : List Value).toArray 14) := by
  obtain ⟨hx, hb, hr, hml, hown, hts, hX, hbl, hlocks, hgv⟩ := id C0
  have htsT : ∀ w ∈ hn_T, w.before #[Value.ref b] s = true := fun w hw => hts w (List.mem_filter.mp hw).1
  have hN : hn_N s := ⟨fun a i x h hm => va_Nw.of rfl (hts _ hm), va_AO.of (hts (.arrayOver (.object RX4)) (List.mem_of_getElem? (i := 140) (by decide +kernel)))⟩
  obtain ⟨D, hKc⟩ := hn_known htsT
  obtain ⟨cI, kI, compI, i1, i2, i3⟩ := Cond.arrayClass_spec (htsT _ hn_pac)
  obtain ⟨compS, cS, kS, j1, -, j3, j4, j5⟩ := Cond.arrayOver_spec (va_AO.use (A := #[]) hN.2)
  have hK : va_K D hn_cl (hn_tys cI cS) s := by
    refine ⟨hKc, fun k q hq => ?_⟩
    match k, hq with
    | 0, hq =>
      cases hq
      exact ⟨fun n z => ⟨fun _ h => (by cases h), kI, i2, compI, i3⟩, i1⟩
    | 1, hq =>
      cases hq
      exact ⟨fun n z => ⟨fun _ h => (by cases h), kS, j3, compS, j4⟩, kS, compS, j3, j4, j1, j5⟩
    | k + 2, hq => simp at hq
  have hXX : hn_X p room_1 s m #[Value.ref b] meth c D s.heap.size cI cS b L xs 168 d 0 0 Mend := ⟨⟨hx, hb, hml, hown⟩, htsT, ⟨fun h => absurd h (by decide), hN⟩, hK, ⟨Nat.le_refl _, hX, hbl, by omega⟩, ⟨by show d + 1 ≤ 2048; omega, by show d * 64 + 64 ≤ 84000; omega, by show _ ≤ 600000; omega, by show _ ≤ 7302250; omega⟩⟩
  have hret : hn_Rt p l e room_1 s m #[Value.ref b] below meth c D s.heap.size cI cS b 168 0 0 (lw_Z below #[Value.ref b] s) (some (.inl 1)) Mend := by
    intro pc a H locs hW' hoM' hoS' hS hr2
    refine va_forget hS.2.2 (W.widen (k := 600000) (n := 7302250) (by omega) (by omega) ?_)
    exact lw_ret hx hb hr hlocks hr2.1
  have hG := hrun _ (hn_close (l := l) (e := e) (below := below) (by omega) hXX (hn_mono d) (hn_met l D s.heap.size cI cS b L xs (by omega) hbl d) hret) (fun k m' pc ls st M hp => hn_closeK k m' pc ls st M hp) rfl
  have h3 := (hG rfl).2 (Nat.zero_le _) (Nat.zero_le _) s.heap [] _ ⟨⟨rfl, fun o sh h => by simp [hn_M0] at h⟩, fun _ _ => hn_R0, hn_lvEntry (as := [hn_vs]) (n := 14) s.heap.size b (by decide), fun i x hx => by
    have := hn_args_in [hn_vs] i _ (hn_loc0_get hx)
    simp at this, fun x hx => by simp at hx, va_S.rf⟩
  have e4 := lg_entry_eq m ([hn_vs].map (hn_cv s.heap.size b)) 14
  rw [show ([Value.ref b] : List Value) = [hn_vs].map (hn_cv s.heap.size b) from rfl, e4]
  exact h3
