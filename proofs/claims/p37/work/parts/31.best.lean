/-! a leaf's step; lists without doubles -/
def hn_step (s : hn_S) (w : Nat) (q : Nat → Nat) (b : Int × Int × (Nat → Int)) : Int × Int × (Nat → Int) := if hn_fits s (hn_P q) w then hn_bet (hn_cost s w (hn_P q)) w (hn_P q) b else b
theorem hn_step_hi {s : hn_S} {w : Nat} {q : Nat → Nat} {b : Int × Int × (Nat → Int)} (h : b.1 ≤ hn_cost s w (hn_P q)) : hn_step s w q b = b := by
  unfold hn_step hn_bet
  by_cases e : hn_fits s (hn_P q) w
  · rw [if_pos e, if_neg (by omega)]
  · rw [if_neg e]
theorem hn_fr_nd (w : Nat) : ∀ n, (hn_fr w n).Nodup
  | 0 => List.nodup_nil
  | n + 1 => by
    have ih := hn_fr_nd w n
    unfold hn_fr
    by_cases e : w.testBit n = true
    · rw [if_pos e]
      exact ih
    · rw [if_neg e, List.nodup_append]
      refine ⟨ih, List.nodup_cons.mpr ⟨by simp, List.nodup_nil⟩, fun a ha b hb q => ?_⟩
      rw [List.mem_singleton] at hb
      have := (hn_fr_mem.mp ha).1
      omega
/-- a hub's load: its own flows, and those of the free nodes that it serves -/
theorem hn_ld_split {s : hn_S} {w : Nat} {q : Nat → Nat} (hH : ∀ u, u ∈ hn_hl w (hn_n s) → q u = u) {h : Nat} (hh : h ∈ hn_hl w (hn_n s)) : hn_ld s (hn_P q) h = hn_out s h + hn_sl (hn_fr w (hn_n s)) (fun u => if q u = h then hn_out s u else 0) := by
  have e0 : hn_ld s (hn_P q) h = hn_sm (hn_n s) (fun u => if q u = h then hn_out s u else 0) := by
    refine hn_sm_cg fun u _ => ?_
    by_cases e : q u = h
    · rw [if_pos e, if_pos (by unfold hn_P; omega)]
    · rw [if_neg e, if_neg (by unfold hn_P; omega)]
  have e1 := hn_sl_all w (fun u => if q u = h then hn_out s u else 0) (hn_n s)
  have e2 := hn_sl_all w (fun u => if w.testBit u = true then (if u = h then hn_out s u else 0) else 0) (hn_n s)
  have e3 : hn_sl (hn_fr w (hn_n s)) (fun u => if w.testBit u = true then (if u = h then hn_out s u else 0) else 0) = 0 := by
    refine hn_sm_z' fun j hj => if_neg ?_
    rw [(hn_fr_mem.mp (hn_getD_mem hj)).2]
    decide
  have e4 : hn_sl (hn_hl w (hn_n s)) (fun u => if w.testBit u = true then (if u = h then hn_out s u else 0) else 0) = hn_sl (hn_hl w (hn_n s)) (fun u => if q u = h then hn_out s u else 0) := by
    refine hn_sm_cg fun j hj => ?_
    have m := hn_getD_mem hj
    show (if w.testBit ((hn_hl w (hn_n s)).getD j 0) = true then (if (hn_hl w (hn_n s)).getD j 0 = h then hn_out s ((hn_hl w (hn_n s)).getD j 0) else 0) else 0) = if q ((hn_hl w (hn_n s)).getD j 0) = h then hn_out s ((hn_hl w (hn_n s)).getD j 0) else 0
    rw [if_pos (hn_hl_mem.mp m).2, hH _ m]
  have e5 : hn_sm (hn_n s) (fun u => if w.testBit u = true then (if u = h then hn_out s u else 0) else 0) = hn_out s h := by
    rw [hn_sm_one (k := h) (hn_hl_mem.mp hh).1 (fun i _ hi => by rw [if_neg hi]; exact ite_self _), if_pos (hn_hl_mem.mp hh).2, if_pos rfl]
  rw [e0]
  omega
theorem hn_sm_mono {f : Nat → Int} {i : Nat} : ∀ {n : Nat}, i ≤ n → (∀ j, j < n → 0 ≤ f j) → hn_sm i f ≤ hn_sm n f
  | 0, h, _ => by
    rw [show i = 0 by omega]
    exact Int.le_refl _
  | n + 1, h, hf => by
    by_cases e : i = n + 1
    · rw [e]
      exact Int.le_refl _
    · have q := hn_sm_mono (f := f) (i := i) (n := n) (by omega) (fun j hj => hf j (by omega))
      have q2 := hf n (by omega)
      rw [hn_sm_up]
      omega
/-- no plan fits in which a hub is too full already -/
theorem hn_full {s : hn_S} (hI : hn_Iv s) {w : Nat} {q : Nat → Nat} (hH : ∀ u, u ∈ hn_hl w (hn_n s) → q u = u) {h i : Nat} (hh : h ∈ hn_hl w (hn_n s)) (hi : i ≤ (hn_fr w (hn_n s)).length) (hc : s (34 + h) < hn_out s h + hn_sm i (fun j => if q ((hn_fr w (hn_n s)).getD j 0) = h then hn_out s ((hn_fr w (hn_n s)).getD j 0) else 0)) : ¬ hn_fits s (hn_P q) w := by
  intro hf
  have h8 := hn_n8 hI
  have hm := hn_hl_mem.mp hh
  have h1 := hf h hm.1 hm.2
  rw [hn_ld_split hH hh] at h1
  have h2 := hn_sm_mono (f := fun j => if q ((hn_fr w (hn_n s)).getD j 0) = h then hn_out s ((hn_fr w (hn_n s)).getD j 0) else 0) hi (fun j hj => by
    have m := hn_fr_mem.mp (hn_getD_mem hj)
    have b := hn_out_b hI (v := (hn_fr w (hn_n s)).getD j 0) (by omega)
    show 0 ≤ if q ((hn_fr w (hn_n s)).getD j 0) = h then hn_out s ((hn_fr w (hn_n s)).getD j 0) else 0
    by_cases e : q ((hn_fr w (hn_n s)).getD j 0) = h
    · rw [if_pos e]
      exact b.1
    · rw [if_neg e]
      exact Int.le_refl 0)
  have h3 : hn_sl (hn_fr w (hn_n s)) (fun u => if q u = h then hn_out s u else 0) = hn_sm (hn_fr w (hn_n s)).length (fun j => if q ((hn_fr w (hn_n s)).getD j 0) = h then hn_out s ((hn_fr w (hn_n s)).getD j 0) else 0) := rfl
  rw [h3] at h1
  omega
/-- a longer sum, and no plan below it is cheaper -/
theorem hn_cost_ge {s : hn_S} (hI : hn_Iv s) {w : Nat} {q : Nat → Nat} (hH : ∀ u, u ∈ hn_hl w (hn_n s) → q u = u) (hp : ∀ u, u < hn_n s → q u < hn_n s ∧ w.testBit (q u) = true) {i : Nat} (hi : i ≤ (hn_fr w (hn_n s)).length)
    (hq : ∀ j, j < (hn_fr w (hn_n s)).length → hn_hb s (hn_hl w (hn_n s)) ((hn_fr w (hn_n s)).getD j 0) ≤ hn_ow s ((hn_fr w (hn_n s)).getD j 0) (q ((hn_fr w (hn_n s)).getD j 0))) :
    hn_sf s w (hn_hl w (hn_n s)) (hn_fr w (hn_n s)) q i + hn_rst s (hn_hl w (hn_n s)) (hn_fr w (hn_n s)) ((hn_fr w (hn_n s)).length - i) ≤ hn_cost s w (hn_P q) := by
  have h8 := hn_n8 hI
  have bg := hn_cg_b hI (L := hn_ld s (hn_P q)) (m := w) (fun a _ _ => hn_ld_b hI)
  have bt := (hn_tkc_b hI (p := hn_P q) (m := w)).2
  have hl := hn_leaf hH hp
  have hF : ∀ j, j < (hn_fr w (hn_n s)).length → (hn_fr w (hn_n s)).getD j 0 < hn_n s := fun j hj => (hn_fr_mem.mp (hn_getD_mem hj)).1
  have hHn : ∀ j, j < (hn_hl w (hn_n s)).length → (hn_hl w (hn_n s)).getD j 0 < hn_n s := fun j hj => (hn_hl_mem.mp (hn_getD_mem hj)).1
  have jn : ∀ j, j < (hn_fr w (hn_n s)).length → hn_hb s (hn_hl w (hn_n s)) ((hn_fr w (hn_n s)).getD j 0) ≤ hn_jn s (hn_hl w (hn_n s)) (hn_fr w (hn_n s)) q ((hn_fr w (hn_n s)).getD j 0) (q ((hn_fr w (hn_n s)).getD j 0)) j := fun j hj => by
    have a := hq j hj
    have v8 := hF j hj
    have q8 := (hp _ v8).1
    have n1 : 0 ≤ hn_sm (hn_hl w (hn_n s)).length (fun i => hn_pq s ((hn_fr w (hn_n s)).getD j 0) ((hn_hl w (hn_n s)).getD i 0) (q ((hn_fr w (hn_n s)).getD j 0)) ((hn_hl w (hn_n s)).getD i 0)) := hn_sm_nn fun i hi => by
      have := hHn i hi
      exact (hn_pq_b hI (by omega) (by omega) (by omega) (by omega)).1
    have n2 : 0 ≤ hn_sm j (fun i => hn_pq s ((hn_fr w (hn_n s)).getD j 0) ((hn_fr w (hn_n s)).getD i 0) (q ((hn_fr w (hn_n s)).getD j 0)) (q ((hn_fr w (hn_n s)).getD i 0))) := hn_sm_nn fun i hi => by
      have x := hF i (by omega)
      have y := (hp _ x).1
      exact (hn_pq_b hI (by omega) (by omega) (by omega) (by omega)).1
    unfold hn_jn
    omega
  have key : ∀ c, c ≤ (hn_fr w (hn_n s)).length → hn_sm ((hn_fr w (hn_n s)).length - c) (fun j => hn_jn s (hn_hl w (hn_n s)) (hn_fr w (hn_n s)) q ((hn_fr w (hn_n s)).getD j 0) (q ((hn_fr w (hn_n s)).getD j 0)) j) + hn_rst s (hn_hl w (hn_n s)) (hn_fr w (hn_n s)) c ≤ hn_sm (hn_fr w (hn_n s)).length (fun j => hn_jn s (hn_hl w (hn_n s)) (hn_fr w (hn_n s)) q ((hn_fr w (hn_n s)).getD j 0) (q ((hn_fr w (hn_n s)).getD j 0)) j) := by
    intro c
    induction c with
    | zero =>
      intro _
      rw [Nat.sub_zero]
      show _ + (0 : Int) ≤ _
      omega
    | succ c ih =>
      intro hc
      have a := ih (by omega)
      have b := jn ((hn_fr w (hn_n s)).length - 1 - c) (by omega)
      rw [show (hn_fr w (hn_n s)).length - c = ((hn_fr w (hn_n s)).length - 1 - c) + 1 by omega, hn_sm_up] at a
      rw [show (hn_fr w (hn_n s)).length - (c + 1) = (hn_fr w (hn_n s)).length - 1 - c by omega]
      show _ + (hn_rst s (hn_hl w (hn_n s)) (hn_fr w (hn_n s)) c + hn_hb s (hn_hl w (hn_n s)) ((hn_fr w (hn_n s)).getD ((hn_fr w (hn_n s)).length - 1 - c) 0)) ≤ _
      omega
  have k := key ((hn_fr w (hn_n s)).length - i) (by omega)
  rw [show (hn_fr w (hn_n s)).length - ((hn_fr w (hn_n s)).length - i) = i by omega] at k
  unfold hn_sf at hl ⊢
  omega
