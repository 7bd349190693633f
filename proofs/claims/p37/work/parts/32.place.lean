/-! the class's Search: place; the hubs H, the free nodes F -/
theorem hn_nd_inj {L : List Nat} (h : L.Nodup) {i j : Nat} (hi : i < L.length) (hj : j < L.length) (e : L.getD i 0 = L.getD j 0) : i = j := by
  induction L generalizing i j with
  | nil => exact absurd hi (by simp)
  | cons a L ih =>
    have h1 := List.nodup_cons.mp h
    rw [List.length_cons] at hi hj
    match i, j with
    | 0, 0 => rfl
    | 0, j + 1 =>
      have e' : a = L.getD j 0 := e
      exact absurd (e' ▸ hn_getD_mem (L := L) (j := j) (by omega)) h1.1
    | i + 1, 0 =>
      have e' : L.getD i 0 = a := e
      exact absurd (e' ▸ hn_getD_mem (L := L) (j := i) (by omega)) h1.1
    | i + 1, j + 1 =>
      have e' : L.getD i 0 = L.getD j 0 := e
      have := ih h1.2 (i := i) (j := j) (by omega) (by omega) e'
      omega
theorem hn_mem_getD {L : List Nat} {u : Nat} (h : u ∈ L) : ∃ j, j < L.length ∧ L.getD j 0 = u := by
  obtain ⟨j, hj, e⟩ := List.mem_iff_getElem.mp h
  refine ⟨j, hj, ?_⟩
  rw [List.getD_eq_getElem?_getD, List.getElem?_eq_getElem hj]
  exact e
theorem hn_drop_cons {L : List Nat} {i : Nat} (h : i < L.length) : L.drop i = L.getD i 0 :: L.drop (i + 1) := by
  rw [List.drop_eq_getElem_cons h, List.getD_eq_getElem?_getD, List.getElem?_eq_getElem h]
  rfl
theorem hn_mem_drop {L : List Nat} {i u : Nat} : u ∈ L.drop i ↔ ∃ j, i ≤ j ∧ j < L.length ∧ L.getD j 0 = u := by
  constructor
  · intro h
    obtain ⟨j, hj, e⟩ := hn_mem_getD h
    rw [List.length_drop] at hj
    refine ⟨i + j, by omega, by omega, ?_⟩
    rw [List.getD_eq_getElem?_getD, List.getElem?_drop] at e
    rw [List.getD_eq_getElem?_getD]
    exact e
  · rintro ⟨j, h1, h2, h3⟩
    refine List.mem_iff_getElem?.mpr ⟨j - i, ?_⟩
    rw [List.getElem?_drop, show i + (j - i) = j by omega, List.getElem?_eq_getElem h2]
    rw [List.getD_eq_getElem?_getD, List.getElem?_eq_getElem h2] at h3
    exact congrArg some h3
theorem hn_drop_nd {L : List Nat} (h : L.Nodup) {i j : Nat} (hj : j < i) (hi : j < L.length) : L.getD j 0 ∉ L.drop i := by
  intro q
  obtain ⟨k, k1, k2, k3⟩ := hn_mem_drop.mp q
  have := hn_nd_inj h k2 hi k3
  omega
theorem hn_nd_drop {L : List Nat} (h : L.Nodup) (i : Nat) : (L.drop i).Nodup := h.sublist (List.drop_sublist i L)
def hn_lf (s : hn_S) (F : List Nat) (p : Nat → Nat) (i h : Nat) : Int := hn_out s h + hn_sm i (fun j => if p (F.getD j 0) = h then hn_out s (F.getD j 0) else 0)
theorem hn_jn_cg {s : hn_S} {H F : List Nat} {p q : Nat → Nat} {v h i : Nat} (e : ∀ j, j < i → p (F.getD j 0) = q (F.getD j 0)) : hn_jn s H F p v h i = hn_jn s H F q v h i := by
  unfold hn_jn
  rw [hn_sm_cg (f := fun j => hn_pq s v (F.getD j 0) h (p (F.getD j 0))) (h := fun j => hn_pq s v (F.getD j 0) h (q (F.getD j 0))) (fun j hj => by rw [e j hj])]
theorem hn_sf_cg {s : hn_S} {w : Nat} {H F : List Nat} {p q : Nat → Nat} {i : Nat} (e : ∀ j, j < i → p (F.getD j 0) = q (F.getD j 0)) : hn_sf s w H F p i = hn_sf s w H F q i := by
  unfold hn_sf
  rw [hn_sm_cg (f := fun j => hn_jn s H F p (F.getD j 0) (p (F.getD j 0)) j) (h := fun j => hn_jn s H F q (F.getD j 0) (q (F.getD j 0)) j) (fun j hj => by rw [e j hj]; exact hn_jn_cg (fun k hk => e k (by omega)))]
theorem hn_lf_cg {s : hn_S} {F : List Nat} {p q : Nat → Nat} {i h : Nat} (e : ∀ j, j < i → p (F.getD j 0) = q (F.getD j 0)) : hn_lf s F p i h = hn_lf s F q i h := by
  unfold hn_lf
  rw [hn_sm_cg (f := fun j => if p (F.getD j 0) = h then hn_out s (F.getD j 0) else 0) (h := fun j => if q (F.getD j 0) = h then hn_out s (F.getD j 0) else 0) (fun j hj => by rw [e j hj])]
theorem hn_put_lt {F : List Nat} (hd : F.Nodup) {p : Nat → Nat} {i h : Nat} (hi : i < F.length) : ∀ j, j < i → p (F.getD j 0) = hn_put p (F.getD i 0) h (F.getD j 0) := fun j hj => by
  unfold hn_put
  rw [if_neg (fun q => by have := hn_nd_inj hd (by omega) hi q; omega)]
theorem hn_put_eq {p : Nat → Nat} {v h : Nat} : hn_put p v h v = h := if_pos rfl
theorem hn_sf_put {s : hn_S} {w : Nat} {H F : List Nat} (hd : F.Nodup) {p : Nat → Nat} {i h : Nat} (hi : i < F.length) : hn_sf s w H F (hn_put p (F.getD i 0) h) (i + 1) = hn_sf s w H F p i + hn_jn s H F p (F.getD i 0) h i := by
  have e1 := hn_sf_cg (s := s) (w := w) (H := H) (hn_put_lt hd (p := p) (h := h) hi)
  have e2 := hn_jn_cg (s := s) (H := H) (v := F.getD i 0) (h := h) (hn_put_lt hd (p := p) (h := h) hi)
  rw [e1, e2]
  unfold hn_sf
  rw [hn_sm_up, hn_put_eq]
  omega
theorem hn_lf_put {s : hn_S} {F : List Nat} (hd : F.Nodup) {p : Nat → Nat} {i h x : Nat} (hi : i < F.length) : hn_lf s F (hn_put p (F.getD i 0) x) (i + 1) h = hn_lf s F p i h + if x = h then hn_out s (F.getD i 0) else 0 := by
  rw [hn_lf_cg (hn_put_lt hd (p := p) (h := x) hi)]
  unfold hn_lf
  rw [hn_sm_up, hn_put_eq]
  omega
/-- a plan's beginning -/
def hn_Pl (H F : List Nat) (p : Nat → Nat) (i : Nat) : Prop := (∀ u, u ∈ H → p u = u) ∧ ∀ j, j < i → p (F.getD j 0) ∈ H
theorem hn_Pl.put {H F : List Nat} (hd : F.Nodup) (hx : ∀ u, u ∈ H → u ∉ F) {p : Nat → Nat} {i h : Nat} (hV : hn_Pl H F p i) (hi : i < F.length) (hh : h ∈ H) : hn_Pl H F (hn_put p (F.getD i 0) h) (i + 1) := by
  refine ⟨fun u hu => ?_, fun j hj => ?_⟩
  · unfold hn_put
    rw [if_neg (fun q : u = F.getD i 0 => hx u hu (by rw [q]; exact hn_getD_mem hi))]
    exact hV.1 u hu
  · by_cases e : j = i
    · rw [e, hn_put_eq]
      exact hh
    · rw [← hn_put_lt hd hi j (by omega)]
      exact hV.2 j (by omega)
theorem hn_Pl.leaf {H F : List Nat} (hd : F.Nodup) (hx : ∀ u, u ∈ H → u ∉ F) {p q : Nat → Nat} {i : Nat} (hV : hn_Pl H F p i) (hi : i ≤ F.length) (hq : hn_ext H (F.drop i) p q) : hn_Pl H F q F.length ∧ ∀ j, j < i → p (F.getD j 0) = q (F.getD j 0) := by
  have key : ∀ j, j < i → p (F.getD j 0) = q (F.getD j 0) := fun j hj => (hq.1 _ (hn_drop_nd hd hj (by omega))).symm
  refine ⟨⟨fun u hu => ?_, fun j hj => ?_⟩, key⟩
  · rw [hq.1 u (fun m => hx u hu (List.mem_of_mem_drop m))]
    exact hV.1 u hu
  · by_cases e : j < i
    · rw [← key j e]
      exact hV.2 j e
    · exact hq.2 _ (hn_mem_drop.mpr ⟨j, by omega, hj, rfl⟩)
theorem hn_Pl.hp {w n : Nat} {p : Nat → Nat} (hV : hn_Pl (hn_hl w n) (hn_fr w n) p (hn_fr w n).length) : ∀ u, u < n → p u < n ∧ w.testBit (p u) = true := by
  intro u hu
  by_cases e : w.testBit u = true
  · rw [hV.1 u (hn_hl_mem.mpr ⟨hu, e⟩)]
    exact ⟨hu, e⟩
  · obtain ⟨j, hj, q⟩ := hn_mem_getD (hn_fr_mem.mpr ⟨hu, by simpa using e⟩)
    have := hV.2 j hj
    rw [q] at this
    exact hn_hl_mem.mp this
theorem hn_HF {w n : Nat} : ∀ u, u ∈ hn_hl w n → u ∉ hn_fr w n := fun u h1 h2 => by
  have a := (hn_hl_mem.mp h1).2
  have b := (hn_fr_mem.mp h2).2
  rw [a] at b
  exact absurd b (by decide)
/-- too dear: nothing below -/
theorem hn_prune {s : hn_S} (hI : hn_Iv s) {w : Nat} {p : Nat → Nat} {i : Nat} (hV : hn_Pl (hn_hl w (hn_n s)) (hn_fr w (hn_n s)) p i) (hi : i ≤ (hn_fr w (hn_n s)).length) {b : Int × Int × (Nat → Int)}
    (h : b.1 ≤ hn_sf s w (hn_hl w (hn_n s)) (hn_fr w (hn_n s)) p i + hn_rst s (hn_hl w (hn_n s)) (hn_fr w (hn_n s)) ((hn_fr w (hn_n s)).length - i)) : hn_dfs (hn_hl w (hn_n s)) (hn_step s w) ((hn_fr w (hn_n s)).drop i) p b = b := by
  refine hn_dfs_id (hn_nd_drop (hn_fr_nd w _) i) fun q hq => hn_step_hi ?_
  obtain ⟨v1, v2⟩ := hV.leaf (hn_fr_nd w _) hn_HF hi hq
  have c := hn_cost_ge hI v1.1 v1.hp hi (fun j hj => by
    obtain ⟨k, hk, e⟩ := hn_mem_getD (v1.2 j hj)
    rw [← e]
    exact hn_hb_le hk)
  rw [← hn_sf_cg v2] at c
  omega
theorem hn_noroom {s : hn_S} (hI : hn_Iv s) {w : Nat} {p : Nat → Nat} {i h : Nat} (hV : hn_Pl (hn_hl w (hn_n s)) (hn_fr w (hn_n s)) p i) (hi : i < (hn_fr w (hn_n s)).length) (hh : h ∈ hn_hl w (hn_n s))
    (hc : s (34 + h) < hn_lf s (hn_fr w (hn_n s)) p i h + hn_out s ((hn_fr w (hn_n s)).getD i 0)) {q : Nat → Nat} (hq : hn_ext (hn_hl w (hn_n s)) ((hn_fr w (hn_n s)).drop (i + 1)) (hn_put p ((hn_fr w (hn_n s)).getD i 0) h) q) : ¬ hn_fits s (hn_P q) w := by
  have hd := hn_fr_nd w (hn_n s)
  obtain ⟨v1, v2⟩ := (hV.put hd hn_HF hi hh).leaf hd hn_HF (by omega) hq
  refine hn_full hI v1.1 hh (i := i + 1) (by omega) ?_
  have e1 := hn_lf_put (s := s) hd (p := p) (h := h) (x := h) hi
  rw [hn_lf_cg v2, if_pos rfl] at e1
  unfold hn_lf at e1 hc
  omega
theorem hn_jn_b {s : hn_S} (hI : hn_Iv s) {H F : List Nat} {p : Nat → Nat} {v h i : Nat} (hv : v < 8) (hh : h < 8) (bH : ∀ u, u ∈ H → u < 8) (bF : ∀ u, u ∈ F → u < 8) (hi : i ≤ F.length) (hl : H.length + F.length ≤ 8) (hp : ∀ j, j < i → p (F.getD j 0) < 8) : 0 ≤ hn_jn s H F p v h i ∧ hn_jn s H F p v h i ≤ 126720000 := by
  have b1 := hn_ow_b hI hv hh
  have b2 : 0 ≤ hn_sm H.length (fun j => hn_pq s v (H.getD j 0) h (H.getD j 0)) ∧ hn_sm H.length (fun j => hn_pq s v (H.getD j 0) h (H.getD j 0)) ≤ 3960000 * H.length := hn_sm_b 3960000 (fun q hq => by
    have a := bH _ (hn_getD_mem hq)
    exact hn_pq_b hI hv a hh a)
  have b3 : 0 ≤ hn_sm i (fun j => hn_pq s v (F.getD j 0) h (p (F.getD j 0))) ∧ hn_sm i (fun j => hn_pq s v (F.getD j 0) h (p (F.getD j 0))) ≤ 3960000 * i := hn_sm_b 3960000 (fun q hq => by
    have a := bF _ (hn_getD_mem (L := F) (j := q) (by omega))
    exact hn_pq_b hI hv a hh (hp q hq))
  unfold hn_jn
  omega
theorem hn_ht_b {s : hn_S} (hI : hn_Iv s) {H : List Nat} (bH : ∀ u, u ∈ H → u < 8) (hl : H.length ≤ 8) : 0 ≤ hn_ht s H ∧ hn_ht s H ≤ 31680000 * H.length := by
  have : 0 ≤ hn_sm H.length (fun i => hn_sm i (hn_htf s H i)) ∧ hn_sm H.length (fun i => hn_sm i (hn_htf s H i)) ≤ 31680000 * H.length := hn_sm_b 31680000 (fun v hv => by
    have : 0 ≤ hn_sm v (hn_htf s H v) ∧ hn_sm v (hn_htf s H v) ≤ 3960000 * v := hn_sm_b 3960000 (fun j hj => by
      have q1 := bH _ (hn_getD_mem hv)
      have q2 := bH _ (hn_getD_mem (L := H) (j := j) (by omega))
      exact hn_pq_b hI q1 q2 q1 q2)
    omega)
  exact this
theorem hn_sf_b {s : hn_S} (hI : hn_Iv s) {w : Nat} {H F : List Nat} {p : Nat → Nat} {i : Nat} (bH : ∀ u, u ∈ H → u < 8) (bF : ∀ u, u ∈ F → u < 8) (hi : i ≤ F.length) (hl : H.length + F.length ≤ 8) (hp : ∀ j, j < i → p (F.getD j 0) < 8) : 0 ≤ hn_sf s w H F p i ∧ hn_sf s w H F p i ≤ 800000 + 31680000 * H.length + 126720000 * i := by
  have b1 := hn_op_b hI (m := w)
  have b2 := hn_ht_b hI bH (by omega)
  have b3 : 0 ≤ hn_sm i (fun j => hn_jn s H F p (F.getD j 0) (p (F.getD j 0)) j) ∧ hn_sm i (fun j => hn_jn s H F p (F.getD j 0) (p (F.getD j 0)) j) ≤ 126720000 * i := hn_sm_b 126720000 (fun j hj => hn_jn_b hI (bF _ (hn_getD_mem (by omega))) (hp j hj) bH bF (by omega) hl (fun k hk => hp k (by omega)))
  unfold hn_sf
  omega
theorem hn_lf_b {s : hn_S} (hI : hn_Iv s) {F : List Nat} (bF : ∀ u, u ∈ F → u < 8) {p : Nat → Nat} {i h : Nat} (hh : h < 8) (hi : i ≤ F.length) : 0 ≤ hn_lf s F p i h := by
  have b1 := hn_out_b hI hh
  have b2 : 0 ≤ hn_sm i (fun j => if p (F.getD j 0) = h then hn_out s (F.getD j 0) else 0) := hn_sm_nn fun j hj => by
    have b := hn_out_b hI (bF _ (hn_getD_mem (L := F) (j := j) (by omega)))
    show 0 ≤ if p (F.getD j 0) = h then hn_out s (F.getD j 0) else 0
    by_cases e : p (F.getD j 0) = h
    · rw [if_pos e]
      exact b.1
    · rw [if_neg e]
      exact Int.le_refl 0
  unfold hn_lf
  omega
