/-! the class's Search: the hubs and the free nodes of a mask -/
def hn_hl (w : Nat) : Nat → List Nat
  | 0 => []
  | n + 1 => if w.testBit n = true then hn_hl w n ++ [n] else hn_hl w n
def hn_fr (w : Nat) : Nat → List Nat
  | 0 => []
  | n + 1 => if w.testBit n = true then hn_fr w n else hn_fr w n ++ [n]
theorem hn_hl_len (w n : Nat) : (hn_hl w n).length + (hn_fr w n).length = n := by
  induction n with
  | zero => rfl
  | succ n ih =>
    unfold hn_hl hn_fr
    by_cases e : w.testBit n = true
    · rw [if_pos e, if_pos e, List.length_append, List.length_singleton]
      omega
    · rw [if_neg e, if_neg e, List.length_append, List.length_singleton]
      omega
theorem hn_hl_mem {w n v : Nat} : v ∈ hn_hl w n ↔ v < n ∧ w.testBit v = true := by
  induction n with
  | zero => exact ⟨fun h => absurd h (by simp [hn_hl]), fun h => absurd h.1 (by omega)⟩
  | succ n ih =>
    unfold hn_hl
    by_cases e : w.testBit n = true
    · rw [if_pos e, List.mem_append, List.mem_singleton, ih]
      constructor
      · rintro (h | h)
        · exact ⟨by omega, h.2⟩
        · rw [h]
          exact ⟨by omega, e⟩
      · rintro ⟨h1, h2⟩
        by_cases q : v = n
        · exact Or.inr q
        · exact Or.inl ⟨by omega, h2⟩
    · rw [if_neg e, ih]
      constructor
      · rintro ⟨h1, h2⟩
        exact ⟨by omega, h2⟩
      · rintro ⟨h1, h2⟩
        refine ⟨?_, h2⟩
        by_cases q : v = n
        · rw [q] at h2
          exact absurd h2 e
        · omega
theorem hn_fr_mem {w n v : Nat} : v ∈ hn_fr w n ↔ v < n ∧ w.testBit v = false := by
  induction n with
  | zero => exact ⟨fun h => absurd h (by simp [hn_fr]), fun h => absurd h.1 (by omega)⟩
  | succ n ih =>
    unfold hn_fr
    by_cases e : w.testBit n = true
    · rw [if_pos e, ih]
      constructor
      · rintro ⟨h1, h2⟩
        exact ⟨by omega, h2⟩
      · rintro ⟨h1, h2⟩
        refine ⟨?_, h2⟩
        by_cases q : v = n
        · rw [q, e] at h2
          exact absurd h2 (by decide)
        · omega
    · rw [if_neg e, List.mem_append, List.mem_singleton, ih]
      constructor
      · rintro (h | h)
        · exact ⟨by omega, h.2⟩
        · rw [h]
          exact ⟨by omega, by simpa using e⟩
      · rintro ⟨h1, h2⟩
        by_cases q : v = n
        · exact Or.inr q
        · exact Or.inl ⟨by omega, h2⟩
/-- a list in an array -/
def hn_li (J : Nat → Nat → Int) (c : Nat) (L : List Nat) : Prop := ∀ (j v : Nat), L[j]? = some v → J c j = (v : Int)
theorem hn_li.mv {J J' : Nat → Nat → Int} {c : Nat} {L : List Nat} (h : hn_li J c L) (e : ∀ j, J' c j = J c j) : hn_li J' c L := fun j v q => by rw [e j, h j v q]
theorem hn_li_app {J : Nat → Nat → Int} {c : Nat} {L : List Nat} {v : Nat} (h : hn_li J c L) : hn_li (hn_up J c L.length v) c (L ++ [v]) := by
  intro j u q
  by_cases e : j = L.length
  · subst e
    rw [List.getElem?_append_right (Nat.le_refl _)] at q
    simp at q
    rw [hn_up_eq, q]
  · have hj : j < L.length + 1 := by simpa using (List.getElem?_eq_some_iff.mp q).1
    rw [List.getElem?_append_left (by omega)] at q
    rw [hn_up_ne (Or.inr e)]
    exact h j u q
def hn_room (s : hn_S) (w : Nat) : Nat → Int
  | 0 => 1
  | n + 1 => if w.testBit n = true ∧ s (34 + n) < hn_out s n then 0 else hn_room s w n
theorem hn_room_01 (s : hn_S) (w n : Nat) : hn_room s w n = 0 ∨ hn_room s w n = 1 := by
  induction n with
  | zero => exact Or.inr rfl
  | succ n ih =>
    unfold hn_room
    by_cases e : w.testBit n = true ∧ s (34 + n) < hn_out s n
    · rw [if_pos e]
      exact Or.inl rfl
    · rw [if_neg e]
      exact ih
theorem hn_room_1 {s : hn_S} {w n : Nat} : hn_room s w n = 1 ↔ ∀ v, v < n → w.testBit v = true → hn_out s v ≤ s (34 + v) := by
  induction n with
  | zero => exact ⟨fun _ v hv => absurd hv (by omega), fun _ => rfl⟩
  | succ n ih =>
    unfold hn_room
    by_cases e : w.testBit n = true ∧ s (34 + n) < hn_out s n
    · rw [if_pos e]
      exact ⟨fun q => absurd q (by decide), fun q => by have := q n (by omega) e.1; have := e.2; omega⟩
    · rw [if_neg e, ih]
      constructor
      · intro q v hv hv2
        by_cases x : v = n
        · subst x
          exact Int.not_lt.mp fun y => e ⟨hv2, y⟩
        · exact q v (by omega) hv2
      · exact fun q v hv => q v (by omega)
theorem hn_and0 {x : Int} (h : x = 0 ∨ x = 1) : hn_and x 0 = 0 := by
  rcases h with rfl | rfl <;> decide
theorem hn_and1 {x : Int} (h : x = 0 ∨ x = 1) : hn_and x 1 = x := by
  rcases h with rfl | rfl <;> decide
/-- what placeHubs leaves, for the nodes below n -/
def hn_PH (s : hn_S) (w n : Nat) (J : Nat → Nat → Int) : Prop :=
  J 48 14 = (w : Int) ∧ J 48 12 = ((hn_hl w n).length : Int) ∧ J 48 13 = ((hn_fr w n).length : Int) ∧ hn_li J 53 (hn_hl w n) ∧ hn_li J 54 (hn_fr w n) ∧ ∀ v, v < n → w.testBit v = true → J 56 v = (v : Int) ∧ J 57 v = hn_out s v
section HX24
variable {sx : Nat → Int} {sL : Nat} {I : Nat → Nat → Int} {k : Nat → Option Nat} {g : Nat → Nat → Int64} {s : hn_S}
theorem hi_X3_sumRest_17_0 {C : hn_C} {x1 : Int} (h1 : x1 < 0) : hn_go sx sL C (hn_nx 28 17 [some (hn_vr 48), some (hn_vi x1), none, none, none] [] (hn_m I k g)) (.inr (none, (hn_m I k g))) :=
  fun P hc hw ht => hc _ (hc _ (br_t h1 (hc _ ht)))
theorem hm_placeHubs (d : Nat) (hI : hn_Iv s) (h : hn_HS I 1 s) (hS : hn_SS s I) {w : Nat} (hw : w < 256) :
    ∃ I', hn_ret sx sL (d + 2) 27 [hn_vr 48, hn_vi w] (hn_m I k g) (some (hn_vi (hn_room s w (hn_n s)))) (hn_m I' k g) ∧ hn_PH s w (hn_n s) I' ∧ (I' 48 15 = I 48 15 ∧ I' 48 16 = I 48 16) ∧ ∀ c, (c < 48 ∨ (48 < c ∧ c < 53) ∨ c = 55 ∨ 57 < c) → ∀ j, I' c j = I c j := by
  have hn := h.n hI
  have h8 := hn_n8 hI
  obtain ⟨y, h1, h2, h3, h4⟩ := hn_forE (sx := sx) (sL := sL) (C := hn_ret sx sL (d + 1)) (fun i (J : Nat → Nat → Int) => hn_nx 27 19 [some (hn_vr 48), some (hn_vi w), some (hn_vi (hn_room s w i)), some (hn_vi (i : Int))] [] (hn_m J k g)) (fun i J => hn_PH s w i J ∧ (J 48 15 = I 48 15 ∧ J 48 16 = I 48 16) ∧ ∀ c, (c < 48 ∨ (48 < c ∧ c < 53) ∨ c = 55 ∨ 57 < c) → ∀ j, J c j = I c j) (hn_n s) (fun i J hi hJ => by
      obtain ⟨⟨p1, p2, p3, p4, p5, p6⟩, j2, j3⟩ := hJ
      have eJ : J 1 0 = hn_n s := by rw [j3 1 (by omega), hn]
      have e5 : J 5 i = s (34 + i) := by rw [j3 5 (by omega)]; exact h.2.2.2.2.2.2.1 i (by omega)
      have e52 : J 52 i = hn_out s i := by rw [j3 52 (by omega), hS.1 i hi]
      have hl := hn_hl_len w i
      have c1 := hm_contains (sx := sx) (sL := sL) (I := J) (k := k) (g := g) d hw (v := i) (by omega)
      by_cases e : w.testBit i = true
      · rw [if_pos e] at c1
        have el : hn_hl w (i + 1) = hn_hl w i ++ [i] := if_pos e
        have ef : hn_fr w (i + 1) = hn_fr w i := if_pos e
        have key : hn_PH s w (i + 1) (hn_up (hn_up (hn_up (hn_up J 48 12 ((J 48 12) + 1)) 53 (J 48 12).toNat (i : Int)) 56 i (i : Int)) 57 i (J 52 i)) := by
          unfold hn_PH
          rw [el, ef, p2, Int.toNat_natCast]
          refine ⟨by rw [hn_up_ne (Or.inl (by omega)), hn_up_ne (Or.inl (by omega)), hn_up_ne (Or.inl (by omega)), hn_up_ne (Or.inr (by omega)), p1], ?_, by rw [hn_up_ne (Or.inl (by omega)), hn_up_ne (Or.inl (by omega)), hn_up_ne (Or.inl (by omega)), hn_up_ne (Or.inr (by omega)), p3], ?_, ?_, fun v hv hv2 => ?_⟩
          · rw [hn_up_ne (Or.inl (by omega)), hn_up_ne (Or.inl (by omega)), hn_up_ne (Or.inl (by omega)), hn_up_eq, List.length_append, List.length_singleton]
            omega
          · exact (hn_li_app (p4.mv (J' := hn_up J 48 12 (((hn_hl w i).length : Int) + 1)) (fun j => hn_up_ne (Or.inl (by omega))))).mv (fun j => by rw [hn_up_ne (Or.inl (by omega)), hn_up_ne (Or.inl (by omega))])
          · exact p5.mv (fun j => by rw [hn_up_ne (Or.inl (by omega)), hn_up_ne (Or.inl (by omega)), hn_up_ne (Or.inl (by omega)), hn_up_ne (Or.inl (by omega))])
          · by_cases x : v = i
            · subst x
              exact ⟨by rw [hn_up_ne (Or.inl (by omega)), hn_up_eq], by rw [hn_up_eq, e52]⟩
            · have q := p6 v (by omega) hv2
              exact ⟨by rw [hn_up_ne (Or.inl (by omega)), hn_up_ne (Or.inr x), hn_up_ne (Or.inl (by omega)), hn_up_ne (Or.inl (by omega)), q.1], by rw [hn_up_ne (Or.inr x), hn_up_ne (Or.inl (by omega)), hn_up_ne (Or.inl (by omega)), hn_up_ne (Or.inl (by omega)), q.2]⟩
        have k2 : (hn_up (hn_up (hn_up (hn_up J 48 12 ((J 48 12) + 1)) 53 (J 48 12).toNat (i : Int)) 56 i (i : Int)) 57 i (J 52 i)) 48 15 = I 48 15 ∧ (hn_up (hn_up (hn_up (hn_up J 48 12 ((J 48 12) + 1)) 53 (J 48 12).toNat (i : Int)) 56 i (i : Int)) 57 i (J 52 i)) 48 16 = I 48 16 := by
          rw [hn_up_ne (Or.inl (by omega)), hn_up_ne (Or.inl (by omega)), hn_up_ne (Or.inl (by omega)), hn_up_ne (Or.inr (by omega)), hn_up_ne (Or.inl (by omega)), hn_up_ne (Or.inl (by omega)), hn_up_ne (Or.inl (by omega)), hn_up_ne (Or.inr (by omega))]
          exact j2
        have k3 : ∀ c, (c < 48 ∨ (48 < c ∧ c < 53) ∨ c = 55 ∨ 57 < c) → ∀ j, (hn_up (hn_up (hn_up (hn_up J 48 12 ((J 48 12) + 1)) 53 (J 48 12).toNat (i : Int)) 56 i (i : Int)) 57 i (J 52 i)) c j = I c j := fun c hc j => by
          rw [hn_up_ne (Or.inl (by omega)), hn_up_ne (Or.inl (by omega)), hn_up_ne (Or.inl (by omega)), hn_up_ne (Or.inl (by omega)), j3 c hc]
        by_cases e0 : hn_room s w i = 0
        · have r := hb_X3_placeHubs_19_1 (sx := sx) (sL := sL) (x2 := hn_room s w i) (by omega) c1 (by decide) (by omega) (by omega) (by omega) e0
          refine ⟨_, ?_, key, k2, k3⟩
          have er : hn_room s w (i + 1) = 0 := by
            by_cases q : w.testBit i = true ∧ s (34 + i) < hn_out s i
            · exact if_pos q
            · exact (if_neg q).trans e0
          rw [er]
          exact r
        · by_cases e2 : s (34 + i) < hn_out s i
          · have r := hb_X3_placeHubs_19_2 (sx := sx) (sL := sL) (x2 := hn_room s w i) (by omega) c1 (by decide) (by omega) (by omega) (by omega) e0 (by rw [hn_up_eq, e5, e52]; exact e2)
            refine ⟨_, ?_, key, k2, k3⟩
            have er : hn_room s w (i + 1) = 0 := if_pos ⟨e, e2⟩
            rw [er]
            exact r
          · have r := hb_X3_placeHubs_19_3 (sx := sx) (sL := sL) (x2 := hn_room s w i) (by omega) c1 (by decide) (by omega) (by omega) (by omega) e0 (by rw [hn_up_eq, e5, e52]; exact e2)
            refine ⟨_, ?_, key, k2, k3⟩
            have er : hn_room s w (i + 1) = 1 := (if_neg (fun q => e2 q.2)).trans ((hn_room_01 s w i).resolve_left e0)
            rw [er]
            exact r
      · rw [if_neg e] at c1
        have el : hn_hl w (i + 1) = hn_hl w i := if_neg e
        have ef : hn_fr w (i + 1) = hn_fr w i ++ [i] := if_neg e
        have r := hb_X3_placeHubs_19_0 (sx := sx) (sL := sL) (x2 := hn_room s w i) (by omega) c1 (by decide) (by omega) (by omega)
        have er : hn_room s w (i + 1) = hn_room s w i := if_neg (fun q => e q.1)
        refine ⟨_, by rw [er]; exact r, ?_, ⟨by rw [hn_up_ne (Or.inl (by omega)), hn_up_ne (Or.inr (by omega)), j2.1], by rw [hn_up_ne (Or.inl (by omega)), hn_up_ne (Or.inr (by omega)), j2.2]⟩, fun c hc j => by rw [hn_up_ne (Or.inl (by omega)), hn_up_ne (Or.inl (by omega)), j3 c hc]⟩
        unfold hn_PH
        rw [el, ef, p3, Int.toNat_natCast]
        refine ⟨by rw [hn_up_ne (Or.inl (by omega)), hn_up_ne (Or.inr (by omega)), p1], by rw [hn_up_ne (Or.inl (by omega)), hn_up_ne (Or.inr (by omega)), p2], ?_, ?_, ?_, fun v hv hv2 => ?_⟩
        · rw [hn_up_ne (Or.inl (by omega)), hn_up_eq, List.length_append, List.length_singleton]
          omega
        · exact p4.mv (fun j => by rw [hn_up_ne (Or.inl (by omega)), hn_up_ne (Or.inl (by omega))])
        · exact hn_li_app (p5.mv (fun j => hn_up_ne (Or.inl (by omega))))
        · have x : v ≠ i := fun q => e (by rw [← q]; exact hv2)
          have q := p6 v (by omega) hv2
          exact ⟨by rw [hn_up_ne (Or.inl (by omega)), hn_up_ne (Or.inl (by omega)), q.1], by rw [hn_up_ne (Or.inl (by omega)), hn_up_ne (Or.inl (by omega)), q.2]⟩) (hn_up (hn_up (hn_up I 48 14 w) 48 12 0) 48 13 0) ⟨⟨by rw [hn_up_ne (Or.inr (by omega)), hn_up_ne (Or.inr (by omega)), hn_up_eq], by rw [hn_up_ne (Or.inr (by omega)), hn_up_eq]; rfl, by rw [hn_up_eq]; rfl, fun j v q => by simp [hn_hl] at q, fun j v q => by simp [hn_fr] at q, fun v hv => absurd hv (by omega)⟩, ⟨by rw [hn_up_ne (Or.inr (by omega)), hn_up_ne (Or.inr (by omega)), hn_up_ne (Or.inr (by omega))], by rw [hn_up_ne (Or.inr (by omega)), hn_up_ne (Or.inr (by omega)), hn_up_ne (Or.inr (by omega))]⟩, fun c hc j => by rw [hn_up_ne (Or.inl (by omega)), hn_up_ne (Or.inl (by omega)), hn_up_ne (Or.inl (by omega))]⟩
  exact ⟨y, hn_of rfl (hb_X3_placeHubs_0_0.tr (h1.tr (hb_X3_placeHubs_19_4 (by rw [h4 1 (by omega), hn]; omega) (hn_room_01 s w _)))), h2, h3, h4⟩
end HX24
