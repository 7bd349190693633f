/-! block rows, by program -/ -- X5
section HB
variable {sx : Nat → Int} {sL : Nat} {C : hn_C} {I : Nat → Nat → Int} {k : Nat → Option Nat} {g : Nat → Nat → Int64}
set_option maxRecDepth 20000 in
theorem hb_X5_number_0_0 {n1 : Nat} {n2 : Nat} (h1 : hn_R ((n1 : Int) * 4) := by omega) (h2 : hn_R (((n1 : Int) * 4) + (n2 : Int)) := by omega) (h3 : 0 ≤ ((n1 : Int) * 4) + (n2 : Int) ∧ ((n1 : Int) * 4) + (n2 : Int) < 164 := by omega) : hn_go sx sL C (hn_nx 51 0 [some (hn_vr 60), some (hn_vi (n1 : Int)), some (hn_vi (n2 : Int))] [] (hn_m I k g))
    (.inr (some (hn_vi (I 63 ((n1 * 4) + n2))), (hn_m I k g))) :=
  fun P hc hw ht => hc _ (hc _ (hc _ (hc _ (hc _ (And.intro h1 (hc _ (hc _ (And.intro h2 (hc _ (And.intro h3 (hc _ ht)))))))))))
set_option maxRecDepth 20000 in
theorem hb_X5_parse_0_0   : hn_go sx sL C (hn_nx 52 0 [some (hn_vr 60), none, none, none, none, none] [] (hn_m I k g))
    (hn_nx 52 7 [some (hn_vr 60), some (hn_vi 0), none, none, none, none] [] (hn_m ((hn_up I 60 4 0)) k g)) :=
  fun P hc hw ht => hc _ (hc _ (hc _ (hc (hn_nx 52 5 [some (hn_vr 60), none, none, none, none, none] [] (hn_m ((hn_up I 60 4 0)) k g)) (hc _ (ht)))))
set_option maxRecDepth 20000 in
theorem hb_X5_parse_7_0 {x1 : Int} {r1 : Int} {I1 : Nat → Nat → Int} {r2 : Int} {I2 : Nat → Nat → Int} (h1 : I 60 4 < 41) (c2 : C 54 [(hn_vr 60), (hn_vi x1)] (hn_m I k g) (some (hn_vi r1)) (hn_m I1 k g)) (h3 : r1 < I1 60 1) (h4 : 0 ≤ r1 ∧ r1 < 120 := by omega) (c5 : C 53 [(hn_vi (I1 61 (r1).toNat))] (hn_m I1 k g) (some (hn_vi r2)) (hn_m I2 k g)) (h6 : r2 = 0) : hn_go sx sL C (hn_nx 52 7 [some (hn_vr 60), some (hn_vi x1), none, none, none, none] [] (hn_m I k g))
    (.inr (some (hn_vi r1), (hn_m I2 k g))) :=
  fun P hc hw ht => hc _ (hc _ (hc _ (hc _ (br_t h1 (hc _ (hc _ (hc _ (Exists.intro (some (hn_vi r1)) (Exists.intro (hn_m I1 k g) (And.intro c2 (hc (hn_nx 52 21 [some (hn_vr 60), some (hn_vi x1), none, none, none, none] [(hn_vi r1)] (hn_m I1 k g)) (hc (hn_nx 52 22 [some (hn_vr 60), some (hn_vi x1), some (hn_vi r1), none, none, none] [] (hn_m I1 k g)) (hc _ (hc _ (hc _ (br_t h3 (hc _ (hc _ (hc _ (hc _ (And.intro h4 (hc _ (Exists.intro (some (hn_vi r2)) (Exists.intro (hn_m I2 k g) (And.intro c5 (hc (hn_nx 52 44 [some (hn_vr 60), some (hn_vi x1), some (hn_vi r1), none, none, none] [(hn_vi r2)] (hn_m I2 k g)) (hc (hn_nx 52 45 [some (hn_vr 60), some (hn_vi x1), some (hn_vi r1), some (hn_vi r2), none, none] [] (hn_m I2 k g)) (hc _ (br_t h6 (hc _ (hc _ ht)))))))))))))))))))))))))))))))
set_option maxRecDepth 20000 in
theorem hb_X5_parse_7_1 {x1 : Int} {r1 : Int} {I1 : Nat → Nat → Int} {r2 : Int} {I2 : Nat → Nat → Int} (h1 : I 60 4 < 41) (c2 : C 54 [(hn_vr 60), (hn_vi x1)] (hn_m I k g) (some (hn_vi r1)) (hn_m I1 k g)) (h3 : r1 < I1 60 1) (h4 : 0 ≤ r1 ∧ r1 < 120 := by omega) (c5 : C 53 [(hn_vi (I1 61 (r1).toNat))] (hn_m I1 k g) (some (hn_vi r2)) (hn_m I2 k g)) (h6 : ¬ r2 = 0) (h7 : 0 ≤ I2 60 4 ∧ I2 60 4 < 41 := by omega) (h8 : hn_R (r1 + 1) := by omega) : hn_go sx sL C (hn_nx 52 7 [some (hn_vr 60), some (hn_vi x1), none, none, none, none] [] (hn_m I k g))
    (hn_nx 52 73 [some (hn_vr 60), some (hn_vi (r1 + 1)), none, some (hn_vi r2), some (hn_vi 0), none] [] (hn_m ((hn_up I2 62 (I2 60 4).toNat (I2 61 (r1).toNat))) k g)) :=
  fun P hc hw ht => hc _ (hc _ (hc _ (hc _ (br_t h1 (hc _ (hc _ (hc _ (Exists.intro (some (hn_vi r1)) (Exists.intro (hn_m I1 k g) (And.intro c2 (hc (hn_nx 52 21 [some (hn_vr 60), some (hn_vi x1), none, none, none, none] [(hn_vi r1)] (hn_m I1 k g)) (hc (hn_nx 52 22 [some (hn_vr 60), some (hn_vi x1), some (hn_vi r1), none, none, none] [] (hn_m I1 k g)) (hc _ (hc _ (hc _ (br_t h3 (hc _ (hc _ (hc _ (hc _ (And.intro h4 (hc _ (Exists.intro (some (hn_vi r2)) (Exists.intro (hn_m I2 k g) (And.intro c5 (hc (hn_nx 52 44 [some (hn_vr 60), some (hn_vi x1), some (hn_vi r1), none, none, none] [(hn_vi r2)] (hn_m I2 k g)) (hc (hn_nx 52 45 [some (hn_vr 60), some (hn_vi x1), some (hn_vi r1), some (hn_vi r2), none, none] [] (hn_m I2 k g)) (hc _ (br_f h6 (hc _ (hc _ (hc _ (hc _ (hc _ (hc _ (hc _ (hc _ (And.intro h4 (hc _ (And.intro h7 (hc (hn_nx 52 66 [some (hn_vr 60), some (hn_vi x1), some (hn_vi r1), some (hn_vi r2), none, none] [] (hn_m ((hn_up I2 62 (I2 60 4).toNat (I2 61 (r1).toNat))) k g)) (hc _ (hc _ (And.intro h8 (hc _ (hc (hn_nx 52 70 [some (hn_vr 60), some (hn_vi (r1 + 1)), some (hn_vi r1), some (hn_vi r2), none, none] [] (hn_m ((hn_up I2 62 (I2 60 4).toNat (I2 61 (r1).toNat))) k g)) (hc _ (hw [true, true, false, true, true, false] _ _ _ _ _ ht))))))))))))))))))))))))))))))))))))))))))))))))
set_option maxRecDepth 20000 in
theorem hb_X5_parse_7_2 {x1 : Int} {r1 : Int} {I1 : Nat → Nat → Int} (h1 : I 60 4 < 41) (c2 : C 54 [(hn_vr 60), (hn_vi x1)] (hn_m I k g) (some (hn_vi r1)) (hn_m I1 k g)) (h3 : ¬ r1 < I1 60 1) : hn_go sx sL C (hn_nx 52 7 [some (hn_vr 60), some (hn_vi x1), none, none, none, none] [] (hn_m I k g))
    (.inr (some (hn_vi (I1 60 1)), (hn_m I1 k g))) :=
  fun P hc hw ht => hc _ (hc _ (hc _ (hc _ (br_t h1 (hc _ (hc _ (hc _ (Exists.intro (some (hn_vi r1)) (Exists.intro (hn_m I1 k g) (And.intro c2 (hc (hn_nx 52 21 [some (hn_vr 60), some (hn_vi x1), none, none, none, none] [(hn_vi r1)] (hn_m I1 k g)) (hc (hn_nx 52 22 [some (hn_vr 60), some (hn_vi x1), some (hn_vi r1), none, none, none] [] (hn_m I1 k g)) (hc _ (hc _ (hc _ (br_f h3 (hc _ (hc _ (hc _ ht)))))))))))))))))))
set_option maxRecDepth 20000 in
theorem hb_X5_parse_7_3 {x1 : Int} (h1 : ¬ I 60 4 < 41) : hn_go sx sL C (hn_nx 52 7 [some (hn_vr 60), some (hn_vi x1), none, none, none, none] [] (hn_m I k g))
    (.inr (some (hn_vi x1), (hn_m I k g))) :=
  fun P hc hw ht => hc _ (hc _ (hc _ (hc _ (br_f h1 (hc _ (hc _ ht))))))
set_option maxRecDepth 20000 in
theorem hb_X5_parse_73_0 {x1 : Int} {x3 : Int} {x4 : Int} {r1 : Int} {I1 : Nat → Nat → Int} {r2 : Int} {I2 : Nat → Nat → Int} (h1 : x4 < x3) (c2 : C 54 [(hn_vr 60), (hn_vi x1)] (hn_m I k g) (some (hn_vi r1)) (hn_m I1 k g)) (c3 : C 55 [(hn_vr 60), (hn_vi r1)] (hn_m I1 k g) (some (hn_vi r2)) (hn_m I2 k g)) (h4 : r2 = r1) : hn_go sx sL C (hn_nx 52 73 [some (hn_vr 60), some (hn_vi x1), none, some (hn_vi x3), some (hn_vi x4), none] [] (hn_m I k g))
    (.inr (some (hn_vi r1), (hn_m I2 k g))) :=
  fun P hc hw ht => hc _ (hc _ (hc _ (br_t h1 (hc _ (hc _ (hc _ (Exists.intro (some (hn_vi r1)) (Exists.intro (hn_m I1 k g) (And.intro c2 (hc (hn_nx 52 84 [some (hn_vr 60), some (hn_vi x1), none, some (hn_vi x3), some (hn_vi x4), none] [(hn_vi r1)] (hn_m I1 k g)) (hc (hn_nx 52 86 [some (hn_vr 60), some (hn_vi x1), none, some (hn_vi x3), some (hn_vi x4), some (hn_vi r1)] [] (hn_m I1 k g)) (hc _ (hc _ (Exists.intro (some (hn_vi r2)) (Exists.intro (hn_m I2 k g) (And.intro c3 (hc (hn_nx 52 92 [some (hn_vr 60), some (hn_vi x1), none, some (hn_vi x3), some (hn_vi x4), some (hn_vi r1)] [(hn_vi r2)] (hn_m I2 k g)) (hc (hn_nx 52 93 [some (hn_vr 60), some (hn_vi r2), none, some (hn_vi x3), some (hn_vi x4), some (hn_vi r1)] [] (hn_m I2 k g)) (hc _ (hc _ (br_t h4 (hc _ (hc _ ht)))))))))))))))))))))))
set_option maxRecDepth 20000 in
theorem hb_X5_parse_73_1 {x1 : Int} {x3 : Int} {x4 : Int} {r1 : Int} {I1 : Nat → Nat → Int} {r2 : Int} {I2 : Nat → Nat → Int} (h1 : x4 < x3) (c2 : C 54 [(hn_vr 60), (hn_vi x1)] (hn_m I k g) (some (hn_vi r1)) (hn_m I1 k g)) (c3 : C 55 [(hn_vr 60), (hn_vi r1)] (hn_m I1 k g) (some (hn_vi r2)) (hn_m I2 k g)) (h4 : ¬ r2 = r1) (h5 : hn_R (r2 - r1) := by omega) (h6 : 6 < r2 - r1) : hn_go sx sL C (hn_nx 52 73 [some (hn_vr 60), some (hn_vi x1), none, some (hn_vi x3), some (hn_vi x4), none] [] (hn_m I k g))
    (.inr (some (hn_vi r1), (hn_m I2 k g))) :=
  fun P hc hw ht => hc _ (hc _ (hc _ (br_t h1 (hc _ (hc _ (hc _ (Exists.intro (some (hn_vi r1)) (Exists.intro (hn_m I1 k g) (And.intro c2 (hc (hn_nx 52 84 [some (hn_vr 60), some (hn_vi x1), none, some (hn_vi x3), some (hn_vi x4), none] [(hn_vi r1)] (hn_m I1 k g)) (hc (hn_nx 52 86 [some (hn_vr 60), some (hn_vi x1), none, some (hn_vi x3), some (hn_vi x4), some (hn_vi r1)] [] (hn_m I1 k g)) (hc _ (hc _ (Exists.intro (some (hn_vi r2)) (Exists.intro (hn_m I2 k g) (And.intro c3 (hc (hn_nx 52 92 [some (hn_vr 60), some (hn_vi x1), none, some (hn_vi x3), some (hn_vi x4), some (hn_vi r1)] [(hn_vi r2)] (hn_m I2 k g)) (hc (hn_nx 52 93 [some (hn_vr 60), some (hn_vi r2), none, some (hn_vi x3), some (hn_vi x4), some (hn_vi r1)] [] (hn_m I2 k g)) (hc _ (hc _ (br_f h4 (hc _ (hc _ (hc _ (And.intro h5 (hc _ (hc _ (br_t h6 (hc _ (hc _ ht))))))))))))))))))))))))))))))
set_option maxRecDepth 20000 in
theorem hb_X5_parse_73_2 {x1 : Int} {x3 : Int} {x4 : Int} {r1 : Int} {I1 : Nat → Nat → Int} {r2 : Int} {I2 : Nat → Nat → Int} {r3 : Int} {I3 : Nat → Nat → Int} (h1 : x4 < x3) (c2 : C 54 [(hn_vr 60), (hn_vi x1)] (hn_m I k g) (some (hn_vi r1)) (hn_m I1 k g)) (c3 : C 55 [(hn_vr 60), (hn_vi r1)] (hn_m I1 k g) (some (hn_vi r2)) (hn_m I2 k g)) (h4 : ¬ r2 = r1) (h5 : hn_R (r2 - r1) := by omega) (h6 : ¬ 6 < r2 - r1) (h7 : hn_R ((I2 60 4) * 4) := by omega) (h8 : hn_R (((I2 60 4) * 4) + x4) := by omega) (c9 : C 56 [(hn_vr 60), (hn_vi r1), (hn_vi r2)] (hn_m I2 k g) (some (hn_vi r3)) (hn_m I3 k g)) (h10 : 0 ≤ ((I2 60 4) * 4) + x4 ∧ ((I2 60 4) * 4) + x4 < 164 := by omega) (h11 : hn_R (x4 + 1) := by omega) : hn_go sx sL C (hn_nx 52 73 [some (hn_vr 60), some (hn_vi x1), none, some (hn_vi x3), some (hn_vi x4), none] [] (hn_m I k g))
    (hn_nx 52 73 [some (hn_vr 60), some (hn_vi r2), none, some (hn_vi x3), some (hn_vi (x4 + 1)), none] [] (hn_m ((hn_up I3 63 (((I2 60 4) * 4) + x4).toNat r3)) k g)) :=
  fun P hc hw ht => hc _ (hc _ (hc _ (br_t h1 (hc _ (hc _ (hc _ (Exists.intro (some (hn_vi r1)) (Exists.intro (hn_m I1 k g) (And.intro c2 (hc (hn_nx 52 84 [some (hn_vr 60), some (hn_vi x1), none, some (hn_vi x3), some (hn_vi x4), none] [(hn_vi r1)] (hn_m I1 k g)) (hc (hn_nx 52 86 [some (hn_vr 60), some (hn_vi x1), none, some (hn_vi x3), some (hn_vi x4), some (hn_vi r1)] [] (hn_m I1 k g)) (hc _ (hc _ (Exists.intro (some (hn_vi r2)) (Exists.intro (hn_m I2 k g) (And.intro c3 (hc (hn_nx 52 92 [some (hn_vr 60), some (hn_vi x1), none, some (hn_vi x3), some (hn_vi x4), some (hn_vi r1)] [(hn_vi r2)] (hn_m I2 k g)) (hc (hn_nx 52 93 [some (hn_vr 60), some (hn_vi r2), none, some (hn_vi x3), some (hn_vi x4), some (hn_vi r1)] [] (hn_m I2 k g)) (hc _ (hc _ (br_f h4 (hc _ (hc _ (hc _ (And.intro h5 (hc _ (hc _ (br_f h6 (hc _ (hc _ (hc _ (hc _ (hc _ (hc _ (And.intro h7 (hc _ (hc _ (And.intro h8 (hc _ (hc _ (hc _ (hc _ (Exists.intro (some (hn_vi r3)) (Exists.intro (hn_m I3 k g) (And.intro c9 (hc (hn_nx 52 131 [some (hn_vr 60), some (hn_vi r2), none, some (hn_vi x3), some (hn_vi x4), some (hn_vi r1)] [(hn_vi r3), (hn_vi (((I2 60 4) * 4) + x4)), (hn_vr 63)] (hn_m I3 k g)) (And.intro h10 (hc (hn_nx 52 132 [some (hn_vr 60), some (hn_vi r2), none, some (hn_vi x3), some (hn_vi x4), some (hn_vi r1)] [] (hn_m ((hn_up I3 63 (((I2 60 4) * 4) + x4).toNat r3)) k g)) (And.intro h11 (hc (hn_nx 52 135 [some (hn_vr 60), some (hn_vi r2), none, some (hn_vi x3), some (hn_vi (x4 + 1)), some (hn_vi r1)] [] (hn_m ((hn_up I3 63 (((I2 60 4) * 4) + x4).toNat r3)) k g)) (hw [true, true, false, true, true, false] _ _ _ _ _ ht)))))))))))))))))))))))))))))))))))))))))))))))))))
set_option maxRecDepth 20000 in
theorem hb_X5_parse_73_3 {x1 : Int} {x3 : Int} {x4 : Int} {r1 : Int} {I1 : Nat → Nat → Int} (h1 : ¬ x4 < x3) (h2 : hn_R ((I 60 4) + 1) := by omega) (c3 : C 54 [(hn_vr 60), (hn_vi x1)] (hn_m ((hn_up I 60 4 ((I 60 4) + 1))) k g) (some (hn_vi r1)) (hn_m I1 k g)) (h4 : r1 < I1 60 1) (h5 : 0 ≤ r1 ∧ r1 < 120 := by omega) (h6 : I1 61 (r1).toNat = 59) (h7 : hn_R (r1 + 1) := by omega) : hn_go sx sL C (hn_nx 52 73 [some (hn_vr 60), some (hn_vi x1), none, some (hn_vi x3), some (hn_vi x4), none] [] (hn_m I k g))
    (hn_nx 52 7 [some (hn_vr 60), some (hn_vi (r1 + 1)), none, none, none, none] [] (hn_m I1 k g)) :=
  fun P hc hw ht => hc _ (hc _ (hc _ (br_f h1 (hc _ (hc _ (hc _ (hc _ (hc _ (And.intro h2 (hc _ (hc (hn_nx 52 148 [some (hn_vr 60), some (hn_vi x1), none, some (hn_vi x3), some (hn_vi x4), none] [] (hn_m ((hn_up I 60 4 ((I 60 4) + 1))) k g)) (hc _ (hc _ (Exists.intro (some (hn_vi r1)) (Exists.intro (hn_m I1 k g) (And.intro c3 (hc (hn_nx 52 153 [some (hn_vr 60), some (hn_vi x1), none, some (hn_vi x3), some (hn_vi x4), none] [(hn_vi r1)] (hn_m I1 k g)) (hc (hn_nx 52 154 [some (hn_vr 60), some (hn_vi r1), none, some (hn_vi x3), some (hn_vi x4), none] [] (hn_m I1 k g)) (hc _ (hc _ (hc _ (br_t h4 (hc _ (hc _ (hc _ (hc _ (And.intro h5 (hc _ (hc _ (br_t h6 (hc _ (And.intro h7 (hc (hn_nx 52 180 [some (hn_vr 60), some (hn_vi (r1 + 1)), none, some (hn_vi x3), some (hn_vi x4), none] [] (hn_m I1 k g)) (hw [true, true, false, false, false, false] _ _ _ _ _ ht))))))))))))))))))))))))))))))))))
set_option maxRecDepth 20000 in
theorem hb_X5_parse_73_4 {x1 : Int} {x3 : Int} {x4 : Int} {r1 : Int} {I1 : Nat → Nat → Int} (h1 : ¬ x4 < x3) (h2 : hn_R ((I 60 4) + 1) := by omega) (c3 : C 54 [(hn_vr 60), (hn_vi x1)] (hn_m ((hn_up I 60 4 ((I 60 4) + 1))) k g) (some (hn_vi r1)) (hn_m I1 k g)) (h4 : r1 < I1 60 1) (h5 : 0 ≤ r1 ∧ r1 < 120 := by omega) (h6 : ¬ I1 61 (r1).toNat = 59) : hn_go sx sL C (hn_nx 52 73 [some (hn_vr 60), some (hn_vi x1), none, some (hn_vi x3), some (hn_vi x4), none] [] (hn_m I k g))
    (.inr (some (hn_vi r1), (hn_m I1 k g))) :=
  fun P hc hw ht => hc _ (hc _ (hc _ (br_f h1 (hc _ (hc _ (hc _ (hc _ (hc _ (And.intro h2 (hc _ (hc (hn_nx 52 148 [some (hn_vr 60), some (hn_vi x1), none, some (hn_vi x3), some (hn_vi x4), none] [] (hn_m ((hn_up I 60 4 ((I 60 4) + 1))) k g)) (hc _ (hc _ (Exists.intro (some (hn_vi r1)) (Exists.intro (hn_m I1 k g) (And.intro c3 (hc (hn_nx 52 153 [some (hn_vr 60), some (hn_vi x1), none, some (hn_vi x3), some (hn_vi x4), none] [(hn_vi r1)] (hn_m I1 k g)) (hc (hn_nx 52 154 [some (hn_vr 60), some (hn_vi r1), none, some (hn_vi x3), some (hn_vi x4), none] [] (hn_m I1 k g)) (hc _ (hc _ (hc _ (br_t h4 (hc _ (hc _ (hc _ (hc _ (And.intro h5 (hc _ (hc _ (br_f h6 (hc _ (hc _ ht))))))))))))))))))))))))))))))))
set_option maxRecDepth 20000 in
theorem hb_X5_parse_73_5 {x1 : Int} {x3 : Int} {x4 : Int} {r1 : Int} {I1 : Nat → Nat → Int} (h1 : ¬ x4 < x3) (h2 : hn_R ((I 60 4) + 1) := by omega) (c3 : C 54 [(hn_vr 60), (hn_vi x1)] (hn_m ((hn_up I 60 4 ((I 60 4) + 1))) k g) (some (hn_vi r1)) (hn_m I1 k g)) (h4 : ¬ r1 < I1 60 1) : hn_go sx sL C (hn_nx 52 73 [some (hn_vr 60), some (hn_vi x1), none, some (hn_vi x3), some (hn_vi x4), none] [] (hn_m I k g))
    (.inr (some (hn_vi (-1)), (hn_m I1 k g))) :=
  fun P hc hw ht => hc _ (hc _ (hc _ (br_f h1 (hc _ (hc _ (hc _ (hc _ (hc _ (And.intro h2 (hc _ (hc (hn_nx 52 148 [some (hn_vr 60), some (hn_vi x1), none, some (hn_vi x3), some (hn_vi x4), none] [] (hn_m ((hn_up I 60 4 ((I 60 4) + 1))) k g)) (hc _ (hc _ (Exists.intro (some (hn_vi r1)) (Exists.intro (hn_m I1 k g) (And.intro c3 (hc (hn_nx 52 153 [some (hn_vr 60), some (hn_vi x1), none, some (hn_vi x3), some (hn_vi x4), none] [(hn_vi r1)] (hn_m I1 k g)) (hc (hn_nx 52 154 [some (hn_vr 60), some (hn_vi r1), none, some (hn_vi x3), some (hn_vi x4), none] [] (hn_m I1 k g)) (hc _ (hc _ (hc _ (br_f h4 (hc _ (hc _ ht))))))))))))))))))))))))
set_option maxRecDepth 20000 in
theorem hb_X5_numbersOf_0_0 {x0 : Int} (h1 : x0 = 97) : hn_go sx sL C (hn_nx 53 0 [some (hn_vi x0)] [] (hn_m I k g))
    (.inr (some (hn_vi 2), (hn_m I k g))) :=
  fun P hc hw ht => hc _ (hc _ (br_t h1 (hc _ (hc _ ht))))
set_option maxRecDepth 20000 in
theorem hb_X5_numbersOf_0_1 {x0 : Int} (h1 : ¬ x0 = 97) (h2 : x0 = 102) : hn_go sx sL C (hn_nx 53 0 [some (hn_vi x0)] [] (hn_m I k g))
    (.inr (some (hn_vi 3), (hn_m I k g))) :=
  fun P hc hw ht => hc _ (hc _ (br_f h1 (br_t h2 (hc _ (hc _ ht)))))
set_option maxRecDepth 20000 in
theorem hb_X5_numbersOf_0_2 {x0 : Int} (h1 : ¬ x0 = 97) (h2 : ¬ x0 = 102) (h3 : x0 = 104) : hn_go sx sL C (hn_nx 53 0 [some (hn_vi x0)] [] (hn_m I k g))
    (.inr (some (hn_vi 1), (hn_m I k g))) :=
  fun P hc hw ht => hc _ (hc _ (br_f h1 (br_f h2 (br_t h3 (hc _ (hc _ ht))))))
set_option maxRecDepth 20000 in
theorem hb_X5_numbersOf_0_3 {x0 : Int} (h1 : ¬ x0 = 97) (h2 : ¬ x0 = 102) (h3 : ¬ x0 = 104) (h4 : x0 = 110) : hn_go sx sL C (hn_nx 53 0 [some (hn_vi x0)] [] (hn_m I k g))
    (.inr (some (hn_vi 4), (hn_m I k g))) :=
  fun P hc hw ht => hc _ (hc _ (br_f h1 (br_f h2 (br_f h3 (br_t h4 (hc _ (hc _ ht)))))))
set_option maxRecDepth 20000 in
theorem hb_X5_numbersOf_0_4 {x0 : Int} (h1 : ¬ x0 = 97) (h2 : ¬ x0 = 102) (h3 : ¬ x0 = 104) (h4 : ¬ x0 = 110) (h5 : x0 = 117) : hn_go sx sL C (hn_nx 53 0 [some (hn_vi x0)] [] (hn_m I k g))
    (.inr (some (hn_vi 1), (hn_m I k g))) :=
  fun P hc hw ht => hc _ (hc _ (br_f h1 (br_f h2 (br_f h3 (br_f h4 (br_t h5 (hc _ (hc _ ht))))))))
set_option maxRecDepth 20000 in
theorem hb_X5_numbersOf_0_5 {x0 : Int} (h1 : ¬ x0 = 97) (h2 : ¬ x0 = 102) (h3 : ¬ x0 = 104) (h4 : ¬ x0 = 110) (h5 : ¬ x0 = 117) : hn_go sx sL C (hn_nx 53 0 [some (hn_vi x0)] [] (hn_m I k g))
    (.inr (some (hn_vi 0), (hn_m I k g))) :=
  fun P hc hw ht => hc _ (hc _ (br_f h1 (br_f h2 (br_f h3 (br_f h4 (br_f h5  (hc _ (hc _ ht))))))))
set_option maxRecDepth 20000 in
theorem hb_X5_afterBlanks_0_0 {x1 : Int}  : hn_go sx sL C (hn_nx 54 0 [some (hn_vr 60), some (hn_vi x1), none] [] (hn_m I k g))
    (hn_nx 54 2 [some (hn_vr 60), none, some (hn_vi x1)] [] (hn_m I k g)) :=
  fun P hc hw ht => hc _ (hc _ (hw [true, false, true] _ _ _ _ _ ht))
set_option maxRecDepth 20000 in
theorem hb_X5_afterBlanks_2_0 {n2 : Nat} (h1 : (n2 : Int) < I 60 1) (h2 : 0 ≤ (n2 : Int) ∧ (n2 : Int) < 120 := by omega) (h3 : I 61 n2 = 32) (h4 : hn_R ((n2 : Int) + 1) := by omega) : hn_go sx sL C (hn_nx 54 2 [some (hn_vr 60), none, some (hn_vi (n2 : Int))] [] (hn_m I k g))
    (hn_nx 54 2 [some (hn_vr 60), none, some (hn_vi ((n2 : Int) + 1))] [] (hn_m I k g)) :=
  fun P hc hw ht => hc _ (hc _ (hc _ (hc _ (br_t h1 (hc _ (hc _ (hc _ (hc _ (And.intro h2 (hc _ (hc _ (br_t h3 (hc _ (And.intro h4 (hc (hn_nx 54 24 [some (hn_vr 60), none, some (hn_vi ((n2 : Int) + 1))] [] (hn_m I k g)) (ht))))))))))))))))
set_option maxRecDepth 20000 in
theorem hb_X5_afterBlanks_2_1 {n2 : Nat} (h1 : (n2 : Int) < I 60 1) (h2 : 0 ≤ (n2 : Int) ∧ (n2 : Int) < 120 := by omega) (h3 : ¬ I 61 n2 = 32) : hn_go sx sL C (hn_nx 54 2 [some (hn_vr 60), none, some (hn_vi (n2 : Int))] [] (hn_m I k g))
    (.inr (some (hn_vi (n2 : Int)), (hn_m I k g))) :=
  fun P hc hw ht => hc _ (hc _ (hc _ (hc _ (br_t h1 (hc _ (hc _ (hc _ (hc _ (And.intro h2 (hc _ (hc _ (br_f h3 (hc _ (hc _ ht))))))))))))))
set_option maxRecDepth 20000 in
theorem hb_X5_afterBlanks_2_2 {n2 : Nat} (h1 : ¬ (n2 : Int) < I 60 1) : hn_go sx sL C (hn_nx 54 2 [some (hn_vr 60), none, some (hn_vi (n2 : Int))] [] (hn_m I k g))
    (.inr (some (hn_vi (n2 : Int)), (hn_m I k g))) :=
  fun P hc hw ht => hc _ (hc _ (hc _ (hc _ (br_f h1 (hc _ (hc _ ht))))))
set_option maxRecDepth 20000 in
theorem hb_X5_afterDigits_0_0 {x1 : Int}  : hn_go sx sL C (hn_nx 55 0 [some (hn_vr 60), some (hn_vi x1), none] [] (hn_m I k g))
    (hn_nx 55 2 [some (hn_vr 60), none, some (hn_vi x1)] [] (hn_m I k g)) :=
  fun P hc hw ht => hc _ (hc _ (hw [true, false, true] _ _ _ _ _ ht))
set_option maxRecDepth 20000 in
theorem hb_X5_afterDigits_2_0 {n2 : Nat} {r1 : Int} {I1 : Nat → Nat → Int} (h1 : (n2 : Int) < I 60 1) (h2 : 0 ≤ (n2 : Int) ∧ (n2 : Int) < 120 := by omega) (c3 : C 94 [(hn_vi (I 61 n2)), (hn_vi 48), (hn_vi 57)] (hn_m I k g) (some (hn_vi r1)) (hn_m I1 k g)) (h4 : r1 = 0) : hn_go sx sL C (hn_nx 55 2 [some (hn_vr 60), none, some (hn_vi (n2 : Int))] [] (hn_m I k g))
    (.inr (some (hn_vi (n2 : Int)), (hn_m I1 k g))) :=
  fun P hc hw ht => hc _ (hc _ (hc _ (hc _ (br_t h1 (hc _ (hc _ (hc _ (hc _ (And.intro h2 (hc _ (hc _ (hc _ (Exists.intro (some (hn_vi r1)) (Exists.intro (hn_m I1 k g) (And.intro c3 (hc (hn_nx 55 23 [some (hn_vr 60), none, some (hn_vi (n2 : Int))] [(hn_vi r1)] (hn_m I1 k g)) (br_t h4 (hc _ (hc _ ht)))))))))))))))))))
set_option maxRecDepth 20000 in
theorem hb_X5_afterDigits_2_1 {n2 : Nat} {r1 : Int} {I1 : Nat → Nat → Int} (h1 : (n2 : Int) < I 60 1) (h2 : 0 ≤ (n2 : Int) ∧ (n2 : Int) < 120 := by omega) (c3 : C 94 [(hn_vi (I 61 n2)), (hn_vi 48), (hn_vi 57)] (hn_m I k g) (some (hn_vi r1)) (hn_m I1 k g)) (h4 : ¬ r1 = 0) (h5 : hn_R ((n2 : Int) + 1) := by omega) : hn_go sx sL C (hn_nx 55 2 [some (hn_vr 60), none, some (hn_vi (n2 : Int))] [] (hn_m I k g))
    (hn_nx 55 2 [some (hn_vr 60), none, some (hn_vi ((n2 : Int) + 1))] [] (hn_m I1 k g)) :=
  fun P hc hw ht => hc _ (hc _ (hc _ (hc _ (br_t h1 (hc _ (hc _ (hc _ (hc _ (And.intro h2 (hc _ (hc _ (hc _ (Exists.intro (some (hn_vi r1)) (Exists.intro (hn_m I1 k g) (And.intro c3 (hc (hn_nx 55 23 [some (hn_vr 60), none, some (hn_vi (n2 : Int))] [(hn_vi r1)] (hn_m I1 k g)) (br_f h4 (hc _ (And.intro h5 (hc (hn_nx 55 29 [some (hn_vr 60), none, some (hn_vi ((n2 : Int) + 1))] [] (hn_m I1 k g)) (ht)))))))))))))))))))))
set_option maxRecDepth 20000 in
theorem hb_X5_afterDigits_2_2 {n2 : Nat} (h1 : ¬ (n2 : Int) < I 60 1) : hn_go sx sL C (hn_nx 55 2 [some (hn_vr 60), none, some (hn_vi (n2 : Int))] [] (hn_m I k g))
    (.inr (some (hn_vi (n2 : Int)), (hn_m I k g))) :=
  fun P hc hw ht => hc _ (hc _ (hc _ (hc _ (br_f h1 (hc _ (hc _ ht))))))
set_option maxRecDepth 20000 in
theorem hb_X5_valueOf_0_0 {x1 : Int} {x2 : Int}  : hn_go sx sL C (hn_nx 56 0 [some (hn_vr 60), some (hn_vi x1), some (hn_vi x2), none, none] [] (hn_m I k g))
    (hn_nx 56 5 [some (hn_vr 60), none, some (hn_vi x2), some (hn_vi 0), some (hn_vi x1)] [] (hn_m I k g)) :=
  fun P hc hw ht => hc _ (hc _ (hc (hn_nx 56 2 [some (hn_vr 60), some (hn_vi x1), some (hn_vi x2), some (hn_vi 0), none] [] (hn_m I k g)) (hc _ (hw [true, false, true, true, true] _ _ _ _ _ ht))))
set_option maxRecDepth 20000 in
theorem hb_X5_valueOf_5_0 {x2 : Int} {x3 : Int} {n4 : Nat} (h1 : (n4 : Int) < x2) (h2 : hn_R (x3 * 10) := by omega) (h3 : 0 ≤ (n4 : Int) ∧ (n4 : Int) < 120 := by omega) (h4 : hn_R ((x3 * 10) + (I 61 n4)) := by omega) (h5 : hn_R (((x3 * 10) + (I 61 n4)) - 48) := by omega) (h6 : hn_R ((n4 : Int) + 1) := by omega) : hn_go sx sL C (hn_nx 56 5 [some (hn_vr 60), none, some (hn_vi x2), some (hn_vi x3), some (hn_vi (n4 : Int))] [] (hn_m I k g))
    (hn_nx 56 5 [some (hn_vr 60), none, some (hn_vi x2), some (hn_vi (((x3 * 10) + (I 61 n4)) - 48)), some (hn_vi ((n4 : Int) + 1))] [] (hn_m I k g)) :=
  fun P hc hw ht => hc _ (hc _ (hc _ (br_t h1 (hc _ (hc _ (hc _ (And.intro h2 (hc _ (hc _ (hc _ (hc _ (And.intro h3 (hc _ (And.intro h4 (hc _ (hc _ (And.intro h5 (hc _ (hc (hn_nx 56 27 [some (hn_vr 60), none, some (hn_vi x2), some (hn_vi (((x3 * 10) + (I 61 n4)) - 48)), some (hn_vi (n4 : Int))] [] (hn_m I k g)) (And.intro h6 (hc (hn_nx 56 30 [some (hn_vr 60), none, some (hn_vi x2), some (hn_vi (((x3 * 10) + (I 61 n4)) - 48)), some (hn_vi ((n4 : Int) + 1))] [] (hn_m I k g)) (ht))))))))))))))))))))))
set_option maxRecDepth 20000 in
theorem hb_X5_valueOf_5_1 {x2 : Int} {x3 : Int} {n4 : Nat} (h1 : ¬ (n4 : Int) < x2) : hn_go sx sL C (hn_nx 56 5 [some (hn_vr 60), none, some (hn_vi x2), some (hn_vi x3), some (hn_vi (n4 : Int))] [] (hn_m I k g))
    (.inr (some (hn_vi x3), (hn_m I k g))) :=
  fun P hc hw ht => hc _ (hc _ (hc _ (br_f h1 (hc _ (hc _ ht)))))
end HB
