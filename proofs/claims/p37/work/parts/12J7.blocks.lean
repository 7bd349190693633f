/-! block rows, by program -/ -- J7
section HB
variable {sx : Nat → Int} {sL : Nat} {C : hn_C} {I : Nat → Nat → Int} {k : Nat → Option Nat} {g : Nat → Nat → Int64}
set_option maxRecDepth 20000 in
theorem hb_J7_fill_46_0_0 {x1 : Int}  : hn_go sx sL C (hn_nx 167 0 [some (hn_vr 46), some (hn_vi x1), none, none] [] (hn_m I k g))
    (hn_nx 167 5 [some (hn_vr 46), some (hn_vi x1), some (hn_vi 0), some (hn_vi 8)] [] (hn_m I k g)) :=
  fun P hc hw ht => hc _ (hc _ (hc (hn_nx 167 2 [some (hn_vr 46), some (hn_vi x1), some (hn_vi 0), none] [] (hn_m I k g)) (hc _ (hc _ (ht)))))
set_option maxRecDepth 20000 in
theorem hb_J7_fill_46_5_0 {x1 : Int} {n2 : Nat} {x3 : Int} (h1 : (n2 : Int) < x3) (h2 : 0 ≤ (n2 : Int) ∧ (n2 : Int) < 8 := by omega) (h3 : hn_R ((n2 : Int) + 1) := by omega) : hn_go sx sL C (hn_nx 167 5 [some (hn_vr 46), some (hn_vi x1), some (hn_vi (n2 : Int)), some (hn_vi x3)] [] (hn_m I k g))
    (hn_nx 167 5 [some (hn_vr 46), some (hn_vi x1), some (hn_vi ((n2 : Int) + 1)), some (hn_vi x3)] [] (hn_m ((hn_up I 46 n2 x1)) k g)) :=
  fun P hc hw ht => hc _ (hc _ (hc _ (br_t h1 (hc _ (hc _ (hc _ (hc _ (And.intro h2 (hc (hn_nx 167 14 [some (hn_vr 46), some (hn_vi x1), some (hn_vi (n2 : Int)), some (hn_vi x3)] [] (hn_m ((hn_up I 46 n2 x1)) k g)) (And.intro h3 (hc (hn_nx 167 17 [some (hn_vr 46), some (hn_vi x1), some (hn_vi ((n2 : Int) + 1)), some (hn_vi x3)] [] (hn_m ((hn_up I 46 n2 x1)) k g)) (ht))))))))))))
set_option maxRecDepth 20000 in
theorem hb_J7_fill_46_5_1 {x1 : Int} {n2 : Nat} {x3 : Int} (h1 : ¬ (n2 : Int) < x3) : hn_go sx sL C (hn_nx 167 5 [some (hn_vr 46), some (hn_vi x1), some (hn_vi (n2 : Int)), some (hn_vi x3)] [] (hn_m I k g))
    (.inr (none, (hn_m I k g))) :=
  fun P hc hw ht => hc _ (hc _ (hc _ (br_f h1 (hc _ ht))))
set_option maxRecDepth 20000 in
theorem hb_J7_fill_47_0_0 {x1 : Int}  : hn_go sx sL C (hn_nx 167 0 [some (hn_vr 47), some (hn_vi x1), none, none] [] (hn_m I k g))
    (hn_nx 167 5 [some (hn_vr 47), some (hn_vi x1), some (hn_vi 0), some (hn_vi 64)] [] (hn_m I k g)) :=
  fun P hc hw ht => hc _ (hc _ (hc (hn_nx 167 2 [some (hn_vr 47), some (hn_vi x1), some (hn_vi 0), none] [] (hn_m I k g)) (hc _ (hc _ (ht)))))
set_option maxRecDepth 20000 in
theorem hb_J7_fill_47_5_0 {x1 : Int} {n2 : Nat} {x3 : Int} (h1 : (n2 : Int) < x3) (h2 : 0 ≤ (n2 : Int) ∧ (n2 : Int) < 64 := by omega) (h3 : hn_R ((n2 : Int) + 1) := by omega) : hn_go sx sL C (hn_nx 167 5 [some (hn_vr 47), some (hn_vi x1), some (hn_vi (n2 : Int)), some (hn_vi x3)] [] (hn_m I k g))
    (hn_nx 167 5 [some (hn_vr 47), some (hn_vi x1), some (hn_vi ((n2 : Int) + 1)), some (hn_vi x3)] [] (hn_m ((hn_up I 47 n2 x1)) k g)) :=
  fun P hc hw ht => hc _ (hc _ (hc _ (br_t h1 (hc _ (hc _ (hc _ (hc _ (And.intro h2 (hc (hn_nx 167 14 [some (hn_vr 47), some (hn_vi x1), some (hn_vi (n2 : Int)), some (hn_vi x3)] [] (hn_m ((hn_up I 47 n2 x1)) k g)) (And.intro h3 (hc (hn_nx 167 17 [some (hn_vr 47), some (hn_vi x1), some (hn_vi ((n2 : Int) + 1)), some (hn_vi x3)] [] (hn_m ((hn_up I 47 n2 x1)) k g)) (ht))))))))))))
set_option maxRecDepth 20000 in
theorem hb_J7_fill_47_5_1 {x1 : Int} {n2 : Nat} {x3 : Int} (h1 : ¬ (n2 : Int) < x3) : hn_go sx sL C (hn_nx 167 5 [some (hn_vr 47), some (hn_vi x1), some (hn_vi (n2 : Int)), some (hn_vi x3)] [] (hn_m I k g))
    (.inr (none, (hn_m I k g))) :=
  fun P hc hw ht => hc _ (hc _ (hc _ (br_f h1 (hc _ ht))))
end HB
