/-! what the tables above say, decided row by row -/
set_option maxRecDepth 100000 in
theorem hn_kd0 : ∀ pc, pc < 10 → (match hn_k0 pc with | some q => decide (decode cX0_init pc = .ok q) | none => true) = true := by decide +kernel
set_option maxRecDepth 100000 in
theorem hn_kd1 : ∀ pc, pc < 153 → (match hn_k1 pc with | some q => decide (decode cX0_findPair pc = .ok q) | none => true) = true := by decide +kernel
set_option maxRecDepth 100000 in
theorem hn_kd2 : ∀ pc, pc < 84 → (match hn_k2 pc with | some q => decide (decode cX0_flowCost pc = .ok q) | none => true) = true := by decide +kernel
set_option maxRecDepth 100000 in
theorem hn_kd3 : ∀ pc, pc < 113 → (match hn_k3 pc with | some q => decide (decode cX0_smallestOpenings pc = .ok q) | none => true) = true := by decide +kernel
set_option maxRecDepth 100000 in
theorem hn_kd4 : ∀ pc, pc < 39 → (match hn_k4 pc with | some q => decide (decode cX1_init pc = .ok q) | none => true) = true := by decide +kernel
set_option maxRecDepth 100000 in
theorem hn_kd5 : ∀ pc, pc < 36 → (match hn_k5 pc with | some q => decide (decode cX1_keep pc = .ok q) | none => true) = true := by decide +kernel
set_option maxRecDepth 100000 in
theorem hn_kd6 : ∀ pc, pc < 47 → (match hn_k6 pc with | some q => decide (decode cX1_dropOldest pc = .ok q) | none => true) = true := by decide +kernel
set_option maxRecDepth 100000 in
theorem hn_kd7 : ∀ pc, pc < 34 → (match hn_k7 pc with | some q => decide (decode cX1_restore pc = .ok q) | none => true) = true := by decide +kernel
set_option maxRecDepth 100000 in
theorem hn_kd8 : ∀ pc, pc < 26 → (match hn_k8 pc with | some q => decide (decode cX2_init pc = .ok q) | none => true) = true := by decide +kernel
set_option maxRecDepth 100000 in
theorem hn_kd9 : ∀ pc, pc < 57 → (match hn_k9 pc with | some q => decide (decode cX2_sumUp pc = .ok q) | none => true) = true := by decide +kernel
set_option maxRecDepth 100000 in
theorem hn_kd10 : ∀ pc, pc < 95 → (match hn_k10 pc with | some q => decide (decode cX2_addFlows pc = .ok q) | none => true) = true := by decide +kernel
set_option maxRecDepth 100000 in
theorem hn_kd11 : ∀ pc, pc < 49 → (match hn_k11 pc with | some q => decide (decode cX2_fits pc = .ok q) | none => true) = true := by decide +kernel
set_option maxRecDepth 100000 in
theorem hn_kd12 : ∀ pc, pc < 67 → (match hn_k12 pc with | some q => decide (decode cX2_collectingCost pc = .ok q) | none => true) = true := by decide +kernel
set_option maxRecDepth 100000 in
theorem hn_kd13 : ∀ pc, pc < 67 → (match hn_k13 pc with | some q => decide (decode cX2_distributingCost pc = .ok q) | none => true) = true := by decide +kernel
set_option maxRecDepth 100000 in
theorem hn_kd14 : ∀ pc, pc < 92 → (match hn_k14 pc with | some q => decide (decode cX2_trunkCost pc = .ok q) | none => true) = true := by decide +kernel
set_option maxRecDepth 100000 in
theorem hn_kd15 : ∀ pc, pc < 110 → (match hn_k15 pc with | some q => decide (decode cX2_smallTrunkSurcharge pc = .ok q) | none => true) = true := by decide +kernel
set_option maxRecDepth 100000 in
theorem hn_kd16 : ∀ pc, pc < 43 → (match hn_k16 pc with | some q => decide (decode cX2_openingCost pc = .ok q) | none => true) = true := by decide +kernel
set_option maxRecDepth 100000 in
theorem hn_kd17 : ∀ pc, pc < 88 → (match hn_k17 pc with | some q => decide (decode cX2_congestionCost pc = .ok q) | none => true) = true := by decide +kernel
set_option maxRecDepth 100000 in
theorem hn_kd18 : ∀ pc, pc < 39 → (match hn_k18 pc with | some q => decide (decode cX2_total pc = .ok q) | none => true) = true := by decide +kernel
set_option maxRecDepth 100000 in
theorem hn_kd19 : ∀ pc, pc < 95 → (match hn_k19 pc with | some q => decide (decode cX3_init pc = .ok q) | none => true) = true := by decide +kernel
set_option maxRecDepth 100000 in
theorem hn_kd20 : ∀ pc, pc < 178 → (match hn_k20 pc with | some q => decide (decode cX3_start pc = .ok q) | none => true) = true := by decide +kernel
set_option maxRecDepth 100000 in
theorem hn_kd21 : ∀ pc, pc < 16 → (match hn_k21 pc with | some q => decide (decode cX3_leastCost pc = .ok q) | none => true) = true := by decide +kernel
set_option maxRecDepth 100000 in
theorem hn_kd22 : ∀ pc, pc < 42 → (match hn_k22 pc with | some q => decide (decode cX3_takeOver pc = .ok q) | none => true) = true := by decide +kernel
set_option maxRecDepth 100000 in
theorem hn_kd23 : ∀ pc, pc < 38 → (match hn_k23 pc with | some q => decide (decode cX3_tryAll pc = .ok q) | none => true) = true := by decide +kernel
set_option maxRecDepth 100000 in
theorem hn_kd24 : ∀ pc, pc < 46 → (match hn_k24 pc with | some q => decide (decode cX3_tryNeighbours pc = .ok q) | none => true) = true := by decide +kernel
set_option maxRecDepth 100000 in
theorem hn_kd25 : ∀ pc, pc < 49 → (match hn_k25 pc with | some q => decide (decode cX3_tryHubs pc = .ok q) | none => true) = true := by decide +kernel
set_option maxRecDepth 100000 in
theorem hn_kd26 : ∀ pc, pc < 18 → (match hn_k26 pc with | some q => decide (decode cX3_countPlans pc = .ok q) | none => true) = true := by decide +kernel
set_option maxRecDepth 100000 in
theorem hn_kd27 : ∀ pc, pc < 128 → (match hn_k27 pc with | some q => decide (decode cX3_placeHubs pc = .ok q) | none => true) = true := by decide +kernel
set_option maxRecDepth 100000 in
theorem hn_kd28 : ∀ pc, pc < 94 → (match hn_k28 pc with | some q => decide (decode cX3_sumRest pc = .ok q) | none => true) = true := by decide +kernel
set_option maxRecDepth 100000 in
theorem hn_kd29 : ∀ pc, pc < 77 → (match hn_k29 pc with | some q => decide (decode cX3_hubTrunks pc = .ok q) | none => true) = true := by decide +kernel
set_option maxRecDepth 100000 in
theorem hn_kd30 : ∀ pc, pc < 116 → (match hn_k30 pc with | some q => decide (decode cX3_place pc = .ok q) | none => true) = true := by decide +kernel
set_option maxRecDepth 100000 in
theorem hn_kd31 : ∀ pc, pc < 84 → (match hn_k31 pc with | some q => decide (decode cX3_countFrom pc = .ok q) | none => true) = true := by decide +kernel
set_option maxRecDepth 100000 in
theorem hn_kd32 : ∀ pc, pc < 51 → (match hn_k32 pc with | some q => decide (decode cX3_enter pc = .ok q) | none => true) = true := by decide +kernel
set_option maxRecDepth 100000 in
theorem hn_kd33 : ∀ pc, pc < 136 → (match hn_k33 pc with | some q => decide (decode cX3_joining pc = .ok q) | none => true) = true := by decide +kernel
set_option maxRecDepth 100000 in
theorem hn_kd34 : ∀ pc, pc < 103 → (match hn_k34 pc with | some q => decide (decode cX3_weigh pc = .ok q) | none => true) = true := by decide +kernel
set_option maxRecDepth 100000 in
theorem hn_kd35 : ∀ pc, pc < 85 → (match hn_k35 pc with | some q => decide (decode cX4_init pc = .ok q) | none => true) = true := by decide +kernel
set_option maxRecDepth 100000 in
theorem hn_kd36 : ∀ pc, pc < 171 → (match hn_k36 pc with | some q => decide (decode cX4_copyFrom pc = .ok q) | none => true) = true := by decide +kernel
set_option maxRecDepth 100000 in
theorem hn_kd37 : ∀ pc, pc < 18 → (match hn_k37 pc with | some q => decide (decode cX4_has pc = .ok q) | none => true) = true := by decide +kernel
set_option maxRecDepth 100000 in
theorem hn_kd38 : ∀ pc, pc < 25 → (match hn_k38 pc with | some q => decide (decode cX4_isHub pc = .ok q) | none => true) = true := by decide +kernel
set_option maxRecDepth 100000 in
theorem hn_kd39 : ∀ pc, pc < 9 → (match hn_k39 pc with | some q => decide (decode cX4_allNodes pc = .ok q) | none => true) = true := by decide +kernel
set_option maxRecDepth 100000 in
theorem hn_kd40 : ∀ pc, pc < 41 → (match hn_k40 pc with | some q => decide (decode cX4_isComplete pc = .ok q) | none => true) = true := by decide +kernel
set_option maxRecDepth 100000 in
theorem hn_kd41 : ∀ pc, pc < 34 → (match hn_k41 pc with | some q => decide (decode cX4_gap pc = .ok q) | none => true) = true := by decide +kernel
set_option maxRecDepth 100000 in
theorem hn_kd42 : ∀ pc, pc < 34 → (match hn_k42 pc with | some q => decide (decode cX4_flowFrom pc = .ok q) | none => true) = true := by decide +kernel
set_option maxRecDepth 100000 in
theorem hn_kd43 : ∀ pc, pc < 34 → (match hn_k43 pc with | some q => decide (decode cX4_flowTo pc = .ok q) | none => true) = true := by decide +kernel
set_option maxRecDepth 100000 in
theorem hn_kd44 : ∀ pc, pc < 117 → (match hn_k44 pc with | some q => decide (decode cX4_insertNode pc = .ok q) | none => true) = true := by decide +kernel
set_option maxRecDepth 100000 in
theorem hn_kd45 : ∀ pc, pc < 65 → (match hn_k45 pc with | some q => decide (decode cX4_putFlow pc = .ok q) | none => true) = true := by decide +kernel
set_option maxRecDepth 100000 in
theorem hn_kd46 : ∀ pc, pc < 82 → (match hn_k46 pc with | some q => decide (decode cX4_putHub pc = .ok q) | none => true) = true := by decide +kernel
set_option maxRecDepth 100000 in
theorem hn_kd47 : ∀ pc, pc < 34 → (match hn_k47 pc with | some q => decide (decode cX4_unassignAll pc = .ok q) | none => true) = true := by decide +kernel
set_option maxRecDepth 100000 in
theorem hn_kd48 : ∀ pc, pc < 54 → (match hn_k48 pc with | some q => decide (decode cX4_putUnder pc = .ok q) | none => true) = true := by decide +kernel
set_option maxRecDepth 100000 in
theorem hn_kd49 : ∀ pc, pc < 30 → (match hn_k49 pc with | some q => decide (decode cX5_init pc = .ok q) | none => true) = true := by decide +kernel
set_option maxRecDepth 100000 in
theorem hn_kd50 : ∀ pc, pc < 33 → (match hn_k50 pc with | some q => decide (decode cX5_append pc = .ok q) | none => true) = true := by decide +kernel
set_option maxRecDepth 100000 in
theorem hn_kd51 : ∀ pc, pc < 11 → (match hn_k51 pc with | some q => decide (decode cX5_number pc = .ok q) | none => true) = true := by decide +kernel
set_option maxRecDepth 100000 in
theorem hn_kd52 : ∀ pc, pc < 185 → (match hn_k52 pc with | some q => decide (decode cX5_parse pc = .ok q) | none => true) = true := by decide +kernel
set_option maxRecDepth 100000 in
theorem hn_kd53 : ∀ pc, pc < 64 → (match hn_k53 pc with | some q => decide (decode cX5_numbersOf pc = .ok q) | none => true) = true := by decide +kernel
set_option maxRecDepth 100000 in
theorem hn_kd54 : ∀ pc, pc < 29 → (match hn_k54 pc with | some q => decide (decode cX5_afterBlanks pc = .ok q) | none => true) = true := by decide +kernel
set_option maxRecDepth 100000 in
theorem hn_kd55 : ∀ pc, pc < 34 → (match hn_k55 pc with | some q => decide (decode cX5_afterDigits pc = .ok q) | none => true) = true := by decide +kernel
set_option maxRecDepth 100000 in
theorem hn_kd56 : ∀ pc, pc < 35 → (match hn_k56 pc with | some q => decide (decode cX5_valueOf pc = .ok q) | none => true) = true := by decide +kernel
set_option maxRecDepth 100000 in
theorem hn_kd57 : ∀ pc, pc < 98 → (match hn_k57 pc with | some q => decide (decode cX6_init pc = .ok q) | none => true) = true := by decide +kernel
set_option maxRecDepth 100000 in
theorem hn_kd58 : ∀ pc, pc < 28 → (match hn_k58 pc with | some q => decide (decode cX6_addNode pc = .ok q) | none => true) = true := by decide +kernel
set_option maxRecDepth 100000 in
theorem hn_kd59 : ∀ pc, pc < 26 → (match hn_k59 pc with | some q => decide (decode cX6_setFlow pc = .ok q) | none => true) = true := by decide +kernel
set_option maxRecDepth 100000 in
theorem hn_kd60 : ∀ pc, pc < 87 → (match hn_k60 pc with | some q => decide (decode cX6_setNode pc = .ok q) | none => true) = true := by decide +kernel
set_option maxRecDepth 100000 in
theorem hn_kd61 : ∀ pc, pc < 107 → (match hn_k61 pc with | some q => decide (decode cX6_setFactors pc = .ok q) | none => true) = true := by decide +kernel
set_option maxRecDepth 100000 in
theorem hn_kd62 : ∀ pc, pc < 108 → (match hn_k62 pc with | some q => decide (decode cX6_setCongestion pc = .ok q) | none => true) = true := by decide +kernel
set_option maxRecDepth 100000 in
theorem hn_kd63 : ∀ pc, pc < 8 → (match hn_k63 pc with | some q => decide (decode cX6_nodes pc = .ok q) | none => true) = true := by decide +kernel
set_option maxRecDepth 100000 in
theorem hn_kd64 : ∀ pc, pc < 113 → (match hn_k64 pc with | some q => decide (decode cX6_node pc = .ok q) | none => true) = true := by decide +kernel
set_option maxRecDepth 100000 in
theorem hn_kd65 : ∀ pc, pc < 40 → (match hn_k65 pc with | some q => decide (decode cX6_flow pc = .ok q) | none => true) = true := by decide +kernel
set_option maxRecDepth 100000 in
theorem hn_kd66 : ∀ pc, pc < 35 → (match hn_k66 pc with | some q => decide (decode cX6_distance pc = .ok q) | none => true) = true := by decide +kernel
set_option maxRecDepth 100000 in
theorem hn_kd67 : ∀ pc, pc < 25 → (match hn_k67 pc with | some q => decide (decode cX6_setHub pc = .ok q) | none => true) = true := by decide +kernel
set_option maxRecDepth 100000 in
theorem hn_kd68 : ∀ pc, pc < 25 → (match hn_k68 pc with | some q => decide (decode cX6_assign pc = .ok q) | none => true) = true := by decide +kernel
set_option maxRecDepth 100000 in
theorem hn_kd69 : ∀ pc, pc < 8 → (match hn_k69 pc with | some q => decide (decode cX6_hubs pc = .ok q) | none => true) = true := by decide +kernel
set_option maxRecDepth 100000 in
theorem hn_kd70 : ∀ pc, pc < 26 → (match hn_k70 pc with | some q => decide (decode cX6_hubOf pc = .ok q) | none => true) = true := by decide +kernel
set_option maxRecDepth 100000 in
theorem hn_kd71 : ∀ pc, pc < 49 → (match hn_k71 pc with | some q => decide (decode cX6_check pc = .ok q) | none => true) = true := by decide +kernel
set_option maxRecDepth 100000 in
theorem hn_kd72 : ∀ pc, pc < 52 → (match hn_k72 pc with | some q => decide (decode cX6_load pc = .ok q) | none => true) = true := by decide +kernel
set_option maxRecDepth 100000 in
theorem hn_kd73 : ∀ pc, pc < 84 → (match hn_k73 pc with | some q => decide (decode cX6_trunk pc = .ok q) | none => true) = true := by decide +kernel
set_option maxRecDepth 100000 in
theorem hn_kd74 : ∀ pc, pc < 180 → (match hn_k74 pc with | some q => decide (decode cX6_cost pc = .ok q) | none => true) = true := by decide +kernel
set_option maxRecDepth 100000 in
theorem hn_kd75 : ∀ pc, pc < 158 → (match hn_k75 pc with | some q => decide (decode cX6_path pc = .ok q) | none => true) = true := by decide +kernel
set_option maxRecDepth 100000 in
theorem hn_kd76 : ∀ pc, pc < 145 → (match hn_k76 pc with | some q => decide (decode cX6_change pc = .ok q) | none => true) = true := by decide +kernel
set_option maxRecDepth 100000 in
theorem hn_kd77 : ∀ pc, pc < 65 → (match hn_k77 pc with | some q => decide (decode cX6_settle pc = .ok q) | none => true) = true := by decide +kernel
set_option maxRecDepth 100000 in
theorem hn_kd78 : ∀ pc, pc < 42 → (match hn_k78 pc with | some q => decide (decode cX6_least pc = .ok q) | none => true) = true := by decide +kernel
set_option maxRecDepth 100000 in
theorem hn_kd79 : ∀ pc, pc < 36 → (match hn_k79 pc with | some q => decide (decode cX6_best pc = .ok q) | none => true) = true := by decide +kernel
set_option maxRecDepth 100000 in
theorem hn_kd80 : ∀ pc, pc < 72 → (match hn_k80 pc with | some q => decide (decode cX6_adopt pc = .ok q) | none => true) = true := by decide +kernel
set_option maxRecDepth 100000 in
theorem hn_kd81 : ∀ pc, pc < 101 → (match hn_k81 pc with | some q => decide (decode cX6_improve pc = .ok q) | none => true) = true := by decide +kernel
set_option maxRecDepth 100000 in
theorem hn_kd82 : ∀ pc, pc < 101 → (match hn_k82 pc with | some q => decide (decode cX6_cheapest pc = .ok q) | none => true) = true := by decide +kernel
set_option maxRecDepth 100000 in
theorem hn_kd83 : ∀ pc, pc < 43 → (match hn_k83 pc with | some q => decide (decode cX6_hubBound pc = .ok q) | none => true) = true := by decide +kernel
set_option maxRecDepth 100000 in
theorem hn_kd84 : ∀ pc, pc < 50 → (match hn_k84 pc with | some q => decide (decode cX6_bound pc = .ok q) | none => true) = true := by decide +kernel
set_option maxRecDepth 100000 in
theorem hn_kd85 : ∀ pc, pc < 34 → (match hn_k85 pc with | some q => decide (decode cX6_feasible pc = .ok q) | none => true) = true := by decide +kernel
set_option maxRecDepth 100000 in
theorem hn_kd86 : ∀ pc, pc < 38 → (match hn_k86 pc with | some q => decide (decode cX6_type pc = .ok q) | none => true) = true := by decide +kernel
set_option maxRecDepth 100000 in
theorem hn_kd87 : ∀ pc, pc < 18 → (match hn_k87 pc with | some q => decide (decode cX6_clearText pc = .ok q) | none => true) = true := by decide +kernel
set_option maxRecDepth 100000 in
theorem hn_kd88 : ∀ pc, pc < 8 → (match hn_k88 pc with | some q => decide (decode cX6_textFault pc = .ok q) | none => true) = true := by decide +kernel
set_option maxRecDepth 100000 in
theorem hn_kd89 : ∀ pc, pc < 59 → (match hn_k89 pc with | some q => decide (decode cX6_run pc = .ok q) | none => true) = true := by decide +kernel
set_option maxRecDepth 100000 in
theorem hn_kd90 : ∀ pc, pc < 27 → (match hn_k90 pc with | some q => decide (decode cX6_undo pc = .ok q) | none => true) = true := by decide +kernel
set_option maxRecDepth 100000 in
theorem hn_kd91 : ∀ pc, pc < 269 → (match hn_k91 pc with | some q => decide (decode cX6_digest pc = .ok q) | none => true) = true := by decide +kernel
set_option maxRecDepth 100000 in
theorem hn_kd92 : ∀ pc, pc < 18 → (match hn_k92 pc with | some q => decide (decode cX6_recorded pc = .ok q) | none => true) = true := by decide +kernel
set_option maxRecDepth 100000 in
theorem hn_kd93 : ∀ pc, pc < 147 → (match hn_k93 pc with | some q => decide (decode cX6_carryOut pc = .ok q) | none => true) = true := by decide +kernel
set_option maxRecDepth 100000 in
theorem hn_kd94 : ∀ pc, pc < 16 → (match hn_k94 pc with | some q => decide (decode cX6_inRange pc = .ok q) | none => true) = true := by decide +kernel
set_option maxRecDepth 100000 in
theorem hn_kd95 : ∀ pc, pc < 14 → (match hn_k95 pc with | some q => decide (decode cX6_contains pc = .ok q) | none => true) = true := by decide +kernel
set_option maxRecDepth 100000 in
theorem hn_kd96 : ∀ pc, pc < 144 → (match hn_k96 pc with | some q => decide (decode cX7_init pc = .ok q) | none => true) = true := by decide +kernel
set_option maxRecDepth 100000 in
theorem hn_kd97 : ∀ pc, pc < 16 → (match hn_k97 pc with | some q => decide (decode cX7_in pc = .ok q) | none => true) = true := by decide +kernel
set_option maxRecDepth 100000 in
theorem hn_kd98 : ∀ pc, pc < 31 → (match hn_k98 pc with | some q => decide (decode cX7_copies pc = .ok q) | none => true) = true := by decide +kernel
set_option maxRecDepth 100000 in
theorem hn_kd99 : ∀ pc, pc < 88 → (match hn_k99 pc with | some q => decide (decode cX7_records pc = .ok q) | none => true) = true := by decide +kernel
set_option maxRecDepth 100000 in
theorem hn_kd100 : ∀ pc, pc < 14 → (match hn_k100 pc with | some q => decide (decode cX7_isNode pc = .ok q) | none => true) = true := by decide +kernel
set_option maxRecDepth 100000 in
theorem hn_kd101 : ∀ pc, pc < 20 → (match hn_k101 pc with | some q => decide (decode cX7_isHub pc = .ok q) | none => true) = true := by decide +kernel
set_option maxRecDepth 100000 in
theorem hn_kd102 : ∀ pc, pc < 15 → (match hn_k102 pc with | some q => decide (decode cX7_flowOf pc = .ok q) | none => true) = true := by decide +kernel
set_option maxRecDepth 100000 in
theorem hn_kd103 : ∀ pc, pc < 66 → (match hn_k103 pc with | some q => decide (decode cX7_far pc = .ok q) | none => true) = true := by decide +kernel
set_option maxRecDepth 100000 in
theorem hn_kd104 : ∀ pc, pc < 140 → (match hn_k104 pc with | some q => decide (decode cX7_addNode pc = .ok q) | none => true) = true := by decide +kernel
set_option maxRecDepth 100000 in
theorem hn_kd105 : ∀ pc, pc < 67 → (match hn_k105 pc with | some q => decide (decode cX7_setFlow pc = .ok q) | none => true) = true := by decide +kernel
set_option maxRecDepth 100000 in
theorem hn_kd106 : ∀ pc, pc < 73 → (match hn_k106 pc with | some q => decide (decode cX7_setNode pc = .ok q) | none => true) = true := by decide +kernel
set_option maxRecDepth 100000 in
theorem hn_kd107 : ∀ pc, pc < 91 → (match hn_k107 pc with | some q => decide (decode cX7_setFactors pc = .ok q) | none => true) = true := by decide +kernel
set_option maxRecDepth 100000 in
theorem hn_kd108 : ∀ pc, pc < 97 → (match hn_k108 pc with | some q => decide (decode cX7_setCongestion pc = .ok q) | none => true) = true := by decide +kernel
set_option maxRecDepth 100000 in
theorem hn_kd109 : ∀ pc, pc < 7 → (match hn_k109 pc with | some q => decide (decode cX7_nodes pc = .ok q) | none => true) = true := by decide +kernel
set_option maxRecDepth 100000 in
theorem hn_kd110 : ∀ pc, pc < 69 → (match hn_k110 pc with | some q => decide (decode cX7_propertyOf pc = .ok q) | none => true) = true := by decide +kernel
set_option maxRecDepth 100000 in
theorem hn_kd111 : ∀ pc, pc < 32 → (match hn_k111 pc with | some q => decide (decode cX7_node pc = .ok q) | none => true) = true := by decide +kernel
set_option maxRecDepth 100000 in
theorem hn_kd112 : ∀ pc, pc < 28 → (match hn_k112 pc with | some q => decide (decode cX7_flow pc = .ok q) | none => true) = true := by decide +kernel
set_option maxRecDepth 100000 in
theorem hn_kd113 : ∀ pc, pc < 28 → (match hn_k113 pc with | some q => decide (decode cX7_distance pc = .ok q) | none => true) = true := by decide +kernel
set_option maxRecDepth 100000 in
theorem hn_kd114 : ∀ pc, pc < 34 → (match hn_k114 pc with | some q => decide (decode cX7_takesPresent pc = .ok q) | none => true) = true := by decide +kernel
set_option maxRecDepth 100000 in
theorem hn_kd115 : ∀ pc, pc < 62 → (match hn_k115 pc with | some q => decide (decode cX7_loadOf pc = .ok q) | none => true) = true := by decide +kernel
set_option maxRecDepth 100000 in
theorem hn_kd116 : ∀ pc, pc < 81 → (match hn_k116 pc with | some q => decide (decode cX7_trunkOf pc = .ok q) | none => true) = true := by decide +kernel
set_option maxRecDepth 100000 in
theorem hn_kd117 : ∀ pc, pc < 57 → (match hn_k117 pc with | some q => decide (decode cX7_isFeasible pc = .ok q) | none => true) = true := by decide +kernel
set_option maxRecDepth 100000 in
theorem hn_kd118 : ∀ pc, pc < 291 → (match hn_k118 pc with | some q => decide (decode cX7_partOf pc = .ok q) | none => true) = true := by decide +kernel
set_option maxRecDepth 100000 in
theorem hn_kd119 : ∀ pc, pc < 68 → (match hn_k119 pc with | some q => decide (decode cX7_congestionOf pc = .ok q) | none => true) = true := by decide +kernel
set_option maxRecDepth 100000 in
theorem hn_kd120 : ∀ pc, pc < 35 → (match hn_k120 pc with | some q => decide (decode cX7_costOf pc = .ok q) | none => true) = true := by decide +kernel
set_option maxRecDepth 100000 in
theorem hn_kd121 : ∀ pc, pc < 135 → (match hn_k121 pc with | some q => decide (decode cX7_setHub pc = .ok q) | none => true) = true := by decide +kernel
set_option maxRecDepth 100000 in
theorem hn_kd122 : ∀ pc, pc < 64 → (match hn_k122 pc with | some q => decide (decode cX7_assign pc = .ok q) | none => true) = true := by decide +kernel
set_option maxRecDepth 100000 in
theorem hn_kd123 : ∀ pc, pc < 7 → (match hn_k123 pc with | some q => decide (decode cX7_hubs pc = .ok q) | none => true) = true := by decide +kernel
set_option maxRecDepth 100000 in
theorem hn_kd124 : ∀ pc, pc < 23 → (match hn_k124 pc with | some q => decide (decode cX7_hubOf pc = .ok q) | none => true) = true := by decide +kernel
set_option maxRecDepth 100000 in
theorem hn_kd125 : ∀ pc, pc < 58 → (match hn_k125 pc with | some q => decide (decode cX7_isComplete pc = .ok q) | none => true) = true := by decide +kernel
set_option maxRecDepth 100000 in
theorem hn_kd126 : ∀ pc, pc < 34 → (match hn_k126 pc with | some q => decide (decode cX7_check pc = .ok q) | none => true) = true := by decide +kernel
set_option maxRecDepth 100000 in
theorem hn_kd127 : ∀ pc, pc < 34 → (match hn_k127 pc with | some q => decide (decode cX7_load pc = .ok q) | none => true) = true := by decide +kernel
set_option maxRecDepth 100000 in
theorem hn_kd128 : ∀ pc, pc < 56 → (match hn_k128 pc with | some q => decide (decode cX7_trunk pc = .ok q) | none => true) = true := by decide +kernel
set_option maxRecDepth 100000 in
theorem hn_kd129 : ∀ pc, pc < 55 → (match hn_k129 pc with | some q => decide (decode cX7_cost pc = .ok q) | none => true) = true := by decide +kernel
set_option maxRecDepth 100000 in
theorem hn_kd130 : ∀ pc, pc < 168 → (match hn_k130 pc with | some q => decide (decode cX7_path pc = .ok q) | none => true) = true := by decide +kernel
set_option maxRecDepth 100000 in
theorem hn_kd131 : ∀ pc, pc < 83 → (match hn_k131 pc with | some q => decide (decode cX7_change pc = .ok q) | none => true) = true := by decide +kernel
set_option maxRecDepth 100000 in
theorem hn_kd132 : ∀ pc, pc < 26 → (match hn_k132 pc with | some q => decide (decode cX7_bits pc = .ok q) | none => true) = true := by decide +kernel
set_option maxRecDepth 100000 in
theorem hn_kd133 : ∀ pc, pc < 44 → (match hn_k133 pc with | some q => decide (decode cX7_nextHub pc = .ok q) | none => true) = true := by decide +kernel
set_option maxRecDepth 100000 in
theorem hn_kd134 : ∀ pc, pc < 85 → (match hn_k134 pc with | some q => decide (decode cX7_steps pc = .ok q) | none => true) = true := by decide +kernel
set_option maxRecDepth 100000 in
theorem hn_kd135 : ∀ pc, pc < 113 → (match hn_k135 pc with | some q => decide (decode cX7_prepares pc = .ok q) | none => true) = true := by decide +kernel
set_option maxRecDepth 100000 in
theorem hn_kd136 : ∀ pc, pc < 350 → (match hn_k136 pc with | some q => decide (decode cX7_quickCost pc = .ok q) | none => true) = true := by decide +kernel
set_option maxRecDepth 100000 in
theorem hn_kd137 : ∀ pc, pc < 144 → (match hn_k137 pc with | some q => decide (decode cX7_finds pc = .ok q) | none => true) = true := by decide +kernel
set_option maxRecDepth 100000 in
theorem hn_kd138 : ∀ pc, pc < 41 → (match hn_k138 pc with | some q => decide (decode cX7_adopts pc = .ok q) | none => true) = true := by decide +kernel
set_option maxRecDepth 100000 in
theorem hn_kd139 : ∀ pc, pc < 47 → (match hn_k139 pc with | some q => decide (decode cX7_settle pc = .ok q) | none => true) = true := by decide +kernel
set_option maxRecDepth 100000 in
theorem hn_kd140 : ∀ pc, pc < 16 → (match hn_k140 pc with | some q => decide (decode cX7_isMask pc = .ok q) | none => true) = true := by decide +kernel
set_option maxRecDepth 100000 in
theorem hn_kd141 : ∀ pc, pc < 29 → (match hn_k141 pc with | some q => decide (decode cX7_least pc = .ok q) | none => true) = true := by decide +kernel
set_option maxRecDepth 100000 in
theorem hn_kd142 : ∀ pc, pc < 22 → (match hn_k142 pc with | some q => decide (decode cX7_feasible pc = .ok q) | none => true) = true := by decide +kernel
set_option maxRecDepth 100000 in
theorem hn_kd143 : ∀ pc, pc < 86 → (match hn_k143 pc with | some q => decide (decode cX7_bestMask pc = .ok q) | none => true) = true := by decide +kernel
set_option maxRecDepth 100000 in
theorem hn_kd144 : ∀ pc, pc < 31 → (match hn_k144 pc with | some q => decide (decode cX7_best pc = .ok q) | none => true) = true := by decide +kernel
set_option maxRecDepth 100000 in
theorem hn_kd145 : ∀ pc, pc < 43 → (match hn_k145 pc with | some q => decide (decode cX7_adopt pc = .ok q) | none => true) = true := by decide +kernel
set_option maxRecDepth 100000 in
theorem hn_kd146 : ∀ pc, pc < 173 → (match hn_k146 pc with | some q => decide (decode cX7_improve pc = .ok q) | none => true) = true := by decide +kernel
set_option maxRecDepth 100000 in
theorem hn_kd147 : ∀ pc, pc < 149 → (match hn_k147 pc with | some q => decide (decode cX7_unitOf pc = .ok q) | none => true) = true := by decide +kernel
set_option maxRecDepth 100000 in
theorem hn_kd148 : ∀ pc, pc < 83 → (match hn_k148 pc with | some q => decide (decode cX7_cheapest pc = .ok q) | none => true) = true := by decide +kernel
set_option maxRecDepth 100000 in
theorem hn_kd149 : ∀ pc, pc < 75 → (match hn_k149 pc with | some q => decide (decode cX7_boundOf pc = .ok q) | none => true) = true := by decide +kernel
set_option maxRecDepth 100000 in
theorem hn_kd150 : ∀ pc, pc < 71 → (match hn_k150 pc with | some q => decide (decode cX7_hubBound pc = .ok q) | none => true) = true := by decide +kernel
set_option maxRecDepth 100000 in
theorem hn_kd151 : ∀ pc, pc < 160 → (match hn_k151 pc with | some q => decide (decode cX7_bound pc = .ok q) | none => true) = true := by decide +kernel
set_option maxRecDepth 100000 in
theorem hn_kd152 : ∀ pc, pc < 51 → (match hn_k152 pc with | some q => decide (decode cX7_type pc = .ok q) | none => true) = true := by decide +kernel
set_option maxRecDepth 100000 in
theorem hn_kd153 : ∀ pc, pc < 12 → (match hn_k153 pc with | some q => decide (decode cX7_clearText pc = .ok q) | none => true) = true := by decide +kernel
set_option maxRecDepth 100000 in
theorem hn_kd154 : ∀ pc, pc < 63 → (match hn_k154 pc with | some q => decide (decode cX7_here pc = .ok q) | none => true) = true := by decide +kernel
set_option maxRecDepth 100000 in
theorem hn_kd155 : ∀ pc, pc < 152 → (match hn_k155 pc with | some q => decide (decode cX7_readsNumber pc = .ok q) | none => true) = true := by decide +kernel
set_option maxRecDepth 100000 in
theorem hn_kd156 : ∀ pc, pc < 251 → (match hn_k156 pc with | some q => decide (decode cX7_command pc = .ok q) | none => true) = true := by decide +kernel
set_option maxRecDepth 100000 in
theorem hn_kd157 : ∀ pc, pc < 162 → (match hn_k157 pc with | some q => decide (decode cX7_commands pc = .ok q) | none => true) = true := by decide +kernel
set_option maxRecDepth 100000 in
theorem hn_kd158 : ∀ pc, pc < 22 → (match hn_k158 pc with | some q => decide (decode cX7_textFault pc = .ok q) | none => true) = true := by decide +kernel
set_option maxRecDepth 100000 in
theorem hn_kd159 : ∀ pc, pc < 38 → (match hn_k159 pc with | some q => decide (decode cX7_run pc = .ok q) | none => true) = true := by decide +kernel
set_option maxRecDepth 100000 in
theorem hn_kd160 : ∀ pc, pc < 37 → (match hn_k160 pc with | some q => decide (decode cX7_undo pc = .ok q) | none => true) = true := by decide +kernel
set_option maxRecDepth 100000 in
theorem hn_kd161 : ∀ pc, pc < 15 → (match hn_k161 pc with | some q => decide (decode cX7_note pc = .ok q) | none => true) = true := by decide +kernel
set_option maxRecDepth 100000 in
theorem hn_kd162 : ∀ pc, pc < 163 → (match hn_k162 pc with | some q => decide (decode cX7_digest pc = .ok q) | none => true) = true := by decide +kernel
set_option maxRecDepth 100000 in
theorem hn_kd163 : ∀ pc, pc < 53 → (match hn_k163 pc with | some q => decide (decode cJ6_bitCount_0f7a4 pc = .ok q) | none => true) = true := by decide +kernel
set_option maxRecDepth 100000 in
theorem hn_kd164 : ∀ pc, pc < 11 → (match hn_k164 pc with | some q => decide (decode cJ9_abs_0f7a4 pc = .ok q) | none => true) = true := by decide +kernel
set_option maxRecDepth 100000 in
theorem hn_kd165 : ∀ pc, pc < 11 → (match hn_k165 pc with | some q => decide (decode cJ9_max_7cf53 pc = .ok q) | none => true) = true := by decide +kernel
set_option maxRecDepth 100000 in
theorem hn_kd166 : ∀ pc, pc < 11 → (match hn_k166 pc with | some q => decide (decode cJ9_min_7cf53 pc = .ok q) | none => true) = true := by decide +kernel
set_option maxRecDepth 100000 in
theorem hn_kd167 : ∀ pc, pc < 21 → (match hn_k167 pc with | some q => decide (decode cJ7_fill_53178 pc = .ok q) | none => true) = true := by decide +kernel
set_option maxRecDepth 100000 in
theorem hn_kd168_0 : ∀ pc, pc < 48 → (match hn_k168 (pc + 0) with | some q => decide (decode cL_law (pc + 0) = .ok q) | none => true) = true := by decide +kernel
set_option maxRecDepth 100000 in
theorem hn_kd168_1 : ∀ pc, pc < 48 → (match hn_k168 (pc + 48) with | some q => decide (decode cL_law (pc + 48) = .ok q) | none => true) = true := by decide +kernel
set_option maxRecDepth 100000 in
theorem hn_kd168_2 : ∀ pc, pc < 48 → (match hn_k168 (pc + 96) with | some q => decide (decode cL_law (pc + 96) = .ok q) | none => true) = true := by decide +kernel
set_option maxRecDepth 100000 in
theorem hn_kd168_3 : ∀ pc, pc < 48 → (match hn_k168 (pc + 144) with | some q => decide (decode cL_law (pc + 144) = .ok q) | none => true) = true := by decide +kernel
set_option maxRecDepth 100000 in
theorem hn_kd168_4 : ∀ pc, pc < 48 → (match hn_k168 (pc + 192) with | some q => decide (decode cL_law (pc + 192) = .ok q) | none => true) = true := by decide +kernel
set_option maxRecDepth 100000 in
theorem hn_kd168_5 : ∀ pc, pc < 48 → (match hn_k168 (pc + 240) with | some q => decide (decode cL_law (pc + 240) = .ok q) | none => true) = true := by decide +kernel
set_option maxRecDepth 100000 in
theorem hn_kd168_6 : ∀ pc, pc < 48 → (match hn_k168 (pc + 288) with | some q => decide (decode cL_law (pc + 288) = .ok q) | none => true) = true := by decide +kernel
set_option maxRecDepth 100000 in
theorem hn_kd168_7 : ∀ pc, pc < 48 → (match hn_k168 (pc + 336) with | some q => decide (decode cL_law (pc + 336) = .ok q) | none => true) = true := by decide +kernel
set_option maxRecDepth 100000 in
theorem hn_kd168_8 : ∀ pc, pc < 48 → (match hn_k168 (pc + 384) with | some q => decide (decode cL_law (pc + 384) = .ok q) | none => true) = true := by decide +kernel
set_option maxRecDepth 100000 in
theorem hn_kd168_9 : ∀ pc, pc < 48 → (match hn_k168 (pc + 432) with | some q => decide (decode cL_law (pc + 432) = .ok q) | none => true) = true := by decide +kernel
set_option maxRecDepth 100000 in
theorem hn_kd168_10 : ∀ pc, pc < 48 → (match hn_k168 (pc + 480) with | some q => decide (decode cL_law (pc + 480) = .ok q) | none => true) = true := by decide +kernel
set_option maxRecDepth 100000 in
theorem hn_kd168_11 : ∀ pc, pc < 48 → (match hn_k168 (pc + 528) with | some q => decide (decode cL_law (pc + 528) = .ok q) | none => true) = true := by decide +kernel
set_option maxRecDepth 100000 in
theorem hn_kd168_12 : ∀ pc, pc < 48 → (match hn_k168 (pc + 576) with | some q => decide (decode cL_law (pc + 576) = .ok q) | none => true) = true := by decide +kernel
set_option maxRecDepth 100000 in
theorem hn_kd168_13 : ∀ pc, pc < 48 → (match hn_k168 (pc + 624) with | some q => decide (decode cL_law (pc + 624) = .ok q) | none => true) = true := by decide +kernel
set_option maxRecDepth 100000 in
theorem hn_kd168_14 : ∀ pc, pc < 48 → (match hn_k168 (pc + 672) with | some q => decide (decode cL_law (pc + 672) = .ok q) | none => true) = true := by decide +kernel
set_option maxRecDepth 100000 in
theorem hn_kd168_15 : ∀ pc, pc < 48 → (match hn_k168 (pc + 720) with | some q => decide (decode cL_law (pc + 720) = .ok q) | none => true) = true := by decide +kernel
set_option maxRecDepth 100000 in
theorem hn_kd168_16 : ∀ pc, pc < 48 → (match hn_k168 (pc + 768) with | some q => decide (decode cL_law (pc + 768) = .ok q) | none => true) = true := by decide +kernel
set_option maxRecDepth 100000 in
theorem hn_kd168_17 : ∀ pc, pc < 48 → (match hn_k168 (pc + 816) with | some q => decide (decode cL_law (pc + 816) = .ok q) | none => true) = true := by decide +kernel
set_option maxRecDepth 100000 in
theorem hn_kd168_18 : ∀ pc, pc < 48 → (match hn_k168 (pc + 864) with | some q => decide (decode cL_law (pc + 864) = .ok q) | none => true) = true := by decide +kernel
set_option maxRecDepth 100000 in
theorem hn_kd168_19 : ∀ pc, pc < 48 → (match hn_k168 (pc + 912) with | some q => decide (decode cL_law (pc + 912) = .ok q) | none => true) = true := by decide +kernel
set_option maxRecDepth 100000 in
theorem hn_kd168_20 : ∀ pc, pc < 48 → (match hn_k168 (pc + 960) with | some q => decide (decode cL_law (pc + 960) = .ok q) | none => true) = true := by decide +kernel
set_option maxRecDepth 100000 in
theorem hn_kd168_21 : ∀ pc, pc < 48 → (match hn_k168 (pc + 1008) with | some q => decide (decode cL_law (pc + 1008) = .ok q) | none => true) = true := by decide +kernel
set_option maxRecDepth 100000 in
theorem hn_kd168_22 : ∀ pc, pc < 48 → (match hn_k168 (pc + 1056) with | some q => decide (decode cL_law (pc + 1056) = .ok q) | none => true) = true := by decide +kernel
set_option maxRecDepth 100000 in
theorem hn_kd168_23 : ∀ pc, pc < 48 → (match hn_k168 (pc + 1104) with | some q => decide (decode cL_law (pc + 1104) = .ok q) | none => true) = true := by decide +kernel
theorem hn_kd168 : ∀ pc, pc < 1121 → (match hn_k168 pc with | some q => decide (decode cL_law pc = .ok q) | none => true) = true := by
  intro pc h
  by_cases h0 : pc < 48
  · have e := hn_kd168_0 (pc - 0) (by omega)
    rwa [show pc - 0 + 0 = pc by omega] at e
  by_cases h1 : pc < 96
  · have e := hn_kd168_1 (pc - 48) (by omega)
    rwa [show pc - 48 + 48 = pc by omega] at e
  by_cases h2 : pc < 144
  · have e := hn_kd168_2 (pc - 96) (by omega)
    rwa [show pc - 96 + 96 = pc by omega] at e
  by_cases h3 : pc < 192
  · have e := hn_kd168_3 (pc - 144) (by omega)
    rwa [show pc - 144 + 144 = pc by omega] at e
  by_cases h4 : pc < 240
  · have e := hn_kd168_4 (pc - 192) (by omega)
    rwa [show pc - 192 + 192 = pc by omega] at e
  by_cases h5 : pc < 288
  · have e := hn_kd168_5 (pc - 240) (by omega)
    rwa [show pc - 240 + 240 = pc by omega] at e
  by_cases h6 : pc < 336
  · have e := hn_kd168_6 (pc - 288) (by omega)
    rwa [show pc - 288 + 288 = pc by omega] at e
  by_cases h7 : pc < 384
  · have e := hn_kd168_7 (pc - 336) (by omega)
    rwa [show pc - 336 + 336 = pc by omega] at e
  by_cases h8 : pc < 432
  · have e := hn_kd168_8 (pc - 384) (by omega)
    rwa [show pc - 384 + 384 = pc by omega] at e
  by_cases h9 : pc < 480
  · have e := hn_kd168_9 (pc - 432) (by omega)
    rwa [show pc - 432 + 432 = pc by omega] at e
  by_cases h10 : pc < 528
  · have e := hn_kd168_10 (pc - 480) (by omega)
    rwa [show pc - 480 + 480 = pc by omega] at e
  by_cases h11 : pc < 576
  · have e := hn_kd168_11 (pc - 528) (by omega)
    rwa [show pc - 528 + 528 = pc by omega] at e
  by_cases h12 : pc < 624
  · have e := hn_kd168_12 (pc - 576) (by omega)
    rwa [show pc - 576 + 576 = pc by omega] at e
  by_cases h13 : pc < 672
  · have e := hn_kd168_13 (pc - 624) (by omega)
    rwa [show pc - 624 + 624 = pc by omega] at e
  by_cases h14 : pc < 720
  · have e := hn_kd168_14 (pc - 672) (by omega)
    rwa [show pc - 672 + 672 = pc by omega] at e
  by_cases h15 : pc < 768
  · have e := hn_kd168_15 (pc - 720) (by omega)
    rwa [show pc - 720 + 720 = pc by omega] at e
  by_cases h16 : pc < 816
  · have e := hn_kd168_16 (pc - 768) (by omega)
    rwa [show pc - 768 + 768 = pc by omega] at e
  by_cases h17 : pc < 864
  · have e := hn_kd168_17 (pc - 816) (by omega)
    rwa [show pc - 816 + 816 = pc by omega] at e
  by_cases h18 : pc < 912
  · have e := hn_kd168_18 (pc - 864) (by omega)
    rwa [show pc - 864 + 864 = pc by omega] at e
  by_cases h19 : pc < 960
  · have e := hn_kd168_19 (pc - 912) (by omega)
    rwa [show pc - 912 + 912 = pc by omega] at e
  by_cases h20 : pc < 1008
  · have e := hn_kd168_20 (pc - 960) (by omega)
    rwa [show pc - 960 + 960 = pc by omega] at e
  by_cases h21 : pc < 1056
  · have e := hn_kd168_21 (pc - 1008) (by omega)
    rwa [show pc - 1008 + 1008 = pc by omega] at e
  by_cases h22 : pc < 1104
  · have e := hn_kd168_22 (pc - 1056) (by omega)
    rwa [show pc - 1056 + 1056 = pc by omega] at e
  by_cases h23 : pc < 1152
  · have e := hn_kd168_23 (pc - 1104) (by omega)
    rwa [show pc - 1104 + 1104 = pc by omega] at e
  omega
