/-- the words of the tables that ride with any start: every method takes them all -/
def gU : List Cond := lw_tbl.filter goodWord
theorem gU_in {w : Cond} (h : w ∈ lw_tbl) (hg : goodWord w = true) : w ∈ gU := List.mem_filter.mpr ⟨h, hg⟩
theorem gU_tbl {w : Cond} (h : w ∈ gU) : w ∈ lw_tbl := (List.mem_filter.mp h).1
theorem gU_good {w : Cond} (h : w ∈ gU) : goodWord w = true := (List.mem_filter.mp h).2
/-- the words of a method -/
abbrev wz (y : MethodName) (cc : ByteArray) (n : Nat) (r : Option FieldType) : List Cond := Cond.code y cc n r :: gU
abbrev wzH (y : MethodName) (cc : ByteArray) (n : Nat) (r : Option FieldType) (hh : List (Nat × Nat × Nat × Nat)) : List Cond := Cond.codeWith y cc n r hh :: gU
theorem gd_all {w0 w1 : Cond} (h : w1 ∈ gU) : GoodIn (w0 :: gU) (w1 :: gU) := fun w hw => (List.mem_cons.mp hw).elim (fun e => by subst e; exact ⟨List.mem_cons_of_mem _ h, good_of_word (gU_good h)⟩) (fun q => ⟨List.mem_cons_of_mem _ q, good_of_word (gU_good q)⟩)
theorem gd_cons {big ws : List Cond} {w0 w : Cond} (h : w ∈ gU) (hb : big = w0 :: gU) (hr : GoodIn big ws) : GoodIn big (w :: ws) := fun x hx => (List.mem_cons.mp hx).elim (fun e => by subst e; subst hb; exact ⟨List.mem_cons_of_mem _ h, good_of_word (gU_good h)⟩) (fun q => hr x q)
theorem gd_V {own C : String} {idx : Nat} {y : MethodName} {cc : ByteArray} {n : Nat} {r : Option FieldType} {w0 : Cond} (h1 : Cond.methodLink own idx y ∈ gU) (h2 : Cond.instanceMethod y ∈ gU) (h3 : Cond.selects C y y ∈ gU) (h4 : Cond.initialized C ∈ gU) (h5 : Cond.code y cc n r ∈ gU) : GoodIn (w0 :: gU) (wsV own idx C y (wz y cc n r)) := gd_cons h1 rfl (gd_cons h2 rfl (gd_cons h3 rfl (gd_cons h4 rfl (gd_all h5))))
theorem gd_S {own : String} {idx : Nat} {y : MethodName} {cc : ByteArray} {n : Nat} {r : Option FieldType} {w0 : Cond} (h1 : Cond.methodLink own idx y ∈ gU) (h2 : Cond.static y ∈ gU) (h4 : Cond.initialized y.cls ∈ gU) (h5 : Cond.code y cc n r ∈ gU) : GoodIn (w0 :: gU) (va_wsS own idx y (wz y cc n r)) := gd_cons h1 rfl (gd_cons h2 rfl (gd_cons h4 rfl (gd_all h5)))
theorem gd_SH {own : String} {idx : Nat} {y : MethodName} {cc : ByteArray} {n : Nat} {r : Option FieldType} {hh : List (Nat × Nat × Nat × Nat)} {w0 : Cond} (h1 : Cond.methodLink own idx y ∈ gU) (h2 : Cond.static y ∈ gU) (h4 : Cond.initialized y.cls ∈ gU) (h5 : Cond.codeWith y cc n r hh ∈ gU) : GoodIn (w0 :: gU) (va_wsS own idx y (wzH y cc n r hh)) := gd_cons h1 rfl (gd_cons h2 rfl (gd_cons h4 rfl (gd_all h5)))
theorem q0 : Cond.classLink RL 8 RX5 ∈ gU := gU_in (tb1 15 rfl) rfl
theorem q1 : Cond.instantiable RX5 7 ∈ gU := gU_in (tb1 16 rfl) rfl
theorem q2 : Cond.initialized RX5 ∈ gU := gU_in (tb1 1 rfl) rfl
theorem q3 : Cond.classLink RL 80 RX6 ∈ gU := gU_in (tb4 89 rfl) rfl
theorem q4 : Cond.instantiable RX6 21 ∈ gU := gU_in (tb4 90 rfl) rfl
theorem q5 : Cond.initialized RX6 ∈ gU := gU_in (tb1 7 rfl) rfl
theorem q6 : Cond.arrayClass .long ∈ gU := gU_in (tb1 110 rfl) rfl
theorem q7 : Cond.methodLink RL 79 yX5_init ∈ gU := gU_in (tb1 17 rfl) rfl
theorem q8 : Cond.instanceMethod yX5_init ∈ gU := gU_in (tb1 18 rfl) rfl
theorem q9 : Cond.code yX5_init cX5_init 1 none ∈ gU := gU_in (tb1 19 rfl) rfl
theorem q10 : Cond.methodLink RX5 3 objectInit ∈ gU := gU_in (tb1 20 rfl) rfl
theorem q11 : Cond.instanceMethod objectInit ∈ gU := gU_in (tb1 21 rfl) rfl
theorem q12 : Cond.code objectInit ⟨#[0xb1]⟩ 1 none ∈ gU := gU_in (tb1 22 rfl) rfl
theorem q13 : Cond.classLink RX5 9 RX0 ∈ gU := gU_in (tb1 23 rfl) rfl
theorem q14 : Cond.instantiable RX0 10 ∈ gU := gU_in (tb1 24 rfl) rfl
theorem q15 : Cond.initialized RX0 ∈ gU := gU_in (tb1 2 rfl) rfl
theorem q16 : Cond.fieldLink RX5 12 "GearBench" "bench" "LGearBench$Bench;" ∈ gU := gU_in (tb1 194 rfl) rfl
theorem q17 : Cond.classLink RX5 16 RX4 ∈ gU := gU_in (tb1 77 rfl) rfl
theorem q18 : Cond.instantiable RX4 7 ∈ gU := gU_in (tb1 78 rfl) rfl
theorem q19 : Cond.initialized RX4 ∈ gU := gU_in (tb1 3 rfl) rfl
theorem q20 : Cond.fieldLink RX5 19 "GearBench" "works" "LGearBench$Works;" ∈ gU := gU_in (tb1 195 rfl) rfl
theorem q21 : Cond.fieldLink RX5 23 "GearBench" "trial" "LGearBench$Bench;" ∈ gU := gU_in (tb1 196 rfl) rfl
theorem q22 : Cond.fieldLink RX5 26 "GearBench" "trialWorks" "LGearBench$Works;" ∈ gU := gU_in (tb1 197 rfl) rfl
theorem q23 : Cond.classLink RX5 29 RX2 ∈ gU := gU_in (tb1 112 rfl) rfl
theorem q24 : Cond.instantiable RX2 6 ∈ gU := gU_in (tb1 113 rfl) rfl
theorem q25 : Cond.initialized RX2 ∈ gU := gU_in (tb1 4 rfl) rfl
theorem q26 : Cond.fieldLink RX5 32 "GearBench" "row" "LGearBench$Row;" ∈ gU := gU_in (tb1 198 rfl) rfl
theorem q27 : Cond.classLink RX5 36 RX3 ∈ gU := gU_in (tb1 142 rfl) rfl
theorem q28 : Cond.instantiable RX3 7 ∈ gU := gU_in (tb1 143 rfl) rfl
theorem q29 : Cond.initialized RX3 ∈ gU := gU_in (tb1 5 rfl) rfl
theorem q30 : Cond.fieldLink RX5 39 "GearBench" "text" "LGearBench$Text;" ∈ gU := gU_in (tb1 199 rfl) rfl
theorem q31 : Cond.classLink RX5 43 RX1 ∈ gU := gU_in (tb1 175 rfl) rfl
theorem q32 : Cond.instantiable RX1 3 ∈ gU := gU_in (tb1 176 rfl) rfl
theorem q33 : Cond.initialized RX1 ∈ gU := gU_in (tb1 6 rfl) rfl
theorem q34 : Cond.fieldLink RX5 46 "GearBench" "history" "LGearBench$History;" ∈ gU := gU_in (tb1 200 rfl) rfl
theorem q35 : Cond.instanceMethod yX0_init ∈ gU := gU_in (tb1 26 rfl) rfl
theorem q36 : Cond.code yX0_init cX0_init 1 none ∈ gU := gU_in (tb1 27 rfl) rfl
theorem q37 : Cond.methodLink RX0 3 objectInit ∈ gU := gU_in (tb1 28 rfl) rfl
theorem q38 : Cond.arrayClass .int ∈ gU := gU_in (tb1 76 rfl) rfl
theorem q39 : Cond.fieldLink RX0 9 "GearBench$Bench" "x" "[I" ∈ gU := gU_in (tb1 29 rfl) rfl
theorem q40 : Cond.fieldLink RX0 15 "GearBench$Bench" "y" "[I" ∈ gU := gU_in (tb1 31 rfl) rfl
theorem q41 : Cond.fieldLink RX0 18 "GearBench$Bench" "kinds" "[I" ∈ gU := gU_in (tb1 33 rfl) rfl
theorem q42 : Cond.fieldLink RX0 21 "GearBench$Bench" "teeth" "[I" ∈ gU := gU_in (tb1 35 rfl) rfl
theorem q43 : Cond.fieldLink RX0 24 "GearBench$Bench" "pegs" "I" ∈ gU := gU_in (tb1 39 rfl) rfl
theorem q44 : Cond.fieldLink RX0 28 "GearBench$Bench" "driver" "I" ∈ gU := gU_in (tb1 43 rfl) rfl
theorem q45 : Cond.fieldLink RX0 31 "GearBench$Bench" "goalPeg" "I" ∈ gU := gU_in (tb1 46 rfl) rfl
theorem q46 : Cond.fieldLink RX0 34 "GearBench$Bench" "goalNumerator" "I" ∈ gU := gU_in (tb1 49 rfl) rfl
theorem q47 : Cond.fieldLink RX0 37 "GearBench$Bench" "goalDenominator" "I" ∈ gU := gU_in (tb1 51 rfl) rfl
theorem q48 : Cond.fieldLink RX0 40 "GearBench$Bench" "play" "I" ∈ gU := gU_in (tb1 53 rfl) rfl
theorem q49 : Cond.instanceMethod yX4_init ∈ gU := gU_in (tb1 80 rfl) rfl
theorem q50 : Cond.code yX4_init cX4_init 1 none ∈ gU := gU_in (tb1 81 rfl) rfl
theorem q51 : Cond.methodLink RX4 3 objectInit ∈ gU := gU_in (tb1 82 rfl) rfl
theorem q52 : Cond.fieldLink RX4 9 "GearBench$Works" "meshing" "[I" ∈ gU := gU_in (tb1 83 rfl) rfl
theorem q53 : Cond.fieldLink RX4 15 "GearBench$Works" "numerators" "[J" ∈ gU := gU_in (tb1 84 rfl) rfl
theorem q54 : Cond.fieldLink RX4 19 "GearBench$Works" "denominators" "[J" ∈ gU := gU_in (tb1 86 rfl) rfl
theorem q55 : Cond.arrayClass .boolean ∈ gU := gU_in (tb1 111 rfl) rfl
theorem q56 : Cond.fieldLink RX4 22 "GearBench$Works" "joined" "[Z" ∈ gU := gU_in (tb1 88 rfl) rfl
theorem q57 : Cond.fieldLink RX4 26 "GearBench$Works" "queue" "[I" ∈ gU := gU_in (tb1 90 rfl) rfl
theorem q58 : Cond.fieldLink RX4 29 "GearBench$Works" "joinedPegs" "I" ∈ gU := gU_in (tb1 91 rfl) rfl
theorem q59 : Cond.fieldLink RX4 33 "GearBench$Works" "jam" "Z" ∈ gU := gU_in (tb1 93 rfl) rfl
theorem q60 : Cond.instanceMethod yX2_init ∈ gU := gU_in (tb1 115 rfl) rfl
theorem q61 : Cond.code yX2_init cX2_init 1 none ∈ gU := gU_in (tb1 116 rfl) rfl
theorem q62 : Cond.methodLink RX2 3 objectInit ∈ gU := gU_in (tb1 117 rfl) rfl
theorem q63 : Cond.fieldLink RX2 9 "GearBench$Row" "pegs" "[I" ∈ gU := gU_in (tb1 118 rfl) rfl
theorem q64 : Cond.fieldLink RX2 15 "GearBench$Row" "stepsLeft" "[I" ∈ gU := gU_in (tb1 120 rfl) rfl
theorem q65 : Cond.fieldLink RX2 18 "GearBench$Row" "length" "I" ∈ gU := gU_in (tb1 121 rfl) rfl
theorem q66 : Cond.fieldLink RX2 22 "GearBench$Row" "idlers" "I" ∈ gU := gU_in (tb1 123 rfl) rfl
theorem q67 : Cond.fieldLink RX2 25 "GearBench$Row" "numerator" "J" ∈ gU := gU_in (tb1 125 rfl) rfl
theorem q68 : Cond.fieldLink RX2 29 "GearBench$Row" "denominator" "J" ∈ gU := gU_in (tb1 127 rfl) rfl
theorem q69 : Cond.instanceMethod yX3_init ∈ gU := gU_in (tb1 145 rfl) rfl
theorem q70 : Cond.code yX3_init cX3_init 1 none ∈ gU := gU_in (tb1 146 rfl) rfl
theorem q71 : Cond.methodLink RX3 3 objectInit ∈ gU := gU_in (tb1 147 rfl) rfl
theorem q72 : Cond.fieldLink RX3 9 "GearBench$Text" "codes" "[I" ∈ gU := gU_in (tb1 148 rfl) rfl
theorem q73 : Cond.fieldLink RX3 15 "GearBench$Text" "length" "I" ∈ gU := gU_in (tb1 149 rfl) rfl
theorem q74 : Cond.fieldLink RX3 19 "GearBench$Text" "letters" "[I" ∈ gU := gU_in (tb1 151 rfl) rfl
theorem q75 : Cond.fieldLink RX3 22 "GearBench$Text" "parts" "[I" ∈ gU := gU_in (tb1 153 rfl) rfl
theorem q76 : Cond.fieldLink RX3 25 "GearBench$Text" "orders" "I" ∈ gU := gU_in (tb1 154 rfl) rfl
theorem q77 : Cond.fieldLink RX3 28 "GearBench$Text" "at" "I" ∈ gU := gU_in (tb1 156 rfl) rfl
theorem q78 : Cond.fieldLink RX3 31 "GearBench$Text" "whole" "Z" ∈ gU := gU_in (tb1 158 rfl) rfl
theorem q79 : Cond.instanceMethod yX1_init ∈ gU := gU_in (tb1 178 rfl) rfl
theorem q80 : Cond.code yX1_init cX1_init 1 none ∈ gU := gU_in (tb1 179 rfl) rfl
theorem q81 : Cond.methodLink RX1 3 objectInit ∈ gU := gU_in (tb1 180 rfl) rfl
theorem q82 : Cond.classLink RX1 9 RX0 ∈ gU := gU_in (tb1 181 rfl) rfl
theorem q83 : Cond.fieldLink RX1 11 "GearBench$History" "slots" "[LGearBench$Bench;" ∈ gU := gU_in (tb1 183 rfl) rfl
theorem q84 : Cond.fieldLink RX1 17 "GearBench$History" "first" "I" ∈ gU := gU_in (tb1 184 rfl) rfl
theorem q85 : Cond.fieldLink RX1 21 "GearBench$History" "size" "I" ∈ gU := gU_in (tb1 185 rfl) rfl
theorem q86 : Cond.methodLink RL 82 yX6_init ∈ gU := gU_in (tb4 91 rfl) rfl
theorem q87 : Cond.instanceMethod yX6_init ∈ gU := gU_in (tb4 92 rfl) rfl
theorem q88 : Cond.code yX6_init cX6_init 1 none ∈ gU := gU_in (tb4 93 rfl) rfl
theorem q89 : Cond.methodLink RX6 1 objectInit ∈ gU := gU_in (tb4 94 rfl) rfl
theorem q90 : Cond.fieldLink RX6 7 "GearBenchModel" "s" "[I" ∈ gU := gU_in (tb4 96 rfl) rfl
theorem q91 : Cond.fieldLink RX6 13 "GearBenchModel" "aside" "[I" ∈ gU := gU_in (tb4 97 rfl) rfl
theorem q92 : Cond.fieldLink RX6 16 "GearBenchModel" "saved" "[I" ∈ gU := gU_in (tb4 98 rfl) rfl
theorem q93 : Cond.fieldLink RX6 19 "GearBenchModel" "text" "[I" ∈ gU := gU_in (tb4 100 rfl) rfl
theorem q94 : Cond.fieldLink RX6 22 "GearBenchModel" "above" "[J" ∈ gU := gU_in (tb4 102 rfl) rfl
theorem q95 : Cond.fieldLink RX6 26 "GearBenchModel" "below" "[J" ∈ gU := gU_in (tb4 103 rfl) rfl
theorem q96 : Cond.fieldLink RX6 29 "GearBenchModel" "isJoined" "[Z" ∈ gU := gU_in (tb4 104 rfl) rfl
theorem q97 : Cond.fieldLink RX6 33 "GearBenchModel" "told" "[I" ∈ gU := gU_in (tb4 110 rfl) rfl
theorem q98 : Cond.fieldLink RX6 36 "GearBenchModel" "steps" "[I" ∈ gU := gU_in (tb4 111 rfl) rfl
theorem q99 : Cond.fieldLink RX6 39 "GearBenchModel" "row" "[I" ∈ gU := gU_in (tb4 112 rfl) rfl
theorem q100 : Cond.methodLink RL 83 yL_addPeg ∈ gU := gU_in (tb3 4 rfl) rfl
theorem q101 : Cond.static yL_addPeg ∈ gU := gU_in (tb3 5 rfl) rfl
theorem q102 : Cond.initialized RL ∈ gU := gU_in (tb1 0 rfl) rfl
theorem q103 : Cond.codeWith yL_addPeg cL_addPeg 5 (some .int) [(0, 10, 13, 13), (0, 10, 17, 15)] ∈ gU := gU_in (tb3 6 rfl) rfl
theorem q104 : Cond.classLink RL 13 "java/lang/IllegalArgumentException" ∈ gU := gU_in (tb3 7 rfl) rfl
theorem q105 : Cond.classLink RL 15 "java/lang/IllegalStateException" ∈ gU := gU_in (tb3 8 rfl) rfl
theorem q106 : Cond.methodLink RL 7 yX5_addPeg ∈ gU := gU_in (tb3 9 rfl) rfl
theorem q107 : Cond.instanceMethod yX5_addPeg ∈ gU := gU_in (tb3 10 rfl) rfl
theorem q108 : Cond.selects RX5 yX5_addPeg yX5_addPeg ∈ gU := gU_in (tb3 11 rfl) rfl
theorem q109 : Cond.code yX5_addPeg cX5_addPeg 3 (some .int) ∈ gU := gU_in (tb3 12 rfl) rfl
theorem q110 : Cond.classLink RX5 61 "java/lang/IllegalStateException" ∈ gU := gU_in (tb3 96 rfl) rfl
theorem q111 : Cond.initialized "java/lang/IllegalStateException" ∈ gU := gU_in (tb1 13 rfl) rfl
theorem q112 : Cond.methodLink RX5 50 yX5_needPlace ∈ gU := gU_in (tb3 13 rfl) rfl
theorem q113 : Cond.static yX5_needPlace ∈ gU := gU_in (tb3 14 rfl) rfl
theorem q114 : Cond.code yX5_needPlace cX5_needPlace 2 none ∈ gU := gU_in (tb3 15 rfl) rfl
theorem q115 : Cond.methodLink RX5 86 yX5_need ∈ gU := gU_in (tb3 16 rfl) rfl
theorem q116 : Cond.static yX5_need ∈ gU := gU_in (tb3 17 rfl) rfl
theorem q117 : Cond.code yX5_need cX5_need 1 none ∈ gU := gU_in (tb3 18 rfl) rfl
theorem q118 : Cond.classLink RX5 273 "java/lang/IllegalArgumentException" ∈ gU := gU_in (tb3 19 rfl) rfl
theorem q119 : Cond.initialized "java/lang/IllegalArgumentException" ∈ gU := gU_in (tb1 11 rfl) rfl
theorem q120 : Cond.methodLink RX5 54 yX5_startTrial ∈ gU := gU_in (tb2 38 rfl) rfl
theorem q121 : Cond.instanceMethod yX5_startTrial ∈ gU := gU_in (tb2 40 rfl) rfl
theorem q122 : Cond.selects RX5 yX5_startTrial yX5_startTrial ∈ gU := gU_in (pv (List.mem_append_left _ (List.mem_of_getElem? (i := 10) rfl))) rfl
theorem q123 : Cond.code yX5_startTrial cX5_startTrial 1 none ∈ gU := gU_in (tb2 41 rfl) rfl
theorem q124 : Cond.instanceMethod yX0_copyFrom ∈ gU := gU_in (tb2 44 rfl) rfl
theorem q125 : Cond.selects RX0 yX0_copyFrom yX0_copyFrom ∈ gU := gU_in (pv (List.mem_append_left _ (List.mem_of_getElem? (i := 11) rfl))) rfl
theorem q126 : Cond.code yX0_copyFrom cX0_copyFrom 2 none ∈ gU := gU_in (tb2 45 rfl) rfl
theorem q127 : Cond.methodLink RX0 43 arraycopyName ∈ gU := gU_in (tb2 46 rfl) rfl
theorem q128 : Cond.native arraycopyName ∈ gU := gU_in (tb2 48 rfl) rfl
theorem q129 : Cond.static arraycopyName ∈ gU := gU_in (tb2 47 rfl) rfl
theorem q130 : Cond.initialized "java/lang/System" ∈ gU := gU_in (tb1 12 rfl) rfl
theorem q131 : Cond.instanceMethod yX0_tryAdd ∈ gU := gU_in (tb3 89 rfl) rfl
theorem q132 : Cond.selects RX0 yX0_tryAdd yX0_tryAdd ∈ gU := gU_in (pv (List.mem_append_right _ (List.mem_append_right _ (List.mem_append_right _ (List.mem_append_left _ (List.mem_of_getElem? (i := 2) rfl)))))) rfl
theorem q133 : Cond.code yX0_tryAdd cX0_tryAdd 4 (some .boolean) ∈ gU := gU_in (tb3 90 rfl) rfl
theorem q134 : Cond.methodLink RX0 49 yX0_pegAt ∈ gU := gU_in (tb3 91 rfl) rfl
theorem q135 : Cond.instanceMethod yX0_pegAt ∈ gU := gU_in (tb3 93 rfl) rfl
theorem q136 : Cond.selects RX0 yX0_pegAt yX0_pegAt ∈ gU := gU_in (pv (List.mem_append_right _ (List.mem_append_right _ (List.mem_append_right _ (List.mem_append_left _ (List.mem_of_getElem? (i := 3) rfl)))))) rfl
theorem q137 : Cond.code yX0_pegAt cX0_pegAt 4 (some .int) ∈ gU := gU_in (tb3 94 rfl) rfl
theorem q138 : Cond.methodLink RX0 53 yX0_replace ∈ gU := gU_in (tb3 95 rfl) rfl
theorem q139 : Cond.instanceMethod yX0_replace ∈ gU := gU_in (tb2 51 rfl) rfl
theorem q140 : Cond.selects RX0 yX0_replace yX0_replace ∈ gU := gU_in (pv (List.mem_append_left _ (List.mem_of_getElem? (i := 12) rfl))) rfl
theorem q141 : Cond.code yX0_replace cX0_replace 5 none ∈ gU := gU_in (tb2 52 rfl) rfl
theorem q142 : Cond.methodLink RX0 57 yX0_spot ∈ gU := gU_in (tb2 53 rfl) rfl
theorem q143 : Cond.static yX0_spot ∈ gU := gU_in (tb2 54 rfl) rfl
theorem q144 : Cond.code yX0_spot cX0_spot 2 (some .int) ∈ gU := gU_in (tb2 55 rfl) rfl
theorem q145 : Cond.methodLink RX5 68 yX5_keepTrial ∈ gU := gU_in (tb3 112 rfl) rfl
theorem q146 : Cond.instanceMethod yX5_keepTrial ∈ gU := gU_in (tb3 114 rfl) rfl
theorem q147 : Cond.selects RX5 yX5_keepTrial yX5_keepTrial ∈ gU := gU_in (pv (List.mem_append_right _ (List.mem_append_right _ (List.mem_append_right _ (List.mem_append_left _ (List.mem_of_getElem? (i := 4) rfl)))))) rfl
theorem q148 : Cond.code yX5_keepTrial cX5_keepTrial 1 none ∈ gU := gU_in (tb3 115 rfl) rfl
theorem q149 : Cond.instanceMethod yX1_save ∈ gU := gU_in (tb3 118 rfl) rfl
theorem q150 : Cond.selects RX1 yX1_save yX1_save ∈ gU := gU_in (pv (List.mem_append_right _ (List.mem_append_right _ (List.mem_append_right _ (List.mem_append_left _ (List.mem_of_getElem? (i := 5) rfl)))))) rfl
theorem q151 : Cond.code yX1_save cX1_save 4 none ∈ gU := gU_in (tb3 119 rfl) rfl
theorem q152 : Cond.instanceMethod yX4_solve ∈ gU := gU_in (tb2 58 rfl) rfl
theorem q153 : Cond.selects RX4 yX4_solve yX4_solve ∈ gU := gU_in (pv (List.mem_append_left _ (List.mem_of_getElem? (i := 13) rfl))) rfl
theorem q154 : Cond.code yX4_solve cX4_solve 3 none ∈ gU := gU_in (tb2 59 rfl) rfl
theorem q155 : Cond.methodLink RX4 37 yX4_findMeshing ∈ gU := gU_in (tb2 60 rfl) rfl
theorem q156 : Cond.instanceMethod yX4_findMeshing ∈ gU := gU_in (tb2 62 rfl) rfl
theorem q157 : Cond.selects RX4 yX4_findMeshing yX4_findMeshing ∈ gU := gU_in (pv (List.mem_append_left _ (List.mem_of_getElem? (i := 14) rfl))) rfl
theorem q158 : Cond.code yX4_findMeshing cX4_findMeshing 6 none ∈ gU := gU_in (tb2 63 rfl) rfl
theorem q159 : Cond.instanceMethod yX0_areMeshing ∈ gU := gU_in (tb2 66 rfl) rfl
theorem q160 : Cond.selects RX0 yX0_areMeshing yX0_areMeshing ∈ gU := gU_in (pv (List.mem_append_left _ (List.mem_of_getElem? (i := 15) rfl))) rfl
theorem q161 : Cond.code yX0_areMeshing cX0_areMeshing 6 (some .boolean) ∈ gU := gU_in (tb2 67 rfl) rfl
theorem q162 : Cond.methodLink RX0 72 yX0_meshDistance ∈ gU := gU_in (tb2 68 rfl) rfl
theorem q163 : Cond.instanceMethod yX0_meshDistance ∈ gU := gU_in (tb2 70 rfl) rfl
theorem q164 : Cond.selects RX0 yX0_meshDistance yX0_meshDistance ∈ gU := gU_in (pv (List.mem_append_right _ (List.mem_append_left _ (List.mem_of_getElem? (i := 0) rfl)))) rfl
theorem q165 : Cond.code yX0_meshDistance cX0_meshDistance 4 (some .int) ∈ gU := gU_in (tb2 71 rfl) rfl
theorem q166 : Cond.methodLink RX0 75 yX0_squareOfDistance ∈ gU := gU_in (tb2 72 rfl) rfl
theorem q167 : Cond.instanceMethod yX0_squareOfDistance ∈ gU := gU_in (tb2 74 rfl) rfl
theorem q168 : Cond.selects RX0 yX0_squareOfDistance yX0_squareOfDistance ∈ gU := gU_in (pv (List.mem_append_right _ (List.mem_append_left _ (List.mem_of_getElem? (i := 1) rfl)))) rfl
theorem q169 : Cond.code yX0_squareOfDistance cX0_squareOfDistance 5 (some .int) ∈ gU := gU_in (tb2 75 rfl) rfl
theorem q170 : Cond.methodLink RX0 78 yX0_leastSquare ∈ gU := gU_in (tb2 76 rfl) rfl
theorem q171 : Cond.instanceMethod yX0_leastSquare ∈ gU := gU_in (tb2 78 rfl) rfl
theorem q172 : Cond.selects RX0 yX0_leastSquare yX0_leastSquare ∈ gU := gU_in (pv (List.mem_append_right _ (List.mem_append_left _ (List.mem_of_getElem? (i := 2) rfl)))) rfl
theorem q173 : Cond.code yX0_leastSquare cX0_leastSquare 3 (some .int) ∈ gU := gU_in (tb2 79 rfl) rfl
theorem q174 : Cond.methodLink RX0 82 yX0_mostSquare ∈ gU := gU_in (tb2 80 rfl) rfl
theorem q175 : Cond.instanceMethod yX0_mostSquare ∈ gU := gU_in (tb2 82 rfl) rfl
theorem q176 : Cond.selects RX0 yX0_mostSquare yX0_mostSquare ∈ gU := gU_in (pv (List.mem_append_right _ (List.mem_append_left _ (List.mem_of_getElem? (i := 3) rfl)))) rfl
theorem q177 : Cond.code yX0_mostSquare cX0_mostSquare 3 (some .int) ∈ gU := gU_in (tb2 83 rfl) rfl
theorem q178 : Cond.methodLink RX4 41 yX4_stop ∈ gU := gU_in (tb2 84 rfl) rfl
theorem q179 : Cond.instanceMethod yX4_stop ∈ gU := gU_in (tb2 86 rfl) rfl
theorem q180 : Cond.selects RX4 yX4_stop yX4_stop ∈ gU := gU_in (pv (List.mem_append_right _ (List.mem_append_left _ (List.mem_of_getElem? (i := 4) rfl)))) rfl
theorem q181 : Cond.code yX4_stop cX4_stop 2 none ∈ gU := gU_in (tb2 87 rfl) rfl
theorem q182 : Cond.instanceMethod yX0_hasPeg ∈ gU := gU_in (tb2 90 rfl) rfl
theorem q183 : Cond.selects RX0 yX0_hasPeg yX0_hasPeg ∈ gU := gU_in (pv (List.mem_append_right _ (List.mem_append_left _ (List.mem_of_getElem? (i := 5) rfl)))) rfl
theorem q184 : Cond.code yX0_hasPeg cX0_hasPeg 2 (some .boolean) ∈ gU := gU_in (tb2 91 rfl) rfl
theorem q185 : Cond.methodLink RX4 53 yX4_join ∈ gU := gU_in (tb2 92 rfl) rfl
theorem q186 : Cond.instanceMethod yX4_join ∈ gU := gU_in (tb2 94 rfl) rfl
theorem q187 : Cond.selects RX4 yX4_join yX4_join ∈ gU := gU_in (pv (List.mem_append_right _ (List.mem_append_left _ (List.mem_of_getElem? (i := 6) rfl)))) rfl
theorem q188 : Cond.code yX4_join cX4_join 6 none ∈ gU := gU_in (tb2 95 rfl) rfl
theorem q189 : Cond.methodLink RX4 57 yX4_turnNeighbours ∈ gU := gU_in (tb2 96 rfl) rfl
theorem q190 : Cond.instanceMethod yX4_turnNeighbours ∈ gU := gU_in (tb2 98 rfl) rfl
theorem q191 : Cond.selects RX4 yX4_turnNeighbours yX4_turnNeighbours ∈ gU := gU_in (pv (List.mem_append_right _ (List.mem_append_left _ (List.mem_of_getElem? (i := 7) rfl)))) rfl
theorem q192 : Cond.code yX4_turnNeighbours cX4_turnNeighbours 5 none ∈ gU := gU_in (tb2 99 rfl) rfl
theorem q193 : Cond.methodLink RX4 68 yX4_meshOnLevel ∈ gU := gU_in (tb2 100 rfl) rfl
theorem q194 : Cond.instanceMethod yX4_meshOnLevel ∈ gU := gU_in (tb2 102 rfl) rfl
theorem q195 : Cond.selects RX4 yX4_meshOnLevel yX4_meshOnLevel ∈ gU := gU_in (pv (List.mem_append_right _ (List.mem_append_left _ (List.mem_of_getElem? (i := 8) rfl)))) rfl
theorem q196 : Cond.code yX4_meshOnLevel cX4_meshOnLevel 4 (some .boolean) ∈ gU := gU_in (tb2 103 rfl) rfl
theorem q197 : Cond.methodLink RX4 89 yX4_levelsOf ∈ gU := gU_in (tb2 104 rfl) rfl
theorem q198 : Cond.instanceMethod yX4_levelsOf ∈ gU := gU_in (tb2 106 rfl) rfl
theorem q199 : Cond.selects RX4 yX4_levelsOf yX4_levelsOf ∈ gU := gU_in (pv (List.mem_append_right _ (List.mem_append_left _ (List.mem_of_getElem? (i := 9) rfl)))) rfl
theorem q200 : Cond.code yX4_levelsOf cX4_levelsOf 3 (some .int) ∈ gU := gU_in (tb2 107 rfl) rfl
theorem q201 : Cond.methodLink RX4 71 yX4_turn ∈ gU := gU_in (tb2 108 rfl) rfl
theorem q202 : Cond.instanceMethod yX4_turn ∈ gU := gU_in (tb2 110 rfl) rfl
theorem q203 : Cond.selects RX4 yX4_turn yX4_turn ∈ gU := gU_in (pv (List.mem_append_right _ (List.mem_append_left _ (List.mem_of_getElem? (i := 10) rfl)))) rfl
theorem q204 : Cond.code yX4_turn cX4_turn 13 none ∈ gU := gU_in (tb2 111 rfl) rfl
theorem q205 : Cond.instanceMethod yX0_signedTeeth ∈ gU := gU_in (tb2 115 rfl) rfl
theorem q206 : Cond.selects RX0 yX0_signedTeeth yX0_signedTeeth ∈ gU := gU_in (pv (List.mem_append_right _ (List.mem_append_left _ (List.mem_of_getElem? (i := 11) rfl)))) rfl
theorem q207 : Cond.code yX0_signedTeeth cX0_signedTeeth 3 (some .int) ∈ gU := gU_in (tb2 116 rfl) rfl
theorem q208 : Cond.static yX5_commonDivisor ∈ gU := gU_in (tb2 28 rfl) rfl
theorem q209 : Cond.code yX5_commonDivisor cX5_commonDivisor 11 (some .long) ∈ gU := gU_in (tb2 29 rfl) rfl
theorem q210 : Cond.methodLink RL 88 yX6_addPeg ∈ gU := gU_in (tb4 163 rfl) rfl
theorem q211 : Cond.instanceMethod yX6_addPeg ∈ gU := gU_in (tb4 164 rfl) rfl
theorem q212 : Cond.selects RX6 yX6_addPeg yX6_addPeg ∈ gU := gU_in (tb4 165 rfl) rfl
theorem q213 : Cond.code yX6_addPeg cX6_addPeg 3 (some .int) ∈ gU := gU_in (tb4 166 rfl) rfl
theorem q214 : Cond.methodLink RX6 108 yX6_pegFault ∈ gU := gU_in (tb4 167 rfl) rfl
theorem q215 : Cond.instanceMethod yX6_pegFault ∈ gU := gU_in (tb4 169 rfl) rfl
theorem q216 : Cond.selects RX6 yX6_pegFault yX6_pegFault ∈ gU := gU_in (pv (List.mem_append_right _ (List.mem_append_right _ (List.mem_append_right _ (List.mem_append_right _ (List.mem_append_left _ (List.mem_of_getElem? (i := 2) rfl))))))) rfl
theorem q217 : Cond.code yX6_pegFault cX6_pegFault 3 (some .int) ∈ gU := gU_in (tb4 170 rfl) rfl
theorem q218 : Cond.methodLink RX6 97 yX6_isPlace ∈ gU := gU_in (tb4 171 rfl) rfl
theorem q219 : Cond.static yX6_isPlace ∈ gU := gU_in (tb4 172 rfl) rfl
theorem q220 : Cond.code yX6_isPlace cX6_isPlace 2 (some .boolean) ∈ gU := gU_in (tb4 173 rfl) rfl
theorem q221 : Cond.methodLink RX6 46 yX6_in ∈ gU := gU_in (tb4 174 rfl) rfl
theorem q222 : Cond.static yX6_in ∈ gU := gU_in (tb4 175 rfl) rfl
theorem q223 : Cond.code yX6_in cX6_in 3 (some .boolean) ∈ gU := gU_in (tb4 176 rfl) rfl
theorem q224 : Cond.methodLink RX6 101 yX6_pegAt ∈ gU := gU_in (tb4 177 rfl) rfl
theorem q225 : Cond.instanceMethod yX6_pegAt ∈ gU := gU_in (tb4 179 rfl) rfl
theorem q226 : Cond.selects RX6 yX6_pegAt yX6_pegAt ∈ gU := gU_in (pv (List.mem_append_right _ (List.mem_append_right _ (List.mem_append_right _ (List.mem_append_right _ (List.mem_append_left _ (List.mem_of_getElem? (i := 3) rfl))))))) rfl
theorem q227 : Cond.code yX6_pegAt cX6_pegAt 5 (some .int) ∈ gU := gU_in (tb4 180 rfl) rfl
theorem q228 : Cond.methodLink RX6 111 yX6_holds ∈ gU := gU_in (tb4 181 rfl) rfl
theorem q229 : Cond.instanceMethod yX6_holds ∈ gU := gU_in (tb4 183 rfl) rfl
theorem q230 : Cond.selects RX6 yX6_holds yX6_holds ∈ gU := gU_in (pv (List.mem_append_right _ (List.mem_append_right _ (List.mem_append_right _ (List.mem_append_right _ (List.mem_append_left _ (List.mem_of_getElem? (i := 4) rfl))))))) rfl
theorem q231 : Cond.code yX6_holds cX6_holds 2 (some .boolean) ∈ gU := gU_in (tb4 184 rfl) rfl
theorem q232 : Cond.fieldLink RX6 42 "GearBenchModel" "thrown" "I" ∈ gU := gU_in (tb4 95 rfl) rfl
theorem q233 : Cond.methodLink RX6 115 yX6_save ∈ gU := gU_in (tb4 185 rfl) rfl
theorem q234 : Cond.instanceMethod yX6_save ∈ gU := gU_in (tb4 187 rfl) rfl
theorem q235 : Cond.selects RX6 yX6_save yX6_save ∈ gU := gU_in (pv (List.mem_append_right _ (List.mem_append_right _ (List.mem_append_right _ (List.mem_append_right _ (List.mem_append_left _ (List.mem_of_getElem? (i := 5) rfl))))))) rfl
theorem q236 : Cond.code yX6_save cX6_save 2 none ∈ gU := gU_in (tb4 188 rfl) rfl
theorem q237 : Cond.fieldLink RX6 50 "GearBenchModel" "savedMany" "I" ∈ gU := gU_in (tb4 99 rfl) rfl
theorem q238 : Cond.methodLink RX6 118 yX6_pegs ∈ gU := gU_in (tb4 189 rfl) rfl
theorem q239 : Cond.instanceMethod yX6_pegs ∈ gU := gU_in (tb4 191 rfl) rfl
theorem q240 : Cond.selects RX6 yX6_pegs yX6_pegs ∈ gU := gU_in (pv (List.mem_append_right _ (List.mem_append_right _ (List.mem_append_right _ (List.mem_append_right _ (List.mem_append_left _ (List.mem_of_getElem? (i := 6) rfl))))))) rfl
theorem q241 : Cond.code yX6_pegs cX6_pegs 4 (some .int) ∈ gU := gU_in (tb4 192 rfl) rfl
theorem q242 : Cond.methodLink RX6 104 yX6_put ∈ gU := gU_in (tb4 193 rfl) rfl
theorem q243 : Cond.instanceMethod yX6_put ∈ gU := gU_in (tb4 195 rfl) rfl
theorem q244 : Cond.selects RX6 yX6_put yX6_put ∈ gU := gU_in (pv (List.mem_append_right _ (List.mem_append_right _ (List.mem_append_right _ (List.mem_append_right _ (List.mem_append_left _ (List.mem_of_getElem? (i := 7) rfl))))))) rfl
theorem q245 : Cond.code yX6_put cX6_put 5 none ∈ gU := gU_in (tb4 196 rfl) rfl
theorem q246 : Cond.methodLink RL 89 yX6_thrown ∈ gU := gU_in (tb4 159 rfl) rfl
theorem q247 : Cond.instanceMethod yX6_thrown ∈ gU := gU_in (tb4 160 rfl) rfl
theorem q248 : Cond.selects RX6 yX6_thrown yX6_thrown ∈ gU := gU_in (tb4 161 rfl) rfl
theorem q249 : Cond.code yX6_thrown cX6_thrown 1 (some .int) ∈ gU := gU_in (tb4 162 rfl) rfl
theorem q250 : Cond.methodLink RL 92 yL_putGear ∈ gU := gU_in (tb3 122 rfl) rfl
theorem q251 : Cond.static yL_putGear ∈ gU := gU_in (tb3 123 rfl) rfl
theorem q252 : Cond.codeWith yL_putGear cL_putGear 6 (some .int) [(0, 12, 15, 21), (0, 12, 19, 13), (0, 12, 23, 15)] ∈ gU := gU_in (tb3 124 rfl) rfl
theorem q253 : Cond.classLink RL 21 "java/lang/IndexOutOfBoundsException" ∈ gU := gU_in (tb3 125 rfl) rfl
theorem q254 : Cond.methodLink RL 17 yX5_putGear ∈ gU := gU_in (tb3 126 rfl) rfl
theorem q255 : Cond.instanceMethod yX5_putGear ∈ gU := gU_in (tb3 127 rfl) rfl
theorem q256 : Cond.selects RX5 yX5_putGear yX5_putGear ∈ gU := gU_in (tb3 128 rfl) rfl
theorem q257 : Cond.code yX5_putGear cX5_putGear 4 (some .int) ∈ gU := gU_in (tb3 129 rfl) rfl
theorem q258 : Cond.methodLink RX5 75 yX5_needPeg ∈ gU := gU_in (tb3 130 rfl) rfl
theorem q259 : Cond.instanceMethod yX5_needPeg ∈ gU := gU_in (tb3 132 rfl) rfl
theorem q260 : Cond.selects RX5 yX5_needPeg yX5_needPeg ∈ gU := gU_in (pv (List.mem_append_right _ (List.mem_append_right _ (List.mem_append_right _ (List.mem_append_left _ (List.mem_of_getElem? (i := 6) rfl)))))) rfl
theorem q261 : Cond.code yX5_needPeg cX5_needPeg 2 none ∈ gU := gU_in (tb3 133 rfl) rfl
theorem q262 : Cond.classLink RX5 268 "java/lang/IndexOutOfBoundsException" ∈ gU := gU_in (tb3 135 rfl) rfl
theorem q263 : Cond.initialized "java/lang/IndexOutOfBoundsException" ∈ gU := gU_in (tb1 14 rfl) rfl
theorem q264 : Cond.methodLink RX5 79 yX5_isLevel ∈ gU := gU_in (tb3 151 rfl) rfl
theorem q265 : Cond.static yX5_isLevel ∈ gU := gU_in (tb3 152 rfl) rfl
theorem q266 : Cond.code yX5_isLevel cX5_isLevel 1 (some .boolean) ∈ gU := gU_in (tb3 153 rfl) rfl
theorem q267 : Cond.methodLink RX5 83 yX5_isGear ∈ gU := gU_in (tb3 154 rfl) rfl
theorem q268 : Cond.static yX5_isGear ∈ gU := gU_in (tb3 155 rfl) rfl
theorem q269 : Cond.code yX5_isGear cX5_isGear 1 (some .boolean) ∈ gU := gU_in (tb3 156 rfl) rfl
theorem q270 : Cond.methodLink RX5 90 yX5_kindOfGear ∈ gU := gU_in (tb2 223 rfl) rfl
theorem q271 : Cond.static yX5_kindOfGear ∈ gU := gU_in (tb2 224 rfl) rfl
theorem q272 : Cond.code yX5_kindOfGear cX5_kindOfGear 1 (some .int) ∈ gU := gU_in (tb2 225 rfl) rfl
theorem q273 : Cond.methodLink RX5 94 yX5_putThing ∈ gU := gU_in (tb3 157 rfl) rfl
theorem q274 : Cond.instanceMethod yX5_putThing ∈ gU := gU_in (tb3 159 rfl) rfl
theorem q275 : Cond.selects RX5 yX5_putThing yX5_putThing ∈ gU := gU_in (pv (List.mem_append_right _ (List.mem_append_right _ (List.mem_append_right _ (List.mem_append_left _ (List.mem_of_getElem? (i := 7) rfl)))))) rfl
theorem q276 : Cond.code yX5_putThing cX5_putThing 5 (some .int) ∈ gU := gU_in (tb3 160 rfl) rfl
theorem q277 : Cond.instanceMethod yX0_tryPut ∈ gU := gU_in (tb3 163 rfl) rfl
theorem q278 : Cond.selects RX0 yX0_tryPut yX0_tryPut ∈ gU := gU_in (pv (List.mem_append_right _ (List.mem_append_right _ (List.mem_append_right _ (List.mem_append_left _ (List.mem_of_getElem? (i := 8) rfl)))))) rfl
theorem q279 : Cond.code yX0_tryPut cX0_tryPut 7 (some .boolean) ∈ gU := gU_in (tb3 164 rfl) rfl
theorem q280 : Cond.methodLink RX0 60 yX0_hasPeg ∈ gU := gU_in (tb3 165 rfl) rfl
theorem q281 : Cond.methodLink RX0 64 yX0_fits ∈ gU := gU_in (tb3 166 rfl) rfl
theorem q282 : Cond.instanceMethod yX0_fits ∈ gU := gU_in (tb2 228 rfl) rfl
theorem q283 : Cond.selects RX0 yX0_fits yX0_fits ∈ gU := gU_in (pv (List.mem_append_right _ (List.mem_append_right _ (List.mem_append_left _ (List.mem_of_getElem? (i := 15) rfl))))) rfl
theorem q284 : Cond.code yX0_fits cX0_fits 4 (some .boolean) ∈ gU := gU_in (tb2 229 rfl) rfl
theorem q285 : Cond.methodLink RX0 85 yX0_areOverlapping ∈ gU := gU_in (tb2 154 rfl) rfl
theorem q286 : Cond.instanceMethod yX0_areOverlapping ∈ gU := gU_in (tb2 156 rfl) rfl
theorem q287 : Cond.selects RX0 yX0_areOverlapping yX0_areOverlapping ∈ gU := gU_in (pv (List.mem_append_right _ (List.mem_append_right _ (List.mem_append_left _ (List.mem_of_getElem? (i := 2) rfl))))) rfl
theorem q288 : Cond.code yX0_areOverlapping cX0_areOverlapping 9 (some .boolean) ∈ gU := gU_in (tb2 157 rfl) rfl
theorem q289 : Cond.instanceMethod yX0_meshesOnLevel ∈ gU := gU_in (tb3 170 rfl) rfl
theorem q290 : Cond.selects RX0 yX0_meshesOnLevel yX0_meshesOnLevel ∈ gU := gU_in (pv (List.mem_append_right _ (List.mem_append_right _ (List.mem_append_right _ (List.mem_append_left _ (List.mem_of_getElem? (i := 9) rfl)))))) rfl
theorem q291 : Cond.code yX0_meshesOnLevel cX0_meshesOnLevel 5 (some .int) ∈ gU := gU_in (tb3 171 rfl) rfl
theorem q292 : Cond.methodLink RX0 89 yX0_areMeshing ∈ gU := gU_in (tb3 172 rfl) rfl
theorem q293 : Cond.methodLink RL 95 yX6_putGear ∈ gU := gU_in (tb4 197 rfl) rfl
theorem q294 : Cond.instanceMethod yX6_putGear ∈ gU := gU_in (tb4 198 rfl) rfl
theorem q295 : Cond.selects RX6 yX6_putGear yX6_putGear ∈ gU := gU_in (tb4 199 rfl) rfl
theorem q296 : Cond.code yX6_putGear cX6_putGear 4 (some .int) ∈ gU := gU_in (tb4 200 rfl) rfl
theorem q297 : Cond.methodLink RX6 130 yX6_putFault ∈ gU := gU_in (tb4 201 rfl) rfl
theorem q298 : Cond.instanceMethod yX6_putFault ∈ gU := gU_in (tb4 203 rfl) rfl
theorem q299 : Cond.selects RX6 yX6_putFault yX6_putFault ∈ gU := gU_in (pv (List.mem_append_right _ (List.mem_append_right _ (List.mem_append_right _ (List.mem_append_right _ (List.mem_append_left _ (List.mem_of_getElem? (i := 8) rfl))))))) rfl
theorem q300 : Cond.code yX6_putFault cX6_putFault 8 (some .int) ∈ gU := gU_in (tb4 204 rfl) rfl
theorem q301 : Cond.methodLink RX6 121 yX6_isPeg ∈ gU := gU_in (tb4 205 rfl) rfl
theorem q302 : Cond.instanceMethod yX6_isPeg ∈ gU := gU_in (tb4 207 rfl) rfl
theorem q303 : Cond.selects RX6 yX6_isPeg yX6_isPeg ∈ gU := gU_in (pv (List.mem_append_right _ (List.mem_append_right _ (List.mem_append_right _ (List.mem_append_right _ (List.mem_append_left _ (List.mem_of_getElem? (i := 9) rfl))))))) rfl
theorem q304 : Cond.code yX6_isPeg cX6_isPeg 2 (some .boolean) ∈ gU := gU_in (tb4 208 rfl) rfl
theorem q305 : Cond.methodLink RX6 53 yX6_kind ∈ gU := gU_in (tb4 209 rfl) rfl
theorem q306 : Cond.instanceMethod yX6_kind ∈ gU := gU_in (tb4 211 rfl) rfl
theorem q307 : Cond.selects RX6 yX6_kind yX6_kind ∈ gU := gU_in (pv (List.mem_append_right _ (List.mem_append_right _ (List.mem_append_right _ (List.mem_append_right _ (List.mem_append_left _ (List.mem_of_getElem? (i := 10) rfl))))))) rfl
theorem q308 : Cond.code yX6_kind cX6_kind 3 (some .int) ∈ gU := gU_in (tb4 212 rfl) rfl
theorem q309 : Cond.methodLink RX6 60 yX6_teeth ∈ gU := gU_in (tb4 213 rfl) rfl
theorem q310 : Cond.instanceMethod yX6_teeth ∈ gU := gU_in (tb4 215 rfl) rfl
theorem q311 : Cond.selects RX6 yX6_teeth yX6_teeth ∈ gU := gU_in (pv (List.mem_append_right _ (List.mem_append_right _ (List.mem_append_right _ (List.mem_append_right _ (List.mem_append_left _ (List.mem_of_getElem? (i := 11) rfl))))))) rfl
theorem q312 : Cond.code yX6_teeth cX6_teeth 3 (some .int) ∈ gU := gU_in (tb4 216 rfl) rfl
theorem q313 : Cond.methodLink RX6 124 yX6_overlaps ∈ gU := gU_in (tb4 217 rfl) rfl
theorem q314 : Cond.instanceMethod yX6_overlaps ∈ gU := gU_in (tb4 219 rfl) rfl
theorem q315 : Cond.selects RX6 yX6_overlaps yX6_overlaps ∈ gU := gU_in (pv (List.mem_append_right _ (List.mem_append_right _ (List.mem_append_right _ (List.mem_append_right _ (List.mem_append_left _ (List.mem_of_getElem? (i := 12) rfl))))))) rfl
theorem q316 : Cond.code yX6_overlaps cX6_overlaps 5 (some .int) ∈ gU := gU_in (tb4 220 rfl) rfl
theorem q317 : Cond.methodLink RX6 66 yX6_touch ∈ gU := gU_in (tb4 221 rfl) rfl
theorem q318 : Cond.instanceMethod yX6_touch ∈ gU := gU_in (tb4 223 rfl) rfl
theorem q319 : Cond.selects RX6 yX6_touch yX6_touch ∈ gU := gU_in (pv (List.mem_append_right _ (List.mem_append_right _ (List.mem_append_right _ (List.mem_append_right _ (List.mem_append_left _ (List.mem_of_getElem? (i := 13) rfl))))))) rfl
theorem q320 : Cond.code yX6_touch cX6_touch 15 (some .boolean) ∈ gU := gU_in (tb4 224 rfl) rfl
theorem q321 : Cond.methodLink RX6 57 yX6_square ∈ gU := gU_in (tb4 225 rfl) rfl
theorem q322 : Cond.instanceMethod yX6_square ∈ gU := gU_in (tb4 227 rfl) rfl
theorem q323 : Cond.selects RX6 yX6_square yX6_square ∈ gU := gU_in (pv (List.mem_append_right _ (List.mem_append_right _ (List.mem_append_right _ (List.mem_append_right _ (List.mem_append_left _ (List.mem_of_getElem? (i := 14) rfl))))))) rfl
theorem q324 : Cond.code yX6_square cX6_square 5 (some .int) ∈ gU := gU_in (tb4 228 rfl) rfl
theorem q325 : Cond.methodLink RX6 63 yX6_less ∈ gU := gU_in (tb4 229 rfl) rfl
theorem q326 : Cond.static yX6_less ∈ gU := gU_in (tb4 230 rfl) rfl
theorem q327 : Cond.code yX6_less cX6_less 2 (some .int) ∈ gU := gU_in (tb4 231 rfl) rfl
theorem q328 : Cond.methodLink RX6 134 yX6_puts ∈ gU := gU_in (tb4 232 rfl) rfl
theorem q329 : Cond.instanceMethod yX6_puts ∈ gU := gU_in (tb4 234 rfl) rfl
theorem q330 : Cond.selects RX6 yX6_puts yX6_puts ∈ gU := gU_in (pv (List.mem_append_right _ (List.mem_append_right _ (List.mem_append_right _ (List.mem_append_right _ (List.mem_append_left _ (List.mem_of_getElem? (i := 15) rfl))))))) rfl
theorem q331 : Cond.code yX6_puts cX6_puts 5 (some .int) ∈ gU := gU_in (tb4 235 rfl) rfl
theorem q332 : Cond.methodLink RX6 127 yX6_partners ∈ gU := gU_in (tb4 236 rfl) rfl
theorem q333 : Cond.instanceMethod yX6_partners ∈ gU := gU_in (tb4 238 rfl) rfl
theorem q334 : Cond.selects RX6 yX6_partners yX6_partners ∈ gU := gU_in (pv (List.mem_append_right _ (List.mem_append_right _ (List.mem_append_right _ (List.mem_append_right _ (List.mem_append_right _ (List.mem_append_left _ (List.mem_of_getElem? (i := 0) rfl)))))))) rfl
theorem q335 : Cond.code yX6_partners cX6_partners 5 (some .int) ∈ gU := gU_in (tb4 239 rfl) rfl
theorem q336 : Cond.methodLink RX6 73 yX6_meshed ∈ gU := gU_in (tb5 0 rfl) rfl
theorem q337 : Cond.instanceMethod yX6_meshed ∈ gU := gU_in (tb5 2 rfl) rfl
theorem q338 : Cond.selects RX6 yX6_meshed yX6_meshed ∈ gU := gU_in (pv (List.mem_append_right _ (List.mem_append_right _ (List.mem_append_right _ (List.mem_append_right _ (List.mem_append_right _ (List.mem_append_left _ (List.mem_of_getElem? (i := 1) rfl)))))))) rfl
theorem q339 : Cond.code yX6_meshed cX6_meshed 3 (some .int) ∈ gU := gU_in (tb5 3 rfl) rfl
theorem q340 : Cond.methodLink RX6 70 yX6_meshOn ∈ gU := gU_in (tb5 4 rfl) rfl
theorem q341 : Cond.instanceMethod yX6_meshOn ∈ gU := gU_in (tb5 6 rfl) rfl
theorem q342 : Cond.selects RX6 yX6_meshOn yX6_meshOn ∈ gU := gU_in (pv (List.mem_append_right _ (List.mem_append_right _ (List.mem_append_right _ (List.mem_append_right _ (List.mem_append_right _ (List.mem_append_left _ (List.mem_of_getElem? (i := 2) rfl)))))))) rfl
theorem q343 : Cond.code yX6_meshOn cX6_meshOn 4 (some .boolean) ∈ gU := gU_in (tb5 7 rfl) rfl
theorem q344 : Cond.methodLink RL 96 yL_putRing ∈ gU := gU_in (tb3 173 rfl) rfl
theorem q345 : Cond.static yL_putRing ∈ gU := gU_in (tb3 174 rfl) rfl
theorem q346 : Cond.codeWith yL_putRing cL_putRing 6 (some .int) [(0, 12, 15, 21), (0, 12, 19, 13), (0, 12, 23, 15)] ∈ gU := gU_in (tb3 175 rfl) rfl
theorem q347 : Cond.methodLink RL 23 yX5_putRing ∈ gU := gU_in (tb3 176 rfl) rfl
theorem q348 : Cond.instanceMethod yX5_putRing ∈ gU := gU_in (tb3 177 rfl) rfl
theorem q349 : Cond.selects RX5 yX5_putRing yX5_putRing ∈ gU := gU_in (tb3 178 rfl) rfl
theorem q350 : Cond.code yX5_putRing cX5_putRing 4 (some .int) ∈ gU := gU_in (tb3 179 rfl) rfl
theorem q351 : Cond.methodLink RL 98 yX6_putRing ∈ gU := gU_in (tb5 8 rfl) rfl
theorem q352 : Cond.instanceMethod yX6_putRing ∈ gU := gU_in (tb5 9 rfl) rfl
theorem q353 : Cond.selects RX6 yX6_putRing yX6_putRing ∈ gU := gU_in (tb5 10 rfl) rfl
theorem q354 : Cond.code yX6_putRing cX6_putRing 4 (some .int) ∈ gU := gU_in (tb5 11 rfl) rfl
theorem q355 : Cond.methodLink RL 99 yL_move ∈ gU := gU_in (tb3 180 rfl) rfl
theorem q356 : Cond.static yL_move ∈ gU := gU_in (tb3 181 rfl) rfl
theorem q357 : Cond.codeWith yL_move cL_move 6 (some .int) [(0, 12, 15, 21), (0, 12, 19, 13), (0, 12, 23, 15)] ∈ gU := gU_in (tb3 182 rfl) rfl
theorem q358 : Cond.methodLink RL 26 yX5_move ∈ gU := gU_in (tb3 183 rfl) rfl
theorem q359 : Cond.instanceMethod yX5_move ∈ gU := gU_in (tb3 184 rfl) rfl
theorem q360 : Cond.selects RX5 yX5_move yX5_move ∈ gU := gU_in (tb3 185 rfl) rfl
theorem q361 : Cond.code yX5_move cX5_move 4 (some .int) ∈ gU := gU_in (tb3 186 rfl) rfl
theorem q362 : Cond.instanceMethod yX0_tryShift ∈ gU := gU_in (tb3 189 rfl) rfl
theorem q363 : Cond.selects RX0 yX0_tryShift yX0_tryShift ∈ gU := gU_in (pv (List.mem_append_right _ (List.mem_append_right _ (List.mem_append_right _ (List.mem_append_left _ (List.mem_of_getElem? (i := 10) rfl)))))) rfl
theorem q364 : Cond.code yX0_tryShift cX0_tryShift 5 (some .boolean) ∈ gU := gU_in (tb3 190 rfl) rfl
theorem q365 : Cond.instanceMethod yX4_neighbours ∈ gU := gU_in (tb2 141 rfl) rfl
theorem q366 : Cond.selects RX4 yX4_neighbours yX4_neighbours ∈ gU := gU_in (pv (List.mem_append_right _ (List.mem_append_left _ (List.mem_of_getElem? (i := 15) rfl)))) rfl
theorem q367 : Cond.code yX4_neighbours cX4_neighbours 5 (some .int) ∈ gU := gU_in (tb2 142 rfl) rfl
theorem q368 : Cond.methodLink RL 101 yX6_move ∈ gU := gU_in (tb5 12 rfl) rfl
theorem q369 : Cond.instanceMethod yX6_move ∈ gU := gU_in (tb5 13 rfl) rfl
theorem q370 : Cond.selects RX6 yX6_move yX6_move ∈ gU := gU_in (tb5 14 rfl) rfl
theorem q371 : Cond.code yX6_move cX6_move 4 (some .int) ∈ gU := gU_in (tb5 15 rfl) rfl
theorem q372 : Cond.methodLink RX6 141 yX6_moveFault ∈ gU := gU_in (tb5 16 rfl) rfl
theorem q373 : Cond.instanceMethod yX6_moveFault ∈ gU := gU_in (tb5 18 rfl) rfl
theorem q374 : Cond.selects RX6 yX6_moveFault yX6_moveFault ∈ gU := gU_in (pv (List.mem_append_right _ (List.mem_append_right _ (List.mem_append_right _ (List.mem_append_right _ (List.mem_append_right _ (List.mem_append_left _ (List.mem_of_getElem? (i := 3) rfl)))))))) rfl
theorem q375 : Cond.code yX6_moveFault cX6_moveFault 8 (some .int) ∈ gU := gU_in (tb5 19 rfl) rfl
theorem q376 : Cond.methodLink RX6 137 yX6_goTo ∈ gU := gU_in (tb5 20 rfl) rfl
theorem q377 : Cond.instanceMethod yX6_goTo ∈ gU := gU_in (tb5 22 rfl) rfl
theorem q378 : Cond.selects RX6 yX6_goTo yX6_goTo ∈ gU := gU_in (pv (List.mem_append_right _ (List.mem_append_right _ (List.mem_append_right _ (List.mem_append_right _ (List.mem_append_right _ (List.mem_append_left _ (List.mem_of_getElem? (i := 4) rfl)))))))) rfl
theorem q379 : Cond.code yX6_goTo cX6_goTo 4 none ∈ gU := gU_in (tb5 23 rfl) rfl
theorem q380 : Cond.methodLink RL 102 yL_flip ∈ gU := gU_in (tb3 192 rfl) rfl
theorem q381 : Cond.static yL_flip ∈ gU := gU_in (tb3 193 rfl) rfl
theorem q382 : Cond.codeWith yL_flip cL_flip 4 (some .int) [(0, 9, 12, 21), (0, 9, 15, 15)] ∈ gU := gU_in (tb3 194 rfl) rfl
theorem q383 : Cond.methodLink RL 29 yX5_flip ∈ gU := gU_in (tb3 195 rfl) rfl
theorem q384 : Cond.instanceMethod yX5_flip ∈ gU := gU_in (tb3 196 rfl) rfl
theorem q385 : Cond.selects RX5 yX5_flip yX5_flip ∈ gU := gU_in (tb3 197 rfl) rfl
theorem q386 : Cond.code yX5_flip cX5_flip 2 (some .int) ∈ gU := gU_in (tb3 198 rfl) rfl
theorem q387 : Cond.instanceMethod yX0_tryTurnOver ∈ gU := gU_in (tb3 201 rfl) rfl
theorem q388 : Cond.selects RX0 yX0_tryTurnOver yX0_tryTurnOver ∈ gU := gU_in (pv (List.mem_append_right _ (List.mem_append_right _ (List.mem_append_right _ (List.mem_append_left _ (List.mem_of_getElem? (i := 11) rfl)))))) rfl
theorem q389 : Cond.code yX0_tryTurnOver cX0_tryTurnOver 4 (some .boolean) ∈ gU := gU_in (tb3 202 rfl) rfl
theorem q390 : Cond.methodLink RL 105 yX6_flip ∈ gU := gU_in (tb5 24 rfl) rfl
theorem q391 : Cond.instanceMethod yX6_flip ∈ gU := gU_in (tb5 25 rfl) rfl
theorem q392 : Cond.selects RX6 yX6_flip yX6_flip ∈ gU := gU_in (tb5 26 rfl) rfl
theorem q393 : Cond.code yX6_flip cX6_flip 2 (some .int) ∈ gU := gU_in (tb5 27 rfl) rfl
theorem q394 : Cond.methodLink RX6 149 yX6_flipFault ∈ gU := gU_in (tb5 28 rfl) rfl
theorem q395 : Cond.instanceMethod yX6_flipFault ∈ gU := gU_in (tb5 30 rfl) rfl
theorem q396 : Cond.selects RX6 yX6_flipFault yX6_flipFault ∈ gU := gU_in (pv (List.mem_append_right _ (List.mem_append_right _ (List.mem_append_right _ (List.mem_append_right _ (List.mem_append_right _ (List.mem_append_left _ (List.mem_of_getElem? (i := 5) rfl)))))))) rfl
theorem q397 : Cond.code yX6_flipFault cX6_flipFault 3 (some .int) ∈ gU := gU_in (tb5 31 rfl) rfl
theorem q398 : Cond.methodLink RX6 145 yX6_exchange ∈ gU := gU_in (tb5 32 rfl) rfl
theorem q399 : Cond.instanceMethod yX6_exchange ∈ gU := gU_in (tb5 34 rfl) rfl
theorem q400 : Cond.selects RX6 yX6_exchange yX6_exchange ∈ gU := gU_in (pv (List.mem_append_right _ (List.mem_append_right _ (List.mem_append_right _ (List.mem_append_right _ (List.mem_append_right _ (List.mem_append_left _ (List.mem_of_getElem? (i := 6) rfl)))))))) rfl
theorem q401 : Cond.code yX6_exchange cX6_exchange 4 none ∈ gU := gU_in (tb5 35 rfl) rfl
theorem q402 : Cond.methodLink RL 106 yL_drive ∈ gU := gU_in (tb3 204 rfl) rfl
theorem q403 : Cond.static yL_drive ∈ gU := gU_in (tb3 205 rfl) rfl
theorem q404 : Cond.codeWith yL_drive cL_drive 4 (some .int) [(0, 9, 12, 21)] ∈ gU := gU_in (tb3 206 rfl) rfl
theorem q405 : Cond.methodLink RL 33 yX5_drive ∈ gU := gU_in (tb3 207 rfl) rfl
theorem q406 : Cond.instanceMethod yX5_drive ∈ gU := gU_in (tb3 208 rfl) rfl
theorem q407 : Cond.selects RX5 yX5_drive yX5_drive ∈ gU := gU_in (tb3 209 rfl) rfl
theorem q408 : Cond.code yX5_drive cX5_drive 3 (some .int) ∈ gU := gU_in (tb3 210 rfl) rfl
theorem q409 : Cond.methodLink RL 108 yX6_drive ∈ gU := gU_in (tb5 36 rfl) rfl
theorem q410 : Cond.instanceMethod yX6_drive ∈ gU := gU_in (tb5 37 rfl) rfl
theorem q411 : Cond.selects RX6 yX6_drive yX6_drive ∈ gU := gU_in (tb5 38 rfl) rfl
theorem q412 : Cond.code yX6_drive cX6_drive 2 (some .int) ∈ gU := gU_in (tb5 39 rfl) rfl
theorem q413 : Cond.methodLink RX6 153 yX6_drives ∈ gU := gU_in (tb5 40 rfl) rfl
theorem q414 : Cond.instanceMethod yX6_drives ∈ gU := gU_in (tb5 42 rfl) rfl
theorem q415 : Cond.selects RX6 yX6_drives yX6_drives ∈ gU := gU_in (pv (List.mem_append_right _ (List.mem_append_right _ (List.mem_append_right _ (List.mem_append_right _ (List.mem_append_right _ (List.mem_append_left _ (List.mem_of_getElem? (i := 7) rfl)))))))) rfl
theorem q416 : Cond.code yX6_drives cX6_drives 3 (some .int) ∈ gU := gU_in (tb5 43 rfl) rfl
theorem q417 : Cond.methodLink RL 109 yL_goal ∈ gU := gU_in (tb3 211 rfl) rfl
theorem q418 : Cond.static yL_goal ∈ gU := gU_in (tb3 212 rfl) rfl
theorem q419 : Cond.codeWith yL_goal cL_goal 6 (some .int) [(0, 12, 15, 21), (0, 12, 19, 13)] ∈ gU := gU_in (tb3 213 rfl) rfl
theorem q420 : Cond.methodLink RL 36 yX5_goal ∈ gU := gU_in (tb3 214 rfl) rfl
theorem q421 : Cond.instanceMethod yX5_goal ∈ gU := gU_in (tb3 215 rfl) rfl
theorem q422 : Cond.selects RX5 yX5_goal yX5_goal ∈ gU := gU_in (tb3 216 rfl) rfl
theorem q423 : Cond.code yX5_goal cX5_goal 4 (some .int) ∈ gU := gU_in (tb3 217 rfl) rfl
theorem q424 : Cond.instanceMethod yX0_setGoal ∈ gU := gU_in (tb3 220 rfl) rfl
theorem q425 : Cond.selects RX0 yX0_setGoal yX0_setGoal ∈ gU := gU_in (pv (List.mem_append_right _ (List.mem_append_right _ (List.mem_append_right _ (List.mem_append_left _ (List.mem_of_getElem? (i := 12) rfl)))))) rfl
theorem q426 : Cond.code yX0_setGoal cX0_setGoal 5 none ∈ gU := gU_in (tb3 221 rfl) rfl
theorem q427 : Cond.instanceMethod yX4_reachesGoal ∈ gU := gU_in (tb2 148 rfl) rfl
theorem q428 : Cond.selects RX4 yX4_reachesGoal yX4_reachesGoal ∈ gU := gU_in (pv (List.mem_append_right _ (List.mem_append_right _ (List.mem_append_left _ (List.mem_of_getElem? (i := 0) rfl))))) rfl
theorem q429 : Cond.code yX4_reachesGoal cX4_reachesGoal 3 (some .boolean) ∈ gU := gU_in (tb2 149 rfl) rfl
theorem q430 : Cond.methodLink RX5 124 yX5_toNumber ∈ gU := gU_in (tb2 143 rfl) rfl
theorem q431 : Cond.static yX5_toNumber ∈ gU := gU_in (tb2 144 rfl) rfl
theorem q432 : Cond.code yX5_toNumber cX5_toNumber 1 (some .int) ∈ gU := gU_in (tb2 145 rfl) rfl
theorem q433 : Cond.methodLink RL 111 yX6_goal ∈ gU := gU_in (tb5 44 rfl) rfl
theorem q434 : Cond.instanceMethod yX6_goal ∈ gU := gU_in (tb5 45 rfl) rfl
theorem q435 : Cond.selects RX6 yX6_goal yX6_goal ∈ gU := gU_in (tb5 46 rfl) rfl
theorem q436 : Cond.code yX6_goal cX6_goal 5 (some .int) ∈ gU := gU_in (tb5 47 rfl) rfl
theorem q437 : Cond.methodLink RX6 78 yX6_common ∈ gU := gU_in (tb5 48 rfl) rfl
theorem q438 : Cond.static yX6_common ∈ gU := gU_in (tb5 49 rfl) rfl
theorem q439 : Cond.code yX6_common cX6_common 10 (some .long) ∈ gU := gU_in (tb5 50 rfl) rfl
theorem q440 : Cond.methodLink RX6 156 yX6_layOut ∈ gU := gU_in (tb5 51 rfl) rfl
theorem q441 : Cond.instanceMethod yX6_layOut ∈ gU := gU_in (tb5 53 rfl) rfl
theorem q442 : Cond.selects RX6 yX6_layOut yX6_layOut ∈ gU := gU_in (pv (List.mem_append_right _ (List.mem_append_right _ (List.mem_append_right _ (List.mem_append_right _ (List.mem_append_right _ (List.mem_append_left _ (List.mem_of_getElem? (i := 8) rfl)))))))) rfl
theorem q443 : Cond.code yX6_layOut cX6_layOut 5 none ∈ gU := gU_in (tb5 54 rfl) rfl
theorem q444 : Cond.fieldLink RX6 89 "GearBenchModel" "isJam" "Z" ∈ gU := gU_in (tb4 105 rfl) rfl
theorem q445 : Cond.fieldLink RX6 82 "GearBenchModel" "ratioAbove" "J" ∈ gU := gU_in (tb4 106 rfl) rfl
theorem q446 : Cond.fieldLink RX6 86 "GearBenchModel" "ratioBelow" "J" ∈ gU := gU_in (tb4 107 rfl) rfl
theorem q447 : Cond.methodLink RX6 93 yX6_goOn ∈ gU := gU_in (tb5 55 rfl) rfl
theorem q448 : Cond.instanceMethod yX6_goOn ∈ gU := gU_in (tb5 57 rfl) rfl
theorem q449 : Cond.selects RX6 yX6_goOn yX6_goOn ∈ gU := gU_in (pv (List.mem_append_right _ (List.mem_append_right _ (List.mem_append_right _ (List.mem_append_right _ (List.mem_append_right _ (List.mem_append_left _ (List.mem_of_getElem? (i := 9) rfl)))))))) rfl
theorem q450 : Cond.code yX6_goOn cX6_goOn 15 none ∈ gU := gU_in (tb5 58 rfl) rfl
theorem q451 : Cond.constantLong RX6 76 (-1) ∈ gU := gU_in (tb5 59 rfl) rfl
theorem q452 : Cond.methodLink RX6 159 yX6_isReached ∈ gU := gU_in (tb5 60 rfl) rfl
theorem q453 : Cond.instanceMethod yX6_isReached ∈ gU := gU_in (tb5 62 rfl) rfl
theorem q454 : Cond.selects RX6 yX6_isReached yX6_isReached ∈ gU := gU_in (pv (List.mem_append_right _ (List.mem_append_right _ (List.mem_append_right _ (List.mem_append_right _ (List.mem_append_right _ (List.mem_append_left _ (List.mem_of_getElem? (i := 10) rfl)))))))) rfl
theorem q455 : Cond.code yX6_isReached cX6_isReached 2 (some .boolean) ∈ gU := gU_in (tb5 63 rfl) rfl
theorem q456 : Cond.methodLink RL 112 yL_set ∈ gU := gU_in (tb3 223 rfl) rfl
theorem q457 : Cond.static yL_set ∈ gU := gU_in (tb3 224 rfl) rfl
theorem q458 : Cond.codeWith yL_set cL_set 4 (some .int) [(0, 9, 12, 13)] ∈ gU := gU_in (tb3 225 rfl) rfl
theorem q459 : Cond.methodLink RL 39 yX5_set ∈ gU := gU_in (tb3 226 rfl) rfl
theorem q460 : Cond.instanceMethod yX5_set ∈ gU := gU_in (tb3 227 rfl) rfl
theorem q461 : Cond.selects RX5 yX5_set yX5_set ∈ gU := gU_in (tb3 228 rfl) rfl
theorem q462 : Cond.code yX5_set cX5_set 3 (some .int) ∈ gU := gU_in (tb3 229 rfl) rfl
theorem q463 : Cond.methodLink RL 114 yX6_set ∈ gU := gU_in (tb5 64 rfl) rfl
theorem q464 : Cond.instanceMethod yX6_set ∈ gU := gU_in (tb5 65 rfl) rfl
theorem q465 : Cond.selects RX6 yX6_set yX6_set ∈ gU := gU_in (tb5 66 rfl) rfl
theorem q466 : Cond.code yX6_set cX6_set 3 (some .int) ∈ gU := gU_in (tb5 67 rfl) rfl
theorem q467 : Cond.methodLink RL 115 yL_append ∈ gU := gU_in (tb3 230 rfl) rfl
theorem q468 : Cond.static yL_append ∈ gU := gU_in (tb3 231 rfl) rfl
theorem q469 : Cond.codeWith yL_append cL_append 4 (some .int) [(0, 9, 12, 13), (0, 9, 15, 15)] ∈ gU := gU_in (tb3 232 rfl) rfl
theorem q470 : Cond.methodLink RL 42 yX5_append ∈ gU := gU_in (tb3 233 rfl) rfl
theorem q471 : Cond.instanceMethod yX5_append ∈ gU := gU_in (tb3 234 rfl) rfl
theorem q472 : Cond.selects RX5 yX5_append yX5_append ∈ gU := gU_in (tb3 235 rfl) rfl
theorem q473 : Cond.code yX5_append cX5_append 2 (some .int) ∈ gU := gU_in (tb3 236 rfl) rfl
theorem q474 : Cond.instanceMethod yX3_tryAppend ∈ gU := gU_in (tb3 239 rfl) rfl
theorem q475 : Cond.selects RX3 yX3_tryAppend yX3_tryAppend ∈ gU := gU_in (pv (List.mem_append_right _ (List.mem_append_right _ (List.mem_append_right _ (List.mem_append_left _ (List.mem_of_getElem? (i := 13) rfl)))))) rfl
theorem q476 : Cond.code yX3_tryAppend cX3_tryAppend 2 (some .boolean) ∈ gU := gU_in (tb4 0 rfl) rfl
theorem q477 : Cond.methodLink RL 117 yX6_append ∈ gU := gU_in (tb5 68 rfl) rfl
theorem q478 : Cond.instanceMethod yX6_append ∈ gU := gU_in (tb5 69 rfl) rfl
theorem q479 : Cond.selects RX6 yX6_append yX6_append ∈ gU := gU_in (tb5 70 rfl) rfl
theorem q480 : Cond.code yX6_append cX6_append 2 (some .int) ∈ gU := gU_in (tb5 71 rfl) rfl
theorem q481 : Cond.fieldLink RX6 163 "GearBenchModel" "length" "I" ∈ gU := gU_in (tb4 101 rfl) rfl
theorem q482 : Cond.methodLink RL 118 yX5_clearBuffer ∈ gU := gU_in (tb1 216 rfl) rfl
theorem q483 : Cond.instanceMethod yX5_clearBuffer ∈ gU := gU_in (tb1 217 rfl) rfl
theorem q484 : Cond.selects RX5 yX5_clearBuffer yX5_clearBuffer ∈ gU := gU_in (tb1 218 rfl) rfl
theorem q485 : Cond.code yX5_clearBuffer cX5_clearBuffer 2 (some .int) ∈ gU := gU_in (tb1 219 rfl) rfl
theorem q486 : Cond.methodLink RL 121 yX6_clearBuffer ∈ gU := gU_in (tb5 72 rfl) rfl
theorem q487 : Cond.instanceMethod yX6_clearBuffer ∈ gU := gU_in (tb5 73 rfl) rfl
theorem q488 : Cond.selects RX6 yX6_clearBuffer yX6_clearBuffer ∈ gU := gU_in (tb5 74 rfl) rfl
theorem q489 : Cond.code yX6_clearBuffer cX6_clearBuffer 2 (some .int) ∈ gU := gU_in (tb5 75 rfl) rfl
theorem q490 : Cond.methodLink RL 122 yX5_firstError ∈ gU := gU_in (tb1 220 rfl) rfl
theorem q491 : Cond.instanceMethod yX5_firstError ∈ gU := gU_in (tb1 221 rfl) rfl
theorem q492 : Cond.selects RX5 yX5_firstError yX5_firstError ∈ gU := gU_in (tb1 222 rfl) rfl
theorem q493 : Cond.code yX5_firstError cX5_firstError 1 (some .int) ∈ gU := gU_in (tb1 223 rfl) rfl
theorem q494 : Cond.instanceMethod yX3_read ∈ gU := gU_in (tb1 226 rfl) rfl
theorem q495 : Cond.selects RX3 yX3_read yX3_read ∈ gU := gU_in (pv (List.mem_append_left _ (List.mem_of_getElem? (i := 0) rfl))) rfl
theorem q496 : Cond.code yX3_read cX3_read 4 none ∈ gU := gU_in (tb1 227 rfl) rfl
theorem q497 : Cond.methodLink RX3 35 yX3_readOrder ∈ gU := gU_in (tb1 228 rfl) rfl
theorem q498 : Cond.instanceMethod yX3_readOrder ∈ gU := gU_in (tb1 230 rfl) rfl
theorem q499 : Cond.selects RX3 yX3_readOrder yX3_readOrder ∈ gU := gU_in (pv (List.mem_append_left _ (List.mem_of_getElem? (i := 1) rfl))) rfl
theorem q500 : Cond.code yX3_readOrder cX3_readOrder 2 (some .boolean) ∈ gU := gU_in (tb1 231 rfl) rfl
theorem q501 : Cond.methodLink RX3 43 yX3_readParts ∈ gU := gU_in (tb1 232 rfl) rfl
theorem q502 : Cond.instanceMethod yX3_readParts ∈ gU := gU_in (tb1 234 rfl) rfl
theorem q503 : Cond.selects RX3 yX3_readParts yX3_readParts ∈ gU := gU_in (pv (List.mem_append_left _ (List.mem_of_getElem? (i := 2) rfl))) rfl
theorem q504 : Cond.code yX3_readParts cX3_readParts 2 (some .boolean) ∈ gU := gU_in (tb1 235 rfl) rfl
theorem q505 : Cond.methodLink RX3 39 yX3_readSign ∈ gU := gU_in (tb1 236 rfl) rfl
theorem q506 : Cond.instanceMethod yX3_readSign ∈ gU := gU_in (tb1 238 rfl) rfl
theorem q507 : Cond.selects RX3 yX3_readSign yX3_readSign ∈ gU := gU_in (pv (List.mem_append_left _ (List.mem_of_getElem? (i := 3) rfl))) rfl
theorem q508 : Cond.code yX3_readSign cX3_readSign 2 (some .boolean) ∈ gU := gU_in (tb1 239 rfl) rfl
theorem q509 : Cond.methodLink RX3 46 yX3_readPart ∈ gU := gU_in (tb2 0 rfl) rfl
theorem q510 : Cond.instanceMethod yX3_readPart ∈ gU := gU_in (tb2 2 rfl) rfl
theorem q511 : Cond.selects RX3 yX3_readPart yX3_readPart ∈ gU := gU_in (pv (List.mem_append_left _ (List.mem_of_getElem? (i := 4) rfl))) rfl
theorem q512 : Cond.code yX3_readPart cX3_readPart 8 (some .boolean) ∈ gU := gU_in (tb2 3 rfl) rfl
theorem q513 : Cond.methodLink RX3 53 yX3_beginsNumber ∈ gU := gU_in (tb2 4 rfl) rfl
theorem q514 : Cond.static yX3_beginsNumber ∈ gU := gU_in (tb2 5 rfl) rfl
theorem q515 : Cond.code yX3_beginsNumber cX3_beginsNumber 3 (some .boolean) ∈ gU := gU_in (tb2 6 rfl) rfl
theorem q516 : Cond.methodLink RX3 50 yX3_readSpot ∈ gU := gU_in (tb2 7 rfl) rfl
theorem q517 : Cond.instanceMethod yX3_readSpot ∈ gU := gU_in (tb2 9 rfl) rfl
theorem q518 : Cond.selects RX3 yX3_readSpot yX3_readSpot ∈ gU := gU_in (pv (List.mem_append_left _ (List.mem_of_getElem? (i := 5) rfl))) rfl
theorem q519 : Cond.code yX3_readSpot cX3_readSpot 1 (some .boolean) ∈ gU := gU_in (tb2 10 rfl) rfl
theorem q520 : Cond.methodLink RL 125 yX6_firstError ∈ gU := gU_in (tb5 76 rfl) rfl
theorem q521 : Cond.instanceMethod yX6_firstError ∈ gU := gU_in (tb5 77 rfl) rfl
theorem q522 : Cond.selects RX6 yX6_firstError yX6_firstError ∈ gU := gU_in (tb5 78 rfl) rfl
theorem q523 : Cond.code yX6_firstError cX6_firstError 2 (some .int) ∈ gU := gU_in (tb5 79 rfl) rfl
theorem q524 : Cond.fieldLink RX6 169 "GearBenchModel" "isWrong" "Z" ∈ gU := gU_in (tb4 109 rfl) rfl
theorem q525 : Cond.fieldLink RX6 166 "GearBenchModel" "at" "I" ∈ gU := gU_in (tb4 108 rfl) rfl
theorem q526 : Cond.methodLink RX6 188 yX6_go ∈ gU := gU_in (tb5 80 rfl) rfl
theorem q527 : Cond.instanceMethod yX6_go ∈ gU := gU_in (tb5 82 rfl) rfl
theorem q528 : Cond.selects RX6 yX6_go yX6_go ∈ gU := gU_in (pv (List.mem_append_right _ (List.mem_append_right _ (List.mem_append_right _ (List.mem_append_right _ (List.mem_append_right _ (List.mem_append_left _ (List.mem_of_getElem? (i := 11) rfl)))))))) rfl
theorem q529 : Cond.code yX6_go cX6_go 6 (some .int) ∈ gU := gU_in (tb5 83 rfl) rfl
theorem q530 : Cond.methodLink RX6 182 yX6_order ∈ gU := gU_in (tb5 84 rfl) rfl
theorem q531 : Cond.instanceMethod yX6_order ∈ gU := gU_in (tb5 86 rfl) rfl
theorem q532 : Cond.selects RX6 yX6_order yX6_order ∈ gU := gU_in (pv (List.mem_append_right _ (List.mem_append_right _ (List.mem_append_right _ (List.mem_append_right _ (List.mem_append_right _ (List.mem_append_left _ (List.mem_of_getElem? (i := 12) rfl)))))))) rfl
theorem q533 : Cond.code yX6_order cX6_order 4 none ∈ gU := gU_in (tb5 87 rfl) rfl
theorem q534 : Cond.methodLink RX6 175 yX6_number ∈ gU := gU_in (tb5 88 rfl) rfl
theorem q535 : Cond.instanceMethod yX6_number ∈ gU := gU_in (tb5 90 rfl) rfl
theorem q536 : Cond.selects RX6 yX6_number yX6_number ∈ gU := gU_in (pv (List.mem_append_right _ (List.mem_append_right _ (List.mem_append_right _ (List.mem_append_right _ (List.mem_append_right _ (List.mem_append_left _ (List.mem_of_getElem? (i := 13) rfl)))))))) rfl
theorem q537 : Cond.code yX6_number cX6_number 4 (some .int) ∈ gU := gU_in (tb5 91 rfl) rfl
theorem q538 : Cond.methodLink RX6 172 yX6_sign ∈ gU := gU_in (tb5 92 rfl) rfl
theorem q539 : Cond.instanceMethod yX6_sign ∈ gU := gU_in (tb5 94 rfl) rfl
theorem q540 : Cond.selects RX6 yX6_sign yX6_sign ∈ gU := gU_in (pv (List.mem_append_right _ (List.mem_append_right _ (List.mem_append_right _ (List.mem_append_right _ (List.mem_append_right _ (List.mem_append_left _ (List.mem_of_getElem? (i := 14) rfl)))))))) rfl
theorem q541 : Cond.code yX6_sign cX6_sign 4 (some .int) ∈ gU := gU_in (tb5 95 rfl) rfl
theorem q542 : Cond.methodLink RX6 178 yX6_ringTeeth ∈ gU := gU_in (tb5 96 rfl) rfl
theorem q543 : Cond.instanceMethod yX6_ringTeeth ∈ gU := gU_in (tb5 98 rfl) rfl
theorem q544 : Cond.selects RX6 yX6_ringTeeth yX6_ringTeeth ∈ gU := gU_in (pv (List.mem_append_right _ (List.mem_append_right _ (List.mem_append_right _ (List.mem_append_right _ (List.mem_append_right _ (List.mem_append_left _ (List.mem_of_getElem? (i := 15) rfl)))))))) rfl
theorem q545 : Cond.code yX6_ringTeeth cX6_ringTeeth 3 (some .int) ∈ gU := gU_in (tb5 99 rfl) rfl
theorem q546 : Cond.methodLink RX6 185 yX6_does ∈ gU := gU_in (tb5 100 rfl) rfl
theorem q547 : Cond.instanceMethod yX6_does ∈ gU := gU_in (tb5 102 rfl) rfl
theorem q548 : Cond.selects RX6 yX6_does yX6_does ∈ gU := gU_in (pv (List.mem_append_right _ (List.mem_append_right _ (List.mem_append_right _ (List.mem_append_right _ (List.mem_append_right _ (List.mem_append_right _ (List.mem_append_left _ (List.mem_of_getElem? (i := 0) rfl))))))))) rfl
theorem q549 : Cond.code yX6_does cX6_does 7 (some .boolean) ∈ gU := gU_in (tb5 103 rfl) rfl
theorem q550 : Cond.methodLink RL 126 yL_build ∈ gU := gU_in (tb4 2 rfl) rfl
theorem q551 : Cond.static yL_build ∈ gU := gU_in (tb4 3 rfl) rfl
theorem q552 : Cond.codeWith yL_build cL_build 3 (some .int) [(0, 8, 11, 13)] ∈ gU := gU_in (tb4 4 rfl) rfl
theorem q553 : Cond.methodLink RL 45 yX5_build ∈ gU := gU_in (tb4 5 rfl) rfl
theorem q554 : Cond.instanceMethod yX5_build ∈ gU := gU_in (tb4 6 rfl) rfl
theorem q555 : Cond.selects RX5 yX5_build yX5_build ∈ gU := gU_in (tb4 7 rfl) rfl
theorem q556 : Cond.code yX5_build cX5_build 3 (some .int) ∈ gU := gU_in (tb4 8 rfl) rfl
theorem q557 : Cond.methodLink RX5 152 yX5_doOrder ∈ gU := gU_in (tb4 9 rfl) rfl
theorem q558 : Cond.instanceMethod yX5_doOrder ∈ gU := gU_in (tb4 11 rfl) rfl
theorem q559 : Cond.selects RX5 yX5_doOrder yX5_doOrder ∈ gU := gU_in (pv (List.mem_append_right _ (List.mem_append_right _ (List.mem_append_right _ (List.mem_append_left _ (List.mem_of_getElem? (i := 14) rfl)))))) rfl
theorem q560 : Cond.code yX5_doOrder cX5_doOrder 6 (some .boolean) ∈ gU := gU_in (tb4 12 rfl) rfl
theorem q561 : Cond.instanceMethod yX3_part ∈ gU := gU_in (tb4 15 rfl) rfl
theorem q562 : Cond.selects RX3 yX3_part yX3_part ∈ gU := gU_in (pv (List.mem_append_right _ (List.mem_append_right _ (List.mem_append_right _ (List.mem_append_left _ (List.mem_of_getElem? (i := 15) rfl)))))) rfl
theorem q563 : Cond.code yX3_part cX3_part 3 (some .int) ∈ gU := gU_in (tb4 16 rfl) rfl
theorem q564 : Cond.instanceMethod yX0_tryDrive ∈ gU := gU_in (tb4 19 rfl) rfl
theorem q565 : Cond.selects RX0 yX0_tryDrive yX0_tryDrive ∈ gU := gU_in (pv (List.mem_append_right _ (List.mem_append_right _ (List.mem_append_right _ (List.mem_append_right _ (List.mem_append_left _ (List.mem_of_getElem? (i := 0) rfl))))))) rfl
theorem q566 : Cond.code yX0_tryDrive cX0_tryDrive 2 (some .boolean) ∈ gU := gU_in (tb4 20 rfl) rfl
theorem q567 : Cond.methodLink RL 129 yX6_build ∈ gU := gU_in (tb5 104 rfl) rfl
theorem q568 : Cond.instanceMethod yX6_build ∈ gU := gU_in (tb5 105 rfl) rfl
theorem q569 : Cond.selects RX6 yX6_build yX6_build ∈ gU := gU_in (tb5 106 rfl) rfl
theorem q570 : Cond.code yX6_build cX6_build 3 (some .int) ∈ gU := gU_in (tb5 107 rfl) rfl
theorem q571 : Cond.methodLink RL 130 yL_undo ∈ gU := gU_in (tb4 21 rfl) rfl
theorem q572 : Cond.static yL_undo ∈ gU := gU_in (tb4 22 rfl) rfl
theorem q573 : Cond.codeWith yL_undo cL_undo 3 (some .int) [(0, 8, 11, 15)] ∈ gU := gU_in (tb4 23 rfl) rfl
theorem q574 : Cond.methodLink RL 49 yX5_undo ∈ gU := gU_in (tb4 24 rfl) rfl
theorem q575 : Cond.instanceMethod yX5_undo ∈ gU := gU_in (tb4 25 rfl) rfl
theorem q576 : Cond.selects RX5 yX5_undo yX5_undo ∈ gU := gU_in (tb4 26 rfl) rfl
theorem q577 : Cond.code yX5_undo cX5_undo 1 (some .int) ∈ gU := gU_in (tb4 27 rfl) rfl
theorem q578 : Cond.instanceMethod yX1_tryRestore ∈ gU := gU_in (tb4 30 rfl) rfl
theorem q579 : Cond.selects RX1 yX1_tryRestore yX1_tryRestore ∈ gU := gU_in (pv (List.mem_append_right _ (List.mem_append_right _ (List.mem_append_right _ (List.mem_append_right _ (List.mem_append_left _ (List.mem_of_getElem? (i := 1) rfl))))))) rfl
theorem q580 : Cond.code yX1_tryRestore cX1_tryRestore 3 (some .boolean) ∈ gU := gU_in (tb4 31 rfl) rfl
theorem q581 : Cond.methodLink RL 132 yX6_undo ∈ gU := gU_in (tb5 108 rfl) rfl
theorem q582 : Cond.instanceMethod yX6_undo ∈ gU := gU_in (tb5 109 rfl) rfl
theorem q583 : Cond.selects RX6 yX6_undo yX6_undo ∈ gU := gU_in (tb5 110 rfl) rfl
theorem q584 : Cond.code yX6_undo cX6_undo 2 (some .int) ∈ gU := gU_in (tb5 111 rfl) rfl
theorem q585 : Cond.methodLink RL 133 yL_peg ∈ gU := gU_in (tb4 33 rfl) rfl
theorem q586 : Cond.static yL_peg ∈ gU := gU_in (tb4 34 rfl) rfl
theorem q587 : Cond.codeWith yL_peg cL_peg 5 (some .int) [(0, 10, 13, 21), (0, 10, 17, 13)] ∈ gU := gU_in (tb4 35 rfl) rfl
theorem q588 : Cond.methodLink RL 52 yX5_peg ∈ gU := gU_in (tb4 36 rfl) rfl
theorem q589 : Cond.instanceMethod yX5_peg ∈ gU := gU_in (tb4 37 rfl) rfl
theorem q590 : Cond.selects RX5 yX5_peg yX5_peg ∈ gU := gU_in (tb4 38 rfl) rfl
theorem q591 : Cond.code yX5_peg cX5_peg 3 (some .int) ∈ gU := gU_in (tb4 39 rfl) rfl
theorem q592 : Cond.methodLink RX5 167 yX5_pegProperty ∈ gU := gU_in (tb2 166 rfl) rfl
theorem q593 : Cond.instanceMethod yX5_pegProperty ∈ gU := gU_in (tb2 168 rfl) rfl
theorem q594 : Cond.selects RX5 yX5_pegProperty yX5_pegProperty ∈ gU := gU_in (pv (List.mem_append_right _ (List.mem_append_right _ (List.mem_append_left _ (List.mem_of_getElem? (i := 4) rfl))))) rfl
theorem q595 : Cond.code yX5_pegProperty cX5_pegProperty 3 (some .int) ∈ gU := gU_in (tb2 169 rfl) rfl
theorem q596 : Cond.instanceMethod yX4_direction ∈ gU := gU_in (tb2 25 rfl) rfl
theorem q597 : Cond.selects RX4 yX4_direction yX4_direction ∈ gU := gU_in (pv (List.mem_append_left _ (List.mem_of_getElem? (i := 8) rfl))) rfl
theorem q598 : Cond.code yX4_direction cX4_direction 2 (some .int) ∈ gU := gU_in (tb2 26 rfl) rfl
theorem q599 : Cond.methodLink RL 135 yX6_peg ∈ gU := gU_in (tb5 112 rfl) rfl
theorem q600 : Cond.instanceMethod yX6_peg ∈ gU := gU_in (tb5 113 rfl) rfl
theorem q601 : Cond.selects RX6 yX6_peg yX6_peg ∈ gU := gU_in (tb5 114 rfl) rfl
theorem q602 : Cond.code yX6_peg cX6_peg 3 (some .int) ∈ gU := gU_in (tb5 115 rfl) rfl
theorem q603 : Cond.methodLink RX6 192 yX6_pegOf ∈ gU := gU_in (tb5 116 rfl) rfl
theorem q604 : Cond.instanceMethod yX6_pegOf ∈ gU := gU_in (tb5 118 rfl) rfl
theorem q605 : Cond.selects RX6 yX6_pegOf yX6_pegOf ∈ gU := gU_in (pv (List.mem_append_right _ (List.mem_append_right _ (List.mem_append_right _ (List.mem_append_right _ (List.mem_append_right _ (List.mem_append_right _ (List.mem_append_left _ (List.mem_of_getElem? (i := 1) rfl))))))))) rfl
theorem q606 : Cond.code yX6_pegOf cX6_pegOf 3 (some .int) ∈ gU := gU_in (tb5 119 rfl) rfl
theorem q607 : Cond.methodLink RL 136 yL_speed ∈ gU := gU_in (tb4 40 rfl) rfl
theorem q608 : Cond.static yL_speed ∈ gU := gU_in (tb4 41 rfl) rfl
theorem q609 : Cond.codeWith yL_speed cL_speed 5 (some .int) [(0, 9, 12, 21), (0, 9, 16, 13)] ∈ gU := gU_in (tb4 42 rfl) rfl
theorem q610 : Cond.methodLink RL 55 yX5_speed ∈ gU := gU_in (tb4 43 rfl) rfl
theorem q611 : Cond.instanceMethod yX5_speed ∈ gU := gU_in (tb4 44 rfl) rfl
theorem q612 : Cond.selects RX5 yX5_speed yX5_speed ∈ gU := gU_in (tb4 45 rfl) rfl
theorem q613 : Cond.code yX5_speed cX5_speed 3 (some .long) ∈ gU := gU_in (tb4 46 rfl) rfl
theorem q614 : Cond.methodLink RL 138 yX6_speed ∈ gU := gU_in (tb5 120 rfl) rfl
theorem q615 : Cond.instanceMethod yX6_speed ∈ gU := gU_in (tb5 121 rfl) rfl
theorem q616 : Cond.selects RX6 yX6_speed yX6_speed ∈ gU := gU_in (tb5 122 rfl) rfl
theorem q617 : Cond.code yX6_speed cX6_speed 3 (some .long) ∈ gU := gU_in (tb5 123 rfl) rfl
theorem q618 : Cond.methodLink RL 139 yL_meshes ∈ gU := gU_in (tb4 47 rfl) rfl
theorem q619 : Cond.static yL_meshes ∈ gU := gU_in (tb4 48 rfl) rfl
theorem q620 : Cond.codeWith yL_meshes cL_meshes 5 (some .int) [(0, 10, 13, 21)] ∈ gU := gU_in (tb4 49 rfl) rfl
theorem q621 : Cond.methodLink RL 59 yX5_meshes ∈ gU := gU_in (tb4 50 rfl) rfl
theorem q622 : Cond.instanceMethod yX5_meshes ∈ gU := gU_in (tb4 51 rfl) rfl
theorem q623 : Cond.selects RX5 yX5_meshes yX5_meshes ∈ gU := gU_in (tb4 52 rfl) rfl
theorem q624 : Cond.code yX5_meshes cX5_meshes 3 (some .int) ∈ gU := gU_in (tb4 53 rfl) rfl
theorem q625 : Cond.methodLink RL 141 yX6_meshes ∈ gU := gU_in (tb5 124 rfl) rfl
theorem q626 : Cond.instanceMethod yX6_meshes ∈ gU := gU_in (tb5 125 rfl) rfl
theorem q627 : Cond.selects RX6 yX6_meshes yX6_meshes ∈ gU := gU_in (tb5 126 rfl) rfl
theorem q628 : Cond.code yX6_meshes cX6_meshes 3 (some .int) ∈ gU := gU_in (tb5 127 rfl) rfl
theorem q629 : Cond.methodLink RL 142 yL_train ∈ gU := gU_in (tb4 54 rfl) rfl
theorem q630 : Cond.static yL_train ∈ gU := gU_in (tb4 55 rfl) rfl
theorem q631 : Cond.codeWith yL_train cL_train 6 (some .int) [(0, 12, 15, 21), (0, 12, 19, 13)] ∈ gU := gU_in (tb4 56 rfl) rfl
theorem q632 : Cond.methodLink RL 62 yX5_train ∈ gU := gU_in (tb4 57 rfl) rfl
theorem q633 : Cond.instanceMethod yX5_train ∈ gU := gU_in (tb4 58 rfl) rfl
theorem q634 : Cond.selects RX5 yX5_train yX5_train ∈ gU := gU_in (tb4 59 rfl) rfl
theorem q635 : Cond.code yX5_train cX5_train 4 (some .int) ∈ gU := gU_in (tb4 60 rfl) rfl
theorem q636 : Cond.instanceMethod yX2_find ∈ gU := gU_in (tb2 179 rfl) rfl
theorem q637 : Cond.selects RX2 yX2_find yX2_find ∈ gU := gU_in (pv (List.mem_append_right _ (List.mem_append_right _ (List.mem_append_left _ (List.mem_of_getElem? (i := 6) rfl))))) rfl
theorem q638 : Cond.code yX2_find cX2_find 6 none ∈ gU := gU_in (tb2 180 rfl) rfl
theorem q639 : Cond.methodLink RX2 32 yX2_findStepsLeft ∈ gU := gU_in (tb2 181 rfl) rfl
theorem q640 : Cond.instanceMethod yX2_findStepsLeft ∈ gU := gU_in (tb2 183 rfl) rfl
theorem q641 : Cond.selects RX2 yX2_findStepsLeft yX2_findStepsLeft ∈ gU := gU_in (pv (List.mem_append_right _ (List.mem_append_right _ (List.mem_append_left _ (List.mem_of_getElem? (i := 7) rfl))))) rfl
theorem q642 : Cond.code yX2_findStepsLeft cX2_findStepsLeft 6 none ∈ gU := gU_in (tb2 184 rfl) rfl
theorem q643 : Cond.methodLink RX2 47 yX2_reachNeighbours ∈ gU := gU_in (tb2 185 rfl) rfl
theorem q644 : Cond.instanceMethod yX2_reachNeighbours ∈ gU := gU_in (tb2 187 rfl) rfl
theorem q645 : Cond.selects RX2 yX2_reachNeighbours yX2_reachNeighbours ∈ gU := gU_in (pv (List.mem_append_right _ (List.mem_append_right _ (List.mem_append_left _ (List.mem_of_getElem? (i := 8) rfl))))) rfl
theorem q646 : Cond.code yX2_reachNeighbours cX2_reachNeighbours 5 none ∈ gU := gU_in (tb2 188 rfl) rfl
theorem q647 : Cond.methodLink RX2 36 yX2_addNext ∈ gU := gU_in (tb2 190 rfl) rfl
theorem q648 : Cond.instanceMethod yX2_addNext ∈ gU := gU_in (tb2 192 rfl) rfl
theorem q649 : Cond.selects RX2 yX2_addNext yX2_addNext ∈ gU := gU_in (pv (List.mem_append_right _ (List.mem_append_right _ (List.mem_append_left _ (List.mem_of_getElem? (i := 9) rfl))))) rfl
theorem q650 : Cond.code yX2_addNext cX2_addNext 6 none ∈ gU := gU_in (tb2 193 rfl) rfl
theorem q651 : Cond.methodLink RX2 39 yX2_levelFrom ∈ gU := gU_in (tb2 194 rfl) rfl
theorem q652 : Cond.instanceMethod yX2_levelFrom ∈ gU := gU_in (tb2 196 rfl) rfl
theorem q653 : Cond.selects RX2 yX2_levelFrom yX2_levelFrom ∈ gU := gU_in (pv (List.mem_append_right _ (List.mem_append_right _ (List.mem_append_left _ (List.mem_of_getElem? (i := 10) rfl))))) rfl
theorem q654 : Cond.code yX2_levelFrom cX2_levelFrom 3 (some .int) ∈ gU := gU_in (tb2 197 rfl) rfl
theorem q655 : Cond.methodLink RX2 56 yX2_turn ∈ gU := gU_in (tb2 199 rfl) rfl
theorem q656 : Cond.instanceMethod yX2_turn ∈ gU := gU_in (tb2 201 rfl) rfl
theorem q657 : Cond.selects RX2 yX2_turn yX2_turn ∈ gU := gU_in (pv (List.mem_append_right _ (List.mem_append_right _ (List.mem_append_left _ (List.mem_of_getElem? (i := 11) rfl))))) rfl
theorem q658 : Cond.code yX2_turn cX2_turn 13 none ∈ gU := gU_in (tb2 202 rfl) rfl
theorem q659 : Cond.methodLink RX5 185 yX5_rowProperty ∈ gU := gU_in (tb2 207 rfl) rfl
theorem q660 : Cond.instanceMethod yX5_rowProperty ∈ gU := gU_in (tb2 209 rfl) rfl
theorem q661 : Cond.selects RX5 yX5_rowProperty yX5_rowProperty ∈ gU := gU_in (pv (List.mem_append_right _ (List.mem_append_right _ (List.mem_append_left _ (List.mem_of_getElem? (i := 12) rfl))))) rfl
theorem q662 : Cond.code yX5_rowProperty cX5_rowProperty 2 (some .int) ∈ gU := gU_in (tb2 210 rfl) rfl
theorem q663 : Cond.methodLink RL 144 yX6_train ∈ gU := gU_in (tb5 128 rfl) rfl
theorem q664 : Cond.instanceMethod yX6_train ∈ gU := gU_in (tb5 129 rfl) rfl
theorem q665 : Cond.selects RX6 yX6_train yX6_train ∈ gU := gU_in (tb5 130 rfl) rfl
theorem q666 : Cond.code yX6_train cX6_train 4 (some .int) ∈ gU := gU_in (tb5 131 rfl) rfl
theorem q667 : Cond.methodLink RX6 208 yX6_trainOf ∈ gU := gU_in (tb5 132 rfl) rfl
theorem q668 : Cond.instanceMethod yX6_trainOf ∈ gU := gU_in (tb5 134 rfl) rfl
theorem q669 : Cond.selects RX6 yX6_trainOf yX6_trainOf ∈ gU := gU_in (pv (List.mem_append_right _ (List.mem_append_right _ (List.mem_append_right _ (List.mem_append_right _ (List.mem_append_right _ (List.mem_append_right _ (List.mem_append_left _ (List.mem_of_getElem? (i := 2) rfl))))))))) rfl
theorem q670 : Cond.code yX6_trainOf cX6_trainOf 4 (some .int) ∈ gU := gU_in (tb5 135 rfl) rfl
theorem q671 : Cond.fieldLink RX6 195 "GearBenchModel" "rowLong" "I" ∈ gU := gU_in (tb4 113 rfl) rfl
theorem q672 : Cond.fieldLink RX6 201 "GearBenchModel" "idlers" "I" ∈ gU := gU_in (tb4 114 rfl) rfl
theorem q673 : Cond.methodLink RX6 204 yX6_layTrain ∈ gU := gU_in (tb5 136 rfl) rfl
theorem q674 : Cond.instanceMethod yX6_layTrain ∈ gU := gU_in (tb5 138 rfl) rfl
theorem q675 : Cond.selects RX6 yX6_layTrain yX6_layTrain ∈ gU := gU_in (pv (List.mem_append_right _ (List.mem_append_right _ (List.mem_append_right _ (List.mem_append_right _ (List.mem_append_right _ (List.mem_append_right _ (List.mem_append_left _ (List.mem_of_getElem? (i := 3) rfl))))))))) rfl
theorem q676 : Cond.code yX6_layTrain cX6_layTrain 8 none ∈ gU := gU_in (tb5 139 rfl) rfl
theorem q677 : Cond.methodLink RX6 198 yX6_layRatio ∈ gU := gU_in (tb5 140 rfl) rfl
theorem q678 : Cond.instanceMethod yX6_layRatio ∈ gU := gU_in (tb5 142 rfl) rfl
theorem q679 : Cond.selects RX6 yX6_layRatio yX6_layRatio ∈ gU := gU_in (pv (List.mem_append_right _ (List.mem_append_right _ (List.mem_append_right _ (List.mem_append_right _ (List.mem_append_right _ (List.mem_append_right _ (List.mem_append_left _ (List.mem_of_getElem? (i := 4) rfl))))))))) rfl
theorem q680 : Cond.code yX6_layRatio cX6_layRatio 4 none ∈ gU := gU_in (tb5 143 rfl) rfl
theorem q681 : Cond.methodLink RL 145 yL_ratio ∈ gU := gU_in (tb4 61 rfl) rfl
theorem q682 : Cond.static yL_ratio ∈ gU := gU_in (tb4 62 rfl) rfl
theorem q683 : Cond.codeWith yL_ratio cL_ratio 6 (some .int) [(0, 11, 14, 21), (0, 11, 18, 13)] ∈ gU := gU_in (tb4 63 rfl) rfl
theorem q684 : Cond.methodLink RL 65 yX5_ratio ∈ gU := gU_in (tb4 64 rfl) rfl
theorem q685 : Cond.instanceMethod yX5_ratio ∈ gU := gU_in (tb4 65 rfl) rfl
theorem q686 : Cond.selects RX5 yX5_ratio yX5_ratio ∈ gU := gU_in (tb4 66 rfl) rfl
theorem q687 : Cond.code yX5_ratio cX5_ratio 4 (some .long) ∈ gU := gU_in (tb4 67 rfl) rfl
theorem q688 : Cond.methodLink RL 147 yX6_ratio ∈ gU := gU_in (tb5 144 rfl) rfl
theorem q689 : Cond.instanceMethod yX6_ratio ∈ gU := gU_in (tb5 145 rfl) rfl
theorem q690 : Cond.selects RX6 yX6_ratio yX6_ratio ∈ gU := gU_in (tb5 146 rfl) rfl
theorem q691 : Cond.code yX6_ratio cX6_ratio 4 (some .long) ∈ gU := gU_in (tb5 147 rfl) rfl
theorem q692 : Cond.methodLink RX6 211 yX6_ratioOf ∈ gU := gU_in (tb5 148 rfl) rfl
theorem q693 : Cond.instanceMethod yX6_ratioOf ∈ gU := gU_in (tb5 150 rfl) rfl
theorem q694 : Cond.selects RX6 yX6_ratioOf yX6_ratioOf ∈ gU := gU_in (pv (List.mem_append_right _ (List.mem_append_right _ (List.mem_append_right _ (List.mem_append_right _ (List.mem_append_right _ (List.mem_append_right _ (List.mem_append_left _ (List.mem_of_getElem? (i := 5) rfl))))))))) rfl
theorem q695 : Cond.code yX6_ratioOf cX6_ratioOf 4 (some .long) ∈ gU := gU_in (tb5 151 rfl) rfl
theorem q696 : Cond.methodLink RL 148 yX5_marks ∈ gU := gU_in (tb2 11 rfl) rfl
theorem q697 : Cond.instanceMethod yX5_marks ∈ gU := gU_in (tb2 12 rfl) rfl
theorem q698 : Cond.selects RX5 yX5_marks yX5_marks ∈ gU := gU_in (tb2 13 rfl) rfl
theorem q699 : Cond.code yX5_marks cX5_marks 1 (some .long) ∈ gU := gU_in (tb2 14 rfl) rfl
theorem q700 : Cond.instanceMethod yX4_turnsOfMarks ∈ gU := gU_in (tb2 17 rfl) rfl
theorem q701 : Cond.selects RX4 yX4_turnsOfMarks yX4_turnsOfMarks ∈ gU := gU_in (pv (List.mem_append_left _ (List.mem_of_getElem? (i := 6) rfl))) rfl
theorem q702 : Cond.code yX4_turnsOfMarks cX4_turnsOfMarks 7 (some .long) ∈ gU := gU_in (tb2 18 rfl) rfl
theorem q703 : Cond.methodLink RX4 109 yX4_turningPegs ∈ gU := gU_in (tb2 19 rfl) rfl
theorem q704 : Cond.instanceMethod yX4_turningPegs ∈ gU := gU_in (tb2 21 rfl) rfl
theorem q705 : Cond.selects RX4 yX4_turningPegs yX4_turningPegs ∈ gU := gU_in (pv (List.mem_append_left _ (List.mem_of_getElem? (i := 7) rfl))) rfl
theorem q706 : Cond.code yX4_turningPegs cX4_turningPegs 4 (some .int) ∈ gU := gU_in (tb2 22 rfl) rfl
theorem q707 : Cond.methodLink RX4 96 yX4_direction ∈ gU := gU_in (tb2 23 rfl) rfl
theorem q708 : Cond.methodLink RL 152 yX6_marks ∈ gU := gU_in (tb5 152 rfl) rfl
theorem q709 : Cond.instanceMethod yX6_marks ∈ gU := gU_in (tb5 153 rfl) rfl
theorem q710 : Cond.selects RX6 yX6_marks yX6_marks ∈ gU := gU_in (tb5 154 rfl) rfl
theorem q711 : Cond.code yX6_marks cX6_marks 1 (some .long) ∈ gU := gU_in (tb5 155 rfl) rfl
theorem q712 : Cond.methodLink RX6 215 yX6_backBehind ∈ gU := gU_in (tb5 156 rfl) rfl
theorem q713 : Cond.instanceMethod yX6_backBehind ∈ gU := gU_in (tb5 158 rfl) rfl
theorem q714 : Cond.selects RX6 yX6_backBehind yX6_backBehind ∈ gU := gU_in (pv (List.mem_append_right _ (List.mem_append_right _ (List.mem_append_right _ (List.mem_append_right _ (List.mem_append_right _ (List.mem_append_right _ (List.mem_append_left _ (List.mem_of_getElem? (i := 6) rfl))))))))) rfl
theorem q715 : Cond.code yX6_backBehind cX6_backBehind 4 (some .long) ∈ gU := gU_in (tb5 159 rfl) rfl
theorem q716 : Cond.methodLink RL 153 yL_count ∈ gU := gU_in (tb4 68 rfl) rfl
theorem q717 : Cond.static yL_count ∈ gU := gU_in (tb4 69 rfl) rfl
theorem q718 : Cond.codeWith yL_count cL_count 4 (some .int) [(0, 9, 12, 13)] ∈ gU := gU_in (tb4 70 rfl) rfl
theorem q719 : Cond.methodLink RL 69 yX5_count ∈ gU := gU_in (tb4 71 rfl) rfl
theorem q720 : Cond.instanceMethod yX5_count ∈ gU := gU_in (tb4 72 rfl) rfl
theorem q721 : Cond.selects RX5 yX5_count yX5_count ∈ gU := gU_in (tb4 73 rfl) rfl
theorem q722 : Cond.code yX5_count cX5_count 2 (some .int) ∈ gU := gU_in (tb4 74 rfl) rfl
theorem q723 : Cond.methodLink RX5 199 yX5_countOf ∈ gU := gU_in (tb2 127 rfl) rfl
theorem q724 : Cond.instanceMethod yX5_countOf ∈ gU := gU_in (tb2 129 rfl) rfl
theorem q725 : Cond.selects RX5 yX5_countOf yX5_countOf ∈ gU := gU_in (pv (List.mem_append_right _ (List.mem_append_left _ (List.mem_of_getElem? (i := 12) rfl)))) rfl
theorem q726 : Cond.code yX5_countOf cX5_countOf 2 (some .int) ∈ gU := gU_in (tb2 130 rfl) rfl
theorem q727 : Cond.instanceMethod yX0_things ∈ gU := gU_in (tb2 133 rfl) rfl
theorem q728 : Cond.selects RX0 yX0_things yX0_things ∈ gU := gU_in (pv (List.mem_append_right _ (List.mem_append_left _ (List.mem_of_getElem? (i := 13) rfl)))) rfl
theorem q729 : Cond.code yX0_things cX0_things 5 (some .int) ∈ gU := gU_in (tb2 134 rfl) rfl
theorem q730 : Cond.instanceMethod yX4_meshingPairs ∈ gU := gU_in (tb2 137 rfl) rfl
theorem q731 : Cond.selects RX4 yX4_meshingPairs yX4_meshingPairs ∈ gU := gU_in (pv (List.mem_append_right _ (List.mem_append_left _ (List.mem_of_getElem? (i := 14) rfl)))) rfl
theorem q732 : Cond.code yX4_meshingPairs cX4_meshingPairs 4 (some .int) ∈ gU := gU_in (tb2 138 rfl) rfl
theorem q733 : Cond.methodLink RX4 92 yX4_neighbours ∈ gU := gU_in (tb2 139 rfl) rfl
theorem q734 : Cond.instanceMethod yX0_overlaps ∈ gU := gU_in (tb2 152 rfl) rfl
theorem q735 : Cond.selects RX0 yX0_overlaps yX0_overlaps ∈ gU := gU_in (pv (List.mem_append_right _ (List.mem_append_right _ (List.mem_append_left _ (List.mem_of_getElem? (i := 1) rfl))))) rfl
theorem q736 : Cond.code yX0_overlaps cX0_overlaps 5 (some .int) ∈ gU := gU_in (tb2 153 rfl) rfl
theorem q737 : Cond.methodLink RL 155 yX6_count ∈ gU := gU_in (tb5 160 rfl) rfl
theorem q738 : Cond.instanceMethod yX6_count ∈ gU := gU_in (tb5 161 rfl) rfl
theorem q739 : Cond.selects RX6 yX6_count yX6_count ∈ gU := gU_in (tb5 162 rfl) rfl
theorem q740 : Cond.code yX6_count cX6_count 2 (some .int) ∈ gU := gU_in (tb5 163 rfl) rfl
theorem q741 : Cond.methodLink RX6 225 yX6_counted ∈ gU := gU_in (tb5 164 rfl) rfl
theorem q742 : Cond.instanceMethod yX6_counted ∈ gU := gU_in (tb5 166 rfl) rfl
theorem q743 : Cond.selects RX6 yX6_counted yX6_counted ∈ gU := gU_in (pv (List.mem_append_right _ (List.mem_append_right _ (List.mem_append_right _ (List.mem_append_right _ (List.mem_append_right _ (List.mem_append_right _ (List.mem_append_left _ (List.mem_of_getElem? (i := 7) rfl))))))))) rfl
theorem q744 : Cond.code yX6_counted cX6_counted 2 (some .int) ∈ gU := gU_in (tb5 167 rfl) rfl
theorem q745 : Cond.methodLink RX6 219 yX6_sum ∈ gU := gU_in (tb5 168 rfl) rfl
theorem q746 : Cond.instanceMethod yX6_sum ∈ gU := gU_in (tb5 170 rfl) rfl
theorem q747 : Cond.selects RX6 yX6_sum yX6_sum ∈ gU := gU_in (pv (List.mem_append_right _ (List.mem_append_right _ (List.mem_append_right _ (List.mem_append_right _ (List.mem_append_right _ (List.mem_append_right _ (List.mem_append_left _ (List.mem_of_getElem? (i := 8) rfl))))))))) rfl
theorem q748 : Cond.code yX6_sum cX6_sum 5 (some .int) ∈ gU := gU_in (tb5 171 rfl) rfl
theorem q749 : Cond.methodLink RX6 222 yX6_joined ∈ gU := gU_in (tb5 172 rfl) rfl
theorem q750 : Cond.instanceMethod yX6_joined ∈ gU := gU_in (tb5 174 rfl) rfl
theorem q751 : Cond.selects RX6 yX6_joined yX6_joined ∈ gU := gU_in (pv (List.mem_append_right _ (List.mem_append_right _ (List.mem_append_right _ (List.mem_append_right _ (List.mem_append_right _ (List.mem_append_right _ (List.mem_append_left _ (List.mem_of_getElem? (i := 9) rfl))))))))) rfl
theorem q752 : Cond.code yX6_joined cX6_joined 3 (some .int) ∈ gU := gU_in (tb5 175 rfl) rfl
theorem q753 : Cond.methodLink RL 156 yL_ifPut ∈ gU := gU_in (tb4 75 rfl) rfl
theorem q754 : Cond.static yL_ifPut ∈ gU := gU_in (tb4 76 rfl) rfl
theorem q755 : Cond.codeWith yL_ifPut cL_ifPut 7 (some .int) [(0, 14, 17, 21), (0, 14, 21, 13)] ∈ gU := gU_in (tb4 77 rfl) rfl
theorem q756 : Cond.methodLink RL 72 yX5_ifPut ∈ gU := gU_in (tb4 78 rfl) rfl
theorem q757 : Cond.instanceMethod yX5_ifPut ∈ gU := gU_in (tb4 79 rfl) rfl
theorem q758 : Cond.selects RX5 yX5_ifPut yX5_ifPut ∈ gU := gU_in (tb4 80 rfl) rfl
theorem q759 : Cond.code yX5_ifPut cX5_ifPut 5 (some .int) ∈ gU := gU_in (tb4 81 rfl) rfl
theorem q760 : Cond.methodLink RL 159 yX6_ifPut ∈ gU := gU_in (tb5 176 rfl) rfl
theorem q761 : Cond.instanceMethod yX6_ifPut ∈ gU := gU_in (tb5 177 rfl) rfl
theorem q762 : Cond.selects RX6 yX6_ifPut yX6_ifPut ∈ gU := gU_in (tb5 178 rfl) rfl
theorem q763 : Cond.code yX6_ifPut cX6_ifPut 6 (some .int) ∈ gU := gU_in (tb5 179 rfl) rfl
theorem q764 : Cond.methodLink RX6 234 yX6_wouldPut ∈ gU := gU_in (tb5 180 rfl) rfl
theorem q765 : Cond.instanceMethod yX6_wouldPut ∈ gU := gU_in (tb5 182 rfl) rfl
theorem q766 : Cond.selects RX6 yX6_wouldPut yX6_wouldPut ∈ gU := gU_in (pv (List.mem_append_right _ (List.mem_append_right _ (List.mem_append_right _ (List.mem_append_right _ (List.mem_append_right _ (List.mem_append_right _ (List.mem_append_left _ (List.mem_of_getElem? (i := 10) rfl))))))))) rfl
theorem q767 : Cond.code yX6_wouldPut cX6_wouldPut 8 (some .int) ∈ gU := gU_in (tb5 183 rfl) rfl
theorem q768 : Cond.methodLink RX6 228 yX6_putAside ∈ gU := gU_in (tb5 184 rfl) rfl
theorem q769 : Cond.instanceMethod yX6_putAside ∈ gU := gU_in (tb5 186 rfl) rfl
theorem q770 : Cond.selects RX6 yX6_putAside yX6_putAside ∈ gU := gU_in (pv (List.mem_append_right _ (List.mem_append_right _ (List.mem_append_right _ (List.mem_append_right _ (List.mem_append_right _ (List.mem_append_right _ (List.mem_append_left _ (List.mem_of_getElem? (i := 11) rfl))))))))) rfl
theorem q771 : Cond.code yX6_putAside cX6_putAside 2 none ∈ gU := gU_in (tb5 187 rfl) rfl
theorem q772 : Cond.methodLink RX6 231 yX6_putBack ∈ gU := gU_in (tb5 188 rfl) rfl
theorem q773 : Cond.instanceMethod yX6_putBack ∈ gU := gU_in (tb5 190 rfl) rfl
theorem q774 : Cond.selects RX6 yX6_putBack yX6_putBack ∈ gU := gU_in (pv (List.mem_append_right _ (List.mem_append_right _ (List.mem_append_right _ (List.mem_append_right _ (List.mem_append_right _ (List.mem_append_right _ (List.mem_append_left _ (List.mem_of_getElem? (i := 12) rfl))))))))) rfl
theorem q775 : Cond.code yX6_putBack cX6_putBack 2 none ∈ gU := gU_in (tb5 191 rfl) rfl
theorem q776 : Cond.methodLink RL 160 yL_solution ∈ gU := gU_in (tb4 82 rfl) rfl
theorem q777 : Cond.static yL_solution ∈ gU := gU_in (tb4 83 rfl) rfl
theorem q778 : Cond.codeWith yL_solution cL_solution 4 (some .int) [(0, 9, 12, 13)] ∈ gU := gU_in (tb4 84 rfl) rfl
theorem q779 : Cond.methodLink RL 76 yX5_solution ∈ gU := gU_in (tb4 85 rfl) rfl
theorem q780 : Cond.instanceMethod yX5_solution ∈ gU := gU_in (tb4 86 rfl) rfl
theorem q781 : Cond.selects RX5 yX5_solution yX5_solution ∈ gU := gU_in (tb4 87 rfl) rfl
theorem q782 : Cond.code yX5_solution cX5_solution 2 (some .int) ∈ gU := gU_in (tb4 88 rfl) rfl
theorem q783 : Cond.methodLink RX5 218 yX5_findChange ∈ gU := gU_in (tb2 212 rfl) rfl
theorem q784 : Cond.instanceMethod yX5_findChange ∈ gU := gU_in (tb2 214 rfl) rfl
theorem q785 : Cond.selects RX5 yX5_findChange yX5_findChange ∈ gU := gU_in (pv (List.mem_append_right _ (List.mem_append_right _ (List.mem_append_left _ (List.mem_of_getElem? (i := 13) rfl))))) rfl
theorem q786 : Cond.code yX5_findChange cX5_findChange 3 (some .int) ∈ gU := gU_in (tb2 215 rfl) rfl
theorem q787 : Cond.methodLink RX5 340 yX5_changeReachesGoal ∈ gU := gU_in (tb2 216 rfl) rfl
theorem q788 : Cond.instanceMethod yX5_changeReachesGoal ∈ gU := gU_in (tb2 218 rfl) rfl
theorem q789 : Cond.selects RX5 yX5_changeReachesGoal yX5_changeReachesGoal ∈ gU := gU_in (pv (List.mem_append_right _ (List.mem_append_right _ (List.mem_append_left _ (List.mem_of_getElem? (i := 14) rfl))))) rfl
theorem q790 : Cond.code yX5_changeReachesGoal cX5_changeReachesGoal 7 (some .boolean) ∈ gU := gU_in (tb2 219 rfl) rfl
theorem q791 : Cond.methodLink RX5 222 yX5_partOfChange ∈ gU := gU_in (tb2 220 rfl) rfl
theorem q792 : Cond.static yX5_partOfChange ∈ gU := gU_in (tb2 221 rfl) rfl
theorem q793 : Cond.code yX5_partOfChange cX5_partOfChange 3 (some .int) ∈ gU := gU_in (tb2 222 rfl) rfl
theorem q794 : Cond.methodLink RL 162 yX6_solution ∈ gU := gU_in (tb5 192 rfl) rfl
theorem q795 : Cond.instanceMethod yX6_solution ∈ gU := gU_in (tb5 193 rfl) rfl
theorem q796 : Cond.selects RX6 yX6_solution yX6_solution ∈ gU := gU_in (tb5 194 rfl) rfl
theorem q797 : Cond.code yX6_solution cX6_solution 2 (some .int) ∈ gU := gU_in (tb5 195 rfl) rfl
theorem q798 : Cond.methodLink RX6 240 yX6_solutionOf ∈ gU := gU_in (tb5 196 rfl) rfl
theorem q799 : Cond.instanceMethod yX6_solutionOf ∈ gU := gU_in (tb5 198 rfl) rfl
theorem q800 : Cond.selects RX6 yX6_solutionOf yX6_solutionOf ∈ gU := gU_in (pv (List.mem_append_right _ (List.mem_append_right _ (List.mem_append_right _ (List.mem_append_right _ (List.mem_append_right _ (List.mem_append_right _ (List.mem_append_left _ (List.mem_of_getElem? (i := 13) rfl))))))))) rfl
theorem q801 : Cond.code yX6_solutionOf cX6_solutionOf 3 (some .int) ∈ gU := gU_in (tb5 199 rfl) rfl
theorem q802 : Cond.methodLink RX6 237 yX6_solves ∈ gU := gU_in (tb5 200 rfl) rfl
theorem q803 : Cond.instanceMethod yX6_solves ∈ gU := gU_in (tb5 202 rfl) rfl
theorem q804 : Cond.selects RX6 yX6_solves yX6_solves ∈ gU := gU_in (pv (List.mem_append_right _ (List.mem_append_right _ (List.mem_append_right _ (List.mem_append_right _ (List.mem_append_right _ (List.mem_append_right _ (List.mem_append_left _ (List.mem_of_getElem? (i := 14) rfl))))))))) rfl
theorem q805 : Cond.code yX6_solves cX6_solves 6 (some .int) ∈ gU := gU_in (tb5 203 rfl) rfl
theorem q806 : Cond.methodLink RL 163 yX5_culprit ∈ gU := gU_in (tb2 30 rfl) rfl
theorem q807 : Cond.instanceMethod yX5_culprit ∈ gU := gU_in (tb2 31 rfl) rfl
theorem q808 : Cond.selects RX5 yX5_culprit yX5_culprit ∈ gU := gU_in (tb2 32 rfl) rfl
theorem q809 : Cond.code yX5_culprit cX5_culprit 2 (some .int) ∈ gU := gU_in (tb2 33 rfl) rfl
theorem q810 : Cond.methodLink RX5 225 yX5_freesJam ∈ gU := gU_in (tb2 34 rfl) rfl
theorem q811 : Cond.instanceMethod yX5_freesJam ∈ gU := gU_in (tb2 36 rfl) rfl
theorem q812 : Cond.selects RX5 yX5_freesJam yX5_freesJam ∈ gU := gU_in (pv (List.mem_append_left _ (List.mem_of_getElem? (i := 9) rfl))) rfl
theorem q813 : Cond.code yX5_freesJam cX5_freesJam 3 (some .boolean) ∈ gU := gU_in (tb2 37 rfl) rfl
theorem q814 : Cond.methodLink RL 166 yX6_culprit ∈ gU := gU_in (tb5 204 rfl) rfl
theorem q815 : Cond.instanceMethod yX6_culprit ∈ gU := gU_in (tb5 205 rfl) rfl
theorem q816 : Cond.selects RX6 yX6_culprit yX6_culprit ∈ gU := gU_in (tb5 206 rfl) rfl
theorem q817 : Cond.code yX6_culprit cX6_culprit 1 (some .int) ∈ gU := gU_in (tb5 207 rfl) rfl
theorem q818 : Cond.methodLink RX6 243 yX6_frees ∈ gU := gU_in (tb5 208 rfl) rfl
theorem q819 : Cond.instanceMethod yX6_frees ∈ gU := gU_in (tb5 210 rfl) rfl
theorem q820 : Cond.selects RX6 yX6_frees yX6_frees ∈ gU := gU_in (pv (List.mem_append_right _ (List.mem_append_right _ (List.mem_append_right _ (List.mem_append_right _ (List.mem_append_right _ (List.mem_append_right _ (List.mem_append_left _ (List.mem_of_getElem? (i := 15) rfl))))))))) rfl
theorem q821 : Cond.code yX6_frees cX6_frees 3 (some .int) ∈ gU := gU_in (tb5 211 rfl) rfl
theorem q822 : Cond.methodLink RL 167 yX5_turningShare ∈ gU := gU_in (tb2 117 rfl) rfl
theorem q823 : Cond.instanceMethod yX5_turningShare ∈ gU := gU_in (tb2 118 rfl) rfl
theorem q824 : Cond.selects RX5 yX5_turningShare yX5_turningShare ∈ gU := gU_in (tb2 119 rfl) rfl
theorem q825 : Cond.code yX5_turningShare cX5_turningShare 1 (some .double) ∈ gU := gU_in (tb2 120 rfl) rfl
theorem q826 : Cond.methodLink RL 171 yX6_turningShare ∈ gU := gU_in (tb5 212 rfl) rfl
theorem q827 : Cond.instanceMethod yX6_turningShare ∈ gU := gU_in (tb5 213 rfl) rfl
theorem q828 : Cond.selects RX6 yX6_turningShare yX6_turningShare ∈ gU := gU_in (tb5 214 rfl) rfl
theorem q829 : Cond.code yX6_turningShare cX6_turningShare 1 (some .double) ∈ gU := gU_in (tb5 215 rfl) rfl
theorem q830 : Cond.methodLink RX6 246 yX6_share ∈ gU := gU_in (tb5 216 rfl) rfl
theorem q831 : Cond.instanceMethod yX6_share ∈ gU := gU_in (tb5 218 rfl) rfl
theorem q832 : Cond.selects RX6 yX6_share yX6_share ∈ gU := gU_in (pv (List.mem_append_right _ (List.mem_append_right _ (List.mem_append_right _ (List.mem_append_right _ (List.mem_append_right _ (List.mem_append_right _ (List.mem_append_right _ (List.mem_of_getElem? (i := 0) rfl))))))))) rfl
theorem q833 : Cond.code yX6_share cX6_share 3 (some .double) ∈ gU := gU_in (tb5 219 rfl) rfl
theorem q834 : Cond.methodLink RL 172 yX5_digest ∈ gU := gU_in (tb2 122 rfl) rfl
theorem q835 : Cond.instanceMethod yX5_digest ∈ gU := gU_in (tb2 123 rfl) rfl
theorem q836 : Cond.selects RX5 yX5_digest yX5_digest ∈ gU := gU_in (tb2 124 rfl) rfl
theorem q837 : Cond.code yX5_digest cX5_digest 5 (some .long) ∈ gU := gU_in (tb2 125 rfl) rfl
theorem q838 : Cond.constantLong RX5 232 (2753) ∈ gU := gU_in (tb2 126 rfl) rfl
theorem q839 : Cond.methodLink RX5 234 yX5_mix ∈ gU := gU_in (tb2 158 rfl) rfl
theorem q840 : Cond.static yX5_mix ∈ gU := gU_in (tb2 159 rfl) rfl
theorem q841 : Cond.code yX5_mix cX5_mix 4 (some .long) ∈ gU := gU_in (tb2 160 rfl) rfl
theorem q842 : Cond.constantLong RX5 343 (31) ∈ gU := gU_in (tb2 161 rfl) rfl
theorem q843 : Cond.methodLink RX5 238 yX5_mixPeg ∈ gU := gU_in (tb2 162 rfl) rfl
theorem q844 : Cond.instanceMethod yX5_mixPeg ∈ gU := gU_in (tb2 164 rfl) rfl
theorem q845 : Cond.selects RX5 yX5_mixPeg yX5_mixPeg ∈ gU := gU_in (pv (List.mem_append_right _ (List.mem_append_right _ (List.mem_append_left _ (List.mem_of_getElem? (i := 3) rfl))))) rfl
theorem q846 : Cond.code yX5_mixPeg cX5_mixPeg 7 (some .long) ∈ gU := gU_in (tb2 165 rfl) rfl
theorem q847 : Cond.methodLink RX5 242 yX5_mixPair ∈ gU := gU_in (tb2 173 rfl) rfl
theorem q848 : Cond.instanceMethod yX5_mixPair ∈ gU := gU_in (tb2 175 rfl) rfl
theorem q849 : Cond.selects RX5 yX5_mixPair yX5_mixPair ∈ gU := gU_in (pv (List.mem_append_right _ (List.mem_append_right _ (List.mem_append_left _ (List.mem_of_getElem? (i := 5) rfl))))) rfl
theorem q850 : Cond.code yX5_mixPair cX5_mixPair 8 (some .long) ∈ gU := gU_in (tb2 176 rfl) rfl
theorem q851 : Cond.methodLink RX5 246 yX5_marks ∈ gU := gU_in (tb2 211 rfl) rfl
theorem q852 : Cond.methodLink RX5 250 yX5_culprit ∈ gU := gU_in (tb2 230 rfl) rfl
theorem q853 : Cond.methodLink RX5 253 yX5_turningShare ∈ gU := gU_in (tb2 231 rfl) rfl
theorem q854 : Cond.methodLink RX5 257 yX5_bitsOfShare ∈ gU := gU_in (tb2 232 rfl) rfl
theorem q855 : Cond.static yX5_bitsOfShare ∈ gU := gU_in (tb2 233 rfl) rfl
theorem q856 : Cond.code yX5_bitsOfShare cX5_bitsOfShare 8 (some .long) ∈ gU := gU_in (tb2 234 rfl) rfl
theorem q857 : Cond.constantLong RX5 345 (1023) ∈ gU := gU_in (tb2 235 rfl) rfl
theorem q858 : Cond.constantDouble RX5 347 (4611686018427387904) ∈ gU := gU_in (tb2 236 rfl) rfl
theorem q859 : Cond.constantDouble RX5 349 (4841369599423283200) ∈ gU := gU_in (tb2 237 rfl) rfl
theorem q860 : Cond.constantLong RX5 351 (4503599627370496) ∈ gU := gU_in (tb2 238 rfl) rfl
theorem q861 : Cond.instanceMethod yX3_mixInto ∈ gU := gU_in (tb3 1 rfl) rfl
theorem q862 : Cond.selects RX3 yX3_mixInto yX3_mixInto ∈ gU := gU_in (pv (List.mem_append_right _ (List.mem_append_right _ (List.mem_append_right _ (List.mem_append_left _ (List.mem_of_getElem? (i := 0) rfl)))))) rfl
theorem q863 : Cond.code yX3_mixInto cX3_mixInto 6 (some .long) ∈ gU := gU_in (tb3 2 rfl) rfl
theorem q864 : Cond.methodLink RL 175 yX6_digest ∈ gU := gU_in (tb5 220 rfl) rfl
theorem q865 : Cond.instanceMethod yX6_digest ∈ gU := gU_in (tb5 221 rfl) rfl
theorem q866 : Cond.selects RX6 yX6_digest yX6_digest ∈ gU := gU_in (tb5 222 rfl) rfl
theorem q867 : Cond.code yX6_digest cX6_digest 4 (some .long) ∈ gU := gU_in (tb5 223 rfl) rfl
theorem q868 : Cond.constantLong RX6 263 (2753) ∈ gU := gU_in (tb5 224 rfl) rfl
theorem q869 : Cond.fieldLink RX6 260 "GearBenchModel" "digested" "J" ∈ gU := gU_in (tb4 115 rfl) rfl
theorem q870 : Cond.methodLink RX6 265 yX6_digestOne ∈ gU := gU_in (tb5 225 rfl) rfl
theorem q871 : Cond.instanceMethod yX6_digestOne ∈ gU := gU_in (tb5 227 rfl) rfl
theorem q872 : Cond.selects RX6 yX6_digestOne yX6_digestOne ∈ gU := gU_in (pv (List.mem_append_right _ (List.mem_append_right _ (List.mem_append_right _ (List.mem_append_right _ (List.mem_append_right _ (List.mem_append_right _ (List.mem_append_right _ (List.mem_of_getElem? (i := 1) rfl))))))))) rfl
theorem q873 : Cond.code yX6_digestOne cX6_digestOne 3 none ∈ gU := gU_in (tb5 228 rfl) rfl
theorem q874 : Cond.constantLong RX6 258 (31) ∈ gU := gU_in (tb5 229 rfl) rfl
theorem q875 : Cond.methodLink RX6 269 yX6_bitsOf ∈ gU := gU_in (tb5 230 rfl) rfl
theorem q876 : Cond.static yX6_bitsOf ∈ gU := gU_in (tb5 231 rfl) rfl
theorem q877 : Cond.code yX6_bitsOf cX6_bitsOf 6 (some .long) ∈ gU := gU_in (tb5 232 rfl) rfl
theorem q878 : Cond.constantLong RX6 250 (1023) ∈ gU := gU_in (tb5 233 rfl) rfl
theorem q879 : Cond.constantDouble RX6 252 (4611686018427387904) ∈ gU := gU_in (tb5 234 rfl) rfl
theorem q880 : Cond.constantLong RX6 254 (4503599627370496) ∈ gU := gU_in (tb5 235 rfl) rfl
theorem q881 : Cond.constantDouble RX6 256 (4841369599423283200) ∈ gU := gU_in (tb5 236 rfl) rfl
theorem uX0 : ∀ w ∈ wsX00, w ∈ gU := fun w h => gU_in (wsX00_inT w h) (List.all_eq_true.mp (show wsX00.all goodWord = true by decide +kernel) w h)
theorem uX1 : ∀ w ∈ wsX10, w ∈ gU := fun w h => gU_in (wsX10_inT w h) (List.all_eq_true.mp (show wsX10.all goodWord = true by decide +kernel) w h)
theorem uX2 : ∀ w ∈ wsX20, w ∈ gU := fun w h => gU_in (wsX20_inT w h) (List.all_eq_true.mp (show wsX20.all goodWord = true by decide +kernel) w h)
theorem uX3 : ∀ w ∈ wsX30, w ∈ gU := fun w h => gU_in (wsX30_inT w h) (List.all_eq_true.mp (show wsX30.all goodWord = true by decide +kernel) w h)
theorem uX4 : ∀ w ∈ wsX40, w ∈ gU := fun w h => gU_in (wsX40_inT w h) (List.all_eq_true.mp (show wsX40.all goodWord = true by decide +kernel) w h)
theorem uX5 : ∀ w ∈ wsX50, w ∈ gU := fun w h => gU_in (wsX50_inT w h) (List.all_eq_true.mp (show wsX50.all goodWord = true by decide +kernel) w h)
theorem uX6 : ∀ w ∈ wsX60, w ∈ gU := fun w h => gU_in (wsX60_inT w h) (List.all_eq_true.mp (show wsX60.all goodWord = true by decide +kernel) w h)
