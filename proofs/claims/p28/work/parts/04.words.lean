/-- the words of the tables that ride with any start: every method takes them all -/
def gU : List Cond := lw_tbl.filter goodWord
theorem gU_in {w : Cond} (h : w ∈ lw_tbl) (hg : goodWord w = true) : w ∈ gU := List.mem_filter.mpr ⟨h, hg⟩
theorem gU_tbl {w : Cond} (h : w ∈ gU) : w ∈ lw_tbl := (List.mem_filter.mp h).1
theorem gU_good {w : Cond} (h : w ∈ gU) : goodWord w = true := (List.mem_filter.mp h).2
/-- the words of a method -/
abbrev wz (y : MethodName) (cc : ByteArray) (n : Nat) (r : Option FieldType) : List Cond := Cond.code y cc n r :: gU
abbrev wzH (y : MethodName) (cc : ByteArray) (n : Nat) (r : Option FieldType) (hh : List (Nat × Nat × Nat × Nat)) : List Cond := Cond.codeWith y cc n r hh :: gU
theorem gd_all {w0 w1 : Cond} (h : w1 ∈ gU) : GoodIn (w0 :: gU) (w1 :: gU) := fun w hw => (List.mem_cons.mp hw).elim (fun e => by subst e; exact ⟨List.mem_cons_of_mem _ h, good_of_word (gU_good h)⟩) (fun q => ⟨List.mem_cons_of_mem _ q, good_of_word (gU_good q)⟩)
theorem gd_cons {big ws : List Cond} {w0 w : Cond} (h : w ∈ gU) (hb : big = w0 :: gU) (hr : GoodIn big ws) : GoodIn big (w :: ws) := fun x hx => (List.mem_cons.mp hx).elim (fun e => by subst e; subst hb; exact ⟨List.mem_cons_of_mem _ h, good_of_word (gU_good h)⟩) (fun q => hr x q)
theorem gd_V {own C : String} {idx : Nat} {y : MethodName} {cc : ByteArray} {n : Nat} {r : Option FieldType} {w0 : Cond} (h1 : Cond.methodLink own idx y ∈ gU) (h2 : Cond.instanceMethod y ∈ gU) (h3 : Cond.selects C y y ∈ gU) (h4 : Cond.initialized C ∈ gU) (h5 : Cond.code y cc n r ∈ gU) : GoodIn (w0 :: gU) (wsV own idx C y (wz y cc n r)) := gd_cons h1 rfl (gd_cons h2 rfl (gd_cons h3 rfl (gd_cons h4 rfl (gd_all h5))))
theorem gd_S {own : String} {idx : Nat} {y : MethodName} {cc : ByteArray} {n : Nat} {r : Option FieldType} {w0 : Cond} (h1 : Cond.methodLink own idx y ∈ gU) (h2 : Cond.static y ∈ gU) (h4 : Cond.initialized y.cls ∈ gU) (h5 : Cond.code y cc n r ∈ gU) : GoodIn (w0 :: gU) (va_wsS own idx y (wz y cc n r)) := gd_cons h1 rfl (gd_cons h2 rfl (gd_cons h4 rfl (gd_all h5)))
theorem gd_SH {own : String} {idx : Nat} {y : MethodName} {cc : ByteArray} {n : Nat} {r : Option FieldType} {hh : List (Nat × Nat × Nat × Nat)} {w0 : Cond} (h1 : Cond.methodLink own idx y ∈ gU) (h2 : Cond.static y ∈ gU) (h4 : Cond.initialized y.cls ∈ gU) (h5 : Cond.codeWith y cc n r hh ∈ gU) : GoodIn (w0 :: gU) (va_wsS own idx y (wzH y cc n r hh)) := gd_cons h1 rfl (gd_cons h2 rfl (gd_cons h4 rfl (gd_all h5)))
theorem q0 : Cond.classLink RL 9 RX5 ∈ gU := gU_in (tb1 14 rfl) rfl
theorem q1 : Cond.instantiable RX5 7 ∈ gU := gU_in (tb1 15 rfl) rfl
theorem q2 : Cond.initialized RX5 ∈ gU := gU_in (tb1 1 rfl) rfl
theorem q3 : Cond.methodLink RL 70 yX5_init ∈ gU := gU_in (tb1 16 rfl) rfl
theorem q4 : Cond.instanceMethod yX5_init ∈ gU := gU_in (tb1 17 rfl) rfl
theorem q5 : Cond.code yX5_init cX5_init 1 none ∈ gU := gU_in (tb1 18 rfl) rfl
theorem q6 : Cond.methodLink RX5 3 objectInit ∈ gU := gU_in (tb1 19 rfl) rfl
theorem q7 : Cond.instanceMethod objectInit ∈ gU := gU_in (tb1 20 rfl) rfl
theorem q8 : Cond.code objectInit ⟨#[0xb1]⟩ 1 none ∈ gU := gU_in (tb1 21 rfl) rfl
theorem q9 : Cond.classLink RX5 9 RX0 ∈ gU := gU_in (tb1 22 rfl) rfl
theorem q10 : Cond.instantiable RX0 10 ∈ gU := gU_in (tb1 23 rfl) rfl
theorem q11 : Cond.initialized RX0 ∈ gU := gU_in (tb1 2 rfl) rfl
theorem q12 : Cond.fieldLink RX5 12 "GearBench" "bench" "LGearBench$Bench;" ∈ gU := gU_in (tb1 188 rfl) rfl
theorem q13 : Cond.classLink RX5 16 RX4 ∈ gU := gU_in (tb1 76 rfl) rfl
theorem q14 : Cond.instantiable RX4 7 ∈ gU := gU_in (tb1 77 rfl) rfl
theorem q15 : Cond.initialized RX4 ∈ gU := gU_in (tb1 3 rfl) rfl
theorem q16 : Cond.fieldLink RX5 19 "GearBench" "works" "LGearBench$Works;" ∈ gU := gU_in (tb1 189 rfl) rfl
theorem q17 : Cond.fieldLink RX5 23 "GearBench" "trial" "LGearBench$Bench;" ∈ gU := gU_in (tb1 190 rfl) rfl
theorem q18 : Cond.fieldLink RX5 26 "GearBench" "trialWorks" "LGearBench$Works;" ∈ gU := gU_in (tb1 191 rfl) rfl
theorem q19 : Cond.classLink RX5 29 RX2 ∈ gU := gU_in (tb1 111 rfl) rfl
theorem q20 : Cond.instantiable RX2 6 ∈ gU := gU_in (tb1 112 rfl) rfl
theorem q21 : Cond.initialized RX2 ∈ gU := gU_in (tb1 4 rfl) rfl
theorem q22 : Cond.fieldLink RX5 32 "GearBench" "row" "LGearBench$Row;" ∈ gU := gU_in (tb1 192 rfl) rfl
theorem q23 : Cond.classLink RX5 36 RX3 ∈ gU := gU_in (tb1 141 rfl) rfl
theorem q24 : Cond.instantiable RX3 7 ∈ gU := gU_in (tb1 142 rfl) rfl
theorem q25 : Cond.initialized RX3 ∈ gU := gU_in (tb1 5 rfl) rfl
theorem q26 : Cond.fieldLink RX5 39 "GearBench" "text" "LGearBench$Text;" ∈ gU := gU_in (tb1 193 rfl) rfl
theorem q27 : Cond.classLink RX5 43 RX1 ∈ gU := gU_in (tb1 169 rfl) rfl
theorem q28 : Cond.instantiable RX1 3 ∈ gU := gU_in (tb1 170 rfl) rfl
theorem q29 : Cond.initialized RX1 ∈ gU := gU_in (tb1 6 rfl) rfl
theorem q30 : Cond.fieldLink RX5 46 "GearBench" "history" "LGearBench$History;" ∈ gU := gU_in (tb1 194 rfl) rfl
theorem q31 : Cond.instanceMethod yX0_init ∈ gU := gU_in (tb1 25 rfl) rfl
theorem q32 : Cond.code yX0_init cX0_init 1 none ∈ gU := gU_in (tb1 26 rfl) rfl
theorem q33 : Cond.methodLink RX0 3 objectInit ∈ gU := gU_in (tb1 27 rfl) rfl
theorem q34 : Cond.arrayClass .int ∈ gU := gU_in (tb1 75 rfl) rfl
theorem q35 : Cond.fieldLink RX0 9 "GearBench$Bench" "x" "[I" ∈ gU := gU_in (tb1 28 rfl) rfl
theorem q36 : Cond.fieldLink RX0 15 "GearBench$Bench" "y" "[I" ∈ gU := gU_in (tb1 30 rfl) rfl
theorem q37 : Cond.fieldLink RX0 18 "GearBench$Bench" "kinds" "[I" ∈ gU := gU_in (tb1 32 rfl) rfl
theorem q38 : Cond.fieldLink RX0 21 "GearBench$Bench" "teeth" "[I" ∈ gU := gU_in (tb1 34 rfl) rfl
theorem q39 : Cond.fieldLink RX0 24 "GearBench$Bench" "pegs" "I" ∈ gU := gU_in (tb1 38 rfl) rfl
theorem q40 : Cond.fieldLink RX0 28 "GearBench$Bench" "driver" "I" ∈ gU := gU_in (tb1 42 rfl) rfl
theorem q41 : Cond.fieldLink RX0 31 "GearBench$Bench" "goalPeg" "I" ∈ gU := gU_in (tb1 45 rfl) rfl
theorem q42 : Cond.fieldLink RX0 34 "GearBench$Bench" "goalNumerator" "I" ∈ gU := gU_in (tb1 48 rfl) rfl
theorem q43 : Cond.fieldLink RX0 37 "GearBench$Bench" "goalDenominator" "I" ∈ gU := gU_in (tb1 50 rfl) rfl
theorem q44 : Cond.fieldLink RX0 40 "GearBench$Bench" "play" "I" ∈ gU := gU_in (tb1 52 rfl) rfl
theorem q45 : Cond.instanceMethod yX4_init ∈ gU := gU_in (tb1 79 rfl) rfl
theorem q46 : Cond.code yX4_init cX4_init 1 none ∈ gU := gU_in (tb1 80 rfl) rfl
theorem q47 : Cond.methodLink RX4 3 objectInit ∈ gU := gU_in (tb1 81 rfl) rfl
theorem q48 : Cond.fieldLink RX4 9 "GearBench$Works" "meshing" "[I" ∈ gU := gU_in (tb1 82 rfl) rfl
theorem q49 : Cond.arrayClass .long ∈ gU := gU_in (tb1 109 rfl) rfl
theorem q50 : Cond.fieldLink RX4 15 "GearBench$Works" "numerators" "[J" ∈ gU := gU_in (tb1 83 rfl) rfl
theorem q51 : Cond.fieldLink RX4 19 "GearBench$Works" "denominators" "[J" ∈ gU := gU_in (tb1 85 rfl) rfl
theorem q52 : Cond.arrayClass .boolean ∈ gU := gU_in (tb1 110 rfl) rfl
theorem q53 : Cond.fieldLink RX4 22 "GearBench$Works" "joined" "[Z" ∈ gU := gU_in (tb1 87 rfl) rfl
theorem q54 : Cond.fieldLink RX4 26 "GearBench$Works" "queue" "[I" ∈ gU := gU_in (tb1 89 rfl) rfl
theorem q55 : Cond.fieldLink RX4 29 "GearBench$Works" "joinedPegs" "I" ∈ gU := gU_in (tb1 90 rfl) rfl
theorem q56 : Cond.fieldLink RX4 33 "GearBench$Works" "jam" "Z" ∈ gU := gU_in (tb1 92 rfl) rfl
theorem q57 : Cond.instanceMethod yX2_init ∈ gU := gU_in (tb1 114 rfl) rfl
theorem q58 : Cond.code yX2_init cX2_init 1 none ∈ gU := gU_in (tb1 115 rfl) rfl
theorem q59 : Cond.methodLink RX2 3 objectInit ∈ gU := gU_in (tb1 116 rfl) rfl
theorem q60 : Cond.fieldLink RX2 9 "GearBench$Row" "pegs" "[I" ∈ gU := gU_in (tb1 117 rfl) rfl
theorem q61 : Cond.fieldLink RX2 15 "GearBench$Row" "stepsLeft" "[I" ∈ gU := gU_in (tb1 119 rfl) rfl
theorem q62 : Cond.fieldLink RX2 18 "GearBench$Row" "length" "I" ∈ gU := gU_in (tb1 120 rfl) rfl
theorem q63 : Cond.fieldLink RX2 22 "GearBench$Row" "idlers" "I" ∈ gU := gU_in (tb1 122 rfl) rfl
theorem q64 : Cond.fieldLink RX2 25 "GearBench$Row" "numerator" "J" ∈ gU := gU_in (tb1 124 rfl) rfl
theorem q65 : Cond.fieldLink RX2 29 "GearBench$Row" "denominator" "J" ∈ gU := gU_in (tb1 126 rfl) rfl
theorem q66 : Cond.instanceMethod yX3_init ∈ gU := gU_in (tb1 144 rfl) rfl
theorem q67 : Cond.code yX3_init cX3_init 1 none ∈ gU := gU_in (tb1 145 rfl) rfl
theorem q68 : Cond.methodLink RX3 3 objectInit ∈ gU := gU_in (tb1 146 rfl) rfl
theorem q69 : Cond.fieldLink RX3 9 "GearBench$Text" "codes" "[I" ∈ gU := gU_in (tb1 147 rfl) rfl
theorem q70 : Cond.fieldLink RX3 15 "GearBench$Text" "length" "I" ∈ gU := gU_in (tb1 148 rfl) rfl
theorem q71 : Cond.fieldLink RX3 19 "GearBench$Text" "letters" "[I" ∈ gU := gU_in (tb1 149 rfl) rfl
theorem q72 : Cond.fieldLink RX3 22 "GearBench$Text" "parts" "[I" ∈ gU := gU_in (tb1 150 rfl) rfl
theorem q73 : Cond.fieldLink RX3 25 "GearBench$Text" "orders" "I" ∈ gU := gU_in (tb1 151 rfl) rfl
theorem q74 : Cond.fieldLink RX3 28 "GearBench$Text" "at" "I" ∈ gU := gU_in (tb1 152 rfl) rfl
theorem q75 : Cond.fieldLink RX3 31 "GearBench$Text" "whole" "Z" ∈ gU := gU_in (tb1 153 rfl) rfl
theorem q76 : Cond.instanceMethod yX1_init ∈ gU := gU_in (tb1 172 rfl) rfl
theorem q77 : Cond.code yX1_init cX1_init 1 none ∈ gU := gU_in (tb1 173 rfl) rfl
theorem q78 : Cond.methodLink RX1 3 objectInit ∈ gU := gU_in (tb1 174 rfl) rfl
theorem q79 : Cond.classLink RX1 9 RX0 ∈ gU := gU_in (tb1 175 rfl) rfl
theorem q80 : Cond.fieldLink RX1 11 "GearBench$History" "slots" "[LGearBench$Bench;" ∈ gU := gU_in (tb1 177 rfl) rfl
theorem q81 : Cond.fieldLink RX1 17 "GearBench$History" "first" "I" ∈ gU := gU_in (tb1 178 rfl) rfl
theorem q82 : Cond.fieldLink RX1 21 "GearBench$History" "size" "I" ∈ gU := gU_in (tb1 179 rfl) rfl
theorem q83 : Cond.methodLink RL 71 yL_cell ∈ gU := gU_in (tb2 189 rfl) rfl
theorem q84 : Cond.static yL_cell ∈ gU := gU_in (tb2 190 rfl) rfl
theorem q85 : Cond.initialized RL ∈ gU := gU_in (tb1 0 rfl) rfl
theorem q86 : Cond.code yL_cell cL_cell 2 (some .int) ∈ gU := gU_in (tb2 191 rfl) rfl
theorem q87 : Cond.methodLink RL 14 yL_low ∈ gU := gU_in (tb2 192 rfl) rfl
theorem q88 : Cond.static yL_low ∈ gU := gU_in (tb2 193 rfl) rfl
theorem q89 : Cond.code yL_low cL_low 2 (some .int) ∈ gU := gU_in (tb2 194 rfl) rfl
theorem q90 : Cond.constant RL 7 (2147483647) ∈ gU := gU_in (tb2 195 rfl) rfl
theorem q91 : Cond.methodLink RL 75 yX5_addPeg ∈ gU := gU_in (tb1 210 rfl) rfl
theorem q92 : Cond.instanceMethod yX5_addPeg ∈ gU := gU_in (tb1 211 rfl) rfl
theorem q93 : Cond.selects RX5 yX5_addPeg yX5_addPeg ∈ gU := gU_in (tb1 212 rfl) rfl
theorem q94 : Cond.code yX5_addPeg cX5_addPeg 3 (some .int) ∈ gU := gU_in (tb1 213 rfl) rfl
theorem q95 : Cond.classLink RX5 61 "java/lang/IllegalStateException" ∈ gU := gU_in (tb2 74 rfl) rfl
theorem q96 : Cond.initialized "java/lang/IllegalStateException" ∈ gU := gU_in (tb1 12 rfl) rfl
theorem q97 : Cond.methodLink RX5 50 yX5_needPlace ∈ gU := gU_in (tb1 214 rfl) rfl
theorem q98 : Cond.static yX5_needPlace ∈ gU := gU_in (tb1 215 rfl) rfl
theorem q99 : Cond.code yX5_needPlace cX5_needPlace 2 none ∈ gU := gU_in (tb1 216 rfl) rfl
theorem q100 : Cond.methodLink RX5 86 yX5_need ∈ gU := gU_in (tb1 217 rfl) rfl
theorem q101 : Cond.static yX5_need ∈ gU := gU_in (tb1 218 rfl) rfl
theorem q102 : Cond.code yX5_need cX5_need 1 none ∈ gU := gU_in (tb1 219 rfl) rfl
theorem q103 : Cond.classLink RX5 273 "java/lang/IllegalArgumentException" ∈ gU := gU_in (tb1 220 rfl) rfl
theorem q104 : Cond.initialized "java/lang/IllegalArgumentException" ∈ gU := gU_in (tb1 10 rfl) rfl
theorem q105 : Cond.methodLink RX5 54 yX5_startTrial ∈ gU := gU_in (tb2 48 rfl) rfl
theorem q106 : Cond.instanceMethod yX5_startTrial ∈ gU := gU_in (tb2 50 rfl) rfl
theorem q107 : Cond.selects RX5 yX5_startTrial yX5_startTrial ∈ gU := gU_in (pv (List.mem_append_left _ (List.mem_of_getElem? (i := 1) rfl))) rfl
theorem q108 : Cond.code yX5_startTrial cX5_startTrial 1 none ∈ gU := gU_in (tb2 51 rfl) rfl
theorem q109 : Cond.instanceMethod yX0_copyFrom ∈ gU := gU_in (tb2 54 rfl) rfl
theorem q110 : Cond.selects RX0 yX0_copyFrom yX0_copyFrom ∈ gU := gU_in (pv (List.mem_append_left _ (List.mem_of_getElem? (i := 2) rfl))) rfl
theorem q111 : Cond.code yX0_copyFrom cX0_copyFrom 2 none ∈ gU := gU_in (tb2 55 rfl) rfl
theorem q112 : Cond.methodLink RX0 43 arraycopyName ∈ gU := gU_in (tb2 56 rfl) rfl
theorem q113 : Cond.native arraycopyName ∈ gU := gU_in (tb2 58 rfl) rfl
theorem q114 : Cond.static arraycopyName ∈ gU := gU_in (tb2 57 rfl) rfl
theorem q115 : Cond.initialized "java/lang/System" ∈ gU := gU_in (tb1 11 rfl) rfl
theorem q116 : Cond.instanceMethod yX0_tryAdd ∈ gU := gU_in (tb2 61 rfl) rfl
theorem q117 : Cond.selects RX0 yX0_tryAdd yX0_tryAdd ∈ gU := gU_in (pv (List.mem_append_left _ (List.mem_of_getElem? (i := 3) rfl))) rfl
theorem q118 : Cond.code yX0_tryAdd cX0_tryAdd 4 (some .boolean) ∈ gU := gU_in (tb2 62 rfl) rfl
theorem q119 : Cond.methodLink RX0 49 yX0_pegAt ∈ gU := gU_in (tb2 63 rfl) rfl
theorem q120 : Cond.instanceMethod yX0_pegAt ∈ gU := gU_in (tb2 65 rfl) rfl
theorem q121 : Cond.selects RX0 yX0_pegAt yX0_pegAt ∈ gU := gU_in (pv (List.mem_append_left _ (List.mem_of_getElem? (i := 4) rfl))) rfl
theorem q122 : Cond.code yX0_pegAt cX0_pegAt 4 (some .int) ∈ gU := gU_in (tb2 66 rfl) rfl
theorem q123 : Cond.methodLink RX0 53 yX0_replace ∈ gU := gU_in (tb2 67 rfl) rfl
theorem q124 : Cond.instanceMethod yX0_replace ∈ gU := gU_in (tb2 69 rfl) rfl
theorem q125 : Cond.selects RX0 yX0_replace yX0_replace ∈ gU := gU_in (pv (List.mem_append_left _ (List.mem_of_getElem? (i := 5) rfl))) rfl
theorem q126 : Cond.code yX0_replace cX0_replace 5 none ∈ gU := gU_in (tb2 70 rfl) rfl
theorem q127 : Cond.methodLink RX0 57 yX0_spot ∈ gU := gU_in (tb2 71 rfl) rfl
theorem q128 : Cond.static yX0_spot ∈ gU := gU_in (tb2 72 rfl) rfl
theorem q129 : Cond.code yX0_spot cX0_spot 2 (some .int) ∈ gU := gU_in (tb2 73 rfl) rfl
theorem q130 : Cond.methodLink RX5 68 yX5_keepTrial ∈ gU := gU_in (tb2 90 rfl) rfl
theorem q131 : Cond.instanceMethod yX5_keepTrial ∈ gU := gU_in (tb2 92 rfl) rfl
theorem q132 : Cond.selects RX5 yX5_keepTrial yX5_keepTrial ∈ gU := gU_in (pv (List.mem_append_left _ (List.mem_of_getElem? (i := 6) rfl))) rfl
theorem q133 : Cond.code yX5_keepTrial cX5_keepTrial 1 none ∈ gU := gU_in (tb2 93 rfl) rfl
theorem q134 : Cond.instanceMethod yX1_save ∈ gU := gU_in (tb2 96 rfl) rfl
theorem q135 : Cond.selects RX1 yX1_save yX1_save ∈ gU := gU_in (pv (List.mem_append_left _ (List.mem_of_getElem? (i := 7) rfl))) rfl
theorem q136 : Cond.code yX1_save cX1_save 4 none ∈ gU := gU_in (tb2 97 rfl) rfl
theorem q137 : Cond.instanceMethod yX4_solve ∈ gU := gU_in (tb2 102 rfl) rfl
theorem q138 : Cond.selects RX4 yX4_solve yX4_solve ∈ gU := gU_in (pv (List.mem_append_left _ (List.mem_of_getElem? (i := 8) rfl))) rfl
theorem q139 : Cond.code yX4_solve cX4_solve 3 none ∈ gU := gU_in (tb2 103 rfl) rfl
theorem q140 : Cond.methodLink RX4 37 yX4_findMeshing ∈ gU := gU_in (tb2 104 rfl) rfl
theorem q141 : Cond.instanceMethod yX4_findMeshing ∈ gU := gU_in (tb2 106 rfl) rfl
theorem q142 : Cond.selects RX4 yX4_findMeshing yX4_findMeshing ∈ gU := gU_in (pv (List.mem_append_left _ (List.mem_of_getElem? (i := 9) rfl))) rfl
theorem q143 : Cond.code yX4_findMeshing cX4_findMeshing 6 none ∈ gU := gU_in (tb2 107 rfl) rfl
theorem q144 : Cond.instanceMethod yX0_areMeshing ∈ gU := gU_in (tb2 110 rfl) rfl
theorem q145 : Cond.selects RX0 yX0_areMeshing yX0_areMeshing ∈ gU := gU_in (pv (List.mem_append_left _ (List.mem_of_getElem? (i := 10) rfl))) rfl
theorem q146 : Cond.code yX0_areMeshing cX0_areMeshing 6 (some .boolean) ∈ gU := gU_in (tb2 111 rfl) rfl
theorem q147 : Cond.methodLink RX0 72 yX0_meshDistance ∈ gU := gU_in (tb2 112 rfl) rfl
theorem q148 : Cond.instanceMethod yX0_meshDistance ∈ gU := gU_in (tb2 114 rfl) rfl
theorem q149 : Cond.selects RX0 yX0_meshDistance yX0_meshDistance ∈ gU := gU_in (pv (List.mem_append_left _ (List.mem_of_getElem? (i := 11) rfl))) rfl
theorem q150 : Cond.code yX0_meshDistance cX0_meshDistance 4 (some .int) ∈ gU := gU_in (tb2 115 rfl) rfl
theorem q151 : Cond.methodLink RX0 75 yX0_squareOfDistance ∈ gU := gU_in (tb2 116 rfl) rfl
theorem q152 : Cond.instanceMethod yX0_squareOfDistance ∈ gU := gU_in (tb2 118 rfl) rfl
theorem q153 : Cond.selects RX0 yX0_squareOfDistance yX0_squareOfDistance ∈ gU := gU_in (pv (List.mem_append_left _ (List.mem_of_getElem? (i := 12) rfl))) rfl
theorem q154 : Cond.code yX0_squareOfDistance cX0_squareOfDistance 5 (some .int) ∈ gU := gU_in (tb2 119 rfl) rfl
theorem q155 : Cond.methodLink RX0 78 yX0_leastSquare ∈ gU := gU_in (tb2 120 rfl) rfl
theorem q156 : Cond.instanceMethod yX0_leastSquare ∈ gU := gU_in (tb2 122 rfl) rfl
theorem q157 : Cond.selects RX0 yX0_leastSquare yX0_leastSquare ∈ gU := gU_in (pv (List.mem_append_left _ (List.mem_of_getElem? (i := 13) rfl))) rfl
theorem q158 : Cond.code yX0_leastSquare cX0_leastSquare 3 (some .int) ∈ gU := gU_in (tb2 123 rfl) rfl
theorem q159 : Cond.methodLink RX0 82 yX0_mostSquare ∈ gU := gU_in (tb2 124 rfl) rfl
theorem q160 : Cond.instanceMethod yX0_mostSquare ∈ gU := gU_in (tb2 126 rfl) rfl
theorem q161 : Cond.selects RX0 yX0_mostSquare yX0_mostSquare ∈ gU := gU_in (pv (List.mem_append_left _ (List.mem_of_getElem? (i := 14) rfl))) rfl
theorem q162 : Cond.code yX0_mostSquare cX0_mostSquare 3 (some .int) ∈ gU := gU_in (tb2 127 rfl) rfl
theorem q163 : Cond.methodLink RX4 41 yX4_stop ∈ gU := gU_in (tb2 128 rfl) rfl
theorem q164 : Cond.instanceMethod yX4_stop ∈ gU := gU_in (tb2 130 rfl) rfl
theorem q165 : Cond.selects RX4 yX4_stop yX4_stop ∈ gU := gU_in (pv (List.mem_append_left _ (List.mem_of_getElem? (i := 15) rfl))) rfl
theorem q166 : Cond.code yX4_stop cX4_stop 2 none ∈ gU := gU_in (tb2 131 rfl) rfl
theorem q167 : Cond.instanceMethod yX0_hasPeg ∈ gU := gU_in (tb2 134 rfl) rfl
theorem q168 : Cond.selects RX0 yX0_hasPeg yX0_hasPeg ∈ gU := gU_in (pv (List.mem_append_right _ (List.mem_append_left _ (List.mem_of_getElem? (i := 0) rfl)))) rfl
theorem q169 : Cond.code yX0_hasPeg cX0_hasPeg 2 (some .boolean) ∈ gU := gU_in (tb2 135 rfl) rfl
theorem q170 : Cond.methodLink RX4 53 yX4_join ∈ gU := gU_in (tb2 136 rfl) rfl
theorem q171 : Cond.instanceMethod yX4_join ∈ gU := gU_in (tb2 138 rfl) rfl
theorem q172 : Cond.selects RX4 yX4_join yX4_join ∈ gU := gU_in (pv (List.mem_append_right _ (List.mem_append_left _ (List.mem_of_getElem? (i := 1) rfl)))) rfl
theorem q173 : Cond.code yX4_join cX4_join 6 none ∈ gU := gU_in (tb2 139 rfl) rfl
theorem q174 : Cond.methodLink RX4 57 yX4_turnNeighbours ∈ gU := gU_in (tb2 140 rfl) rfl
theorem q175 : Cond.instanceMethod yX4_turnNeighbours ∈ gU := gU_in (tb2 142 rfl) rfl
theorem q176 : Cond.selects RX4 yX4_turnNeighbours yX4_turnNeighbours ∈ gU := gU_in (pv (List.mem_append_right _ (List.mem_append_left _ (List.mem_of_getElem? (i := 2) rfl)))) rfl
theorem q177 : Cond.code yX4_turnNeighbours cX4_turnNeighbours 5 none ∈ gU := gU_in (tb2 143 rfl) rfl
theorem q178 : Cond.methodLink RX4 68 yX4_meshOnLevel ∈ gU := gU_in (tb2 144 rfl) rfl
theorem q179 : Cond.instanceMethod yX4_meshOnLevel ∈ gU := gU_in (tb2 146 rfl) rfl
theorem q180 : Cond.selects RX4 yX4_meshOnLevel yX4_meshOnLevel ∈ gU := gU_in (pv (List.mem_append_right _ (List.mem_append_left _ (List.mem_of_getElem? (i := 3) rfl)))) rfl
theorem q181 : Cond.code yX4_meshOnLevel cX4_meshOnLevel 4 (some .boolean) ∈ gU := gU_in (tb2 147 rfl) rfl
theorem q182 : Cond.methodLink RX4 89 yX4_levelsOf ∈ gU := gU_in (tb2 148 rfl) rfl
theorem q183 : Cond.instanceMethod yX4_levelsOf ∈ gU := gU_in (tb2 150 rfl) rfl
theorem q184 : Cond.selects RX4 yX4_levelsOf yX4_levelsOf ∈ gU := gU_in (pv (List.mem_append_right _ (List.mem_append_left _ (List.mem_of_getElem? (i := 4) rfl)))) rfl
theorem q185 : Cond.code yX4_levelsOf cX4_levelsOf 3 (some .int) ∈ gU := gU_in (tb2 151 rfl) rfl
theorem q186 : Cond.methodLink RX4 71 yX4_turn ∈ gU := gU_in (tb2 152 rfl) rfl
theorem q187 : Cond.instanceMethod yX4_turn ∈ gU := gU_in (tb2 154 rfl) rfl
theorem q188 : Cond.selects RX4 yX4_turn yX4_turn ∈ gU := gU_in (pv (List.mem_append_right _ (List.mem_append_left _ (List.mem_of_getElem? (i := 5) rfl)))) rfl
theorem q189 : Cond.code yX4_turn cX4_turn 13 none ∈ gU := gU_in (tb2 155 rfl) rfl
theorem q190 : Cond.instanceMethod yX0_signedTeeth ∈ gU := gU_in (tb2 159 rfl) rfl
theorem q191 : Cond.selects RX0 yX0_signedTeeth yX0_signedTeeth ∈ gU := gU_in (pv (List.mem_append_right _ (List.mem_append_left _ (List.mem_of_getElem? (i := 6) rfl)))) rfl
theorem q192 : Cond.code yX0_signedTeeth cX0_signedTeeth 3 (some .int) ∈ gU := gU_in (tb2 160 rfl) rfl
theorem q193 : Cond.static yX5_commonDivisor ∈ gU := gU_in (tb2 162 rfl) rfl
theorem q194 : Cond.code yX5_commonDivisor cX5_commonDivisor 11 (some .long) ∈ gU := gU_in (tb2 163 rfl) rfl
theorem q195 : Cond.methodLink RL 20 yX5_drive ∈ gU := gU_in (tb2 164 rfl) rfl
theorem q196 : Cond.instanceMethod yX5_drive ∈ gU := gU_in (tb2 165 rfl) rfl
theorem q197 : Cond.selects RX5 yX5_drive yX5_drive ∈ gU := gU_in (tb2 166 rfl) rfl
theorem q198 : Cond.code yX5_drive cX5_drive 3 (some .int) ∈ gU := gU_in (tb2 167 rfl) rfl
theorem q199 : Cond.methodLink RX5 75 yX5_needPeg ∈ gU := gU_in (tb2 168 rfl) rfl
theorem q200 : Cond.instanceMethod yX5_needPeg ∈ gU := gU_in (tb2 170 rfl) rfl
theorem q201 : Cond.selects RX5 yX5_needPeg yX5_needPeg ∈ gU := gU_in (pv (List.mem_append_right _ (List.mem_append_left _ (List.mem_of_getElem? (i := 7) rfl)))) rfl
theorem q202 : Cond.code yX5_needPeg cX5_needPeg 2 none ∈ gU := gU_in (tb2 171 rfl) rfl
theorem q203 : Cond.classLink RX5 268 "java/lang/IndexOutOfBoundsException" ∈ gU := gU_in (tb2 173 rfl) rfl
theorem q204 : Cond.initialized "java/lang/IndexOutOfBoundsException" ∈ gU := gU_in (tb1 13 rfl) rfl
theorem q205 : Cond.methodLink RL 78 yL_fits ∈ gU := gU_in (tb3 61 rfl) rfl
theorem q206 : Cond.static yL_fits ∈ gU := gU_in (tb3 62 rfl) rfl
theorem q207 : Cond.code yL_fits cL_fits 9 (some .int) ∈ gU := gU_in (tb3 63 rfl) rfl
theorem q208 : Cond.methodLink RL 8 yX5_count ∈ gU := gU_in (tb2 199 rfl) rfl
theorem q209 : Cond.instanceMethod yX5_count ∈ gU := gU_in (tb2 200 rfl) rfl
theorem q210 : Cond.selects RX5 yX5_count yX5_count ∈ gU := gU_in (tb2 201 rfl) rfl
theorem q211 : Cond.code yX5_count cX5_count 2 (some .int) ∈ gU := gU_in (tb2 202 rfl) rfl
theorem q212 : Cond.methodLink RX5 199 yX5_countOf ∈ gU := gU_in (tb2 203 rfl) rfl
theorem q213 : Cond.instanceMethod yX5_countOf ∈ gU := gU_in (tb2 205 rfl) rfl
theorem q214 : Cond.selects RX5 yX5_countOf yX5_countOf ∈ gU := gU_in (pv (List.mem_append_right _ (List.mem_append_left _ (List.mem_of_getElem? (i := 8) rfl)))) rfl
theorem q215 : Cond.code yX5_countOf cX5_countOf 2 (some .int) ∈ gU := gU_in (tb2 206 rfl) rfl
theorem q216 : Cond.instanceMethod yX0_things ∈ gU := gU_in (tb2 209 rfl) rfl
theorem q217 : Cond.selects RX0 yX0_things yX0_things ∈ gU := gU_in (pv (List.mem_append_right _ (List.mem_append_left _ (List.mem_of_getElem? (i := 9) rfl)))) rfl
theorem q218 : Cond.code yX0_things cX0_things 5 (some .int) ∈ gU := gU_in (tb2 210 rfl) rfl
theorem q219 : Cond.instanceMethod yX4_meshingPairs ∈ gU := gU_in (tb2 213 rfl) rfl
theorem q220 : Cond.selects RX4 yX4_meshingPairs yX4_meshingPairs ∈ gU := gU_in (pv (List.mem_append_right _ (List.mem_append_left _ (List.mem_of_getElem? (i := 10) rfl)))) rfl
theorem q221 : Cond.code yX4_meshingPairs cX4_meshingPairs 4 (some .int) ∈ gU := gU_in (tb2 214 rfl) rfl
theorem q222 : Cond.methodLink RX4 92 yX4_neighbours ∈ gU := gU_in (tb2 215 rfl) rfl
theorem q223 : Cond.instanceMethod yX4_neighbours ∈ gU := gU_in (tb2 217 rfl) rfl
theorem q224 : Cond.selects RX4 yX4_neighbours yX4_neighbours ∈ gU := gU_in (pv (List.mem_append_right _ (List.mem_append_left _ (List.mem_of_getElem? (i := 11) rfl)))) rfl
theorem q225 : Cond.code yX4_neighbours cX4_neighbours 5 (some .int) ∈ gU := gU_in (tb2 218 rfl) rfl
theorem q226 : Cond.methodLink RX5 124 yX5_toNumber ∈ gU := gU_in (tb2 219 rfl) rfl
theorem q227 : Cond.static yX5_toNumber ∈ gU := gU_in (tb2 220 rfl) rfl
theorem q228 : Cond.code yX5_toNumber cX5_toNumber 1 (some .int) ∈ gU := gU_in (tb2 221 rfl) rfl
theorem q229 : Cond.instanceMethod yX4_reachesGoal ∈ gU := gU_in (tb2 224 rfl) rfl
theorem q230 : Cond.selects RX4 yX4_reachesGoal yX4_reachesGoal ∈ gU := gU_in (pv (List.mem_append_right _ (List.mem_append_left _ (List.mem_of_getElem? (i := 12) rfl)))) rfl
theorem q231 : Cond.code yX4_reachesGoal cX4_reachesGoal 3 (some .boolean) ∈ gU := gU_in (tb2 225 rfl) rfl
theorem q232 : Cond.instanceMethod yX0_overlaps ∈ gU := gU_in (tb2 228 rfl) rfl
theorem q233 : Cond.selects RX0 yX0_overlaps yX0_overlaps ∈ gU := gU_in (pv (List.mem_append_right _ (List.mem_append_left _ (List.mem_of_getElem? (i := 13) rfl)))) rfl
theorem q234 : Cond.code yX0_overlaps cX0_overlaps 5 (some .int) ∈ gU := gU_in (tb2 229 rfl) rfl
theorem q235 : Cond.methodLink RX0 85 yX0_areOverlapping ∈ gU := gU_in (tb2 230 rfl) rfl
theorem q236 : Cond.instanceMethod yX0_areOverlapping ∈ gU := gU_in (tb2 232 rfl) rfl
theorem q237 : Cond.selects RX0 yX0_areOverlapping yX0_areOverlapping ∈ gU := gU_in (pv (List.mem_append_right _ (List.mem_append_left _ (List.mem_of_getElem? (i := 14) rfl)))) rfl
theorem q238 : Cond.code yX0_areOverlapping cX0_areOverlapping 9 (some .boolean) ∈ gU := gU_in (tb2 233 rfl) rfl
theorem q239 : Cond.methodLink RL 40 yX5_peg ∈ gU := gU_in (tb3 64 rfl) rfl
theorem q240 : Cond.instanceMethod yX5_peg ∈ gU := gU_in (tb3 65 rfl) rfl
theorem q241 : Cond.selects RX5 yX5_peg yX5_peg ∈ gU := gU_in (tb3 66 rfl) rfl
theorem q242 : Cond.code yX5_peg cX5_peg 3 (some .int) ∈ gU := gU_in (tb3 67 rfl) rfl
theorem q243 : Cond.methodLink RX5 167 yX5_pegProperty ∈ gU := gU_in (tb3 68 rfl) rfl
theorem q244 : Cond.instanceMethod yX5_pegProperty ∈ gU := gU_in (tb3 70 rfl) rfl
theorem q245 : Cond.selects RX5 yX5_pegProperty yX5_pegProperty ∈ gU := gU_in (pv (List.mem_append_right _ (List.mem_append_right _ (List.mem_append_left _ (List.mem_of_getElem? (i := 6) rfl))))) rfl
theorem q246 : Cond.code yX5_pegProperty cX5_pegProperty 3 (some .int) ∈ gU := gU_in (tb3 71 rfl) rfl
theorem q247 : Cond.instanceMethod yX4_direction ∈ gU := gU_in (tb3 75 rfl) rfl
theorem q248 : Cond.selects RX4 yX4_direction yX4_direction ∈ gU := gU_in (pv (List.mem_append_right _ (List.mem_append_right _ (List.mem_append_left _ (List.mem_of_getElem? (i := 7) rfl))))) rfl
theorem q249 : Cond.code yX4_direction cX4_direction 2 (some .int) ∈ gU := gU_in (tb3 76 rfl) rfl
theorem q250 : Cond.methodLink RL 36 yX5_ifPut ∈ gU := gU_in (tb3 57 rfl) rfl
theorem q251 : Cond.instanceMethod yX5_ifPut ∈ gU := gU_in (tb3 58 rfl) rfl
theorem q252 : Cond.selects RX5 yX5_ifPut yX5_ifPut ∈ gU := gU_in (tb3 59 rfl) rfl
theorem q253 : Cond.code yX5_ifPut cX5_ifPut 5 (some .int) ∈ gU := gU_in (tb3 60 rfl) rfl
theorem q254 : Cond.methodLink RX5 79 yX5_isLevel ∈ gU := gU_in (tb3 31 rfl) rfl
theorem q255 : Cond.static yX5_isLevel ∈ gU := gU_in (tb3 32 rfl) rfl
theorem q256 : Cond.code yX5_isLevel cX5_isLevel 1 (some .boolean) ∈ gU := gU_in (tb3 33 rfl) rfl
theorem q257 : Cond.methodLink RX5 83 yX5_isGear ∈ gU := gU_in (tb3 34 rfl) rfl
theorem q258 : Cond.static yX5_isGear ∈ gU := gU_in (tb3 35 rfl) rfl
theorem q259 : Cond.code yX5_isGear cX5_isGear 1 (some .boolean) ∈ gU := gU_in (tb3 36 rfl) rfl
theorem q260 : Cond.methodLink RX5 90 yX5_kindOfGear ∈ gU := gU_in (tb3 18 rfl) rfl
theorem q261 : Cond.static yX5_kindOfGear ∈ gU := gU_in (tb3 19 rfl) rfl
theorem q262 : Cond.code yX5_kindOfGear cX5_kindOfGear 1 (some .int) ∈ gU := gU_in (tb3 20 rfl) rfl
theorem q263 : Cond.instanceMethod yX0_fits ∈ gU := gU_in (tb3 24 rfl) rfl
theorem q264 : Cond.selects RX0 yX0_fits yX0_fits ∈ gU := gU_in (pv (List.mem_append_right _ (List.mem_append_right _ (List.mem_append_left _ (List.mem_of_getElem? (i := 2) rfl))))) rfl
theorem q265 : Cond.code yX0_fits cX0_fits 4 (some .boolean) ∈ gU := gU_in (tb3 25 rfl) rfl
theorem q266 : Cond.instanceMethod yX0_meshesOnLevel ∈ gU := gU_in (tb3 50 rfl) rfl
theorem q267 : Cond.selects RX0 yX0_meshesOnLevel yX0_meshesOnLevel ∈ gU := gU_in (pv (List.mem_append_right _ (List.mem_append_right _ (List.mem_append_left _ (List.mem_of_getElem? (i := 5) rfl))))) rfl
theorem q268 : Cond.code yX0_meshesOnLevel cX0_meshesOnLevel 5 (some .int) ∈ gU := gU_in (tb3 51 rfl) rfl
theorem q269 : Cond.methodLink RX0 89 yX0_areMeshing ∈ gU := gU_in (tb3 52 rfl) rfl
theorem q270 : Cond.methodLink RL 30 yX5_putGear ∈ gU := gU_in (tb3 27 rfl) rfl
theorem q271 : Cond.instanceMethod yX5_putGear ∈ gU := gU_in (tb3 28 rfl) rfl
theorem q272 : Cond.selects RX5 yX5_putGear yX5_putGear ∈ gU := gU_in (tb3 29 rfl) rfl
theorem q273 : Cond.code yX5_putGear cX5_putGear 4 (some .int) ∈ gU := gU_in (tb3 30 rfl) rfl
theorem q274 : Cond.methodLink RX5 94 yX5_putThing ∈ gU := gU_in (tb3 37 rfl) rfl
theorem q275 : Cond.instanceMethod yX5_putThing ∈ gU := gU_in (tb3 39 rfl) rfl
theorem q276 : Cond.selects RX5 yX5_putThing yX5_putThing ∈ gU := gU_in (pv (List.mem_append_right _ (List.mem_append_right _ (List.mem_append_left _ (List.mem_of_getElem? (i := 3) rfl))))) rfl
theorem q277 : Cond.code yX5_putThing cX5_putThing 5 (some .int) ∈ gU := gU_in (tb3 40 rfl) rfl
theorem q278 : Cond.instanceMethod yX0_tryPut ∈ gU := gU_in (tb3 43 rfl) rfl
theorem q279 : Cond.selects RX0 yX0_tryPut yX0_tryPut ∈ gU := gU_in (pv (List.mem_append_right _ (List.mem_append_right _ (List.mem_append_left _ (List.mem_of_getElem? (i := 4) rfl))))) rfl
theorem q280 : Cond.code yX0_tryPut cX0_tryPut 7 (some .boolean) ∈ gU := gU_in (tb3 44 rfl) rfl
theorem q281 : Cond.methodLink RX0 60 yX0_hasPeg ∈ gU := gU_in (tb3 45 rfl) rfl
theorem q282 : Cond.methodLink RX0 64 yX0_fits ∈ gU := gU_in (tb3 46 rfl) rfl
theorem q283 : Cond.methodLink RL 82 yL_does ∈ gU := gU_in (tb2 196 rfl) rfl
theorem q284 : Cond.static yL_does ∈ gU := gU_in (tb2 197 rfl) rfl
theorem q285 : Cond.code yL_does cL_does 6 (some .int) ∈ gU := gU_in (tb2 198 rfl) rfl
theorem q286 : Cond.methodLink RL 23 yX5_goal ∈ gU := gU_in (tb2 234 rfl) rfl
theorem q287 : Cond.instanceMethod yX5_goal ∈ gU := gU_in (tb2 235 rfl) rfl
theorem q288 : Cond.selects RX5 yX5_goal yX5_goal ∈ gU := gU_in (tb2 236 rfl) rfl
theorem q289 : Cond.code yX5_goal cX5_goal 4 (some .int) ∈ gU := gU_in (tb2 237 rfl) rfl
theorem q290 : Cond.instanceMethod yX0_setGoal ∈ gU := gU_in (tb3 0 rfl) rfl
theorem q291 : Cond.selects RX0 yX0_setGoal yX0_setGoal ∈ gU := gU_in (pv (List.mem_append_right _ (List.mem_append_left _ (List.mem_of_getElem? (i := 15) rfl)))) rfl
theorem q292 : Cond.code yX0_setGoal cX0_setGoal 5 none ∈ gU := gU_in (tb3 1 rfl) rfl
theorem q293 : Cond.methodLink RL 27 yX5_solution ∈ gU := gU_in (tb3 3 rfl) rfl
theorem q294 : Cond.instanceMethod yX5_solution ∈ gU := gU_in (tb3 4 rfl) rfl
theorem q295 : Cond.selects RX5 yX5_solution yX5_solution ∈ gU := gU_in (tb3 5 rfl) rfl
theorem q296 : Cond.code yX5_solution cX5_solution 2 (some .int) ∈ gU := gU_in (tb3 6 rfl) rfl
theorem q297 : Cond.methodLink RX5 218 yX5_findChange ∈ gU := gU_in (tb3 7 rfl) rfl
theorem q298 : Cond.instanceMethod yX5_findChange ∈ gU := gU_in (tb3 9 rfl) rfl
theorem q299 : Cond.selects RX5 yX5_findChange yX5_findChange ∈ gU := gU_in (pv (List.mem_append_right _ (List.mem_append_right _ (List.mem_append_left _ (List.mem_of_getElem? (i := 0) rfl))))) rfl
theorem q300 : Cond.code yX5_findChange cX5_findChange 3 (some .int) ∈ gU := gU_in (tb3 10 rfl) rfl
theorem q301 : Cond.methodLink RX5 340 yX5_changeReachesGoal ∈ gU := gU_in (tb3 11 rfl) rfl
theorem q302 : Cond.instanceMethod yX5_changeReachesGoal ∈ gU := gU_in (tb3 13 rfl) rfl
theorem q303 : Cond.selects RX5 yX5_changeReachesGoal yX5_changeReachesGoal ∈ gU := gU_in (pv (List.mem_append_right _ (List.mem_append_right _ (List.mem_append_left _ (List.mem_of_getElem? (i := 1) rfl))))) rfl
theorem q304 : Cond.code yX5_changeReachesGoal cX5_changeReachesGoal 7 (some .boolean) ∈ gU := gU_in (tb3 14 rfl) rfl
theorem q305 : Cond.methodLink RX5 222 yX5_partOfChange ∈ gU := gU_in (tb3 15 rfl) rfl
theorem q306 : Cond.static yX5_partOfChange ∈ gU := gU_in (tb3 16 rfl) rfl
theorem q307 : Cond.code yX5_partOfChange cX5_partOfChange 3 (some .int) ∈ gU := gU_in (tb3 17 rfl) rfl
theorem q308 : Cond.methodLink RL 33 yX5_set ∈ gU := gU_in (tb3 53 rfl) rfl
theorem q309 : Cond.instanceMethod yX5_set ∈ gU := gU_in (tb3 54 rfl) rfl
theorem q310 : Cond.selects RX5 yX5_set yX5_set ∈ gU := gU_in (tb3 55 rfl) rfl
theorem q311 : Cond.code yX5_set cX5_set 3 (some .int) ∈ gU := gU_in (tb3 56 rfl) rfl
theorem q312 : Cond.methodLink RL 85 yL_arePegsSo ∈ gU := gU_in (tb3 77 rfl) rfl
theorem q313 : Cond.static yL_arePegsSo ∈ gU := gU_in (tb3 78 rfl) rfl
theorem q314 : Cond.code yL_arePegsSo cL_arePegsSo 22 (some .boolean) ∈ gU := gU_in (tb3 79 rfl) rfl
theorem q315 : Cond.constantLong RL 57 (-1) ∈ gU := gU_in (tb3 139 rfl) rfl
theorem q316 : Cond.methodLink RL 43 yX5_marks ∈ gU := gU_in (tb3 80 rfl) rfl
theorem q317 : Cond.instanceMethod yX5_marks ∈ gU := gU_in (tb3 81 rfl) rfl
theorem q318 : Cond.selects RX5 yX5_marks yX5_marks ∈ gU := gU_in (tb3 82 rfl) rfl
theorem q319 : Cond.code yX5_marks cX5_marks 1 (some .long) ∈ gU := gU_in (tb3 83 rfl) rfl
theorem q320 : Cond.instanceMethod yX4_turnsOfMarks ∈ gU := gU_in (tb3 86 rfl) rfl
theorem q321 : Cond.selects RX4 yX4_turnsOfMarks yX4_turnsOfMarks ∈ gU := gU_in (pv (List.mem_append_right _ (List.mem_append_right _ (List.mem_append_left _ (List.mem_of_getElem? (i := 8) rfl))))) rfl
theorem q322 : Cond.code yX4_turnsOfMarks cX4_turnsOfMarks 7 (some .long) ∈ gU := gU_in (tb3 87 rfl) rfl
theorem q323 : Cond.methodLink RX4 109 yX4_turningPegs ∈ gU := gU_in (tb3 88 rfl) rfl
theorem q324 : Cond.instanceMethod yX4_turningPegs ∈ gU := gU_in (tb3 90 rfl) rfl
theorem q325 : Cond.selects RX4 yX4_turningPegs yX4_turningPegs ∈ gU := gU_in (pv (List.mem_append_right _ (List.mem_append_right _ (List.mem_append_left _ (List.mem_of_getElem? (i := 9) rfl))))) rfl
theorem q326 : Cond.code yX4_turningPegs cX4_turningPegs 4 (some .int) ∈ gU := gU_in (tb3 91 rfl) rfl
theorem q327 : Cond.methodLink RX4 96 yX4_direction ∈ gU := gU_in (tb3 92 rfl) rfl
theorem q328 : Cond.methodLink RL 47 yX5_speed ∈ gU := gU_in (tb3 93 rfl) rfl
theorem q329 : Cond.instanceMethod yX5_speed ∈ gU := gU_in (tb3 94 rfl) rfl
theorem q330 : Cond.selects RX5 yX5_speed yX5_speed ∈ gU := gU_in (tb3 95 rfl) rfl
theorem q331 : Cond.code yX5_speed cX5_speed 3 (some .long) ∈ gU := gU_in (tb3 96 rfl) rfl
theorem q332 : Cond.methodLink RL 51 yX5_train ∈ gU := gU_in (tb3 97 rfl) rfl
theorem q333 : Cond.instanceMethod yX5_train ∈ gU := gU_in (tb3 98 rfl) rfl
theorem q334 : Cond.selects RX5 yX5_train yX5_train ∈ gU := gU_in (tb3 99 rfl) rfl
theorem q335 : Cond.code yX5_train cX5_train 4 (some .int) ∈ gU := gU_in (tb3 100 rfl) rfl
theorem q336 : Cond.instanceMethod yX2_find ∈ gU := gU_in (tb3 103 rfl) rfl
theorem q337 : Cond.selects RX2 yX2_find yX2_find ∈ gU := gU_in (pv (List.mem_append_right _ (List.mem_append_right _ (List.mem_append_left _ (List.mem_of_getElem? (i := 10) rfl))))) rfl
theorem q338 : Cond.code yX2_find cX2_find 6 none ∈ gU := gU_in (tb3 104 rfl) rfl
theorem q339 : Cond.methodLink RX2 32 yX2_findStepsLeft ∈ gU := gU_in (tb3 105 rfl) rfl
theorem q340 : Cond.instanceMethod yX2_findStepsLeft ∈ gU := gU_in (tb3 107 rfl) rfl
theorem q341 : Cond.selects RX2 yX2_findStepsLeft yX2_findStepsLeft ∈ gU := gU_in (pv (List.mem_append_right _ (List.mem_append_right _ (List.mem_append_left _ (List.mem_of_getElem? (i := 11) rfl))))) rfl
theorem q342 : Cond.code yX2_findStepsLeft cX2_findStepsLeft 6 none ∈ gU := gU_in (tb3 108 rfl) rfl
theorem q343 : Cond.methodLink RX2 47 yX2_reachNeighbours ∈ gU := gU_in (tb3 109 rfl) rfl
theorem q344 : Cond.instanceMethod yX2_reachNeighbours ∈ gU := gU_in (tb3 111 rfl) rfl
theorem q345 : Cond.selects RX2 yX2_reachNeighbours yX2_reachNeighbours ∈ gU := gU_in (pv (List.mem_append_right _ (List.mem_append_right _ (List.mem_append_left _ (List.mem_of_getElem? (i := 12) rfl))))) rfl
theorem q346 : Cond.code yX2_reachNeighbours cX2_reachNeighbours 5 none ∈ gU := gU_in (tb3 112 rfl) rfl
theorem q347 : Cond.methodLink RX2 36 yX2_addNext ∈ gU := gU_in (tb3 114 rfl) rfl
theorem q348 : Cond.instanceMethod yX2_addNext ∈ gU := gU_in (tb3 116 rfl) rfl
theorem q349 : Cond.selects RX2 yX2_addNext yX2_addNext ∈ gU := gU_in (pv (List.mem_append_right _ (List.mem_append_right _ (List.mem_append_left _ (List.mem_of_getElem? (i := 13) rfl))))) rfl
theorem q350 : Cond.code yX2_addNext cX2_addNext 6 none ∈ gU := gU_in (tb3 117 rfl) rfl
theorem q351 : Cond.methodLink RX2 39 yX2_levelFrom ∈ gU := gU_in (tb3 118 rfl) rfl
theorem q352 : Cond.instanceMethod yX2_levelFrom ∈ gU := gU_in (tb3 120 rfl) rfl
theorem q353 : Cond.selects RX2 yX2_levelFrom yX2_levelFrom ∈ gU := gU_in (pv (List.mem_append_right _ (List.mem_append_right _ (List.mem_append_left _ (List.mem_of_getElem? (i := 14) rfl))))) rfl
theorem q354 : Cond.code yX2_levelFrom cX2_levelFrom 3 (some .int) ∈ gU := gU_in (tb3 121 rfl) rfl
theorem q355 : Cond.methodLink RX2 56 yX2_turn ∈ gU := gU_in (tb3 123 rfl) rfl
theorem q356 : Cond.instanceMethod yX2_turn ∈ gU := gU_in (tb3 125 rfl) rfl
theorem q357 : Cond.selects RX2 yX2_turn yX2_turn ∈ gU := gU_in (pv (List.mem_append_right _ (List.mem_append_right _ (List.mem_append_left _ (List.mem_of_getElem? (i := 15) rfl))))) rfl
theorem q358 : Cond.code yX2_turn cX2_turn 13 none ∈ gU := gU_in (tb3 126 rfl) rfl
theorem q359 : Cond.methodLink RX5 185 yX5_rowProperty ∈ gU := gU_in (tb3 130 rfl) rfl
theorem q360 : Cond.instanceMethod yX5_rowProperty ∈ gU := gU_in (tb3 132 rfl) rfl
theorem q361 : Cond.selects RX5 yX5_rowProperty yX5_rowProperty ∈ gU := gU_in (pv (List.mem_append_right _ (List.mem_append_right _ (List.mem_append_right _ (List.mem_of_getElem? (i := 0) rfl))))) rfl
theorem q362 : Cond.code yX5_rowProperty cX5_rowProperty 2 (some .int) ∈ gU := gU_in (tb3 133 rfl) rfl
theorem q363 : Cond.methodLink RL 54 yX5_meshes ∈ gU := gU_in (tb3 134 rfl) rfl
theorem q364 : Cond.instanceMethod yX5_meshes ∈ gU := gU_in (tb3 135 rfl) rfl
theorem q365 : Cond.selects RX5 yX5_meshes yX5_meshes ∈ gU := gU_in (tb3 136 rfl) rfl
theorem q366 : Cond.code yX5_meshes cX5_meshes 3 (some .int) ∈ gU := gU_in (tb3 137 rfl) rfl
theorem q367 : Cond.methodLink RL 59 yX5_ratio ∈ gU := gU_in (tb3 140 rfl) rfl
theorem q368 : Cond.instanceMethod yX5_ratio ∈ gU := gU_in (tb3 141 rfl) rfl
theorem q369 : Cond.selects RX5 yX5_ratio yX5_ratio ∈ gU := gU_in (tb3 142 rfl) rfl
theorem q370 : Cond.code yX5_ratio cX5_ratio 4 (some .long) ∈ gU := gU_in (tb3 143 rfl) rfl
theorem q371 : Cond.methodLink RL 89 yL_areAnswersSo ∈ gU := gU_in (tb3 144 rfl) rfl
theorem q372 : Cond.static yL_areAnswersSo ∈ gU := gU_in (tb3 145 rfl) rfl
theorem q373 : Cond.code yL_areAnswersSo cL_areAnswersSo 7 (some .boolean) ∈ gU := gU_in (tb3 146 rfl) rfl
theorem q374 : Cond.methodLink RL 63 yX5_undo ∈ gU := gU_in (tb3 147 rfl) rfl
theorem q375 : Cond.instanceMethod yX5_undo ∈ gU := gU_in (tb3 148 rfl) rfl
theorem q376 : Cond.selects RX5 yX5_undo yX5_undo ∈ gU := gU_in (tb3 149 rfl) rfl
theorem q377 : Cond.code yX5_undo cX5_undo 1 (some .int) ∈ gU := gU_in (tb3 150 rfl) rfl
theorem q378 : Cond.instanceMethod yX1_tryRestore ∈ gU := gU_in (tb3 153 rfl) rfl
theorem q379 : Cond.selects RX1 yX1_tryRestore yX1_tryRestore ∈ gU := gU_in (pv (List.mem_append_right _ (List.mem_append_right _ (List.mem_append_right _ (List.mem_of_getElem? (i := 1) rfl))))) rfl
theorem q380 : Cond.code yX1_tryRestore cX1_tryRestore 3 (some .boolean) ∈ gU := gU_in (tb3 154 rfl) rfl
theorem q381 : Cond.methodLink RL 67 yX5_culprit ∈ gU := gU_in (tb3 156 rfl) rfl
theorem q382 : Cond.instanceMethod yX5_culprit ∈ gU := gU_in (tb3 157 rfl) rfl
theorem q383 : Cond.selects RX5 yX5_culprit yX5_culprit ∈ gU := gU_in (tb3 158 rfl) rfl
theorem q384 : Cond.code yX5_culprit cX5_culprit 2 (some .int) ∈ gU := gU_in (tb3 159 rfl) rfl
theorem q385 : Cond.methodLink RX5 225 yX5_freesJam ∈ gU := gU_in (tb3 160 rfl) rfl
theorem q386 : Cond.instanceMethod yX5_freesJam ∈ gU := gU_in (tb3 162 rfl) rfl
theorem q387 : Cond.selects RX5 yX5_freesJam yX5_freesJam ∈ gU := gU_in (pv (List.mem_append_right _ (List.mem_append_right _ (List.mem_append_right _ (List.mem_of_getElem? (i := 2) rfl))))) rfl
theorem q388 : Cond.code yX5_freesJam cX5_freesJam 3 (some .boolean) ∈ gU := gU_in (tb3 163 rfl) rfl
theorem uX0 : ∀ w ∈ wsX00, w ∈ gU := fun w h => gU_in (wsX00_inT w h) (List.all_eq_true.mp (show wsX00.all goodWord = true by decide +kernel) w h)
theorem uX1 : ∀ w ∈ wsX10, w ∈ gU := fun w h => gU_in (wsX10_inT w h) (List.all_eq_true.mp (show wsX10.all goodWord = true by decide +kernel) w h)
theorem uX2 : ∀ w ∈ wsX20, w ∈ gU := fun w h => gU_in (wsX20_inT w h) (List.all_eq_true.mp (show wsX20.all goodWord = true by decide +kernel) w h)
theorem uX3 : ∀ w ∈ wsX30, w ∈ gU := fun w h => gU_in (wsX30_inT w h) (List.all_eq_true.mp (show wsX30.all goodWord = true by decide +kernel) w h)
theorem uX4 : ∀ w ∈ wsX40, w ∈ gU := fun w h => gU_in (wsX40_inT w h) (List.all_eq_true.mp (show wsX40.all goodWord = true by decide +kernel) w h)
theorem uX5 : ∀ w ∈ wsX50, w ∈ gU := fun w h => gU_in (wsX50_inT w h) (List.all_eq_true.mp (show wsX50.all goodWord = true by decide +kernel) w h)
