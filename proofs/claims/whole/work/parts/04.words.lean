/-! the one word list of all contracts -/
noncomputable def W0 : List Cond := lw_tbl.filter goodWord
theorem w0_mem {w : Cond} (h : w ∈ tables_1) (hg : goodWord w = true) : w ∈ W0 := List.mem_filter.mpr ⟨List.mem_append_right _ h, hg⟩
theorem w0_1 {w : Cond} {i : Nat} (h : tables_1_1[i]? = some w) (hg : goodWord w = true) : w ∈ W0 := w0_mem (List.mem_append_left _ (List.mem_of_getElem? h)) hg
theorem w0_2 {w : Cond} {i : Nat} (h : tables_1_2[i]? = some w) (hg : goodWord w = true) : w ∈ W0 := w0_mem (List.mem_append_right _ (List.mem_append_left _ (List.mem_of_getElem? h))) hg
theorem w0_3 {w : Cond} {i : Nat} (h : tables_1_3[i]? = some w) (hg : goodWord w = true) : w ∈ W0 := w0_mem (List.mem_append_right _ (List.mem_append_right _ (List.mem_append_left _ (List.mem_of_getElem? h)))) hg
theorem w0_4 {w : Cond} {i : Nat} (h : tables_1_4[i]? = some w) (hg : goodWord w = true) : w ∈ W0 := w0_mem (List.mem_append_right _ (List.mem_append_right _ (List.mem_append_right _ (List.mem_append_left _ (List.mem_of_getElem? h))))) hg
theorem w0_5 {w : Cond} {i : Nat} (h : tables_1_5[i]? = some w) (hg : goodWord w = true) : w ∈ W0 := w0_mem (List.mem_append_right _ (List.mem_append_right _ (List.mem_append_right _ (List.mem_append_right _ (List.mem_of_getElem? h))))) hg
theorem w0_sel {q : MethodName × Nat} (h : q ∈ lw_privs) : Cond.selects q.1.cls q.1 q.1 ∈ W0 := List.mem_filter.mpr ⟨List.mem_append_left _ (List.mem_map.mpr ⟨q, h, rfl⟩), rfl⟩
theorem w0_s1 {y : MethodName} {n i : Nat} {C : String} (h : lw_privs_1[i]? = some (y, n)) (hC : y.cls = C := by rfl) : Cond.selects C y y ∈ W0 := hC ▸ w0_sel (q := (y, n)) (List.mem_append_left _ (List.mem_of_getElem? h))
theorem w0_s2 {y : MethodName} {n i : Nat} {C : String} (h : lw_privs_2[i]? = some (y, n)) (hC : y.cls = C := by rfl) : Cond.selects C y y ∈ W0 := hC ▸ w0_sel (q := (y, n)) (List.mem_append_right _ (List.mem_append_left _ (List.mem_of_getElem? h)))
theorem w0_s3 {y : MethodName} {n i : Nat} {C : String} (h : lw_privs_3[i]? = some (y, n)) (hC : y.cls = C := by rfl) : Cond.selects C y y ∈ W0 := hC ▸ w0_sel (q := (y, n)) (List.mem_append_right _ (List.mem_append_right _ (List.mem_append_left _ (List.mem_of_getElem? h))))
theorem w0_s4 {y : MethodName} {n i : Nat} {C : String} (h : lw_privs_4[i]? = some (y, n)) (hC : y.cls = C := by rfl) : Cond.selects C y y ∈ W0 := hC ▸ w0_sel (q := (y, n)) (List.mem_append_right _ (List.mem_append_right _ (List.mem_append_right _ (List.mem_append_left _ (List.mem_of_getElem? h)))))
theorem w0_s5 {y : MethodName} {n i : Nat} {C : String} (h : lw_privs_5[i]? = some (y, n)) (hC : y.cls = C := by rfl) : Cond.selects C y y ∈ W0 := hC ▸ w0_sel (q := (y, n)) (List.mem_append_right _ (List.mem_append_right _ (List.mem_append_right _ (List.mem_append_right _ (List.mem_of_getElem? h)))))
theorem w0_tbl {w : Cond} (h : w ∈ W0) : w ∈ lw_tbl := (List.mem_filter.mp h).1
theorem w0_good {w : Cond} (h : w ∈ W0) : (w.onTables && w.keeps) = true ∨ ∃ ty, w = .arrayClass ty := good_of_word (List.mem_filter.mp h).2
theorem w0_all {ws : List Cond} (h : ws.all (fun w => decide (w ∈ tables_1) && goodWord w) = true) : ∀ w ∈ ws, w ∈ W0 := fun w hw => by
  have h1 := List.all_eq_true.mp h w hw
  simp only [Bool.and_eq_true, decide_eq_true_eq] at h1
  exact w0_mem h1.1 h1.2
theorem gV {own C : String} {idx m : Nat} {y : MethodName} {b : ByteArray} {r : Option FieldType} (h1 : Cond.methodLink own idx y ∈ W0) (h2 : Cond.instanceMethod y ∈ W0) (h3 : Cond.selects C y y ∈ W0) (h4 : Cond.initialized C ∈ W0) (h5 : Cond.code y b m r ∈ W0) : GoodIn W0 (wsV own idx C y (Cond.code y b m r :: W0)) := by
  intro w hw
  have hm : w ∈ W0 := by
    simp only [wsV, List.cons_append, List.nil_append, List.mem_cons] at hw
    rcases hw with rfl | rfl | rfl | rfl | rfl | h
    · exact h1
    · exact h2
    · exact h3
    · exact h4
    · exact h5
    · exact h
  exact ⟨hm, w0_good hm⟩
theorem gS {own : String} {idx m : Nat} {y : MethodName} {b : ByteArray} {r : Option FieldType} (h1 : Cond.methodLink own idx y ∈ W0) (h2 : Cond.static y ∈ W0) (h4 : Cond.initialized y.cls ∈ W0) (h5 : Cond.code y b m r ∈ W0) : GoodIn W0 (va_wsS own idx y (Cond.code y b m r :: W0)) := by
  intro w hw
  have hm : w ∈ W0 := by
    simp only [va_wsS, List.cons_append, List.nil_append, List.mem_cons] at hw
    rcases hw with rfl | rfl | rfl | rfl | h
    · exact h1
    · exact h2
    · exact h4
    · exact h5
    · exact h
  exact ⟨hm, w0_good hm⟩
theorem gN {m : Nat} {y : MethodName} {b : ByteArray} {r : Option FieldType} (h5 : Cond.code y b m r ∈ W0) : GoodIn W0 (Cond.code y b m r :: W0) := by
  intro w hw
  have hm : w ∈ W0 := by
    rcases List.mem_cons.mp hw with rfl | h
    · exact h5
    · exact h
  exact ⟨hm, w0_good hm⟩
theorem u_X0 : ∀ w ∈ u_ws RX0 TX0 3, w ∈ W0 := w0_all (by decide +kernel)
theorem u_X1 : ∀ w ∈ u_ws RX1 TX1 6, w ∈ W0 := w0_all (by decide +kernel)
theorem u_X2 : ∀ w ∈ u_ws RX2 TX2 3, w ∈ W0 := w0_all (by decide +kernel)
theorem u_X3 : ∀ w ∈ u_ws RX3 TX3 6, w ∈ W0 := w0_all (by decide +kernel)
theorem u_X4 : ∀ w ∈ u_ws RX4 TX4 14, w ∈ W0 := w0_all (by decide +kernel)
theorem u_X5 : ∀ w ∈ u_ws RX5 TX5 4, w ∈ W0 := w0_all (by decide +kernel)
theorem u_X6 : ∀ w ∈ u_ws RX6 TX6 5, w ∈ W0 := w0_all (by decide +kernel)
theorem u_X7 : ∀ w ∈ u_ws RX7 TX7 9, w ∈ W0 := w0_all (by decide +kernel)
theorem u_X8 : ∀ w ∈ u_ws RX8 TX8 29, w ∈ W0 := w0_all (by decide +kernel)
theorem q1_0 : Cond.initialized RL ∈ W0 := w0_1 (i := 0) rfl rfl
theorem q1_1 : Cond.initialized RX7 ∈ W0 := w0_1 (i := 1) rfl rfl
theorem q1_2 : Cond.initialized RX6 ∈ W0 := w0_1 (i := 2) rfl rfl
theorem q1_3 : Cond.initialized RX4 ∈ W0 := w0_1 (i := 3) rfl rfl
theorem q1_4 : Cond.initialized RX0 ∈ W0 := w0_1 (i := 4) rfl rfl
theorem q1_5 : Cond.initialized RX2 ∈ W0 := w0_1 (i := 5) rfl rfl
theorem q1_6 : Cond.initialized RX5 ∈ W0 := w0_1 (i := 6) rfl rfl
theorem q1_7 : Cond.initialized "java/lang/Math" ∈ W0 := w0_1 (i := 7) rfl rfl
theorem q1_8 : Cond.initialized RX3 ∈ W0 := w0_1 (i := 8) rfl rfl
theorem q1_9 : Cond.initialized RX1 ∈ W0 := w0_1 (i := 9) rfl rfl
theorem q1_10 : Cond.initialized RJ7 ∈ W0 := w0_1 (i := 10) rfl rfl
theorem q1_11 : Cond.initialized RX8 ∈ W0 := w0_1 (i := 11) rfl rfl
theorem q1_12 : Cond.initialized "java/lang/Number" ∈ W0 := w0_1 (i := 12) rfl rfl
theorem q1_13 : Cond.initialized RJ13 ∈ W0 := w0_1 (i := 13) rfl rfl
theorem q1_14 : Cond.initialized RJ6 ∈ W0 := w0_1 (i := 14) rfl rfl
theorem q1_15 : Cond.classLink RL 7 RX7 ∈ W0 := w0_1 (i := 15) rfl rfl
theorem q1_16 : Cond.instantiable RX7 9 ∈ W0 := w0_1 (i := 16) rfl rfl
theorem q1_17 : Cond.methodLink RL 9 yX7_init ∈ W0 := w0_1 (i := 17) rfl rfl
theorem q1_18 : Cond.instanceMethod yX7_init ∈ W0 := w0_1 (i := 18) rfl rfl
theorem q1_19 : Cond.code yX7_init cX7_init 1 none ∈ W0 := w0_1 (i := 19) rfl rfl
theorem q1_20 : Cond.methodLink RX7 1 objectInit ∈ W0 := w0_1 (i := 20) rfl rfl
theorem q1_21 : Cond.instanceMethod objectInit ∈ W0 := w0_1 (i := 21) rfl rfl
theorem q1_22 : Cond.code objectInit ⟨#[0xb1]⟩ 1 none ∈ W0 := w0_1 (i := 22) rfl rfl
theorem q1_23 : Cond.classLink RX7 7 RX6 ∈ W0 := w0_1 (i := 23) rfl rfl
theorem q1_24 : Cond.instantiable RX6 5 ∈ W0 := w0_1 (i := 24) rfl rfl
theorem q1_26 : Cond.instanceMethod yX6_init ∈ W0 := w0_1 (i := 26) rfl rfl
theorem q1_27 : Cond.code yX6_init cX6_init 1 none ∈ W0 := w0_1 (i := 27) rfl rfl
theorem q1_28 : Cond.methodLink RX6 3 objectInit ∈ W0 := w0_1 (i := 28) rfl rfl
theorem q1_29 : Cond.fieldLink RX6 11 "NumberedLoops$Text" "letters" "[I" ∈ W0 := w0_1 (i := 29) rfl rfl
theorem q1_30 : Cond.fieldLink RX6 15 "NumberedLoops$Text" "length" "I" ∈ W0 := w0_1 (i := 30) rfl rfl
theorem q1_31 : Cond.fieldLink RX7 79 "NumberedLoops$Text" "length" "I" ∈ W0 := w0_1 (i := 31) rfl rfl
theorem q1_32 : Cond.fieldLink RX6 19 "NumberedLoops$Text" "rows" "I" ∈ W0 := w0_1 (i := 32) rfl rfl
theorem q1_33 : Cond.fieldLink RX7 90 "NumberedLoops$Text" "rows" "I" ∈ W0 := w0_1 (i := 33) rfl rfl
theorem q1_34 : Cond.fieldLink RX6 22 "NumberedLoops$Text" "width" "I" ∈ W0 := w0_1 (i := 34) rfl rfl
theorem q1_35 : Cond.fieldLink RX7 87 "NumberedLoops$Text" "width" "I" ∈ W0 := w0_1 (i := 35) rfl rfl
theorem q1_36 : Cond.fieldLink RX6 25 "NumberedLoops$Text" "told" "J" ∈ W0 := w0_1 (i := 36) rfl rfl
theorem q1_37 : Cond.fieldLink RX7 93 "NumberedLoops$Text" "told" "J" ∈ W0 := w0_1 (i := 37) rfl rfl
theorem q1_49 : Cond.arrayClass .int ∈ W0 := w0_1 (i := 49) rfl rfl
theorem q1_50 : Cond.classLink RX7 16 RX4 ∈ W0 := w0_1 (i := 50) rfl rfl
theorem q1_51 : Cond.instantiable RX4 14 ∈ W0 := w0_1 (i := 51) rfl rfl
theorem q1_53 : Cond.instanceMethod yX4_init ∈ W0 := w0_1 (i := 53) rfl rfl
theorem q1_54 : Cond.code yX4_init cX4_init 1 none ∈ W0 := w0_1 (i := 54) rfl rfl
theorem q1_55 : Cond.methodLink RX4 3 objectInit ∈ W0 := w0_1 (i := 55) rfl rfl
theorem q1_56 : Cond.fieldLink RX4 9 "NumberedLoops$Shape" "width" "I" ∈ W0 := w0_1 (i := 56) rfl rfl
theorem q1_57 : Cond.fieldLink RX7 234 "NumberedLoops$Shape" "width" "I" ∈ W0 := w0_1 (i := 57) rfl rfl
theorem q1_58 : Cond.fieldLink RX4 15 "NumberedLoops$Shape" "height" "I" ∈ W0 := w0_1 (i := 58) rfl rfl
theorem q1_59 : Cond.fieldLink RX7 104 "NumberedLoops$Shape" "height" "I" ∈ W0 := w0_1 (i := 59) rfl rfl
theorem q1_60 : Cond.fieldLink RX4 18 "NumberedLoops$Shape" "cells" "I" ∈ W0 := w0_1 (i := 60) rfl rfl
theorem q1_61 : Cond.fieldLink RX1 39 "NumberedLoops$Shape" "cells" "I" ∈ W0 := w0_1 (i := 61) rfl rfl
theorem q1_62 : Cond.fieldLink RX3 33 "NumberedLoops$Shape" "cells" "I" ∈ W0 := w0_1 (i := 62) rfl rfl
theorem q1_63 : Cond.fieldLink RX7 203 "NumberedLoops$Shape" "cells" "I" ∈ W0 := w0_1 (i := 63) rfl rfl
theorem q1_64 : Cond.fieldLink RX4 21 "NumberedLoops$Shape" "points" "I" ∈ W0 := w0_1 (i := 64) rfl rfl
theorem q1_65 : Cond.fieldLink RX3 52 "NumberedLoops$Shape" "points" "I" ∈ W0 := w0_1 (i := 65) rfl rfl
theorem q1_66 : Cond.fieldLink RX4 24 "NumberedLoops$Shape" "sides" "I" ∈ W0 := w0_1 (i := 66) rfl rfl
theorem q1_67 : Cond.fieldLink RX3 62 "NumberedLoops$Shape" "sides" "I" ∈ W0 := w0_1 (i := 67) rfl rfl
theorem q1_68 : Cond.fieldLink RX7 215 "NumberedLoops$Shape" "sides" "I" ∈ W0 := w0_1 (i := 68) rfl rfl
theorem q1_69 : Cond.fieldLink RX4 27 "NumberedLoops$Shape" "cellSides" "[I" ∈ W0 := w0_1 (i := 69) rfl rfl
theorem q1_70 : Cond.fieldLink RX4 31 "NumberedLoops$Shape" "pointSides" "[I" ∈ W0 := w0_1 (i := 70) rfl rfl
theorem q1_71 : Cond.fieldLink RX4 34 "NumberedLoops$Shape" "hands" "[I" ∈ W0 := w0_1 (i := 71) rfl rfl
theorem q1_72 : Cond.fieldLink RX4 37 "NumberedLoops$Shape" "ends" "[I" ∈ W0 := w0_1 (i := 72) rfl rfl
theorem q1_73 : Cond.fieldLink RX4 40 "NumberedLoops$Shape" "round" "[J" ∈ W0 := w0_1 (i := 73) rfl rfl
theorem q1_74 : Cond.fieldLink RX4 44 "NumberedLoops$Shape" "meeting" "[J" ∈ W0 := w0_1 (i := 74) rfl rfl
theorem q1_75 : Cond.fieldLink RX4 47 "NumberedLoops$Shape" "besides" "[J" ∈ W0 := w0_1 (i := 75) rfl rfl
theorem q1_76 : Cond.fieldLink RX4 50 "NumberedLoops$Shape" "settled" "[J" ∈ W0 := w0_1 (i := 76) rfl rfl
theorem q1_77 : Cond.fieldLink RX4 53 "NumberedLoops$Shape" "corner" "[J" ∈ W0 := w0_1 (i := 77) rfl rfl
theorem q1_107 : Cond.arrayClass .long ∈ W0 := w0_1 (i := 107) rfl rfl
theorem q1_108 : Cond.classLink RX7 23 RX0 ∈ W0 := w0_1 (i := 108) rfl rfl
theorem q1_109 : Cond.instantiable RX0 3 ∈ W0 := w0_1 (i := 109) rfl rfl
theorem q1_111 : Cond.instanceMethod yX0_init ∈ W0 := w0_1 (i := 111) rfl rfl
theorem q1_112 : Cond.code yX0_init cX0_init 1 none ∈ W0 := w0_1 (i := 112) rfl rfl
theorem q1_113 : Cond.methodLink RX0 3 objectInit ∈ W0 := w0_1 (i := 113) rfl rfl
theorem q1_114 : Cond.fieldLink RX0 9 "NumberedLoops$Board" "lines" "J" ∈ W0 := w0_1 (i := 114) rfl rfl
theorem q1_115 : Cond.fieldLink RX5 35 "NumberedLoops$Board" "lines" "J" ∈ W0 := w0_1 (i := 115) rfl rfl
theorem q1_116 : Cond.fieldLink RX3 79 "NumberedLoops$Board" "lines" "J" ∈ W0 := w0_1 (i := 116) rfl rfl
theorem q1_117 : Cond.fieldLink RX7 206 "NumberedLoops$Board" "lines" "J" ∈ W0 := w0_1 (i := 117) rfl rfl
theorem q1_118 : Cond.fieldLink RX0 15 "NumberedLoops$Board" "blanks" "J" ∈ W0 := w0_1 (i := 118) rfl rfl
theorem q1_119 : Cond.fieldLink RX5 44 "NumberedLoops$Board" "blanks" "J" ∈ W0 := w0_1 (i := 119) rfl rfl
theorem q1_120 : Cond.fieldLink RX3 123 "NumberedLoops$Board" "blanks" "J" ∈ W0 := w0_1 (i := 120) rfl rfl
theorem q1_121 : Cond.fieldLink RX7 209 "NumberedLoops$Board" "blanks" "J" ∈ W0 := w0_1 (i := 121) rfl rfl
theorem q1_122 : Cond.fieldLink RX0 18 "NumberedLoops$Board" "numbers" "J" ∈ W0 := w0_1 (i := 122) rfl rfl
theorem q1_123 : Cond.fieldLink RX5 46 "NumberedLoops$Board" "numbers" "J" ∈ W0 := w0_1 (i := 123) rfl rfl
theorem q1_124 : Cond.fieldLink RX7 136 "NumberedLoops$Board" "numbers" "J" ∈ W0 := w0_1 (i := 124) rfl rfl
theorem q1_132 : Cond.classLink RX7 30 RX2 ∈ W0 := w0_1 (i := 132) rfl rfl
theorem q1_133 : Cond.instantiable RX2 3 ∈ W0 := w0_1 (i := 133) rfl rfl
theorem q1_135 : Cond.instanceMethod yX2_init ∈ W0 := w0_1 (i := 135) rfl rfl
theorem q1_136 : Cond.code yX2_init cX2_init 1 none ∈ W0 := w0_1 (i := 136) rfl rfl
theorem q1_137 : Cond.methodLink RX2 3 objectInit ∈ W0 := w0_1 (i := 137) rfl rfl
theorem q1_138 : Cond.classLink RX2 9 RX5 ∈ W0 := w0_1 (i := 138) rfl rfl
theorem q1_139 : Cond.instantiable RX5 4 ∈ W0 := w0_1 (i := 139) rfl rfl
theorem q1_140 : Cond.methodLink RX2 11 yX5_init ∈ W0 := w0_1 (i := 140) rfl rfl
theorem q1_141 : Cond.instanceMethod yX5_init ∈ W0 := w0_1 (i := 141) rfl rfl
theorem q1_142 : Cond.code yX5_init cX5_init 3 none ∈ W0 := w0_1 (i := 142) rfl rfl
theorem q1_143 : Cond.methodLink RX5 1 objectInit ∈ W0 := w0_1 (i := 143) rfl rfl
theorem q1_144 : Cond.methodLink RX5 7 yJ9_max_7cf53 ∈ W0 := w0_1 (i := 144) rfl rfl
theorem q1_145 : Cond.static yJ9_max_7cf53 ∈ W0 := w0_1 (i := 145) rfl rfl
theorem q1_146 : Cond.code yJ9_max_7cf53 Lib.Math.max.code 2 (some .int) ∈ W0 := w0_1 (i := 146) rfl rfl
theorem q1_147 : Cond.fieldLink RX5 13 "NumberedLoops$Shelf" "lines" "[J" ∈ W0 := w0_1 (i := 147) rfl rfl
theorem q1_148 : Cond.fieldLink RX5 19 "NumberedLoops$Shelf" "blanks" "[J" ∈ W0 := w0_1 (i := 148) rfl rfl
theorem q1_149 : Cond.fieldLink RX5 22 "NumberedLoops$Shelf" "numbers" "[J" ∈ W0 := w0_1 (i := 149) rfl rfl
theorem q1_150 : Cond.fieldLink RX5 25 "NumberedLoops$Shelf" "kept" "[I" ∈ W0 := w0_1 (i := 150) rfl rfl
theorem q1_160 : Cond.fieldLink RX2 14 "NumberedLoops$Past" "shelf" "LNumberedLoops$Shelf;" ∈ W0 := w0_1 (i := 160) rfl rfl
theorem q1_161 : Cond.fieldLink RX2 20 "NumberedLoops$Past" "next" "I" ∈ W0 := w0_1 (i := 161) rfl rfl
theorem q1_162 : Cond.fieldLink RX2 24 "NumberedLoops$Past" "size" "I" ∈ W0 := w0_1 (i := 162) rfl rfl
theorem q1_163 : Cond.fieldLink RX7 156 "NumberedLoops$Past" "size" "I" ∈ W0 := w0_1 (i := 163) rfl rfl
theorem q1_171 : Cond.classLink RX7 37 RX5 ∈ W0 := w0_1 (i := 171) rfl rfl
theorem q1_172 : Cond.methodLink RX7 39 yX5_init ∈ W0 := w0_1 (i := 172) rfl rfl
theorem q1_173 : Cond.classLink RX7 46 RX3 ∈ W0 := w0_1 (i := 173) rfl rfl
theorem q1_174 : Cond.instantiable RX3 6 ∈ W0 := w0_1 (i := 174) rfl rfl
theorem q1_175 : Cond.methodLink RX7 48 yX3_init ∈ W0 := w0_1 (i := 175) rfl rfl
theorem q1_176 : Cond.instanceMethod yX3_init ∈ W0 := w0_1 (i := 176) rfl rfl
theorem q1_177 : Cond.code yX3_init cX3_init 3 none ∈ W0 := w0_1 (i := 177) rfl rfl
theorem q1_178 : Cond.methodLink RX3 3 objectInit ∈ W0 := w0_1 (i := 178) rfl rfl
theorem q1_179 : Cond.fieldLink RX3 25 "NumberedLoops$Rules" "shape" "LNumberedLoops$Shape;" ∈ W0 := w0_1 (i := 179) rfl rfl
theorem q1_180 : Cond.fieldLink RX3 29 "NumberedLoops$Rules" "board" "LNumberedLoops$Board;" ∈ W0 := w0_1 (i := 180) rfl rfl
theorem q1_181 : Cond.fieldLink RX3 11 "NumberedLoops$Rules" "kind" "I" ∈ W0 := w0_1 (i := 181) rfl rfl
theorem q1_182 : Cond.fieldLink RX7 146 "NumberedLoops$Rules" "kind" "I" ∈ W0 := w0_1 (i := 182) rfl rfl
theorem q1_183 : Cond.fieldLink RX3 15 "NumberedLoops$Rules" "rule" "I" ∈ W0 := w0_1 (i := 183) rfl rfl
theorem q1_184 : Cond.fieldLink RX7 163 "NumberedLoops$Rules" "rule" "I" ∈ W0 := w0_1 (i := 184) rfl rfl
theorem q1_185 : Cond.fieldLink RX3 18 "NumberedLoops$Rules" "place" "I" ∈ W0 := w0_1 (i := 185) rfl rfl
theorem q1_186 : Cond.fieldLink RX7 166 "NumberedLoops$Rules" "place" "I" ∈ W0 := w0_1 (i := 186) rfl rfl
theorem q1_187 : Cond.fieldLink RX3 21 "NumberedLoops$Rules" "told" "J" ∈ W0 := w0_1 (i := 187) rfl rfl
theorem q1_188 : Cond.fieldLink RX7 169 "NumberedLoops$Rules" "told" "J" ∈ W0 := w0_1 (i := 188) rfl rfl
theorem q1_202 : Cond.classLink RX7 55 RX1 ∈ W0 := w0_1 (i := 202) rfl rfl
theorem q1_203 : Cond.instantiable RX1 6 ∈ W0 := w0_1 (i := 203) rfl rfl
theorem q1_204 : Cond.methodLink RX7 57 yX1_init ∈ W0 := w0_1 (i := 204) rfl rfl
theorem q1_205 : Cond.instanceMethod yX1_init ∈ W0 := w0_1 (i := 205) rfl rfl
theorem q1_206 : Cond.code yX1_init cX1_init 3 none ∈ W0 := w0_1 (i := 206) rfl rfl
theorem q1_207 : Cond.methodLink RX1 3 objectInit ∈ W0 := w0_1 (i := 207) rfl rfl
theorem q1_208 : Cond.methodLink RX1 29 yJ9_max_7cf53 ∈ W0 := w0_1 (i := 208) rfl rfl
theorem q1_209 : Cond.fieldLink RX1 25 "NumberedLoops$Loops" "shape" "LNumberedLoops$Shape;" ∈ W0 := w0_1 (i := 209) rfl rfl
theorem q1_210 : Cond.fieldLink RX1 35 "NumberedLoops$Loops" "rings" "[J" ∈ W0 := w0_1 (i := 210) rfl rfl
theorem q1_211 : Cond.fieldLink RX1 9 "NumberedLoops$Loops" "lines" "J" ∈ W0 := w0_1 (i := 211) rfl rfl
theorem q1_212 : Cond.fieldLink RX1 15 "NumberedLoops$Loops" "blanks" "J" ∈ W0 := w0_1 (i := 212) rfl rfl
theorem q1_213 : Cond.fieldLink RX1 18 "NumberedLoops$Loops" "numbers" "J" ∈ W0 := w0_1 (i := 213) rfl rfl
theorem q1_214 : Cond.fieldLink RX1 21 "NumberedLoops$Loops" "size" "I" ∈ W0 := w0_1 (i := 214) rfl rfl
theorem q1_215 : Cond.fieldLink RX7 179 "NumberedLoops$Loops" "size" "I" ∈ W0 := w0_1 (i := 215) rfl rfl
theorem q1_229 : Cond.methodLink RX7 71 yX4_become ∈ W0 := w0_1 (i := 229) rfl rfl
theorem q1_230 : Cond.instanceMethod yX4_become ∈ W0 := w0_1 (i := 230) rfl rfl
theorem q1_231 : Cond.selects RX4 yX4_become yX4_become ∈ W0 := w0_1 (i := 231) rfl rfl
theorem q1_232 : Cond.code yX4_become cX4_become 3 none ∈ W0 := w0_1 (i := 232) rfl rfl
theorem q1_233 : Cond.methodLink RX4 56 yJ7_fill_53178 ∈ W0 := w0_1 (i := 233) rfl rfl
theorem q1_234 : Cond.static yJ7_fill_53178 ∈ W0 := w0_1 (i := 234) rfl rfl
theorem q1_235 : Cond.code yJ7_fill_53178 cJ7_fill_53178 4 none ∈ W0 := w0_1 (i := 235) rfl rfl
theorem q1_236 : Cond.methodLink RX4 62 yJ7_fill_d0a16 ∈ W0 := w0_1 (i := 236) rfl rfl
theorem q1_237 : Cond.static yJ7_fill_d0a16 ∈ W0 := w0_1 (i := 237) rfl rfl
theorem q1_238 : Cond.code yJ7_fill_d0a16 cJ7_fill_d0a16 5 none ∈ W0 := w0_1 (i := 238) rfl rfl
theorem q1_239 : Cond.methodLink RX4 65 yX4_layCells ∈ W0 := w0_1 (i := 239) rfl rfl
theorem q2_1 : Cond.instanceMethod yX4_layCells ∈ W0 := w0_2 (i := 1) rfl rfl
theorem q2_2 : Cond.code yX4_layCells cX4_layCells 4 none ∈ W0 := w0_2 (i := 2) rfl rfl
theorem q2_3 : Cond.methodLink RX4 80 yX4_lying ∈ W0 := w0_2 (i := 3) rfl rfl
theorem q2_5 : Cond.instanceMethod yX4_lying ∈ W0 := w0_2 (i := 5) rfl rfl
theorem q2_6 : Cond.code yX4_lying cX4_lying 3 (some .int) ∈ W0 := w0_2 (i := 6) rfl rfl
theorem q2_7 : Cond.methodLink RX4 84 yX4_layCellSide ∈ W0 := w0_2 (i := 7) rfl rfl
theorem q2_9 : Cond.instanceMethod yX4_layCellSide ∈ W0 := w0_2 (i := 9) rfl rfl
theorem q2_10 : Cond.code yX4_layCellSide cX4_layCellSide 4 none ∈ W0 := w0_2 (i := 10) rfl rfl
theorem q2_12 : Cond.static yX7_put ∈ W0 := w0_2 (i := 12) rfl rfl
theorem q2_13 : Cond.code yX7_put cX7_put 3 none ∈ W0 := w0_2 (i := 13) rfl rfl
theorem q2_14 : Cond.methodLink RX4 94 yX4_roundCell ∈ W0 := w0_2 (i := 14) rfl rfl
theorem q2_15 : Cond.instanceMethod yX4_roundCell ∈ W0 := w0_2 (i := 15) rfl rfl
theorem q2_16 : Cond.selects RX4 yX4_roundCell yX4_roundCell ∈ W0 := w0_2 (i := 16) rfl rfl
theorem q2_17 : Cond.code yX4_roundCell cX4_roundCell 2 (some .long) ∈ W0 := w0_2 (i := 17) rfl rfl
theorem q2_19 : Cond.static yX7_bit ∈ W0 := w0_2 (i := 19) rfl rfl
theorem q2_20 : Cond.code yX7_bit cX7_bit 1 (some .long) ∈ W0 := w0_2 (i := 20) rfl rfl
theorem q2_22 : Cond.static yX7_put_ ∈ W0 := w0_2 (i := 22) rfl rfl
theorem q2_23 : Cond.code yX7_put_ cX7_put_ 4 none ∈ W0 := w0_2 (i := 23) rfl rfl
theorem q2_24 : Cond.methodLink RX4 111 yX4_firstOrSecond ∈ W0 := w0_2 (i := 24) rfl rfl
theorem q2_25 : Cond.static yX4_firstOrSecond ∈ W0 := w0_2 (i := 25) rfl rfl
theorem q2_26 : Cond.code yX4_firstOrSecond cX4_firstOrSecond 1 (some .int) ∈ W0 := w0_2 (i := 26) rfl rfl
theorem q2_27 : Cond.methodLink RX4 88 yX4_standing ∈ W0 := w0_2 (i := 27) rfl rfl
theorem q2_29 : Cond.instanceMethod yX4_standing ∈ W0 := w0_2 (i := 29) rfl rfl
theorem q2_30 : Cond.code yX4_standing cX4_standing 3 (some .int) ∈ W0 := w0_2 (i := 30) rfl rfl
theorem q2_31 : Cond.methodLink RX4 91 yX4_hand ∈ W0 := w0_2 (i := 31) rfl rfl
theorem q2_32 : Cond.instanceMethod yX4_hand ∈ W0 := w0_2 (i := 32) rfl rfl
theorem q2_33 : Cond.selects RX4 yX4_hand yX4_hand ∈ W0 := w0_2 (i := 33) rfl rfl
theorem q2_34 : Cond.code yX4_hand cX4_hand 3 (some .int) ∈ W0 := w0_2 (i := 34) rfl rfl
theorem q2_36 : Cond.static yX7_at ∈ W0 := w0_2 (i := 36) rfl rfl
theorem q2_37 : Cond.code yX7_at cX7_at 2 (some .int) ∈ W0 := w0_2 (i := 37) rfl rfl
theorem q2_38 : Cond.methodLink RX4 68 yX4_layPoints ∈ W0 := w0_2 (i := 38) rfl rfl
theorem q2_40 : Cond.instanceMethod yX4_layPoints ∈ W0 := w0_2 (i := 40) rfl rfl
theorem q2_41 : Cond.code yX4_layPoints cX4_layPoints 4 none ∈ W0 := w0_2 (i := 41) rfl rfl
theorem q2_42 : Cond.methodLink RX4 105 yX4_layPointSide ∈ W0 := w0_2 (i := 42) rfl rfl
theorem q2_44 : Cond.instanceMethod yX4_layPointSide ∈ W0 := w0_2 (i := 44) rfl rfl
theorem q2_45 : Cond.code yX4_layPointSide cX4_layPointSide 4 none ∈ W0 := w0_2 (i := 45) rfl rfl
theorem q2_46 : Cond.methodLink RX4 115 yX4_atPoint ∈ W0 := w0_2 (i := 46) rfl rfl
theorem q2_47 : Cond.instanceMethod yX4_atPoint ∈ W0 := w0_2 (i := 47) rfl rfl
theorem q2_48 : Cond.selects RX4 yX4_atPoint yX4_atPoint ∈ W0 := w0_2 (i := 48) rfl rfl
theorem q2_49 : Cond.code yX4_atPoint cX4_atPoint 2 (some .long) ∈ W0 := w0_2 (i := 49) rfl rfl
theorem q2_50 : Cond.methodLink RX4 71 yX4_layBesides ∈ W0 := w0_2 (i := 50) rfl rfl
theorem q2_52 : Cond.instanceMethod yX4_layBesides ∈ W0 := w0_2 (i := 52) rfl rfl
theorem q2_53 : Cond.code yX4_layBesides cX4_layBesides 2 none ∈ W0 := w0_2 (i := 53) rfl rfl
theorem q2_54 : Cond.methodLink RX4 118 yX4_end ∈ W0 := w0_2 (i := 54) rfl rfl
theorem q2_55 : Cond.instanceMethod yX4_end ∈ W0 := w0_2 (i := 55) rfl rfl
theorem q2_56 : Cond.selects RX4 yX4_end yX4_end ∈ W0 := w0_2 (i := 56) rfl rfl
theorem q2_57 : Cond.code yX4_end cX4_end 3 (some .int) ∈ W0 := w0_2 (i := 57) rfl rfl
theorem q2_58 : Cond.methodLink RX4 74 yX4_laySettled ∈ W0 := w0_2 (i := 58) rfl rfl
theorem q2_60 : Cond.instanceMethod yX4_laySettled ∈ W0 := w0_2 (i := 60) rfl rfl
theorem q2_61 : Cond.code yX4_laySettled cX4_laySettled 4 none ∈ W0 := w0_2 (i := 61) rfl rfl
theorem q2_62 : Cond.methodLink RX4 121 yJ9_min_7cf53 ∈ W0 := w0_2 (i := 62) rfl rfl
theorem q2_63 : Cond.static yJ9_min_7cf53 ∈ W0 := w0_2 (i := 63) rfl rfl
theorem q2_64 : Cond.code yJ9_min_7cf53 Lib.Math.min.code 2 (some .int) ∈ W0 := w0_2 (i := 64) rfl rfl
theorem q2_65 : Cond.methodLink RX4 126 yX4_settledFrom ∈ W0 := w0_2 (i := 65) rfl rfl
theorem q2_66 : Cond.instanceMethod yX4_settledFrom ∈ W0 := w0_2 (i := 66) rfl rfl
theorem q2_67 : Cond.selects RX4 yX4_settledFrom yX4_settledFrom ∈ W0 := w0_2 (i := 67) rfl rfl
theorem q2_68 : Cond.code yX4_settledFrom cX4_settledFrom 2 (some .long) ∈ W0 := w0_2 (i := 68) rfl rfl
theorem q2_69 : Cond.methodLink RX4 77 yX4_layCorners ∈ W0 := w0_2 (i := 69) rfl rfl
theorem q2_71 : Cond.instanceMethod yX4_layCorners ∈ W0 := w0_2 (i := 71) rfl rfl
theorem q2_72 : Cond.code yX4_layCorners cX4_layCorners 2 none ∈ W0 := w0_2 (i := 72) rfl rfl
theorem q2_73 : Cond.methodLink RX4 129 yX4_sideOfCell ∈ W0 := w0_2 (i := 73) rfl rfl
theorem q2_74 : Cond.instanceMethod yX4_sideOfCell ∈ W0 := w0_2 (i := 74) rfl rfl
theorem q2_75 : Cond.selects RX4 yX4_sideOfCell yX4_sideOfCell ∈ W0 := w0_2 (i := 75) rfl rfl
theorem q2_76 : Cond.code yX4_sideOfCell cX4_sideOfCell 3 (some .int) ∈ W0 := w0_2 (i := 76) rfl rfl
theorem q2_77 : Cond.fieldLink RX7 10 "NumberedLoops" "text" "LNumberedLoops$Text;" ∈ W0 := w0_2 (i := 77) rfl rfl
theorem q2_78 : Cond.fieldLink RX7 19 "NumberedLoops" "shape" "LNumberedLoops$Shape;" ∈ W0 := w0_2 (i := 78) rfl rfl
theorem q2_79 : Cond.fieldLink RX7 26 "NumberedLoops" "board" "LNumberedLoops$Board;" ∈ W0 := w0_2 (i := 79) rfl rfl
theorem q2_80 : Cond.fieldLink RX7 33 "NumberedLoops" "past" "LNumberedLoops$Past;" ∈ W0 := w0_2 (i := 80) rfl rfl
theorem q2_81 : Cond.fieldLink RX7 42 "NumberedLoops" "images" "LNumberedLoops$Shelf;" ∈ W0 := w0_2 (i := 81) rfl rfl
theorem q2_82 : Cond.fieldLink RX7 51 "NumberedLoops" "rules" "LNumberedLoops$Rules;" ∈ W0 := w0_2 (i := 82) rfl rfl
theorem q2_83 : Cond.fieldLink RX7 60 "NumberedLoops" "loops" "LNumberedLoops$Loops;" ∈ W0 := w0_2 (i := 83) rfl rfl
theorem q2_84 : Cond.fieldLink RX7 64 "NumberedLoops" "probe" "LNumberedLoops$Loops;" ∈ W0 := w0_2 (i := 84) rfl rfl
theorem q2_85 : Cond.fieldLink RX7 67 "NumberedLoops" "searched" "Z" ∈ W0 := w0_2 (i := 85) rfl rfl
theorem q2_105 : Cond.methodLink RL 13 yX7_type ∈ W0 := w0_2 (i := 105) rfl rfl
theorem q2_106 : Cond.instanceMethod yX7_type ∈ W0 := w0_2 (i := 106) rfl rfl
theorem q2_107 : Cond.selects RX7 yX7_type yX7_type ∈ W0 := w0_2 (i := 107) rfl rfl
theorem q2_108 : Cond.code yX7_type cX7_type 2 (some .int) ∈ W0 := w0_2 (i := 108) rfl rfl
theorem q2_109 : Cond.methodLink RX7 75 yX6_takes ∈ W0 := w0_2 (i := 109) rfl rfl
theorem q2_110 : Cond.instanceMethod yX6_takes ∈ W0 := w0_2 (i := 110) rfl rfl
theorem q2_111 : Cond.selects RX6 yX6_takes yX6_takes ∈ W0 := w0_2 (i := 111) rfl rfl
theorem q2_112 : Cond.code yX6_takes cX6_takes 2 (some .boolean) ∈ W0 := w0_2 (i := 112) rfl rfl
theorem q2_113 : Cond.methodLink RL 18 yX7_clear ∈ W0 := w0_2 (i := 113) rfl rfl
theorem q2_114 : Cond.instanceMethod yX7_clear ∈ W0 := w0_2 (i := 114) rfl rfl
theorem q2_115 : Cond.selects RX7 yX7_clear yX7_clear ∈ W0 := w0_2 (i := 115) rfl rfl
theorem q2_116 : Cond.code yX7_clear cX7_clear 2 (some .int) ∈ W0 := w0_2 (i := 116) rfl rfl
theorem q2_117 : Cond.methodLink RL 23 yX7_grid ∈ W0 := w0_2 (i := 117) rfl rfl
theorem q2_118 : Cond.instanceMethod yX7_grid ∈ W0 := w0_2 (i := 118) rfl rfl
theorem q2_119 : Cond.selects RX7 yX7_grid yX7_grid ∈ W0 := w0_2 (i := 119) rfl rfl
theorem q2_120 : Cond.code yX7_grid cX7_grid 2 (some .int) ∈ W0 := w0_2 (i := 120) rfl rfl
theorem q2_121 : Cond.methodLink RX7 83 yX6_read ∈ W0 := w0_2 (i := 121) rfl rfl
theorem q2_122 : Cond.instanceMethod yX6_read ∈ W0 := w0_2 (i := 122) rfl rfl
theorem q2_123 : Cond.selects RX6 yX6_read yX6_read ∈ W0 := w0_2 (i := 123) rfl rfl
theorem q2_124 : Cond.code yX6_read cX6_read 6 (some .int) ∈ W0 := w0_2 (i := 124) rfl rfl
theorem q2_126 : Cond.methodLink RX6 33 yX6_numberOfSign ∈ W0 := w0_2 (i := 126) rfl rfl
theorem q2_127 : Cond.static yX6_numberOfSign ∈ W0 := w0_2 (i := 127) rfl rfl
theorem q2_128 : Cond.code yX6_numberOfSign cX6_numberOfSign 1 (some .int) ∈ W0 := w0_2 (i := 128) rfl rfl
theorem q2_129 : Cond.methodLink RX6 37 yX6_endsRow ∈ W0 := w0_2 (i := 129) rfl rfl
theorem q2_131 : Cond.instanceMethod yX6_endsRow ∈ W0 := w0_2 (i := 131) rfl rfl
theorem q2_132 : Cond.code yX6_endsRow cX6_endsRow 2 (some .boolean) ∈ W0 := w0_2 (i := 132) rfl rfl
theorem q2_133 : Cond.methodLink RX6 41 yX6_fitsRow ∈ W0 := w0_2 (i := 133) rfl rfl
theorem q2_135 : Cond.instanceMethod yX6_fitsRow ∈ W0 := w0_2 (i := 135) rfl rfl
theorem q2_136 : Cond.code yX6_fitsRow cX6_fitsRow 2 (some .boolean) ∈ W0 := w0_2 (i := 136) rfl rfl
theorem q2_137 : Cond.methodLink RX6 44 yX0_withNumber ∈ W0 := w0_2 (i := 137) rfl rfl
theorem q2_138 : Cond.static yX0_withNumber ∈ W0 := w0_2 (i := 138) rfl rfl
theorem q2_139 : Cond.code yX0_withNumber cX0_withNumber 6 (some .long) ∈ W0 := w0_2 (i := 139) rfl rfl
theorem q2_140 : Cond.constantLong RX0 31 (15) ∈ W0 := w0_2 (i := 140) rfl rfl
theorem q2_141 : Cond.constantLong RX0 25 (-1) ∈ W0 := w0_2 (i := 141) rfl rfl
theorem q2_142 : Cond.methodLink RX7 97 yX0_become ∈ W0 := w0_2 (i := 142) rfl rfl
theorem q2_143 : Cond.instanceMethod yX0_become ∈ W0 := w0_2 (i := 143) rfl rfl
theorem q2_144 : Cond.selects RX0 yX0_become yX0_become ∈ W0 := w0_2 (i := 144) rfl rfl
theorem q2_145 : Cond.code yX0_become cX0_become 7 none ∈ W0 := w0_2 (i := 145) rfl rfl
theorem q2_146 : Cond.methodLink RX7 100 yX2_forget ∈ W0 := w0_2 (i := 146) rfl rfl
theorem q2_147 : Cond.instanceMethod yX2_forget ∈ W0 := w0_2 (i := 147) rfl rfl
theorem q2_148 : Cond.selects RX2 yX2_forget yX2_forget ∈ W0 := w0_2 (i := 148) rfl rfl
theorem q2_149 : Cond.code yX2_forget cX2_forget 1 none ∈ W0 := w0_2 (i := 149) rfl rfl
theorem q2_150 : Cond.methodLink RX7 103 yX5_forget ∈ W0 := w0_2 (i := 150) rfl rfl
theorem q2_151 : Cond.instanceMethod yX5_forget ∈ W0 := w0_2 (i := 151) rfl rfl
theorem q2_152 : Cond.selects RX5 yX5_forget yX5_forget ∈ W0 := w0_2 (i := 152) rfl rfl
theorem q2_153 : Cond.code yX5_forget cX5_forget 1 none ∈ W0 := w0_2 (i := 153) rfl rfl
theorem q2_154 : Cond.methodLink RX5 58 yJ7_fill_53178 ∈ W0 := w0_2 (i := 154) rfl rfl
theorem q2_155 : Cond.methodLink RL 27 yX7_number ∈ W0 := w0_2 (i := 155) rfl rfl
theorem q2_156 : Cond.instanceMethod yX7_number ∈ W0 := w0_2 (i := 156) rfl rfl
theorem q2_157 : Cond.selects RX7 yX7_number yX7_number ∈ W0 := w0_2 (i := 157) rfl rfl
theorem q2_158 : Cond.code yX7_number cX7_number 3 (some .int) ∈ W0 := w0_2 (i := 158) rfl rfl
theorem q2_159 : Cond.methodLink RX7 107 yX4_hasCell ∈ W0 := w0_2 (i := 159) rfl rfl
theorem q2_160 : Cond.instanceMethod yX4_hasCell ∈ W0 := w0_2 (i := 160) rfl rfl
theorem q2_161 : Cond.selects RX4 yX4_hasCell yX4_hasCell ∈ W0 := w0_2 (i := 161) rfl rfl
theorem q2_162 : Cond.code yX4_hasCell cX4_hasCell 2 (some .boolean) ∈ W0 := w0_2 (i := 162) rfl rfl
theorem q2_163 : Cond.methodLink RX7 110 yX0_numberOf ∈ W0 := w0_2 (i := 163) rfl rfl
theorem q2_164 : Cond.instanceMethod yX0_numberOf ∈ W0 := w0_2 (i := 164) rfl rfl
theorem q2_165 : Cond.selects RX0 yX0_numberOf yX0_numberOf ∈ W0 := w0_2 (i := 165) rfl rfl
theorem q2_166 : Cond.code yX0_numberOf cX0_numberOf 2 (some .int) ∈ W0 := w0_2 (i := 166) rfl rfl
theorem q2_167 : Cond.methodLink RX0 27 yX0_numberIn ∈ W0 := w0_2 (i := 167) rfl rfl
theorem q2_168 : Cond.static yX0_numberIn ∈ W0 := w0_2 (i := 168) rfl rfl
theorem q2_169 : Cond.code yX0_numberIn cX0_numberIn 3 (some .int) ∈ W0 := w0_2 (i := 169) rfl rfl
theorem q2_170 : Cond.methodLink RL 31 yX7_side ∈ W0 := w0_2 (i := 170) rfl rfl
theorem q2_171 : Cond.instanceMethod yX7_side ∈ W0 := w0_2 (i := 171) rfl rfl
theorem q2_172 : Cond.selects RX7 yX7_side yX7_side ∈ W0 := w0_2 (i := 172) rfl rfl
theorem q2_173 : Cond.code yX7_side cX7_side 2 (some .int) ∈ W0 := w0_2 (i := 173) rfl rfl
theorem q2_174 : Cond.methodLink RX7 114 yX4_hasSide ∈ W0 := w0_2 (i := 174) rfl rfl
theorem q2_175 : Cond.instanceMethod yX4_hasSide ∈ W0 := w0_2 (i := 175) rfl rfl
theorem q2_176 : Cond.selects RX4 yX4_hasSide yX4_hasSide ∈ W0 := w0_2 (i := 176) rfl rfl
theorem q2_177 : Cond.code yX4_hasSide cX4_hasSide 2 (some .boolean) ∈ W0 := w0_2 (i := 177) rfl rfl
theorem q2_178 : Cond.methodLink RX7 117 yX0_stateOf ∈ W0 := w0_2 (i := 178) rfl rfl
theorem q2_179 : Cond.instanceMethod yX0_stateOf ∈ W0 := w0_2 (i := 179) rfl rfl
theorem q2_180 : Cond.selects RX0 yX0_stateOf yX0_stateOf ∈ W0 := w0_2 (i := 180) rfl rfl
theorem q2_181 : Cond.code yX0_stateOf cX0_stateOf 2 (some .int) ∈ W0 := w0_2 (i := 181) rfl rfl
theorem q2_183 : Cond.methodLink RL 35 yX7_sideOf ∈ W0 := w0_2 (i := 183) rfl rfl
theorem q2_184 : Cond.instanceMethod yX7_sideOf ∈ W0 := w0_2 (i := 184) rfl rfl
theorem q2_185 : Cond.selects RX7 yX7_sideOf yX7_sideOf ∈ W0 := w0_2 (i := 185) rfl rfl
theorem q2_186 : Cond.code yX7_sideOf cX7_sideOf 4 (some .int) ∈ W0 := w0_2 (i := 186) rfl rfl
theorem q2_187 : Cond.methodLink RX7 120 yX4_sideOfCell ∈ W0 := w0_2 (i := 187) rfl rfl
theorem q2_188 : Cond.methodLink RX7 124 yX4_hasPoint ∈ W0 := w0_2 (i := 188) rfl rfl
theorem q2_189 : Cond.instanceMethod yX4_hasPoint ∈ W0 := w0_2 (i := 189) rfl rfl
theorem q2_190 : Cond.selects RX4 yX4_hasPoint yX4_hasPoint ∈ W0 := w0_2 (i := 190) rfl rfl
theorem q2_191 : Cond.code yX4_hasPoint cX4_hasPoint 2 (some .boolean) ∈ W0 := w0_2 (i := 191) rfl rfl
theorem q2_192 : Cond.methodLink RX7 127 yX4_sideOfPoint ∈ W0 := w0_2 (i := 192) rfl rfl
theorem q2_193 : Cond.instanceMethod yX4_sideOfPoint ∈ W0 := w0_2 (i := 193) rfl rfl
theorem q2_194 : Cond.selects RX4 yX4_sideOfPoint yX4_sideOfPoint ∈ W0 := w0_2 (i := 194) rfl rfl
theorem q2_195 : Cond.code yX4_sideOfPoint cX4_sideOfPoint 3 (some .int) ∈ W0 := w0_2 (i := 195) rfl rfl
theorem q2_196 : Cond.methodLink RL 40 yX7_marks ∈ W0 := w0_2 (i := 196) rfl rfl
theorem q2_197 : Cond.instanceMethod yX7_marks ∈ W0 := w0_2 (i := 197) rfl rfl
theorem q2_198 : Cond.selects RX7 yX7_marks yX7_marks ∈ W0 := w0_2 (i := 198) rfl rfl
theorem q2_199 : Cond.code yX7_marks cX7_marks 4 (some .int) ∈ W0 := w0_2 (i := 199) rfl rfl
theorem q2_200 : Cond.methodLink RX7 130 yX7_beforeChange ∈ W0 := w0_2 (i := 200) rfl rfl
theorem q2_202 : Cond.instanceMethod yX7_beforeChange ∈ W0 := w0_2 (i := 202) rfl rfl
theorem q2_203 : Cond.code yX7_beforeChange cX7_beforeChange 1 none ∈ W0 := w0_2 (i := 203) rfl rfl
theorem q2_204 : Cond.methodLink RX7 238 yX2_remember ∈ W0 := w0_2 (i := 204) rfl rfl
theorem q2_205 : Cond.instanceMethod yX2_remember ∈ W0 := w0_2 (i := 205) rfl rfl
theorem q2_206 : Cond.selects RX2 yX2_remember yX2_remember ∈ W0 := w0_2 (i := 206) rfl rfl
theorem q2_207 : Cond.code yX2_remember cX2_remember 2 none ∈ W0 := w0_2 (i := 207) rfl rfl
theorem q2_208 : Cond.methodLink RX2 27 yX5_store ∈ W0 := w0_2 (i := 208) rfl rfl
theorem q2_209 : Cond.instanceMethod yX5_store ∈ W0 := w0_2 (i := 209) rfl rfl
theorem q2_210 : Cond.selects RX5 yX5_store yX5_store ∈ W0 := w0_2 (i := 210) rfl rfl
theorem q2_211 : Cond.code yX5_store cX5_store 3 none ∈ W0 := w0_2 (i := 211) rfl rfl
theorem q2_214 : Cond.methodLink RX2 31 yJ9_min_7cf53 ∈ W0 := w0_2 (i := 214) rfl rfl
theorem q2_215 : Cond.methodLink RX7 133 yX0_mark ∈ W0 := w0_2 (i := 215) rfl rfl
theorem q2_216 : Cond.instanceMethod yX0_mark ∈ W0 := w0_2 (i := 216) rfl rfl
theorem q2_217 : Cond.selects RX0 yX0_mark yX0_mark ∈ W0 := w0_2 (i := 217) rfl rfl
theorem q2_218 : Cond.code yX0_mark cX0_mark 3 none ∈ W0 := w0_2 (i := 218) rfl rfl
theorem q2_219 : Cond.methodLink RL 45 yX7_numbers ∈ W0 := w0_2 (i := 219) rfl rfl
theorem q2_220 : Cond.instanceMethod yX7_numbers ∈ W0 := w0_2 (i := 220) rfl rfl
theorem q2_221 : Cond.selects RX7 yX7_numbers yX7_numbers ∈ W0 := w0_2 (i := 221) rfl rfl
theorem q2_222 : Cond.code yX7_numbers cX7_numbers 3 (some .int) ∈ W0 := w0_2 (i := 222) rfl rfl
theorem q2_223 : Cond.methodLink RX7 139 yX0_withNumber ∈ W0 := w0_2 (i := 223) rfl rfl
theorem q2_224 : Cond.methodLink RL 49 yX7_step ∈ W0 := w0_2 (i := 224) rfl rfl
theorem q2_225 : Cond.instanceMethod yX7_step ∈ W0 := w0_2 (i := 225) rfl rfl
theorem q2_226 : Cond.selects RX7 yX7_step yX7_step ∈ W0 := w0_2 (i := 226) rfl rfl
theorem q2_227 : Cond.code yX7_step cX7_step 1 (some .int) ∈ W0 := w0_2 (i := 227) rfl rfl
theorem q2_228 : Cond.methodLink RX7 143 yX3_seek ∈ W0 := w0_2 (i := 228) rfl rfl
theorem q2_229 : Cond.instanceMethod yX3_seek ∈ W0 := w0_2 (i := 229) rfl rfl
theorem q2_230 : Cond.selects RX3 yX3_seek yX3_seek ∈ W0 := w0_2 (i := 230) rfl rfl
theorem q2_231 : Cond.code yX3_seek cX3_seek 2 none ∈ W0 := w0_2 (i := 231) rfl rfl
theorem q2_232 : Cond.methodLink RX3 38 yX0_numberOf ∈ W0 := w0_2 (i := 232) rfl rfl
theorem q2_233 : Cond.methodLink RX3 44 yX4_roundCell ∈ W0 := w0_2 (i := 233) rfl rfl
theorem q2_234 : Cond.methodLink RX3 48 yX3_lookAtCell ∈ W0 := w0_2 (i := 234) rfl rfl
theorem q2_236 : Cond.instanceMethod yX3_lookAtCell ∈ W0 := w0_2 (i := 236) rfl rfl
theorem q2_237 : Cond.code yX3_lookAtCell cX3_lookAtCell 8 none ∈ W0 := w0_2 (i := 237) rfl rfl
theorem q2_238 : Cond.methodLink RX3 75 yX3_openOf ∈ W0 := w0_2 (i := 238) rfl rfl
theorem q3_0 : Cond.instanceMethod yX3_openOf ∈ W0 := w0_3 (i := 0) rfl rfl
theorem q3_1 : Cond.code yX3_openOf cX3_openOf 3 (some .long) ∈ W0 := w0_3 (i := 1) rfl rfl
theorem q3_2 : Cond.constantLong RX3 111 (-1) ∈ W0 := w0_3 (i := 2) rfl rfl
theorem q3_3 : Cond.methodLink RX3 82 yJ13_bitCount_95d88 ∈ W0 := w0_3 (i := 3) rfl rfl
theorem q3_4 : Cond.static yJ13_bitCount_95d88 ∈ W0 := w0_3 (i := 4) rfl rfl
theorem q3_5 : Cond.code yJ13_bitCount_95d88 cJ13_bitCount_95d88 2 (some .int) ∈ W0 := w0_3 (i := 5) rfl rfl
theorem q3_6 : Cond.constantLong RJ13 314 (6148914691236517205) ∈ W0 := w0_3 (i := 6) rfl rfl
theorem q3_7 : Cond.constantLong RJ13 316 (3689348814741910323) ∈ W0 := w0_3 (i := 7) rfl rfl
theorem q3_8 : Cond.constantLong RJ13 318 (1085102592571150095) ∈ W0 := w0_3 (i := 8) rfl rfl
theorem q3_9 : Cond.methodLink RX3 88 yX3_tell ∈ W0 := w0_3 (i := 9) rfl rfl
theorem q3_11 : Cond.instanceMethod yX3_tell ∈ W0 := w0_3 (i := 11) rfl rfl
theorem q3_12 : Cond.code yX3_tell cX3_tell 4 none ∈ W0 := w0_3 (i := 12) rfl rfl
theorem q3_13 : Cond.methodLink RX3 55 yX4_atPoint ∈ W0 := w0_3 (i := 13) rfl rfl
theorem q3_14 : Cond.methodLink RX3 58 yX3_lookAtPoint ∈ W0 := w0_3 (i := 14) rfl rfl
theorem q3_16 : Cond.instanceMethod yX3_lookAtPoint ∈ W0 := w0_3 (i := 16) rfl rfl
theorem q3_17 : Cond.code yX3_lookAtPoint cX3_lookAtPoint 7 none ∈ W0 := w0_3 (i := 17) rfl rfl
theorem q3_18 : Cond.methodLink RX3 65 yX0_stateOf ∈ W0 := w0_3 (i := 18) rfl rfl
theorem q3_19 : Cond.methodLink RX3 68 yX3_lookAtChain ∈ W0 := w0_3 (i := 19) rfl rfl
theorem q3_21 : Cond.instanceMethod yX3_lookAtChain ∈ W0 := w0_3 (i := 21) rfl rfl
theorem q3_22 : Cond.code yX3_lookAtChain cX3_lookAtChain 5 none ∈ W0 := w0_3 (i := 22) rfl rfl
theorem q3_23 : Cond.methodLink RX3 91 yX4_chainOf ∈ W0 := w0_3 (i := 23) rfl rfl
theorem q3_24 : Cond.instanceMethod yX4_chainOf ∈ W0 := w0_3 (i := 24) rfl rfl
theorem q3_25 : Cond.selects RX4 yX4_chainOf yX4_chainOf ∈ W0 := w0_3 (i := 25) rfl rfl
theorem q3_26 : Cond.code yX4_chainOf cX4_chainOf 12 (some .long) ∈ W0 := w0_3 (i := 26) rfl rfl
theorem q3_27 : Cond.methodLink RX4 136 yJ13_numberOfTrailingZeros_95d88 ∈ W0 := w0_3 (i := 27) rfl rfl
theorem q3_28 : Cond.static yJ13_numberOfTrailingZeros_95d88 ∈ W0 := w0_3 (i := 28) rfl rfl
theorem q3_29 : Cond.code yJ13_numberOfTrailingZeros_95d88 cJ13_numberOfTrailingZeros_95d88 3 (some .int) ∈ W0 := w0_3 (i := 29) rfl rfl
theorem q3_30 : Cond.methodLink RJ13 311 yJ6_numberOfTrailingZeros_0f7a4 ∈ W0 := w0_3 (i := 30) rfl rfl
theorem q3_31 : Cond.static yJ6_numberOfTrailingZeros_0f7a4 ∈ W0 := w0_3 (i := 31) rfl rfl
theorem q3_32 : Cond.code yJ6_numberOfTrailingZeros_0f7a4 cJ6_numberOfTrailingZeros_0f7a4 2 (some .int) ∈ W0 := w0_3 (i := 32) rfl rfl
theorem q3_33 : Cond.constant RJ6 264 (65536) ∈ W0 := w0_3 (i := 33) rfl rfl
theorem q3_34 : Cond.constantLong RX4 142 (-1) ∈ W0 := w0_3 (i := 34) rfl rfl
theorem q3_35 : Cond.methodLink RX3 95 yX3_othersThan ∈ W0 := w0_3 (i := 35) rfl rfl
theorem q3_37 : Cond.instanceMethod yX3_othersThan ∈ W0 := w0_3 (i := 37) rfl rfl
theorem q3_38 : Cond.code yX3_othersThan cX3_othersThan 3 (some .boolean) ∈ W0 := w0_3 (i := 38) rfl rfl
theorem q3_39 : Cond.methodLink RX3 99 yX3_isClosed ∈ W0 := w0_3 (i := 39) rfl rfl
theorem q3_41 : Cond.instanceMethod yX3_isClosed ∈ W0 := w0_3 (i := 41) rfl rfl
theorem q3_42 : Cond.code yX3_isClosed cX3_isClosed 6 (some .boolean) ∈ W0 := w0_3 (i := 42) rfl rfl
theorem q3_43 : Cond.methodLink RX3 102 yX3_chainThatWouldClose ∈ W0 := w0_3 (i := 43) rfl rfl
theorem q3_45 : Cond.instanceMethod yX3_chainThatWouldClose ∈ W0 := w0_3 (i := 45) rfl rfl
theorem q3_46 : Cond.code yX3_chainThatWouldClose cX3_chainThatWouldClose 8 (some .long) ∈ W0 := w0_3 (i := 46) rfl rfl
theorem q3_47 : Cond.methodLink RX3 113 yX4_end ∈ W0 := w0_3 (i := 47) rfl rfl
theorem q3_48 : Cond.methodLink RX3 117 yJ13_numberOfTrailingZeros_95d88 ∈ W0 := w0_3 (i := 48) rfl rfl
theorem q3_50 : Cond.methodLink RX3 108 yX3_missesNumber ∈ W0 := w0_3 (i := 50) rfl rfl
theorem q3_52 : Cond.instanceMethod yX3_missesNumber ∈ W0 := w0_3 (i := 52) rfl rfl
theorem q3_53 : Cond.code yX3_missesNumber cX3_missesNumber 5 (some .boolean) ∈ W0 := w0_3 (i := 53) rfl rfl
theorem q3_54 : Cond.methodLink RX3 72 yX3_lookAtHands ∈ W0 := w0_3 (i := 54) rfl rfl
theorem q3_56 : Cond.instanceMethod yX3_lookAtHands ∈ W0 := w0_3 (i := 56) rfl rfl
theorem q3_57 : Cond.code yX3_lookAtHands cX3_lookAtHands 4 none ∈ W0 := w0_3 (i := 57) rfl rfl
theorem q3_58 : Cond.methodLink RX3 120 yX3_waysPast ∈ W0 := w0_3 (i := 58) rfl rfl
theorem q3_60 : Cond.instanceMethod yX3_waysPast ∈ W0 := w0_3 (i := 60) rfl rfl
theorem q3_61 : Cond.code yX3_waysPast cX3_waysPast 12 (some .int) ∈ W0 := w0_3 (i := 61) rfl rfl
theorem q3_62 : Cond.methodLink RX3 126 yX4_hand ∈ W0 := w0_3 (i := 62) rfl rfl
theorem q3_63 : Cond.methodLink RX3 129 yX3_nextOnWay ∈ W0 := w0_3 (i := 63) rfl rfl
theorem q3_65 : Cond.instanceMethod yX3_nextOnWay ∈ W0 := w0_3 (i := 65) rfl rfl
theorem q3_66 : Cond.code yX3_nextOnWay cX3_nextOnWay 14 (some .long) ∈ W0 := w0_3 (i := 66) rfl rfl
theorem q3_67 : Cond.methodLink RX7 149 yX7_follow ∈ W0 := w0_3 (i := 67) rfl rfl
theorem q3_69 : Cond.instanceMethod yX7_follow ∈ W0 := w0_3 (i := 69) rfl rfl
theorem q3_70 : Cond.code yX7_follow cX7_follow 1 (some .int) ∈ W0 := w0_3 (i := 70) rfl rfl
theorem q3_71 : Cond.methodLink RX7 170 yJ13_bitCount_95d88 ∈ W0 := w0_3 (i := 71) rfl rfl
theorem q3_72 : Cond.methodLink RL 53 yX7_spreads ∈ W0 := w0_3 (i := 72) rfl rfl
theorem q3_73 : Cond.instanceMethod yX7_spreads ∈ W0 := w0_3 (i := 73) rfl rfl
theorem q3_74 : Cond.selects RX7 yX7_spreads yX7_spreads ∈ W0 := w0_3 (i := 74) rfl rfl
theorem q3_75 : Cond.code yX7_spreads cX7_spreads 3 (some .int) ∈ W0 := w0_3 (i := 75) rfl rfl
theorem q3_76 : Cond.methodLink RX7 152 yX3_tells ∈ W0 := w0_3 (i := 76) rfl rfl
theorem q3_77 : Cond.instanceMethod yX3_tells ∈ W0 := w0_3 (i := 77) rfl rfl
theorem q3_78 : Cond.selects RX3 yX3_tells yX3_tells ∈ W0 := w0_3 (i := 78) rfl rfl
theorem q3_79 : Cond.code yX3_tells cX3_tells 1 (some .boolean) ∈ W0 := w0_3 (i := 79) rfl rfl
theorem q3_80 : Cond.methodLink RL 57 yX7_undo ∈ W0 := w0_3 (i := 80) rfl rfl
theorem q3_81 : Cond.instanceMethod yX7_undo ∈ W0 := w0_3 (i := 81) rfl rfl
theorem q3_82 : Cond.selects RX7 yX7_undo yX7_undo ∈ W0 := w0_3 (i := 82) rfl rfl
theorem q3_83 : Cond.code yX7_undo cX7_undo 1 (some .int) ∈ W0 := w0_3 (i := 83) rfl rfl
theorem q3_84 : Cond.methodLink RX7 159 yX2_giveLatest ∈ W0 := w0_3 (i := 84) rfl rfl
theorem q3_85 : Cond.instanceMethod yX2_giveLatest ∈ W0 := w0_3 (i := 85) rfl rfl
theorem q3_86 : Cond.selects RX2 yX2_giveLatest yX2_giveLatest ∈ W0 := w0_3 (i := 86) rfl rfl
theorem q3_87 : Cond.code yX2_giveLatest cX2_giveLatest 2 none ∈ W0 := w0_3 (i := 87) rfl rfl
theorem q3_88 : Cond.methodLink RX2 37 yJ9_max_7cf53 ∈ W0 := w0_3 (i := 88) rfl rfl
theorem q3_89 : Cond.methodLink RX2 40 yX5_give ∈ W0 := w0_3 (i := 89) rfl rfl
theorem q3_90 : Cond.instanceMethod yX5_give ∈ W0 := w0_3 (i := 90) rfl rfl
theorem q3_91 : Cond.selects RX5 yX5_give yX5_give ∈ W0 := w0_3 (i := 91) rfl rfl
theorem q3_92 : Cond.code yX5_give cX5_give 3 none ∈ W0 := w0_3 (i := 92) rfl rfl
theorem q3_94 : Cond.static yX7_at_ ∈ W0 := w0_3 (i := 94) rfl rfl
theorem q3_95 : Cond.code yX7_at_ cX7_at_ 2 (some .long) ∈ W0 := w0_3 (i := 95) rfl rfl
theorem q3_96 : Cond.methodLink RX5 54 yX0_become ∈ W0 := w0_3 (i := 96) rfl rfl
theorem q3_97 : Cond.methodLink RL 61 yX7_hint ∈ W0 := w0_3 (i := 97) rfl rfl
theorem q3_98 : Cond.instanceMethod yX7_hint ∈ W0 := w0_3 (i := 98) rfl rfl
theorem q3_99 : Cond.selects RX7 yX7_hint yX7_hint ∈ W0 := w0_3 (i := 99) rfl rfl
theorem q3_100 : Cond.code yX7_hint cX7_hint 2 (some .int) ∈ W0 := w0_3 (i := 100) rfl rfl
theorem q3_101 : Cond.methodLink RL 65 yX7_hinted ∈ W0 := w0_3 (i := 101) rfl rfl
theorem q3_102 : Cond.instanceMethod yX7_hinted ∈ W0 := w0_3 (i := 102) rfl rfl
theorem q3_103 : Cond.selects RX7 yX7_hinted yX7_hinted ∈ W0 := w0_3 (i := 103) rfl rfl
theorem q3_104 : Cond.code yX7_hinted cX7_hinted 1 (some .long) ∈ W0 := w0_3 (i := 104) rfl rfl
theorem q3_105 : Cond.methodLink RL 70 yX7_many ∈ W0 := w0_3 (i := 105) rfl rfl
theorem q3_106 : Cond.instanceMethod yX7_many ∈ W0 := w0_3 (i := 106) rfl rfl
theorem q3_107 : Cond.selects RX7 yX7_many yX7_many ∈ W0 := w0_3 (i := 107) rfl rfl
theorem q3_108 : Cond.code yX7_many cX7_many 2 (some .int) ∈ W0 := w0_3 (i := 108) rfl rfl
theorem q3_109 : Cond.methodLink RX7 176 yX7_searchLoops ∈ W0 := w0_3 (i := 109) rfl rfl
theorem q3_111 : Cond.instanceMethod yX7_searchLoops ∈ W0 := w0_3 (i := 111) rfl rfl
theorem q3_112 : Cond.code yX7_searchLoops cX7_searchLoops 1 none ∈ W0 := w0_3 (i := 112) rfl rfl
theorem q3_113 : Cond.methodLink RX7 212 yX1_search ∈ W0 := w0_3 (i := 113) rfl rfl
theorem q3_114 : Cond.instanceMethod yX1_search ∈ W0 := w0_3 (i := 114) rfl rfl
theorem q3_115 : Cond.selects RX1 yX1_search yX1_search ∈ W0 := w0_3 (i := 115) rfl rfl
theorem q3_116 : Cond.code yX1_search cX1_search 7 none ∈ W0 := w0_3 (i := 116) rfl rfl
theorem q3_117 : Cond.methodLink RX1 44 yJ9_min_7cf53 ∈ W0 := w0_3 (i := 117) rfl rfl
theorem q3_118 : Cond.methodLink RX1 47 yX1_decide ∈ W0 := w0_3 (i := 118) rfl rfl
theorem q3_119 : Cond.static yX1_decide ∈ W0 := w0_3 (i := 119) rfl rfl
theorem q3_120 : Cond.code yX1_decide cX1_decide 12 none ∈ W0 := w0_3 (i := 120) rfl rfl
theorem q3_121 : Cond.methodLink RX1 61 yX1_takeRing ∈ W0 := w0_3 (i := 121) rfl rfl
theorem q3_123 : Cond.instanceMethod yX1_takeRing ∈ W0 := w0_3 (i := 123) rfl rfl
theorem q3_124 : Cond.code yX1_takeRing cX1_takeRing 4 none ∈ W0 := w0_3 (i := 124) rfl rfl
theorem q3_125 : Cond.methodLink RX1 79 yJ13_numberOfTrailingZeros_95d88 ∈ W0 := w0_3 (i := 125) rfl rfl
theorem q3_126 : Cond.methodLink RX1 85 yX4_chainOf ∈ W0 := w0_3 (i := 126) rfl rfl
theorem q3_127 : Cond.methodLink RX1 65 yX4_roundCell ∈ W0 := w0_3 (i := 127) rfl rfl
theorem q3_128 : Cond.methodLink RX1 69 yX4_sideOfCell ∈ W0 := w0_3 (i := 128) rfl rfl
theorem q3_130 : Cond.methodLink RX1 75 yX1_fits ∈ W0 := w0_3 (i := 130) rfl rfl
theorem q3_132 : Cond.instanceMethod yX1_fits ∈ W0 := w0_3 (i := 132) rfl rfl
theorem q3_133 : Cond.code yX1_fits cX1_fits 8 (some .boolean) ∈ W0 := w0_3 (i := 133) rfl rfl
theorem q3_134 : Cond.methodLink RX1 89 yX4_settledFrom ∈ W0 := w0_3 (i := 134) rfl rfl
theorem q3_135 : Cond.constantLong RX1 59 (-1) ∈ W0 := w0_3 (i := 135) rfl rfl
theorem q3_136 : Cond.methodLink RX1 92 yX4_atCorner ∈ W0 := w0_3 (i := 136) rfl rfl
theorem q3_137 : Cond.instanceMethod yX4_atCorner ∈ W0 := w0_3 (i := 137) rfl rfl
theorem q3_138 : Cond.selects RX4 yX4_atCorner yX4_atCorner ∈ W0 := w0_3 (i := 138) rfl rfl
theorem q3_139 : Cond.code yX4_atCorner cX4_atCorner 2 (some .long) ∈ W0 := w0_3 (i := 139) rfl rfl
theorem q3_140 : Cond.methodLink RX1 95 yJ13_bitCount_95d88 ∈ W0 := w0_3 (i := 140) rfl rfl
theorem q3_141 : Cond.methodLink RX1 98 yX4_hand ∈ W0 := w0_3 (i := 141) rfl rfl
theorem q3_142 : Cond.methodLink RX1 101 yX1_fitsNumber ∈ W0 := w0_3 (i := 142) rfl rfl
theorem q3_144 : Cond.instanceMethod yX1_fitsNumber ∈ W0 := w0_3 (i := 144) rfl rfl
theorem q3_145 : Cond.code yX1_fitsNumber cX1_fitsNumber 11 (some .boolean) ∈ W0 := w0_3 (i := 145) rfl rfl
theorem q3_146 : Cond.methodLink RX1 105 yX0_numberIn ∈ W0 := w0_3 (i := 146) rfl rfl
theorem q3_147 : Cond.methodLink RX7 180 yJ9_min_7cf53 ∈ W0 := w0_3 (i := 147) rfl rfl
theorem q3_148 : Cond.methodLink RL 74 yX7_loop ∈ W0 := w0_3 (i := 148) rfl rfl
theorem q3_149 : Cond.instanceMethod yX7_loop ∈ W0 := w0_3 (i := 149) rfl rfl
theorem q3_150 : Cond.selects RX7 yX7_loop yX7_loop ∈ W0 := w0_3 (i := 150) rfl rfl
theorem q3_151 : Cond.code yX7_loop cX7_loop 2 (some .long) ∈ W0 := w0_3 (i := 151) rfl rfl
theorem q3_152 : Cond.constantLong RX7 185 (-1) ∈ W0 := w0_3 (i := 152) rfl rfl
theorem q3_153 : Cond.methodLink RX7 187 yX1_ring ∈ W0 := w0_3 (i := 153) rfl rfl
theorem q3_154 : Cond.instanceMethod yX1_ring ∈ W0 := w0_3 (i := 154) rfl rfl
theorem q3_155 : Cond.selects RX1 yX1_ring yX1_ring ∈ W0 := w0_3 (i := 155) rfl rfl
theorem q3_156 : Cond.code yX1_ring cX1_ring 2 (some .long) ∈ W0 := w0_3 (i := 156) rfl rfl
theorem q3_158 : Cond.constantLong RX7 191 (-9) ∈ W0 := w0_3 (i := 158) rfl rfl
theorem q3_159 : Cond.methodLink RL 79 yX7_forced ∈ W0 := w0_3 (i := 159) rfl rfl
theorem q3_160 : Cond.instanceMethod yX7_forced ∈ W0 := w0_3 (i := 160) rfl rfl
theorem q3_161 : Cond.selects RX7 yX7_forced yX7_forced ∈ W0 := w0_3 (i := 161) rfl rfl
theorem q3_162 : Cond.code yX7_forced cX7_forced 2 (some .long) ∈ W0 := w0_3 (i := 162) rfl rfl
theorem q3_163 : Cond.methodLink RX7 193 yX1_inAll ∈ W0 := w0_3 (i := 163) rfl rfl
theorem q3_164 : Cond.instanceMethod yX1_inAll ∈ W0 := w0_3 (i := 164) rfl rfl
theorem q3_165 : Cond.selects RX1 yX1_inAll yX1_inAll ∈ W0 := w0_3 (i := 165) rfl rfl
theorem q3_166 : Cond.code yX1_inAll cX1_inAll 4 (some .long) ∈ W0 := w0_3 (i := 166) rfl rfl
theorem q3_167 : Cond.methodLink RX1 55 yX4_allSides ∈ W0 := w0_3 (i := 167) rfl rfl
theorem q3_168 : Cond.instanceMethod yX4_allSides ∈ W0 := w0_3 (i := 168) rfl rfl
theorem q3_169 : Cond.selects RX4 yX4_allSides yX4_allSides ∈ W0 := w0_3 (i := 169) rfl rfl
theorem q3_170 : Cond.code yX4_allSides cX4_allSides 1 (some .long) ∈ W0 := w0_3 (i := 170) rfl rfl
theorem q3_171 : Cond.methodLink RX7 197 yX1_inNone ∈ W0 := w0_3 (i := 171) rfl rfl
theorem q3_172 : Cond.instanceMethod yX1_inNone ∈ W0 := w0_3 (i := 172) rfl rfl
theorem q3_173 : Cond.selects RX1 yX1_inNone yX1_inNone ∈ W0 := w0_3 (i := 173) rfl rfl
theorem q3_174 : Cond.code yX1_inNone cX1_inNone 4 (some .long) ∈ W0 := w0_3 (i := 174) rfl rfl
theorem q3_175 : Cond.methodLink RL 83 yX7_inside ∈ W0 := w0_3 (i := 175) rfl rfl
theorem q3_176 : Cond.instanceMethod yX7_inside ∈ W0 := w0_3 (i := 176) rfl rfl
theorem q3_177 : Cond.selects RX7 yX7_inside yX7_inside ∈ W0 := w0_3 (i := 177) rfl rfl
theorem q3_178 : Cond.code yX7_inside cX7_inside 2 (some .int) ∈ W0 := w0_3 (i := 178) rfl rfl
theorem q3_179 : Cond.methodLink RX7 200 yX4_cellsWithin ∈ W0 := w0_3 (i := 179) rfl rfl
theorem q3_180 : Cond.instanceMethod yX4_cellsWithin ∈ W0 := w0_3 (i := 180) rfl rfl
theorem q3_181 : Cond.selects RX4 yX4_cellsWithin yX4_cellsWithin ∈ W0 := w0_3 (i := 181) rfl rfl
theorem q3_182 : Cond.code yX4_cellsWithin cX4_cellsWithin 7 (some .int) ∈ W0 := w0_3 (i := 182) rfl rfl
theorem q3_183 : Cond.methodLink RL 87 yX7_numbersThat ∈ W0 := w0_3 (i := 183) rfl rfl
theorem q3_184 : Cond.instanceMethod yX7_numbersThat ∈ W0 := w0_3 (i := 184) rfl rfl
theorem q3_185 : Cond.selects RX7 yX7_numbersThat yX7_numbersThat ∈ W0 := w0_3 (i := 185) rfl rfl
theorem q3_186 : Cond.code yX7_numbersThat cX7_numbersThat 5 (some .int) ∈ W0 := w0_3 (i := 186) rfl rfl
theorem q3_187 : Cond.methodLink RL 91 yX7_tryNext ∈ W0 := w0_3 (i := 187) rfl rfl
theorem q3_188 : Cond.instanceMethod yX7_tryNext ∈ W0 := w0_3 (i := 188) rfl rfl
theorem q3_189 : Cond.selects RX7 yX7_tryNext yX7_tryNext ∈ W0 := w0_3 (i := 189) rfl rfl
theorem q3_190 : Cond.code yX7_tryNext cX7_tryNext 6 (some .int) ∈ W0 := w0_3 (i := 190) rfl rfl
theorem q3_191 : Cond.methodLink RX7 218 yX1_howManyHave ∈ W0 := w0_3 (i := 191) rfl rfl
theorem q3_192 : Cond.instanceMethod yX1_howManyHave ∈ W0 := w0_3 (i := 192) rfl rfl
theorem q3_193 : Cond.selects RX1 yX1_howManyHave yX1_howManyHave ∈ W0 := w0_3 (i := 193) rfl rfl
theorem q3_194 : Cond.code yX1_howManyHave cX1_howManyHave 4 (some .int) ∈ W0 := w0_3 (i := 194) rfl rfl
theorem q3_195 : Cond.methodLink RL 95 yX7_keep ∈ W0 := w0_3 (i := 195) rfl rfl
theorem q3_196 : Cond.instanceMethod yX7_keep ∈ W0 := w0_3 (i := 196) rfl rfl
theorem q3_197 : Cond.selects RX7 yX7_keep yX7_keep ∈ W0 := w0_3 (i := 197) rfl rfl
theorem q3_198 : Cond.code yX7_keep cX7_keep 2 (some .int) ∈ W0 := w0_3 (i := 198) rfl rfl
theorem q3_199 : Cond.methodLink RX7 221 yX5_store ∈ W0 := w0_3 (i := 199) rfl rfl
theorem q3_200 : Cond.methodLink RX7 225 yX7_openSides ∈ W0 := w0_3 (i := 200) rfl rfl
theorem q3_202 : Cond.instanceMethod yX7_openSides ∈ W0 := w0_3 (i := 202) rfl rfl
theorem q3_203 : Cond.code yX7_openSides cX7_openSides 1 (some .int) ∈ W0 := w0_3 (i := 203) rfl rfl
theorem q3_204 : Cond.methodLink RL 99 yX7_back ∈ W0 := w0_3 (i := 204) rfl rfl
theorem q3_205 : Cond.instanceMethod yX7_back ∈ W0 := w0_3 (i := 205) rfl rfl
theorem q3_206 : Cond.selects RX7 yX7_back yX7_back ∈ W0 := w0_3 (i := 206) rfl rfl
theorem q3_207 : Cond.code yX7_back cX7_back 2 (some .int) ∈ W0 := w0_3 (i := 207) rfl rfl
theorem q3_208 : Cond.methodLink RX7 228 yX5_has ∈ W0 := w0_3 (i := 208) rfl rfl
theorem q3_209 : Cond.instanceMethod yX5_has ∈ W0 := w0_3 (i := 209) rfl rfl
theorem q3_210 : Cond.selects RX5 yX5_has yX5_has ∈ W0 := w0_3 (i := 210) rfl rfl
theorem q3_211 : Cond.code yX5_has cX5_has 2 (some .boolean) ∈ W0 := w0_3 (i := 211) rfl rfl
theorem q3_213 : Cond.methodLink RX7 231 yX5_give ∈ W0 := w0_3 (i := 213) rfl rfl
theorem q3_214 : Cond.methodLink RL 103 yX7_count ∈ W0 := w0_3 (i := 214) rfl rfl
theorem q3_215 : Cond.instanceMethod yX7_count ∈ W0 := w0_3 (i := 215) rfl rfl
theorem q3_216 : Cond.selects RX7 yX7_count yX7_count ∈ W0 := w0_3 (i := 216) rfl rfl
theorem q3_217 : Cond.code yX7_count cX7_count 2 (some .int) ∈ W0 := w0_3 (i := 217) rfl rfl
theorem q3_218 : Cond.methodLink RX7 235 yX7_cellsWithNumber ∈ W0 := w0_3 (i := 218) rfl rfl
theorem q3_220 : Cond.instanceMethod yX7_cellsWithNumber ∈ W0 := w0_3 (i := 220) rfl rfl
theorem q3_221 : Cond.code yX7_cellsWithNumber cX7_cellsWithNumber 3 (some .int) ∈ W0 := w0_3 (i := 221) rfl rfl
theorem q3_222 : Cond.classLink RL 10 RX8 ∈ W0 := w0_3 (i := 222) rfl rfl
theorem q3_223 : Cond.instantiable RX8 29 ∈ W0 := w0_3 (i := 223) rfl rfl
theorem q3_224 : Cond.methodLink RL 12 yX8_init ∈ W0 := w0_3 (i := 224) rfl rfl
theorem q3_225 : Cond.instanceMethod yX8_init ∈ W0 := w0_3 (i := 225) rfl rfl
theorem q3_226 : Cond.code yX8_init cX8_init 2 none ∈ W0 := w0_3 (i := 226) rfl rfl
theorem q3_227 : Cond.methodLink RX8 1 objectInit ∈ W0 := w0_3 (i := 227) rfl rfl
theorem q3_228 : Cond.constantLong RX8 56 (5) ∈ W0 := w0_3 (i := 228) rfl rfl
theorem q3_229 : Cond.methodLink RX8 58 yX8_laysGrid ∈ W0 := w0_3 (i := 229) rfl rfl
theorem q3_231 : Cond.instanceMethod yX8_laysGrid ∈ W0 := w0_3 (i := 231) rfl rfl
theorem q3_232 : Cond.code yX8_laysGrid cX8_laysGrid 3 none ∈ W0 := w0_3 (i := 232) rfl rfl
theorem q3_233 : Cond.methodLink RX8 65 yX8_lying ∈ W0 := w0_3 (i := 233) rfl rfl
theorem q3_235 : Cond.instanceMethod yX8_lying ∈ W0 := w0_3 (i := 235) rfl rfl
theorem q3_236 : Cond.code yX8_lying cX8_lying 3 (some .int) ∈ W0 := w0_3 (i := 236) rfl rfl
theorem q3_237 : Cond.methodLink RX8 69 yX8_cellAt ∈ W0 := w0_3 (i := 237) rfl rfl
theorem q3_239 : Cond.instanceMethod yX8_cellAt ∈ W0 := w0_3 (i := 239) rfl rfl
theorem q4_0 : Cond.code yX8_cellAt cX8_cellAt 3 (some .int) ∈ W0 := w0_4 (i := 0) rfl rfl
theorem q4_1 : Cond.methodLink RX8 61 yX8_in ∈ W0 := w0_4 (i := 1) rfl rfl
theorem q4_2 : Cond.static yX8_in ∈ W0 := w0_4 (i := 2) rfl rfl
theorem q4_3 : Cond.code yX8_in cX8_in 6 (some .boolean) ∈ W0 := w0_4 (i := 3) rfl rfl
theorem q4_4 : Cond.methodLink RX8 72 yX8_joins ∈ W0 := w0_4 (i := 4) rfl rfl
theorem q4_6 : Cond.instanceMethod yX8_joins ∈ W0 := w0_4 (i := 6) rfl rfl
theorem q4_7 : Cond.code yX8_joins cX8_joins 6 none ∈ W0 := w0_4 (i := 7) rfl rfl
theorem q4_8 : Cond.methodLink RX8 76 yX8_standing ∈ W0 := w0_4 (i := 8) rfl rfl
theorem q4_10 : Cond.instanceMethod yX8_standing ∈ W0 := w0_4 (i := 10) rfl rfl
theorem q4_11 : Cond.code yX8_standing cX8_standing 3 (some .int) ∈ W0 := w0_4 (i := 11) rfl rfl
theorem q4_12 : Cond.fieldLink RX8 52 "NumberedLoopsModel" "numbers" "J" ∈ W0 := w0_4 (i := 12) rfl rfl
theorem q4_13 : Cond.fieldLink RX8 83 "NumberedLoopsModel" "lines" "J" ∈ W0 := w0_4 (i := 13) rfl rfl
theorem q4_14 : Cond.fieldLink RX8 88 "NumberedLoopsModel" "blanks" "J" ∈ W0 := w0_4 (i := 14) rfl rfl
theorem q4_15 : Cond.fieldLink RX8 7 "NumberedLoopsModel" "width" "I" ∈ W0 := w0_4 (i := 15) rfl rfl
theorem q4_16 : Cond.fieldLink RX8 13 "NumberedLoopsModel" "height" "I" ∈ W0 := w0_4 (i := 16) rfl rfl
theorem q4_17 : Cond.fieldLink RX8 16 "NumberedLoopsModel" "cells" "I" ∈ W0 := w0_4 (i := 17) rfl rfl
theorem q4_18 : Cond.fieldLink RX8 19 "NumberedLoopsModel" "sides" "I" ∈ W0 := w0_4 (i := 18) rfl rfl
theorem q4_19 : Cond.fieldLink RX8 22 "NumberedLoopsModel" "atCell" "[J" ∈ W0 := w0_4 (i := 19) rfl rfl
theorem q4_20 : Cond.fieldLink RX8 26 "NumberedLoopsModel" "atPoint" "[J" ∈ W0 := w0_4 (i := 20) rfl rfl
theorem q4_21 : Cond.fieldLink RX8 29 "NumberedLoopsModel" "handOf" "[I" ∈ W0 := w0_4 (i := 21) rfl rfl
theorem q4_22 : Cond.fieldLink RX8 33 "NumberedLoopsModel" "text" "[I" ∈ W0 := w0_4 (i := 22) rfl rfl
theorem q4_23 : Cond.fieldLink RX8 96 "NumberedLoopsModel" "letters" "I" ∈ W0 := w0_4 (i := 23) rfl rfl
theorem q4_24 : Cond.fieldLink RX8 36 "NumberedLoopsModel" "past" "[J" ∈ W0 := w0_4 (i := 24) rfl rfl
theorem q4_25 : Cond.fieldLink RX8 127 "NumberedLoopsModel" "undos" "I" ∈ W0 := w0_4 (i := 25) rfl rfl
theorem q4_26 : Cond.fieldLink RX8 39 "NumberedLoopsModel" "images" "[J" ∈ W0 := w0_4 (i := 26) rfl rfl
theorem q4_27 : Cond.fieldLink RX8 42 "NumberedLoopsModel" "isKept" "[Z" ∈ W0 := w0_4 (i := 27) rfl rfl
theorem q4_28 : Cond.fieldLink RX8 93 "NumberedLoopsModel" "here" "I" ∈ W0 := w0_4 (i := 28) rfl rfl
theorem q4_29 : Cond.fieldLink RX8 110 "NumberedLoopsModel" "rows" "I" ∈ W0 := w0_4 (i := 29) rfl rfl
theorem q4_30 : Cond.fieldLink RX8 113 "NumberedLoopsModel" "wide" "I" ∈ W0 := w0_4 (i := 30) rfl rfl
theorem q4_31 : Cond.fieldLink RX8 116 "NumberedLoopsModel" "told" "J" ∈ W0 := w0_4 (i := 31) rfl rfl
theorem q4_32 : Cond.fieldLink RX8 175 "NumberedLoopsModel" "hintIs" "I" ∈ W0 := w0_4 (i := 32) rfl rfl
theorem q4_33 : Cond.fieldLink RX8 178 "NumberedLoopsModel" "hintRule" "I" ∈ W0 := w0_4 (i := 33) rfl rfl
theorem q4_34 : Cond.fieldLink RX8 181 "NumberedLoopsModel" "hintPlace" "I" ∈ W0 := w0_4 (i := 34) rfl rfl
theorem q4_35 : Cond.fieldLink RX8 184 "NumberedLoopsModel" "hintSides" "J" ∈ W0 := w0_4 (i := 35) rfl rfl
theorem q4_36 : Cond.fieldLink RX8 46 "NumberedLoopsModel" "ring" "[J" ∈ W0 := w0_4 (i := 36) rfl rfl
theorem q4_37 : Cond.fieldLink RX8 241 "NumberedLoopsModel" "rings" "I" ∈ W0 := w0_4 (i := 37) rfl rfl
theorem q4_38 : Cond.fieldLink RX8 235 "NumberedLoopsModel" "ringsWide" "I" ∈ W0 := w0_4 (i := 38) rfl rfl
theorem q4_39 : Cond.fieldLink RX8 238 "NumberedLoopsModel" "ringsHigh" "I" ∈ W0 := w0_4 (i := 39) rfl rfl
theorem q4_40 : Cond.fieldLink RX8 49 "NumberedLoopsModel" "with" "[I" ∈ W0 := w0_4 (i := 40) rfl rfl
theorem q4_100 : Cond.arrayClass .boolean ∈ W0 := w0_4 (i := 100) rfl rfl
theorem q4_101 : Cond.methodLink RL 17 yX8_type ∈ W0 := w0_4 (i := 101) rfl rfl
theorem q4_102 : Cond.instanceMethod yX8_type ∈ W0 := w0_4 (i := 102) rfl rfl
theorem q4_103 : Cond.selects RX8 yX8_type yX8_type ∈ W0 := w0_4 (i := 103) rfl rfl
theorem q4_104 : Cond.code yX8_type cX8_type 2 (some .int) ∈ W0 := w0_4 (i := 104) rfl rfl
theorem q4_105 : Cond.constantLong RX8 122 (255) ∈ W0 := w0_4 (i := 105) rfl rfl
theorem q4_106 : Cond.methodLink RL 22 yX8_clear ∈ W0 := w0_4 (i := 106) rfl rfl
theorem q4_107 : Cond.instanceMethod yX8_clear ∈ W0 := w0_4 (i := 107) rfl rfl
theorem q4_108 : Cond.selects RX8 yX8_clear yX8_clear ∈ W0 := w0_4 (i := 108) rfl rfl
theorem q4_109 : Cond.code yX8_clear cX8_clear 2 (some .int) ∈ W0 := w0_4 (i := 109) rfl rfl
theorem q4_110 : Cond.methodLink RL 26 yX8_grid ∈ W0 := w0_4 (i := 110) rfl rfl
theorem q4_111 : Cond.instanceMethod yX8_grid ∈ W0 := w0_4 (i := 111) rfl rfl
theorem q4_112 : Cond.selects RX8 yX8_grid yX8_grid ∈ W0 := w0_4 (i := 112) rfl rfl
theorem q4_113 : Cond.code yX8_grid cX8_grid 2 (some .int) ∈ W0 := w0_4 (i := 113) rfl rfl
theorem q4_114 : Cond.methodLink RX8 124 yX8_reads ∈ W0 := w0_4 (i := 114) rfl rfl
theorem q4_116 : Cond.instanceMethod yX8_reads ∈ W0 := w0_4 (i := 116) rfl rfl
theorem q4_117 : Cond.code yX8_reads cX8_reads 2 (some .boolean) ∈ W0 := w0_4 (i := 117) rfl rfl
theorem q4_118 : Cond.methodLink RX8 99 yX8_isMore ∈ W0 := w0_4 (i := 118) rfl rfl
theorem q4_120 : Cond.instanceMethod yX8_isMore ∈ W0 := w0_4 (i := 120) rfl rfl
theorem q4_121 : Cond.code yX8_isMore cX8_isMore 1 (some .boolean) ∈ W0 := w0_4 (i := 121) rfl rfl
theorem q4_122 : Cond.methodLink RX8 119 yX8_readsRow ∈ W0 := w0_4 (i := 122) rfl rfl
theorem q4_124 : Cond.instanceMethod yX8_readsRow ∈ W0 := w0_4 (i := 124) rfl rfl
theorem q4_125 : Cond.code yX8_readsRow cX8_readsRow 4 (some .boolean) ∈ W0 := w0_4 (i := 125) rfl rfl
theorem q4_126 : Cond.methodLink RX8 107 yX8_isSign ∈ W0 := w0_4 (i := 126) rfl rfl
theorem q4_128 : Cond.instanceMethod yX8_isSign ∈ W0 := w0_4 (i := 128) rfl rfl
theorem q4_129 : Cond.code yX8_isSign cX8_isSign 1 (some .boolean) ∈ W0 := w0_4 (i := 129) rfl rfl
theorem q4_130 : Cond.constantLong RX8 103 (48) ∈ W0 := w0_4 (i := 130) rfl rfl
theorem q4_131 : Cond.constantLong RX8 105 (52) ∈ W0 := w0_4 (i := 131) rfl rfl
theorem q4_132 : Cond.methodLink RL 30 yX8_number ∈ W0 := w0_4 (i := 132) rfl rfl
theorem q4_133 : Cond.instanceMethod yX8_number ∈ W0 := w0_4 (i := 133) rfl rfl
theorem q4_134 : Cond.selects RX8 yX8_number yX8_number ∈ W0 := w0_4 (i := 134) rfl rfl
theorem q4_135 : Cond.code yX8_number cX8_number 2 (some .int) ∈ W0 := w0_4 (i := 135) rfl rfl
theorem q4_136 : Cond.methodLink RX8 130 yX8_isCell ∈ W0 := w0_4 (i := 136) rfl rfl
theorem q4_138 : Cond.instanceMethod yX8_isCell ∈ W0 := w0_4 (i := 138) rfl rfl
theorem q4_139 : Cond.code yX8_isCell cX8_isCell 2 (some .boolean) ∈ W0 := w0_4 (i := 139) rfl rfl
theorem q4_140 : Cond.methodLink RX8 134 yX8_numberAt ∈ W0 := w0_4 (i := 140) rfl rfl
theorem q4_142 : Cond.instanceMethod yX8_numberAt ∈ W0 := w0_4 (i := 142) rfl rfl
theorem q4_143 : Cond.code yX8_numberAt cX8_numberAt 2 (some .int) ∈ W0 := w0_4 (i := 143) rfl rfl
theorem q4_144 : Cond.constantLong RX8 91 (7) ∈ W0 := w0_4 (i := 144) rfl rfl
theorem q4_145 : Cond.methodLink RL 34 yX8_side ∈ W0 := w0_4 (i := 145) rfl rfl
theorem q4_146 : Cond.instanceMethod yX8_side ∈ W0 := w0_4 (i := 146) rfl rfl
theorem q4_147 : Cond.selects RX8 yX8_side yX8_side ∈ W0 := w0_4 (i := 147) rfl rfl
theorem q4_148 : Cond.code yX8_side cX8_side 2 (some .int) ∈ W0 := w0_4 (i := 148) rfl rfl
theorem q4_149 : Cond.methodLink RX8 138 yX8_isSide ∈ W0 := w0_4 (i := 149) rfl rfl
theorem q4_151 : Cond.instanceMethod yX8_isSide ∈ W0 := w0_4 (i := 151) rfl rfl
theorem q4_152 : Cond.code yX8_isSide cX8_isSide 2 (some .boolean) ∈ W0 := w0_4 (i := 152) rfl rfl
theorem q4_153 : Cond.methodLink RX8 141 yX8_has ∈ W0 := w0_4 (i := 153) rfl rfl
theorem q4_154 : Cond.static yX8_has ∈ W0 := w0_4 (i := 154) rfl rfl
theorem q4_155 : Cond.code yX8_has cX8_has 3 (some .boolean) ∈ W0 := w0_4 (i := 155) rfl rfl
theorem q4_156 : Cond.methodLink RL 39 yX8_sideOf ∈ W0 := w0_4 (i := 156) rfl rfl
theorem q4_157 : Cond.instanceMethod yX8_sideOf ∈ W0 := w0_4 (i := 157) rfl rfl
theorem q4_158 : Cond.selects RX8 yX8_sideOf yX8_sideOf ∈ W0 := w0_4 (i := 158) rfl rfl
theorem q4_159 : Cond.code yX8_sideOf cX8_sideOf 4 (some .int) ∈ W0 := w0_4 (i := 159) rfl rfl
theorem q4_160 : Cond.methodLink RX8 145 yX8_points ∈ W0 := w0_4 (i := 160) rfl rfl
theorem q4_162 : Cond.instanceMethod yX8_points ∈ W0 := w0_4 (i := 162) rfl rfl
theorem q4_163 : Cond.code yX8_points cX8_points 1 (some .int) ∈ W0 := w0_4 (i := 163) rfl rfl
theorem q4_164 : Cond.constantLong RX8 149 (3) ∈ W0 := w0_4 (i := 164) rfl rfl
theorem q4_165 : Cond.methodLink RX8 151 yX8_sideOfCell ∈ W0 := w0_4 (i := 165) rfl rfl
theorem q4_167 : Cond.instanceMethod yX8_sideOfCell ∈ W0 := w0_4 (i := 167) rfl rfl
theorem q4_168 : Cond.code yX8_sideOfCell cX8_sideOfCell 5 (some .int) ∈ W0 := w0_4 (i := 168) rfl rfl
theorem q4_169 : Cond.methodLink RX8 154 yX8_sideOfPoint ∈ W0 := w0_4 (i := 169) rfl rfl
theorem q4_171 : Cond.instanceMethod yX8_sideOfPoint ∈ W0 := w0_4 (i := 171) rfl rfl
theorem q4_172 : Cond.code yX8_sideOfPoint cX8_sideOfPoint 5 (some .int) ∈ W0 := w0_4 (i := 172) rfl rfl
theorem q4_173 : Cond.methodLink RL 44 yX8_marks ∈ W0 := w0_4 (i := 173) rfl rfl
theorem q4_174 : Cond.instanceMethod yX8_marks ∈ W0 := w0_4 (i := 174) rfl rfl
theorem q4_175 : Cond.selects RX8 yX8_marks yX8_marks ∈ W0 := w0_4 (i := 175) rfl rfl
theorem q4_176 : Cond.code yX8_marks cX8_marks 4 (some .int) ∈ W0 := w0_4 (i := 176) rfl rfl
theorem q4_177 : Cond.constantLong RX8 157 (2) ∈ W0 := w0_4 (i := 177) rfl rfl
theorem q4_178 : Cond.methodLink RX8 159 yX8_side ∈ W0 := w0_4 (i := 178) rfl rfl
theorem q4_179 : Cond.methodLink RX8 162 yX8_minds ∈ W0 := w0_4 (i := 179) rfl rfl
theorem q4_181 : Cond.instanceMethod yX8_minds ∈ W0 := w0_4 (i := 181) rfl rfl
theorem q4_182 : Cond.code yX8_minds cX8_minds 2 none ∈ W0 := w0_4 (i := 182) rfl rfl
theorem q4_183 : Cond.methodLink RX8 165 yX8_sets ∈ W0 := w0_4 (i := 183) rfl rfl
theorem q4_185 : Cond.instanceMethod yX8_sets ∈ W0 := w0_4 (i := 185) rfl rfl
theorem q4_186 : Cond.code yX8_sets cX8_sets 4 none ∈ W0 := w0_4 (i := 186) rfl rfl
theorem q4_187 : Cond.constantLong RX8 86 (-1) ∈ W0 := w0_4 (i := 187) rfl rfl
theorem q4_188 : Cond.methodLink RL 48 yX8_numbers ∈ W0 := w0_4 (i := 188) rfl rfl
theorem q4_189 : Cond.instanceMethod yX8_numbers ∈ W0 := w0_4 (i := 189) rfl rfl
theorem q4_190 : Cond.selects RX8 yX8_numbers yX8_numbers ∈ W0 := w0_4 (i := 190) rfl rfl
theorem q4_191 : Cond.code yX8_numbers cX8_numbers 4 (some .int) ∈ W0 := w0_4 (i := 191) rfl rfl
theorem q4_192 : Cond.constantLong RX8 169 (4) ∈ W0 := w0_4 (i := 192) rfl rfl
theorem q4_193 : Cond.methodLink RX8 171 yX8_becomes ∈ W0 := w0_4 (i := 193) rfl rfl
theorem q4_195 : Cond.instanceMethod yX8_becomes ∈ W0 := w0_4 (i := 195) rfl rfl
theorem q4_196 : Cond.code yX8_becomes cX8_becomes 4 none ∈ W0 := w0_4 (i := 196) rfl rfl
theorem q4_197 : Cond.methodLink RL 52 yX8_step ∈ W0 := w0_4 (i := 197) rfl rfl
theorem q4_198 : Cond.instanceMethod yX8_step ∈ W0 := w0_4 (i := 198) rfl rfl
theorem q4_199 : Cond.selects RX8 yX8_step yX8_step ∈ W0 := w0_4 (i := 199) rfl rfl
theorem q4_200 : Cond.code yX8_step cX8_step 1 (some .int) ∈ W0 := w0_4 (i := 200) rfl rfl
theorem q4_201 : Cond.methodLink RX8 232 yX8_hints ∈ W0 := w0_4 (i := 201) rfl rfl
theorem q4_203 : Cond.instanceMethod yX8_hints ∈ W0 := w0_4 (i := 203) rfl rfl
theorem q4_204 : Cond.code yX8_hints cX8_hints 4 none ∈ W0 := w0_4 (i := 204) rfl rfl
theorem q4_205 : Cond.methodLink RX8 228 yX8_isAt ∈ W0 := w0_4 (i := 205) rfl rfl
theorem q4_207 : Cond.instanceMethod yX8_isAt ∈ W0 := w0_4 (i := 207) rfl rfl
theorem q4_208 : Cond.code yX8_isAt cX8_isAt 3 (some .boolean) ∈ W0 := w0_4 (i := 208) rfl rfl
theorem q4_209 : Cond.methodLink RX8 216 yX8_atCells ∈ W0 := w0_4 (i := 209) rfl rfl
theorem q4_211 : Cond.instanceMethod yX8_atCells ∈ W0 := w0_4 (i := 211) rfl rfl
theorem q4_212 : Cond.code yX8_atCells cX8_atCells 7 (some .boolean) ∈ W0 := w0_4 (i := 212) rfl rfl
theorem q4_213 : Cond.methodLink RX8 187 yX8_ones ∈ W0 := w0_4 (i := 213) rfl rfl
theorem q4_214 : Cond.static yX8_ones ∈ W0 := w0_4 (i := 214) rfl rfl
theorem q4_215 : Cond.code yX8_ones cX8_ones 5 (some .int) ∈ W0 := w0_4 (i := 215) rfl rfl
theorem q4_216 : Cond.methodLink RX8 191 yX8_open ∈ W0 := w0_4 (i := 216) rfl rfl
theorem q4_218 : Cond.instanceMethod yX8_open ∈ W0 := w0_4 (i := 218) rfl rfl
theorem q4_219 : Cond.code yX8_open cX8_open 1 (some .long) ∈ W0 := w0_4 (i := 219) rfl rfl
theorem q4_220 : Cond.methodLink RX8 79 yX8_all ∈ W0 := w0_4 (i := 220) rfl rfl
theorem q4_222 : Cond.instanceMethod yX8_all ∈ W0 := w0_4 (i := 222) rfl rfl
theorem q4_223 : Cond.code yX8_all cX8_all 1 (some .long) ∈ W0 := w0_4 (i := 223) rfl rfl
theorem q4_224 : Cond.methodLink RX8 194 yX8_finds ∈ W0 := w0_4 (i := 224) rfl rfl
theorem q4_226 : Cond.instanceMethod yX8_finds ∈ W0 := w0_4 (i := 226) rfl rfl
theorem q4_227 : Cond.code yX8_finds cX8_finds 6 (some .boolean) ∈ W0 := w0_4 (i := 227) rfl rfl
theorem q4_228 : Cond.methodLink RX8 219 yX8_atPoints ∈ W0 := w0_4 (i := 228) rfl rfl
theorem q4_230 : Cond.instanceMethod yX8_atPoints ∈ W0 := w0_4 (i := 230) rfl rfl
theorem q4_231 : Cond.code yX8_atPoints cX8_atPoints 6 (some .boolean) ∈ W0 := w0_4 (i := 231) rfl rfl
theorem q4_232 : Cond.methodLink RX8 222 yX8_atChains ∈ W0 := w0_4 (i := 232) rfl rfl
theorem q4_234 : Cond.instanceMethod yX8_atChains ∈ W0 := w0_4 (i := 234) rfl rfl
theorem q4_235 : Cond.code yX8_atChains cX8_atChains 11 (some .boolean) ∈ W0 := w0_4 (i := 235) rfl rfl
theorem q4_236 : Cond.methodLink RX8 198 yX8_chain ∈ W0 := w0_4 (i := 236) rfl rfl
theorem q4_238 : Cond.instanceMethod yX8_chain ∈ W0 := w0_4 (i := 238) rfl rfl
theorem q4_239 : Cond.code yX8_chain cX8_chain 10 (some .long) ∈ W0 := w0_4 (i := 239) rfl rfl
theorem q5_0 : Cond.methodLink RX8 202 yX8_isClosed ∈ W0 := w0_5 (i := 0) rfl rfl
theorem q5_2 : Cond.instanceMethod yX8_isClosed ∈ W0 := w0_5 (i := 2) rfl rfl
theorem q5_3 : Cond.code yX8_isClosed cX8_isClosed 5 (some .boolean) ∈ W0 := w0_5 (i := 3) rfl rfl
theorem q5_4 : Cond.methodLink RX8 206 yX8_isAmiss ∈ W0 := w0_5 (i := 4) rfl rfl
theorem q5_6 : Cond.instanceMethod yX8_isAmiss ∈ W0 := w0_5 (i := 6) rfl rfl
theorem q5_7 : Cond.code yX8_isAmiss cX8_isAmiss 5 (some .boolean) ∈ W0 := w0_5 (i := 7) rfl rfl
theorem q5_8 : Cond.methodLink RX8 225 yX8_atHands ∈ W0 := w0_5 (i := 8) rfl rfl
theorem q5_10 : Cond.instanceMethod yX8_atHands ∈ W0 := w0_5 (i := 10) rfl rfl
theorem q5_11 : Cond.code yX8_atHands cX8_atHands 4 (some .boolean) ∈ W0 := w0_5 (i := 11) rfl rfl
theorem q5_12 : Cond.methodLink RX8 213 yX8_tells ∈ W0 := w0_5 (i := 12) rfl rfl
theorem q5_14 : Cond.instanceMethod yX8_tells ∈ W0 := w0_5 (i := 14) rfl rfl
theorem q5_15 : Cond.code yX8_tells cX8_tells 7 (some .int) ∈ W0 := w0_5 (i := 15) rfl rfl
theorem q5_16 : Cond.methodLink RX8 209 yX8_goes ∈ W0 := w0_5 (i := 16) rfl rfl
theorem q5_17 : Cond.static yX8_goes ∈ W0 := w0_5 (i := 17) rfl rfl
theorem q5_18 : Cond.code yX8_goes cX8_goes 7 (some .long) ∈ W0 := w0_5 (i := 18) rfl rfl
theorem q5_19 : Cond.methodLink RL 56 yX8_spreads ∈ W0 := w0_5 (i := 19) rfl rfl
theorem q5_20 : Cond.instanceMethod yX8_spreads ∈ W0 := w0_5 (i := 20) rfl rfl
theorem q5_21 : Cond.selects RX8 yX8_spreads yX8_spreads ∈ W0 := w0_5 (i := 21) rfl rfl
theorem q5_22 : Cond.code yX8_spreads cX8_spreads 2 (some .int) ∈ W0 := w0_5 (i := 22) rfl rfl
theorem q5_23 : Cond.methodLink RL 60 yX8_undo ∈ W0 := w0_5 (i := 23) rfl rfl
theorem q5_24 : Cond.instanceMethod yX8_undo ∈ W0 := w0_5 (i := 24) rfl rfl
theorem q5_25 : Cond.selects RX8 yX8_undo yX8_undo ∈ W0 := w0_5 (i := 25) rfl rfl
theorem q5_26 : Cond.code yX8_undo cX8_undo 1 (some .int) ∈ W0 := w0_5 (i := 26) rfl rfl
theorem q5_27 : Cond.methodLink RL 64 yX8_hint ∈ W0 := w0_5 (i := 27) rfl rfl
theorem q5_28 : Cond.instanceMethod yX8_hint ∈ W0 := w0_5 (i := 28) rfl rfl
theorem q5_29 : Cond.selects RX8 yX8_hint yX8_hint ∈ W0 := w0_5 (i := 29) rfl rfl
theorem q5_30 : Cond.code yX8_hint cX8_hint 2 (some .int) ∈ W0 := w0_5 (i := 30) rfl rfl
theorem q5_31 : Cond.methodLink RL 69 yX8_hinted ∈ W0 := w0_5 (i := 31) rfl rfl
theorem q5_32 : Cond.instanceMethod yX8_hinted ∈ W0 := w0_5 (i := 32) rfl rfl
theorem q5_33 : Cond.selects RX8 yX8_hinted yX8_hinted ∈ W0 := w0_5 (i := 33) rfl rfl
theorem q5_34 : Cond.code yX8_hinted cX8_hinted 1 (some .long) ∈ W0 := w0_5 (i := 34) rfl rfl
theorem q5_35 : Cond.methodLink RL 73 yX8_many ∈ W0 := w0_5 (i := 35) rfl rfl
theorem q5_36 : Cond.instanceMethod yX8_many ∈ W0 := w0_5 (i := 36) rfl rfl
theorem q5_37 : Cond.selects RX8 yX8_many yX8_many ∈ W0 := w0_5 (i := 37) rfl rfl
theorem q5_38 : Cond.code yX8_many cX8_many 2 (some .int) ∈ W0 := w0_5 (i := 38) rfl rfl
theorem q5_39 : Cond.constantLong RX8 257 (10000) ∈ W0 := w0_5 (i := 39) rfl rfl
theorem q5_40 : Cond.methodLink RX8 259 yX8_manyBut ∈ W0 := w0_5 (i := 40) rfl rfl
theorem q5_42 : Cond.instanceMethod yX8_manyBut ∈ W0 := w0_5 (i := 42) rfl rfl
theorem q5_43 : Cond.code yX8_manyBut cX8_manyBut 5 (some .int) ∈ W0 := w0_5 (i := 43) rfl rfl
theorem q5_44 : Cond.methodLink RX8 251 yX8_laysRings ∈ W0 := w0_5 (i := 44) rfl rfl
theorem q5_46 : Cond.instanceMethod yX8_laysRings ∈ W0 := w0_5 (i := 46) rfl rfl
theorem q5_47 : Cond.code yX8_laysRings cX8_laysRings 6 none ∈ W0 := w0_5 (i := 47) rfl rfl
theorem q5_48 : Cond.methodLink RX8 244 yX8_around ∈ W0 := w0_5 (i := 48) rfl rfl
theorem q5_50 : Cond.instanceMethod yX8_around ∈ W0 := w0_5 (i := 50) rfl rfl
theorem q5_51 : Cond.code yX8_around cX8_around 7 (some .long) ∈ W0 := w0_5 (i := 51) rfl rfl
theorem q5_52 : Cond.methodLink RX8 248 yX8_isRing ∈ W0 := w0_5 (i := 52) rfl rfl
theorem q5_54 : Cond.instanceMethod yX8_isRing ∈ W0 := w0_5 (i := 54) rfl rfl
theorem q5_55 : Cond.code yX8_isRing cX8_isRing 6 (some .boolean) ∈ W0 := w0_5 (i := 55) rfl rfl
theorem q5_56 : Cond.methodLink RX8 254 yX8_fits ∈ W0 := w0_5 (i := 56) rfl rfl
theorem q5_58 : Cond.instanceMethod yX8_fits ∈ W0 := w0_5 (i := 58) rfl rfl
theorem q5_59 : Cond.code yX8_fits cX8_fits 6 (some .boolean) ∈ W0 := w0_5 (i := 59) rfl rfl
theorem q5_60 : Cond.methodLink RL 78 yX8_loop ∈ W0 := w0_5 (i := 60) rfl rfl
theorem q5_61 : Cond.instanceMethod yX8_loop ∈ W0 := w0_5 (i := 61) rfl rfl
theorem q5_62 : Cond.selects RX8 yX8_loop yX8_loop ∈ W0 := w0_5 (i := 62) rfl rfl
theorem q5_63 : Cond.code yX8_loop cX8_loop 2 (some .long) ∈ W0 := w0_5 (i := 63) rfl rfl
theorem q5_64 : Cond.constantLong RX8 264 (9999) ∈ W0 := w0_5 (i := 64) rfl rfl
theorem q5_65 : Cond.methodLink RX8 266 yX8_loopAt ∈ W0 := w0_5 (i := 65) rfl rfl
theorem q5_67 : Cond.instanceMethod yX8_loopAt ∈ W0 := w0_5 (i := 67) rfl rfl
theorem q5_68 : Cond.code yX8_loopAt cX8_loopAt 4 (some .long) ∈ W0 := w0_5 (i := 68) rfl rfl
theorem q5_69 : Cond.constantLong RX8 262 (-9) ∈ W0 := w0_5 (i := 69) rfl rfl
theorem q5_70 : Cond.methodLink RL 82 yX8_forced ∈ W0 := w0_5 (i := 70) rfl rfl
theorem q5_71 : Cond.instanceMethod yX8_forced ∈ W0 := w0_5 (i := 71) rfl rfl
theorem q5_72 : Cond.selects RX8 yX8_forced yX8_forced ∈ W0 := w0_5 (i := 72) rfl rfl
theorem q5_73 : Cond.code yX8_forced cX8_forced 8 (some .long) ∈ W0 := w0_5 (i := 73) rfl rfl
theorem q5_74 : Cond.methodLink RL 86 yX8_inside ∈ W0 := w0_5 (i := 74) rfl rfl
theorem q5_75 : Cond.instanceMethod yX8_inside ∈ W0 := w0_5 (i := 75) rfl rfl
theorem q5_76 : Cond.selects RX8 yX8_inside yX8_inside ∈ W0 := w0_5 (i := 76) rfl rfl
theorem q5_77 : Cond.code yX8_inside cX8_inside 8 (some .int) ∈ W0 := w0_5 (i := 77) rfl rfl
theorem q5_78 : Cond.methodLink RL 90 yX8_numbersThat ∈ W0 := w0_5 (i := 78) rfl rfl
theorem q5_79 : Cond.instanceMethod yX8_numbersThat ∈ W0 := w0_5 (i := 79) rfl rfl
theorem q5_80 : Cond.selects RX8 yX8_numbersThat yX8_numbersThat ∈ W0 := w0_5 (i := 80) rfl rfl
theorem q5_81 : Cond.code yX8_numbersThat cX8_numbersThat 6 (some .int) ∈ W0 := w0_5 (i := 81) rfl rfl
theorem q5_82 : Cond.methodLink RL 94 yX8_tryNext ∈ W0 := w0_5 (i := 82) rfl rfl
theorem q5_83 : Cond.instanceMethod yX8_tryNext ∈ W0 := w0_5 (i := 83) rfl rfl
theorem q5_84 : Cond.selects RX8 yX8_tryNext yX8_tryNext ∈ W0 := w0_5 (i := 84) rfl rfl
theorem q5_85 : Cond.code yX8_tryNext cX8_tryNext 6 (some .int) ∈ W0 := w0_5 (i := 85) rfl rfl
theorem q5_86 : Cond.methodLink RL 98 yX8_keep ∈ W0 := w0_5 (i := 86) rfl rfl
theorem q5_87 : Cond.instanceMethod yX8_keep ∈ W0 := w0_5 (i := 87) rfl rfl
theorem q5_88 : Cond.selects RX8 yX8_keep yX8_keep ∈ W0 := w0_5 (i := 88) rfl rfl
theorem q5_89 : Cond.code yX8_keep cX8_keep 2 (some .int) ∈ W0 := w0_5 (i := 89) rfl rfl
theorem q5_90 : Cond.methodLink RL 102 yX8_back ∈ W0 := w0_5 (i := 90) rfl rfl
theorem q5_91 : Cond.instanceMethod yX8_back ∈ W0 := w0_5 (i := 91) rfl rfl
theorem q5_92 : Cond.selects RX8 yX8_back yX8_back ∈ W0 := w0_5 (i := 92) rfl rfl
theorem q5_93 : Cond.code yX8_back cX8_back 2 (some .int) ∈ W0 := w0_5 (i := 93) rfl rfl
theorem q5_94 : Cond.methodLink RL 106 yX8_count ∈ W0 := w0_5 (i := 94) rfl rfl
theorem q5_95 : Cond.instanceMethod yX8_count ∈ W0 := w0_5 (i := 95) rfl rfl
theorem q5_96 : Cond.selects RX8 yX8_count yX8_count ∈ W0 := w0_5 (i := 96) rfl rfl
theorem q5_97 : Cond.code yX8_count cX8_count 2 (some .int) ∈ W0 := w0_5 (i := 97) rfl rfl
theorem q5_98 : Cond.methodLink RX8 269 yX8_numbered ∈ W0 := w0_5 (i := 98) rfl rfl
theorem q5_100 : Cond.instanceMethod yX8_numbered ∈ W0 := w0_5 (i := 100) rfl rfl
theorem q5_101 : Cond.code yX8_numbered cX8_numbered 3 (some .int) ∈ W0 := w0_5 (i := 101) rfl rfl
theorem qs1_0 : Cond.selects RX4 yX4_layCells yX4_layCells ∈ W0 := w0_s1 (i := 0) rfl
theorem qs1_1 : Cond.selects RX4 yX4_lying yX4_lying ∈ W0 := w0_s1 (i := 1) rfl
theorem qs1_2 : Cond.selects RX4 yX4_layCellSide yX4_layCellSide ∈ W0 := w0_s1 (i := 2) rfl
theorem qs1_3 : Cond.selects RX4 yX4_standing yX4_standing ∈ W0 := w0_s1 (i := 3) rfl
theorem qs1_4 : Cond.selects RX4 yX4_layPoints yX4_layPoints ∈ W0 := w0_s1 (i := 4) rfl
theorem qs1_5 : Cond.selects RX4 yX4_layPointSide yX4_layPointSide ∈ W0 := w0_s1 (i := 5) rfl
theorem qs1_6 : Cond.selects RX4 yX4_layBesides yX4_layBesides ∈ W0 := w0_s1 (i := 6) rfl
theorem qs1_7 : Cond.selects RX4 yX4_laySettled yX4_laySettled ∈ W0 := w0_s1 (i := 7) rfl
theorem qs1_8 : Cond.selects RX4 yX4_layCorners yX4_layCorners ∈ W0 := w0_s1 (i := 8) rfl
theorem qs1_9 : Cond.selects RX6 yX6_endsRow yX6_endsRow ∈ W0 := w0_s1 (i := 9) rfl
theorem qs1_10 : Cond.selects RX6 yX6_fitsRow yX6_fitsRow ∈ W0 := w0_s1 (i := 10) rfl
theorem qs1_11 : Cond.selects RX7 yX7_beforeChange yX7_beforeChange ∈ W0 := w0_s1 (i := 11) rfl
theorem qs1_12 : Cond.selects RX3 yX3_lookAtCell yX3_lookAtCell ∈ W0 := w0_s1 (i := 12) rfl
theorem qs1_13 : Cond.selects RX3 yX3_openOf yX3_openOf ∈ W0 := w0_s1 (i := 13) rfl
theorem qs1_14 : Cond.selects RX3 yX3_tell yX3_tell ∈ W0 := w0_s1 (i := 14) rfl
theorem qs1_15 : Cond.selects RX3 yX3_lookAtPoint yX3_lookAtPoint ∈ W0 := w0_s1 (i := 15) rfl
theorem qs2_0 : Cond.selects RX3 yX3_lookAtChain yX3_lookAtChain ∈ W0 := w0_s2 (i := 0) rfl
theorem qs2_1 : Cond.selects RX3 yX3_othersThan yX3_othersThan ∈ W0 := w0_s2 (i := 1) rfl
theorem qs2_2 : Cond.selects RX3 yX3_isClosed yX3_isClosed ∈ W0 := w0_s2 (i := 2) rfl
theorem qs2_3 : Cond.selects RX3 yX3_chainThatWouldClose yX3_chainThatWouldClose ∈ W0 := w0_s2 (i := 3) rfl
theorem qs2_4 : Cond.selects RX3 yX3_missesNumber yX3_missesNumber ∈ W0 := w0_s2 (i := 4) rfl
theorem qs2_5 : Cond.selects RX3 yX3_lookAtHands yX3_lookAtHands ∈ W0 := w0_s2 (i := 5) rfl
theorem qs2_6 : Cond.selects RX3 yX3_waysPast yX3_waysPast ∈ W0 := w0_s2 (i := 6) rfl
theorem qs2_7 : Cond.selects RX3 yX3_nextOnWay yX3_nextOnWay ∈ W0 := w0_s2 (i := 7) rfl
theorem qs2_8 : Cond.selects RX7 yX7_follow yX7_follow ∈ W0 := w0_s2 (i := 8) rfl
theorem qs2_9 : Cond.selects RX7 yX7_searchLoops yX7_searchLoops ∈ W0 := w0_s2 (i := 9) rfl
theorem qs2_10 : Cond.selects RX1 yX1_takeRing yX1_takeRing ∈ W0 := w0_s2 (i := 10) rfl
theorem qs2_11 : Cond.selects RX1 yX1_fits yX1_fits ∈ W0 := w0_s2 (i := 11) rfl
theorem qs2_12 : Cond.selects RX1 yX1_fitsNumber yX1_fitsNumber ∈ W0 := w0_s2 (i := 12) rfl
theorem qs2_13 : Cond.selects RX7 yX7_openSides yX7_openSides ∈ W0 := w0_s2 (i := 13) rfl
theorem qs2_14 : Cond.selects RX7 yX7_cellsWithNumber yX7_cellsWithNumber ∈ W0 := w0_s2 (i := 14) rfl
theorem qs2_15 : Cond.selects RX8 yX8_laysGrid yX8_laysGrid ∈ W0 := w0_s2 (i := 15) rfl
theorem qs3_0 : Cond.selects RX8 yX8_lying yX8_lying ∈ W0 := w0_s3 (i := 0) rfl
theorem qs3_1 : Cond.selects RX8 yX8_cellAt yX8_cellAt ∈ W0 := w0_s3 (i := 1) rfl
theorem qs3_2 : Cond.selects RX8 yX8_joins yX8_joins ∈ W0 := w0_s3 (i := 2) rfl
theorem qs3_3 : Cond.selects RX8 yX8_standing yX8_standing ∈ W0 := w0_s3 (i := 3) rfl
theorem qs3_4 : Cond.selects RX8 yX8_reads yX8_reads ∈ W0 := w0_s3 (i := 4) rfl
theorem qs3_5 : Cond.selects RX8 yX8_isMore yX8_isMore ∈ W0 := w0_s3 (i := 5) rfl
theorem qs3_6 : Cond.selects RX8 yX8_readsRow yX8_readsRow ∈ W0 := w0_s3 (i := 6) rfl
theorem qs3_7 : Cond.selects RX8 yX8_isSign yX8_isSign ∈ W0 := w0_s3 (i := 7) rfl
theorem qs3_8 : Cond.selects RX8 yX8_isCell yX8_isCell ∈ W0 := w0_s3 (i := 8) rfl
theorem qs3_9 : Cond.selects RX8 yX8_numberAt yX8_numberAt ∈ W0 := w0_s3 (i := 9) rfl
theorem qs3_10 : Cond.selects RX8 yX8_isSide yX8_isSide ∈ W0 := w0_s3 (i := 10) rfl
theorem qs3_11 : Cond.selects RX8 yX8_points yX8_points ∈ W0 := w0_s3 (i := 11) rfl
theorem qs3_12 : Cond.selects RX8 yX8_sideOfCell yX8_sideOfCell ∈ W0 := w0_s3 (i := 12) rfl
theorem qs3_13 : Cond.selects RX8 yX8_sideOfPoint yX8_sideOfPoint ∈ W0 := w0_s3 (i := 13) rfl
theorem qs3_14 : Cond.selects RX8 yX8_minds yX8_minds ∈ W0 := w0_s3 (i := 14) rfl
theorem qs3_15 : Cond.selects RX8 yX8_sets yX8_sets ∈ W0 := w0_s3 (i := 15) rfl
theorem qs4_0 : Cond.selects RX8 yX8_becomes yX8_becomes ∈ W0 := w0_s4 (i := 0) rfl
theorem qs4_1 : Cond.selects RX8 yX8_hints yX8_hints ∈ W0 := w0_s4 (i := 1) rfl
theorem qs4_2 : Cond.selects RX8 yX8_isAt yX8_isAt ∈ W0 := w0_s4 (i := 2) rfl
theorem qs4_3 : Cond.selects RX8 yX8_atCells yX8_atCells ∈ W0 := w0_s4 (i := 3) rfl
theorem qs4_4 : Cond.selects RX8 yX8_open yX8_open ∈ W0 := w0_s4 (i := 4) rfl
theorem qs4_5 : Cond.selects RX8 yX8_all yX8_all ∈ W0 := w0_s4 (i := 5) rfl
theorem qs4_6 : Cond.selects RX8 yX8_finds yX8_finds ∈ W0 := w0_s4 (i := 6) rfl
theorem qs4_7 : Cond.selects RX8 yX8_atPoints yX8_atPoints ∈ W0 := w0_s4 (i := 7) rfl
theorem qs4_8 : Cond.selects RX8 yX8_atChains yX8_atChains ∈ W0 := w0_s4 (i := 8) rfl
theorem qs4_9 : Cond.selects RX8 yX8_chain yX8_chain ∈ W0 := w0_s4 (i := 9) rfl
theorem qs4_10 : Cond.selects RX8 yX8_isClosed yX8_isClosed ∈ W0 := w0_s4 (i := 10) rfl
theorem qs4_11 : Cond.selects RX8 yX8_isAmiss yX8_isAmiss ∈ W0 := w0_s4 (i := 11) rfl
theorem qs4_12 : Cond.selects RX8 yX8_atHands yX8_atHands ∈ W0 := w0_s4 (i := 12) rfl
theorem qs4_13 : Cond.selects RX8 yX8_tells yX8_tells ∈ W0 := w0_s4 (i := 13) rfl
theorem qs4_14 : Cond.selects RX8 yX8_manyBut yX8_manyBut ∈ W0 := w0_s4 (i := 14) rfl
theorem qs4_15 : Cond.selects RX8 yX8_laysRings yX8_laysRings ∈ W0 := w0_s4 (i := 15) rfl
theorem qs5_0 : Cond.selects RX8 yX8_around yX8_around ∈ W0 := w0_s5 (i := 0) rfl
theorem qs5_1 : Cond.selects RX8 yX8_isRing yX8_isRing ∈ W0 := w0_s5 (i := 1) rfl
theorem qs5_2 : Cond.selects RX8 yX8_fits yX8_fits ∈ W0 := w0_s5 (i := 2) rfl
theorem qs5_3 : Cond.selects RX8 yX8_loopAt yX8_loopAt ∈ W0 := w0_s5 (i := 3) rfl
theorem qs5_4 : Cond.selects RX8 yX8_numbered yX8_numbered ∈ W0 := w0_s5 (i := 4) rfl
