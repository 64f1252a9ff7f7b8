/-! the words that a method may use: those of the tables that stay; each by its place -/
def LW : List Cond := lw_tbl.filter goodWord
theorem LW_tbl : ∀ w ∈ LW, w ∈ lw_tbl := fun w h => (List.mem_filter.mp h).1
theorem LW_good : GoodIn LW LW := fun w h => ⟨h, good_of_word (List.mem_filter.mp h).2⟩
theorem tw1 {i : Nat} {w : Cond} (e : tables_1_1[i]? = some w) (g : goodWord w = true) : w ∈ LW := List.mem_filter.mpr ⟨List.mem_append_right _ (by have h := List.mem_of_getElem? e; exact (List.mem_append_left _ h)), g⟩
theorem tw2 {i : Nat} {w : Cond} (e : tables_1_2[i]? = some w) (g : goodWord w = true) : w ∈ LW := List.mem_filter.mpr ⟨List.mem_append_right _ (by have h := List.mem_of_getElem? e; exact (List.mem_append_right _ (List.mem_append_left _ h))), g⟩
theorem tw3 {i : Nat} {w : Cond} (e : tables_1_3[i]? = some w) (g : goodWord w = true) : w ∈ LW := List.mem_filter.mpr ⟨List.mem_append_right _ (by have h := List.mem_of_getElem? e; exact (List.mem_append_right _ (List.mem_append_right _ (List.mem_append_left _ h)))), g⟩
theorem tw4 {i : Nat} {w : Cond} (e : tables_1_4[i]? = some w) (g : goodWord w = true) : w ∈ LW := List.mem_filter.mpr ⟨List.mem_append_right _ (by have h := List.mem_of_getElem? e; exact (List.mem_append_right _ (List.mem_append_right _ (List.mem_append_right _ h)))), g⟩
theorem tp1 {i : Nat} {q : MethodName × Nat} (e : lw_privs_1[i]? = some q) : Cond.selects q.1.cls q.1 q.1 ∈ LW := List.mem_filter.mpr ⟨List.mem_append_left _ (List.mem_map_of_mem (f := fun q : MethodName × Nat => Cond.selects q.1.cls q.1 q.1) (by have h := List.mem_of_getElem? e; exact (List.mem_append_left _ h))), rfl⟩
theorem tp2 {i : Nat} {q : MethodName × Nat} (e : lw_privs_2[i]? = some q) : Cond.selects q.1.cls q.1 q.1 ∈ LW := List.mem_filter.mpr ⟨List.mem_append_left _ (List.mem_map_of_mem (f := fun q : MethodName × Nat => Cond.selects q.1.cls q.1 q.1) (by have h := List.mem_of_getElem? e; exact (List.mem_append_right _ h))), rfl⟩
theorem q0 : (Jvm.Cond.initialized "LongYearLaw") ∈ LW := tw1 (i := 0) rfl rfl
theorem q1 : (Jvm.Cond.initialized "LongYear") ∈ LW := tw1 (i := 1) rfl rfl
theorem q2 : (Jvm.Cond.initialized "LongYear$Reader") ∈ LW := tw1 (i := 2) rfl rfl
theorem q3 : (Jvm.Cond.initialized "LongYear$Farmers") ∈ LW := tw1 (i := 3) rfl rfl
theorem q4 : (Jvm.Cond.initialized "LongYear$Sleepers") ∈ LW := tw1 (i := 4) rfl rfl
theorem q5 : (Jvm.Cond.initialized "LongYear$Keepers") ∈ LW := tw1 (i := 5) rfl rfl
theorem q6 : (Jvm.Cond.initialized "LongYear$Makers") ∈ LW := tw1 (i := 6) rfl rfl
theorem q7 : (Jvm.Cond.initialized "LongYear$Singers") ∈ LW := tw1 (i := 7) rfl rfl
theorem q8 : (Jvm.Cond.initialized "LongYear$Lump") ∈ LW := tw1 (i := 8) rfl rfl
theorem q9 : (Jvm.Cond.initialized "LongYear$Books") ∈ LW := tw1 (i := 9) rfl rfl
theorem q10 : (Jvm.Cond.initialized "LongYear$Farm") ∈ LW := tw1 (i := 10) rfl rfl
theorem q11 : (Jvm.Cond.initialized "LongYear$Family") ∈ LW := tw1 (i := 11) rfl rfl
theorem q12 : (Jvm.Cond.initialized "LongYear$Trials") ∈ LW := tw1 (i := 12) rfl rfl
theorem q13 : (Jvm.Cond.initialized "java/lang/Math") ∈ LW := tw1 (i := 13) rfl rfl
theorem q14 : (Jvm.Cond.initialized "java/lang/Integer") ∈ LW := tw1 (i := 14) rfl rfl
theorem q15 : (Jvm.Cond.classLink "LongYearLaw" (24 : Nat) "LongYear") ∈ LW := tw1 (i := 15) rfl rfl
theorem q16 : (Jvm.Cond.instantiable "LongYear" (13 : Nat)) ∈ LW := tw1 (i := 16) rfl rfl
theorem q17 : (Jvm.Cond.methodLink "LongYearLaw" (52 : Nat) ({ cls := "LongYear", name := "<init>", desc := "()V" } : Jvm.MethodName)) ∈ LW := tw1 (i := 17) rfl rfl
theorem q18 : (Jvm.Cond.instanceMethod ({ cls := "LongYear", name := "<init>", desc := "()V" } : Jvm.MethodName)) ∈ LW := tw1 (i := 18) rfl rfl
theorem q19 : (Jvm.Cond.code ({ cls := "LongYear", name := "<init>", desc := "()V" } : Jvm.MethodName) prog_1_method_1_code (2 : Nat) (Option.none : Option Jvm.ClassFile.FieldType)) ∈ LW := tw1 (i := 19) rfl rfl
theorem q20 : (Jvm.Cond.methodLink "LongYear" (1 : Nat) ({ cls := "java/lang/Object", name := "<init>", desc := "()V" } : Jvm.MethodName)) ∈ LW := tw1 (i := 20) rfl rfl
theorem q21 : (Jvm.Cond.instanceMethod ({ cls := "java/lang/Object", name := "<init>", desc := "()V" } : Jvm.MethodName)) ∈ LW := tw1 (i := 21) rfl rfl
theorem q22 : (Jvm.Cond.code ({ cls := "java/lang/Object", name := "<init>", desc := "()V" } : Jvm.MethodName) object_method_1_code (1 : Nat) (Option.none : Option Jvm.ClassFile.FieldType)) ∈ LW := tw1 (i := 22) rfl rfl
theorem q23 : (Jvm.Cond.classLink "LongYear" (7 : Nat) "LongYear$Reader") ∈ LW := tw1 (i := 23) rfl rfl
theorem q24 : (Jvm.Cond.instantiable "LongYear$Reader" (7 : Nat)) ∈ LW := tw1 (i := 24) rfl rfl
theorem q26 : (Jvm.Cond.instanceMethod ({ cls := "LongYear$Reader", name := "<init>", desc := "()V" } : Jvm.MethodName)) ∈ LW := tw1 (i := 26) rfl rfl
theorem q27 : (Jvm.Cond.code ({ cls := "LongYear$Reader", name := "<init>", desc := "()V" } : Jvm.MethodName) prog_9_method_1_code (1 : Nat) (Option.none : Option Jvm.ClassFile.FieldType)) ∈ LW := tw1 (i := 27) rfl rfl
theorem q28 : (Jvm.Cond.methodLink "LongYear$Reader" (3 : Nat) ({ cls := "java/lang/Object", name := "<init>", desc := "()V" } : Jvm.MethodName)) ∈ LW := tw1 (i := 28) rfl rfl
theorem q29 : (Jvm.Cond.fieldLink "LongYear$Reader" (9 : Nat) "LongYear$Reader" "bytes" "[I") ∈ LW := tw1 (i := 29) rfl rfl
theorem q30 : (Jvm.Cond.fieldLink "LongYear$Reader" (15 : Nat) "LongYear$Reader" "told" "[I") ∈ LW := tw1 (i := 30) rfl rfl
theorem q31 : (Jvm.Cond.fieldLink "LongYear" (117 : Nat) "LongYear$Reader" "size" "I") ∈ LW := tw1 (i := 31) rfl rfl
theorem q32 : (Jvm.Cond.laysFinal "LongYear$Reader" "LongYear$Reader" "bytes" "[I") ∈ LW := tw1 (i := 32) rfl rfl
theorem q34 : (Jvm.Cond.laysFinal "LongYear$Reader" "LongYear$Reader" "told" "[I") ∈ LW := tw1 (i := 34) rfl rfl
theorem q36 : (Jvm.Cond.lays "LongYear$Reader" "LongYear$Reader" "size" "I") ∈ LW := tw1 (i := 36) rfl rfl
theorem q38 : (Jvm.Cond.lays "LongYear$Reader" "LongYear$Reader" "start" "I") ∈ LW := tw1 (i := 38) rfl rfl
theorem q40 : (Jvm.Cond.lays "LongYear$Reader" "LongYear$Reader" "after" "I") ∈ LW := tw1 (i := 40) rfl rfl
theorem q42 : (Jvm.Cond.lays "LongYear$Reader" "LongYear$Reader" "sort" "I") ∈ LW := tw1 (i := 42) rfl rfl
theorem q44 : (Jvm.Cond.lays "LongYear$Reader" "LongYear$Reader" "value" "I") ∈ LW := tw1 (i := 44) rfl rfl
theorem q46 : (Jvm.Cond.superclass "LongYear$Reader" "java/lang/Object") ∈ LW := tw1 (i := 46) rfl rfl
theorem q47 : (Jvm.Cond.arrayClass Jvm.ClassFile.FieldType.int) ∈ LW := tw1 (i := 47) rfl rfl
theorem q48 : (Jvm.Cond.classLink "LongYear" (20 : Nat) "LongYear$Farmers") ∈ LW := tw1 (i := 48) rfl rfl
theorem q50 : (Jvm.Cond.instantiable "LongYear$Farmers" (0 : Nat)) ∈ LW := tw1 (i := 50) rfl rfl
theorem q52 : (Jvm.Cond.instanceMethod ({ cls := "LongYear$Farmers", name := "<init>", desc := "()V" } : Jvm.MethodName)) ∈ LW := tw1 (i := 52) rfl rfl
theorem q53 : (Jvm.Cond.code ({ cls := "LongYear$Farmers", name := "<init>", desc := "()V" } : Jvm.MethodName) prog_5_method_1_code (1 : Nat) (Option.none : Option Jvm.ClassFile.FieldType)) ∈ LW := tw1 (i := 53) rfl rfl
theorem q54 : (Jvm.Cond.methodLink "LongYear$Farmers" (1 : Nat) ({ cls := "java/lang/Object", name := "<init>", desc := "()V" } : Jvm.MethodName)) ∈ LW := tw1 (i := 54) rfl rfl
theorem q55 : (Jvm.Cond.superclass "LongYear$Farmers" "java/lang/Object") ∈ LW := tw1 (i := 55) rfl rfl
theorem q56 : (Jvm.Cond.classLink "LongYear" (23 : Nat) "LongYear$Sleepers") ∈ LW := tw1 (i := 56) rfl rfl
theorem q57 : (Jvm.Cond.instantiable "LongYear$Sleepers" (0 : Nat)) ∈ LW := tw1 (i := 57) rfl rfl
theorem q59 : (Jvm.Cond.instanceMethod ({ cls := "LongYear$Sleepers", name := "<init>", desc := "()V" } : Jvm.MethodName)) ∈ LW := tw1 (i := 59) rfl rfl
theorem q60 : (Jvm.Cond.code ({ cls := "LongYear$Sleepers", name := "<init>", desc := "()V" } : Jvm.MethodName) prog_11_method_1_code (1 : Nat) (Option.none : Option Jvm.ClassFile.FieldType)) ∈ LW := tw1 (i := 60) rfl rfl
theorem q62 : (Jvm.Cond.superclass "LongYear$Sleepers" "LongYear$Farmers") ∈ LW := tw1 (i := 62) rfl rfl
theorem q63 : (Jvm.Cond.classLink "LongYear" (26 : Nat) "LongYear$Keepers") ∈ LW := tw1 (i := 63) rfl rfl
theorem q64 : (Jvm.Cond.instantiable "LongYear$Keepers" (0 : Nat)) ∈ LW := tw1 (i := 64) rfl rfl
theorem q66 : (Jvm.Cond.instanceMethod ({ cls := "LongYear$Keepers", name := "<init>", desc := "()V" } : Jvm.MethodName)) ∈ LW := tw1 (i := 66) rfl rfl
theorem q67 : (Jvm.Cond.code ({ cls := "LongYear$Keepers", name := "<init>", desc := "()V" } : Jvm.MethodName) prog_6_method_1_code (1 : Nat) (Option.none : Option Jvm.ClassFile.FieldType)) ∈ LW := tw1 (i := 67) rfl rfl
theorem q69 : (Jvm.Cond.superclass "LongYear$Keepers" "LongYear$Farmers") ∈ LW := tw1 (i := 69) rfl rfl
theorem q70 : (Jvm.Cond.classLink "LongYear" (29 : Nat) "LongYear$Makers") ∈ LW := tw1 (i := 70) rfl rfl
theorem q71 : (Jvm.Cond.instantiable "LongYear$Makers" (0 : Nat)) ∈ LW := tw1 (i := 71) rfl rfl
theorem q73 : (Jvm.Cond.instanceMethod ({ cls := "LongYear$Makers", name := "<init>", desc := "()V" } : Jvm.MethodName)) ∈ LW := tw1 (i := 73) rfl rfl
theorem q74 : (Jvm.Cond.code ({ cls := "LongYear$Makers", name := "<init>", desc := "()V" } : Jvm.MethodName) prog_8_method_1_code (1 : Nat) (Option.none : Option Jvm.ClassFile.FieldType)) ∈ LW := tw1 (i := 74) rfl rfl
theorem q76 : (Jvm.Cond.superclass "LongYear$Makers" "LongYear$Farmers") ∈ LW := tw1 (i := 76) rfl rfl
theorem q77 : (Jvm.Cond.classLink "LongYear" (32 : Nat) "LongYear$Singers") ∈ LW := tw1 (i := 77) rfl rfl
theorem q78 : (Jvm.Cond.instantiable "LongYear$Singers" (0 : Nat)) ∈ LW := tw1 (i := 78) rfl rfl
theorem q80 : (Jvm.Cond.instanceMethod ({ cls := "LongYear$Singers", name := "<init>", desc := "()V" } : Jvm.MethodName)) ∈ LW := tw1 (i := 80) rfl rfl
theorem q81 : (Jvm.Cond.code ({ cls := "LongYear$Singers", name := "<init>", desc := "()V" } : Jvm.MethodName) prog_10_method_1_code (1 : Nat) (Option.none : Option Jvm.ClassFile.FieldType)) ∈ LW := tw1 (i := 81) rfl rfl
theorem q83 : (Jvm.Cond.superclass "LongYear$Singers" "LongYear$Keepers") ∈ LW := tw1 (i := 83) rfl rfl
theorem q84 : (Jvm.Cond.classLink "LongYear" (35 : Nat) "LongYear$Lump") ∈ LW := tw1 (i := 84) rfl rfl
theorem q85 : (Jvm.Cond.instantiable "LongYear$Lump" (5 : Nat)) ∈ LW := tw1 (i := 85) rfl rfl
theorem q86 : (Jvm.Cond.methodLink "LongYear" (37 : Nat) ({ cls := "LongYear$Lump", name := "<init>", desc := "([LLongYear$Farmers;)V" } : Jvm.MethodName)) ∈ LW := tw1 (i := 86) rfl rfl
theorem q87 : (Jvm.Cond.instanceMethod ({ cls := "LongYear$Lump", name := "<init>", desc := "([LLongYear$Farmers;)V" } : Jvm.MethodName)) ∈ LW := tw1 (i := 87) rfl rfl
theorem q88 : (Jvm.Cond.code ({ cls := "LongYear$Lump", name := "<init>", desc := "([LLongYear$Farmers;)V" } : Jvm.MethodName) prog_7_method_1_code (3 : Nat) (Option.none : Option Jvm.ClassFile.FieldType)) ∈ LW := tw1 (i := 88) rfl rfl
theorem q89 : (Jvm.Cond.methodLink "LongYear$Lump" (3 : Nat) ({ cls := "java/lang/Object", name := "<init>", desc := "()V" } : Jvm.MethodName)) ∈ LW := tw1 (i := 89) rfl rfl
theorem q90 : (Jvm.Cond.classLink "LongYear$Lump" (9 : Nat) "LongYear$Books") ∈ LW := tw1 (i := 90) rfl rfl
theorem q91 : (Jvm.Cond.instantiable "LongYear$Books" (11 : Nat)) ∈ LW := tw1 (i := 91) rfl rfl
theorem q93 : (Jvm.Cond.instanceMethod ({ cls := "LongYear$Books", name := "<init>", desc := "()V" } : Jvm.MethodName)) ∈ LW := tw1 (i := 93) rfl rfl
theorem q94 : (Jvm.Cond.code ({ cls := "LongYear$Books", name := "<init>", desc := "()V" } : Jvm.MethodName) prog_2_method_1_code (1 : Nat) (Option.none : Option Jvm.ClassFile.FieldType)) ∈ LW := tw1 (i := 94) rfl rfl
theorem q95 : (Jvm.Cond.methodLink "LongYear$Books" (3 : Nat) ({ cls := "java/lang/Object", name := "<init>", desc := "()V" } : Jvm.MethodName)) ∈ LW := tw1 (i := 95) rfl rfl
theorem q96 : (Jvm.Cond.fieldLink "LongYear$Books" (33 : Nat) "LongYear$Books" "rate" "I") ∈ LW := tw1 (i := 96) rfl rfl
theorem q97 : (Jvm.Cond.fieldLink "LongYear$Books" (37 : Nat) "LongYear$Books" "debts" "I") ∈ LW := tw1 (i := 97) rfl rfl
theorem q98 : (Jvm.Cond.fieldLink "LongYear" (195 : Nat) "LongYear$Books" "debts" "I") ∈ LW := tw1 (i := 98) rfl rfl
theorem q99 : (Jvm.Cond.fieldLink "LongYear$Books" (40 : Nat) "LongYear$Books" "reports" "I") ∈ LW := tw1 (i := 99) rfl rfl
theorem q100 : (Jvm.Cond.fieldLink "LongYear" (217 : Nat) "LongYear$Books" "reports" "I") ∈ LW := tw1 (i := 100) rfl rfl
theorem q101 : (Jvm.Cond.fieldLink "LongYear$Books" (43 : Nat) "LongYear$Books" "words" "I") ∈ LW := tw1 (i := 101) rfl rfl
theorem q102 : (Jvm.Cond.fieldLink "LongYear" (254 : Nat) "LongYear$Books" "words" "I") ∈ LW := tw1 (i := 102) rfl rfl
theorem q103 : (Jvm.Cond.fieldLink "LongYear$Books" (9 : Nat) "LongYear$Books" "from" "[I") ∈ LW := tw1 (i := 103) rfl rfl
theorem q104 : (Jvm.Cond.fieldLink "LongYear$Books" (15 : Nat) "LongYear$Books" "to" "[I") ∈ LW := tw1 (i := 104) rfl rfl
theorem q105 : (Jvm.Cond.fieldLink "LongYear$Books" (18 : Nat) "LongYear$Books" "owed" "[I") ∈ LW := tw1 (i := 105) rfl rfl
theorem q106 : (Jvm.Cond.fieldLink "LongYear$Books" (21 : Nat) "LongYear$Books" "years" "[I") ∈ LW := tw1 (i := 106) rfl rfl
theorem q107 : (Jvm.Cond.fieldLink "LongYear$Books" (24 : Nat) "LongYear$Books" "tellers" "[I") ∈ LW := tw1 (i := 107) rfl rfl
theorem q108 : (Jvm.Cond.fieldLink "LongYear$Books" (27 : Nat) "LongYear$Books" "counted" "[I") ∈ LW := tw1 (i := 108) rfl rfl
theorem q109 : (Jvm.Cond.fieldLink "LongYear$Books" (30 : Nat) "LongYear$Books" "song" "[I") ∈ LW := tw1 (i := 109) rfl rfl
theorem q110 : (Jvm.Cond.lays "LongYear$Books" "LongYear$Books" "rate" "I") ∈ LW := tw1 (i := 110) rfl rfl
theorem q112 : (Jvm.Cond.lays "LongYear$Books" "LongYear$Books" "debts" "I") ∈ LW := tw1 (i := 112) rfl rfl
theorem q114 : (Jvm.Cond.lays "LongYear$Books" "LongYear$Books" "reports" "I") ∈ LW := tw1 (i := 114) rfl rfl
theorem q116 : (Jvm.Cond.lays "LongYear$Books" "LongYear$Books" "words" "I") ∈ LW := tw1 (i := 116) rfl rfl
theorem q118 : (Jvm.Cond.laysFinal "LongYear$Books" "LongYear$Books" "from" "[I") ∈ LW := tw1 (i := 118) rfl rfl
theorem q120 : (Jvm.Cond.laysFinal "LongYear$Books" "LongYear$Books" "to" "[I") ∈ LW := tw1 (i := 120) rfl rfl
theorem q122 : (Jvm.Cond.laysFinal "LongYear$Books" "LongYear$Books" "owed" "[I") ∈ LW := tw1 (i := 122) rfl rfl
theorem q124 : (Jvm.Cond.laysFinal "LongYear$Books" "LongYear$Books" "years" "[I") ∈ LW := tw1 (i := 124) rfl rfl
theorem q126 : (Jvm.Cond.laysFinal "LongYear$Books" "LongYear$Books" "tellers" "[I") ∈ LW := tw1 (i := 126) rfl rfl
theorem q128 : (Jvm.Cond.laysFinal "LongYear$Books" "LongYear$Books" "counted" "[I") ∈ LW := tw1 (i := 128) rfl rfl
theorem q130 : (Jvm.Cond.laysFinal "LongYear$Books" "LongYear$Books" "song" "[I") ∈ LW := tw1 (i := 130) rfl rfl
theorem q132 : (Jvm.Cond.superclass "LongYear$Books" "java/lang/Object") ∈ LW := tw1 (i := 132) rfl rfl
theorem q133 : (Jvm.Cond.classLink "LongYear$Lump" (18 : Nat) "LongYear$Farm") ∈ LW := tw1 (i := 133) rfl rfl
theorem q135 : (Jvm.Cond.instantiable "LongYear$Farm" (13 : Nat)) ∈ LW := tw1 (i := 135) rfl rfl
theorem q136 : (Jvm.Cond.methodLink "LongYear$Lump" (24 : Nat) ({ cls := "LongYear$Farm", name := "<init>", desc := "([LLongYear$Farmers;)V" } : Jvm.MethodName)) ∈ LW := tw1 (i := 136) rfl rfl
theorem q137 : (Jvm.Cond.instanceMethod ({ cls := "LongYear$Farm", name := "<init>", desc := "([LLongYear$Farmers;)V" } : Jvm.MethodName)) ∈ LW := tw1 (i := 137) rfl rfl
theorem q138 : (Jvm.Cond.code ({ cls := "LongYear$Farm", name := "<init>", desc := "([LLongYear$Farmers;)V" } : Jvm.MethodName) prog_4_method_1_code (3 : Nat) (Option.none : Option Jvm.ClassFile.FieldType)) ∈ LW := tw1 (i := 138) rfl rfl
theorem q139 : (Jvm.Cond.methodLink "LongYear$Farm" (3 : Nat) ({ cls := "java/lang/Object", name := "<init>", desc := "()V" } : Jvm.MethodName)) ∈ LW := tw1 (i := 139) rfl rfl
theorem q140 : (Jvm.Cond.classLink "LongYear$Farm" (9 : Nat) "LongYear$Family") ∈ LW := tw1 (i := 140) rfl rfl
theorem q142 : (Jvm.Cond.classLink "LongYear$Farm" (21 : Nat) "LongYear$Farmers") ∈ LW := tw1 (i := 142) rfl rfl
theorem q144 : (Jvm.Cond.instantiable "LongYear$Family" (5 : Nat)) ∈ LW := tw1 (i := 144) rfl rfl
theorem q145 : (Jvm.Cond.methodLink "LongYear$Farm" (28 : Nat) ({ cls := "LongYear$Family", name := "<init>", desc := "(LLongYear$Farmers;)V" } : Jvm.MethodName)) ∈ LW := tw1 (i := 145) rfl rfl
theorem q146 : (Jvm.Cond.instanceMethod ({ cls := "LongYear$Family", name := "<init>", desc := "(LLongYear$Farmers;)V" } : Jvm.MethodName)) ∈ LW := tw1 (i := 146) rfl rfl
theorem q147 : (Jvm.Cond.code ({ cls := "LongYear$Family", name := "<init>", desc := "(LLongYear$Farmers;)V" } : Jvm.MethodName) prog_3_method_1_code (2 : Nat) (Option.none : Option Jvm.ClassFile.FieldType)) ∈ LW := tw1 (i := 147) rfl rfl
theorem q148 : (Jvm.Cond.methodLink "LongYear$Family" (1 : Nat) ({ cls := "java/lang/Object", name := "<init>", desc := "()V" } : Jvm.MethodName)) ∈ LW := tw1 (i := 148) rfl rfl
theorem q149 : (Jvm.Cond.fieldLink "LongYear$Family" (7 : Nat) "LongYear$Family" "ways" "LLongYear$Farmers;") ∈ LW := tw1 (i := 149) rfl rfl
theorem q150 : (Jvm.Cond.fieldLink "LongYear$Farm" (81 : Nat) "LongYear$Family" "ways" "LLongYear$Farmers;") ∈ LW := tw1 (i := 150) rfl rfl
theorem q151 : (Jvm.Cond.fieldLink "LongYear$Family" (13 : Nat) "LongYear$Family" "kind" "I") ∈ LW := tw1 (i := 151) rfl rfl
theorem q152 : (Jvm.Cond.fieldLink "LongYear$Farm" (84 : Nat) "LongYear$Family" "kind" "I") ∈ LW := tw1 (i := 152) rfl rfl
theorem q153 : (Jvm.Cond.fieldLink "LongYear" (139 : Nat) "LongYear$Family" "kind" "I") ∈ LW := tw1 (i := 153) rfl rfl
theorem q154 : (Jvm.Cond.fieldLink "LongYear$Family" (17 : Nat) "LongYear$Family" "mouths" "I") ∈ LW := tw1 (i := 154) rfl rfl
theorem q155 : (Jvm.Cond.fieldLink "LongYear$Farm" (75 : Nat) "LongYear$Family" "mouths" "I") ∈ LW := tw1 (i := 155) rfl rfl
theorem q156 : (Jvm.Cond.fieldLink "LongYear" (142 : Nat) "LongYear$Family" "mouths" "I") ∈ LW := tw1 (i := 156) rfl rfl
theorem q157 : (Jvm.Cond.fieldLink "LongYear$Family" (20 : Nat) "LongYear$Family" "memory" "I") ∈ LW := tw1 (i := 157) rfl rfl
theorem q158 : (Jvm.Cond.fieldLink "LongYear$Farm" (78 : Nat) "LongYear$Family" "memory" "I") ∈ LW := tw1 (i := 158) rfl rfl
theorem q159 : (Jvm.Cond.fieldLink "LongYear" (145 : Nat) "LongYear$Family" "memory" "I") ∈ LW := tw1 (i := 159) rfl rfl
theorem q160 : (Jvm.Cond.fieldLink "LongYear$Family" (23 : Nat) "LongYear$Family" "job" "I") ∈ LW := tw1 (i := 160) rfl rfl
theorem q161 : (Jvm.Cond.fieldLink "LongYear" (112 : Nat) "LongYear$Family" "job" "I") ∈ LW := tw1 (i := 161) rfl rfl
theorem q162 : (Jvm.Cond.fieldLink "LongYear$Farm" (87 : Nat) "LongYear$Family" "job" "I") ∈ LW := tw1 (i := 162) rfl rfl
theorem q163 : (Jvm.Cond.lays "LongYear$Family" "LongYear$Family" "ways" "LLongYear$Farmers;") ∈ LW := tw1 (i := 163) rfl rfl
theorem q165 : (Jvm.Cond.lays "LongYear$Family" "LongYear$Family" "kind" "I") ∈ LW := tw1 (i := 165) rfl rfl
theorem q167 : (Jvm.Cond.lays "LongYear$Family" "LongYear$Family" "mouths" "I") ∈ LW := tw1 (i := 167) rfl rfl
theorem q169 : (Jvm.Cond.lays "LongYear$Family" "LongYear$Family" "memory" "I") ∈ LW := tw1 (i := 169) rfl rfl
theorem q171 : (Jvm.Cond.lays "LongYear$Family" "LongYear$Family" "job" "I") ∈ LW := tw1 (i := 171) rfl rfl
theorem q173 : (Jvm.Cond.superclass "LongYear$Family" "java/lang/Object") ∈ LW := tw1 (i := 173) rfl rfl
theorem q174 : (Jvm.Cond.fieldLink "LongYear$Farm" (17 : Nat) "LongYear$Farm" "kinds" "[LLongYear$Farmers;") ∈ LW := tw1 (i := 174) rfl rfl
theorem q175 : (Jvm.Cond.fieldLink "LongYear$Farm" (24 : Nat) "LongYear$Farm" "farmers" "LLongYear$Farmers;") ∈ LW := tw1 (i := 175) rfl rfl
theorem q176 : (Jvm.Cond.fieldLink "LongYear$Farm" (11 : Nat) "LongYear$Farm" "families" "[LLongYear$Family;") ∈ LW := tw1 (i := 176) rfl rfl
theorem q177 : (Jvm.Cond.fieldLink "LongYear$Farm" (31 : Nat) "LongYear$Farm" "nobody" "LLongYear$Family;") ∈ LW := tw1 (i := 177) rfl rfl
theorem q178 : (Jvm.Cond.fieldLink "LongYear$Farm" (35 : Nat) "LongYear$Farm" "span" "I") ∈ LW := tw1 (i := 178) rfl rfl
theorem q179 : (Jvm.Cond.fieldLink "LongYear" (76 : Nat) "LongYear$Farm" "span" "I") ∈ LW := tw1 (i := 179) rfl rfl
theorem q180 : (Jvm.Cond.fieldLink "LongYear$Farm" (39 : Nat) "LongYear$Farm" "year" "I") ∈ LW := tw1 (i := 180) rfl rfl
theorem q181 : (Jvm.Cond.fieldLink "LongYear$Trials" (60 : Nat) "LongYear$Farm" "year" "I") ∈ LW := tw1 (i := 181) rfl rfl
theorem q182 : (Jvm.Cond.fieldLink "LongYear" (328 : Nat) "LongYear$Farm" "year" "I") ∈ LW := tw1 (i := 182) rfl rfl
theorem q183 : (Jvm.Cond.fieldLink "LongYear$Farm" (42 : Nat) "LongYear$Farm" "grain" "I") ∈ LW := tw1 (i := 183) rfl rfl
theorem q184 : (Jvm.Cond.fieldLink "LongYear$Trials" (49 : Nat) "LongYear$Farm" "grain" "I") ∈ LW := tw1 (i := 184) rfl rfl
theorem q185 : (Jvm.Cond.fieldLink "LongYear" (165 : Nat) "LongYear$Farm" "grain" "I") ∈ LW := tw1 (i := 185) rfl rfl
theorem q186 : (Jvm.Cond.fieldLink "LongYear$Farm" (45 : Nat) "LongYear$Farm" "seed" "I") ∈ LW := tw1 (i := 186) rfl rfl
theorem q187 : (Jvm.Cond.fieldLink "LongYear$Farm" (48 : Nat) "LongYear$Farm" "tools" "I") ∈ LW := tw1 (i := 187) rfl rfl
theorem q188 : (Jvm.Cond.fieldLink "LongYear$Farm" (51 : Nat) "LongYear$Farm" "gas" "I") ∈ LW := tw1 (i := 188) rfl rfl
theorem q189 : (Jvm.Cond.fieldLink "LongYear$Farm" (54 : Nat) "LongYear$Farm" "size" "I") ∈ LW := tw1 (i := 189) rfl rfl
theorem q190 : (Jvm.Cond.fieldLink "LongYear" (93 : Nat) "LongYear$Farm" "size" "I") ∈ LW := tw1 (i := 190) rfl rfl
theorem q191 : (Jvm.Cond.fieldLink "LongYear$Trials" (94 : Nat) "LongYear$Farm" "size" "I") ∈ LW := tw1 (i := 191) rfl rfl
theorem q192 : (Jvm.Cond.fieldLink "LongYear$Farm" (57 : Nat) "LongYear$Farm" "wanted" "I") ∈ LW := tw1 (i := 192) rfl rfl
theorem q193 : (Jvm.Cond.fieldLink "LongYear" (331 : Nat) "LongYear$Farm" "wanted" "I") ∈ LW := tw1 (i := 193) rfl rfl
theorem q194 : (Jvm.Cond.fieldLink "LongYear$Farm" (60 : Nat) "LongYear$Farm" "colds" "I") ∈ LW := tw1 (i := 194) rfl rfl
theorem q195 : (Jvm.Cond.fieldLink "LongYear" (334 : Nat) "LongYear$Farm" "colds" "I") ∈ LW := tw1 (i := 195) rfl rfl
theorem q196 : (Jvm.Cond.laysFinal "LongYear$Farm" "LongYear$Farm" "kinds" "[LLongYear$Farmers;") ∈ LW := tw1 (i := 196) rfl rfl
theorem q198 : (Jvm.Cond.laysFinal "LongYear$Farm" "LongYear$Farm" "farmers" "LLongYear$Farmers;") ∈ LW := tw1 (i := 198) rfl rfl
theorem q200 : (Jvm.Cond.laysFinal "LongYear$Farm" "LongYear$Farm" "families" "[LLongYear$Family;") ∈ LW := tw1 (i := 200) rfl rfl
theorem q202 : (Jvm.Cond.laysFinal "LongYear$Farm" "LongYear$Farm" "nobody" "LLongYear$Family;") ∈ LW := tw1 (i := 202) rfl rfl
theorem q204 : (Jvm.Cond.lays "LongYear$Farm" "LongYear$Farm" "span" "I") ∈ LW := tw1 (i := 204) rfl rfl
theorem q206 : (Jvm.Cond.lays "LongYear$Farm" "LongYear$Farm" "year" "I") ∈ LW := tw1 (i := 206) rfl rfl
theorem q208 : (Jvm.Cond.lays "LongYear$Farm" "LongYear$Farm" "grain" "I") ∈ LW := tw1 (i := 208) rfl rfl
theorem q210 : (Jvm.Cond.lays "LongYear$Farm" "LongYear$Farm" "seed" "I") ∈ LW := tw1 (i := 210) rfl rfl
theorem q212 : (Jvm.Cond.lays "LongYear$Farm" "LongYear$Farm" "tools" "I") ∈ LW := tw1 (i := 212) rfl rfl
theorem q214 : (Jvm.Cond.lays "LongYear$Farm" "LongYear$Farm" "gas" "I") ∈ LW := tw1 (i := 214) rfl rfl
theorem q216 : (Jvm.Cond.lays "LongYear$Farm" "LongYear$Farm" "size" "I") ∈ LW := tw1 (i := 216) rfl rfl
theorem q218 : (Jvm.Cond.lays "LongYear$Farm" "LongYear$Farm" "wanted" "I") ∈ LW := tw1 (i := 218) rfl rfl
theorem q220 : (Jvm.Cond.lays "LongYear$Farm" "LongYear$Farm" "colds" "I") ∈ LW := tw1 (i := 220) rfl rfl
theorem q222 : (Jvm.Cond.superclass "LongYear$Farm" "java/lang/Object") ∈ LW := tw1 (i := 222) rfl rfl
theorem q223 : (Jvm.Cond.fieldLink "LongYear$Lump" (27 : Nat) "LongYear$Lump" "farm" "LLongYear$Farm;") ∈ LW := tw1 (i := 223) rfl rfl
theorem q224 : (Jvm.Cond.fieldLink "LongYear" (72 : Nat) "LongYear$Lump" "farm" "LLongYear$Farm;") ∈ LW := tw1 (i := 224) rfl rfl
theorem q225 : (Jvm.Cond.fieldLink "LongYear$Trials" (114 : Nat) "LongYear$Lump" "farm" "LLongYear$Farm;") ∈ LW := tw1 (i := 225) rfl rfl
theorem q226 : (Jvm.Cond.fieldLink "LongYear$Lump" (12 : Nat) "LongYear$Lump" "books" "LLongYear$Books;") ∈ LW := tw1 (i := 226) rfl rfl
theorem q227 : (Jvm.Cond.fieldLink "LongYear$Trials" (126 : Nat) "LongYear$Lump" "books" "LLongYear$Books;") ∈ LW := tw1 (i := 227) rfl rfl
theorem q228 : (Jvm.Cond.fieldLink "LongYear" (191 : Nat) "LongYear$Lump" "books" "LLongYear$Books;") ∈ LW := tw1 (i := 228) rfl rfl
theorem q229 : (Jvm.Cond.fieldLink "LongYear$Lump" (20 : Nat) "LongYear$Lump" "past" "[LLongYear$Farm;") ∈ LW := tw1 (i := 229) rfl rfl
theorem q230 : (Jvm.Cond.fieldLink "LongYear$Lump" (48 : Nat) "LongYear$Lump" "last" "I") ∈ LW := tw1 (i := 230) rfl rfl
theorem q231 : (Jvm.Cond.fieldLink "LongYear$Lump" (37 : Nat) "LongYear$Lump" "undoable" "I") ∈ LW := tw1 (i := 231) rfl rfl
theorem q232 : (Jvm.Cond.fieldLink "LongYear" (337 : Nat) "LongYear$Lump" "undoable" "I") ∈ LW := tw1 (i := 232) rfl rfl
theorem q233 : (Jvm.Cond.laysFinal "LongYear$Lump" "LongYear$Lump" "farm" "LLongYear$Farm;") ∈ LW := tw1 (i := 233) rfl rfl
theorem q235 : (Jvm.Cond.laysFinal "LongYear$Lump" "LongYear$Lump" "books" "LLongYear$Books;") ∈ LW := tw1 (i := 235) rfl rfl
theorem q237 : (Jvm.Cond.laysFinal "LongYear$Lump" "LongYear$Lump" "past" "[LLongYear$Farm;") ∈ LW := tw1 (i := 237) rfl rfl
theorem q239 : (Jvm.Cond.lays "LongYear$Lump" "LongYear$Lump" "last" "I") ∈ LW := tw1 (i := 239) rfl rfl
theorem q241 : (Jvm.Cond.lays "LongYear$Lump" "LongYear$Lump" "undoable" "I") ∈ LW := tw2 (i := 1) rfl rfl
theorem q243 : (Jvm.Cond.superclass "LongYear$Lump" "java/lang/Object") ∈ LW := tw2 (i := 3) rfl rfl
theorem q244 : (Jvm.Cond.classLink "LongYear" (53 : Nat) "LongYear$Trials") ∈ LW := tw2 (i := 4) rfl rfl
theorem q245 : (Jvm.Cond.instantiable "LongYear$Trials" (7 : Nat)) ∈ LW := tw2 (i := 5) rfl rfl
theorem q246 : (Jvm.Cond.methodLink "LongYear" (55 : Nat) ({ cls := "LongYear$Trials", name := "<init>", desc := "([LLongYear$Farmers;)V" } : Jvm.MethodName)) ∈ LW := tw2 (i := 6) rfl rfl
theorem q247 : (Jvm.Cond.instanceMethod ({ cls := "LongYear$Trials", name := "<init>", desc := "([LLongYear$Farmers;)V" } : Jvm.MethodName)) ∈ LW := tw2 (i := 7) rfl rfl
theorem q248 : (Jvm.Cond.code ({ cls := "LongYear$Trials", name := "<init>", desc := "([LLongYear$Farmers;)V" } : Jvm.MethodName) prog_12_method_1_code (3 : Nat) (Option.none : Option Jvm.ClassFile.FieldType)) ∈ LW := tw2 (i := 8) rfl rfl
theorem q249 : (Jvm.Cond.methodLink "LongYear$Trials" (3 : Nat) ({ cls := "java/lang/Object", name := "<init>", desc := "()V" } : Jvm.MethodName)) ∈ LW := tw2 (i := 9) rfl rfl
theorem q250 : (Jvm.Cond.classLink "LongYear$Trials" (9 : Nat) "LongYear$Farm") ∈ LW := tw2 (i := 10) rfl rfl
theorem q251 : (Jvm.Cond.methodLink "LongYear$Trials" (30 : Nat) ({ cls := "LongYear$Farm", name := "<init>", desc := "([LLongYear$Farmers;)V" } : Jvm.MethodName)) ∈ LW := tw2 (i := 11) rfl rfl
theorem q252 : (Jvm.Cond.fieldLink "LongYear$Trials" (11 : Nat) "LongYear$Trials" "farms" "[LLongYear$Farm;") ∈ LW := tw2 (i := 12) rfl rfl
theorem q253 : (Jvm.Cond.fieldLink "LongYear$Trials" (17 : Nat) "LongYear$Trials" "tried" "[I") ∈ LW := tw2 (i := 13) rfl rfl
theorem q254 : (Jvm.Cond.fieldLink "LongYear$Trials" (21 : Nat) "LongYear$Trials" "planned" "[I") ∈ LW := tw2 (i := 14) rfl rfl
theorem q255 : (Jvm.Cond.fieldLink "LongYear$Trials" (24 : Nat) "LongYear$Trials" "sums" "[I") ∈ LW := tw2 (i := 15) rfl rfl
theorem q256 : (Jvm.Cond.fieldLink "LongYear$Trials" (27 : Nat) "LongYear$Trials" "groups" "[I") ∈ LW := tw2 (i := 16) rfl rfl
theorem q257 : (Jvm.Cond.fieldLink "LongYear$Trials" (33 : Nat) "LongYear$Trials" "one" "LLongYear$Farm;") ∈ LW := tw2 (i := 17) rfl rfl
theorem q258 : (Jvm.Cond.fieldLink "LongYear$Trials" (37 : Nat) "LongYear$Trials" "mostGrain" "I") ∈ LW := tw2 (i := 18) rfl rfl
theorem q259 : (Jvm.Cond.laysFinal "LongYear$Trials" "LongYear$Trials" "farms" "[LLongYear$Farm;") ∈ LW := tw2 (i := 19) rfl rfl
theorem q261 : (Jvm.Cond.laysFinal "LongYear$Trials" "LongYear$Trials" "tried" "[I") ∈ LW := tw2 (i := 21) rfl rfl
theorem q263 : (Jvm.Cond.laysFinal "LongYear$Trials" "LongYear$Trials" "planned" "[I") ∈ LW := tw2 (i := 23) rfl rfl
theorem q265 : (Jvm.Cond.laysFinal "LongYear$Trials" "LongYear$Trials" "sums" "[I") ∈ LW := tw2 (i := 25) rfl rfl
theorem q267 : (Jvm.Cond.laysFinal "LongYear$Trials" "LongYear$Trials" "groups" "[I") ∈ LW := tw2 (i := 27) rfl rfl
theorem q269 : (Jvm.Cond.laysFinal "LongYear$Trials" "LongYear$Trials" "one" "LLongYear$Farm;") ∈ LW := tw2 (i := 29) rfl rfl
theorem q271 : (Jvm.Cond.lays "LongYear$Trials" "LongYear$Trials" "mostGrain" "I") ∈ LW := tw2 (i := 31) rfl rfl
theorem q273 : (Jvm.Cond.superclass "LongYear$Trials" "java/lang/Object") ∈ LW := tw2 (i := 33) rfl rfl
theorem q274 : (Jvm.Cond.fieldLink "LongYear" (40 : Nat) "LongYear" "lump" "LLongYear$Lump;") ∈ LW := tw2 (i := 34) rfl rfl
theorem q275 : (Jvm.Cond.fieldLink "LongYear" (44 : Nat) "LongYear" "draft" "LLongYear$Lump;") ∈ LW := tw2 (i := 35) rfl rfl
theorem q276 : (Jvm.Cond.fieldLink "LongYear" (47 : Nat) "LongYear" "firstImage" "LLongYear$Lump;") ∈ LW := tw2 (i := 36) rfl rfl
theorem q277 : (Jvm.Cond.fieldLink "LongYear" (50 : Nat) "LongYear" "secondImage" "LLongYear$Lump;") ∈ LW := tw2 (i := 37) rfl rfl
theorem q278 : (Jvm.Cond.fieldLink "LongYear" (10 : Nat) "LongYear" "text" "LLongYear$Reader;") ∈ LW := tw2 (i := 38) rfl rfl
theorem q279 : (Jvm.Cond.fieldLink "LongYear" (56 : Nat) "LongYear" "trials" "LLongYear$Trials;") ∈ LW := tw2 (i := 39) rfl rfl
theorem q280 : (Jvm.Cond.fieldLink "LongYear" (16 : Nat) "LongYear" "letters" "[I") ∈ LW := tw2 (i := 40) rfl rfl
theorem q281 : (Jvm.Cond.fieldLink "LongYear" (291 : Nat) "LongYear" "keptImages" "I") ∈ LW := tw2 (i := 41) rfl rfl
theorem q282 : (Jvm.Cond.fieldLink "LongYear" (294 : Nat) "LongYear" "bads" "I") ∈ LW := tw2 (i := 42) rfl rfl
theorem q283 : (Jvm.Cond.fieldLink "LongYear" (297 : Nat) "LongYear" "noes" "I") ∈ LW := tw2 (i := 43) rfl rfl
theorem q284 : (Jvm.Cond.fieldLink "LongYear" (300 : Nat) "LongYear" "fulls" "I") ∈ LW := tw2 (i := 44) rfl rfl
theorem q285 : (Jvm.Cond.fieldLink "LongYear" (60 : Nat) "LongYear" "below" "J") ∈ LW := tw2 (i := 45) rfl rfl
theorem q286 : (Jvm.Cond.laysFinal "LongYear" "LongYear" "lump" "LLongYear$Lump;") ∈ LW := tw2 (i := 46) rfl rfl
theorem q288 : (Jvm.Cond.laysFinal "LongYear" "LongYear" "draft" "LLongYear$Lump;") ∈ LW := tw2 (i := 48) rfl rfl
theorem q290 : (Jvm.Cond.laysFinal "LongYear" "LongYear" "firstImage" "LLongYear$Lump;") ∈ LW := tw2 (i := 50) rfl rfl
theorem q292 : (Jvm.Cond.laysFinal "LongYear" "LongYear" "secondImage" "LLongYear$Lump;") ∈ LW := tw2 (i := 52) rfl rfl
theorem q294 : (Jvm.Cond.laysFinal "LongYear" "LongYear" "text" "LLongYear$Reader;") ∈ LW := tw2 (i := 54) rfl rfl
theorem q296 : (Jvm.Cond.laysFinal "LongYear" "LongYear" "trials" "LLongYear$Trials;") ∈ LW := tw2 (i := 56) rfl rfl
theorem q298 : (Jvm.Cond.laysFinal "LongYear" "LongYear" "letters" "[I") ∈ LW := tw2 (i := 58) rfl rfl
theorem q300 : (Jvm.Cond.lays "LongYear" "LongYear" "keptImages" "I") ∈ LW := tw2 (i := 60) rfl rfl
theorem q302 : (Jvm.Cond.lays "LongYear" "LongYear" "bads" "I") ∈ LW := tw2 (i := 62) rfl rfl
theorem q304 : (Jvm.Cond.lays "LongYear" "LongYear" "noes" "I") ∈ LW := tw2 (i := 64) rfl rfl
theorem q306 : (Jvm.Cond.lays "LongYear" "LongYear" "fulls" "I") ∈ LW := tw2 (i := 66) rfl rfl
theorem q308 : (Jvm.Cond.lays "LongYear" "LongYear" "above" "J") ∈ LW := tw2 (i := 68) rfl rfl
theorem q310 : (Jvm.Cond.lays "LongYear" "LongYear" "below" "J") ∈ LW := tw2 (i := 70) rfl rfl
theorem q312 : (Jvm.Cond.superclass "LongYear" "java/lang/Object") ∈ LW := tw2 (i := 72) rfl rfl
theorem q313 : (Jvm.Cond.methodLink "LongYearLaw" (32 : Nat) ({ cls := "LongYear", name := "store", desc := "(II)I" } : Jvm.MethodName)) ∈ LW := tw2 (i := 73) rfl rfl
theorem q314 : (Jvm.Cond.instanceMethod ({ cls := "LongYear", name := "store", desc := "(II)I" } : Jvm.MethodName)) ∈ LW := tw2 (i := 74) rfl rfl
theorem q315 : (Jvm.Cond.selects "LongYear" ({ cls := "LongYear", name := "store", desc := "(II)I" } : Jvm.MethodName) ({ cls := "LongYear", name := "store", desc := "(II)I" } : Jvm.MethodName)) ∈ LW := tw2 (i := 75) rfl rfl
theorem q316 : (Jvm.Cond.code ({ cls := "LongYear", name := "store", desc := "(II)I" } : Jvm.MethodName) prog_1_method_3_code (4 : Nat) (Option.some Jvm.ClassFile.FieldType.int)) ∈ LW := tw2 (i := 76) rfl rfl
theorem q317 : (Jvm.Cond.methodLink "LongYear" (64 : Nat) ({ cls := "LongYear", name := "within", desc := "(III)Z" } : Jvm.MethodName)) ∈ LW := tw2 (i := 77) rfl rfl
theorem q318 : (Jvm.Cond.static ({ cls := "LongYear", name := "within", desc := "(III)Z" } : Jvm.MethodName)) ∈ LW := tw2 (i := 78) rfl rfl
theorem q319 : (Jvm.Cond.code ({ cls := "LongYear", name := "within", desc := "(III)Z" } : Jvm.MethodName) prog_1_method_48_code (3 : Nat) (Option.some Jvm.ClassFile.FieldType.boolean)) ∈ LW := tw2 (i := 79) rfl rfl
theorem q320 : (Jvm.Cond.methodLink "LongYear" (68 : Nat) ({ cls := "LongYear", name := "refuseBad", desc := "(I)I" } : Jvm.MethodName)) ∈ LW := tw2 (i := 80) rfl rfl
theorem q322 : (Jvm.Cond.instanceMethod ({ cls := "LongYear", name := "refuseBad", desc := "(I)I" } : Jvm.MethodName)) ∈ LW := tw2 (i := 82) rfl rfl
theorem q323 : (Jvm.Cond.code ({ cls := "LongYear", name := "refuseBad", desc := "(I)I" } : Jvm.MethodName) prog_1_method_39_code (2 : Nat) (Option.some Jvm.ClassFile.FieldType.int)) ∈ LW := tw2 (i := 83) rfl rfl
theorem q324 : (Jvm.Cond.methodLink "LongYear" (86 : Nat) ({ cls := "LongYear$Farm", name := "stock", desc := "(I)I" } : Jvm.MethodName)) ∈ LW := tw2 (i := 84) rfl rfl
theorem q325 : (Jvm.Cond.instanceMethod ({ cls := "LongYear$Farm", name := "stock", desc := "(I)I" } : Jvm.MethodName)) ∈ LW := tw2 (i := 85) rfl rfl
theorem q326 : (Jvm.Cond.selects "LongYear$Farm" ({ cls := "LongYear$Farm", name := "stock", desc := "(I)I" } : Jvm.MethodName) ({ cls := "LongYear$Farm", name := "stock", desc := "(I)I" } : Jvm.MethodName)) ∈ LW := tw2 (i := 86) rfl rfl
theorem q327 : (Jvm.Cond.code ({ cls := "LongYear$Farm", name := "stock", desc := "(I)I" } : Jvm.MethodName) prog_4_method_8_code (2 : Nat) (Option.some Jvm.ClassFile.FieldType.int)) ∈ LW := tw2 (i := 87) rfl rfl
theorem q328 : (Jvm.Cond.methodLink "LongYear" (89 : Nat) ({ cls := "LongYear$Farm", name := "restock", desc := "(II)V" } : Jvm.MethodName)) ∈ LW := tw2 (i := 88) rfl rfl
theorem q329 : (Jvm.Cond.instanceMethod ({ cls := "LongYear$Farm", name := "restock", desc := "(II)V" } : Jvm.MethodName)) ∈ LW := tw2 (i := 89) rfl rfl
theorem q330 : (Jvm.Cond.selects "LongYear$Farm" ({ cls := "LongYear$Farm", name := "restock", desc := "(II)V" } : Jvm.MethodName) ({ cls := "LongYear$Farm", name := "restock", desc := "(II)V" } : Jvm.MethodName)) ∈ LW := tw2 (i := 90) rfl rfl
theorem q331 : (Jvm.Cond.code ({ cls := "LongYear$Farm", name := "restock", desc := "(II)V" } : Jvm.MethodName) prog_4_method_9_code (3 : Nat) (Option.none : Option Jvm.ClassFile.FieldType)) ∈ LW := tw2 (i := 91) rfl rfl
theorem q332 : (Jvm.Cond.methodLink "LongYearLaw" (50 : Nat) ({ cls := "LongYear", name := "job", desc := "(II)I" } : Jvm.MethodName)) ∈ LW := tw2 (i := 92) rfl rfl
theorem q333 : (Jvm.Cond.instanceMethod ({ cls := "LongYear", name := "job", desc := "(II)I" } : Jvm.MethodName)) ∈ LW := tw2 (i := 93) rfl rfl
theorem q334 : (Jvm.Cond.selects "LongYear" ({ cls := "LongYear", name := "job", desc := "(II)I" } : Jvm.MethodName) ({ cls := "LongYear", name := "job", desc := "(II)I" } : Jvm.MethodName)) ∈ LW := tw2 (i := 94) rfl rfl
theorem q335 : (Jvm.Cond.code ({ cls := "LongYear", name := "job", desc := "(II)I" } : Jvm.MethodName) prog_1_method_5_code (5 : Nat) (Option.some Jvm.ClassFile.FieldType.int)) ∈ LW := tw2 (i := 95) rfl rfl
theorem q336 : (Jvm.Cond.methodLink "LongYear" (104 : Nat) ({ cls := "LongYear", name := "isFamily", desc := "(I)Z" } : Jvm.MethodName)) ∈ LW := tw2 (i := 96) rfl rfl
theorem q338 : (Jvm.Cond.instanceMethod ({ cls := "LongYear", name := "isFamily", desc := "(I)Z" } : Jvm.MethodName)) ∈ LW := tw2 (i := 98) rfl rfl
theorem q339 : (Jvm.Cond.code ({ cls := "LongYear", name := "isFamily", desc := "(I)Z" } : Jvm.MethodName) prog_1_method_42_code (2 : Nat) (Option.some Jvm.ClassFile.FieldType.boolean)) ∈ LW := tw2 (i := 99) rfl rfl
theorem q340 : (Jvm.Cond.methodLink "LongYear" (108 : Nat) ({ cls := "LongYear$Farm", name := "member", desc := "(I)LLongYear$Family;" } : Jvm.MethodName)) ∈ LW := tw2 (i := 100) rfl rfl
theorem q341 : (Jvm.Cond.instanceMethod ({ cls := "LongYear$Farm", name := "member", desc := "(I)LLongYear$Family;" } : Jvm.MethodName)) ∈ LW := tw2 (i := 101) rfl rfl
theorem q342 : (Jvm.Cond.selects "LongYear$Farm" ({ cls := "LongYear$Farm", name := "member", desc := "(I)LLongYear$Family;" } : Jvm.MethodName) ({ cls := "LongYear$Farm", name := "member", desc := "(I)LLongYear$Family;" } : Jvm.MethodName)) ∈ LW := tw2 (i := 102) rfl rfl
theorem q343 : (Jvm.Cond.code ({ cls := "LongYear$Farm", name := "member", desc := "(I)LLongYear$Family;" } : Jvm.MethodName) prog_4_method_6_code (3 : Nat) (Option.some (Jvm.ClassFile.FieldType.object "LongYear$Family"))) ∈ LW := tw2 (i := 103) rfl rfl
theorem q344 : (Jvm.Cond.methodLink "LongYearLaw" (72 : Nat) ({ cls := "LongYear", name := "pass", desc := "(I)I" } : Jvm.MethodName)) ∈ LW := tw2 (i := 104) rfl rfl
theorem q345 : (Jvm.Cond.instanceMethod ({ cls := "LongYear", name := "pass", desc := "(I)I" } : Jvm.MethodName)) ∈ LW := tw2 (i := 105) rfl rfl
theorem q346 : (Jvm.Cond.selects "LongYear" ({ cls := "LongYear", name := "pass", desc := "(I)I" } : Jvm.MethodName) ({ cls := "LongYear", name := "pass", desc := "(I)I" } : Jvm.MethodName)) ∈ LW := tw2 (i := 106) rfl rfl
theorem q347 : (Jvm.Cond.code ({ cls := "LongYear", name := "pass", desc := "(I)I" } : Jvm.MethodName) prog_1_method_9_code (4 : Nat) (Option.some Jvm.ClassFile.FieldType.int)) ∈ LW := tw2 (i := 107) rfl rfl
theorem q348 : (Jvm.Cond.methodLink "LongYear" (129 : Nat) ({ cls := "LongYear$Lump", name := "goBy", desc := "()I" } : Jvm.MethodName)) ∈ LW := tw2 (i := 108) rfl rfl
theorem q349 : (Jvm.Cond.instanceMethod ({ cls := "LongYear$Lump", name := "goBy", desc := "()I" } : Jvm.MethodName)) ∈ LW := tw2 (i := 109) rfl rfl
theorem q350 : (Jvm.Cond.selects "LongYear$Lump" ({ cls := "LongYear$Lump", name := "goBy", desc := "()I" } : Jvm.MethodName) ({ cls := "LongYear$Lump", name := "goBy", desc := "()I" } : Jvm.MethodName)) ∈ LW := tw2 (i := 110) rfl rfl
theorem q351 : (Jvm.Cond.code ({ cls := "LongYear$Lump", name := "goBy", desc := "()I" } : Jvm.MethodName) prog_7_method_4_code (2 : Nat) (Option.some Jvm.ClassFile.FieldType.int)) ∈ LW := tw2 (i := 111) rfl rfl
theorem q353 : (Jvm.Cond.static ({ cls := "LongYear", name := "leftOver", desc := "(II)I" } : Jvm.MethodName)) ∈ LW := tw2 (i := 113) rfl rfl
theorem q354 : (Jvm.Cond.code ({ cls := "LongYear", name := "leftOver", desc := "(II)I" } : Jvm.MethodName) prog_1_method_49_code (2 : Nat) (Option.some Jvm.ClassFile.FieldType.int)) ∈ LW := tw2 (i := 114) rfl rfl
theorem q355 : (Jvm.Cond.methodLink "LongYear$Lump" (59 : Nat) ({ cls := "java/lang/Math", name := "min", desc := "(II)I" } : Jvm.MethodName)) ∈ LW := tw2 (i := 115) rfl rfl
theorem q356 : (Jvm.Cond.static ({ cls := "java/lang/Math", name := "min", desc := "(II)I" } : Jvm.MethodName)) ∈ LW := tw2 (i := 116) rfl rfl
theorem q357 : (Jvm.Cond.code ({ cls := "java/lang/Math", name := "min", desc := "(II)I" } : Jvm.MethodName) prog_16_method_69_code (2 : Nat) (Option.some Jvm.ClassFile.FieldType.int)) ∈ LW := tw2 (i := 117) rfl rfl
theorem q359 : (Jvm.Cond.static ({ cls := "LongYear", name := "farmAt", desc := "([LLongYear$Farm;I)LLongYear$Farm;" } : Jvm.MethodName)) ∈ LW := tw2 (i := 119) rfl rfl
theorem q360 : (Jvm.Cond.code ({ cls := "LongYear", name := "farmAt", desc := "([LLongYear$Farm;I)LLongYear$Farm;" } : Jvm.MethodName) prog_1_method_57_code (2 : Nat) (Option.some (Jvm.ClassFile.FieldType.object "LongYear$Farm"))) ∈ LW := tw2 (i := 120) rfl rfl
theorem q361 : (Jvm.Cond.methodLink "LongYear$Lump" (41 : Nat) ({ cls := "LongYear$Farm", name := "setTo", desc := "(LLongYear$Farm;)V" } : Jvm.MethodName)) ∈ LW := tw2 (i := 121) rfl rfl
theorem q362 : (Jvm.Cond.instanceMethod ({ cls := "LongYear$Farm", name := "setTo", desc := "(LLongYear$Farm;)V" } : Jvm.MethodName)) ∈ LW := tw2 (i := 122) rfl rfl
theorem q363 : (Jvm.Cond.selects "LongYear$Farm" ({ cls := "LongYear$Farm", name := "setTo", desc := "(LLongYear$Farm;)V" } : Jvm.MethodName) ({ cls := "LongYear$Farm", name := "setTo", desc := "(LLongYear$Farm;)V" } : Jvm.MethodName)) ∈ LW := tw2 (i := 123) rfl rfl
theorem q364 : (Jvm.Cond.code ({ cls := "LongYear$Farm", name := "setTo", desc := "(LLongYear$Farm;)V" } : Jvm.MethodName) prog_4_method_3_code (3 : Nat) (Option.none : Option Jvm.ClassFile.FieldType)) ∈ LW := tw2 (i := 124) rfl rfl
theorem q365 : (Jvm.Cond.methodLink "LongYear$Farm" (63 : Nat) ({ cls := "LongYear$Farm", name := "member", desc := "(I)LLongYear$Family;" } : Jvm.MethodName)) ∈ LW := tw2 (i := 125) rfl rfl
theorem q366 : (Jvm.Cond.methodLink "LongYear$Farm" (67 : Nat) ({ cls := "LongYear$Family", name := "setTo", desc := "(LLongYear$Family;)V" } : Jvm.MethodName)) ∈ LW := tw2 (i := 126) rfl rfl
theorem q367 : (Jvm.Cond.instanceMethod ({ cls := "LongYear$Family", name := "setTo", desc := "(LLongYear$Family;)V" } : Jvm.MethodName)) ∈ LW := tw2 (i := 127) rfl rfl
theorem q368 : (Jvm.Cond.selects "LongYear$Family" ({ cls := "LongYear$Family", name := "setTo", desc := "(LLongYear$Family;)V" } : Jvm.MethodName) ({ cls := "LongYear$Family", name := "setTo", desc := "(LLongYear$Family;)V" } : Jvm.MethodName)) ∈ LW := tw2 (i := 128) rfl rfl
theorem q369 : (Jvm.Cond.code ({ cls := "LongYear$Family", name := "setTo", desc := "(LLongYear$Family;)V" } : Jvm.MethodName) prog_3_method_2_code (2 : Nat) (Option.none : Option Jvm.ClassFile.FieldType)) ∈ LW := tw2 (i := 129) rfl rfl
theorem q370 : (Jvm.Cond.methodLink "LongYear$Farm" (71 : Nat) ({ cls := "LongYear$Farm", name := "setTimeTo", desc := "(LLongYear$Farm;)V" } : Jvm.MethodName)) ∈ LW := tw2 (i := 130) rfl rfl
theorem q372 : (Jvm.Cond.instanceMethod ({ cls := "LongYear$Farm", name := "setTimeTo", desc := "(LLongYear$Farm;)V" } : Jvm.MethodName)) ∈ LW := tw2 (i := 132) rfl rfl
theorem q373 : (Jvm.Cond.code ({ cls := "LongYear$Farm", name := "setTimeTo", desc := "(LLongYear$Farm;)V" } : Jvm.MethodName) prog_4_method_5_code (2 : Nat) (Option.none : Option Jvm.ClassFile.FieldType)) ∈ LW := tw2 (i := 133) rfl rfl
theorem q374 : (Jvm.Cond.methodLink "LongYear$Lump" (64 : Nat) ({ cls := "LongYear$Farm", name := "goBy", desc := "(Z)I" } : Jvm.MethodName)) ∈ LW := tw2 (i := 134) rfl rfl
theorem q375 : (Jvm.Cond.instanceMethod ({ cls := "LongYear$Farm", name := "goBy", desc := "(Z)I" } : Jvm.MethodName)) ∈ LW := tw2 (i := 135) rfl rfl
theorem q376 : (Jvm.Cond.selects "LongYear$Farm" ({ cls := "LongYear$Farm", name := "goBy", desc := "(Z)I" } : Jvm.MethodName) ({ cls := "LongYear$Farm", name := "goBy", desc := "(Z)I" } : Jvm.MethodName)) ∈ LW := tw2 (i := 136) rfl rfl
theorem q377 : (Jvm.Cond.code ({ cls := "LongYear$Farm", name := "goBy", desc := "(Z)I" } : Jvm.MethodName) prog_4_method_14_code (4 : Nat) (Option.some Jvm.ClassFile.FieldType.int)) ∈ LW := tw2 (i := 137) rfl rfl
theorem q378 : (Jvm.Cond.methodLink "LongYear$Farm" (94 : Nat) ({ cls := "LongYear$Farm", name := "isNoon", desc := "(I)Z" } : Jvm.MethodName)) ∈ LW := tw2 (i := 138) rfl rfl
theorem q379 : (Jvm.Cond.instanceMethod ({ cls := "LongYear$Farm", name := "isNoon", desc := "(I)Z" } : Jvm.MethodName)) ∈ LW := tw2 (i := 139) rfl rfl
theorem q380 : (Jvm.Cond.selects "LongYear$Farm" ({ cls := "LongYear$Farm", name := "isNoon", desc := "(I)Z" } : Jvm.MethodName) ({ cls := "LongYear$Farm", name := "isNoon", desc := "(I)Z" } : Jvm.MethodName)) ∈ LW := tw2 (i := 140) rfl rfl
theorem q381 : (Jvm.Cond.code ({ cls := "LongYear$Farm", name := "isNoon", desc := "(I)Z" } : Jvm.MethodName) prog_4_method_10_code (2 : Nat) (Option.some Jvm.ClassFile.FieldType.boolean)) ∈ LW := tw2 (i := 141) rfl rfl
theorem q383 : (Jvm.Cond.methodLink "LongYear$Farm" (103 : Nat) ({ cls := "LongYear$Farm", name := "sown", desc := "()I" } : Jvm.MethodName)) ∈ LW := tw2 (i := 143) rfl rfl
theorem q384 : (Jvm.Cond.instanceMethod ({ cls := "LongYear$Farm", name := "sown", desc := "()I" } : Jvm.MethodName)) ∈ LW := tw2 (i := 144) rfl rfl
theorem q385 : (Jvm.Cond.selects "LongYear$Farm" ({ cls := "LongYear$Farm", name := "sown", desc := "()I" } : Jvm.MethodName) ({ cls := "LongYear$Farm", name := "sown", desc := "()I" } : Jvm.MethodName)) ∈ LW := tw2 (i := 145) rfl rfl
theorem q386 : (Jvm.Cond.code ({ cls := "LongYear$Farm", name := "sown", desc := "()I" } : Jvm.MethodName) prog_4_method_13_code (4 : Nat) (Option.some Jvm.ClassFile.FieldType.int)) ∈ LW := tw2 (i := 146) rfl rfl
theorem q387 : (Jvm.Cond.methodLink "LongYear$Farm" (98 : Nat) ({ cls := "java/lang/Math", name := "min", desc := "(II)I" } : Jvm.MethodName)) ∈ LW := tw2 (i := 147) rfl rfl
theorem q388 : (Jvm.Cond.methodLink "LongYear$Farm" (107 : Nat) ({ cls := "LongYear$Farm", name := "harvest", desc := "(I)V" } : Jvm.MethodName)) ∈ LW := tw2 (i := 148) rfl rfl
theorem q390 : (Jvm.Cond.instanceMethod ({ cls := "LongYear$Farm", name := "harvest", desc := "(I)V" } : Jvm.MethodName)) ∈ LW := tw2 (i := 150) rfl rfl
theorem q391 : (Jvm.Cond.code ({ cls := "LongYear$Farm", name := "harvest", desc := "(I)V" } : Jvm.MethodName) prog_4_method_15_code (2 : Nat) (Option.none : Option Jvm.ClassFile.FieldType)) ∈ LW := tw2 (i := 151) rfl rfl
theorem q393 : (Jvm.Cond.static ({ cls := "LongYear", name := "stored", desc := "(I)I" } : Jvm.MethodName)) ∈ LW := tw2 (i := 153) rfl rfl
theorem q394 : (Jvm.Cond.code ({ cls := "LongYear", name := "stored", desc := "(I)I" } : Jvm.MethodName) prog_1_method_50_code (1 : Nat) (Option.some Jvm.ClassFile.FieldType.int)) ∈ LW := tw2 (i := 154) rfl rfl
theorem q395 : (Jvm.Cond.methodLink "LongYear" (340 : Nat) ({ cls := "java/lang/Math", name := "min", desc := "(II)I" } : Jvm.MethodName)) ∈ LW := tw2 (i := 155) rfl rfl
theorem q396 : (Jvm.Cond.methodLink "LongYear" (278 : Nat) ({ cls := "java/lang/Math", name := "max", desc := "(II)I" } : Jvm.MethodName)) ∈ LW := tw2 (i := 156) rfl rfl
theorem q397 : (Jvm.Cond.static ({ cls := "java/lang/Math", name := "max", desc := "(II)I" } : Jvm.MethodName)) ∈ LW := tw2 (i := 157) rfl rfl
theorem q398 : (Jvm.Cond.code ({ cls := "java/lang/Math", name := "max", desc := "(II)I" } : Jvm.MethodName) prog_16_method_65_code (2 : Nat) (Option.some Jvm.ClassFile.FieldType.int)) ∈ LW := tw2 (i := 158) rfl rfl
theorem q399 : (Jvm.Cond.methodLink "LongYear$Farm" (111 : Nat) ({ cls := "LongYear$Farm", name := "work", desc := "()V" } : Jvm.MethodName)) ∈ LW := tw2 (i := 159) rfl rfl
theorem q401 : (Jvm.Cond.instanceMethod ({ cls := "LongYear$Farm", name := "work", desc := "()V" } : Jvm.MethodName)) ∈ LW := tw2 (i := 161) rfl rfl
theorem q402 : (Jvm.Cond.code ({ cls := "LongYear$Farm", name := "work", desc := "()V" } : Jvm.MethodName) prog_4_method_16_code (3 : Nat) (Option.none : Option Jvm.ClassFile.FieldType)) ∈ LW := tw2 (i := 162) rfl rfl
theorem q403 : (Jvm.Cond.methodLink "LongYear$Farm" (134 : Nat) ({ cls := "LongYear$Farmers", name := "rests", desc := "(I)Z" } : Jvm.MethodName)) ∈ LW := tw2 (i := 163) rfl rfl
theorem q404 : (Jvm.Cond.instanceMethod ({ cls := "LongYear$Farmers", name := "rests", desc := "(I)Z" } : Jvm.MethodName)) ∈ LW := tw2 (i := 164) rfl rfl
theorem q405 : (Jvm.Cond.selects "LongYear$Farmers" ({ cls := "LongYear$Farmers", name := "rests", desc := "(I)Z" } : Jvm.MethodName) ({ cls := "LongYear$Farmers", name := "rests", desc := "(I)Z" } : Jvm.MethodName)) ∈ LW := tw2 (i := 165) rfl rfl
theorem q406 : (Jvm.Cond.sameMethod "LongYear$Farmers" "LongYear$Farmers" "rests" "(I)Z") ∈ LW := tw2 (i := 166) rfl rfl
theorem q407 : (Jvm.Cond.selects "LongYear$Keepers" ({ cls := "LongYear$Farmers", name := "rests", desc := "(I)Z" } : Jvm.MethodName) ({ cls := "LongYear$Farmers", name := "rests", desc := "(I)Z" } : Jvm.MethodName)) ∈ LW := tw2 (i := 167) rfl rfl
theorem q408 : (Jvm.Cond.selects "LongYear$Makers" ({ cls := "LongYear$Farmers", name := "rests", desc := "(I)Z" } : Jvm.MethodName) ({ cls := "LongYear$Farmers", name := "rests", desc := "(I)Z" } : Jvm.MethodName)) ∈ LW := tw2 (i := 168) rfl rfl
theorem q409 : (Jvm.Cond.selects "LongYear$Singers" ({ cls := "LongYear$Farmers", name := "rests", desc := "(I)Z" } : Jvm.MethodName) ({ cls := "LongYear$Farmers", name := "rests", desc := "(I)Z" } : Jvm.MethodName)) ∈ LW := tw2 (i := 169) rfl rfl
theorem q410 : (Jvm.Cond.selects "LongYear$Sleepers" ({ cls := "LongYear$Farmers", name := "rests", desc := "(I)Z" } : Jvm.MethodName) ({ cls := "LongYear$Sleepers", name := "rests", desc := "(I)Z" } : Jvm.MethodName)) ∈ LW := tw2 (i := 170) rfl rfl
theorem q411 : (Jvm.Cond.instanceMethod ({ cls := "LongYear$Sleepers", name := "rests", desc := "(I)Z" } : Jvm.MethodName)) ∈ LW := tw2 (i := 171) rfl rfl
theorem q412 : (Jvm.Cond.code ({ cls := "LongYear$Sleepers", name := "rests", desc := "(I)Z" } : Jvm.MethodName) prog_11_method_3_code (2 : Nat) (Option.some Jvm.ClassFile.FieldType.boolean)) ∈ LW := tw2 (i := 172) rfl rfl
theorem q413 : (Jvm.Cond.code ({ cls := "LongYear$Farmers", name := "rests", desc := "(I)Z" } : Jvm.MethodName) prog_5_method_7_code (2 : Nat) (Option.some Jvm.ClassFile.FieldType.boolean)) ∈ LW := tw2 (i := 173) rfl rfl
theorem q414 : (Jvm.Cond.methodLink "LongYear$Farm" (137 : Nat) ({ cls := "LongYear$Farm", name := "teach", desc := "(I)V" } : Jvm.MethodName)) ∈ LW := tw2 (i := 174) rfl rfl
theorem q416 : (Jvm.Cond.instanceMethod ({ cls := "LongYear$Farm", name := "teach", desc := "(I)V" } : Jvm.MethodName)) ∈ LW := tw2 (i := 176) rfl rfl
theorem q417 : (Jvm.Cond.code ({ cls := "LongYear$Farm", name := "teach", desc := "(I)V" } : Jvm.MethodName) prog_4_method_17_code (5 : Nat) (Option.none : Option Jvm.ClassFile.FieldType)) ∈ LW := tw2 (i := 177) rfl rfl
theorem q418 : (Jvm.Cond.methodLink "LongYear$Farm" (149 : Nat) ({ cls := "java/lang/Math", name := "max", desc := "(II)I" } : Jvm.MethodName)) ∈ LW := tw2 (i := 178) rfl rfl
theorem q419 : (Jvm.Cond.methodLink "LongYear$Farm" (140 : Nat) ({ cls := "LongYear$Farmers", name := "makes", desc := "()I" } : Jvm.MethodName)) ∈ LW := tw2 (i := 179) rfl rfl
theorem q420 : (Jvm.Cond.instanceMethod ({ cls := "LongYear$Farmers", name := "makes", desc := "()I" } : Jvm.MethodName)) ∈ LW := tw2 (i := 180) rfl rfl
theorem q421 : (Jvm.Cond.selects "LongYear$Farmers" ({ cls := "LongYear$Farmers", name := "makes", desc := "()I" } : Jvm.MethodName) ({ cls := "LongYear$Farmers", name := "makes", desc := "()I" } : Jvm.MethodName)) ∈ LW := tw2 (i := 181) rfl rfl
theorem q422 : (Jvm.Cond.sameMethod "LongYear$Farmers" "LongYear$Farmers" "makes" "()I") ∈ LW := tw2 (i := 182) rfl rfl
theorem q423 : (Jvm.Cond.selects "LongYear$Keepers" ({ cls := "LongYear$Farmers", name := "makes", desc := "()I" } : Jvm.MethodName) ({ cls := "LongYear$Farmers", name := "makes", desc := "()I" } : Jvm.MethodName)) ∈ LW := tw2 (i := 183) rfl rfl
theorem q424 : (Jvm.Cond.selects "LongYear$Makers" ({ cls := "LongYear$Farmers", name := "makes", desc := "()I" } : Jvm.MethodName) ({ cls := "LongYear$Makers", name := "makes", desc := "()I" } : Jvm.MethodName)) ∈ LW := tw2 (i := 184) rfl rfl
theorem q425 : (Jvm.Cond.instanceMethod ({ cls := "LongYear$Makers", name := "makes", desc := "()I" } : Jvm.MethodName)) ∈ LW := tw2 (i := 185) rfl rfl
theorem q426 : (Jvm.Cond.code ({ cls := "LongYear$Makers", name := "makes", desc := "()I" } : Jvm.MethodName) prog_8_method_2_code (1 : Nat) (Option.some Jvm.ClassFile.FieldType.int)) ∈ LW := tw2 (i := 186) rfl rfl
theorem q427 : (Jvm.Cond.methodLink "LongYear$Makers" (7 : Nat) ({ cls := "LongYear$Farmers", name := "makes", desc := "()I" } : Jvm.MethodName)) ∈ LW := tw2 (i := 187) rfl rfl
theorem q428 : (Jvm.Cond.selects "LongYear$Singers" ({ cls := "LongYear$Farmers", name := "makes", desc := "()I" } : Jvm.MethodName) ({ cls := "LongYear$Farmers", name := "makes", desc := "()I" } : Jvm.MethodName)) ∈ LW := tw2 (i := 188) rfl rfl
theorem q429 : (Jvm.Cond.selects "LongYear$Sleepers" ({ cls := "LongYear$Farmers", name := "makes", desc := "()I" } : Jvm.MethodName) ({ cls := "LongYear$Farmers", name := "makes", desc := "()I" } : Jvm.MethodName)) ∈ LW := tw2 (i := 189) rfl rfl
theorem q430 : (Jvm.Cond.code ({ cls := "LongYear$Farmers", name := "makes", desc := "()I" } : Jvm.MethodName) prog_5_method_2_code (1 : Nat) (Option.some Jvm.ClassFile.FieldType.int)) ∈ LW := tw2 (i := 190) rfl rfl
theorem q431 : (Jvm.Cond.methodLink "LongYear$Farm" (143 : Nat) ({ cls := "LongYear$Farmers", name := "tends", desc := "()I" } : Jvm.MethodName)) ∈ LW := tw2 (i := 191) rfl rfl
theorem q432 : (Jvm.Cond.instanceMethod ({ cls := "LongYear$Farmers", name := "tends", desc := "()I" } : Jvm.MethodName)) ∈ LW := tw2 (i := 192) rfl rfl
theorem q433 : (Jvm.Cond.selects "LongYear$Farmers" ({ cls := "LongYear$Farmers", name := "tends", desc := "()I" } : Jvm.MethodName) ({ cls := "LongYear$Farmers", name := "tends", desc := "()I" } : Jvm.MethodName)) ∈ LW := tw2 (i := 193) rfl rfl
theorem q434 : (Jvm.Cond.sameMethod "LongYear$Farmers" "LongYear$Farmers" "tends" "()I") ∈ LW := tw2 (i := 194) rfl rfl
theorem q435 : (Jvm.Cond.selects "LongYear$Keepers" ({ cls := "LongYear$Farmers", name := "tends", desc := "()I" } : Jvm.MethodName) ({ cls := "LongYear$Keepers", name := "tends", desc := "()I" } : Jvm.MethodName)) ∈ LW := tw2 (i := 195) rfl rfl
theorem q436 : (Jvm.Cond.instanceMethod ({ cls := "LongYear$Keepers", name := "tends", desc := "()I" } : Jvm.MethodName)) ∈ LW := tw2 (i := 196) rfl rfl
theorem q437 : (Jvm.Cond.code ({ cls := "LongYear$Keepers", name := "tends", desc := "()I" } : Jvm.MethodName) prog_6_method_2_code (1 : Nat) (Option.some Jvm.ClassFile.FieldType.int)) ∈ LW := tw2 (i := 197) rfl rfl
theorem q438 : (Jvm.Cond.methodLink "LongYear$Keepers" (7 : Nat) ({ cls := "LongYear$Farmers", name := "tends", desc := "()I" } : Jvm.MethodName)) ∈ LW := tw2 (i := 198) rfl rfl
theorem q439 : (Jvm.Cond.selects "LongYear$Makers" ({ cls := "LongYear$Farmers", name := "tends", desc := "()I" } : Jvm.MethodName) ({ cls := "LongYear$Farmers", name := "tends", desc := "()I" } : Jvm.MethodName)) ∈ LW := tw2 (i := 199) rfl rfl
theorem q440 : (Jvm.Cond.selects "LongYear$Singers" ({ cls := "LongYear$Farmers", name := "tends", desc := "()I" } : Jvm.MethodName) ({ cls := "LongYear$Singers", name := "tends", desc := "()I" } : Jvm.MethodName)) ∈ LW := tw2 (i := 200) rfl rfl
theorem q441 : (Jvm.Cond.instanceMethod ({ cls := "LongYear$Singers", name := "tends", desc := "()I" } : Jvm.MethodName)) ∈ LW := tw2 (i := 201) rfl rfl
theorem q442 : (Jvm.Cond.code ({ cls := "LongYear$Singers", name := "tends", desc := "()I" } : Jvm.MethodName) prog_10_method_2_code (1 : Nat) (Option.some Jvm.ClassFile.FieldType.int)) ∈ LW := tw2 (i := 202) rfl rfl
theorem q443 : (Jvm.Cond.methodLink "LongYear$Singers" (7 : Nat) ({ cls := "LongYear$Keepers", name := "tends", desc := "()I" } : Jvm.MethodName)) ∈ LW := tw2 (i := 203) rfl rfl
theorem q444 : (Jvm.Cond.selects "LongYear$Sleepers" ({ cls := "LongYear$Farmers", name := "tends", desc := "()I" } : Jvm.MethodName) ({ cls := "LongYear$Farmers", name := "tends", desc := "()I" } : Jvm.MethodName)) ∈ LW := tw2 (i := 204) rfl rfl
theorem q445 : (Jvm.Cond.code ({ cls := "LongYear$Farmers", name := "tends", desc := "()I" } : Jvm.MethodName) prog_5_method_3_code (1 : Nat) (Option.some Jvm.ClassFile.FieldType.int)) ∈ LW := tw2 (i := 205) rfl rfl
theorem q446 : (Jvm.Cond.methodLink "LongYear$Farm" (146 : Nat) ({ cls := "LongYear$Farmers", name := "digs", desc := "()I" } : Jvm.MethodName)) ∈ LW := tw2 (i := 206) rfl rfl
theorem q447 : (Jvm.Cond.instanceMethod ({ cls := "LongYear$Farmers", name := "digs", desc := "()I" } : Jvm.MethodName)) ∈ LW := tw2 (i := 207) rfl rfl
theorem q448 : (Jvm.Cond.selects "LongYear$Farmers" ({ cls := "LongYear$Farmers", name := "digs", desc := "()I" } : Jvm.MethodName) ({ cls := "LongYear$Farmers", name := "digs", desc := "()I" } : Jvm.MethodName)) ∈ LW := tw2 (i := 208) rfl rfl
theorem q449 : (Jvm.Cond.sameMethod "LongYear$Farmers" "LongYear$Farmers" "digs" "()I") ∈ LW := tw2 (i := 209) rfl rfl
theorem q450 : (Jvm.Cond.selects "LongYear$Keepers" ({ cls := "LongYear$Farmers", name := "digs", desc := "()I" } : Jvm.MethodName) ({ cls := "LongYear$Farmers", name := "digs", desc := "()I" } : Jvm.MethodName)) ∈ LW := tw2 (i := 210) rfl rfl
theorem q451 : (Jvm.Cond.selects "LongYear$Makers" ({ cls := "LongYear$Farmers", name := "digs", desc := "()I" } : Jvm.MethodName) ({ cls := "LongYear$Farmers", name := "digs", desc := "()I" } : Jvm.MethodName)) ∈ LW := tw2 (i := 211) rfl rfl
theorem q452 : (Jvm.Cond.selects "LongYear$Singers" ({ cls := "LongYear$Farmers", name := "digs", desc := "()I" } : Jvm.MethodName) ({ cls := "LongYear$Farmers", name := "digs", desc := "()I" } : Jvm.MethodName)) ∈ LW := tw2 (i := 212) rfl rfl
theorem q453 : (Jvm.Cond.selects "LongYear$Sleepers" ({ cls := "LongYear$Farmers", name := "digs", desc := "()I" } : Jvm.MethodName) ({ cls := "LongYear$Farmers", name := "digs", desc := "()I" } : Jvm.MethodName)) ∈ LW := tw2 (i := 213) rfl rfl
theorem q454 : (Jvm.Cond.code ({ cls := "LongYear$Farmers", name := "digs", desc := "()I" } : Jvm.MethodName) prog_5_method_4_code (1 : Nat) (Option.some Jvm.ClassFile.FieldType.int)) ∈ LW := tw2 (i := 214) rfl rfl
theorem q455 : (Jvm.Cond.methodLink "LongYear$Farm" (114 : Nat) ({ cls := "LongYear$Farm", name := "feed", desc := "(Z)I" } : Jvm.MethodName)) ∈ LW := tw2 (i := 215) rfl rfl
theorem q457 : (Jvm.Cond.instanceMethod ({ cls := "LongYear$Farm", name := "feed", desc := "(Z)I" } : Jvm.MethodName)) ∈ LW := tw2 (i := 217) rfl rfl
theorem q458 : (Jvm.Cond.code ({ cls := "LongYear$Farm", name := "feed", desc := "(Z)I" } : Jvm.MethodName) prog_4_method_18_code (4 : Nat) (Option.some Jvm.ClassFile.FieldType.int)) ∈ LW := tw2 (i := 218) rfl rfl
theorem q459 : (Jvm.Cond.methodLink "LongYear$Farm" (152 : Nat) ({ cls := "LongYear$Family", name := "needs", desc := "(Z)I" } : Jvm.MethodName)) ∈ LW := tw2 (i := 219) rfl rfl
theorem q460 : (Jvm.Cond.instanceMethod ({ cls := "LongYear$Family", name := "needs", desc := "(Z)I" } : Jvm.MethodName)) ∈ LW := tw2 (i := 220) rfl rfl
theorem q461 : (Jvm.Cond.selects "LongYear$Family" ({ cls := "LongYear$Family", name := "needs", desc := "(Z)I" } : Jvm.MethodName) ({ cls := "LongYear$Family", name := "needs", desc := "(Z)I" } : Jvm.MethodName)) ∈ LW := tw2 (i := 221) rfl rfl
theorem q462 : (Jvm.Cond.code ({ cls := "LongYear$Family", name := "needs", desc := "(Z)I" } : Jvm.MethodName) prog_3_method_3_code (2 : Nat) (Option.some Jvm.ClassFile.FieldType.int)) ∈ LW := tw2 (i := 222) rfl rfl
theorem q463 : (Jvm.Cond.methodLink "LongYear$Family" (26 : Nat) ({ cls := "LongYear$Farmers", name := "meal", desc := "(IZ)I" } : Jvm.MethodName)) ∈ LW := tw2 (i := 223) rfl rfl
theorem q464 : (Jvm.Cond.instanceMethod ({ cls := "LongYear$Farmers", name := "meal", desc := "(IZ)I" } : Jvm.MethodName)) ∈ LW := tw2 (i := 224) rfl rfl
theorem q465 : (Jvm.Cond.selects "LongYear$Farmers" ({ cls := "LongYear$Farmers", name := "meal", desc := "(IZ)I" } : Jvm.MethodName) ({ cls := "LongYear$Farmers", name := "meal", desc := "(IZ)I" } : Jvm.MethodName)) ∈ LW := tw2 (i := 225) rfl rfl
theorem q466 : (Jvm.Cond.sameMethod "LongYear$Farmers" "LongYear$Farmers" "meal" "(IZ)I") ∈ LW := tw2 (i := 226) rfl rfl
theorem q467 : (Jvm.Cond.selects "LongYear$Keepers" ({ cls := "LongYear$Farmers", name := "meal", desc := "(IZ)I" } : Jvm.MethodName) ({ cls := "LongYear$Farmers", name := "meal", desc := "(IZ)I" } : Jvm.MethodName)) ∈ LW := tw2 (i := 227) rfl rfl
theorem q468 : (Jvm.Cond.selects "LongYear$Makers" ({ cls := "LongYear$Farmers", name := "meal", desc := "(IZ)I" } : Jvm.MethodName) ({ cls := "LongYear$Makers", name := "meal", desc := "(IZ)I" } : Jvm.MethodName)) ∈ LW := tw2 (i := 228) rfl rfl
theorem q469 : (Jvm.Cond.instanceMethod ({ cls := "LongYear$Makers", name := "meal", desc := "(IZ)I" } : Jvm.MethodName)) ∈ LW := tw2 (i := 229) rfl rfl
theorem q470 : (Jvm.Cond.code ({ cls := "LongYear$Makers", name := "meal", desc := "(IZ)I" } : Jvm.MethodName) prog_8_method_3_code (3 : Nat) (Option.some Jvm.ClassFile.FieldType.int)) ∈ LW := tw2 (i := 230) rfl rfl
theorem q471 : (Jvm.Cond.methodLink "LongYear$Makers" (11 : Nat) ({ cls := "LongYear$Farmers", name := "meal", desc := "(IZ)I" } : Jvm.MethodName)) ∈ LW := tw2 (i := 231) rfl rfl
theorem q472 : (Jvm.Cond.selects "LongYear$Singers" ({ cls := "LongYear$Farmers", name := "meal", desc := "(IZ)I" } : Jvm.MethodName) ({ cls := "LongYear$Farmers", name := "meal", desc := "(IZ)I" } : Jvm.MethodName)) ∈ LW := tw2 (i := 232) rfl rfl
theorem q473 : (Jvm.Cond.selects "LongYear$Sleepers" ({ cls := "LongYear$Farmers", name := "meal", desc := "(IZ)I" } : Jvm.MethodName) ({ cls := "LongYear$Sleepers", name := "meal", desc := "(IZ)I" } : Jvm.MethodName)) ∈ LW := tw2 (i := 233) rfl rfl
theorem q474 : (Jvm.Cond.instanceMethod ({ cls := "LongYear$Sleepers", name := "meal", desc := "(IZ)I" } : Jvm.MethodName)) ∈ LW := tw2 (i := 234) rfl rfl
theorem q475 : (Jvm.Cond.code ({ cls := "LongYear$Sleepers", name := "meal", desc := "(IZ)I" } : Jvm.MethodName) prog_11_method_2_code (4 : Nat) (Option.some Jvm.ClassFile.FieldType.int)) ∈ LW := tw2 (i := 235) rfl rfl
theorem q476 : (Jvm.Cond.methodLink "LongYear$Sleepers" (7 : Nat) ({ cls := "LongYear$Farmers", name := "meal", desc := "(IZ)I" } : Jvm.MethodName)) ∈ LW := tw2 (i := 236) rfl rfl
theorem q477 : (Jvm.Cond.code ({ cls := "LongYear$Farmers", name := "meal", desc := "(IZ)I" } : Jvm.MethodName) prog_5_method_5_code (3 : Nat) (Option.some Jvm.ClassFile.FieldType.int)) ∈ LW := tw2 (i := 237) rfl rfl
theorem q478 : (Jvm.Cond.methodLink "LongYear$Farm" (118 : Nat) ({ cls := "LongYear$Farm", name := "remember", desc := "()V" } : Jvm.MethodName)) ∈ LW := tw2 (i := 238) rfl rfl
theorem q480 : (Jvm.Cond.instanceMethod ({ cls := "LongYear$Farm", name := "remember", desc := "()V" } : Jvm.MethodName)) ∈ LW := tw3 (i := 0) rfl rfl
theorem q481 : (Jvm.Cond.code ({ cls := "LongYear$Farm", name := "remember", desc := "()V" } : Jvm.MethodName) prog_4_method_22_code (2 : Nat) (Option.none : Option Jvm.ClassFile.FieldType)) ∈ LW := tw3 (i := 1) rfl rfl
theorem q482 : (Jvm.Cond.methodLink "LongYear$Farm" (121 : Nat) ({ cls := "LongYear$Farm", name := "warm", desc := "()V" } : Jvm.MethodName)) ∈ LW := tw3 (i := 2) rfl rfl
theorem q484 : (Jvm.Cond.instanceMethod ({ cls := "LongYear$Farm", name := "warm", desc := "()V" } : Jvm.MethodName)) ∈ LW := tw3 (i := 4) rfl rfl
theorem q485 : (Jvm.Cond.code ({ cls := "LongYear$Farm", name := "warm", desc := "()V" } : Jvm.MethodName) prog_4_method_19_code (3 : Nat) (Option.none : Option Jvm.ClassFile.FieldType)) ∈ LW := tw3 (i := 5) rfl rfl
theorem q486 : (Jvm.Cond.methodLink "LongYear$Farm" (124 : Nat) ({ cls := "LongYear$Farm", name := "lose", desc := "()V" } : Jvm.MethodName)) ∈ LW := tw3 (i := 6) rfl rfl
theorem q488 : (Jvm.Cond.instanceMethod ({ cls := "LongYear$Farm", name := "lose", desc := "()V" } : Jvm.MethodName)) ∈ LW := tw3 (i := 8) rfl rfl
theorem q489 : (Jvm.Cond.code ({ cls := "LongYear$Farm", name := "lose", desc := "()V" } : Jvm.MethodName) prog_4_method_20_code (1 : Nat) (Option.none : Option Jvm.ClassFile.FieldType)) ∈ LW := tw3 (i := 9) rfl rfl
theorem q490 : (Jvm.Cond.methodLink "LongYear$Farm" (127 : Nat) ({ cls := "LongYear$Farm", name := "forget", desc := "()V" } : Jvm.MethodName)) ∈ LW := tw3 (i := 10) rfl rfl
theorem q492 : (Jvm.Cond.instanceMethod ({ cls := "LongYear$Farm", name := "forget", desc := "()V" } : Jvm.MethodName)) ∈ LW := tw3 (i := 12) rfl rfl
theorem q493 : (Jvm.Cond.code ({ cls := "LongYear$Farm", name := "forget", desc := "()V" } : Jvm.MethodName) prog_4_method_21_code (3 : Nat) (Option.none : Option Jvm.ClassFile.FieldType)) ∈ LW := tw3 (i := 13) rfl rfl
theorem q494 : (Jvm.Cond.methodLink "LongYear$Farm" (155 : Nat) ({ cls := "LongYear$Farmers", name := "forgets", desc := "()I" } : Jvm.MethodName)) ∈ LW := tw3 (i := 14) rfl rfl
theorem q495 : (Jvm.Cond.instanceMethod ({ cls := "LongYear$Farmers", name := "forgets", desc := "()I" } : Jvm.MethodName)) ∈ LW := tw3 (i := 15) rfl rfl
theorem q496 : (Jvm.Cond.selects "LongYear$Farmers" ({ cls := "LongYear$Farmers", name := "forgets", desc := "()I" } : Jvm.MethodName) ({ cls := "LongYear$Farmers", name := "forgets", desc := "()I" } : Jvm.MethodName)) ∈ LW := tw3 (i := 16) rfl rfl
theorem q497 : (Jvm.Cond.sameMethod "LongYear$Farmers" "LongYear$Farmers" "forgets" "()I") ∈ LW := tw3 (i := 17) rfl rfl
theorem q498 : (Jvm.Cond.selects "LongYear$Keepers" ({ cls := "LongYear$Farmers", name := "forgets", desc := "()I" } : Jvm.MethodName) ({ cls := "LongYear$Farmers", name := "forgets", desc := "()I" } : Jvm.MethodName)) ∈ LW := tw3 (i := 18) rfl rfl
theorem q499 : (Jvm.Cond.selects "LongYear$Makers" ({ cls := "LongYear$Farmers", name := "forgets", desc := "()I" } : Jvm.MethodName) ({ cls := "LongYear$Farmers", name := "forgets", desc := "()I" } : Jvm.MethodName)) ∈ LW := tw3 (i := 19) rfl rfl
theorem q500 : (Jvm.Cond.selects "LongYear$Singers" ({ cls := "LongYear$Farmers", name := "forgets", desc := "()I" } : Jvm.MethodName) ({ cls := "LongYear$Singers", name := "forgets", desc := "()I" } : Jvm.MethodName)) ∈ LW := tw3 (i := 20) rfl rfl
theorem q501 : (Jvm.Cond.instanceMethod ({ cls := "LongYear$Singers", name := "forgets", desc := "()I" } : Jvm.MethodName)) ∈ LW := tw3 (i := 21) rfl rfl
theorem q502 : (Jvm.Cond.code ({ cls := "LongYear$Singers", name := "forgets", desc := "()I" } : Jvm.MethodName) prog_10_method_3_code (1 : Nat) (Option.some Jvm.ClassFile.FieldType.int)) ∈ LW := tw3 (i := 22) rfl rfl
theorem q503 : (Jvm.Cond.selects "LongYear$Sleepers" ({ cls := "LongYear$Farmers", name := "forgets", desc := "()I" } : Jvm.MethodName) ({ cls := "LongYear$Farmers", name := "forgets", desc := "()I" } : Jvm.MethodName)) ∈ LW := tw3 (i := 23) rfl rfl
theorem q504 : (Jvm.Cond.code ({ cls := "LongYear$Farmers", name := "forgets", desc := "()I" } : Jvm.MethodName) prog_5_method_6_code (1 : Nat) (Option.some Jvm.ClassFile.FieldType.int)) ∈ LW := tw3 (i := 24) rfl rfl
theorem q505 : (Jvm.Cond.methodLink "LongYearLaw" (101 : Nat) ({ cls := "LongYear", name := "undo", desc := "()I" } : Jvm.MethodName)) ∈ LW := tw3 (i := 25) rfl rfl
theorem q506 : (Jvm.Cond.instanceMethod ({ cls := "LongYear", name := "undo", desc := "()I" } : Jvm.MethodName)) ∈ LW := tw3 (i := 26) rfl rfl
theorem q507 : (Jvm.Cond.selects "LongYear" ({ cls := "LongYear", name := "undo", desc := "()I" } : Jvm.MethodName) ({ cls := "LongYear", name := "undo", desc := "()I" } : Jvm.MethodName)) ∈ LW := tw3 (i := 27) rfl rfl
theorem q508 : (Jvm.Cond.code ({ cls := "LongYear", name := "undo", desc := "()I" } : Jvm.MethodName) prog_1_method_10_code (1 : Nat) (Option.some Jvm.ClassFile.FieldType.int)) ∈ LW := tw3 (i := 28) rfl rfl
theorem q509 : (Jvm.Cond.methodLink "LongYear" (132 : Nat) ({ cls := "LongYear$Lump", name := "goBack", desc := "()Z" } : Jvm.MethodName)) ∈ LW := tw3 (i := 29) rfl rfl
theorem q510 : (Jvm.Cond.instanceMethod ({ cls := "LongYear$Lump", name := "goBack", desc := "()Z" } : Jvm.MethodName)) ∈ LW := tw3 (i := 30) rfl rfl
theorem q511 : (Jvm.Cond.selects "LongYear$Lump" ({ cls := "LongYear$Lump", name := "goBack", desc := "()Z" } : Jvm.MethodName) ({ cls := "LongYear$Lump", name := "goBack", desc := "()Z" } : Jvm.MethodName)) ∈ LW := tw3 (i := 31) rfl rfl
theorem q512 : (Jvm.Cond.code ({ cls := "LongYear$Lump", name := "goBack", desc := "()Z" } : Jvm.MethodName) prog_7_method_5_code (2 : Nat) (Option.some Jvm.ClassFile.FieldType.boolean)) ∈ LW := tw3 (i := 32) rfl rfl
theorem q513 : (Jvm.Cond.methodLink "LongYear$Lump" (68 : Nat) ({ cls := "LongYear$Farm", name := "goBackTo", desc := "(LLongYear$Farm;)V" } : Jvm.MethodName)) ∈ LW := tw3 (i := 33) rfl rfl
theorem q514 : (Jvm.Cond.instanceMethod ({ cls := "LongYear$Farm", name := "goBackTo", desc := "(LLongYear$Farm;)V" } : Jvm.MethodName)) ∈ LW := tw3 (i := 34) rfl rfl
theorem q515 : (Jvm.Cond.selects "LongYear$Farm" ({ cls := "LongYear$Farm", name := "goBackTo", desc := "(LLongYear$Farm;)V" } : Jvm.MethodName) ({ cls := "LongYear$Farm", name := "goBackTo", desc := "(LLongYear$Farm;)V" } : Jvm.MethodName)) ∈ LW := tw3 (i := 35) rfl rfl
theorem q516 : (Jvm.Cond.code ({ cls := "LongYear$Farm", name := "goBackTo", desc := "(LLongYear$Farm;)V" } : Jvm.MethodName) prog_4_method_4_code (5 : Nat) (Option.none : Option Jvm.ClassFile.FieldType)) ∈ LW := tw3 (i := 36) rfl rfl
theorem q517 : (Jvm.Cond.methodLink "LongYear" (136 : Nat) ({ cls := "LongYear", name := "refuseNo", desc := "()I" } : Jvm.MethodName)) ∈ LW := tw3 (i := 37) rfl rfl
theorem q519 : (Jvm.Cond.instanceMethod ({ cls := "LongYear", name := "refuseNo", desc := "()I" } : Jvm.MethodName)) ∈ LW := tw3 (i := 39) rfl rfl
theorem q520 : (Jvm.Cond.code ({ cls := "LongYear", name := "refuseNo", desc := "()I" } : Jvm.MethodName) prog_1_method_40_code (1 : Nat) (Option.some Jvm.ClassFile.FieldType.int)) ∈ LW := tw3 (i := 40) rfl rfl
theorem q521 : (Jvm.Cond.methodLink "LongYearLaw" (78 : Nat) ({ cls := "LongYear", name := "about", desc := "(II)I" } : Jvm.MethodName)) ∈ LW := tw3 (i := 41) rfl rfl
theorem q522 : (Jvm.Cond.instanceMethod ({ cls := "LongYear", name := "about", desc := "(II)I" } : Jvm.MethodName)) ∈ LW := tw3 (i := 42) rfl rfl
theorem q523 : (Jvm.Cond.selects "LongYear" ({ cls := "LongYear", name := "about", desc := "(II)I" } : Jvm.MethodName) ({ cls := "LongYear", name := "about", desc := "(II)I" } : Jvm.MethodName)) ∈ LW := tw3 (i := 43) rfl rfl
theorem q524 : (Jvm.Cond.code ({ cls := "LongYear", name := "about", desc := "(II)I" } : Jvm.MethodName) prog_1_method_11_code (4 : Nat) (Option.some Jvm.ClassFile.FieldType.int)) ∈ LW := tw3 (i := 44) rfl rfl
theorem q525 : (Jvm.Cond.methodLink "LongYearLaw" (84 : Nat) ({ cls := "LongYear", name := "plan", desc := "(II)I" } : Jvm.MethodName)) ∈ LW := tw3 (i := 45) rfl rfl
theorem q526 : (Jvm.Cond.instanceMethod ({ cls := "LongYear", name := "plan", desc := "(II)I" } : Jvm.MethodName)) ∈ LW := tw3 (i := 46) rfl rfl
theorem q527 : (Jvm.Cond.selects "LongYear" ({ cls := "LongYear", name := "plan", desc := "(II)I" } : Jvm.MethodName) ({ cls := "LongYear", name := "plan", desc := "(II)I" } : Jvm.MethodName)) ∈ LW := tw3 (i := 47) rfl rfl
theorem q528 : (Jvm.Cond.code ({ cls := "LongYear", name := "plan", desc := "(II)I" } : Jvm.MethodName) prog_1_method_14_code (4 : Nat) (Option.some Jvm.ClassFile.FieldType.int)) ∈ LW := tw3 (i := 48) rfl rfl
theorem q529 : (Jvm.Cond.methodLink "LongYear" (158 : Nat) ({ cls := "LongYear$Trials", name := "bestPlan", desc := "(LLongYear$Farm;I)I" } : Jvm.MethodName)) ∈ LW := tw3 (i := 49) rfl rfl
theorem q530 : (Jvm.Cond.instanceMethod ({ cls := "LongYear$Trials", name := "bestPlan", desc := "(LLongYear$Farm;I)I" } : Jvm.MethodName)) ∈ LW := tw3 (i := 50) rfl rfl
theorem q531 : (Jvm.Cond.selects "LongYear$Trials" ({ cls := "LongYear$Trials", name := "bestPlan", desc := "(LLongYear$Farm;I)I" } : Jvm.MethodName) ({ cls := "LongYear$Trials", name := "bestPlan", desc := "(LLongYear$Farm;I)I" } : Jvm.MethodName)) ∈ LW := tw3 (i := 51) rfl rfl
theorem q532 : (Jvm.Cond.code ({ cls := "LongYear$Trials", name := "bestPlan", desc := "(LLongYear$Farm;I)I" } : Jvm.MethodName) prog_12_method_2_code (3 : Nat) (Option.some Jvm.ClassFile.FieldType.int)) ∈ LW := tw3 (i := 52) rfl rfl
theorem q533 : (Jvm.Cond.methodLink "LongYear$Trials" (41 : Nat) ({ cls := "LongYear$Trials", name := "planFrom", desc := "(LLongYear$Trials;LLongYear$Farm;II)V" } : Jvm.MethodName)) ∈ LW := tw3 (i := 53) rfl rfl
theorem q534 : (Jvm.Cond.static ({ cls := "LongYear$Trials", name := "planFrom", desc := "(LLongYear$Trials;LLongYear$Farm;II)V" } : Jvm.MethodName)) ∈ LW := tw3 (i := 54) rfl rfl
theorem q535 : (Jvm.Cond.code ({ cls := "LongYear$Trials", name := "planFrom", desc := "(LLongYear$Trials;LLongYear$Farm;II)V" } : Jvm.MethodName) prog_12_method_4_code (7 : Nat) (Option.none : Option Jvm.ClassFile.FieldType)) ∈ LW := tw3 (i := 55) rfl rfl
theorem q536 : (Jvm.Cond.methodLink "LongYear$Trials" (52 : Nat) ({ cls := "LongYear$Trials", name := "keepIfMost", desc := "(I)V" } : Jvm.MethodName)) ∈ LW := tw3 (i := 56) rfl rfl
theorem q538 : (Jvm.Cond.instanceMethod ({ cls := "LongYear$Trials", name := "keepIfMost", desc := "(I)V" } : Jvm.MethodName)) ∈ LW := tw3 (i := 58) rfl rfl
theorem q539 : (Jvm.Cond.code ({ cls := "LongYear$Trials", name := "keepIfMost", desc := "(I)V" } : Jvm.MethodName) prog_12_method_5_code (2 : Nat) (Option.none : Option Jvm.ClassFile.FieldType)) ∈ LW := tw3 (i := 59) rfl rfl
theorem q541 : (Jvm.Cond.static ({ cls := "LongYear", name := "copy", desc := "([I[I)V" } : Jvm.MethodName)) ∈ LW := tw3 (i := 61) rfl rfl
theorem q542 : (Jvm.Cond.code ({ cls := "LongYear", name := "copy", desc := "([I[I)V" } : Jvm.MethodName) prog_1_method_56_code (3 : Nat) (Option.none : Option Jvm.ClassFile.FieldType)) ∈ LW := tw3 (i := 62) rfl rfl
theorem q544 : (Jvm.Cond.methodLink "LongYear$Trials" (63 : Nat) ({ cls := "LongYear$Farm", name := "isNoon", desc := "(I)Z" } : Jvm.MethodName)) ∈ LW := tw3 (i := 64) rfl rfl
theorem q546 : (Jvm.Cond.static ({ cls := "LongYear", name := "put", desc := "([III)V" } : Jvm.MethodName)) ∈ LW := tw3 (i := 66) rfl rfl
theorem q547 : (Jvm.Cond.code ({ cls := "LongYear", name := "put", desc := "([III)V" } : Jvm.MethodName) prog_1_method_55_code (3 : Nat) (Option.none : Option Jvm.ClassFile.FieldType)) ∈ LW := tw3 (i := 67) rfl rfl
theorem q548 : (Jvm.Cond.methodLink "LongYear$Trials" (71 : Nat) ({ cls := "LongYear$Farm", name := "setTo", desc := "(LLongYear$Farm;)V" } : Jvm.MethodName)) ∈ LW := tw3 (i := 68) rfl rfl
theorem q549 : (Jvm.Cond.methodLink "LongYear$Trials" (75 : Nat) ({ cls := "LongYear$Farm", name := "allDo", desc := "(I)V" } : Jvm.MethodName)) ∈ LW := tw3 (i := 69) rfl rfl
theorem q550 : (Jvm.Cond.instanceMethod ({ cls := "LongYear$Farm", name := "allDo", desc := "(I)V" } : Jvm.MethodName)) ∈ LW := tw3 (i := 70) rfl rfl
theorem q551 : (Jvm.Cond.selects "LongYear$Farm" ({ cls := "LongYear$Farm", name := "allDo", desc := "(I)V" } : Jvm.MethodName) ({ cls := "LongYear$Farm", name := "allDo", desc := "(I)V" } : Jvm.MethodName)) ∈ LW := tw3 (i := 71) rfl rfl
theorem q552 : (Jvm.Cond.code ({ cls := "LongYear$Farm", name := "allDo", desc := "(I)V" } : Jvm.MethodName) prog_4_method_23_code (3 : Nat) (Option.none : Option Jvm.ClassFile.FieldType)) ∈ LW := tw3 (i := 72) rfl rfl
theorem q553 : (Jvm.Cond.methodLink "LongYear$Trials" (78 : Nat) ({ cls := "LongYear$Farm", name := "goBy", desc := "(Z)I" } : Jvm.MethodName)) ∈ LW := tw3 (i := 73) rfl rfl
theorem q554 : (Jvm.Cond.methodLink "LongYear" (162 : Nat) ({ cls := "LongYear$Trials", name := "plannedJob", desc := "(I)I" } : Jvm.MethodName)) ∈ LW := tw3 (i := 74) rfl rfl
theorem q555 : (Jvm.Cond.instanceMethod ({ cls := "LongYear$Trials", name := "plannedJob", desc := "(I)I" } : Jvm.MethodName)) ∈ LW := tw3 (i := 75) rfl rfl
theorem q556 : (Jvm.Cond.selects "LongYear$Trials" ({ cls := "LongYear$Trials", name := "plannedJob", desc := "(I)I" } : Jvm.MethodName) ({ cls := "LongYear$Trials", name := "plannedJob", desc := "(I)I" } : Jvm.MethodName)) ∈ LW := tw3 (i := 76) rfl rfl
theorem q557 : (Jvm.Cond.code ({ cls := "LongYear$Trials", name := "plannedJob", desc := "(I)I" } : Jvm.MethodName) prog_12_method_3_code (2 : Nat) (Option.some Jvm.ClassFile.FieldType.int)) ∈ LW := tw3 (i := 77) rfl rfl
theorem q559 : (Jvm.Cond.static ({ cls := "LongYear", name := "at", desc := "([II)I" } : Jvm.MethodName)) ∈ LW := tw3 (i := 79) rfl rfl
theorem q560 : (Jvm.Cond.code ({ cls := "LongYear", name := "at", desc := "([II)I" } : Jvm.MethodName) prog_1_method_54_code (2 : Nat) (Option.some Jvm.ClassFile.FieldType.int)) ∈ LW := tw3 (i := 80) rfl rfl
theorem q561 : (Jvm.Cond.methodLink "LongYearLaw" (63 : Nat) ({ cls := "LongYear", name := "want", desc := "(I)I" } : Jvm.MethodName)) ∈ LW := tw3 (i := 81) rfl rfl
theorem q562 : (Jvm.Cond.instanceMethod ({ cls := "LongYear", name := "want", desc := "(I)I" } : Jvm.MethodName)) ∈ LW := tw3 (i := 82) rfl rfl
theorem q563 : (Jvm.Cond.selects "LongYear" ({ cls := "LongYear", name := "want", desc := "(I)I" } : Jvm.MethodName) ({ cls := "LongYear", name := "want", desc := "(I)I" } : Jvm.MethodName)) ∈ LW := tw3 (i := 83) rfl rfl
theorem q564 : (Jvm.Cond.code ({ cls := "LongYear", name := "want", desc := "(I)I" } : Jvm.MethodName) prog_1_method_15_code (2 : Nat) (Option.some Jvm.ClassFile.FieldType.int)) ∈ LW := tw3 (i := 84) rfl rfl
theorem q565 : (Jvm.Cond.methodLink "LongYear" (168 : Nat) ({ cls := "LongYear$Trials", name := "firstWant", desc := "(LLongYear$Farm;II)I" } : Jvm.MethodName)) ∈ LW := tw3 (i := 85) rfl rfl
theorem q566 : (Jvm.Cond.instanceMethod ({ cls := "LongYear$Trials", name := "firstWant", desc := "(LLongYear$Farm;II)I" } : Jvm.MethodName)) ∈ LW := tw3 (i := 86) rfl rfl
theorem q567 : (Jvm.Cond.selects "LongYear$Trials" ({ cls := "LongYear$Trials", name := "firstWant", desc := "(LLongYear$Farm;II)I" } : Jvm.MethodName) ({ cls := "LongYear$Trials", name := "firstWant", desc := "(LLongYear$Farm;II)I" } : Jvm.MethodName)) ∈ LW := tw3 (i := 87) rfl rfl
theorem q568 : (Jvm.Cond.code ({ cls := "LongYear$Trials", name := "firstWant", desc := "(LLongYear$Farm;II)I" } : Jvm.MethodName) prog_12_method_6_code (5 : Nat) (Option.some Jvm.ClassFile.FieldType.int)) ∈ LW := tw3 (i := 88) rfl rfl
theorem q569 : (Jvm.Cond.methodLink "LongYearLaw" (66 : Nat) ({ cls := "LongYear", name := "held", desc := "(I)I" } : Jvm.MethodName)) ∈ LW := tw3 (i := 89) rfl rfl
theorem q570 : (Jvm.Cond.instanceMethod ({ cls := "LongYear", name := "held", desc := "(I)I" } : Jvm.MethodName)) ∈ LW := tw3 (i := 90) rfl rfl
theorem q571 : (Jvm.Cond.selects "LongYear" ({ cls := "LongYear", name := "held", desc := "(I)I" } : Jvm.MethodName) ({ cls := "LongYear", name := "held", desc := "(I)I" } : Jvm.MethodName)) ∈ LW := tw3 (i := 91) rfl rfl
theorem q572 : (Jvm.Cond.code ({ cls := "LongYear", name := "held", desc := "(I)I" } : Jvm.MethodName) prog_1_method_16_code (2 : Nat) (Option.some Jvm.ClassFile.FieldType.int)) ∈ LW := tw3 (i := 92) rfl rfl
theorem q573 : (Jvm.Cond.methodLink "LongYear" (172 : Nat) ({ cls := "LongYear$Trials", name := "leastHeld", desc := "(LLongYear$Farm;I)I" } : Jvm.MethodName)) ∈ LW := tw3 (i := 93) rfl rfl
theorem q574 : (Jvm.Cond.instanceMethod ({ cls := "LongYear$Trials", name := "leastHeld", desc := "(LLongYear$Farm;I)I" } : Jvm.MethodName)) ∈ LW := tw3 (i := 94) rfl rfl
theorem q575 : (Jvm.Cond.selects "LongYear$Trials" ({ cls := "LongYear$Trials", name := "leastHeld", desc := "(LLongYear$Farm;I)I" } : Jvm.MethodName) ({ cls := "LongYear$Trials", name := "leastHeld", desc := "(LLongYear$Farm;I)I" } : Jvm.MethodName)) ∈ LW := tw3 (i := 95) rfl rfl
theorem q576 : (Jvm.Cond.code ({ cls := "LongYear$Trials", name := "leastHeld", desc := "(LLongYear$Farm;I)I" } : Jvm.MethodName) prog_12_method_7_code (7 : Nat) (Option.some Jvm.ClassFile.FieldType.int)) ∈ LW := tw3 (i := 96) rfl rfl
theorem q577 : (Jvm.Cond.methodLink "LongYear$Trials" (86 : Nat) ({ cls := "LongYear$Trials", name := "firstWant", desc := "(LLongYear$Farm;II)I" } : Jvm.MethodName)) ∈ LW := tw3 (i := 97) rfl rfl
theorem q578 : (Jvm.Cond.methodLink "LongYearLaw" (69 : Nat) ({ cls := "LongYear", name := "teachers", desc := "(I)I" } : Jvm.MethodName)) ∈ LW := tw3 (i := 98) rfl rfl
theorem q579 : (Jvm.Cond.instanceMethod ({ cls := "LongYear", name := "teachers", desc := "(I)I" } : Jvm.MethodName)) ∈ LW := tw3 (i := 99) rfl rfl
theorem q580 : (Jvm.Cond.selects "LongYear" ({ cls := "LongYear", name := "teachers", desc := "(I)I" } : Jvm.MethodName) ({ cls := "LongYear", name := "teachers", desc := "(I)I" } : Jvm.MethodName)) ∈ LW := tw3 (i := 100) rfl rfl
theorem q581 : (Jvm.Cond.code ({ cls := "LongYear", name := "teachers", desc := "(I)I" } : Jvm.MethodName) prog_1_method_18_code (2 : Nat) (Option.some Jvm.ClassFile.FieldType.int)) ∈ LW := tw3 (i := 101) rfl rfl
theorem q582 : (Jvm.Cond.methodLink "LongYear" (188 : Nat) ({ cls := "LongYear$Trials", name := "fewestTeachers", desc := "(LLongYear$Farm;I)I" } : Jvm.MethodName)) ∈ LW := tw3 (i := 102) rfl rfl
theorem q583 : (Jvm.Cond.instanceMethod ({ cls := "LongYear$Trials", name := "fewestTeachers", desc := "(LLongYear$Farm;I)I" } : Jvm.MethodName)) ∈ LW := tw3 (i := 103) rfl rfl
theorem q584 : (Jvm.Cond.selects "LongYear$Trials" ({ cls := "LongYear$Trials", name := "fewestTeachers", desc := "(LLongYear$Farm;I)I" } : Jvm.MethodName) ({ cls := "LongYear$Trials", name := "fewestTeachers", desc := "(LLongYear$Farm;I)I" } : Jvm.MethodName)) ∈ LW := tw3 (i := 104) rfl rfl
theorem q585 : (Jvm.Cond.code ({ cls := "LongYear$Trials", name := "fewestTeachers", desc := "(LLongYear$Farm;I)I" } : Jvm.MethodName) prog_12_method_10_code (5 : Nat) (Option.some Jvm.ClassFile.FieldType.int)) ∈ LW := tw3 (i := 105) rfl rfl
theorem q586 : (Jvm.Cond.methodLink "LongYear$Trials" (97 : Nat) ({ cls := "java/lang/Integer", name := "bitCount", desc := "(I)I" } : Jvm.MethodName)) ∈ LW := tw3 (i := 106) rfl rfl
theorem q587 : (Jvm.Cond.static ({ cls := "java/lang/Integer", name := "bitCount", desc := "(I)I" } : Jvm.MethodName)) ∈ LW := tw3 (i := 107) rfl rfl
theorem q588 : (Jvm.Cond.code ({ cls := "java/lang/Integer", name := "bitCount", desc := "(I)I" } : Jvm.MethodName) prog_15_method_49_code (1 : Nat) (Option.some Jvm.ClassFile.FieldType.int)) ∈ LW := tw3 (i := 108) rfl rfl
theorem q589 : (Jvm.Cond.constant "java/lang/Integer" (265 : Nat) (1431655765 : Int32)) ∈ LW := tw3 (i := 109) rfl rfl
theorem q590 : (Jvm.Cond.constant "java/lang/Integer" (266 : Nat) (858993459 : Int32)) ∈ LW := tw3 (i := 110) rfl rfl
theorem q591 : (Jvm.Cond.constant "java/lang/Integer" (267 : Nat) (252645135 : Int32)) ∈ LW := tw3 (i := 111) rfl rfl
theorem q592 : (Jvm.Cond.methodLink "LongYear$Trials" (103 : Nat) ({ cls := "LongYear$Trials", name := "keepsMemory", desc := "(LLongYear$Farm;II)Z" } : Jvm.MethodName)) ∈ LW := tw3 (i := 112) rfl rfl
theorem q594 : (Jvm.Cond.instanceMethod ({ cls := "LongYear$Trials", name := "keepsMemory", desc := "(LLongYear$Farm;II)Z" } : Jvm.MethodName)) ∈ LW := tw3 (i := 114) rfl rfl
theorem q595 : (Jvm.Cond.code ({ cls := "LongYear$Trials", name := "keepsMemory", desc := "(LLongYear$Farm;II)Z" } : Jvm.MethodName) prog_12_method_11_code (5 : Nat) (Option.some Jvm.ClassFile.FieldType.boolean)) ∈ LW := tw3 (i := 115) rfl rfl
theorem q596 : (Jvm.Cond.methodLink "LongYear$Trials" (107 : Nat) ({ cls := "LongYear$Farm", name := "onlyTeach", desc := "(I)V" } : Jvm.MethodName)) ∈ LW := tw3 (i := 116) rfl rfl
theorem q597 : (Jvm.Cond.instanceMethod ({ cls := "LongYear$Farm", name := "onlyTeach", desc := "(I)V" } : Jvm.MethodName)) ∈ LW := tw3 (i := 117) rfl rfl
theorem q598 : (Jvm.Cond.selects "LongYear$Farm" ({ cls := "LongYear$Farm", name := "onlyTeach", desc := "(I)V" } : Jvm.MethodName) ({ cls := "LongYear$Farm", name := "onlyTeach", desc := "(I)V" } : Jvm.MethodName)) ∈ LW := tw3 (i := 118) rfl rfl
theorem q599 : (Jvm.Cond.code ({ cls := "LongYear$Farm", name := "onlyTeach", desc := "(I)V" } : Jvm.MethodName) prog_4_method_24_code (4 : Nat) (Option.none : Option Jvm.ClassFile.FieldType)) ∈ LW := tw3 (i := 119) rfl rfl
theorem q600 : (Jvm.Cond.methodLink "LongYear$Trials" (110 : Nat) ({ cls := "LongYear$Farm", name := "allKnow", desc := "()Z" } : Jvm.MethodName)) ∈ LW := tw3 (i := 120) rfl rfl
theorem q601 : (Jvm.Cond.instanceMethod ({ cls := "LongYear$Farm", name := "allKnow", desc := "()Z" } : Jvm.MethodName)) ∈ LW := tw3 (i := 121) rfl rfl
theorem q602 : (Jvm.Cond.selects "LongYear$Farm" ({ cls := "LongYear$Farm", name := "allKnow", desc := "()Z" } : Jvm.MethodName) ({ cls := "LongYear$Farm", name := "allKnow", desc := "()Z" } : Jvm.MethodName)) ∈ LW := tw3 (i := 122) rfl rfl
theorem q603 : (Jvm.Cond.code ({ cls := "LongYear$Farm", name := "allKnow", desc := "()Z" } : Jvm.MethodName) prog_4_method_25_code (2 : Nat) (Option.some Jvm.ClassFile.FieldType.boolean)) ∈ LW := tw3 (i := 123) rfl rfl
theorem q604 : (Jvm.Cond.methodLink "LongYearLaw" (87 : Nat) ({ cls := "LongYear", name := "debt", desc := "(III)I" } : Jvm.MethodName)) ∈ LW := tw3 (i := 124) rfl rfl
theorem q605 : (Jvm.Cond.instanceMethod ({ cls := "LongYear", name := "debt", desc := "(III)I" } : Jvm.MethodName)) ∈ LW := tw3 (i := 125) rfl rfl
theorem q606 : (Jvm.Cond.selects "LongYear" ({ cls := "LongYear", name := "debt", desc := "(III)I" } : Jvm.MethodName) ({ cls := "LongYear", name := "debt", desc := "(III)I" } : Jvm.MethodName)) ∈ LW := tw3 (i := 126) rfl rfl
theorem q607 : (Jvm.Cond.code ({ cls := "LongYear", name := "debt", desc := "(III)I" } : Jvm.MethodName) prog_1_method_19_code (4 : Nat) (Option.some Jvm.ClassFile.FieldType.int)) ∈ LW := tw3 (i := 127) rfl rfl
theorem q608 : (Jvm.Cond.methodLink "LongYear" (96 : Nat) ({ cls := "LongYear", name := "refuseFull", desc := "()I" } : Jvm.MethodName)) ∈ LW := tw3 (i := 128) rfl rfl
theorem q610 : (Jvm.Cond.instanceMethod ({ cls := "LongYear", name := "refuseFull", desc := "()I" } : Jvm.MethodName)) ∈ LW := tw3 (i := 130) rfl rfl
theorem q611 : (Jvm.Cond.code ({ cls := "LongYear", name := "refuseFull", desc := "()I" } : Jvm.MethodName) prog_1_method_41_code (1 : Nat) (Option.some Jvm.ClassFile.FieldType.int)) ∈ LW := tw3 (i := 131) rfl rfl
theorem q612 : (Jvm.Cond.methodLink "LongYear" (200 : Nat) ({ cls := "LongYear$Books", name := "addDebt", desc := "(III)I" } : Jvm.MethodName)) ∈ LW := tw3 (i := 132) rfl rfl
theorem q613 : (Jvm.Cond.instanceMethod ({ cls := "LongYear$Books", name := "addDebt", desc := "(III)I" } : Jvm.MethodName)) ∈ LW := tw3 (i := 133) rfl rfl
theorem q614 : (Jvm.Cond.selects "LongYear$Books" ({ cls := "LongYear$Books", name := "addDebt", desc := "(III)I" } : Jvm.MethodName) ({ cls := "LongYear$Books", name := "addDebt", desc := "(III)I" } : Jvm.MethodName)) ∈ LW := tw3 (i := 134) rfl rfl
theorem q615 : (Jvm.Cond.code ({ cls := "LongYear$Books", name := "addDebt", desc := "(III)I" } : Jvm.MethodName) prog_2_method_6_code (4 : Nat) (Option.some Jvm.ClassFile.FieldType.int)) ∈ LW := tw3 (i := 135) rfl rfl
theorem q617 : (Jvm.Cond.methodLink "LongYearLaw" (90 : Nat) ({ cls := "LongYear", name := "net", desc := "(I)I" } : Jvm.MethodName)) ∈ LW := tw3 (i := 137) rfl rfl
theorem q618 : (Jvm.Cond.instanceMethod ({ cls := "LongYear", name := "net", desc := "(I)I" } : Jvm.MethodName)) ∈ LW := tw3 (i := 138) rfl rfl
theorem q619 : (Jvm.Cond.selects "LongYear" ({ cls := "LongYear", name := "net", desc := "(I)I" } : Jvm.MethodName) ({ cls := "LongYear", name := "net", desc := "(I)I" } : Jvm.MethodName)) ∈ LW := tw3 (i := 139) rfl rfl
theorem q620 : (Jvm.Cond.code ({ cls := "LongYear", name := "net", desc := "(I)I" } : Jvm.MethodName) prog_1_method_21_code (2 : Nat) (Option.some Jvm.ClassFile.FieldType.int)) ∈ LW := tw3 (i := 140) rfl rfl
theorem q621 : (Jvm.Cond.constant "LongYear" (206 : Nat) (-100000 : Int32)) ∈ LW := tw3 (i := 141) rfl rfl
theorem q622 : (Jvm.Cond.methodLink "LongYear" (207 : Nat) ({ cls := "LongYear$Farm", name := "yearsToNoon", desc := "()I" } : Jvm.MethodName)) ∈ LW := tw3 (i := 142) rfl rfl
theorem q623 : (Jvm.Cond.instanceMethod ({ cls := "LongYear$Farm", name := "yearsToNoon", desc := "()I" } : Jvm.MethodName)) ∈ LW := tw3 (i := 143) rfl rfl
theorem q624 : (Jvm.Cond.selects "LongYear$Farm" ({ cls := "LongYear$Farm", name := "yearsToNoon", desc := "()I" } : Jvm.MethodName) ({ cls := "LongYear$Farm", name := "yearsToNoon", desc := "()I" } : Jvm.MethodName)) ∈ LW := tw3 (i := 144) rfl rfl
theorem q625 : (Jvm.Cond.code ({ cls := "LongYear$Farm", name := "yearsToNoon", desc := "()I" } : Jvm.MethodName) prog_4_method_11_code (1 : Nat) (Option.some Jvm.ClassFile.FieldType.int)) ∈ LW := tw3 (i := 145) rfl rfl
theorem q626 : (Jvm.Cond.methodLink "LongYear" (210 : Nat) ({ cls := "LongYear$Books", name := "balance", desc := "(II)I" } : Jvm.MethodName)) ∈ LW := tw3 (i := 146) rfl rfl
theorem q627 : (Jvm.Cond.instanceMethod ({ cls := "LongYear$Books", name := "balance", desc := "(II)I" } : Jvm.MethodName)) ∈ LW := tw3 (i := 147) rfl rfl
theorem q628 : (Jvm.Cond.selects "LongYear$Books" ({ cls := "LongYear$Books", name := "balance", desc := "(II)I" } : Jvm.MethodName) ({ cls := "LongYear$Books", name := "balance", desc := "(II)I" } : Jvm.MethodName)) ∈ LW := tw3 (i := 148) rfl rfl
theorem q629 : (Jvm.Cond.code ({ cls := "LongYear$Books", name := "balance", desc := "(II)I" } : Jvm.MethodName) prog_2_method_9_code (7 : Nat) (Option.some Jvm.ClassFile.FieldType.int)) ∈ LW := tw3 (i := 149) rfl rfl
theorem q631 : (Jvm.Cond.methodLink "LongYearLaw" (93 : Nat) ({ cls := "LongYear", name := "cleared", desc := "()I" } : Jvm.MethodName)) ∈ LW := tw3 (i := 151) rfl rfl
theorem q632 : (Jvm.Cond.instanceMethod ({ cls := "LongYear", name := "cleared", desc := "()I" } : Jvm.MethodName)) ∈ LW := tw3 (i := 152) rfl rfl
theorem q633 : (Jvm.Cond.selects "LongYear" ({ cls := "LongYear", name := "cleared", desc := "()I" } : Jvm.MethodName) ({ cls := "LongYear", name := "cleared", desc := "()I" } : Jvm.MethodName)) ∈ LW := tw3 (i := 153) rfl rfl
theorem q634 : (Jvm.Cond.code ({ cls := "LongYear", name := "cleared", desc := "()I" } : Jvm.MethodName) prog_1_method_22_code (1 : Nat) (Option.some Jvm.ClassFile.FieldType.int)) ∈ LW := tw3 (i := 154) rfl rfl
theorem q635 : (Jvm.Cond.methodLink "LongYear" (214 : Nat) ({ cls := "LongYear$Trials", name := "fewestPayments", desc := "(LLongYear$Lump;)I" } : Jvm.MethodName)) ∈ LW := tw3 (i := 155) rfl rfl
theorem q636 : (Jvm.Cond.instanceMethod ({ cls := "LongYear$Trials", name := "fewestPayments", desc := "(LLongYear$Lump;)I" } : Jvm.MethodName)) ∈ LW := tw3 (i := 156) rfl rfl
theorem q637 : (Jvm.Cond.selects "LongYear$Trials" ({ cls := "LongYear$Trials", name := "fewestPayments", desc := "(LLongYear$Lump;)I" } : Jvm.MethodName) ({ cls := "LongYear$Trials", name := "fewestPayments", desc := "(LLongYear$Lump;)I" } : Jvm.MethodName)) ∈ LW := tw3 (i := 157) rfl rfl
theorem q638 : (Jvm.Cond.code ({ cls := "LongYear$Trials", name := "fewestPayments", desc := "(LLongYear$Lump;)I" } : Jvm.MethodName) prog_12_method_12_code (7 : Nat) (Option.some Jvm.ClassFile.FieldType.int)) ∈ LW := tw3 (i := 158) rfl rfl
theorem q639 : (Jvm.Cond.methodLink "LongYear$Trials" (119 : Nat) ({ cls := "LongYear$Farm", name := "yearsToNoon", desc := "()I" } : Jvm.MethodName)) ∈ LW := tw3 (i := 159) rfl rfl
theorem q640 : (Jvm.Cond.methodLink "LongYear$Trials" (123 : Nat) ({ cls := "java/lang/Integer", name := "numberOfTrailingZeros", desc := "(I)I" } : Jvm.MethodName)) ∈ LW := tw3 (i := 160) rfl rfl
theorem q641 : (Jvm.Cond.static ({ cls := "java/lang/Integer", name := "numberOfTrailingZeros", desc := "(I)I" } : Jvm.MethodName)) ∈ LW := tw3 (i := 161) rfl rfl
theorem q642 : (Jvm.Cond.code ({ cls := "java/lang/Integer", name := "numberOfTrailingZeros", desc := "(I)I" } : Jvm.MethodName) prog_15_method_48_code (2 : Nat) (Option.some Jvm.ClassFile.FieldType.int)) ∈ LW := tw3 (i := 162) rfl rfl
theorem q643 : (Jvm.Cond.constant "java/lang/Integer" (264 : Nat) (65536 : Int32)) ∈ LW := tw3 (i := 163) rfl rfl
theorem q644 : (Jvm.Cond.methodLink "LongYear$Trials" (130 : Nat) ({ cls := "LongYear$Books", name := "balance", desc := "(II)I" } : Jvm.MethodName)) ∈ LW := tw3 (i := 164) rfl rfl
theorem q645 : (Jvm.Cond.methodLink "LongYear$Trials" (136 : Nat) ({ cls := "LongYear$Trials", name := "mostGroupsBelow", desc := "(II)I" } : Jvm.MethodName)) ∈ LW := tw3 (i := 165) rfl rfl
theorem q647 : (Jvm.Cond.instanceMethod ({ cls := "LongYear$Trials", name := "mostGroupsBelow", desc := "(II)I" } : Jvm.MethodName)) ∈ LW := tw3 (i := 167) rfl rfl
theorem q648 : (Jvm.Cond.code ({ cls := "LongYear$Trials", name := "mostGroupsBelow", desc := "(II)I" } : Jvm.MethodName) prog_12_method_13_code (5 : Nat) (Option.some Jvm.ClassFile.FieldType.int)) ∈ LW := tw3 (i := 168) rfl rfl
theorem q649 : (Jvm.Cond.methodLink "LongYear$Trials" (139 : Nat) ({ cls := "java/lang/Math", name := "max", desc := "(II)I" } : Jvm.MethodName)) ∈ LW := tw3 (i := 169) rfl rfl
theorem q650 : (Jvm.Cond.methodLink "LongYearLaw" (98 : Nat) ({ cls := "LongYear", name := "lots", desc := "(II)I" } : Jvm.MethodName)) ∈ LW := tw3 (i := 170) rfl rfl
theorem q651 : (Jvm.Cond.instanceMethod ({ cls := "LongYear", name := "lots", desc := "(II)I" } : Jvm.MethodName)) ∈ LW := tw3 (i := 171) rfl rfl
theorem q652 : (Jvm.Cond.selects "LongYear" ({ cls := "LongYear", name := "lots", desc := "(II)I" } : Jvm.MethodName) ({ cls := "LongYear", name := "lots", desc := "(II)I" } : Jvm.MethodName)) ∈ LW := tw3 (i := 172) rfl rfl
theorem q653 : (Jvm.Cond.code ({ cls := "LongYear", name := "lots", desc := "(II)I" } : Jvm.MethodName) prog_1_method_26_code (9 : Nat) (Option.some Jvm.ClassFile.FieldType.int)) ∈ LW := tw3 (i := 173) rfl rfl
theorem q654 : (Jvm.Cond.constant "LongYear" (235 : Nat) (999999 : Int32)) ∈ LW := tw3 (i := 174) rfl rfl
theorem q655 : (Jvm.Cond.constantLong "LongYear" (236 : Nat) (1103515245 : Int64)) ∈ LW := tw3 (i := 175) rfl rfl
theorem q656 : (Jvm.Cond.constantLong "LongYear" (238 : Nat) (12345 : Int64)) ∈ LW := tw3 (i := 176) rfl rfl
theorem q657 : (Jvm.Cond.constantLong "LongYear" (240 : Nat) (2147483648 : Int64)) ∈ LW := tw3 (i := 177) rfl rfl
theorem q658 : (Jvm.Cond.constantLong "LongYear" (242 : Nat) (65536 : Int64)) ∈ LW := tw3 (i := 178) rfl rfl
theorem q659 : (Jvm.Cond.methodLink "LongYear" (244 : Nat) ({ cls := "LongYear", name := "leftOver", desc := "(II)I" } : Jvm.MethodName)) ∈ LW := tw3 (i := 179) rfl rfl
theorem q660 : (Jvm.Cond.methodLink "LongYear" (247 : Nat) ({ cls := "LongYear", name := "undrawn", desc := "(III)I" } : Jvm.MethodName)) ∈ LW := tw3 (i := 180) rfl rfl
theorem q661 : (Jvm.Cond.static ({ cls := "LongYear", name := "undrawn", desc := "(III)I" } : Jvm.MethodName)) ∈ LW := tw3 (i := 181) rfl rfl
theorem q662 : (Jvm.Cond.code ({ cls := "LongYear", name := "undrawn", desc := "(III)I" } : Jvm.MethodName) prog_1_method_53_code (5 : Nat) (Option.some Jvm.ClassFile.FieldType.int)) ∈ LW := tw3 (i := 182) rfl rfl
theorem q663 : (Jvm.Cond.methodLink "LongYearLaw" (60 : Nat) ({ cls := "LongYear", name := "image", desc := "(I)I" } : Jvm.MethodName)) ∈ LW := tw3 (i := 183) rfl rfl
theorem q664 : (Jvm.Cond.instanceMethod ({ cls := "LongYear", name := "image", desc := "(I)I" } : Jvm.MethodName)) ∈ LW := tw3 (i := 184) rfl rfl
theorem q665 : (Jvm.Cond.selects "LongYear" ({ cls := "LongYear", name := "image", desc := "(I)I" } : Jvm.MethodName) ({ cls := "LongYear", name := "image", desc := "(I)I" } : Jvm.MethodName)) ∈ LW := tw3 (i := 185) rfl rfl
theorem q666 : (Jvm.Cond.code ({ cls := "LongYear", name := "image", desc := "(I)I" } : Jvm.MethodName) prog_1_method_34_code (2 : Nat) (Option.some Jvm.ClassFile.FieldType.int)) ∈ LW := tw3 (i := 186) rfl rfl
theorem q667 : (Jvm.Cond.methodLink "LongYear" (287 : Nat) ({ cls := "LongYear", name := "imageAt", desc := "(I)LLongYear$Lump;" } : Jvm.MethodName)) ∈ LW := tw3 (i := 187) rfl rfl
theorem q669 : (Jvm.Cond.instanceMethod ({ cls := "LongYear", name := "imageAt", desc := "(I)LLongYear$Lump;" } : Jvm.MethodName)) ∈ LW := tw3 (i := 189) rfl rfl
theorem q670 : (Jvm.Cond.code ({ cls := "LongYear", name := "imageAt", desc := "(I)LLongYear$Lump;" } : Jvm.MethodName) prog_1_method_44_code (2 : Nat) (Option.some (Jvm.ClassFile.FieldType.object "LongYear$Lump"))) ∈ LW := tw3 (i := 190) rfl rfl
theorem q671 : (Jvm.Cond.methodLink "LongYear" (125 : Nat) ({ cls := "LongYear$Lump", name := "setTo", desc := "(LLongYear$Lump;)V" } : Jvm.MethodName)) ∈ LW := tw3 (i := 191) rfl rfl
theorem q672 : (Jvm.Cond.instanceMethod ({ cls := "LongYear$Lump", name := "setTo", desc := "(LLongYear$Lump;)V" } : Jvm.MethodName)) ∈ LW := tw3 (i := 192) rfl rfl
theorem q673 : (Jvm.Cond.selects "LongYear$Lump" ({ cls := "LongYear$Lump", name := "setTo", desc := "(LLongYear$Lump;)V" } : Jvm.MethodName) ({ cls := "LongYear$Lump", name := "setTo", desc := "(LLongYear$Lump;)V" } : Jvm.MethodName)) ∈ LW := tw3 (i := 193) rfl rfl
theorem q674 : (Jvm.Cond.code ({ cls := "LongYear$Lump", name := "setTo", desc := "(LLongYear$Lump;)V" } : Jvm.MethodName) prog_7_method_3_code (5 : Nat) (Option.none : Option Jvm.ClassFile.FieldType)) ∈ LW := tw3 (i := 194) rfl rfl
theorem q675 : (Jvm.Cond.methodLink "LongYear$Lump" (45 : Nat) ({ cls := "LongYear$Books", name := "setTo", desc := "(LLongYear$Books;)V" } : Jvm.MethodName)) ∈ LW := tw3 (i := 195) rfl rfl
theorem q676 : (Jvm.Cond.instanceMethod ({ cls := "LongYear$Books", name := "setTo", desc := "(LLongYear$Books;)V" } : Jvm.MethodName)) ∈ LW := tw3 (i := 196) rfl rfl
theorem q677 : (Jvm.Cond.selects "LongYear$Books" ({ cls := "LongYear$Books", name := "setTo", desc := "(LLongYear$Books;)V" } : Jvm.MethodName) ({ cls := "LongYear$Books", name := "setTo", desc := "(LLongYear$Books;)V" } : Jvm.MethodName)) ∈ LW := tw3 (i := 197) rfl rfl
theorem q678 : (Jvm.Cond.code ({ cls := "LongYear$Books", name := "setTo", desc := "(LLongYear$Books;)V" } : Jvm.MethodName) prog_2_method_3_code (2 : Nat) (Option.none : Option Jvm.ClassFile.FieldType)) ∈ LW := tw3 (i := 198) rfl rfl
theorem q680 : (Jvm.Cond.methodLink "LongYearLaw" (81 : Nat) ({ cls := "LongYear", name := "from", desc := "(I)I" } : Jvm.MethodName)) ∈ LW := tw3 (i := 200) rfl rfl
theorem q681 : (Jvm.Cond.instanceMethod ({ cls := "LongYear", name := "from", desc := "(I)I" } : Jvm.MethodName)) ∈ LW := tw3 (i := 201) rfl rfl
theorem q682 : (Jvm.Cond.selects "LongYear" ({ cls := "LongYear", name := "from", desc := "(I)I" } : Jvm.MethodName) ({ cls := "LongYear", name := "from", desc := "(I)I" } : Jvm.MethodName)) ∈ LW := tw3 (i := 202) rfl rfl
theorem q683 : (Jvm.Cond.code ({ cls := "LongYear", name := "from", desc := "(I)I" } : Jvm.MethodName) prog_1_method_35_code (2 : Nat) (Option.some Jvm.ClassFile.FieldType.int)) ∈ LW := tw3 (i := 203) rfl rfl
theorem q684 : (Jvm.Cond.methodLink "LongYearLaw" (75 : Nat) ({ cls := "LongYear", name := "count", desc := "(I)I" } : Jvm.MethodName)) ∈ LW := tw3 (i := 204) rfl rfl
theorem q685 : (Jvm.Cond.instanceMethod ({ cls := "LongYear", name := "count", desc := "(I)I" } : Jvm.MethodName)) ∈ LW := tw3 (i := 205) rfl rfl
theorem q686 : (Jvm.Cond.selects "LongYear" ({ cls := "LongYear", name := "count", desc := "(I)I" } : Jvm.MethodName) ({ cls := "LongYear", name := "count", desc := "(I)I" } : Jvm.MethodName)) ∈ LW := tw3 (i := 206) rfl rfl
theorem q687 : (Jvm.Cond.code ({ cls := "LongYear", name := "count", desc := "(I)I" } : Jvm.MethodName) prog_1_method_37_code (2 : Nat) (Option.some Jvm.ClassFile.FieldType.int)) ∈ LW := tw3 (i := 207) rfl rfl
theorem q688 : (Jvm.Cond.methodLink "LongYear" (303 : Nat) ({ cls := "LongYear", name := "tally", desc := "(I)I" } : Jvm.MethodName)) ∈ LW := tw3 (i := 208) rfl rfl
theorem q690 : (Jvm.Cond.instanceMethod ({ cls := "LongYear", name := "tally", desc := "(I)I" } : Jvm.MethodName)) ∈ LW := tw3 (i := 210) rfl rfl
theorem q691 : (Jvm.Cond.code ({ cls := "LongYear", name := "tally", desc := "(I)I" } : Jvm.MethodName) prog_1_method_47_code (2 : Nat) (Option.some Jvm.ClassFile.FieldType.int)) ∈ LW := tw3 (i := 211) rfl rfl
theorem q692 : (Jvm.Cond.methodLink "LongYearLaw" (9 : Nat) ({ cls := "LongYearLaw", name := "cell", desc := "([II)I" } : Jvm.MethodName)) ∈ LW := tw3 (i := 212) rfl rfl
theorem q693 : (Jvm.Cond.static ({ cls := "LongYearLaw", name := "cell", desc := "([II)I" } : Jvm.MethodName)) ∈ LW := tw3 (i := 213) rfl rfl
theorem q694 : (Jvm.Cond.code ({ cls := "LongYearLaw", name := "cell", desc := "([II)I" } : Jvm.MethodName) method_2_code (2 : Nat) (Option.some Jvm.ClassFile.FieldType.int)) ∈ LW := tw3 (i := 214) rfl rfl
theorem q695 : (Jvm.Cond.constant "LongYearLaw" (7 : Nat) (1327217884 : Int32)) ∈ LW := tw3 (i := 215) rfl rfl
theorem q696 : (Jvm.Cond.methodLink "LongYearLaw" (15 : Nat) ({ cls := "LongYearLaw", name := "up", desc := "(II)I" } : Jvm.MethodName)) ∈ LW := tw3 (i := 216) rfl rfl
theorem q697 : (Jvm.Cond.static ({ cls := "LongYearLaw", name := "up", desc := "(II)I" } : Jvm.MethodName)) ∈ LW := tw3 (i := 217) rfl rfl
theorem q698 : (Jvm.Cond.code ({ cls := "LongYearLaw", name := "up", desc := "(II)I" } : Jvm.MethodName) method_3_code (2 : Nat) (Option.some Jvm.ClassFile.FieldType.int)) ∈ LW := tw3 (i := 218) rfl rfl
theorem q699 : (Jvm.Cond.constant "LongYearLaw" (8 : Nat) (2147483647 : Int32)) ∈ LW := tw3 (i := 219) rfl rfl
theorem q700 : (Jvm.Cond.methodLink "LongYearLaw" (29 : Nat) ({ cls := "LongYearLaw", name := "store", desc := "([II)I" } : Jvm.MethodName)) ∈ LW := tw3 (i := 220) rfl rfl
theorem q701 : (Jvm.Cond.static ({ cls := "LongYearLaw", name := "store", desc := "([II)I" } : Jvm.MethodName)) ∈ LW := tw3 (i := 221) rfl rfl
theorem q702 : (Jvm.Cond.code ({ cls := "LongYearLaw", name := "store", desc := "([II)I" } : Jvm.MethodName) method_5_code (2 : Nat) (Option.some Jvm.ClassFile.FieldType.int)) ∈ LW := tw3 (i := 222) rfl rfl
theorem q703 : (Jvm.Cond.methodLink "LongYearLaw" (53 : Nat) ({ cls := "LongYearLaw", name := "families", desc := "([I)I" } : Jvm.MethodName)) ∈ LW := tw3 (i := 223) rfl rfl
theorem q704 : (Jvm.Cond.static ({ cls := "LongYearLaw", name := "families", desc := "([I)I" } : Jvm.MethodName)) ∈ LW := tw3 (i := 224) rfl rfl
theorem q705 : (Jvm.Cond.code ({ cls := "LongYearLaw", name := "families", desc := "([I)I" } : Jvm.MethodName) method_6_code (1 : Nat) (Option.some Jvm.ClassFile.FieldType.int)) ∈ LW := tw3 (i := 225) rfl rfl
theorem q706 : (Jvm.Cond.methodLink "LongYearLaw" (37 : Nat) ({ cls := "LongYearLaw", name := "mouths", desc := "([II)I" } : Jvm.MethodName)) ∈ LW := tw3 (i := 226) rfl rfl
theorem q707 : (Jvm.Cond.static ({ cls := "LongYearLaw", name := "mouths", desc := "([II)I" } : Jvm.MethodName)) ∈ LW := tw3 (i := 227) rfl rfl
theorem q708 : (Jvm.Cond.code ({ cls := "LongYearLaw", name := "mouths", desc := "([II)I" } : Jvm.MethodName) method_8_code (2 : Nat) (Option.some Jvm.ClassFile.FieldType.int)) ∈ LW := tw3 (i := 228) rfl rfl
theorem q709 : (Jvm.Cond.methodLink "LongYearLaw" (40 : Nat) ({ cls := "LongYearLaw", name := "memory", desc := "([II)I" } : Jvm.MethodName)) ∈ LW := tw3 (i := 229) rfl rfl
theorem q710 : (Jvm.Cond.static ({ cls := "LongYearLaw", name := "memory", desc := "([II)I" } : Jvm.MethodName)) ∈ LW := tw3 (i := 230) rfl rfl
theorem q711 : (Jvm.Cond.code ({ cls := "LongYearLaw", name := "memory", desc := "([II)I" } : Jvm.MethodName) method_9_code (2 : Nat) (Option.some Jvm.ClassFile.FieldType.int)) ∈ LW := tw3 (i := 231) rfl rfl
theorem q712 : (Jvm.Cond.methodLink "LongYearLaw" (56 : Nat) ({ cls := "LongYearLaw", name := "made", desc := "(LLongYear;[II)Z" } : Jvm.MethodName)) ∈ LW := tw3 (i := 232) rfl rfl
theorem q713 : (Jvm.Cond.static ({ cls := "LongYearLaw", name := "made", desc := "(LLongYear;[II)Z" } : Jvm.MethodName)) ∈ LW := tw3 (i := 233) rfl rfl
theorem q714 : (Jvm.Cond.code ({ cls := "LongYearLaw", name := "made", desc := "(LLongYear;[II)Z" } : Jvm.MethodName) method_11_code (5 : Nat) (Option.some Jvm.ClassFile.FieldType.boolean)) ∈ LW := tw3 (i := 234) rfl rfl
theorem q715 : (Jvm.Cond.methodLink "LongYearLaw" (19 : Nat) ({ cls := "LongYearLaw", name := "years", desc := "([I)I" } : Jvm.MethodName)) ∈ LW := tw3 (i := 235) rfl rfl
theorem q716 : (Jvm.Cond.static ({ cls := "LongYearLaw", name := "years", desc := "([I)I" } : Jvm.MethodName)) ∈ LW := tw3 (i := 236) rfl rfl
theorem q717 : (Jvm.Cond.code ({ cls := "LongYearLaw", name := "years", desc := "([I)I" } : Jvm.MethodName) method_4_code (1 : Nat) (Option.some Jvm.ClassFile.FieldType.int)) ∈ LW := tw3 (i := 237) rfl rfl
theorem q718 : (Jvm.Cond.methodLink "LongYearLaw" (23 : Nat) ({ cls := "LongYear", name := "year", desc := "(I)I" } : Jvm.MethodName)) ∈ LW := tw3 (i := 238) rfl rfl
theorem q719 : (Jvm.Cond.instanceMethod ({ cls := "LongYear", name := "year", desc := "(I)I" } : Jvm.MethodName)) ∈ LW := tw3 (i := 239) rfl rfl
theorem q720 : (Jvm.Cond.selects "LongYear" ({ cls := "LongYear", name := "year", desc := "(I)I" } : Jvm.MethodName) ({ cls := "LongYear", name := "year", desc := "(I)I" } : Jvm.MethodName)) ∈ LW := tw4 (i := 0) rfl rfl
theorem q721 : (Jvm.Cond.code ({ cls := "LongYear", name := "year", desc := "(I)I" } : Jvm.MethodName) prog_1_method_2_code (3 : Nat) (Option.some Jvm.ClassFile.FieldType.int)) ∈ LW := tw4 (i := 1) rfl rfl
theorem q722 : (Jvm.Cond.methodLink "LongYear" (82 : Nat) ({ cls := "LongYear$Lump", name := "begin", desc := "(I)V" } : Jvm.MethodName)) ∈ LW := tw4 (i := 2) rfl rfl
theorem q723 : (Jvm.Cond.instanceMethod ({ cls := "LongYear$Lump", name := "begin", desc := "(I)V" } : Jvm.MethodName)) ∈ LW := tw4 (i := 3) rfl rfl
theorem q724 : (Jvm.Cond.selects "LongYear$Lump" ({ cls := "LongYear$Lump", name := "begin", desc := "(I)V" } : Jvm.MethodName) ({ cls := "LongYear$Lump", name := "begin", desc := "(I)V" } : Jvm.MethodName)) ∈ LW := tw4 (i := 4) rfl rfl
theorem q725 : (Jvm.Cond.code ({ cls := "LongYear$Lump", name := "begin", desc := "(I)V" } : Jvm.MethodName) prog_7_method_2_code (2 : Nat) (Option.none : Option Jvm.ClassFile.FieldType)) ∈ LW := tw4 (i := 5) rfl rfl
theorem q726 : (Jvm.Cond.methodLink "LongYear$Lump" (31 : Nat) ({ cls := "LongYear$Farm", name := "begin", desc := "(I)V" } : Jvm.MethodName)) ∈ LW := tw4 (i := 6) rfl rfl
theorem q727 : (Jvm.Cond.instanceMethod ({ cls := "LongYear$Farm", name := "begin", desc := "(I)V" } : Jvm.MethodName)) ∈ LW := tw4 (i := 7) rfl rfl
theorem q728 : (Jvm.Cond.selects "LongYear$Farm" ({ cls := "LongYear$Farm", name := "begin", desc := "(I)V" } : Jvm.MethodName) ({ cls := "LongYear$Farm", name := "begin", desc := "(I)V" } : Jvm.MethodName)) ∈ LW := tw4 (i := 8) rfl rfl
theorem q729 : (Jvm.Cond.code ({ cls := "LongYear$Farm", name := "begin", desc := "(I)V" } : Jvm.MethodName) prog_4_method_2_code (2 : Nat) (Option.none : Option Jvm.ClassFile.FieldType)) ∈ LW := tw4 (i := 9) rfl rfl
theorem q730 : (Jvm.Cond.methodLink "LongYear$Lump" (35 : Nat) ({ cls := "LongYear$Books", name := "begin", desc := "()V" } : Jvm.MethodName)) ∈ LW := tw4 (i := 10) rfl rfl
theorem q731 : (Jvm.Cond.instanceMethod ({ cls := "LongYear$Books", name := "begin", desc := "()V" } : Jvm.MethodName)) ∈ LW := tw4 (i := 11) rfl rfl
theorem q732 : (Jvm.Cond.selects "LongYear$Books" ({ cls := "LongYear$Books", name := "begin", desc := "()V" } : Jvm.MethodName) ({ cls := "LongYear$Books", name := "begin", desc := "()V" } : Jvm.MethodName)) ∈ LW := tw4 (i := 12) rfl rfl
theorem q733 : (Jvm.Cond.code ({ cls := "LongYear$Books", name := "begin", desc := "()V" } : Jvm.MethodName) prog_2_method_2_code (1 : Nat) (Option.none : Option Jvm.ClassFile.FieldType)) ∈ LW := tw4 (i := 13) rfl rfl
theorem q734 : (Jvm.Cond.methodLink "LongYearLaw" (34 : Nat) ({ cls := "LongYearLaw", name := "kind", desc := "([II)I" } : Jvm.MethodName)) ∈ LW := tw4 (i := 14) rfl rfl
theorem q735 : (Jvm.Cond.static ({ cls := "LongYearLaw", name := "kind", desc := "([II)I" } : Jvm.MethodName)) ∈ LW := tw4 (i := 15) rfl rfl
theorem q736 : (Jvm.Cond.code ({ cls := "LongYearLaw", name := "kind", desc := "([II)I" } : Jvm.MethodName) method_7_code (2 : Nat) (Option.some Jvm.ClassFile.FieldType.int)) ∈ LW := tw4 (i := 16) rfl rfl
theorem q737 : (Jvm.Cond.methodLink "LongYearLaw" (43 : Nat) ({ cls := "LongYear", name := "family", desc := "(III)I" } : Jvm.MethodName)) ∈ LW := tw4 (i := 17) rfl rfl
theorem q738 : (Jvm.Cond.instanceMethod ({ cls := "LongYear", name := "family", desc := "(III)I" } : Jvm.MethodName)) ∈ LW := tw4 (i := 18) rfl rfl
theorem q739 : (Jvm.Cond.selects "LongYear" ({ cls := "LongYear", name := "family", desc := "(III)I" } : Jvm.MethodName) ({ cls := "LongYear", name := "family", desc := "(III)I" } : Jvm.MethodName)) ∈ LW := tw4 (i := 19) rfl rfl
theorem q740 : (Jvm.Cond.code ({ cls := "LongYear", name := "family", desc := "(III)I" } : Jvm.MethodName) prog_1_method_4_code (4 : Nat) (Option.some Jvm.ClassFile.FieldType.int)) ∈ LW := tw4 (i := 20) rfl rfl
theorem q741 : (Jvm.Cond.methodLink "LongYear" (100 : Nat) ({ cls := "LongYear$Farm", name := "settle", desc := "(III)I" } : Jvm.MethodName)) ∈ LW := tw4 (i := 21) rfl rfl
theorem q742 : (Jvm.Cond.instanceMethod ({ cls := "LongYear$Farm", name := "settle", desc := "(III)I" } : Jvm.MethodName)) ∈ LW := tw4 (i := 22) rfl rfl
theorem q743 : (Jvm.Cond.selects "LongYear$Farm" ({ cls := "LongYear$Farm", name := "settle", desc := "(III)I" } : Jvm.MethodName) ({ cls := "LongYear$Farm", name := "settle", desc := "(III)I" } : Jvm.MethodName)) ∈ LW := tw4 (i := 23) rfl rfl
theorem q744 : (Jvm.Cond.code ({ cls := "LongYear$Farm", name := "settle", desc := "(III)I" } : Jvm.MethodName) prog_4_method_7_code (7 : Nat) (Option.some Jvm.ClassFile.FieldType.int)) ∈ LW := tw4 (i := 24) rfl rfl
theorem q745 : (Jvm.Cond.methodLink "LongYearLaw" (47 : Nat) ({ cls := "LongYearLaw", name := "job", desc := "([II)I" } : Jvm.MethodName)) ∈ LW := tw4 (i := 25) rfl rfl
theorem q746 : (Jvm.Cond.static ({ cls := "LongYearLaw", name := "job", desc := "([II)I" } : Jvm.MethodName)) ∈ LW := tw4 (i := 26) rfl rfl
theorem q747 : (Jvm.Cond.code ({ cls := "LongYearLaw", name := "job", desc := "([II)I" } : Jvm.MethodName) method_10_code (2 : Nat) (Option.some Jvm.ClassFile.FieldType.int)) ∈ LW := tw4 (i := 27) rfl rfl
theorem q748 : (Jvm.Cond.constant "LongYearLaw" (97 : Nat) (1000000 : Int32)) ∈ LW := tw4 (i := 28) rfl rfl
theorem q749 : (Jvm.Cond.sameMethod "LongYear$Keepers" "LongYear$Keepers" "tends" "()I") ∈ LW := tw4 (i := 29) rfl rfl
theorem qp1_0 : Cond.selects "LongYear" ⟨"LongYear", "refuseBad", "(I)I"⟩ ⟨"LongYear", "refuseBad", "(I)I"⟩ ∈ LW := tp1 (i := 0) (q := (⟨"LongYear", "refuseBad", "(I)I"⟩, 13)) rfl
theorem qp1_1 : Cond.selects "LongYear" ⟨"LongYear", "isFamily", "(I)Z"⟩ ⟨"LongYear", "isFamily", "(I)Z"⟩ ∈ LW := tp1 (i := 1) (q := (⟨"LongYear", "isFamily", "(I)Z"⟩, 13)) rfl
theorem qp1_2 : Cond.selects "LongYear$Farm" ⟨"LongYear$Farm", "setTimeTo", "(LLongYear$Farm;)V"⟩ ⟨"LongYear$Farm", "setTimeTo", "(LLongYear$Farm;)V"⟩ ∈ LW := tp1 (i := 2) (q := (⟨"LongYear$Farm", "setTimeTo", "(LLongYear$Farm;)V"⟩, 13)) rfl
theorem qp1_3 : Cond.selects "LongYear$Farm" ⟨"LongYear$Farm", "harvest", "(I)V"⟩ ⟨"LongYear$Farm", "harvest", "(I)V"⟩ ∈ LW := tp1 (i := 3) (q := (⟨"LongYear$Farm", "harvest", "(I)V"⟩, 13)) rfl
theorem qp1_4 : Cond.selects "LongYear$Farm" ⟨"LongYear$Farm", "work", "()V"⟩ ⟨"LongYear$Farm", "work", "()V"⟩ ∈ LW := tp1 (i := 4) (q := (⟨"LongYear$Farm", "work", "()V"⟩, 13)) rfl
theorem qp1_5 : Cond.selects "LongYear$Farm" ⟨"LongYear$Farm", "teach", "(I)V"⟩ ⟨"LongYear$Farm", "teach", "(I)V"⟩ ∈ LW := tp1 (i := 5) (q := (⟨"LongYear$Farm", "teach", "(I)V"⟩, 13)) rfl
theorem qp1_6 : Cond.selects "LongYear$Farm" ⟨"LongYear$Farm", "feed", "(Z)I"⟩ ⟨"LongYear$Farm", "feed", "(Z)I"⟩ ∈ LW := tp1 (i := 6) (q := (⟨"LongYear$Farm", "feed", "(Z)I"⟩, 13)) rfl
theorem qp1_7 : Cond.selects "LongYear$Farm" ⟨"LongYear$Farm", "remember", "()V"⟩ ⟨"LongYear$Farm", "remember", "()V"⟩ ∈ LW := tp1 (i := 7) (q := (⟨"LongYear$Farm", "remember", "()V"⟩, 13)) rfl
theorem qp1_8 : Cond.selects "LongYear$Farm" ⟨"LongYear$Farm", "warm", "()V"⟩ ⟨"LongYear$Farm", "warm", "()V"⟩ ∈ LW := tp1 (i := 8) (q := (⟨"LongYear$Farm", "warm", "()V"⟩, 13)) rfl
theorem qp1_9 : Cond.selects "LongYear$Farm" ⟨"LongYear$Farm", "lose", "()V"⟩ ⟨"LongYear$Farm", "lose", "()V"⟩ ∈ LW := tp1 (i := 9) (q := (⟨"LongYear$Farm", "lose", "()V"⟩, 13)) rfl
theorem qp1_10 : Cond.selects "LongYear$Farm" ⟨"LongYear$Farm", "forget", "()V"⟩ ⟨"LongYear$Farm", "forget", "()V"⟩ ∈ LW := tp1 (i := 10) (q := (⟨"LongYear$Farm", "forget", "()V"⟩, 13)) rfl
theorem qp1_11 : Cond.selects "LongYear" ⟨"LongYear", "refuseNo", "()I"⟩ ⟨"LongYear", "refuseNo", "()I"⟩ ∈ LW := tp1 (i := 11) (q := (⟨"LongYear", "refuseNo", "()I"⟩, 13)) rfl
theorem qp1_12 : Cond.selects "LongYear$Trials" ⟨"LongYear$Trials", "keepIfMost", "(I)V"⟩ ⟨"LongYear$Trials", "keepIfMost", "(I)V"⟩ ∈ LW := tp1 (i := 12) (q := (⟨"LongYear$Trials", "keepIfMost", "(I)V"⟩, 7)) rfl
theorem qp1_13 : Cond.selects "LongYear$Trials" ⟨"LongYear$Trials", "keepsMemory", "(LLongYear$Farm;II)Z"⟩ ⟨"LongYear$Trials", "keepsMemory", "(LLongYear$Farm;II)Z"⟩ ∈ LW := tp1 (i := 13) (q := (⟨"LongYear$Trials", "keepsMemory", "(LLongYear$Farm;II)Z"⟩, 7)) rfl
theorem qp1_14 : Cond.selects "LongYear" ⟨"LongYear", "refuseFull", "()I"⟩ ⟨"LongYear", "refuseFull", "()I"⟩ ∈ LW := tp1 (i := 14) (q := (⟨"LongYear", "refuseFull", "()I"⟩, 13)) rfl
theorem qp1_15 : Cond.selects "LongYear$Trials" ⟨"LongYear$Trials", "mostGroupsBelow", "(II)I"⟩ ⟨"LongYear$Trials", "mostGroupsBelow", "(II)I"⟩ ∈ LW := tp1 (i := 15) (q := (⟨"LongYear$Trials", "mostGroupsBelow", "(II)I"⟩, 7)) rfl
theorem qp2_0 : Cond.selects "LongYear" ⟨"LongYear", "imageAt", "(I)LLongYear$Lump;"⟩ ⟨"LongYear", "imageAt", "(I)LLongYear$Lump;"⟩ ∈ LW := tp2 (i := 0) (q := (⟨"LongYear", "imageAt", "(I)LLongYear$Lump;"⟩, 13)) rfl
theorem qp2_1 : Cond.selects "LongYear" ⟨"LongYear", "tally", "(I)I"⟩ ⟨"LongYear", "tally", "(I)I"⟩ ∈ LW := tp2 (i := 1) (q := (⟨"LongYear", "tally", "(I)I"⟩, 13)) rfl
