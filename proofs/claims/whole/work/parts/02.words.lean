/-! the words that a method may use: those of the tables that stay; each by its place -/
def LW : List Cond := lw_tbl.filter goodWord
theorem LW_tbl : ∀ w ∈ LW, w ∈ lw_tbl := fun w h => (List.mem_filter.mp h).1
theorem LW_good : GoodIn LW LW := fun w h => ⟨h, good_of_word (List.mem_filter.mp h).2⟩
theorem tw1 {i : Nat} {w : Cond} (e : tables_1_1[i]? = some w) (g : goodWord w = true) : w ∈ LW := List.mem_filter.mpr ⟨List.mem_append_right _ (by have h := List.mem_of_getElem? e; exact (List.mem_append_left _ h)), g⟩
theorem tw2 {i : Nat} {w : Cond} (e : tables_1_2[i]? = some w) (g : goodWord w = true) : w ∈ LW := List.mem_filter.mpr ⟨List.mem_append_right _ (by have h := List.mem_of_getElem? e; exact (List.mem_append_right _ (List.mem_append_left _ h))), g⟩
theorem tw3 {i : Nat} {w : Cond} (e : tables_1_3[i]? = some w) (g : goodWord w = true) : w ∈ LW := List.mem_filter.mpr ⟨List.mem_append_right _ (by have h := List.mem_of_getElem? e; exact (List.mem_append_right _ (List.mem_append_right _ (List.mem_append_left _ h)))), g⟩
theorem tw4 {i : Nat} {w : Cond} (e : tables_1_4[i]? = some w) (g : goodWord w = true) : w ∈ LW := List.mem_filter.mpr ⟨List.mem_append_right _ (by have h := List.mem_of_getElem? e; exact (List.mem_append_right _ (List.mem_append_right _ (List.mem_append_right _ (List.mem_append_left _ h))))), g⟩
theorem tw5 {i : Nat} {w : Cond} (e : tables_1_5[i]? = some w) (g : goodWord w = true) : w ∈ LW := List.mem_filter.mpr ⟨List.mem_append_right _ (by have h := List.mem_of_getElem? e; exact (List.mem_append_right _ (List.mem_append_right _ (List.mem_append_right _ (List.mem_append_right _ (List.mem_append_left _ h)))))), g⟩
theorem tw6 {i : Nat} {w : Cond} (e : tables_1_6[i]? = some w) (g : goodWord w = true) : w ∈ LW := List.mem_filter.mpr ⟨List.mem_append_right _ (by have h := List.mem_of_getElem? e; exact (List.mem_append_right _ (List.mem_append_right _ (List.mem_append_right _ (List.mem_append_right _ (List.mem_append_right _ (List.mem_append_left _ h))))))), g⟩
theorem tw7 {i : Nat} {w : Cond} (e : tables_1_7[i]? = some w) (g : goodWord w = true) : w ∈ LW := List.mem_filter.mpr ⟨List.mem_append_right _ (by have h := List.mem_of_getElem? e; exact (List.mem_append_right _ (List.mem_append_right _ (List.mem_append_right _ (List.mem_append_right _ (List.mem_append_right _ (List.mem_append_right _ h))))))), g⟩
theorem tp1 {i : Nat} {q : MethodName × Nat} (e : lw_privs_1[i]? = some q) : Cond.selects q.1.cls q.1 q.1 ∈ LW := List.mem_filter.mpr ⟨List.mem_append_left _ (List.mem_map_of_mem (f := fun q : MethodName × Nat => Cond.selects q.1.cls q.1 q.1) (by have h := List.mem_of_getElem? e; exact (List.mem_append_left _ h))), rfl⟩
theorem tp2 {i : Nat} {q : MethodName × Nat} (e : lw_privs_2[i]? = some q) : Cond.selects q.1.cls q.1 q.1 ∈ LW := List.mem_filter.mpr ⟨List.mem_append_left _ (List.mem_map_of_mem (f := fun q : MethodName × Nat => Cond.selects q.1.cls q.1 q.1) (by have h := List.mem_of_getElem? e; exact (List.mem_append_right _ (List.mem_append_left _ h)))), rfl⟩
theorem tp3 {i : Nat} {q : MethodName × Nat} (e : lw_privs_3[i]? = some q) : Cond.selects q.1.cls q.1 q.1 ∈ LW := List.mem_filter.mpr ⟨List.mem_append_left _ (List.mem_map_of_mem (f := fun q : MethodName × Nat => Cond.selects q.1.cls q.1 q.1) (by have h := List.mem_of_getElem? e; exact (List.mem_append_right _ (List.mem_append_right _ (List.mem_append_left _ h))))), rfl⟩
theorem tp4 {i : Nat} {q : MethodName × Nat} (e : lw_privs_4[i]? = some q) : Cond.selects q.1.cls q.1 q.1 ∈ LW := List.mem_filter.mpr ⟨List.mem_append_left _ (List.mem_map_of_mem (f := fun q : MethodName × Nat => Cond.selects q.1.cls q.1 q.1) (by have h := List.mem_of_getElem? e; exact (List.mem_append_right _ (List.mem_append_right _ (List.mem_append_right _ (List.mem_append_left _ h)))))), rfl⟩
theorem tp5 {i : Nat} {q : MethodName × Nat} (e : lw_privs_5[i]? = some q) : Cond.selects q.1.cls q.1 q.1 ∈ LW := List.mem_filter.mpr ⟨List.mem_append_left _ (List.mem_map_of_mem (f := fun q : MethodName × Nat => Cond.selects q.1.cls q.1 q.1) (by have h := List.mem_of_getElem? e; exact (List.mem_append_right _ (List.mem_append_right _ (List.mem_append_right _ (List.mem_append_right _ h)))))), rfl⟩
theorem q0 : (Jvm.Cond.initialized "LongYearLaw") ∈ LW := tw1 (i := 0) rfl rfl
theorem q1 : (Jvm.Cond.initialized "LongYear") ∈ LW := tw1 (i := 1) rfl rfl
theorem q2 : (Jvm.Cond.initialized "LongYear$Reader") ∈ LW := tw1 (i := 2) rfl rfl
theorem q3 : (Jvm.Cond.initialized "LongYear$Farmers") ∈ LW := tw1 (i := 3) rfl rfl
theorem q4 : (Jvm.Cond.initialized "LongYear$Sleepers") ∈ LW := tw1 (i := 4) rfl rfl
theorem q5 : (Jvm.Cond.initialized "LongYear$Keepers") ∈ LW := tw1 (i := 5) rfl rfl
theorem q6 : (Jvm.Cond.initialized "LongYear$Makers") ∈ LW := tw1 (i := 6) rfl rfl
theorem q7 : (Jvm.Cond.initialized "LongYear$Singers") ∈ LW := tw1 (i := 7) rfl rfl
theorem q8 : (Jvm.Cond.initialized "LongYear$Lump") ∈ LW := tw1 (i := 8) rfl rfl
theorem q9 : (Jvm.Cond.initialized "LongYear$Books") ∈ LW := tw1 (i := 9) rfl rfl
theorem q10 : (Jvm.Cond.initialized "LongYear$Farm") ∈ LW := tw1 (i := 10) rfl rfl
theorem q11 : (Jvm.Cond.initialized "LongYear$Family") ∈ LW := tw1 (i := 11) rfl rfl
theorem q12 : (Jvm.Cond.initialized "LongYear$Trials") ∈ LW := tw1 (i := 12) rfl rfl
theorem q13 : (Jvm.Cond.initialized "LongYearModel") ∈ LW := tw1 (i := 13) rfl rfl
theorem q14 : (Jvm.Cond.initialized "java/lang/String") ∈ LW := tw1 (i := 14) rfl rfl
theorem q15 : (Jvm.Cond.initialized "java/lang/StringLatin1") ∈ LW := tw1 (i := 15) rfl rfl
theorem q16 : (Jvm.Cond.initialized "jdk/internal/util/Preconditions") ∈ LW := tw1 (i := 16) rfl rfl
theorem q17 : (Jvm.Cond.initialized "java/lang/StringUTF16") ∈ LW := tw1 (i := 17) rfl rfl
theorem q18 : (Jvm.Cond.initialized "java/lang/Math") ∈ LW := tw1 (i := 18) rfl rfl
theorem q19 : (Jvm.Cond.initialized "java/lang/Integer") ∈ LW := tw1 (i := 19) rfl rfl
theorem q20 : (Jvm.Cond.classLink "LongYearLaw" (7 : Nat) "LongYear") ∈ LW := tw1 (i := 20) rfl rfl
theorem q21 : (Jvm.Cond.instantiable "LongYear" (13 : Nat)) ∈ LW := tw1 (i := 21) rfl rfl
theorem q22 : (Jvm.Cond.methodLink "LongYearLaw" (9 : Nat) ({ cls := "LongYear", name := "<init>", desc := "()V" } : Jvm.MethodName)) ∈ LW := tw1 (i := 22) rfl rfl
theorem q23 : (Jvm.Cond.instanceMethod ({ cls := "LongYear", name := "<init>", desc := "()V" } : Jvm.MethodName)) ∈ LW := tw1 (i := 23) rfl rfl
theorem q24 : (Jvm.Cond.code ({ cls := "LongYear", name := "<init>", desc := "()V" } : Jvm.MethodName) prog_1_method_1_code (2 : Nat) (Option.none : Option Jvm.ClassFile.FieldType)) ∈ LW := tw1 (i := 24) rfl rfl
theorem q25 : (Jvm.Cond.methodLink "LongYear" (1 : Nat) ({ cls := "java/lang/Object", name := "<init>", desc := "()V" } : Jvm.MethodName)) ∈ LW := tw1 (i := 25) rfl rfl
theorem q26 : (Jvm.Cond.instanceMethod ({ cls := "java/lang/Object", name := "<init>", desc := "()V" } : Jvm.MethodName)) ∈ LW := tw1 (i := 26) rfl rfl
theorem q27 : (Jvm.Cond.code ({ cls := "java/lang/Object", name := "<init>", desc := "()V" } : Jvm.MethodName) object_method_1_code (1 : Nat) (Option.none : Option Jvm.ClassFile.FieldType)) ∈ LW := tw1 (i := 27) rfl rfl
theorem q28 : (Jvm.Cond.classLink "LongYear" (7 : Nat) "LongYear$Reader") ∈ LW := tw1 (i := 28) rfl rfl
theorem q29 : (Jvm.Cond.instantiable "LongYear$Reader" (7 : Nat)) ∈ LW := tw1 (i := 29) rfl rfl
theorem q31 : (Jvm.Cond.instanceMethod ({ cls := "LongYear$Reader", name := "<init>", desc := "()V" } : Jvm.MethodName)) ∈ LW := tw1 (i := 31) rfl rfl
theorem q32 : (Jvm.Cond.code ({ cls := "LongYear$Reader", name := "<init>", desc := "()V" } : Jvm.MethodName) prog_9_method_1_code (1 : Nat) (Option.none : Option Jvm.ClassFile.FieldType)) ∈ LW := tw1 (i := 32) rfl rfl
theorem q33 : (Jvm.Cond.methodLink "LongYear$Reader" (3 : Nat) ({ cls := "java/lang/Object", name := "<init>", desc := "()V" } : Jvm.MethodName)) ∈ LW := tw1 (i := 33) rfl rfl
theorem q34 : (Jvm.Cond.fieldLink "LongYear$Reader" (9 : Nat) "LongYear$Reader" "bytes" "[I") ∈ LW := tw1 (i := 34) rfl rfl
theorem q35 : (Jvm.Cond.fieldLink "LongYear$Reader" (15 : Nat) "LongYear$Reader" "told" "[I") ∈ LW := tw1 (i := 35) rfl rfl
theorem q36 : (Jvm.Cond.fieldLink "LongYear$Reader" (18 : Nat) "LongYear$Reader" "size" "I") ∈ LW := tw1 (i := 36) rfl rfl
theorem q37 : (Jvm.Cond.fieldLink "LongYear" (117 : Nat) "LongYear$Reader" "size" "I") ∈ LW := tw1 (i := 37) rfl rfl
theorem q38 : (Jvm.Cond.fieldLink "LongYear$Reader" (45 : Nat) "LongYear$Reader" "start" "I") ∈ LW := tw1 (i := 38) rfl rfl
theorem q39 : (Jvm.Cond.fieldLink "LongYear$Reader" (32 : Nat) "LongYear$Reader" "after" "I") ∈ LW := tw1 (i := 39) rfl rfl
theorem q40 : (Jvm.Cond.fieldLink "LongYear$Reader" (38 : Nat) "LongYear$Reader" "sort" "I") ∈ LW := tw1 (i := 40) rfl rfl
theorem q41 : (Jvm.Cond.fieldLink "LongYear$Reader" (79 : Nat) "LongYear$Reader" "value" "I") ∈ LW := tw1 (i := 41) rfl rfl
theorem q42 : (Jvm.Cond.laysFinal "LongYear$Reader" "LongYear$Reader" "bytes" "[I") ∈ LW := tw1 (i := 42) rfl rfl
theorem q44 : (Jvm.Cond.laysFinal "LongYear$Reader" "LongYear$Reader" "told" "[I") ∈ LW := tw1 (i := 44) rfl rfl
theorem q46 : (Jvm.Cond.lays "LongYear$Reader" "LongYear$Reader" "size" "I") ∈ LW := tw1 (i := 46) rfl rfl
theorem q48 : (Jvm.Cond.lays "LongYear$Reader" "LongYear$Reader" "start" "I") ∈ LW := tw1 (i := 48) rfl rfl
theorem q50 : (Jvm.Cond.lays "LongYear$Reader" "LongYear$Reader" "after" "I") ∈ LW := tw1 (i := 50) rfl rfl
theorem q52 : (Jvm.Cond.lays "LongYear$Reader" "LongYear$Reader" "sort" "I") ∈ LW := tw1 (i := 52) rfl rfl
theorem q54 : (Jvm.Cond.lays "LongYear$Reader" "LongYear$Reader" "value" "I") ∈ LW := tw1 (i := 54) rfl rfl
theorem q56 : (Jvm.Cond.superclass "LongYear$Reader" "java/lang/Object") ∈ LW := tw1 (i := 56) rfl rfl
theorem q57 : (Jvm.Cond.arrayClass Jvm.ClassFile.FieldType.int) ∈ LW := tw1 (i := 57) rfl rfl
theorem q58 : (Jvm.Cond.classLink "LongYear" (20 : Nat) "LongYear$Farmers") ∈ LW := tw1 (i := 58) rfl rfl
theorem q60 : (Jvm.Cond.instantiable "LongYear$Farmers" (0 : Nat)) ∈ LW := tw1 (i := 60) rfl rfl
theorem q62 : (Jvm.Cond.instanceMethod ({ cls := "LongYear$Farmers", name := "<init>", desc := "()V" } : Jvm.MethodName)) ∈ LW := tw1 (i := 62) rfl rfl
theorem q63 : (Jvm.Cond.code ({ cls := "LongYear$Farmers", name := "<init>", desc := "()V" } : Jvm.MethodName) prog_5_method_1_code (1 : Nat) (Option.none : Option Jvm.ClassFile.FieldType)) ∈ LW := tw1 (i := 63) rfl rfl
theorem q64 : (Jvm.Cond.methodLink "LongYear$Farmers" (1 : Nat) ({ cls := "java/lang/Object", name := "<init>", desc := "()V" } : Jvm.MethodName)) ∈ LW := tw1 (i := 64) rfl rfl
theorem q65 : (Jvm.Cond.superclass "LongYear$Farmers" "java/lang/Object") ∈ LW := tw1 (i := 65) rfl rfl
theorem q66 : (Jvm.Cond.classLink "LongYear" (23 : Nat) "LongYear$Sleepers") ∈ LW := tw1 (i := 66) rfl rfl
theorem q67 : (Jvm.Cond.instantiable "LongYear$Sleepers" (0 : Nat)) ∈ LW := tw1 (i := 67) rfl rfl
theorem q69 : (Jvm.Cond.instanceMethod ({ cls := "LongYear$Sleepers", name := "<init>", desc := "()V" } : Jvm.MethodName)) ∈ LW := tw1 (i := 69) rfl rfl
theorem q70 : (Jvm.Cond.code ({ cls := "LongYear$Sleepers", name := "<init>", desc := "()V" } : Jvm.MethodName) prog_11_method_1_code (1 : Nat) (Option.none : Option Jvm.ClassFile.FieldType)) ∈ LW := tw1 (i := 70) rfl rfl
theorem q72 : (Jvm.Cond.superclass "LongYear$Sleepers" "LongYear$Farmers") ∈ LW := tw1 (i := 72) rfl rfl
theorem q73 : (Jvm.Cond.classLink "LongYear" (26 : Nat) "LongYear$Keepers") ∈ LW := tw1 (i := 73) rfl rfl
theorem q74 : (Jvm.Cond.instantiable "LongYear$Keepers" (0 : Nat)) ∈ LW := tw1 (i := 74) rfl rfl
theorem q76 : (Jvm.Cond.instanceMethod ({ cls := "LongYear$Keepers", name := "<init>", desc := "()V" } : Jvm.MethodName)) ∈ LW := tw1 (i := 76) rfl rfl
theorem q77 : (Jvm.Cond.code ({ cls := "LongYear$Keepers", name := "<init>", desc := "()V" } : Jvm.MethodName) prog_6_method_1_code (1 : Nat) (Option.none : Option Jvm.ClassFile.FieldType)) ∈ LW := tw1 (i := 77) rfl rfl
theorem q79 : (Jvm.Cond.superclass "LongYear$Keepers" "LongYear$Farmers") ∈ LW := tw1 (i := 79) rfl rfl
theorem q80 : (Jvm.Cond.classLink "LongYear" (29 : Nat) "LongYear$Makers") ∈ LW := tw1 (i := 80) rfl rfl
theorem q81 : (Jvm.Cond.instantiable "LongYear$Makers" (0 : Nat)) ∈ LW := tw1 (i := 81) rfl rfl
theorem q83 : (Jvm.Cond.instanceMethod ({ cls := "LongYear$Makers", name := "<init>", desc := "()V" } : Jvm.MethodName)) ∈ LW := tw1 (i := 83) rfl rfl
theorem q84 : (Jvm.Cond.code ({ cls := "LongYear$Makers", name := "<init>", desc := "()V" } : Jvm.MethodName) prog_8_method_1_code (1 : Nat) (Option.none : Option Jvm.ClassFile.FieldType)) ∈ LW := tw1 (i := 84) rfl rfl
theorem q86 : (Jvm.Cond.superclass "LongYear$Makers" "LongYear$Farmers") ∈ LW := tw1 (i := 86) rfl rfl
theorem q87 : (Jvm.Cond.classLink "LongYear" (32 : Nat) "LongYear$Singers") ∈ LW := tw1 (i := 87) rfl rfl
theorem q88 : (Jvm.Cond.instantiable "LongYear$Singers" (0 : Nat)) ∈ LW := tw1 (i := 88) rfl rfl
theorem q90 : (Jvm.Cond.instanceMethod ({ cls := "LongYear$Singers", name := "<init>", desc := "()V" } : Jvm.MethodName)) ∈ LW := tw1 (i := 90) rfl rfl
theorem q91 : (Jvm.Cond.code ({ cls := "LongYear$Singers", name := "<init>", desc := "()V" } : Jvm.MethodName) prog_10_method_1_code (1 : Nat) (Option.none : Option Jvm.ClassFile.FieldType)) ∈ LW := tw1 (i := 91) rfl rfl
theorem q93 : (Jvm.Cond.superclass "LongYear$Singers" "LongYear$Keepers") ∈ LW := tw1 (i := 93) rfl rfl
theorem q94 : (Jvm.Cond.classLink "LongYear" (35 : Nat) "LongYear$Lump") ∈ LW := tw1 (i := 94) rfl rfl
theorem q95 : (Jvm.Cond.instantiable "LongYear$Lump" (5 : Nat)) ∈ LW := tw1 (i := 95) rfl rfl
theorem q96 : (Jvm.Cond.methodLink "LongYear" (37 : Nat) ({ cls := "LongYear$Lump", name := "<init>", desc := "([LLongYear$Farmers;)V" } : Jvm.MethodName)) ∈ LW := tw1 (i := 96) rfl rfl
theorem q97 : (Jvm.Cond.instanceMethod ({ cls := "LongYear$Lump", name := "<init>", desc := "([LLongYear$Farmers;)V" } : Jvm.MethodName)) ∈ LW := tw1 (i := 97) rfl rfl
theorem q98 : (Jvm.Cond.code ({ cls := "LongYear$Lump", name := "<init>", desc := "([LLongYear$Farmers;)V" } : Jvm.MethodName) prog_7_method_1_code (3 : Nat) (Option.none : Option Jvm.ClassFile.FieldType)) ∈ LW := tw1 (i := 98) rfl rfl
theorem q99 : (Jvm.Cond.methodLink "LongYear$Lump" (3 : Nat) ({ cls := "java/lang/Object", name := "<init>", desc := "()V" } : Jvm.MethodName)) ∈ LW := tw1 (i := 99) rfl rfl
theorem q100 : (Jvm.Cond.classLink "LongYear$Lump" (9 : Nat) "LongYear$Books") ∈ LW := tw1 (i := 100) rfl rfl
theorem q101 : (Jvm.Cond.instantiable "LongYear$Books" (11 : Nat)) ∈ LW := tw1 (i := 101) rfl rfl
theorem q103 : (Jvm.Cond.instanceMethod ({ cls := "LongYear$Books", name := "<init>", desc := "()V" } : Jvm.MethodName)) ∈ LW := tw1 (i := 103) rfl rfl
theorem q104 : (Jvm.Cond.code ({ cls := "LongYear$Books", name := "<init>", desc := "()V" } : Jvm.MethodName) prog_2_method_1_code (1 : Nat) (Option.none : Option Jvm.ClassFile.FieldType)) ∈ LW := tw1 (i := 104) rfl rfl
theorem q105 : (Jvm.Cond.methodLink "LongYear$Books" (3 : Nat) ({ cls := "java/lang/Object", name := "<init>", desc := "()V" } : Jvm.MethodName)) ∈ LW := tw1 (i := 105) rfl rfl
theorem q106 : (Jvm.Cond.fieldLink "LongYear$Books" (33 : Nat) "LongYear$Books" "rate" "I") ∈ LW := tw1 (i := 106) rfl rfl
theorem q107 : (Jvm.Cond.fieldLink "LongYear" (203 : Nat) "LongYear$Books" "rate" "I") ∈ LW := tw1 (i := 107) rfl rfl
theorem q108 : (Jvm.Cond.fieldLink "LongYear$Books" (37 : Nat) "LongYear$Books" "debts" "I") ∈ LW := tw1 (i := 108) rfl rfl
theorem q109 : (Jvm.Cond.fieldLink "LongYear$Reader" (63 : Nat) "LongYear$Books" "debts" "I") ∈ LW := tw1 (i := 109) rfl rfl
theorem q110 : (Jvm.Cond.fieldLink "LongYear" (195 : Nat) "LongYear$Books" "debts" "I") ∈ LW := tw1 (i := 110) rfl rfl
theorem q111 : (Jvm.Cond.fieldLink "LongYear$Books" (40 : Nat) "LongYear$Books" "reports" "I") ∈ LW := tw1 (i := 111) rfl rfl
theorem q112 : (Jvm.Cond.fieldLink "LongYear" (217 : Nat) "LongYear$Books" "reports" "I") ∈ LW := tw1 (i := 112) rfl rfl
theorem q113 : (Jvm.Cond.fieldLink "LongYear$Books" (43 : Nat) "LongYear$Books" "words" "I") ∈ LW := tw1 (i := 113) rfl rfl
theorem q114 : (Jvm.Cond.fieldLink "LongYear" (254 : Nat) "LongYear$Books" "words" "I") ∈ LW := tw1 (i := 114) rfl rfl
theorem q115 : (Jvm.Cond.fieldLink "LongYear$Books" (9 : Nat) "LongYear$Books" "from" "[I") ∈ LW := tw1 (i := 115) rfl rfl
theorem q116 : (Jvm.Cond.fieldLink "LongYear$Books" (15 : Nat) "LongYear$Books" "to" "[I") ∈ LW := tw1 (i := 116) rfl rfl
theorem q117 : (Jvm.Cond.fieldLink "LongYear$Books" (18 : Nat) "LongYear$Books" "owed" "[I") ∈ LW := tw1 (i := 117) rfl rfl
theorem q118 : (Jvm.Cond.fieldLink "LongYear$Books" (21 : Nat) "LongYear$Books" "years" "[I") ∈ LW := tw1 (i := 118) rfl rfl
theorem q119 : (Jvm.Cond.fieldLink "LongYear$Books" (24 : Nat) "LongYear$Books" "tellers" "[I") ∈ LW := tw1 (i := 119) rfl rfl
theorem q120 : (Jvm.Cond.fieldLink "LongYear$Books" (27 : Nat) "LongYear$Books" "counted" "[I") ∈ LW := tw1 (i := 120) rfl rfl
theorem q121 : (Jvm.Cond.fieldLink "LongYear$Books" (30 : Nat) "LongYear$Books" "song" "[I") ∈ LW := tw1 (i := 121) rfl rfl
theorem q122 : (Jvm.Cond.lays "LongYear$Books" "LongYear$Books" "rate" "I") ∈ LW := tw1 (i := 122) rfl rfl
theorem q124 : (Jvm.Cond.lays "LongYear$Books" "LongYear$Books" "debts" "I") ∈ LW := tw1 (i := 124) rfl rfl
theorem q126 : (Jvm.Cond.lays "LongYear$Books" "LongYear$Books" "reports" "I") ∈ LW := tw1 (i := 126) rfl rfl
theorem q128 : (Jvm.Cond.lays "LongYear$Books" "LongYear$Books" "words" "I") ∈ LW := tw1 (i := 128) rfl rfl
theorem q130 : (Jvm.Cond.laysFinal "LongYear$Books" "LongYear$Books" "from" "[I") ∈ LW := tw1 (i := 130) rfl rfl
theorem q132 : (Jvm.Cond.laysFinal "LongYear$Books" "LongYear$Books" "to" "[I") ∈ LW := tw1 (i := 132) rfl rfl
theorem q134 : (Jvm.Cond.laysFinal "LongYear$Books" "LongYear$Books" "owed" "[I") ∈ LW := tw1 (i := 134) rfl rfl
theorem q136 : (Jvm.Cond.laysFinal "LongYear$Books" "LongYear$Books" "years" "[I") ∈ LW := tw1 (i := 136) rfl rfl
theorem q138 : (Jvm.Cond.laysFinal "LongYear$Books" "LongYear$Books" "tellers" "[I") ∈ LW := tw1 (i := 138) rfl rfl
theorem q140 : (Jvm.Cond.laysFinal "LongYear$Books" "LongYear$Books" "counted" "[I") ∈ LW := tw1 (i := 140) rfl rfl
theorem q142 : (Jvm.Cond.laysFinal "LongYear$Books" "LongYear$Books" "song" "[I") ∈ LW := tw1 (i := 142) rfl rfl
theorem q144 : (Jvm.Cond.superclass "LongYear$Books" "java/lang/Object") ∈ LW := tw1 (i := 144) rfl rfl
theorem q145 : (Jvm.Cond.classLink "LongYear$Lump" (18 : Nat) "LongYear$Farm") ∈ LW := tw1 (i := 145) rfl rfl
theorem q147 : (Jvm.Cond.instantiable "LongYear$Farm" (13 : Nat)) ∈ LW := tw1 (i := 147) rfl rfl
theorem q148 : (Jvm.Cond.methodLink "LongYear$Lump" (24 : Nat) ({ cls := "LongYear$Farm", name := "<init>", desc := "([LLongYear$Farmers;)V" } : Jvm.MethodName)) ∈ LW := tw1 (i := 148) rfl rfl
theorem q149 : (Jvm.Cond.instanceMethod ({ cls := "LongYear$Farm", name := "<init>", desc := "([LLongYear$Farmers;)V" } : Jvm.MethodName)) ∈ LW := tw1 (i := 149) rfl rfl
theorem q150 : (Jvm.Cond.code ({ cls := "LongYear$Farm", name := "<init>", desc := "([LLongYear$Farmers;)V" } : Jvm.MethodName) prog_4_method_1_code (3 : Nat) (Option.none : Option Jvm.ClassFile.FieldType)) ∈ LW := tw1 (i := 150) rfl rfl
theorem q151 : (Jvm.Cond.methodLink "LongYear$Farm" (3 : Nat) ({ cls := "java/lang/Object", name := "<init>", desc := "()V" } : Jvm.MethodName)) ∈ LW := tw1 (i := 151) rfl rfl
theorem q152 : (Jvm.Cond.classLink "LongYear$Farm" (9 : Nat) "LongYear$Family") ∈ LW := tw1 (i := 152) rfl rfl
theorem q154 : (Jvm.Cond.classLink "LongYear$Farm" (21 : Nat) "LongYear$Farmers") ∈ LW := tw1 (i := 154) rfl rfl
theorem q156 : (Jvm.Cond.instantiable "LongYear$Family" (5 : Nat)) ∈ LW := tw1 (i := 156) rfl rfl
theorem q157 : (Jvm.Cond.methodLink "LongYear$Farm" (28 : Nat) ({ cls := "LongYear$Family", name := "<init>", desc := "(LLongYear$Farmers;)V" } : Jvm.MethodName)) ∈ LW := tw1 (i := 157) rfl rfl
theorem q158 : (Jvm.Cond.instanceMethod ({ cls := "LongYear$Family", name := "<init>", desc := "(LLongYear$Farmers;)V" } : Jvm.MethodName)) ∈ LW := tw1 (i := 158) rfl rfl
theorem q159 : (Jvm.Cond.code ({ cls := "LongYear$Family", name := "<init>", desc := "(LLongYear$Farmers;)V" } : Jvm.MethodName) prog_3_method_1_code (2 : Nat) (Option.none : Option Jvm.ClassFile.FieldType)) ∈ LW := tw1 (i := 159) rfl rfl
theorem q160 : (Jvm.Cond.methodLink "LongYear$Family" (1 : Nat) ({ cls := "java/lang/Object", name := "<init>", desc := "()V" } : Jvm.MethodName)) ∈ LW := tw1 (i := 160) rfl rfl
theorem q161 : (Jvm.Cond.fieldLink "LongYear$Family" (7 : Nat) "LongYear$Family" "ways" "LLongYear$Farmers;") ∈ LW := tw1 (i := 161) rfl rfl
theorem q162 : (Jvm.Cond.fieldLink "LongYear$Farm" (81 : Nat) "LongYear$Family" "ways" "LLongYear$Farmers;") ∈ LW := tw1 (i := 162) rfl rfl
theorem q163 : (Jvm.Cond.fieldLink "LongYear$Family" (13 : Nat) "LongYear$Family" "kind" "I") ∈ LW := tw1 (i := 163) rfl rfl
theorem q164 : (Jvm.Cond.fieldLink "LongYear$Farm" (84 : Nat) "LongYear$Family" "kind" "I") ∈ LW := tw1 (i := 164) rfl rfl
theorem q165 : (Jvm.Cond.fieldLink "LongYear" (139 : Nat) "LongYear$Family" "kind" "I") ∈ LW := tw1 (i := 165) rfl rfl
theorem q166 : (Jvm.Cond.fieldLink "LongYear$Family" (17 : Nat) "LongYear$Family" "mouths" "I") ∈ LW := tw1 (i := 166) rfl rfl
theorem q167 : (Jvm.Cond.fieldLink "LongYear$Farm" (75 : Nat) "LongYear$Family" "mouths" "I") ∈ LW := tw1 (i := 167) rfl rfl
theorem q168 : (Jvm.Cond.fieldLink "LongYear" (142 : Nat) "LongYear$Family" "mouths" "I") ∈ LW := tw1 (i := 168) rfl rfl
theorem q169 : (Jvm.Cond.fieldLink "LongYear$Family" (20 : Nat) "LongYear$Family" "memory" "I") ∈ LW := tw1 (i := 169) rfl rfl
theorem q170 : (Jvm.Cond.fieldLink "LongYear$Farm" (78 : Nat) "LongYear$Family" "memory" "I") ∈ LW := tw1 (i := 170) rfl rfl
theorem q171 : (Jvm.Cond.fieldLink "LongYear" (145 : Nat) "LongYear$Family" "memory" "I") ∈ LW := tw1 (i := 171) rfl rfl
theorem q172 : (Jvm.Cond.fieldLink "LongYear$Family" (23 : Nat) "LongYear$Family" "job" "I") ∈ LW := tw1 (i := 172) rfl rfl
theorem q173 : (Jvm.Cond.fieldLink "LongYear" (112 : Nat) "LongYear$Family" "job" "I") ∈ LW := tw1 (i := 173) rfl rfl
theorem q174 : (Jvm.Cond.fieldLink "LongYear$Farm" (87 : Nat) "LongYear$Family" "job" "I") ∈ LW := tw1 (i := 174) rfl rfl
theorem q175 : (Jvm.Cond.fieldLink "LongYear$Reader" (131 : Nat) "LongYear$Family" "job" "I") ∈ LW := tw1 (i := 175) rfl rfl
theorem q176 : (Jvm.Cond.lays "LongYear$Family" "LongYear$Family" "ways" "LLongYear$Farmers;") ∈ LW := tw1 (i := 176) rfl rfl
theorem q178 : (Jvm.Cond.lays "LongYear$Family" "LongYear$Family" "kind" "I") ∈ LW := tw1 (i := 178) rfl rfl
theorem q180 : (Jvm.Cond.lays "LongYear$Family" "LongYear$Family" "mouths" "I") ∈ LW := tw1 (i := 180) rfl rfl
theorem q182 : (Jvm.Cond.lays "LongYear$Family" "LongYear$Family" "memory" "I") ∈ LW := tw1 (i := 182) rfl rfl
theorem q184 : (Jvm.Cond.lays "LongYear$Family" "LongYear$Family" "job" "I") ∈ LW := tw1 (i := 184) rfl rfl
theorem q186 : (Jvm.Cond.superclass "LongYear$Family" "java/lang/Object") ∈ LW := tw1 (i := 186) rfl rfl
theorem q187 : (Jvm.Cond.fieldLink "LongYear$Farm" (17 : Nat) "LongYear$Farm" "kinds" "[LLongYear$Farmers;") ∈ LW := tw1 (i := 187) rfl rfl
theorem q188 : (Jvm.Cond.fieldLink "LongYear$Farm" (24 : Nat) "LongYear$Farm" "farmers" "LLongYear$Farmers;") ∈ LW := tw1 (i := 188) rfl rfl
theorem q189 : (Jvm.Cond.fieldLink "LongYear$Farm" (11 : Nat) "LongYear$Farm" "families" "[LLongYear$Family;") ∈ LW := tw1 (i := 189) rfl rfl
theorem q190 : (Jvm.Cond.fieldLink "LongYear$Farm" (31 : Nat) "LongYear$Farm" "nobody" "LLongYear$Family;") ∈ LW := tw1 (i := 190) rfl rfl
theorem q191 : (Jvm.Cond.fieldLink "LongYear$Farm" (35 : Nat) "LongYear$Farm" "span" "I") ∈ LW := tw1 (i := 191) rfl rfl
theorem q192 : (Jvm.Cond.fieldLink "LongYear" (76 : Nat) "LongYear$Farm" "span" "I") ∈ LW := tw1 (i := 192) rfl rfl
theorem q193 : (Jvm.Cond.fieldLink "LongYear$Farm" (39 : Nat) "LongYear$Farm" "year" "I") ∈ LW := tw1 (i := 193) rfl rfl
theorem q194 : (Jvm.Cond.fieldLink "LongYear$Trials" (60 : Nat) "LongYear$Farm" "year" "I") ∈ LW := tw1 (i := 194) rfl rfl
theorem q195 : (Jvm.Cond.fieldLink "LongYear" (328 : Nat) "LongYear$Farm" "year" "I") ∈ LW := tw1 (i := 195) rfl rfl
theorem q196 : (Jvm.Cond.fieldLink "LongYear$Farm" (42 : Nat) "LongYear$Farm" "grain" "I") ∈ LW := tw1 (i := 196) rfl rfl
theorem q197 : (Jvm.Cond.fieldLink "LongYear$Trials" (49 : Nat) "LongYear$Farm" "grain" "I") ∈ LW := tw1 (i := 197) rfl rfl
theorem q198 : (Jvm.Cond.fieldLink "LongYear" (165 : Nat) "LongYear$Farm" "grain" "I") ∈ LW := tw1 (i := 198) rfl rfl
theorem q199 : (Jvm.Cond.fieldLink "LongYear$Farm" (45 : Nat) "LongYear$Farm" "seed" "I") ∈ LW := tw1 (i := 199) rfl rfl
theorem q200 : (Jvm.Cond.fieldLink "LongYear$Farm" (48 : Nat) "LongYear$Farm" "tools" "I") ∈ LW := tw1 (i := 200) rfl rfl
theorem q201 : (Jvm.Cond.fieldLink "LongYear$Farm" (51 : Nat) "LongYear$Farm" "gas" "I") ∈ LW := tw1 (i := 201) rfl rfl
theorem q202 : (Jvm.Cond.fieldLink "LongYear$Farm" (54 : Nat) "LongYear$Farm" "size" "I") ∈ LW := tw1 (i := 202) rfl rfl
theorem q203 : (Jvm.Cond.fieldLink "LongYear$Reader" (56 : Nat) "LongYear$Farm" "size" "I") ∈ LW := tw1 (i := 203) rfl rfl
theorem q204 : (Jvm.Cond.fieldLink "LongYear" (93 : Nat) "LongYear$Farm" "size" "I") ∈ LW := tw1 (i := 204) rfl rfl
theorem q205 : (Jvm.Cond.fieldLink "LongYear$Trials" (94 : Nat) "LongYear$Farm" "size" "I") ∈ LW := tw1 (i := 205) rfl rfl
theorem q206 : (Jvm.Cond.fieldLink "LongYear$Farm" (57 : Nat) "LongYear$Farm" "wanted" "I") ∈ LW := tw1 (i := 206) rfl rfl
theorem q207 : (Jvm.Cond.fieldLink "LongYear" (331 : Nat) "LongYear$Farm" "wanted" "I") ∈ LW := tw1 (i := 207) rfl rfl
theorem q208 : (Jvm.Cond.fieldLink "LongYear$Farm" (60 : Nat) "LongYear$Farm" "colds" "I") ∈ LW := tw1 (i := 208) rfl rfl
theorem q209 : (Jvm.Cond.fieldLink "LongYear" (334 : Nat) "LongYear$Farm" "colds" "I") ∈ LW := tw1 (i := 209) rfl rfl
theorem q210 : (Jvm.Cond.laysFinal "LongYear$Farm" "LongYear$Farm" "kinds" "[LLongYear$Farmers;") ∈ LW := tw1 (i := 210) rfl rfl
theorem q212 : (Jvm.Cond.laysFinal "LongYear$Farm" "LongYear$Farm" "farmers" "LLongYear$Farmers;") ∈ LW := tw1 (i := 212) rfl rfl
theorem q214 : (Jvm.Cond.laysFinal "LongYear$Farm" "LongYear$Farm" "families" "[LLongYear$Family;") ∈ LW := tw1 (i := 214) rfl rfl
theorem q216 : (Jvm.Cond.laysFinal "LongYear$Farm" "LongYear$Farm" "nobody" "LLongYear$Family;") ∈ LW := tw1 (i := 216) rfl rfl
theorem q218 : (Jvm.Cond.lays "LongYear$Farm" "LongYear$Farm" "span" "I") ∈ LW := tw1 (i := 218) rfl rfl
theorem q220 : (Jvm.Cond.lays "LongYear$Farm" "LongYear$Farm" "year" "I") ∈ LW := tw1 (i := 220) rfl rfl
theorem q222 : (Jvm.Cond.lays "LongYear$Farm" "LongYear$Farm" "grain" "I") ∈ LW := tw1 (i := 222) rfl rfl
theorem q224 : (Jvm.Cond.lays "LongYear$Farm" "LongYear$Farm" "seed" "I") ∈ LW := tw1 (i := 224) rfl rfl
theorem q226 : (Jvm.Cond.lays "LongYear$Farm" "LongYear$Farm" "tools" "I") ∈ LW := tw1 (i := 226) rfl rfl
theorem q228 : (Jvm.Cond.lays "LongYear$Farm" "LongYear$Farm" "gas" "I") ∈ LW := tw1 (i := 228) rfl rfl
theorem q230 : (Jvm.Cond.lays "LongYear$Farm" "LongYear$Farm" "size" "I") ∈ LW := tw1 (i := 230) rfl rfl
theorem q232 : (Jvm.Cond.lays "LongYear$Farm" "LongYear$Farm" "wanted" "I") ∈ LW := tw1 (i := 232) rfl rfl
theorem q234 : (Jvm.Cond.lays "LongYear$Farm" "LongYear$Farm" "colds" "I") ∈ LW := tw1 (i := 234) rfl rfl
theorem q236 : (Jvm.Cond.superclass "LongYear$Farm" "java/lang/Object") ∈ LW := tw1 (i := 236) rfl rfl
theorem q237 : (Jvm.Cond.fieldLink "LongYear$Lump" (27 : Nat) "LongYear$Lump" "farm" "LLongYear$Farm;") ∈ LW := tw1 (i := 237) rfl rfl
theorem q238 : (Jvm.Cond.fieldLink "LongYear" (72 : Nat) "LongYear$Lump" "farm" "LLongYear$Farm;") ∈ LW := tw1 (i := 238) rfl rfl
theorem q239 : (Jvm.Cond.fieldLink "LongYear$Reader" (52 : Nat) "LongYear$Lump" "farm" "LLongYear$Farm;") ∈ LW := tw1 (i := 239) rfl rfl
theorem q240 : (Jvm.Cond.fieldLink "LongYear$Trials" (114 : Nat) "LongYear$Lump" "farm" "LLongYear$Farm;") ∈ LW := tw2 (i := 0) rfl rfl
theorem q241 : (Jvm.Cond.fieldLink "LongYear$Lump" (12 : Nat) "LongYear$Lump" "books" "LLongYear$Books;") ∈ LW := tw2 (i := 1) rfl rfl
theorem q242 : (Jvm.Cond.fieldLink "LongYear$Reader" (59 : Nat) "LongYear$Lump" "books" "LLongYear$Books;") ∈ LW := tw2 (i := 2) rfl rfl
theorem q243 : (Jvm.Cond.fieldLink "LongYear$Trials" (126 : Nat) "LongYear$Lump" "books" "LLongYear$Books;") ∈ LW := tw2 (i := 3) rfl rfl
theorem q244 : (Jvm.Cond.fieldLink "LongYear" (191 : Nat) "LongYear$Lump" "books" "LLongYear$Books;") ∈ LW := tw2 (i := 4) rfl rfl
theorem q245 : (Jvm.Cond.fieldLink "LongYear$Lump" (20 : Nat) "LongYear$Lump" "past" "[LLongYear$Farm;") ∈ LW := tw2 (i := 5) rfl rfl
theorem q246 : (Jvm.Cond.fieldLink "LongYear$Lump" (48 : Nat) "LongYear$Lump" "last" "I") ∈ LW := tw2 (i := 6) rfl rfl
theorem q247 : (Jvm.Cond.fieldLink "LongYear$Lump" (37 : Nat) "LongYear$Lump" "undoable" "I") ∈ LW := tw2 (i := 7) rfl rfl
theorem q248 : (Jvm.Cond.fieldLink "LongYear" (337 : Nat) "LongYear$Lump" "undoable" "I") ∈ LW := tw2 (i := 8) rfl rfl
theorem q249 : (Jvm.Cond.laysFinal "LongYear$Lump" "LongYear$Lump" "farm" "LLongYear$Farm;") ∈ LW := tw2 (i := 9) rfl rfl
theorem q251 : (Jvm.Cond.laysFinal "LongYear$Lump" "LongYear$Lump" "books" "LLongYear$Books;") ∈ LW := tw2 (i := 11) rfl rfl
theorem q253 : (Jvm.Cond.laysFinal "LongYear$Lump" "LongYear$Lump" "past" "[LLongYear$Farm;") ∈ LW := tw2 (i := 13) rfl rfl
theorem q255 : (Jvm.Cond.lays "LongYear$Lump" "LongYear$Lump" "last" "I") ∈ LW := tw2 (i := 15) rfl rfl
theorem q257 : (Jvm.Cond.lays "LongYear$Lump" "LongYear$Lump" "undoable" "I") ∈ LW := tw2 (i := 17) rfl rfl
theorem q259 : (Jvm.Cond.superclass "LongYear$Lump" "java/lang/Object") ∈ LW := tw2 (i := 19) rfl rfl
theorem q260 : (Jvm.Cond.classLink "LongYear" (53 : Nat) "LongYear$Trials") ∈ LW := tw2 (i := 20) rfl rfl
theorem q261 : (Jvm.Cond.instantiable "LongYear$Trials" (7 : Nat)) ∈ LW := tw2 (i := 21) rfl rfl
theorem q262 : (Jvm.Cond.methodLink "LongYear" (55 : Nat) ({ cls := "LongYear$Trials", name := "<init>", desc := "([LLongYear$Farmers;)V" } : Jvm.MethodName)) ∈ LW := tw2 (i := 22) rfl rfl
theorem q263 : (Jvm.Cond.instanceMethod ({ cls := "LongYear$Trials", name := "<init>", desc := "([LLongYear$Farmers;)V" } : Jvm.MethodName)) ∈ LW := tw2 (i := 23) rfl rfl
theorem q264 : (Jvm.Cond.code ({ cls := "LongYear$Trials", name := "<init>", desc := "([LLongYear$Farmers;)V" } : Jvm.MethodName) prog_12_method_1_code (3 : Nat) (Option.none : Option Jvm.ClassFile.FieldType)) ∈ LW := tw2 (i := 24) rfl rfl
theorem q265 : (Jvm.Cond.methodLink "LongYear$Trials" (3 : Nat) ({ cls := "java/lang/Object", name := "<init>", desc := "()V" } : Jvm.MethodName)) ∈ LW := tw2 (i := 25) rfl rfl
theorem q266 : (Jvm.Cond.classLink "LongYear$Trials" (9 : Nat) "LongYear$Farm") ∈ LW := tw2 (i := 26) rfl rfl
theorem q267 : (Jvm.Cond.methodLink "LongYear$Trials" (30 : Nat) ({ cls := "LongYear$Farm", name := "<init>", desc := "([LLongYear$Farmers;)V" } : Jvm.MethodName)) ∈ LW := tw2 (i := 27) rfl rfl
theorem q268 : (Jvm.Cond.fieldLink "LongYear$Trials" (11 : Nat) "LongYear$Trials" "farms" "[LLongYear$Farm;") ∈ LW := tw2 (i := 28) rfl rfl
theorem q269 : (Jvm.Cond.fieldLink "LongYear$Trials" (17 : Nat) "LongYear$Trials" "tried" "[I") ∈ LW := tw2 (i := 29) rfl rfl
theorem q270 : (Jvm.Cond.fieldLink "LongYear$Trials" (21 : Nat) "LongYear$Trials" "planned" "[I") ∈ LW := tw2 (i := 30) rfl rfl
theorem q271 : (Jvm.Cond.fieldLink "LongYear$Trials" (24 : Nat) "LongYear$Trials" "sums" "[I") ∈ LW := tw2 (i := 31) rfl rfl
theorem q272 : (Jvm.Cond.fieldLink "LongYear$Trials" (27 : Nat) "LongYear$Trials" "groups" "[I") ∈ LW := tw2 (i := 32) rfl rfl
theorem q273 : (Jvm.Cond.fieldLink "LongYear$Trials" (33 : Nat) "LongYear$Trials" "one" "LLongYear$Farm;") ∈ LW := tw2 (i := 33) rfl rfl
theorem q274 : (Jvm.Cond.fieldLink "LongYear$Trials" (37 : Nat) "LongYear$Trials" "mostGrain" "I") ∈ LW := tw2 (i := 34) rfl rfl
theorem q275 : (Jvm.Cond.laysFinal "LongYear$Trials" "LongYear$Trials" "farms" "[LLongYear$Farm;") ∈ LW := tw2 (i := 35) rfl rfl
theorem q277 : (Jvm.Cond.laysFinal "LongYear$Trials" "LongYear$Trials" "tried" "[I") ∈ LW := tw2 (i := 37) rfl rfl
theorem q279 : (Jvm.Cond.laysFinal "LongYear$Trials" "LongYear$Trials" "planned" "[I") ∈ LW := tw2 (i := 39) rfl rfl
theorem q281 : (Jvm.Cond.laysFinal "LongYear$Trials" "LongYear$Trials" "sums" "[I") ∈ LW := tw2 (i := 41) rfl rfl
theorem q283 : (Jvm.Cond.laysFinal "LongYear$Trials" "LongYear$Trials" "groups" "[I") ∈ LW := tw2 (i := 43) rfl rfl
theorem q285 : (Jvm.Cond.laysFinal "LongYear$Trials" "LongYear$Trials" "one" "LLongYear$Farm;") ∈ LW := tw2 (i := 45) rfl rfl
theorem q287 : (Jvm.Cond.lays "LongYear$Trials" "LongYear$Trials" "mostGrain" "I") ∈ LW := tw2 (i := 47) rfl rfl
theorem q289 : (Jvm.Cond.superclass "LongYear$Trials" "java/lang/Object") ∈ LW := tw2 (i := 49) rfl rfl
theorem q290 : (Jvm.Cond.fieldLink "LongYear" (40 : Nat) "LongYear" "lump" "LLongYear$Lump;") ∈ LW := tw2 (i := 50) rfl rfl
theorem q291 : (Jvm.Cond.fieldLink "LongYear" (44 : Nat) "LongYear" "draft" "LLongYear$Lump;") ∈ LW := tw2 (i := 51) rfl rfl
theorem q292 : (Jvm.Cond.fieldLink "LongYear" (47 : Nat) "LongYear" "firstImage" "LLongYear$Lump;") ∈ LW := tw2 (i := 52) rfl rfl
theorem q293 : (Jvm.Cond.fieldLink "LongYear" (50 : Nat) "LongYear" "secondImage" "LLongYear$Lump;") ∈ LW := tw2 (i := 53) rfl rfl
theorem q294 : (Jvm.Cond.fieldLink "LongYear" (10 : Nat) "LongYear" "text" "LLongYear$Reader;") ∈ LW := tw2 (i := 54) rfl rfl
theorem q295 : (Jvm.Cond.fieldLink "LongYear" (56 : Nat) "LongYear" "trials" "LLongYear$Trials;") ∈ LW := tw2 (i := 55) rfl rfl
theorem q296 : (Jvm.Cond.fieldLink "LongYear" (16 : Nat) "LongYear" "letters" "[I") ∈ LW := tw2 (i := 56) rfl rfl
theorem q297 : (Jvm.Cond.fieldLink "LongYear" (291 : Nat) "LongYear" "keptImages" "I") ∈ LW := tw2 (i := 57) rfl rfl
theorem q298 : (Jvm.Cond.fieldLink "LongYear" (294 : Nat) "LongYear" "bads" "I") ∈ LW := tw2 (i := 58) rfl rfl
theorem q299 : (Jvm.Cond.fieldLink "LongYear" (297 : Nat) "LongYear" "noes" "I") ∈ LW := tw2 (i := 59) rfl rfl
theorem q300 : (Jvm.Cond.fieldLink "LongYear" (300 : Nat) "LongYear" "fulls" "I") ∈ LW := tw2 (i := 60) rfl rfl
theorem q301 : (Jvm.Cond.fieldLink "LongYear" (284 : Nat) "LongYear" "above" "J") ∈ LW := tw2 (i := 61) rfl rfl
theorem q302 : (Jvm.Cond.fieldLink "LongYear" (60 : Nat) "LongYear" "below" "J") ∈ LW := tw2 (i := 62) rfl rfl
theorem q303 : (Jvm.Cond.laysFinal "LongYear" "LongYear" "lump" "LLongYear$Lump;") ∈ LW := tw2 (i := 63) rfl rfl
theorem q305 : (Jvm.Cond.laysFinal "LongYear" "LongYear" "draft" "LLongYear$Lump;") ∈ LW := tw2 (i := 65) rfl rfl
theorem q307 : (Jvm.Cond.laysFinal "LongYear" "LongYear" "firstImage" "LLongYear$Lump;") ∈ LW := tw2 (i := 67) rfl rfl
theorem q309 : (Jvm.Cond.laysFinal "LongYear" "LongYear" "secondImage" "LLongYear$Lump;") ∈ LW := tw2 (i := 69) rfl rfl
theorem q311 : (Jvm.Cond.laysFinal "LongYear" "LongYear" "text" "LLongYear$Reader;") ∈ LW := tw2 (i := 71) rfl rfl
theorem q313 : (Jvm.Cond.laysFinal "LongYear" "LongYear" "trials" "LLongYear$Trials;") ∈ LW := tw2 (i := 73) rfl rfl
theorem q315 : (Jvm.Cond.laysFinal "LongYear" "LongYear" "letters" "[I") ∈ LW := tw2 (i := 75) rfl rfl
theorem q317 : (Jvm.Cond.lays "LongYear" "LongYear" "keptImages" "I") ∈ LW := tw2 (i := 77) rfl rfl
theorem q319 : (Jvm.Cond.lays "LongYear" "LongYear" "bads" "I") ∈ LW := tw2 (i := 79) rfl rfl
theorem q321 : (Jvm.Cond.lays "LongYear" "LongYear" "noes" "I") ∈ LW := tw2 (i := 81) rfl rfl
theorem q323 : (Jvm.Cond.lays "LongYear" "LongYear" "fulls" "I") ∈ LW := tw2 (i := 83) rfl rfl
theorem q325 : (Jvm.Cond.lays "LongYear" "LongYear" "above" "J") ∈ LW := tw2 (i := 85) rfl rfl
theorem q327 : (Jvm.Cond.lays "LongYear" "LongYear" "below" "J") ∈ LW := tw2 (i := 87) rfl rfl
theorem q329 : (Jvm.Cond.superclass "LongYear" "java/lang/Object") ∈ LW := tw2 (i := 89) rfl rfl
theorem q330 : (Jvm.Cond.methodLink "LongYearLaw" (13 : Nat) ({ cls := "LongYear", name := "year", desc := "(I)I" } : Jvm.MethodName)) ∈ LW := tw2 (i := 90) rfl rfl
theorem q331 : (Jvm.Cond.instanceMethod ({ cls := "LongYear", name := "year", desc := "(I)I" } : Jvm.MethodName)) ∈ LW := tw2 (i := 91) rfl rfl
theorem q332 : (Jvm.Cond.selects "LongYear" ({ cls := "LongYear", name := "year", desc := "(I)I" } : Jvm.MethodName) ({ cls := "LongYear", name := "year", desc := "(I)I" } : Jvm.MethodName)) ∈ LW := tw2 (i := 92) rfl rfl
theorem q333 : (Jvm.Cond.code ({ cls := "LongYear", name := "year", desc := "(I)I" } : Jvm.MethodName) prog_1_method_2_code (3 : Nat) (Option.some Jvm.ClassFile.FieldType.int)) ∈ LW := tw2 (i := 93) rfl rfl
theorem q334 : (Jvm.Cond.methodLink "LongYear" (64 : Nat) ({ cls := "LongYear", name := "within", desc := "(III)Z" } : Jvm.MethodName)) ∈ LW := tw2 (i := 94) rfl rfl
theorem q335 : (Jvm.Cond.static ({ cls := "LongYear", name := "within", desc := "(III)Z" } : Jvm.MethodName)) ∈ LW := tw2 (i := 95) rfl rfl
theorem q336 : (Jvm.Cond.code ({ cls := "LongYear", name := "within", desc := "(III)Z" } : Jvm.MethodName) prog_1_method_48_code (3 : Nat) (Option.some Jvm.ClassFile.FieldType.boolean)) ∈ LW := tw2 (i := 96) rfl rfl
theorem q337 : (Jvm.Cond.methodLink "LongYear" (68 : Nat) ({ cls := "LongYear", name := "refuseBad", desc := "(I)I" } : Jvm.MethodName)) ∈ LW := tw2 (i := 97) rfl rfl
theorem q339 : (Jvm.Cond.instanceMethod ({ cls := "LongYear", name := "refuseBad", desc := "(I)I" } : Jvm.MethodName)) ∈ LW := tw2 (i := 99) rfl rfl
theorem q340 : (Jvm.Cond.code ({ cls := "LongYear", name := "refuseBad", desc := "(I)I" } : Jvm.MethodName) prog_1_method_39_code (2 : Nat) (Option.some Jvm.ClassFile.FieldType.int)) ∈ LW := tw2 (i := 100) rfl rfl
theorem q341 : (Jvm.Cond.methodLink "LongYear" (82 : Nat) ({ cls := "LongYear$Lump", name := "begin", desc := "(I)V" } : Jvm.MethodName)) ∈ LW := tw2 (i := 101) rfl rfl
theorem q342 : (Jvm.Cond.instanceMethod ({ cls := "LongYear$Lump", name := "begin", desc := "(I)V" } : Jvm.MethodName)) ∈ LW := tw2 (i := 102) rfl rfl
theorem q343 : (Jvm.Cond.selects "LongYear$Lump" ({ cls := "LongYear$Lump", name := "begin", desc := "(I)V" } : Jvm.MethodName) ({ cls := "LongYear$Lump", name := "begin", desc := "(I)V" } : Jvm.MethodName)) ∈ LW := tw2 (i := 103) rfl rfl
theorem q344 : (Jvm.Cond.code ({ cls := "LongYear$Lump", name := "begin", desc := "(I)V" } : Jvm.MethodName) prog_7_method_2_code (2 : Nat) (Option.none : Option Jvm.ClassFile.FieldType)) ∈ LW := tw2 (i := 104) rfl rfl
theorem q345 : (Jvm.Cond.methodLink "LongYear$Lump" (31 : Nat) ({ cls := "LongYear$Farm", name := "begin", desc := "(I)V" } : Jvm.MethodName)) ∈ LW := tw2 (i := 105) rfl rfl
theorem q346 : (Jvm.Cond.instanceMethod ({ cls := "LongYear$Farm", name := "begin", desc := "(I)V" } : Jvm.MethodName)) ∈ LW := tw2 (i := 106) rfl rfl
theorem q347 : (Jvm.Cond.selects "LongYear$Farm" ({ cls := "LongYear$Farm", name := "begin", desc := "(I)V" } : Jvm.MethodName) ({ cls := "LongYear$Farm", name := "begin", desc := "(I)V" } : Jvm.MethodName)) ∈ LW := tw2 (i := 107) rfl rfl
theorem q348 : (Jvm.Cond.code ({ cls := "LongYear$Farm", name := "begin", desc := "(I)V" } : Jvm.MethodName) prog_4_method_2_code (2 : Nat) (Option.none : Option Jvm.ClassFile.FieldType)) ∈ LW := tw2 (i := 108) rfl rfl
theorem q349 : (Jvm.Cond.methodLink "LongYear$Lump" (35 : Nat) ({ cls := "LongYear$Books", name := "begin", desc := "()V" } : Jvm.MethodName)) ∈ LW := tw2 (i := 109) rfl rfl
theorem q350 : (Jvm.Cond.instanceMethod ({ cls := "LongYear$Books", name := "begin", desc := "()V" } : Jvm.MethodName)) ∈ LW := tw2 (i := 110) rfl rfl
theorem q351 : (Jvm.Cond.selects "LongYear$Books" ({ cls := "LongYear$Books", name := "begin", desc := "()V" } : Jvm.MethodName) ({ cls := "LongYear$Books", name := "begin", desc := "()V" } : Jvm.MethodName)) ∈ LW := tw2 (i := 111) rfl rfl
theorem q352 : (Jvm.Cond.code ({ cls := "LongYear$Books", name := "begin", desc := "()V" } : Jvm.MethodName) prog_2_method_2_code (1 : Nat) (Option.none : Option Jvm.ClassFile.FieldType)) ∈ LW := tw2 (i := 112) rfl rfl
theorem q353 : (Jvm.Cond.methodLink "LongYearLaw" (18 : Nat) ({ cls := "LongYear", name := "store", desc := "(II)I" } : Jvm.MethodName)) ∈ LW := tw2 (i := 113) rfl rfl
theorem q354 : (Jvm.Cond.instanceMethod ({ cls := "LongYear", name := "store", desc := "(II)I" } : Jvm.MethodName)) ∈ LW := tw2 (i := 114) rfl rfl
theorem q355 : (Jvm.Cond.selects "LongYear" ({ cls := "LongYear", name := "store", desc := "(II)I" } : Jvm.MethodName) ({ cls := "LongYear", name := "store", desc := "(II)I" } : Jvm.MethodName)) ∈ LW := tw2 (i := 115) rfl rfl
theorem q356 : (Jvm.Cond.code ({ cls := "LongYear", name := "store", desc := "(II)I" } : Jvm.MethodName) prog_1_method_3_code (4 : Nat) (Option.some Jvm.ClassFile.FieldType.int)) ∈ LW := tw2 (i := 116) rfl rfl
theorem q357 : (Jvm.Cond.methodLink "LongYear" (86 : Nat) ({ cls := "LongYear$Farm", name := "stock", desc := "(I)I" } : Jvm.MethodName)) ∈ LW := tw2 (i := 117) rfl rfl
theorem q358 : (Jvm.Cond.instanceMethod ({ cls := "LongYear$Farm", name := "stock", desc := "(I)I" } : Jvm.MethodName)) ∈ LW := tw2 (i := 118) rfl rfl
theorem q359 : (Jvm.Cond.selects "LongYear$Farm" ({ cls := "LongYear$Farm", name := "stock", desc := "(I)I" } : Jvm.MethodName) ({ cls := "LongYear$Farm", name := "stock", desc := "(I)I" } : Jvm.MethodName)) ∈ LW := tw2 (i := 119) rfl rfl
theorem q360 : (Jvm.Cond.code ({ cls := "LongYear$Farm", name := "stock", desc := "(I)I" } : Jvm.MethodName) prog_4_method_8_code (2 : Nat) (Option.some Jvm.ClassFile.FieldType.int)) ∈ LW := tw2 (i := 120) rfl rfl
theorem q361 : (Jvm.Cond.methodLink "LongYear" (89 : Nat) ({ cls := "LongYear$Farm", name := "restock", desc := "(II)V" } : Jvm.MethodName)) ∈ LW := tw2 (i := 121) rfl rfl
theorem q362 : (Jvm.Cond.instanceMethod ({ cls := "LongYear$Farm", name := "restock", desc := "(II)V" } : Jvm.MethodName)) ∈ LW := tw2 (i := 122) rfl rfl
theorem q363 : (Jvm.Cond.selects "LongYear$Farm" ({ cls := "LongYear$Farm", name := "restock", desc := "(II)V" } : Jvm.MethodName) ({ cls := "LongYear$Farm", name := "restock", desc := "(II)V" } : Jvm.MethodName)) ∈ LW := tw2 (i := 123) rfl rfl
theorem q364 : (Jvm.Cond.code ({ cls := "LongYear$Farm", name := "restock", desc := "(II)V" } : Jvm.MethodName) prog_4_method_9_code (3 : Nat) (Option.none : Option Jvm.ClassFile.FieldType)) ∈ LW := tw2 (i := 124) rfl rfl
theorem q365 : (Jvm.Cond.methodLink "LongYearLaw" (23 : Nat) ({ cls := "LongYear", name := "family", desc := "(III)I" } : Jvm.MethodName)) ∈ LW := tw2 (i := 125) rfl rfl
theorem q366 : (Jvm.Cond.instanceMethod ({ cls := "LongYear", name := "family", desc := "(III)I" } : Jvm.MethodName)) ∈ LW := tw2 (i := 126) rfl rfl
theorem q367 : (Jvm.Cond.selects "LongYear" ({ cls := "LongYear", name := "family", desc := "(III)I" } : Jvm.MethodName) ({ cls := "LongYear", name := "family", desc := "(III)I" } : Jvm.MethodName)) ∈ LW := tw2 (i := 127) rfl rfl
theorem q368 : (Jvm.Cond.code ({ cls := "LongYear", name := "family", desc := "(III)I" } : Jvm.MethodName) prog_1_method_4_code (4 : Nat) (Option.some Jvm.ClassFile.FieldType.int)) ∈ LW := tw2 (i := 128) rfl rfl
theorem q369 : (Jvm.Cond.methodLink "LongYear" (96 : Nat) ({ cls := "LongYear", name := "refuseFull", desc := "()I" } : Jvm.MethodName)) ∈ LW := tw2 (i := 129) rfl rfl
theorem q371 : (Jvm.Cond.instanceMethod ({ cls := "LongYear", name := "refuseFull", desc := "()I" } : Jvm.MethodName)) ∈ LW := tw2 (i := 131) rfl rfl
theorem q372 : (Jvm.Cond.code ({ cls := "LongYear", name := "refuseFull", desc := "()I" } : Jvm.MethodName) prog_1_method_41_code (1 : Nat) (Option.some Jvm.ClassFile.FieldType.int)) ∈ LW := tw2 (i := 132) rfl rfl
theorem q373 : (Jvm.Cond.methodLink "LongYear" (100 : Nat) ({ cls := "LongYear$Farm", name := "settle", desc := "(III)I" } : Jvm.MethodName)) ∈ LW := tw2 (i := 133) rfl rfl
theorem q374 : (Jvm.Cond.instanceMethod ({ cls := "LongYear$Farm", name := "settle", desc := "(III)I" } : Jvm.MethodName)) ∈ LW := tw2 (i := 134) rfl rfl
theorem q375 : (Jvm.Cond.selects "LongYear$Farm" ({ cls := "LongYear$Farm", name := "settle", desc := "(III)I" } : Jvm.MethodName) ({ cls := "LongYear$Farm", name := "settle", desc := "(III)I" } : Jvm.MethodName)) ∈ LW := tw2 (i := 135) rfl rfl
theorem q376 : (Jvm.Cond.code ({ cls := "LongYear$Farm", name := "settle", desc := "(III)I" } : Jvm.MethodName) prog_4_method_7_code (7 : Nat) (Option.some Jvm.ClassFile.FieldType.int)) ∈ LW := tw2 (i := 136) rfl rfl
theorem q377 : (Jvm.Cond.methodLink "LongYear$Farm" (63 : Nat) ({ cls := "LongYear$Farm", name := "member", desc := "(I)LLongYear$Family;" } : Jvm.MethodName)) ∈ LW := tw2 (i := 137) rfl rfl
theorem q378 : (Jvm.Cond.instanceMethod ({ cls := "LongYear$Farm", name := "member", desc := "(I)LLongYear$Family;" } : Jvm.MethodName)) ∈ LW := tw2 (i := 138) rfl rfl
theorem q379 : (Jvm.Cond.selects "LongYear$Farm" ({ cls := "LongYear$Farm", name := "member", desc := "(I)LLongYear$Family;" } : Jvm.MethodName) ({ cls := "LongYear$Farm", name := "member", desc := "(I)LLongYear$Family;" } : Jvm.MethodName)) ∈ LW := tw2 (i := 139) rfl rfl
theorem q380 : (Jvm.Cond.code ({ cls := "LongYear$Farm", name := "member", desc := "(I)LLongYear$Family;" } : Jvm.MethodName) prog_4_method_6_code (3 : Nat) (Option.some (Jvm.ClassFile.FieldType.object "LongYear$Family"))) ∈ LW := tw2 (i := 140) rfl rfl
theorem q381 : (Jvm.Cond.methodLink "LongYearLaw" (28 : Nat) ({ cls := "LongYear", name := "job", desc := "(II)I" } : Jvm.MethodName)) ∈ LW := tw2 (i := 141) rfl rfl
theorem q382 : (Jvm.Cond.instanceMethod ({ cls := "LongYear", name := "job", desc := "(II)I" } : Jvm.MethodName)) ∈ LW := tw2 (i := 142) rfl rfl
theorem q383 : (Jvm.Cond.selects "LongYear" ({ cls := "LongYear", name := "job", desc := "(II)I" } : Jvm.MethodName) ({ cls := "LongYear", name := "job", desc := "(II)I" } : Jvm.MethodName)) ∈ LW := tw2 (i := 143) rfl rfl
theorem q384 : (Jvm.Cond.code ({ cls := "LongYear", name := "job", desc := "(II)I" } : Jvm.MethodName) prog_1_method_5_code (5 : Nat) (Option.some Jvm.ClassFile.FieldType.int)) ∈ LW := tw2 (i := 144) rfl rfl
theorem q385 : (Jvm.Cond.methodLink "LongYear" (104 : Nat) ({ cls := "LongYear", name := "isFamily", desc := "(I)Z" } : Jvm.MethodName)) ∈ LW := tw2 (i := 145) rfl rfl
theorem q387 : (Jvm.Cond.instanceMethod ({ cls := "LongYear", name := "isFamily", desc := "(I)Z" } : Jvm.MethodName)) ∈ LW := tw2 (i := 147) rfl rfl
theorem q388 : (Jvm.Cond.code ({ cls := "LongYear", name := "isFamily", desc := "(I)Z" } : Jvm.MethodName) prog_1_method_42_code (2 : Nat) (Option.some Jvm.ClassFile.FieldType.boolean)) ∈ LW := tw2 (i := 148) rfl rfl
theorem q389 : (Jvm.Cond.methodLink "LongYear" (108 : Nat) ({ cls := "LongYear$Farm", name := "member", desc := "(I)LLongYear$Family;" } : Jvm.MethodName)) ∈ LW := tw2 (i := 149) rfl rfl
theorem q390 : (Jvm.Cond.methodLink "LongYearLaw" (32 : Nat) ({ cls := "LongYear", name := "type", desc := "(I)I" } : Jvm.MethodName)) ∈ LW := tw2 (i := 150) rfl rfl
theorem q391 : (Jvm.Cond.instanceMethod ({ cls := "LongYear", name := "type", desc := "(I)I" } : Jvm.MethodName)) ∈ LW := tw2 (i := 151) rfl rfl
theorem q392 : (Jvm.Cond.selects "LongYear" ({ cls := "LongYear", name := "type", desc := "(I)I" } : Jvm.MethodName) ({ cls := "LongYear", name := "type", desc := "(I)I" } : Jvm.MethodName)) ∈ LW := tw2 (i := 152) rfl rfl
theorem q393 : (Jvm.Cond.code ({ cls := "LongYear", name := "type", desc := "(I)I" } : Jvm.MethodName) prog_1_method_6_code (2 : Nat) (Option.some Jvm.ClassFile.FieldType.int)) ∈ LW := tw2 (i := 153) rfl rfl
theorem q394 : (Jvm.Cond.methodLink "LongYear" (118 : Nat) ({ cls := "LongYear$Reader", name := "add", desc := "(I)I" } : Jvm.MethodName)) ∈ LW := tw2 (i := 154) rfl rfl
theorem q395 : (Jvm.Cond.instanceMethod ({ cls := "LongYear$Reader", name := "add", desc := "(I)I" } : Jvm.MethodName)) ∈ LW := tw2 (i := 155) rfl rfl
theorem q396 : (Jvm.Cond.selects "LongYear$Reader" ({ cls := "LongYear$Reader", name := "add", desc := "(I)I" } : Jvm.MethodName) ({ cls := "LongYear$Reader", name := "add", desc := "(I)I" } : Jvm.MethodName)) ∈ LW := tw2 (i := 156) rfl rfl
theorem q397 : (Jvm.Cond.code ({ cls := "LongYear$Reader", name := "add", desc := "(I)I" } : Jvm.MethodName) prog_9_method_2_code (2 : Nat) (Option.some Jvm.ClassFile.FieldType.int)) ∈ LW := tw2 (i := 157) rfl rfl
theorem q399 : (Jvm.Cond.static ({ cls := "LongYear", name := "put", desc := "([III)V" } : Jvm.MethodName)) ∈ LW := tw2 (i := 159) rfl rfl
theorem q400 : (Jvm.Cond.code ({ cls := "LongYear", name := "put", desc := "([III)V" } : Jvm.MethodName) prog_1_method_55_code (3 : Nat) (Option.none : Option Jvm.ClassFile.FieldType)) ∈ LW := tw2 (i := 160) rfl rfl
theorem q401 : (Jvm.Cond.methodLink "LongYearLaw" (36 : Nat) ({ cls := "LongYear", name := "clear", desc := "()I" } : Jvm.MethodName)) ∈ LW := tw2 (i := 161) rfl rfl
theorem q402 : (Jvm.Cond.instanceMethod ({ cls := "LongYear", name := "clear", desc := "()I" } : Jvm.MethodName)) ∈ LW := tw2 (i := 162) rfl rfl
theorem q403 : (Jvm.Cond.selects "LongYear" ({ cls := "LongYear", name := "clear", desc := "()I" } : Jvm.MethodName) ({ cls := "LongYear", name := "clear", desc := "()I" } : Jvm.MethodName)) ∈ LW := tw2 (i := 163) rfl rfl
theorem q404 : (Jvm.Cond.code ({ cls := "LongYear", name := "clear", desc := "()I" } : Jvm.MethodName) prog_1_method_7_code (2 : Nat) (Option.some Jvm.ClassFile.FieldType.int)) ∈ LW := tw2 (i := 164) rfl rfl
theorem q405 : (Jvm.Cond.methodLink "LongYearLaw" (41 : Nat) ({ cls := "LongYear", name := "read", desc := "()I" } : Jvm.MethodName)) ∈ LW := tw2 (i := 165) rfl rfl
theorem q406 : (Jvm.Cond.instanceMethod ({ cls := "LongYear", name := "read", desc := "()I" } : Jvm.MethodName)) ∈ LW := tw2 (i := 166) rfl rfl
theorem q407 : (Jvm.Cond.selects "LongYear" ({ cls := "LongYear", name := "read", desc := "()I" } : Jvm.MethodName) ({ cls := "LongYear", name := "read", desc := "()I" } : Jvm.MethodName)) ∈ LW := tw2 (i := 167) rfl rfl
theorem q408 : (Jvm.Cond.code ({ cls := "LongYear", name := "read", desc := "()I" } : Jvm.MethodName) prog_1_method_8_code (2 : Nat) (Option.some Jvm.ClassFile.FieldType.int)) ∈ LW := tw2 (i := 168) rfl rfl
theorem q409 : (Jvm.Cond.methodLink "LongYear" (121 : Nat) ({ cls := "LongYear$Reader", name := "readInto", desc := "(LLongYear$Lump;)I" } : Jvm.MethodName)) ∈ LW := tw2 (i := 169) rfl rfl
theorem q410 : (Jvm.Cond.instanceMethod ({ cls := "LongYear$Reader", name := "readInto", desc := "(LLongYear$Lump;)I" } : Jvm.MethodName)) ∈ LW := tw2 (i := 170) rfl rfl
theorem q411 : (Jvm.Cond.selects "LongYear$Reader" ({ cls := "LongYear$Reader", name := "readInto", desc := "(LLongYear$Lump;)I" } : Jvm.MethodName) ({ cls := "LongYear$Reader", name := "readInto", desc := "(LLongYear$Lump;)I" } : Jvm.MethodName)) ∈ LW := tw2 (i := 171) rfl rfl
theorem q412 : (Jvm.Cond.code ({ cls := "LongYear$Reader", name := "readInto", desc := "(LLongYear$Lump;)I" } : Jvm.MethodName) prog_9_method_3_code (3 : Nat) (Option.some Jvm.ClassFile.FieldType.int)) ∈ LW := tw2 (i := 172) rfl rfl
theorem q413 : (Jvm.Cond.methodLink "LongYear$Reader" (26 : Nat) ({ cls := "LongYear$Lump", name := "begin", desc := "(I)V" } : Jvm.MethodName)) ∈ LW := tw2 (i := 173) rfl rfl
theorem q414 : (Jvm.Cond.methodLink "LongYear$Reader" (35 : Nat) ({ cls := "LongYear$Reader", name := "advance", desc := "()V" } : Jvm.MethodName)) ∈ LW := tw2 (i := 174) rfl rfl
theorem q416 : (Jvm.Cond.instanceMethod ({ cls := "LongYear$Reader", name := "advance", desc := "()V" } : Jvm.MethodName)) ∈ LW := tw2 (i := 176) rfl rfl
theorem q417 : (Jvm.Cond.code ({ cls := "LongYear$Reader", name := "advance", desc := "()V" } : Jvm.MethodName) prog_9_method_9_code (2 : Nat) (Option.none : Option Jvm.ClassFile.FieldType)) ∈ LW := tw2 (i := 177) rfl rfl
theorem q419 : (Jvm.Cond.static ({ cls := "LongYear", name := "at", desc := "([II)I" } : Jvm.MethodName)) ∈ LW := tw2 (i := 179) rfl rfl
theorem q420 : (Jvm.Cond.code ({ cls := "LongYear", name := "at", desc := "([II)I" } : Jvm.MethodName) prog_1_method_54_code (2 : Nat) (Option.some Jvm.ClassFile.FieldType.int)) ∈ LW := tw2 (i := 180) rfl rfl
theorem q421 : (Jvm.Cond.methodLink "LongYear$Reader" (138 : Nat) ({ cls := "LongYear$Reader", name := "isLetter", desc := "(I)Z" } : Jvm.MethodName)) ∈ LW := tw2 (i := 181) rfl rfl
theorem q423 : (Jvm.Cond.instanceMethod ({ cls := "LongYear$Reader", name := "isLetter", desc := "(I)Z" } : Jvm.MethodName)) ∈ LW := tw2 (i := 183) rfl rfl
theorem q424 : (Jvm.Cond.code ({ cls := "LongYear$Reader", name := "isLetter", desc := "(I)Z" } : Jvm.MethodName) prog_9_method_11_code (2 : Nat) (Option.some Jvm.ClassFile.FieldType.boolean)) ∈ LW := tw2 (i := 184) rfl rfl
theorem q426 : (Jvm.Cond.methodLink "LongYear$Reader" (142 : Nat) ({ cls := "LongYear$Reader", name := "isFigure", desc := "(I)Z" } : Jvm.MethodName)) ∈ LW := tw2 (i := 186) rfl rfl
theorem q428 : (Jvm.Cond.instanceMethod ({ cls := "LongYear$Reader", name := "isFigure", desc := "(I)Z" } : Jvm.MethodName)) ∈ LW := tw2 (i := 188) rfl rfl
theorem q429 : (Jvm.Cond.code ({ cls := "LongYear$Reader", name := "isFigure", desc := "(I)Z" } : Jvm.MethodName) prog_9_method_12_code (2 : Nat) (Option.some Jvm.ClassFile.FieldType.boolean)) ∈ LW := tw2 (i := 189) rfl rfl
theorem q430 : (Jvm.Cond.methodLink "LongYear$Reader" (145 : Nat) ({ cls := "LongYear$Reader", name := "advanceNumber", desc := "()V" } : Jvm.MethodName)) ∈ LW := tw2 (i := 190) rfl rfl
theorem q432 : (Jvm.Cond.instanceMethod ({ cls := "LongYear$Reader", name := "advanceNumber", desc := "()V" } : Jvm.MethodName)) ∈ LW := tw2 (i := 192) rfl rfl
theorem q433 : (Jvm.Cond.code ({ cls := "LongYear$Reader", name := "advanceNumber", desc := "()V" } : Jvm.MethodName) prog_9_method_10_code (2 : Nat) (Option.none : Option Jvm.ClassFile.FieldType)) ∈ LW := tw2 (i := 193) rfl rfl
theorem q434 : (Jvm.Cond.methodLink "LongYear$Reader" (41 : Nat) ({ cls := "LongYear$Reader", name := "readItem", desc := "(LLongYear$Lump;Z)Z" } : Jvm.MethodName)) ∈ LW := tw2 (i := 194) rfl rfl
theorem q436 : (Jvm.Cond.instanceMethod ({ cls := "LongYear$Reader", name := "readItem", desc := "(LLongYear$Lump;Z)Z" } : Jvm.MethodName)) ∈ LW := tw2 (i := 196) rfl rfl
theorem q437 : (Jvm.Cond.code ({ cls := "LongYear$Reader", name := "readItem", desc := "(LLongYear$Lump;Z)Z" } : Jvm.MethodName) prog_9_method_4_code (5 : Nat) (Option.some Jvm.ClassFile.FieldType.boolean)) ∈ LW := tw2 (i := 197) rfl rfl
theorem q438 : (Jvm.Cond.methodLink "LongYear$Reader" (48 : Nat) ({ cls := "LongYear$Reader", name := "itemTold", desc := "()I" } : Jvm.MethodName)) ∈ LW := tw2 (i := 198) rfl rfl
theorem q440 : (Jvm.Cond.instanceMethod ({ cls := "LongYear$Reader", name := "itemTold", desc := "()I" } : Jvm.MethodName)) ∈ LW := tw2 (i := 200) rfl rfl
theorem q441 : (Jvm.Cond.code ({ cls := "LongYear$Reader", name := "itemTold", desc := "()I" } : Jvm.MethodName) prog_9_method_5_code (1 : Nat) (Option.some Jvm.ClassFile.FieldType.int)) ∈ LW := tw2 (i := 201) rfl rfl
theorem q443 : (Jvm.Cond.methodLink "LongYear$Reader" (88 : Nat) ({ cls := "LongYear$Reader", name := "spells", desc := "(Ljava/lang/String;)Z" } : Jvm.MethodName)) ∈ LW := tw2 (i := 203) rfl rfl
theorem q445 : (Jvm.Cond.instanceMethod ({ cls := "LongYear$Reader", name := "spells", desc := "(Ljava/lang/String;)Z" } : Jvm.MethodName)) ∈ LW := tw2 (i := 205) rfl rfl
theorem q446 : (Jvm.Cond.code ({ cls := "LongYear$Reader", name := "spells", desc := "(Ljava/lang/String;)Z" } : Jvm.MethodName) prog_9_method_6_code (3 : Nat) (Option.some Jvm.ClassFile.FieldType.boolean)) ∈ LW := tw2 (i := 206) rfl rfl
theorem q447 : (Jvm.Cond.methodLink "LongYear$Reader" (100 : Nat) ({ cls := "java/lang/String", name := "length", desc := "()I" } : Jvm.MethodName)) ∈ LW := tw2 (i := 207) rfl rfl
theorem q448 : (Jvm.Cond.instanceMethod ({ cls := "java/lang/String", name := "length", desc := "()I" } : Jvm.MethodName)) ∈ LW := tw2 (i := 208) rfl rfl
theorem q449 : (Jvm.Cond.selects "java/lang/String" ({ cls := "java/lang/String", name := "length", desc := "()I" } : Jvm.MethodName) ({ cls := "java/lang/String", name := "length", desc := "()I" } : Jvm.MethodName)) ∈ LW := tw2 (i := 209) rfl rfl
theorem q450 : (Jvm.Cond.code ({ cls := "java/lang/String", name := "length", desc := "()I" } : Jvm.MethodName) prog_17_method_54_code (1 : Nat) (Option.some Jvm.ClassFile.FieldType.int)) ∈ LW := tw2 (i := 210) rfl rfl
theorem q451 : (Jvm.Cond.methodLink "java/lang/String" (335 : Nat) ({ cls := "java/lang/String", name := "coder", desc := "()B" } : Jvm.MethodName)) ∈ LW := tw2 (i := 211) rfl rfl
theorem q452 : (Jvm.Cond.instanceMethod ({ cls := "java/lang/String", name := "coder", desc := "()B" } : Jvm.MethodName)) ∈ LW := tw2 (i := 212) rfl rfl
theorem q453 : (Jvm.Cond.selects "java/lang/String" ({ cls := "java/lang/String", name := "coder", desc := "()B" } : Jvm.MethodName) ({ cls := "java/lang/String", name := "coder", desc := "()B" } : Jvm.MethodName)) ∈ LW := tw2 (i := 213) rfl rfl
theorem q454 : (Jvm.Cond.code ({ cls := "java/lang/String", name := "coder", desc := "()B" } : Jvm.MethodName) prog_17_method_152_code (1 : Nat) (Option.some Jvm.ClassFile.FieldType.byte)) ∈ LW := tw2 (i := 214) rfl rfl
theorem q455 : (Jvm.Cond.fieldLink "java/lang/String" (38 : Nat) "java/lang/String" "COMPACT_STRINGS" "Z") ∈ LW := tw2 (i := 215) rfl rfl
theorem q457 : (Jvm.Cond.methodLink "LongYear$Reader" (105 : Nat) ({ cls := "java/lang/String", name := "charAt", desc := "(I)C" } : Jvm.MethodName)) ∈ LW := tw2 (i := 217) rfl rfl
theorem q458 : (Jvm.Cond.instanceMethod ({ cls := "java/lang/String", name := "charAt", desc := "(I)C" } : Jvm.MethodName)) ∈ LW := tw2 (i := 218) rfl rfl
theorem q459 : (Jvm.Cond.selects "java/lang/String" ({ cls := "java/lang/String", name := "charAt", desc := "(I)C" } : Jvm.MethodName) ({ cls := "java/lang/String", name := "charAt", desc := "(I)C" } : Jvm.MethodName)) ∈ LW := tw2 (i := 219) rfl rfl
theorem q460 : (Jvm.Cond.code ({ cls := "java/lang/String", name := "charAt", desc := "(I)C" } : Jvm.MethodName) prog_17_method_56_code (2 : Nat) (Option.some Jvm.ClassFile.FieldType.char)) ∈ LW := tw2 (i := 220) rfl rfl
theorem q461 : (Jvm.Cond.methodLink "java/lang/String" (492 : Nat) ({ cls := "java/lang/String", name := "isLatin1", desc := "()Z" } : Jvm.MethodName)) ∈ LW := tw2 (i := 221) rfl rfl
theorem q462 : (Jvm.Cond.instanceMethod ({ cls := "java/lang/String", name := "isLatin1", desc := "()Z" } : Jvm.MethodName)) ∈ LW := tw2 (i := 222) rfl rfl
theorem q463 : (Jvm.Cond.selects "java/lang/String" ({ cls := "java/lang/String", name := "isLatin1", desc := "()Z" } : Jvm.MethodName) ({ cls := "java/lang/String", name := "isLatin1", desc := "()Z" } : Jvm.MethodName)) ∈ LW := tw2 (i := 223) rfl rfl
theorem q464 : (Jvm.Cond.code ({ cls := "java/lang/String", name := "isLatin1", desc := "()Z" } : Jvm.MethodName) prog_17_method_154_code (1 : Nat) (Option.some Jvm.ClassFile.FieldType.boolean)) ∈ LW := tw2 (i := 224) rfl rfl
theorem q465 : (Jvm.Cond.methodLink "java/lang/String" (495 : Nat) ({ cls := "java/lang/StringLatin1", name := "charAt", desc := "([BI)C" } : Jvm.MethodName)) ∈ LW := tw2 (i := 225) rfl rfl
theorem q466 : (Jvm.Cond.static ({ cls := "java/lang/StringLatin1", name := "charAt", desc := "([BI)C" } : Jvm.MethodName)) ∈ LW := tw2 (i := 226) rfl rfl
theorem q467 : (Jvm.Cond.code ({ cls := "java/lang/StringLatin1", name := "charAt", desc := "([BI)C" } : Jvm.MethodName) prog_18_method_2_code (2 : Nat) (Option.some Jvm.ClassFile.FieldType.char)) ∈ LW := tw2 (i := 227) rfl rfl
theorem q468 : (Jvm.Cond.methodLink "java/lang/StringLatin1" (9 : Nat) ({ cls := "java/lang/String", name := "checkIndex", desc := "(II)V" } : Jvm.MethodName)) ∈ LW := tw2 (i := 228) rfl rfl
theorem q469 : (Jvm.Cond.static ({ cls := "java/lang/String", name := "checkIndex", desc := "(II)V" } : Jvm.MethodName)) ∈ LW := tw2 (i := 229) rfl rfl
theorem q470 : (Jvm.Cond.code ({ cls := "java/lang/String", name := "checkIndex", desc := "(II)V" } : Jvm.MethodName) prog_17_method_155_code (2 : Nat) (Option.none : Option Jvm.ClassFile.FieldType)) ∈ LW := tw2 (i := 230) rfl rfl
theorem q471 : (Jvm.Cond.fieldLink "java/lang/String" (1053 : Nat) "jdk/internal/util/Preconditions" "SIOOBE_FORMATTER" "Ljava/util/function/BiFunction;") ∈ LW := tw2 (i := 231) rfl rfl
theorem q473 : (Jvm.Cond.methodLink "java/lang/String" (1059 : Nat) ({ cls := "jdk/internal/util/Preconditions", name := "checkIndex", desc := "(IILjava/util/function/BiFunction;)I" } : Jvm.MethodName)) ∈ LW := tw2 (i := 233) rfl rfl
theorem q474 : (Jvm.Cond.static ({ cls := "jdk/internal/util/Preconditions", name := "checkIndex", desc := "(IILjava/util/function/BiFunction;)I" } : Jvm.MethodName)) ∈ LW := tw2 (i := 234) rfl rfl
theorem q475 : (Jvm.Cond.code ({ cls := "jdk/internal/util/Preconditions", name := "checkIndex", desc := "(IILjava/util/function/BiFunction;)I" } : Jvm.MethodName) prog_20_method_11_code (3 : Nat) (Option.some Jvm.ClassFile.FieldType.int)) ∈ LW := tw2 (i := 235) rfl rfl
theorem q476 : (Jvm.Cond.methodLink "java/lang/String" (498 : Nat) ({ cls := "java/lang/StringUTF16", name := "charAt", desc := "([BI)C" } : Jvm.MethodName)) ∈ LW := tw2 (i := 236) rfl rfl
theorem q477 : (Jvm.Cond.static ({ cls := "java/lang/StringUTF16", name := "charAt", desc := "([BI)C" } : Jvm.MethodName)) ∈ LW := tw2 (i := 237) rfl rfl
theorem q478 : (Jvm.Cond.code ({ cls := "java/lang/StringUTF16", name := "charAt", desc := "([BI)C" } : Jvm.MethodName) prog_19_method_83_code (2 : Nat) (Option.some Jvm.ClassFile.FieldType.char)) ∈ LW := tw2 (i := 238) rfl rfl
theorem q479 : (Jvm.Cond.methodLink "java/lang/StringUTF16" (67 : Nat) ({ cls := "java/lang/StringUTF16", name := "checkIndex", desc := "(I[B)V" } : Jvm.MethodName)) ∈ LW := tw2 (i := 239) rfl rfl
theorem q480 : (Jvm.Cond.static ({ cls := "java/lang/StringUTF16", name := "checkIndex", desc := "(I[B)V" } : Jvm.MethodName)) ∈ LW := tw3 (i := 0) rfl rfl
theorem q481 : (Jvm.Cond.code ({ cls := "java/lang/StringUTF16", name := "checkIndex", desc := "(I[B)V" } : Jvm.MethodName) prog_19_method_91_code (2 : Nat) (Option.none : Option Jvm.ClassFile.FieldType)) ∈ LW := tw3 (i := 1) rfl rfl
theorem q482 : (Jvm.Cond.methodLink "java/lang/StringUTF16" (48 : Nat) ({ cls := "java/lang/StringUTF16", name := "length", desc := "([B)I" } : Jvm.MethodName)) ∈ LW := tw3 (i := 2) rfl rfl
theorem q483 : (Jvm.Cond.static ({ cls := "java/lang/StringUTF16", name := "length", desc := "([B)I" } : Jvm.MethodName)) ∈ LW := tw3 (i := 3) rfl rfl
theorem q484 : (Jvm.Cond.code ({ cls := "java/lang/StringUTF16", name := "length", desc := "([B)I" } : Jvm.MethodName) prog_19_method_6_code (1 : Nat) (Option.some Jvm.ClassFile.FieldType.int)) ∈ LW := tw3 (i := 4) rfl rfl
theorem q485 : (Jvm.Cond.methodLink "java/lang/StringUTF16" (414 : Nat) ({ cls := "java/lang/String", name := "checkIndex", desc := "(II)V" } : Jvm.MethodName)) ∈ LW := tw3 (i := 5) rfl rfl
theorem q486 : (Jvm.Cond.methodLink "java/lang/StringUTF16" (71 : Nat) ({ cls := "java/lang/StringUTF16", name := "getChar", desc := "([BI)C" } : Jvm.MethodName)) ∈ LW := tw3 (i := 6) rfl rfl
theorem q487 : (Jvm.Cond.static ({ cls := "java/lang/StringUTF16", name := "getChar", desc := "([BI)C" } : Jvm.MethodName)) ∈ LW := tw3 (i := 7) rfl rfl
theorem q488 : (Jvm.Cond.code ({ cls := "java/lang/StringUTF16", name := "getChar", desc := "([BI)C" } : Jvm.MethodName) prog_19_method_5_code (2 : Nat) (Option.some Jvm.ClassFile.FieldType.char)) ∈ LW := tw3 (i := 8) rfl rfl
theorem q489 : (Jvm.Cond.fieldLink "java/lang/StringUTF16" (44 : Nat) "java/lang/StringUTF16" "$assertionsDisabled" "Z") ∈ LW := tw3 (i := 9) rfl rfl
theorem q491 : (Jvm.Cond.fieldLink "java/lang/StringUTF16" (59 : Nat) "java/lang/StringUTF16" "HI_BYTE_SHIFT" "I") ∈ LW := tw3 (i := 11) rfl rfl
theorem q493 : (Jvm.Cond.fieldLink "java/lang/StringUTF16" (63 : Nat) "java/lang/StringUTF16" "LO_BYTE_SHIFT" "I") ∈ LW := tw3 (i := 13) rfl rfl
theorem q499 : (Jvm.Cond.fieldLink "LongYear$Reader" (68 : Nat) "LongYear$Reader" "NUMBERS" "[I") ∈ LW := tw3 (i := 19) rfl rfl
theorem q501 : (Jvm.Cond.methodLink "LongYear$Reader" (75 : Nat) ({ cls := "LongYear$Reader", name := "fits", desc := "(III)Z" } : Jvm.MethodName)) ∈ LW := tw3 (i := 21) rfl rfl
theorem q503 : (Jvm.Cond.instanceMethod ({ cls := "LongYear$Reader", name := "fits", desc := "(III)Z" } : Jvm.MethodName)) ∈ LW := tw3 (i := 23) rfl rfl
theorem q504 : (Jvm.Cond.code ({ cls := "LongYear$Reader", name := "fits", desc := "(III)Z" } : Jvm.MethodName) prog_9_method_7_code (5 : Nat) (Option.some Jvm.ClassFile.FieldType.boolean)) ∈ LW := tw3 (i := 24) rfl rfl
theorem q505 : (Jvm.Cond.fieldLink "LongYear$Reader" (109 : Nat) "LongYear$Reader" "MOST" "[I") ∈ LW := tw3 (i := 25) rfl rfl
theorem q507 : (Jvm.Cond.fieldLink "LongYear$Reader" (112 : Nat) "LongYear$Reader" "LEAST" "[I") ∈ LW := tw3 (i := 27) rfl rfl
theorem q509 : (Jvm.Cond.methodLink "LongYear$Reader" (82 : Nat) ({ cls := "LongYear$Reader", name := "addTo", desc := "(LLongYear$Lump;I)V" } : Jvm.MethodName)) ∈ LW := tw3 (i := 29) rfl rfl
theorem q511 : (Jvm.Cond.instanceMethod ({ cls := "LongYear$Reader", name := "addTo", desc := "(LLongYear$Lump;I)V" } : Jvm.MethodName)) ∈ LW := tw3 (i := 31) rfl rfl
theorem q512 : (Jvm.Cond.code ({ cls := "LongYear$Reader", name := "addTo", desc := "(LLongYear$Lump;I)V" } : Jvm.MethodName) prog_9_method_8_code (6 : Nat) (Option.none : Option Jvm.ClassFile.FieldType)) ∈ LW := tw3 (i := 32) rfl rfl
theorem q513 : (Jvm.Cond.methodLink "LongYear$Reader" (118 : Nat) ({ cls := "LongYear$Farm", name := "begin", desc := "(I)V" } : Jvm.MethodName)) ∈ LW := tw3 (i := 33) rfl rfl
theorem q514 : (Jvm.Cond.methodLink "LongYear$Reader" (119 : Nat) ({ cls := "LongYear$Farm", name := "restock", desc := "(II)V" } : Jvm.MethodName)) ∈ LW := tw3 (i := 34) rfl rfl
theorem q515 : (Jvm.Cond.methodLink "LongYear$Reader" (123 : Nat) ({ cls := "LongYear$Farm", name := "settle", desc := "(III)I" } : Jvm.MethodName)) ∈ LW := tw3 (i := 35) rfl rfl
theorem q516 : (Jvm.Cond.methodLink "LongYear$Reader" (127 : Nat) ({ cls := "LongYear$Farm", name := "member", desc := "(I)LLongYear$Family;" } : Jvm.MethodName)) ∈ LW := tw3 (i := 36) rfl rfl
theorem q517 : (Jvm.Cond.methodLink "LongYear$Reader" (135 : Nat) ({ cls := "LongYear$Books", name := "addDebt", desc := "(III)I" } : Jvm.MethodName)) ∈ LW := tw3 (i := 37) rfl rfl
theorem q518 : (Jvm.Cond.instanceMethod ({ cls := "LongYear$Books", name := "addDebt", desc := "(III)I" } : Jvm.MethodName)) ∈ LW := tw3 (i := 38) rfl rfl
theorem q519 : (Jvm.Cond.selects "LongYear$Books" ({ cls := "LongYear$Books", name := "addDebt", desc := "(III)I" } : Jvm.MethodName) ({ cls := "LongYear$Books", name := "addDebt", desc := "(III)I" } : Jvm.MethodName)) ∈ LW := tw3 (i := 39) rfl rfl
theorem q520 : (Jvm.Cond.code ({ cls := "LongYear$Books", name := "addDebt", desc := "(III)I" } : Jvm.MethodName) prog_2_method_6_code (4 : Nat) (Option.some Jvm.ClassFile.FieldType.int)) ∈ LW := tw3 (i := 40) rfl rfl
theorem q522 : (Jvm.Cond.methodLink "LongYear" (125 : Nat) ({ cls := "LongYear$Lump", name := "setTo", desc := "(LLongYear$Lump;)V" } : Jvm.MethodName)) ∈ LW := tw3 (i := 42) rfl rfl
theorem q523 : (Jvm.Cond.instanceMethod ({ cls := "LongYear$Lump", name := "setTo", desc := "(LLongYear$Lump;)V" } : Jvm.MethodName)) ∈ LW := tw3 (i := 43) rfl rfl
theorem q524 : (Jvm.Cond.selects "LongYear$Lump" ({ cls := "LongYear$Lump", name := "setTo", desc := "(LLongYear$Lump;)V" } : Jvm.MethodName) ({ cls := "LongYear$Lump", name := "setTo", desc := "(LLongYear$Lump;)V" } : Jvm.MethodName)) ∈ LW := tw3 (i := 44) rfl rfl
theorem q525 : (Jvm.Cond.code ({ cls := "LongYear$Lump", name := "setTo", desc := "(LLongYear$Lump;)V" } : Jvm.MethodName) prog_7_method_3_code (5 : Nat) (Option.none : Option Jvm.ClassFile.FieldType)) ∈ LW := tw3 (i := 45) rfl rfl
theorem q526 : (Jvm.Cond.methodLink "LongYear$Lump" (41 : Nat) ({ cls := "LongYear$Farm", name := "setTo", desc := "(LLongYear$Farm;)V" } : Jvm.MethodName)) ∈ LW := tw3 (i := 46) rfl rfl
theorem q527 : (Jvm.Cond.instanceMethod ({ cls := "LongYear$Farm", name := "setTo", desc := "(LLongYear$Farm;)V" } : Jvm.MethodName)) ∈ LW := tw3 (i := 47) rfl rfl
theorem q528 : (Jvm.Cond.selects "LongYear$Farm" ({ cls := "LongYear$Farm", name := "setTo", desc := "(LLongYear$Farm;)V" } : Jvm.MethodName) ({ cls := "LongYear$Farm", name := "setTo", desc := "(LLongYear$Farm;)V" } : Jvm.MethodName)) ∈ LW := tw3 (i := 48) rfl rfl
theorem q529 : (Jvm.Cond.code ({ cls := "LongYear$Farm", name := "setTo", desc := "(LLongYear$Farm;)V" } : Jvm.MethodName) prog_4_method_3_code (3 : Nat) (Option.none : Option Jvm.ClassFile.FieldType)) ∈ LW := tw3 (i := 49) rfl rfl
theorem q530 : (Jvm.Cond.methodLink "LongYear$Farm" (67 : Nat) ({ cls := "LongYear$Family", name := "setTo", desc := "(LLongYear$Family;)V" } : Jvm.MethodName)) ∈ LW := tw3 (i := 50) rfl rfl
theorem q531 : (Jvm.Cond.instanceMethod ({ cls := "LongYear$Family", name := "setTo", desc := "(LLongYear$Family;)V" } : Jvm.MethodName)) ∈ LW := tw3 (i := 51) rfl rfl
theorem q532 : (Jvm.Cond.selects "LongYear$Family" ({ cls := "LongYear$Family", name := "setTo", desc := "(LLongYear$Family;)V" } : Jvm.MethodName) ({ cls := "LongYear$Family", name := "setTo", desc := "(LLongYear$Family;)V" } : Jvm.MethodName)) ∈ LW := tw3 (i := 52) rfl rfl
theorem q533 : (Jvm.Cond.code ({ cls := "LongYear$Family", name := "setTo", desc := "(LLongYear$Family;)V" } : Jvm.MethodName) prog_3_method_2_code (2 : Nat) (Option.none : Option Jvm.ClassFile.FieldType)) ∈ LW := tw3 (i := 53) rfl rfl
theorem q534 : (Jvm.Cond.methodLink "LongYear$Farm" (71 : Nat) ({ cls := "LongYear$Farm", name := "setTimeTo", desc := "(LLongYear$Farm;)V" } : Jvm.MethodName)) ∈ LW := tw3 (i := 54) rfl rfl
theorem q536 : (Jvm.Cond.instanceMethod ({ cls := "LongYear$Farm", name := "setTimeTo", desc := "(LLongYear$Farm;)V" } : Jvm.MethodName)) ∈ LW := tw3 (i := 56) rfl rfl
theorem q537 : (Jvm.Cond.code ({ cls := "LongYear$Farm", name := "setTimeTo", desc := "(LLongYear$Farm;)V" } : Jvm.MethodName) prog_4_method_5_code (2 : Nat) (Option.none : Option Jvm.ClassFile.FieldType)) ∈ LW := tw3 (i := 57) rfl rfl
theorem q538 : (Jvm.Cond.methodLink "LongYear$Lump" (45 : Nat) ({ cls := "LongYear$Books", name := "setTo", desc := "(LLongYear$Books;)V" } : Jvm.MethodName)) ∈ LW := tw3 (i := 58) rfl rfl
theorem q539 : (Jvm.Cond.instanceMethod ({ cls := "LongYear$Books", name := "setTo", desc := "(LLongYear$Books;)V" } : Jvm.MethodName)) ∈ LW := tw3 (i := 59) rfl rfl
theorem q540 : (Jvm.Cond.selects "LongYear$Books" ({ cls := "LongYear$Books", name := "setTo", desc := "(LLongYear$Books;)V" } : Jvm.MethodName) ({ cls := "LongYear$Books", name := "setTo", desc := "(LLongYear$Books;)V" } : Jvm.MethodName)) ∈ LW := tw3 (i := 60) rfl rfl
theorem q541 : (Jvm.Cond.code ({ cls := "LongYear$Books", name := "setTo", desc := "(LLongYear$Books;)V" } : Jvm.MethodName) prog_2_method_3_code (2 : Nat) (Option.none : Option Jvm.ClassFile.FieldType)) ∈ LW := tw3 (i := 61) rfl rfl
theorem q543 : (Jvm.Cond.static ({ cls := "LongYear", name := "copy", desc := "([I[I)V" } : Jvm.MethodName)) ∈ LW := tw3 (i := 63) rfl rfl
theorem q544 : (Jvm.Cond.code ({ cls := "LongYear", name := "copy", desc := "([I[I)V" } : Jvm.MethodName) prog_1_method_56_code (3 : Nat) (Option.none : Option Jvm.ClassFile.FieldType)) ∈ LW := tw3 (i := 64) rfl rfl
theorem q546 : (Jvm.Cond.static ({ cls := "LongYear", name := "farmAt", desc := "([LLongYear$Farm;I)LLongYear$Farm;" } : Jvm.MethodName)) ∈ LW := tw3 (i := 66) rfl rfl
theorem q547 : (Jvm.Cond.code ({ cls := "LongYear", name := "farmAt", desc := "([LLongYear$Farm;I)LLongYear$Farm;" } : Jvm.MethodName) prog_1_method_57_code (2 : Nat) (Option.some (Jvm.ClassFile.FieldType.object "LongYear$Farm"))) ∈ LW := tw3 (i := 67) rfl rfl
theorem q548 : (Jvm.Cond.arrayClass Jvm.ClassFile.FieldType.byte) ∈ LW := tw3 (i := 68) rfl rfl
theorem q549 : (Jvm.Cond.methodLink "LongYearLaw" (45 : Nat) ({ cls := "LongYear", name := "pass", desc := "(I)I" } : Jvm.MethodName)) ∈ LW := tw3 (i := 69) rfl rfl
theorem q550 : (Jvm.Cond.instanceMethod ({ cls := "LongYear", name := "pass", desc := "(I)I" } : Jvm.MethodName)) ∈ LW := tw3 (i := 70) rfl rfl
theorem q551 : (Jvm.Cond.selects "LongYear" ({ cls := "LongYear", name := "pass", desc := "(I)I" } : Jvm.MethodName) ({ cls := "LongYear", name := "pass", desc := "(I)I" } : Jvm.MethodName)) ∈ LW := tw3 (i := 71) rfl rfl
theorem q552 : (Jvm.Cond.code ({ cls := "LongYear", name := "pass", desc := "(I)I" } : Jvm.MethodName) prog_1_method_9_code (4 : Nat) (Option.some Jvm.ClassFile.FieldType.int)) ∈ LW := tw3 (i := 72) rfl rfl
theorem q553 : (Jvm.Cond.methodLink "LongYear" (129 : Nat) ({ cls := "LongYear$Lump", name := "goBy", desc := "()I" } : Jvm.MethodName)) ∈ LW := tw3 (i := 73) rfl rfl
theorem q554 : (Jvm.Cond.instanceMethod ({ cls := "LongYear$Lump", name := "goBy", desc := "()I" } : Jvm.MethodName)) ∈ LW := tw3 (i := 74) rfl rfl
theorem q555 : (Jvm.Cond.selects "LongYear$Lump" ({ cls := "LongYear$Lump", name := "goBy", desc := "()I" } : Jvm.MethodName) ({ cls := "LongYear$Lump", name := "goBy", desc := "()I" } : Jvm.MethodName)) ∈ LW := tw3 (i := 75) rfl rfl
theorem q556 : (Jvm.Cond.code ({ cls := "LongYear$Lump", name := "goBy", desc := "()I" } : Jvm.MethodName) prog_7_method_4_code (2 : Nat) (Option.some Jvm.ClassFile.FieldType.int)) ∈ LW := tw3 (i := 76) rfl rfl
theorem q558 : (Jvm.Cond.static ({ cls := "LongYear", name := "leftOver", desc := "(II)I" } : Jvm.MethodName)) ∈ LW := tw3 (i := 78) rfl rfl
theorem q559 : (Jvm.Cond.code ({ cls := "LongYear", name := "leftOver", desc := "(II)I" } : Jvm.MethodName) prog_1_method_49_code (2 : Nat) (Option.some Jvm.ClassFile.FieldType.int)) ∈ LW := tw3 (i := 79) rfl rfl
theorem q560 : (Jvm.Cond.methodLink "LongYear$Lump" (59 : Nat) ({ cls := "java/lang/Math", name := "min", desc := "(II)I" } : Jvm.MethodName)) ∈ LW := tw3 (i := 80) rfl rfl
theorem q561 : (Jvm.Cond.static ({ cls := "java/lang/Math", name := "min", desc := "(II)I" } : Jvm.MethodName)) ∈ LW := tw3 (i := 81) rfl rfl
theorem q562 : (Jvm.Cond.code ({ cls := "java/lang/Math", name := "min", desc := "(II)I" } : Jvm.MethodName) prog_16_method_69_code (2 : Nat) (Option.some Jvm.ClassFile.FieldType.int)) ∈ LW := tw3 (i := 82) rfl rfl
theorem q563 : (Jvm.Cond.methodLink "LongYear$Lump" (64 : Nat) ({ cls := "LongYear$Farm", name := "goBy", desc := "(Z)I" } : Jvm.MethodName)) ∈ LW := tw3 (i := 83) rfl rfl
theorem q564 : (Jvm.Cond.instanceMethod ({ cls := "LongYear$Farm", name := "goBy", desc := "(Z)I" } : Jvm.MethodName)) ∈ LW := tw3 (i := 84) rfl rfl
theorem q565 : (Jvm.Cond.selects "LongYear$Farm" ({ cls := "LongYear$Farm", name := "goBy", desc := "(Z)I" } : Jvm.MethodName) ({ cls := "LongYear$Farm", name := "goBy", desc := "(Z)I" } : Jvm.MethodName)) ∈ LW := tw3 (i := 85) rfl rfl
theorem q566 : (Jvm.Cond.code ({ cls := "LongYear$Farm", name := "goBy", desc := "(Z)I" } : Jvm.MethodName) prog_4_method_14_code (4 : Nat) (Option.some Jvm.ClassFile.FieldType.int)) ∈ LW := tw3 (i := 86) rfl rfl
theorem q567 : (Jvm.Cond.methodLink "LongYear$Farm" (94 : Nat) ({ cls := "LongYear$Farm", name := "isNoon", desc := "(I)Z" } : Jvm.MethodName)) ∈ LW := tw3 (i := 87) rfl rfl
theorem q568 : (Jvm.Cond.instanceMethod ({ cls := "LongYear$Farm", name := "isNoon", desc := "(I)Z" } : Jvm.MethodName)) ∈ LW := tw3 (i := 88) rfl rfl
theorem q569 : (Jvm.Cond.selects "LongYear$Farm" ({ cls := "LongYear$Farm", name := "isNoon", desc := "(I)Z" } : Jvm.MethodName) ({ cls := "LongYear$Farm", name := "isNoon", desc := "(I)Z" } : Jvm.MethodName)) ∈ LW := tw3 (i := 89) rfl rfl
theorem q570 : (Jvm.Cond.code ({ cls := "LongYear$Farm", name := "isNoon", desc := "(I)Z" } : Jvm.MethodName) prog_4_method_10_code (2 : Nat) (Option.some Jvm.ClassFile.FieldType.boolean)) ∈ LW := tw3 (i := 90) rfl rfl
theorem q572 : (Jvm.Cond.methodLink "LongYear$Farm" (103 : Nat) ({ cls := "LongYear$Farm", name := "sown", desc := "()I" } : Jvm.MethodName)) ∈ LW := tw3 (i := 92) rfl rfl
theorem q573 : (Jvm.Cond.instanceMethod ({ cls := "LongYear$Farm", name := "sown", desc := "()I" } : Jvm.MethodName)) ∈ LW := tw3 (i := 93) rfl rfl
theorem q574 : (Jvm.Cond.selects "LongYear$Farm" ({ cls := "LongYear$Farm", name := "sown", desc := "()I" } : Jvm.MethodName) ({ cls := "LongYear$Farm", name := "sown", desc := "()I" } : Jvm.MethodName)) ∈ LW := tw3 (i := 94) rfl rfl
theorem q575 : (Jvm.Cond.code ({ cls := "LongYear$Farm", name := "sown", desc := "()I" } : Jvm.MethodName) prog_4_method_13_code (4 : Nat) (Option.some Jvm.ClassFile.FieldType.int)) ∈ LW := tw3 (i := 95) rfl rfl
theorem q576 : (Jvm.Cond.methodLink "LongYear$Farm" (98 : Nat) ({ cls := "java/lang/Math", name := "min", desc := "(II)I" } : Jvm.MethodName)) ∈ LW := tw3 (i := 96) rfl rfl
theorem q577 : (Jvm.Cond.methodLink "LongYear$Farm" (107 : Nat) ({ cls := "LongYear$Farm", name := "harvest", desc := "(I)V" } : Jvm.MethodName)) ∈ LW := tw3 (i := 97) rfl rfl
theorem q579 : (Jvm.Cond.instanceMethod ({ cls := "LongYear$Farm", name := "harvest", desc := "(I)V" } : Jvm.MethodName)) ∈ LW := tw3 (i := 99) rfl rfl
theorem q580 : (Jvm.Cond.code ({ cls := "LongYear$Farm", name := "harvest", desc := "(I)V" } : Jvm.MethodName) prog_4_method_15_code (2 : Nat) (Option.none : Option Jvm.ClassFile.FieldType)) ∈ LW := tw3 (i := 100) rfl rfl
theorem q582 : (Jvm.Cond.static ({ cls := "LongYear", name := "stored", desc := "(I)I" } : Jvm.MethodName)) ∈ LW := tw3 (i := 102) rfl rfl
theorem q583 : (Jvm.Cond.code ({ cls := "LongYear", name := "stored", desc := "(I)I" } : Jvm.MethodName) prog_1_method_50_code (1 : Nat) (Option.some Jvm.ClassFile.FieldType.int)) ∈ LW := tw3 (i := 103) rfl rfl
theorem q584 : (Jvm.Cond.methodLink "LongYear" (340 : Nat) ({ cls := "java/lang/Math", name := "min", desc := "(II)I" } : Jvm.MethodName)) ∈ LW := tw3 (i := 104) rfl rfl
theorem q585 : (Jvm.Cond.methodLink "LongYear" (278 : Nat) ({ cls := "java/lang/Math", name := "max", desc := "(II)I" } : Jvm.MethodName)) ∈ LW := tw3 (i := 105) rfl rfl
theorem q586 : (Jvm.Cond.static ({ cls := "java/lang/Math", name := "max", desc := "(II)I" } : Jvm.MethodName)) ∈ LW := tw3 (i := 106) rfl rfl
theorem q587 : (Jvm.Cond.code ({ cls := "java/lang/Math", name := "max", desc := "(II)I" } : Jvm.MethodName) prog_16_method_65_code (2 : Nat) (Option.some Jvm.ClassFile.FieldType.int)) ∈ LW := tw3 (i := 107) rfl rfl
theorem q588 : (Jvm.Cond.methodLink "LongYear$Farm" (111 : Nat) ({ cls := "LongYear$Farm", name := "work", desc := "()V" } : Jvm.MethodName)) ∈ LW := tw3 (i := 108) rfl rfl
theorem q590 : (Jvm.Cond.instanceMethod ({ cls := "LongYear$Farm", name := "work", desc := "()V" } : Jvm.MethodName)) ∈ LW := tw3 (i := 110) rfl rfl
theorem q591 : (Jvm.Cond.code ({ cls := "LongYear$Farm", name := "work", desc := "()V" } : Jvm.MethodName) prog_4_method_16_code (3 : Nat) (Option.none : Option Jvm.ClassFile.FieldType)) ∈ LW := tw3 (i := 111) rfl rfl
theorem q592 : (Jvm.Cond.methodLink "LongYear$Farm" (134 : Nat) ({ cls := "LongYear$Farmers", name := "rests", desc := "(I)Z" } : Jvm.MethodName)) ∈ LW := tw3 (i := 112) rfl rfl
theorem q593 : (Jvm.Cond.instanceMethod ({ cls := "LongYear$Farmers", name := "rests", desc := "(I)Z" } : Jvm.MethodName)) ∈ LW := tw3 (i := 113) rfl rfl
theorem q594 : (Jvm.Cond.selects "LongYear$Farmers" ({ cls := "LongYear$Farmers", name := "rests", desc := "(I)Z" } : Jvm.MethodName) ({ cls := "LongYear$Farmers", name := "rests", desc := "(I)Z" } : Jvm.MethodName)) ∈ LW := tw3 (i := 114) rfl rfl
theorem q595 : (Jvm.Cond.sameMethod "LongYear$Farmers" "LongYear$Farmers" "rests" "(I)Z") ∈ LW := tw3 (i := 115) rfl rfl
theorem q596 : (Jvm.Cond.selects "LongYear$Keepers" ({ cls := "LongYear$Farmers", name := "rests", desc := "(I)Z" } : Jvm.MethodName) ({ cls := "LongYear$Farmers", name := "rests", desc := "(I)Z" } : Jvm.MethodName)) ∈ LW := tw3 (i := 116) rfl rfl
theorem q597 : (Jvm.Cond.selects "LongYear$Makers" ({ cls := "LongYear$Farmers", name := "rests", desc := "(I)Z" } : Jvm.MethodName) ({ cls := "LongYear$Farmers", name := "rests", desc := "(I)Z" } : Jvm.MethodName)) ∈ LW := tw3 (i := 117) rfl rfl
theorem q598 : (Jvm.Cond.selects "LongYear$Singers" ({ cls := "LongYear$Farmers", name := "rests", desc := "(I)Z" } : Jvm.MethodName) ({ cls := "LongYear$Farmers", name := "rests", desc := "(I)Z" } : Jvm.MethodName)) ∈ LW := tw3 (i := 118) rfl rfl
theorem q599 : (Jvm.Cond.selects "LongYear$Sleepers" ({ cls := "LongYear$Farmers", name := "rests", desc := "(I)Z" } : Jvm.MethodName) ({ cls := "LongYear$Sleepers", name := "rests", desc := "(I)Z" } : Jvm.MethodName)) ∈ LW := tw3 (i := 119) rfl rfl
theorem q600 : (Jvm.Cond.instanceMethod ({ cls := "LongYear$Sleepers", name := "rests", desc := "(I)Z" } : Jvm.MethodName)) ∈ LW := tw3 (i := 120) rfl rfl
theorem q601 : (Jvm.Cond.code ({ cls := "LongYear$Sleepers", name := "rests", desc := "(I)Z" } : Jvm.MethodName) prog_11_method_3_code (2 : Nat) (Option.some Jvm.ClassFile.FieldType.boolean)) ∈ LW := tw3 (i := 121) rfl rfl
theorem q602 : (Jvm.Cond.code ({ cls := "LongYear$Farmers", name := "rests", desc := "(I)Z" } : Jvm.MethodName) prog_5_method_7_code (2 : Nat) (Option.some Jvm.ClassFile.FieldType.boolean)) ∈ LW := tw3 (i := 122) rfl rfl
theorem q603 : (Jvm.Cond.methodLink "LongYear$Farm" (137 : Nat) ({ cls := "LongYear$Farm", name := "teach", desc := "(I)V" } : Jvm.MethodName)) ∈ LW := tw3 (i := 123) rfl rfl
theorem q605 : (Jvm.Cond.instanceMethod ({ cls := "LongYear$Farm", name := "teach", desc := "(I)V" } : Jvm.MethodName)) ∈ LW := tw3 (i := 125) rfl rfl
theorem q606 : (Jvm.Cond.code ({ cls := "LongYear$Farm", name := "teach", desc := "(I)V" } : Jvm.MethodName) prog_4_method_17_code (5 : Nat) (Option.none : Option Jvm.ClassFile.FieldType)) ∈ LW := tw3 (i := 126) rfl rfl
theorem q607 : (Jvm.Cond.methodLink "LongYear$Farm" (149 : Nat) ({ cls := "java/lang/Math", name := "max", desc := "(II)I" } : Jvm.MethodName)) ∈ LW := tw3 (i := 127) rfl rfl
theorem q608 : (Jvm.Cond.methodLink "LongYear$Farm" (140 : Nat) ({ cls := "LongYear$Farmers", name := "makes", desc := "()I" } : Jvm.MethodName)) ∈ LW := tw3 (i := 128) rfl rfl
theorem q609 : (Jvm.Cond.instanceMethod ({ cls := "LongYear$Farmers", name := "makes", desc := "()I" } : Jvm.MethodName)) ∈ LW := tw3 (i := 129) rfl rfl
theorem q610 : (Jvm.Cond.selects "LongYear$Farmers" ({ cls := "LongYear$Farmers", name := "makes", desc := "()I" } : Jvm.MethodName) ({ cls := "LongYear$Farmers", name := "makes", desc := "()I" } : Jvm.MethodName)) ∈ LW := tw3 (i := 130) rfl rfl
theorem q611 : (Jvm.Cond.sameMethod "LongYear$Farmers" "LongYear$Farmers" "makes" "()I") ∈ LW := tw3 (i := 131) rfl rfl
theorem q612 : (Jvm.Cond.selects "LongYear$Keepers" ({ cls := "LongYear$Farmers", name := "makes", desc := "()I" } : Jvm.MethodName) ({ cls := "LongYear$Farmers", name := "makes", desc := "()I" } : Jvm.MethodName)) ∈ LW := tw3 (i := 132) rfl rfl
theorem q613 : (Jvm.Cond.selects "LongYear$Makers" ({ cls := "LongYear$Farmers", name := "makes", desc := "()I" } : Jvm.MethodName) ({ cls := "LongYear$Makers", name := "makes", desc := "()I" } : Jvm.MethodName)) ∈ LW := tw3 (i := 133) rfl rfl
theorem q614 : (Jvm.Cond.instanceMethod ({ cls := "LongYear$Makers", name := "makes", desc := "()I" } : Jvm.MethodName)) ∈ LW := tw3 (i := 134) rfl rfl
theorem q615 : (Jvm.Cond.code ({ cls := "LongYear$Makers", name := "makes", desc := "()I" } : Jvm.MethodName) prog_8_method_2_code (1 : Nat) (Option.some Jvm.ClassFile.FieldType.int)) ∈ LW := tw3 (i := 135) rfl rfl
theorem q616 : (Jvm.Cond.methodLink "LongYear$Makers" (7 : Nat) ({ cls := "LongYear$Farmers", name := "makes", desc := "()I" } : Jvm.MethodName)) ∈ LW := tw3 (i := 136) rfl rfl
theorem q617 : (Jvm.Cond.selects "LongYear$Singers" ({ cls := "LongYear$Farmers", name := "makes", desc := "()I" } : Jvm.MethodName) ({ cls := "LongYear$Farmers", name := "makes", desc := "()I" } : Jvm.MethodName)) ∈ LW := tw3 (i := 137) rfl rfl
theorem q618 : (Jvm.Cond.selects "LongYear$Sleepers" ({ cls := "LongYear$Farmers", name := "makes", desc := "()I" } : Jvm.MethodName) ({ cls := "LongYear$Farmers", name := "makes", desc := "()I" } : Jvm.MethodName)) ∈ LW := tw3 (i := 138) rfl rfl
theorem q619 : (Jvm.Cond.code ({ cls := "LongYear$Farmers", name := "makes", desc := "()I" } : Jvm.MethodName) prog_5_method_2_code (1 : Nat) (Option.some Jvm.ClassFile.FieldType.int)) ∈ LW := tw3 (i := 139) rfl rfl
theorem q620 : (Jvm.Cond.methodLink "LongYear$Farm" (143 : Nat) ({ cls := "LongYear$Farmers", name := "tends", desc := "()I" } : Jvm.MethodName)) ∈ LW := tw3 (i := 140) rfl rfl
theorem q621 : (Jvm.Cond.instanceMethod ({ cls := "LongYear$Farmers", name := "tends", desc := "()I" } : Jvm.MethodName)) ∈ LW := tw3 (i := 141) rfl rfl
theorem q622 : (Jvm.Cond.selects "LongYear$Farmers" ({ cls := "LongYear$Farmers", name := "tends", desc := "()I" } : Jvm.MethodName) ({ cls := "LongYear$Farmers", name := "tends", desc := "()I" } : Jvm.MethodName)) ∈ LW := tw3 (i := 142) rfl rfl
theorem q623 : (Jvm.Cond.sameMethod "LongYear$Farmers" "LongYear$Farmers" "tends" "()I") ∈ LW := tw3 (i := 143) rfl rfl
theorem q624 : (Jvm.Cond.selects "LongYear$Keepers" ({ cls := "LongYear$Farmers", name := "tends", desc := "()I" } : Jvm.MethodName) ({ cls := "LongYear$Keepers", name := "tends", desc := "()I" } : Jvm.MethodName)) ∈ LW := tw3 (i := 144) rfl rfl
theorem q625 : (Jvm.Cond.instanceMethod ({ cls := "LongYear$Keepers", name := "tends", desc := "()I" } : Jvm.MethodName)) ∈ LW := tw3 (i := 145) rfl rfl
theorem q626 : (Jvm.Cond.code ({ cls := "LongYear$Keepers", name := "tends", desc := "()I" } : Jvm.MethodName) prog_6_method_2_code (1 : Nat) (Option.some Jvm.ClassFile.FieldType.int)) ∈ LW := tw3 (i := 146) rfl rfl
theorem q627 : (Jvm.Cond.methodLink "LongYear$Keepers" (7 : Nat) ({ cls := "LongYear$Farmers", name := "tends", desc := "()I" } : Jvm.MethodName)) ∈ LW := tw3 (i := 147) rfl rfl
theorem q628 : (Jvm.Cond.selects "LongYear$Makers" ({ cls := "LongYear$Farmers", name := "tends", desc := "()I" } : Jvm.MethodName) ({ cls := "LongYear$Farmers", name := "tends", desc := "()I" } : Jvm.MethodName)) ∈ LW := tw3 (i := 148) rfl rfl
theorem q629 : (Jvm.Cond.selects "LongYear$Singers" ({ cls := "LongYear$Farmers", name := "tends", desc := "()I" } : Jvm.MethodName) ({ cls := "LongYear$Singers", name := "tends", desc := "()I" } : Jvm.MethodName)) ∈ LW := tw3 (i := 149) rfl rfl
theorem q630 : (Jvm.Cond.instanceMethod ({ cls := "LongYear$Singers", name := "tends", desc := "()I" } : Jvm.MethodName)) ∈ LW := tw3 (i := 150) rfl rfl
theorem q631 : (Jvm.Cond.code ({ cls := "LongYear$Singers", name := "tends", desc := "()I" } : Jvm.MethodName) prog_10_method_2_code (1 : Nat) (Option.some Jvm.ClassFile.FieldType.int)) ∈ LW := tw3 (i := 151) rfl rfl
theorem q632 : (Jvm.Cond.methodLink "LongYear$Singers" (7 : Nat) ({ cls := "LongYear$Keepers", name := "tends", desc := "()I" } : Jvm.MethodName)) ∈ LW := tw3 (i := 152) rfl rfl
theorem q633 : (Jvm.Cond.selects "LongYear$Sleepers" ({ cls := "LongYear$Farmers", name := "tends", desc := "()I" } : Jvm.MethodName) ({ cls := "LongYear$Farmers", name := "tends", desc := "()I" } : Jvm.MethodName)) ∈ LW := tw3 (i := 153) rfl rfl
theorem q634 : (Jvm.Cond.code ({ cls := "LongYear$Farmers", name := "tends", desc := "()I" } : Jvm.MethodName) prog_5_method_3_code (1 : Nat) (Option.some Jvm.ClassFile.FieldType.int)) ∈ LW := tw3 (i := 154) rfl rfl
theorem q635 : (Jvm.Cond.methodLink "LongYear$Farm" (146 : Nat) ({ cls := "LongYear$Farmers", name := "digs", desc := "()I" } : Jvm.MethodName)) ∈ LW := tw3 (i := 155) rfl rfl
theorem q636 : (Jvm.Cond.instanceMethod ({ cls := "LongYear$Farmers", name := "digs", desc := "()I" } : Jvm.MethodName)) ∈ LW := tw3 (i := 156) rfl rfl
theorem q637 : (Jvm.Cond.selects "LongYear$Farmers" ({ cls := "LongYear$Farmers", name := "digs", desc := "()I" } : Jvm.MethodName) ({ cls := "LongYear$Farmers", name := "digs", desc := "()I" } : Jvm.MethodName)) ∈ LW := tw3 (i := 157) rfl rfl
theorem q638 : (Jvm.Cond.sameMethod "LongYear$Farmers" "LongYear$Farmers" "digs" "()I") ∈ LW := tw3 (i := 158) rfl rfl
theorem q639 : (Jvm.Cond.selects "LongYear$Keepers" ({ cls := "LongYear$Farmers", name := "digs", desc := "()I" } : Jvm.MethodName) ({ cls := "LongYear$Farmers", name := "digs", desc := "()I" } : Jvm.MethodName)) ∈ LW := tw3 (i := 159) rfl rfl
theorem q640 : (Jvm.Cond.selects "LongYear$Makers" ({ cls := "LongYear$Farmers", name := "digs", desc := "()I" } : Jvm.MethodName) ({ cls := "LongYear$Farmers", name := "digs", desc := "()I" } : Jvm.MethodName)) ∈ LW := tw3 (i := 160) rfl rfl
theorem q641 : (Jvm.Cond.selects "LongYear$Singers" ({ cls := "LongYear$Farmers", name := "digs", desc := "()I" } : Jvm.MethodName) ({ cls := "LongYear$Farmers", name := "digs", desc := "()I" } : Jvm.MethodName)) ∈ LW := tw3 (i := 161) rfl rfl
theorem q642 : (Jvm.Cond.selects "LongYear$Sleepers" ({ cls := "LongYear$Farmers", name := "digs", desc := "()I" } : Jvm.MethodName) ({ cls := "LongYear$Farmers", name := "digs", desc := "()I" } : Jvm.MethodName)) ∈ LW := tw3 (i := 162) rfl rfl
theorem q643 : (Jvm.Cond.code ({ cls := "LongYear$Farmers", name := "digs", desc := "()I" } : Jvm.MethodName) prog_5_method_4_code (1 : Nat) (Option.some Jvm.ClassFile.FieldType.int)) ∈ LW := tw3 (i := 163) rfl rfl
theorem q644 : (Jvm.Cond.methodLink "LongYear$Farm" (114 : Nat) ({ cls := "LongYear$Farm", name := "feed", desc := "(Z)I" } : Jvm.MethodName)) ∈ LW := tw3 (i := 164) rfl rfl
theorem q646 : (Jvm.Cond.instanceMethod ({ cls := "LongYear$Farm", name := "feed", desc := "(Z)I" } : Jvm.MethodName)) ∈ LW := tw3 (i := 166) rfl rfl
theorem q647 : (Jvm.Cond.code ({ cls := "LongYear$Farm", name := "feed", desc := "(Z)I" } : Jvm.MethodName) prog_4_method_18_code (4 : Nat) (Option.some Jvm.ClassFile.FieldType.int)) ∈ LW := tw3 (i := 167) rfl rfl
theorem q648 : (Jvm.Cond.methodLink "LongYear$Farm" (152 : Nat) ({ cls := "LongYear$Family", name := "needs", desc := "(Z)I" } : Jvm.MethodName)) ∈ LW := tw3 (i := 168) rfl rfl
theorem q649 : (Jvm.Cond.instanceMethod ({ cls := "LongYear$Family", name := "needs", desc := "(Z)I" } : Jvm.MethodName)) ∈ LW := tw3 (i := 169) rfl rfl
theorem q650 : (Jvm.Cond.selects "LongYear$Family" ({ cls := "LongYear$Family", name := "needs", desc := "(Z)I" } : Jvm.MethodName) ({ cls := "LongYear$Family", name := "needs", desc := "(Z)I" } : Jvm.MethodName)) ∈ LW := tw3 (i := 170) rfl rfl
theorem q651 : (Jvm.Cond.code ({ cls := "LongYear$Family", name := "needs", desc := "(Z)I" } : Jvm.MethodName) prog_3_method_3_code (2 : Nat) (Option.some Jvm.ClassFile.FieldType.int)) ∈ LW := tw3 (i := 171) rfl rfl
theorem q652 : (Jvm.Cond.methodLink "LongYear$Family" (26 : Nat) ({ cls := "LongYear$Farmers", name := "meal", desc := "(IZ)I" } : Jvm.MethodName)) ∈ LW := tw3 (i := 172) rfl rfl
theorem q653 : (Jvm.Cond.instanceMethod ({ cls := "LongYear$Farmers", name := "meal", desc := "(IZ)I" } : Jvm.MethodName)) ∈ LW := tw3 (i := 173) rfl rfl
theorem q654 : (Jvm.Cond.selects "LongYear$Farmers" ({ cls := "LongYear$Farmers", name := "meal", desc := "(IZ)I" } : Jvm.MethodName) ({ cls := "LongYear$Farmers", name := "meal", desc := "(IZ)I" } : Jvm.MethodName)) ∈ LW := tw3 (i := 174) rfl rfl
theorem q655 : (Jvm.Cond.sameMethod "LongYear$Farmers" "LongYear$Farmers" "meal" "(IZ)I") ∈ LW := tw3 (i := 175) rfl rfl
theorem q656 : (Jvm.Cond.selects "LongYear$Keepers" ({ cls := "LongYear$Farmers", name := "meal", desc := "(IZ)I" } : Jvm.MethodName) ({ cls := "LongYear$Farmers", name := "meal", desc := "(IZ)I" } : Jvm.MethodName)) ∈ LW := tw3 (i := 176) rfl rfl
theorem q657 : (Jvm.Cond.selects "LongYear$Makers" ({ cls := "LongYear$Farmers", name := "meal", desc := "(IZ)I" } : Jvm.MethodName) ({ cls := "LongYear$Makers", name := "meal", desc := "(IZ)I" } : Jvm.MethodName)) ∈ LW := tw3 (i := 177) rfl rfl
theorem q658 : (Jvm.Cond.instanceMethod ({ cls := "LongYear$Makers", name := "meal", desc := "(IZ)I" } : Jvm.MethodName)) ∈ LW := tw3 (i := 178) rfl rfl
theorem q659 : (Jvm.Cond.code ({ cls := "LongYear$Makers", name := "meal", desc := "(IZ)I" } : Jvm.MethodName) prog_8_method_3_code (3 : Nat) (Option.some Jvm.ClassFile.FieldType.int)) ∈ LW := tw3 (i := 179) rfl rfl
theorem q660 : (Jvm.Cond.methodLink "LongYear$Makers" (11 : Nat) ({ cls := "LongYear$Farmers", name := "meal", desc := "(IZ)I" } : Jvm.MethodName)) ∈ LW := tw3 (i := 180) rfl rfl
theorem q661 : (Jvm.Cond.selects "LongYear$Singers" ({ cls := "LongYear$Farmers", name := "meal", desc := "(IZ)I" } : Jvm.MethodName) ({ cls := "LongYear$Farmers", name := "meal", desc := "(IZ)I" } : Jvm.MethodName)) ∈ LW := tw3 (i := 181) rfl rfl
theorem q662 : (Jvm.Cond.selects "LongYear$Sleepers" ({ cls := "LongYear$Farmers", name := "meal", desc := "(IZ)I" } : Jvm.MethodName) ({ cls := "LongYear$Sleepers", name := "meal", desc := "(IZ)I" } : Jvm.MethodName)) ∈ LW := tw3 (i := 182) rfl rfl
theorem q663 : (Jvm.Cond.instanceMethod ({ cls := "LongYear$Sleepers", name := "meal", desc := "(IZ)I" } : Jvm.MethodName)) ∈ LW := tw3 (i := 183) rfl rfl
theorem q664 : (Jvm.Cond.code ({ cls := "LongYear$Sleepers", name := "meal", desc := "(IZ)I" } : Jvm.MethodName) prog_11_method_2_code (4 : Nat) (Option.some Jvm.ClassFile.FieldType.int)) ∈ LW := tw3 (i := 184) rfl rfl
theorem q665 : (Jvm.Cond.methodLink "LongYear$Sleepers" (7 : Nat) ({ cls := "LongYear$Farmers", name := "meal", desc := "(IZ)I" } : Jvm.MethodName)) ∈ LW := tw3 (i := 185) rfl rfl
theorem q666 : (Jvm.Cond.code ({ cls := "LongYear$Farmers", name := "meal", desc := "(IZ)I" } : Jvm.MethodName) prog_5_method_5_code (3 : Nat) (Option.some Jvm.ClassFile.FieldType.int)) ∈ LW := tw3 (i := 186) rfl rfl
theorem q667 : (Jvm.Cond.methodLink "LongYear$Farm" (118 : Nat) ({ cls := "LongYear$Farm", name := "remember", desc := "()V" } : Jvm.MethodName)) ∈ LW := tw3 (i := 187) rfl rfl
theorem q669 : (Jvm.Cond.instanceMethod ({ cls := "LongYear$Farm", name := "remember", desc := "()V" } : Jvm.MethodName)) ∈ LW := tw3 (i := 189) rfl rfl
theorem q670 : (Jvm.Cond.code ({ cls := "LongYear$Farm", name := "remember", desc := "()V" } : Jvm.MethodName) prog_4_method_22_code (2 : Nat) (Option.none : Option Jvm.ClassFile.FieldType)) ∈ LW := tw3 (i := 190) rfl rfl
theorem q671 : (Jvm.Cond.methodLink "LongYear$Farm" (121 : Nat) ({ cls := "LongYear$Farm", name := "warm", desc := "()V" } : Jvm.MethodName)) ∈ LW := tw3 (i := 191) rfl rfl
theorem q673 : (Jvm.Cond.instanceMethod ({ cls := "LongYear$Farm", name := "warm", desc := "()V" } : Jvm.MethodName)) ∈ LW := tw3 (i := 193) rfl rfl
theorem q674 : (Jvm.Cond.code ({ cls := "LongYear$Farm", name := "warm", desc := "()V" } : Jvm.MethodName) prog_4_method_19_code (3 : Nat) (Option.none : Option Jvm.ClassFile.FieldType)) ∈ LW := tw3 (i := 194) rfl rfl
theorem q675 : (Jvm.Cond.methodLink "LongYear$Farm" (124 : Nat) ({ cls := "LongYear$Farm", name := "lose", desc := "()V" } : Jvm.MethodName)) ∈ LW := tw3 (i := 195) rfl rfl
theorem q677 : (Jvm.Cond.instanceMethod ({ cls := "LongYear$Farm", name := "lose", desc := "()V" } : Jvm.MethodName)) ∈ LW := tw3 (i := 197) rfl rfl
theorem q678 : (Jvm.Cond.code ({ cls := "LongYear$Farm", name := "lose", desc := "()V" } : Jvm.MethodName) prog_4_method_20_code (1 : Nat) (Option.none : Option Jvm.ClassFile.FieldType)) ∈ LW := tw3 (i := 198) rfl rfl
theorem q679 : (Jvm.Cond.methodLink "LongYear$Farm" (127 : Nat) ({ cls := "LongYear$Farm", name := "forget", desc := "()V" } : Jvm.MethodName)) ∈ LW := tw3 (i := 199) rfl rfl
theorem q681 : (Jvm.Cond.instanceMethod ({ cls := "LongYear$Farm", name := "forget", desc := "()V" } : Jvm.MethodName)) ∈ LW := tw3 (i := 201) rfl rfl
theorem q682 : (Jvm.Cond.code ({ cls := "LongYear$Farm", name := "forget", desc := "()V" } : Jvm.MethodName) prog_4_method_21_code (3 : Nat) (Option.none : Option Jvm.ClassFile.FieldType)) ∈ LW := tw3 (i := 202) rfl rfl
theorem q683 : (Jvm.Cond.methodLink "LongYear$Farm" (155 : Nat) ({ cls := "LongYear$Farmers", name := "forgets", desc := "()I" } : Jvm.MethodName)) ∈ LW := tw3 (i := 203) rfl rfl
theorem q684 : (Jvm.Cond.instanceMethod ({ cls := "LongYear$Farmers", name := "forgets", desc := "()I" } : Jvm.MethodName)) ∈ LW := tw3 (i := 204) rfl rfl
theorem q685 : (Jvm.Cond.selects "LongYear$Farmers" ({ cls := "LongYear$Farmers", name := "forgets", desc := "()I" } : Jvm.MethodName) ({ cls := "LongYear$Farmers", name := "forgets", desc := "()I" } : Jvm.MethodName)) ∈ LW := tw3 (i := 205) rfl rfl
theorem q686 : (Jvm.Cond.sameMethod "LongYear$Farmers" "LongYear$Farmers" "forgets" "()I") ∈ LW := tw3 (i := 206) rfl rfl
theorem q687 : (Jvm.Cond.selects "LongYear$Keepers" ({ cls := "LongYear$Farmers", name := "forgets", desc := "()I" } : Jvm.MethodName) ({ cls := "LongYear$Farmers", name := "forgets", desc := "()I" } : Jvm.MethodName)) ∈ LW := tw3 (i := 207) rfl rfl
theorem q688 : (Jvm.Cond.selects "LongYear$Makers" ({ cls := "LongYear$Farmers", name := "forgets", desc := "()I" } : Jvm.MethodName) ({ cls := "LongYear$Farmers", name := "forgets", desc := "()I" } : Jvm.MethodName)) ∈ LW := tw3 (i := 208) rfl rfl
theorem q689 : (Jvm.Cond.selects "LongYear$Singers" ({ cls := "LongYear$Farmers", name := "forgets", desc := "()I" } : Jvm.MethodName) ({ cls := "LongYear$Singers", name := "forgets", desc := "()I" } : Jvm.MethodName)) ∈ LW := tw3 (i := 209) rfl rfl
theorem q690 : (Jvm.Cond.instanceMethod ({ cls := "LongYear$Singers", name := "forgets", desc := "()I" } : Jvm.MethodName)) ∈ LW := tw3 (i := 210) rfl rfl
theorem q691 : (Jvm.Cond.code ({ cls := "LongYear$Singers", name := "forgets", desc := "()I" } : Jvm.MethodName) prog_10_method_3_code (1 : Nat) (Option.some Jvm.ClassFile.FieldType.int)) ∈ LW := tw3 (i := 211) rfl rfl
theorem q692 : (Jvm.Cond.selects "LongYear$Sleepers" ({ cls := "LongYear$Farmers", name := "forgets", desc := "()I" } : Jvm.MethodName) ({ cls := "LongYear$Farmers", name := "forgets", desc := "()I" } : Jvm.MethodName)) ∈ LW := tw3 (i := 212) rfl rfl
theorem q693 : (Jvm.Cond.code ({ cls := "LongYear$Farmers", name := "forgets", desc := "()I" } : Jvm.MethodName) prog_5_method_6_code (1 : Nat) (Option.some Jvm.ClassFile.FieldType.int)) ∈ LW := tw3 (i := 213) rfl rfl
theorem q694 : (Jvm.Cond.methodLink "LongYearLaw" (49 : Nat) ({ cls := "LongYear", name := "undo", desc := "()I" } : Jvm.MethodName)) ∈ LW := tw3 (i := 214) rfl rfl
theorem q695 : (Jvm.Cond.instanceMethod ({ cls := "LongYear", name := "undo", desc := "()I" } : Jvm.MethodName)) ∈ LW := tw3 (i := 215) rfl rfl
theorem q696 : (Jvm.Cond.selects "LongYear" ({ cls := "LongYear", name := "undo", desc := "()I" } : Jvm.MethodName) ({ cls := "LongYear", name := "undo", desc := "()I" } : Jvm.MethodName)) ∈ LW := tw3 (i := 216) rfl rfl
theorem q697 : (Jvm.Cond.code ({ cls := "LongYear", name := "undo", desc := "()I" } : Jvm.MethodName) prog_1_method_10_code (1 : Nat) (Option.some Jvm.ClassFile.FieldType.int)) ∈ LW := tw3 (i := 217) rfl rfl
theorem q698 : (Jvm.Cond.methodLink "LongYear" (132 : Nat) ({ cls := "LongYear$Lump", name := "goBack", desc := "()Z" } : Jvm.MethodName)) ∈ LW := tw3 (i := 218) rfl rfl
theorem q699 : (Jvm.Cond.instanceMethod ({ cls := "LongYear$Lump", name := "goBack", desc := "()Z" } : Jvm.MethodName)) ∈ LW := tw3 (i := 219) rfl rfl
theorem q700 : (Jvm.Cond.selects "LongYear$Lump" ({ cls := "LongYear$Lump", name := "goBack", desc := "()Z" } : Jvm.MethodName) ({ cls := "LongYear$Lump", name := "goBack", desc := "()Z" } : Jvm.MethodName)) ∈ LW := tw3 (i := 220) rfl rfl
theorem q701 : (Jvm.Cond.code ({ cls := "LongYear$Lump", name := "goBack", desc := "()Z" } : Jvm.MethodName) prog_7_method_5_code (2 : Nat) (Option.some Jvm.ClassFile.FieldType.boolean)) ∈ LW := tw3 (i := 221) rfl rfl
theorem q702 : (Jvm.Cond.methodLink "LongYear$Lump" (68 : Nat) ({ cls := "LongYear$Farm", name := "goBackTo", desc := "(LLongYear$Farm;)V" } : Jvm.MethodName)) ∈ LW := tw3 (i := 222) rfl rfl
theorem q703 : (Jvm.Cond.instanceMethod ({ cls := "LongYear$Farm", name := "goBackTo", desc := "(LLongYear$Farm;)V" } : Jvm.MethodName)) ∈ LW := tw3 (i := 223) rfl rfl
theorem q704 : (Jvm.Cond.selects "LongYear$Farm" ({ cls := "LongYear$Farm", name := "goBackTo", desc := "(LLongYear$Farm;)V" } : Jvm.MethodName) ({ cls := "LongYear$Farm", name := "goBackTo", desc := "(LLongYear$Farm;)V" } : Jvm.MethodName)) ∈ LW := tw3 (i := 224) rfl rfl
theorem q705 : (Jvm.Cond.code ({ cls := "LongYear$Farm", name := "goBackTo", desc := "(LLongYear$Farm;)V" } : Jvm.MethodName) prog_4_method_4_code (5 : Nat) (Option.none : Option Jvm.ClassFile.FieldType)) ∈ LW := tw3 (i := 225) rfl rfl
theorem q706 : (Jvm.Cond.methodLink "LongYear" (136 : Nat) ({ cls := "LongYear", name := "refuseNo", desc := "()I" } : Jvm.MethodName)) ∈ LW := tw3 (i := 226) rfl rfl
theorem q708 : (Jvm.Cond.instanceMethod ({ cls := "LongYear", name := "refuseNo", desc := "()I" } : Jvm.MethodName)) ∈ LW := tw3 (i := 228) rfl rfl
theorem q709 : (Jvm.Cond.code ({ cls := "LongYear", name := "refuseNo", desc := "()I" } : Jvm.MethodName) prog_1_method_40_code (1 : Nat) (Option.some Jvm.ClassFile.FieldType.int)) ∈ LW := tw3 (i := 229) rfl rfl
theorem q710 : (Jvm.Cond.methodLink "LongYearLaw" (53 : Nat) ({ cls := "LongYear", name := "about", desc := "(II)I" } : Jvm.MethodName)) ∈ LW := tw3 (i := 230) rfl rfl
theorem q711 : (Jvm.Cond.instanceMethod ({ cls := "LongYear", name := "about", desc := "(II)I" } : Jvm.MethodName)) ∈ LW := tw3 (i := 231) rfl rfl
theorem q712 : (Jvm.Cond.selects "LongYear" ({ cls := "LongYear", name := "about", desc := "(II)I" } : Jvm.MethodName) ({ cls := "LongYear", name := "about", desc := "(II)I" } : Jvm.MethodName)) ∈ LW := tw3 (i := 232) rfl rfl
theorem q713 : (Jvm.Cond.code ({ cls := "LongYear", name := "about", desc := "(II)I" } : Jvm.MethodName) prog_1_method_11_code (4 : Nat) (Option.some Jvm.ClassFile.FieldType.int)) ∈ LW := tw3 (i := 233) rfl rfl
theorem q714 : (Jvm.Cond.methodLink "LongYearLaw" (57 : Nat) ({ cls := "LongYear", name := "eats", desc := "(II)I" } : Jvm.MethodName)) ∈ LW := tw3 (i := 234) rfl rfl
theorem q715 : (Jvm.Cond.instanceMethod ({ cls := "LongYear", name := "eats", desc := "(II)I" } : Jvm.MethodName)) ∈ LW := tw3 (i := 235) rfl rfl
theorem q716 : (Jvm.Cond.selects "LongYear" ({ cls := "LongYear", name := "eats", desc := "(II)I" } : Jvm.MethodName) ({ cls := "LongYear", name := "eats", desc := "(II)I" } : Jvm.MethodName)) ∈ LW := tw3 (i := 236) rfl rfl
theorem q717 : (Jvm.Cond.code ({ cls := "LongYear", name := "eats", desc := "(II)I" } : Jvm.MethodName) prog_1_method_12_code (3 : Nat) (Option.some Jvm.ClassFile.FieldType.int)) ∈ LW := tw3 (i := 237) rfl rfl
theorem q718 : (Jvm.Cond.methodLink "LongYear" (148 : Nat) ({ cls := "LongYear$Farm", name := "isNoon", desc := "(I)Z" } : Jvm.MethodName)) ∈ LW := tw3 (i := 238) rfl rfl
theorem q719 : (Jvm.Cond.methodLink "LongYear" (151 : Nat) ({ cls := "LongYear$Family", name := "needs", desc := "(Z)I" } : Jvm.MethodName)) ∈ LW := tw3 (i := 239) rfl rfl
theorem q720 : (Jvm.Cond.methodLink "LongYearLaw" (61 : Nat) ({ cls := "LongYear", name := "fields", desc := "()I" } : Jvm.MethodName)) ∈ LW := tw4 (i := 0) rfl rfl
theorem q721 : (Jvm.Cond.instanceMethod ({ cls := "LongYear", name := "fields", desc := "()I" } : Jvm.MethodName)) ∈ LW := tw4 (i := 1) rfl rfl
theorem q722 : (Jvm.Cond.selects "LongYear" ({ cls := "LongYear", name := "fields", desc := "()I" } : Jvm.MethodName) ({ cls := "LongYear", name := "fields", desc := "()I" } : Jvm.MethodName)) ∈ LW := tw4 (i := 2) rfl rfl
theorem q723 : (Jvm.Cond.code ({ cls := "LongYear", name := "fields", desc := "()I" } : Jvm.MethodName) prog_1_method_13_code (1 : Nat) (Option.some Jvm.ClassFile.FieldType.int)) ∈ LW := tw4 (i := 3) rfl rfl
theorem q724 : (Jvm.Cond.methodLink "LongYear" (155 : Nat) ({ cls := "LongYear$Farm", name := "sown", desc := "()I" } : Jvm.MethodName)) ∈ LW := tw4 (i := 4) rfl rfl
theorem q725 : (Jvm.Cond.methodLink "LongYearLaw" (65 : Nat) ({ cls := "LongYear", name := "plan", desc := "(II)I" } : Jvm.MethodName)) ∈ LW := tw4 (i := 5) rfl rfl
theorem q726 : (Jvm.Cond.instanceMethod ({ cls := "LongYear", name := "plan", desc := "(II)I" } : Jvm.MethodName)) ∈ LW := tw4 (i := 6) rfl rfl
theorem q727 : (Jvm.Cond.selects "LongYear" ({ cls := "LongYear", name := "plan", desc := "(II)I" } : Jvm.MethodName) ({ cls := "LongYear", name := "plan", desc := "(II)I" } : Jvm.MethodName)) ∈ LW := tw4 (i := 7) rfl rfl
theorem q728 : (Jvm.Cond.code ({ cls := "LongYear", name := "plan", desc := "(II)I" } : Jvm.MethodName) prog_1_method_14_code (4 : Nat) (Option.some Jvm.ClassFile.FieldType.int)) ∈ LW := tw4 (i := 8) rfl rfl
theorem q729 : (Jvm.Cond.methodLink "LongYear" (158 : Nat) ({ cls := "LongYear$Trials", name := "bestPlan", desc := "(LLongYear$Farm;I)I" } : Jvm.MethodName)) ∈ LW := tw4 (i := 9) rfl rfl
theorem q730 : (Jvm.Cond.instanceMethod ({ cls := "LongYear$Trials", name := "bestPlan", desc := "(LLongYear$Farm;I)I" } : Jvm.MethodName)) ∈ LW := tw4 (i := 10) rfl rfl
theorem q731 : (Jvm.Cond.selects "LongYear$Trials" ({ cls := "LongYear$Trials", name := "bestPlan", desc := "(LLongYear$Farm;I)I" } : Jvm.MethodName) ({ cls := "LongYear$Trials", name := "bestPlan", desc := "(LLongYear$Farm;I)I" } : Jvm.MethodName)) ∈ LW := tw4 (i := 11) rfl rfl
theorem q732 : (Jvm.Cond.code ({ cls := "LongYear$Trials", name := "bestPlan", desc := "(LLongYear$Farm;I)I" } : Jvm.MethodName) prog_12_method_2_code (3 : Nat) (Option.some Jvm.ClassFile.FieldType.int)) ∈ LW := tw4 (i := 12) rfl rfl
theorem q733 : (Jvm.Cond.methodLink "LongYear$Trials" (41 : Nat) ({ cls := "LongYear$Trials", name := "planFrom", desc := "(LLongYear$Trials;LLongYear$Farm;II)V" } : Jvm.MethodName)) ∈ LW := tw4 (i := 13) rfl rfl
theorem q734 : (Jvm.Cond.static ({ cls := "LongYear$Trials", name := "planFrom", desc := "(LLongYear$Trials;LLongYear$Farm;II)V" } : Jvm.MethodName)) ∈ LW := tw4 (i := 14) rfl rfl
theorem q735 : (Jvm.Cond.code ({ cls := "LongYear$Trials", name := "planFrom", desc := "(LLongYear$Trials;LLongYear$Farm;II)V" } : Jvm.MethodName) prog_12_method_4_code (7 : Nat) (Option.none : Option Jvm.ClassFile.FieldType)) ∈ LW := tw4 (i := 15) rfl rfl
theorem q736 : (Jvm.Cond.methodLink "LongYear$Trials" (52 : Nat) ({ cls := "LongYear$Trials", name := "keepIfMost", desc := "(I)V" } : Jvm.MethodName)) ∈ LW := tw4 (i := 16) rfl rfl
theorem q738 : (Jvm.Cond.instanceMethod ({ cls := "LongYear$Trials", name := "keepIfMost", desc := "(I)V" } : Jvm.MethodName)) ∈ LW := tw4 (i := 18) rfl rfl
theorem q739 : (Jvm.Cond.code ({ cls := "LongYear$Trials", name := "keepIfMost", desc := "(I)V" } : Jvm.MethodName) prog_12_method_5_code (2 : Nat) (Option.none : Option Jvm.ClassFile.FieldType)) ∈ LW := tw4 (i := 19) rfl rfl
theorem q742 : (Jvm.Cond.methodLink "LongYear$Trials" (63 : Nat) ({ cls := "LongYear$Farm", name := "isNoon", desc := "(I)Z" } : Jvm.MethodName)) ∈ LW := tw4 (i := 22) rfl rfl
theorem q744 : (Jvm.Cond.methodLink "LongYear$Trials" (71 : Nat) ({ cls := "LongYear$Farm", name := "setTo", desc := "(LLongYear$Farm;)V" } : Jvm.MethodName)) ∈ LW := tw4 (i := 24) rfl rfl
theorem q745 : (Jvm.Cond.methodLink "LongYear$Trials" (75 : Nat) ({ cls := "LongYear$Farm", name := "allDo", desc := "(I)V" } : Jvm.MethodName)) ∈ LW := tw4 (i := 25) rfl rfl
theorem q746 : (Jvm.Cond.instanceMethod ({ cls := "LongYear$Farm", name := "allDo", desc := "(I)V" } : Jvm.MethodName)) ∈ LW := tw4 (i := 26) rfl rfl
theorem q747 : (Jvm.Cond.selects "LongYear$Farm" ({ cls := "LongYear$Farm", name := "allDo", desc := "(I)V" } : Jvm.MethodName) ({ cls := "LongYear$Farm", name := "allDo", desc := "(I)V" } : Jvm.MethodName)) ∈ LW := tw4 (i := 27) rfl rfl
theorem q748 : (Jvm.Cond.code ({ cls := "LongYear$Farm", name := "allDo", desc := "(I)V" } : Jvm.MethodName) prog_4_method_23_code (3 : Nat) (Option.none : Option Jvm.ClassFile.FieldType)) ∈ LW := tw4 (i := 28) rfl rfl
theorem q749 : (Jvm.Cond.methodLink "LongYear$Trials" (78 : Nat) ({ cls := "LongYear$Farm", name := "goBy", desc := "(Z)I" } : Jvm.MethodName)) ∈ LW := tw4 (i := 29) rfl rfl
theorem q750 : (Jvm.Cond.methodLink "LongYear" (162 : Nat) ({ cls := "LongYear$Trials", name := "plannedJob", desc := "(I)I" } : Jvm.MethodName)) ∈ LW := tw4 (i := 30) rfl rfl
theorem q751 : (Jvm.Cond.instanceMethod ({ cls := "LongYear$Trials", name := "plannedJob", desc := "(I)I" } : Jvm.MethodName)) ∈ LW := tw4 (i := 31) rfl rfl
theorem q752 : (Jvm.Cond.selects "LongYear$Trials" ({ cls := "LongYear$Trials", name := "plannedJob", desc := "(I)I" } : Jvm.MethodName) ({ cls := "LongYear$Trials", name := "plannedJob", desc := "(I)I" } : Jvm.MethodName)) ∈ LW := tw4 (i := 32) rfl rfl
theorem q753 : (Jvm.Cond.code ({ cls := "LongYear$Trials", name := "plannedJob", desc := "(I)I" } : Jvm.MethodName) prog_12_method_3_code (2 : Nat) (Option.some Jvm.ClassFile.FieldType.int)) ∈ LW := tw4 (i := 33) rfl rfl
theorem q755 : (Jvm.Cond.methodLink "LongYearLaw" (69 : Nat) ({ cls := "LongYear", name := "want", desc := "(I)I" } : Jvm.MethodName)) ∈ LW := tw4 (i := 35) rfl rfl
theorem q756 : (Jvm.Cond.instanceMethod ({ cls := "LongYear", name := "want", desc := "(I)I" } : Jvm.MethodName)) ∈ LW := tw4 (i := 36) rfl rfl
theorem q757 : (Jvm.Cond.selects "LongYear" ({ cls := "LongYear", name := "want", desc := "(I)I" } : Jvm.MethodName) ({ cls := "LongYear", name := "want", desc := "(I)I" } : Jvm.MethodName)) ∈ LW := tw4 (i := 37) rfl rfl
theorem q758 : (Jvm.Cond.code ({ cls := "LongYear", name := "want", desc := "(I)I" } : Jvm.MethodName) prog_1_method_15_code (2 : Nat) (Option.some Jvm.ClassFile.FieldType.int)) ∈ LW := tw4 (i := 38) rfl rfl
theorem q759 : (Jvm.Cond.methodLink "LongYear" (168 : Nat) ({ cls := "LongYear$Trials", name := "firstWant", desc := "(LLongYear$Farm;II)I" } : Jvm.MethodName)) ∈ LW := tw4 (i := 39) rfl rfl
theorem q760 : (Jvm.Cond.instanceMethod ({ cls := "LongYear$Trials", name := "firstWant", desc := "(LLongYear$Farm;II)I" } : Jvm.MethodName)) ∈ LW := tw4 (i := 40) rfl rfl
theorem q761 : (Jvm.Cond.selects "LongYear$Trials" ({ cls := "LongYear$Trials", name := "firstWant", desc := "(LLongYear$Farm;II)I" } : Jvm.MethodName) ({ cls := "LongYear$Trials", name := "firstWant", desc := "(LLongYear$Farm;II)I" } : Jvm.MethodName)) ∈ LW := tw4 (i := 41) rfl rfl
theorem q762 : (Jvm.Cond.code ({ cls := "LongYear$Trials", name := "firstWant", desc := "(LLongYear$Farm;II)I" } : Jvm.MethodName) prog_12_method_6_code (5 : Nat) (Option.some Jvm.ClassFile.FieldType.int)) ∈ LW := tw4 (i := 42) rfl rfl
theorem q763 : (Jvm.Cond.methodLink "LongYearLaw" (73 : Nat) ({ cls := "LongYear", name := "held", desc := "(I)I" } : Jvm.MethodName)) ∈ LW := tw4 (i := 43) rfl rfl
theorem q764 : (Jvm.Cond.instanceMethod ({ cls := "LongYear", name := "held", desc := "(I)I" } : Jvm.MethodName)) ∈ LW := tw4 (i := 44) rfl rfl
theorem q765 : (Jvm.Cond.selects "LongYear" ({ cls := "LongYear", name := "held", desc := "(I)I" } : Jvm.MethodName) ({ cls := "LongYear", name := "held", desc := "(I)I" } : Jvm.MethodName)) ∈ LW := tw4 (i := 45) rfl rfl
theorem q766 : (Jvm.Cond.code ({ cls := "LongYear", name := "held", desc := "(I)I" } : Jvm.MethodName) prog_1_method_16_code (2 : Nat) (Option.some Jvm.ClassFile.FieldType.int)) ∈ LW := tw4 (i := 46) rfl rfl
theorem q767 : (Jvm.Cond.methodLink "LongYear" (172 : Nat) ({ cls := "LongYear$Trials", name := "leastHeld", desc := "(LLongYear$Farm;I)I" } : Jvm.MethodName)) ∈ LW := tw4 (i := 47) rfl rfl
theorem q768 : (Jvm.Cond.instanceMethod ({ cls := "LongYear$Trials", name := "leastHeld", desc := "(LLongYear$Farm;I)I" } : Jvm.MethodName)) ∈ LW := tw4 (i := 48) rfl rfl
theorem q769 : (Jvm.Cond.selects "LongYear$Trials" ({ cls := "LongYear$Trials", name := "leastHeld", desc := "(LLongYear$Farm;I)I" } : Jvm.MethodName) ({ cls := "LongYear$Trials", name := "leastHeld", desc := "(LLongYear$Farm;I)I" } : Jvm.MethodName)) ∈ LW := tw4 (i := 49) rfl rfl
theorem q770 : (Jvm.Cond.code ({ cls := "LongYear$Trials", name := "leastHeld", desc := "(LLongYear$Farm;I)I" } : Jvm.MethodName) prog_12_method_7_code (7 : Nat) (Option.some Jvm.ClassFile.FieldType.int)) ∈ LW := tw4 (i := 50) rfl rfl
theorem q771 : (Jvm.Cond.methodLink "LongYear$Trials" (86 : Nat) ({ cls := "LongYear$Trials", name := "firstWant", desc := "(LLongYear$Farm;II)I" } : Jvm.MethodName)) ∈ LW := tw4 (i := 51) rfl rfl
theorem q772 : (Jvm.Cond.methodLink "LongYearLaw" (77 : Nat) ({ cls := "LongYear", name := "chance", desc := "(II)I" } : Jvm.MethodName)) ∈ LW := tw4 (i := 52) rfl rfl
theorem q773 : (Jvm.Cond.instanceMethod ({ cls := "LongYear", name := "chance", desc := "(II)I" } : Jvm.MethodName)) ∈ LW := tw4 (i := 53) rfl rfl
theorem q774 : (Jvm.Cond.selects "LongYear" ({ cls := "LongYear", name := "chance", desc := "(II)I" } : Jvm.MethodName) ({ cls := "LongYear", name := "chance", desc := "(II)I" } : Jvm.MethodName)) ∈ LW := tw4 (i := 54) rfl rfl
theorem q775 : (Jvm.Cond.code ({ cls := "LongYear", name := "chance", desc := "(II)I" } : Jvm.MethodName) prog_1_method_17_code (7 : Nat) (Option.some Jvm.ClassFile.FieldType.int)) ∈ LW := tw4 (i := 55) rfl rfl
theorem q776 : (Jvm.Cond.methodLink "LongYear" (175 : Nat) ({ cls := "LongYear$Farm", name := "noonsWithin", desc := "(I)I" } : Jvm.MethodName)) ∈ LW := tw4 (i := 56) rfl rfl
theorem q777 : (Jvm.Cond.instanceMethod ({ cls := "LongYear$Farm", name := "noonsWithin", desc := "(I)I" } : Jvm.MethodName)) ∈ LW := tw4 (i := 57) rfl rfl
theorem q778 : (Jvm.Cond.selects "LongYear$Farm" ({ cls := "LongYear$Farm", name := "noonsWithin", desc := "(I)I" } : Jvm.MethodName) ({ cls := "LongYear$Farm", name := "noonsWithin", desc := "(I)I" } : Jvm.MethodName)) ∈ LW := tw4 (i := 58) rfl rfl
theorem q779 : (Jvm.Cond.code ({ cls := "LongYear$Farm", name := "noonsWithin", desc := "(I)I" } : Jvm.MethodName) prog_4_method_12_code (4 : Nat) (Option.some Jvm.ClassFile.FieldType.int)) ∈ LW := tw4 (i := 59) rfl rfl
theorem q780 : (Jvm.Cond.constantLong "LongYear" (178 : Nat) (10 : Int64)) ∈ LW := tw4 (i := 60) rfl rfl
theorem q781 : (Jvm.Cond.methodLink "LongYear" (180 : Nat) ({ cls := "LongYear$Trials", name := "calmWays", desc := "(LLongYear$Farm;II)J" } : Jvm.MethodName)) ∈ LW := tw4 (i := 61) rfl rfl
theorem q782 : (Jvm.Cond.instanceMethod ({ cls := "LongYear$Trials", name := "calmWays", desc := "(LLongYear$Farm;II)J" } : Jvm.MethodName)) ∈ LW := tw4 (i := 62) rfl rfl
theorem q783 : (Jvm.Cond.selects "LongYear$Trials" ({ cls := "LongYear$Trials", name := "calmWays", desc := "(LLongYear$Farm;II)J" } : Jvm.MethodName) ({ cls := "LongYear$Trials", name := "calmWays", desc := "(LLongYear$Farm;II)J" } : Jvm.MethodName)) ∈ LW := tw4 (i := 63) rfl rfl
theorem q784 : (Jvm.Cond.code ({ cls := "LongYear$Trials", name := "calmWays", desc := "(LLongYear$Farm;II)J" } : Jvm.MethodName) prog_12_method_8_code (4 : Nat) (Option.some Jvm.ClassFile.FieldType.long)) ∈ LW := tw4 (i := 64) rfl rfl
theorem q785 : (Jvm.Cond.methodLink "LongYear$Trials" (90 : Nat) ({ cls := "LongYear$Trials", name := "calmFrom", desc := "([LLongYear$Farm;LLongYear$Farm;III)J" } : Jvm.MethodName)) ∈ LW := tw4 (i := 65) rfl rfl
theorem q786 : (Jvm.Cond.static ({ cls := "LongYear$Trials", name := "calmFrom", desc := "([LLongYear$Farm;LLongYear$Farm;III)J" } : Jvm.MethodName)) ∈ LW := tw4 (i := 66) rfl rfl
theorem q787 : (Jvm.Cond.code ({ cls := "LongYear$Trials", name := "calmFrom", desc := "([LLongYear$Farm;LLongYear$Farm;III)J" } : Jvm.MethodName) prog_12_method_9_code (9 : Nat) (Option.some Jvm.ClassFile.FieldType.long)) ∈ LW := tw4 (i := 67) rfl rfl
theorem q788 : (Jvm.Cond.methodLink "LongYear" (184 : Nat) ({ cls := "LongYear", name := "takeFraction", desc := "(JJ)V" } : Jvm.MethodName)) ∈ LW := tw4 (i := 68) rfl rfl
theorem q790 : (Jvm.Cond.instanceMethod ({ cls := "LongYear", name := "takeFraction", desc := "(JJ)V" } : Jvm.MethodName)) ∈ LW := tw4 (i := 70) rfl rfl
theorem q791 : (Jvm.Cond.code ({ cls := "LongYear", name := "takeFraction", desc := "(JJ)V" } : Jvm.MethodName) prog_1_method_46_code (7 : Nat) (Option.none : Option Jvm.ClassFile.FieldType)) ∈ LW := tw4 (i := 71) rfl rfl
theorem q792 : (Jvm.Cond.methodLink "LongYear" (325 : Nat) ({ cls := "LongYear", name := "commonDivisor", desc := "(JJ)J" } : Jvm.MethodName)) ∈ LW := tw4 (i := 72) rfl rfl
theorem q793 : (Jvm.Cond.static ({ cls := "LongYear", name := "commonDivisor", desc := "(JJ)J" } : Jvm.MethodName)) ∈ LW := tw4 (i := 73) rfl rfl
theorem q794 : (Jvm.Cond.code ({ cls := "LongYear", name := "commonDivisor", desc := "(JJ)J" } : Jvm.MethodName) prog_1_method_52_code (11 : Nat) (Option.some Jvm.ClassFile.FieldType.long)) ∈ LW := tw4 (i := 74) rfl rfl
theorem q795 : (Jvm.Cond.methodLink "LongYearLaw" (81 : Nat) ({ cls := "LongYear", name := "teachers", desc := "(I)I" } : Jvm.MethodName)) ∈ LW := tw4 (i := 75) rfl rfl
theorem q796 : (Jvm.Cond.instanceMethod ({ cls := "LongYear", name := "teachers", desc := "(I)I" } : Jvm.MethodName)) ∈ LW := tw4 (i := 76) rfl rfl
theorem q797 : (Jvm.Cond.selects "LongYear" ({ cls := "LongYear", name := "teachers", desc := "(I)I" } : Jvm.MethodName) ({ cls := "LongYear", name := "teachers", desc := "(I)I" } : Jvm.MethodName)) ∈ LW := tw4 (i := 77) rfl rfl
theorem q798 : (Jvm.Cond.code ({ cls := "LongYear", name := "teachers", desc := "(I)I" } : Jvm.MethodName) prog_1_method_18_code (2 : Nat) (Option.some Jvm.ClassFile.FieldType.int)) ∈ LW := tw4 (i := 78) rfl rfl
theorem q799 : (Jvm.Cond.methodLink "LongYear" (188 : Nat) ({ cls := "LongYear$Trials", name := "fewestTeachers", desc := "(LLongYear$Farm;I)I" } : Jvm.MethodName)) ∈ LW := tw4 (i := 79) rfl rfl
theorem q800 : (Jvm.Cond.instanceMethod ({ cls := "LongYear$Trials", name := "fewestTeachers", desc := "(LLongYear$Farm;I)I" } : Jvm.MethodName)) ∈ LW := tw4 (i := 80) rfl rfl
theorem q801 : (Jvm.Cond.selects "LongYear$Trials" ({ cls := "LongYear$Trials", name := "fewestTeachers", desc := "(LLongYear$Farm;I)I" } : Jvm.MethodName) ({ cls := "LongYear$Trials", name := "fewestTeachers", desc := "(LLongYear$Farm;I)I" } : Jvm.MethodName)) ∈ LW := tw4 (i := 81) rfl rfl
theorem q802 : (Jvm.Cond.code ({ cls := "LongYear$Trials", name := "fewestTeachers", desc := "(LLongYear$Farm;I)I" } : Jvm.MethodName) prog_12_method_10_code (5 : Nat) (Option.some Jvm.ClassFile.FieldType.int)) ∈ LW := tw4 (i := 82) rfl rfl
theorem q803 : (Jvm.Cond.methodLink "LongYear$Trials" (97 : Nat) ({ cls := "java/lang/Integer", name := "bitCount", desc := "(I)I" } : Jvm.MethodName)) ∈ LW := tw4 (i := 83) rfl rfl
theorem q804 : (Jvm.Cond.static ({ cls := "java/lang/Integer", name := "bitCount", desc := "(I)I" } : Jvm.MethodName)) ∈ LW := tw4 (i := 84) rfl rfl
theorem q805 : (Jvm.Cond.code ({ cls := "java/lang/Integer", name := "bitCount", desc := "(I)I" } : Jvm.MethodName) prog_15_method_49_code (1 : Nat) (Option.some Jvm.ClassFile.FieldType.int)) ∈ LW := tw4 (i := 85) rfl rfl
theorem q806 : (Jvm.Cond.constant "java/lang/Integer" (265 : Nat) (1431655765 : Int32)) ∈ LW := tw4 (i := 86) rfl rfl
theorem q807 : (Jvm.Cond.constant "java/lang/Integer" (266 : Nat) (858993459 : Int32)) ∈ LW := tw4 (i := 87) rfl rfl
theorem q808 : (Jvm.Cond.constant "java/lang/Integer" (267 : Nat) (252645135 : Int32)) ∈ LW := tw4 (i := 88) rfl rfl
theorem q809 : (Jvm.Cond.methodLink "LongYear$Trials" (103 : Nat) ({ cls := "LongYear$Trials", name := "keepsMemory", desc := "(LLongYear$Farm;II)Z" } : Jvm.MethodName)) ∈ LW := tw4 (i := 89) rfl rfl
theorem q811 : (Jvm.Cond.instanceMethod ({ cls := "LongYear$Trials", name := "keepsMemory", desc := "(LLongYear$Farm;II)Z" } : Jvm.MethodName)) ∈ LW := tw4 (i := 91) rfl rfl
theorem q812 : (Jvm.Cond.code ({ cls := "LongYear$Trials", name := "keepsMemory", desc := "(LLongYear$Farm;II)Z" } : Jvm.MethodName) prog_12_method_11_code (5 : Nat) (Option.some Jvm.ClassFile.FieldType.boolean)) ∈ LW := tw4 (i := 92) rfl rfl
theorem q813 : (Jvm.Cond.methodLink "LongYear$Trials" (107 : Nat) ({ cls := "LongYear$Farm", name := "onlyTeach", desc := "(I)V" } : Jvm.MethodName)) ∈ LW := tw4 (i := 93) rfl rfl
theorem q814 : (Jvm.Cond.instanceMethod ({ cls := "LongYear$Farm", name := "onlyTeach", desc := "(I)V" } : Jvm.MethodName)) ∈ LW := tw4 (i := 94) rfl rfl
theorem q815 : (Jvm.Cond.selects "LongYear$Farm" ({ cls := "LongYear$Farm", name := "onlyTeach", desc := "(I)V" } : Jvm.MethodName) ({ cls := "LongYear$Farm", name := "onlyTeach", desc := "(I)V" } : Jvm.MethodName)) ∈ LW := tw4 (i := 95) rfl rfl
theorem q816 : (Jvm.Cond.code ({ cls := "LongYear$Farm", name := "onlyTeach", desc := "(I)V" } : Jvm.MethodName) prog_4_method_24_code (4 : Nat) (Option.none : Option Jvm.ClassFile.FieldType)) ∈ LW := tw4 (i := 96) rfl rfl
theorem q817 : (Jvm.Cond.methodLink "LongYear$Trials" (110 : Nat) ({ cls := "LongYear$Farm", name := "allKnow", desc := "()Z" } : Jvm.MethodName)) ∈ LW := tw4 (i := 97) rfl rfl
theorem q818 : (Jvm.Cond.instanceMethod ({ cls := "LongYear$Farm", name := "allKnow", desc := "()Z" } : Jvm.MethodName)) ∈ LW := tw4 (i := 98) rfl rfl
theorem q819 : (Jvm.Cond.selects "LongYear$Farm" ({ cls := "LongYear$Farm", name := "allKnow", desc := "()Z" } : Jvm.MethodName) ({ cls := "LongYear$Farm", name := "allKnow", desc := "()Z" } : Jvm.MethodName)) ∈ LW := tw4 (i := 99) rfl rfl
theorem q820 : (Jvm.Cond.code ({ cls := "LongYear$Farm", name := "allKnow", desc := "()Z" } : Jvm.MethodName) prog_4_method_25_code (2 : Nat) (Option.some Jvm.ClassFile.FieldType.boolean)) ∈ LW := tw4 (i := 100) rfl rfl
theorem q821 : (Jvm.Cond.methodLink "LongYearLaw" (85 : Nat) ({ cls := "LongYear", name := "debt", desc := "(III)I" } : Jvm.MethodName)) ∈ LW := tw4 (i := 101) rfl rfl
theorem q822 : (Jvm.Cond.instanceMethod ({ cls := "LongYear", name := "debt", desc := "(III)I" } : Jvm.MethodName)) ∈ LW := tw4 (i := 102) rfl rfl
theorem q823 : (Jvm.Cond.selects "LongYear" ({ cls := "LongYear", name := "debt", desc := "(III)I" } : Jvm.MethodName) ({ cls := "LongYear", name := "debt", desc := "(III)I" } : Jvm.MethodName)) ∈ LW := tw4 (i := 103) rfl rfl
theorem q824 : (Jvm.Cond.code ({ cls := "LongYear", name := "debt", desc := "(III)I" } : Jvm.MethodName) prog_1_method_19_code (4 : Nat) (Option.some Jvm.ClassFile.FieldType.int)) ∈ LW := tw4 (i := 104) rfl rfl
theorem q825 : (Jvm.Cond.methodLink "LongYear" (200 : Nat) ({ cls := "LongYear$Books", name := "addDebt", desc := "(III)I" } : Jvm.MethodName)) ∈ LW := tw4 (i := 105) rfl rfl
theorem q826 : (Jvm.Cond.methodLink "LongYearLaw" (89 : Nat) ({ cls := "LongYear", name := "rate", desc := "(I)I" } : Jvm.MethodName)) ∈ LW := tw4 (i := 106) rfl rfl
theorem q827 : (Jvm.Cond.instanceMethod ({ cls := "LongYear", name := "rate", desc := "(I)I" } : Jvm.MethodName)) ∈ LW := tw4 (i := 107) rfl rfl
theorem q828 : (Jvm.Cond.selects "LongYear" ({ cls := "LongYear", name := "rate", desc := "(I)I" } : Jvm.MethodName) ({ cls := "LongYear", name := "rate", desc := "(I)I" } : Jvm.MethodName)) ∈ LW := tw4 (i := 108) rfl rfl
theorem q829 : (Jvm.Cond.code ({ cls := "LongYear", name := "rate", desc := "(I)I" } : Jvm.MethodName) prog_1_method_20_code (3 : Nat) (Option.some Jvm.ClassFile.FieldType.int)) ∈ LW := tw4 (i := 109) rfl rfl
theorem q830 : (Jvm.Cond.methodLink "LongYearLaw" (93 : Nat) ({ cls := "LongYear", name := "net", desc := "(I)I" } : Jvm.MethodName)) ∈ LW := tw4 (i := 110) rfl rfl
theorem q831 : (Jvm.Cond.instanceMethod ({ cls := "LongYear", name := "net", desc := "(I)I" } : Jvm.MethodName)) ∈ LW := tw4 (i := 111) rfl rfl
theorem q832 : (Jvm.Cond.selects "LongYear" ({ cls := "LongYear", name := "net", desc := "(I)I" } : Jvm.MethodName) ({ cls := "LongYear", name := "net", desc := "(I)I" } : Jvm.MethodName)) ∈ LW := tw4 (i := 112) rfl rfl
theorem q833 : (Jvm.Cond.code ({ cls := "LongYear", name := "net", desc := "(I)I" } : Jvm.MethodName) prog_1_method_21_code (2 : Nat) (Option.some Jvm.ClassFile.FieldType.int)) ∈ LW := tw4 (i := 113) rfl rfl
theorem q834 : (Jvm.Cond.constant "LongYear" (206 : Nat) (-100000 : Int32)) ∈ LW := tw4 (i := 114) rfl rfl
theorem q835 : (Jvm.Cond.methodLink "LongYear" (207 : Nat) ({ cls := "LongYear$Farm", name := "yearsToNoon", desc := "()I" } : Jvm.MethodName)) ∈ LW := tw4 (i := 115) rfl rfl
theorem q836 : (Jvm.Cond.instanceMethod ({ cls := "LongYear$Farm", name := "yearsToNoon", desc := "()I" } : Jvm.MethodName)) ∈ LW := tw4 (i := 116) rfl rfl
theorem q837 : (Jvm.Cond.selects "LongYear$Farm" ({ cls := "LongYear$Farm", name := "yearsToNoon", desc := "()I" } : Jvm.MethodName) ({ cls := "LongYear$Farm", name := "yearsToNoon", desc := "()I" } : Jvm.MethodName)) ∈ LW := tw4 (i := 117) rfl rfl
theorem q838 : (Jvm.Cond.code ({ cls := "LongYear$Farm", name := "yearsToNoon", desc := "()I" } : Jvm.MethodName) prog_4_method_11_code (1 : Nat) (Option.some Jvm.ClassFile.FieldType.int)) ∈ LW := tw4 (i := 118) rfl rfl
theorem q839 : (Jvm.Cond.methodLink "LongYear" (210 : Nat) ({ cls := "LongYear$Books", name := "balance", desc := "(II)I" } : Jvm.MethodName)) ∈ LW := tw4 (i := 119) rfl rfl
theorem q840 : (Jvm.Cond.instanceMethod ({ cls := "LongYear$Books", name := "balance", desc := "(II)I" } : Jvm.MethodName)) ∈ LW := tw4 (i := 120) rfl rfl
theorem q841 : (Jvm.Cond.selects "LongYear$Books" ({ cls := "LongYear$Books", name := "balance", desc := "(II)I" } : Jvm.MethodName) ({ cls := "LongYear$Books", name := "balance", desc := "(II)I" } : Jvm.MethodName)) ∈ LW := tw4 (i := 121) rfl rfl
theorem q842 : (Jvm.Cond.code ({ cls := "LongYear$Books", name := "balance", desc := "(II)I" } : Jvm.MethodName) prog_2_method_9_code (7 : Nat) (Option.some Jvm.ClassFile.FieldType.int)) ∈ LW := tw4 (i := 122) rfl rfl
theorem q844 : (Jvm.Cond.methodLink "LongYearLaw" (97 : Nat) ({ cls := "LongYear", name := "cleared", desc := "()I" } : Jvm.MethodName)) ∈ LW := tw4 (i := 124) rfl rfl
theorem q845 : (Jvm.Cond.instanceMethod ({ cls := "LongYear", name := "cleared", desc := "()I" } : Jvm.MethodName)) ∈ LW := tw4 (i := 125) rfl rfl
theorem q846 : (Jvm.Cond.selects "LongYear" ({ cls := "LongYear", name := "cleared", desc := "()I" } : Jvm.MethodName) ({ cls := "LongYear", name := "cleared", desc := "()I" } : Jvm.MethodName)) ∈ LW := tw4 (i := 126) rfl rfl
theorem q847 : (Jvm.Cond.code ({ cls := "LongYear", name := "cleared", desc := "()I" } : Jvm.MethodName) prog_1_method_22_code (1 : Nat) (Option.some Jvm.ClassFile.FieldType.int)) ∈ LW := tw4 (i := 127) rfl rfl
theorem q848 : (Jvm.Cond.methodLink "LongYear" (214 : Nat) ({ cls := "LongYear$Trials", name := "fewestPayments", desc := "(LLongYear$Lump;)I" } : Jvm.MethodName)) ∈ LW := tw4 (i := 128) rfl rfl
theorem q849 : (Jvm.Cond.instanceMethod ({ cls := "LongYear$Trials", name := "fewestPayments", desc := "(LLongYear$Lump;)I" } : Jvm.MethodName)) ∈ LW := tw4 (i := 129) rfl rfl
theorem q850 : (Jvm.Cond.selects "LongYear$Trials" ({ cls := "LongYear$Trials", name := "fewestPayments", desc := "(LLongYear$Lump;)I" } : Jvm.MethodName) ({ cls := "LongYear$Trials", name := "fewestPayments", desc := "(LLongYear$Lump;)I" } : Jvm.MethodName)) ∈ LW := tw4 (i := 130) rfl rfl
theorem q851 : (Jvm.Cond.code ({ cls := "LongYear$Trials", name := "fewestPayments", desc := "(LLongYear$Lump;)I" } : Jvm.MethodName) prog_12_method_12_code (7 : Nat) (Option.some Jvm.ClassFile.FieldType.int)) ∈ LW := tw4 (i := 131) rfl rfl
theorem q852 : (Jvm.Cond.methodLink "LongYear$Trials" (119 : Nat) ({ cls := "LongYear$Farm", name := "yearsToNoon", desc := "()I" } : Jvm.MethodName)) ∈ LW := tw4 (i := 132) rfl rfl
theorem q853 : (Jvm.Cond.methodLink "LongYear$Trials" (123 : Nat) ({ cls := "java/lang/Integer", name := "numberOfTrailingZeros", desc := "(I)I" } : Jvm.MethodName)) ∈ LW := tw4 (i := 133) rfl rfl
theorem q854 : (Jvm.Cond.static ({ cls := "java/lang/Integer", name := "numberOfTrailingZeros", desc := "(I)I" } : Jvm.MethodName)) ∈ LW := tw4 (i := 134) rfl rfl
theorem q855 : (Jvm.Cond.code ({ cls := "java/lang/Integer", name := "numberOfTrailingZeros", desc := "(I)I" } : Jvm.MethodName) prog_15_method_48_code (2 : Nat) (Option.some Jvm.ClassFile.FieldType.int)) ∈ LW := tw4 (i := 135) rfl rfl
theorem q856 : (Jvm.Cond.constant "java/lang/Integer" (264 : Nat) (65536 : Int32)) ∈ LW := tw4 (i := 136) rfl rfl
theorem q857 : (Jvm.Cond.methodLink "LongYear$Trials" (130 : Nat) ({ cls := "LongYear$Books", name := "balance", desc := "(II)I" } : Jvm.MethodName)) ∈ LW := tw4 (i := 137) rfl rfl
theorem q858 : (Jvm.Cond.methodLink "LongYear$Trials" (136 : Nat) ({ cls := "LongYear$Trials", name := "mostGroupsBelow", desc := "(II)I" } : Jvm.MethodName)) ∈ LW := tw4 (i := 138) rfl rfl
theorem q860 : (Jvm.Cond.instanceMethod ({ cls := "LongYear$Trials", name := "mostGroupsBelow", desc := "(II)I" } : Jvm.MethodName)) ∈ LW := tw4 (i := 140) rfl rfl
theorem q861 : (Jvm.Cond.code ({ cls := "LongYear$Trials", name := "mostGroupsBelow", desc := "(II)I" } : Jvm.MethodName) prog_12_method_13_code (5 : Nat) (Option.some Jvm.ClassFile.FieldType.int)) ∈ LW := tw4 (i := 141) rfl rfl
theorem q862 : (Jvm.Cond.methodLink "LongYear$Trials" (139 : Nat) ({ cls := "java/lang/Math", name := "max", desc := "(II)I" } : Jvm.MethodName)) ∈ LW := tw4 (i := 142) rfl rfl
theorem q863 : (Jvm.Cond.methodLink "LongYearLaw" (101 : Nat) ({ cls := "LongYear", name := "report", desc := "(III)I" } : Jvm.MethodName)) ∈ LW := tw4 (i := 143) rfl rfl
theorem q864 : (Jvm.Cond.instanceMethod ({ cls := "LongYear", name := "report", desc := "(III)I" } : Jvm.MethodName)) ∈ LW := tw4 (i := 144) rfl rfl
theorem q865 : (Jvm.Cond.selects "LongYear" ({ cls := "LongYear", name := "report", desc := "(III)I" } : Jvm.MethodName) ({ cls := "LongYear", name := "report", desc := "(III)I" } : Jvm.MethodName)) ∈ LW := tw4 (i := 145) rfl rfl
theorem q866 : (Jvm.Cond.code ({ cls := "LongYear", name := "report", desc := "(III)I" } : Jvm.MethodName) prog_1_method_23_code (4 : Nat) (Option.some Jvm.ClassFile.FieldType.int)) ∈ LW := tw4 (i := 146) rfl rfl
theorem q867 : (Jvm.Cond.methodLink "LongYear" (220 : Nat) ({ cls := "LongYear$Books", name := "addReport", desc := "(III)I" } : Jvm.MethodName)) ∈ LW := tw4 (i := 147) rfl rfl
theorem q868 : (Jvm.Cond.instanceMethod ({ cls := "LongYear$Books", name := "addReport", desc := "(III)I" } : Jvm.MethodName)) ∈ LW := tw4 (i := 148) rfl rfl
theorem q869 : (Jvm.Cond.selects "LongYear$Books" ({ cls := "LongYear$Books", name := "addReport", desc := "(III)I" } : Jvm.MethodName) ({ cls := "LongYear$Books", name := "addReport", desc := "(III)I" } : Jvm.MethodName)) ∈ LW := tw4 (i := 149) rfl rfl
theorem q870 : (Jvm.Cond.code ({ cls := "LongYear$Books", name := "addReport", desc := "(III)I" } : Jvm.MethodName) prog_2_method_7_code (4 : Nat) (Option.some Jvm.ClassFile.FieldType.int)) ∈ LW := tw4 (i := 150) rfl rfl
theorem q871 : (Jvm.Cond.methodLink "LongYearLaw" (105 : Nat) ({ cls := "LongYear", name := "liars", desc := "(I)I" } : Jvm.MethodName)) ∈ LW := tw4 (i := 151) rfl rfl
theorem q872 : (Jvm.Cond.instanceMethod ({ cls := "LongYear", name := "liars", desc := "(I)I" } : Jvm.MethodName)) ∈ LW := tw4 (i := 152) rfl rfl
theorem q873 : (Jvm.Cond.selects "LongYear" ({ cls := "LongYear", name := "liars", desc := "(I)I" } : Jvm.MethodName) ({ cls := "LongYear", name := "liars", desc := "(I)I" } : Jvm.MethodName)) ∈ LW := tw4 (i := 153) rfl rfl
theorem q874 : (Jvm.Cond.code ({ cls := "LongYear", name := "liars", desc := "(I)I" } : Jvm.MethodName) prog_1_method_24_code (3 : Nat) (Option.some Jvm.ClassFile.FieldType.int)) ∈ LW := tw4 (i := 154) rfl rfl
theorem q875 : (Jvm.Cond.methodLink "LongYear" (223 : Nat) ({ cls := "LongYear$Books", name := "fewestLiars", desc := "(I)I" } : Jvm.MethodName)) ∈ LW := tw4 (i := 155) rfl rfl
theorem q876 : (Jvm.Cond.instanceMethod ({ cls := "LongYear$Books", name := "fewestLiars", desc := "(I)I" } : Jvm.MethodName)) ∈ LW := tw4 (i := 156) rfl rfl
theorem q877 : (Jvm.Cond.selects "LongYear$Books" ({ cls := "LongYear$Books", name := "fewestLiars", desc := "(I)I" } : Jvm.MethodName) ({ cls := "LongYear$Books", name := "fewestLiars", desc := "(I)I" } : Jvm.MethodName)) ∈ LW := tw4 (i := 157) rfl rfl
theorem q878 : (Jvm.Cond.code ({ cls := "LongYear$Books", name := "fewestLiars", desc := "(I)I" } : Jvm.MethodName) prog_2_method_10_code (5 : Nat) (Option.some Jvm.ClassFile.FieldType.int)) ∈ LW := tw4 (i := 158) rfl rfl
theorem q879 : (Jvm.Cond.methodLink "LongYear$Books" (58 : Nat) ({ cls := "LongYear$Books", name := "alikeWithout", desc := "(I)Z" } : Jvm.MethodName)) ∈ LW := tw4 (i := 159) rfl rfl
theorem q881 : (Jvm.Cond.instanceMethod ({ cls := "LongYear$Books", name := "alikeWithout", desc := "(I)Z" } : Jvm.MethodName)) ∈ LW := tw4 (i := 161) rfl rfl
theorem q882 : (Jvm.Cond.code ({ cls := "LongYear$Books", name := "alikeWithout", desc := "(I)Z" } : Jvm.MethodName) prog_2_method_12_code (4 : Nat) (Option.some Jvm.ClassFile.FieldType.boolean)) ∈ LW := tw4 (i := 162) rfl rfl
theorem q883 : (Jvm.Cond.methodLink "LongYear$Books" (68 : Nat) ({ cls := "LongYear$Books", name := "isTold", desc := "(II)Z" } : Jvm.MethodName)) ∈ LW := tw4 (i := 163) rfl rfl
theorem q885 : (Jvm.Cond.instanceMethod ({ cls := "LongYear$Books", name := "isTold", desc := "(II)Z" } : Jvm.MethodName)) ∈ LW := tw4 (i := 165) rfl rfl
theorem q886 : (Jvm.Cond.code ({ cls := "LongYear$Books", name := "isTold", desc := "(II)Z" } : Jvm.MethodName) prog_2_method_13_code (3 : Nat) (Option.some Jvm.ClassFile.FieldType.boolean)) ∈ LW := tw4 (i := 166) rfl rfl
theorem q887 : (Jvm.Cond.methodLink "LongYear$Books" (72 : Nat) ({ cls := "LongYear$Books", name := "differ", desc := "(II)Z" } : Jvm.MethodName)) ∈ LW := tw4 (i := 167) rfl rfl
theorem q889 : (Jvm.Cond.instanceMethod ({ cls := "LongYear$Books", name := "differ", desc := "(II)Z" } : Jvm.MethodName)) ∈ LW := tw4 (i := 169) rfl rfl
theorem q890 : (Jvm.Cond.code ({ cls := "LongYear$Books", name := "differ", desc := "(II)Z" } : Jvm.MethodName) prog_2_method_14_code (3 : Nat) (Option.some Jvm.ClassFile.FieldType.boolean)) ∈ LW := tw4 (i := 170) rfl rfl
theorem q891 : (Jvm.Cond.methodLink "LongYear$Books" (62 : Nat) ({ cls := "java/lang/Integer", name := "bitCount", desc := "(I)I" } : Jvm.MethodName)) ∈ LW := tw4 (i := 171) rfl rfl
theorem q892 : (Jvm.Cond.methodLink "LongYear" (226 : Nat) ({ cls := "LongYear$Books", name := "sureLiars", desc := "(I)I" } : Jvm.MethodName)) ∈ LW := tw4 (i := 172) rfl rfl
theorem q893 : (Jvm.Cond.instanceMethod ({ cls := "LongYear$Books", name := "sureLiars", desc := "(I)I" } : Jvm.MethodName)) ∈ LW := tw4 (i := 173) rfl rfl
theorem q894 : (Jvm.Cond.selects "LongYear$Books" ({ cls := "LongYear$Books", name := "sureLiars", desc := "(I)I" } : Jvm.MethodName) ({ cls := "LongYear$Books", name := "sureLiars", desc := "(I)I" } : Jvm.MethodName)) ∈ LW := tw4 (i := 174) rfl rfl
theorem q895 : (Jvm.Cond.code ({ cls := "LongYear$Books", name := "sureLiars", desc := "(I)I" } : Jvm.MethodName) prog_2_method_11_code (5 : Nat) (Option.some Jvm.ClassFile.FieldType.int)) ∈ LW := tw4 (i := 175) rfl rfl
theorem q896 : (Jvm.Cond.methodLink "LongYearLaw" (109 : Nat) ({ cls := "LongYear", name := "none", desc := "(I)I" } : Jvm.MethodName)) ∈ LW := tw4 (i := 176) rfl rfl
theorem q897 : (Jvm.Cond.instanceMethod ({ cls := "LongYear", name := "none", desc := "(I)I" } : Jvm.MethodName)) ∈ LW := tw4 (i := 177) rfl rfl
theorem q898 : (Jvm.Cond.selects "LongYear" ({ cls := "LongYear", name := "none", desc := "(I)I" } : Jvm.MethodName) ({ cls := "LongYear", name := "none", desc := "(I)I" } : Jvm.MethodName)) ∈ LW := tw4 (i := 178) rfl rfl
theorem q899 : (Jvm.Cond.code ({ cls := "LongYear", name := "none", desc := "(I)I" } : Jvm.MethodName) prog_1_method_25_code (3 : Nat) (Option.some Jvm.ClassFile.FieldType.int)) ∈ LW := tw4 (i := 179) rfl rfl
theorem q900 : (Jvm.Cond.methodLink "LongYear" (229 : Nat) ({ cls := "LongYear$Books", name := "howMany", desc := "(I)I" } : Jvm.MethodName)) ∈ LW := tw4 (i := 180) rfl rfl
theorem q901 : (Jvm.Cond.instanceMethod ({ cls := "LongYear$Books", name := "howMany", desc := "(I)I" } : Jvm.MethodName)) ∈ LW := tw4 (i := 181) rfl rfl
theorem q902 : (Jvm.Cond.selects "LongYear$Books" ({ cls := "LongYear$Books", name := "howMany", desc := "(I)I" } : Jvm.MethodName) ({ cls := "LongYear$Books", name := "howMany", desc := "(I)I" } : Jvm.MethodName)) ∈ LW := tw4 (i := 182) rfl rfl
theorem q903 : (Jvm.Cond.code ({ cls := "LongYear$Books", name := "howMany", desc := "(I)I" } : Jvm.MethodName) prog_2_method_4_code (2 : Nat) (Option.some Jvm.ClassFile.FieldType.int)) ∈ LW := tw4 (i := 183) rfl rfl
theorem q904 : (Jvm.Cond.methodLink "LongYear" (232 : Nat) ({ cls := "LongYear$Books", name := "strike", desc := "(I)V" } : Jvm.MethodName)) ∈ LW := tw4 (i := 184) rfl rfl
theorem q905 : (Jvm.Cond.instanceMethod ({ cls := "LongYear$Books", name := "strike", desc := "(I)V" } : Jvm.MethodName)) ∈ LW := tw4 (i := 185) rfl rfl
theorem q906 : (Jvm.Cond.selects "LongYear$Books" ({ cls := "LongYear$Books", name := "strike", desc := "(I)V" } : Jvm.MethodName) ({ cls := "LongYear$Books", name := "strike", desc := "(I)V" } : Jvm.MethodName)) ∈ LW := tw4 (i := 186) rfl rfl
theorem q907 : (Jvm.Cond.code ({ cls := "LongYear$Books", name := "strike", desc := "(I)V" } : Jvm.MethodName) prog_2_method_5_code (2 : Nat) (Option.none : Option Jvm.ClassFile.FieldType)) ∈ LW := tw4 (i := 187) rfl rfl
theorem q908 : (Jvm.Cond.methodLink "LongYearLaw" (113 : Nat) ({ cls := "LongYear", name := "lots", desc := "(II)I" } : Jvm.MethodName)) ∈ LW := tw4 (i := 188) rfl rfl
theorem q909 : (Jvm.Cond.instanceMethod ({ cls := "LongYear", name := "lots", desc := "(II)I" } : Jvm.MethodName)) ∈ LW := tw4 (i := 189) rfl rfl
theorem q910 : (Jvm.Cond.selects "LongYear" ({ cls := "LongYear", name := "lots", desc := "(II)I" } : Jvm.MethodName) ({ cls := "LongYear", name := "lots", desc := "(II)I" } : Jvm.MethodName)) ∈ LW := tw4 (i := 190) rfl rfl
theorem q911 : (Jvm.Cond.code ({ cls := "LongYear", name := "lots", desc := "(II)I" } : Jvm.MethodName) prog_1_method_26_code (9 : Nat) (Option.some Jvm.ClassFile.FieldType.int)) ∈ LW := tw4 (i := 191) rfl rfl
theorem q912 : (Jvm.Cond.constant "LongYear" (235 : Nat) (999999 : Int32)) ∈ LW := tw4 (i := 192) rfl rfl
theorem q913 : (Jvm.Cond.constantLong "LongYear" (236 : Nat) (1103515245 : Int64)) ∈ LW := tw4 (i := 193) rfl rfl
theorem q914 : (Jvm.Cond.constantLong "LongYear" (238 : Nat) (12345 : Int64)) ∈ LW := tw4 (i := 194) rfl rfl
theorem q915 : (Jvm.Cond.constantLong "LongYear" (240 : Nat) (2147483648 : Int64)) ∈ LW := tw4 (i := 195) rfl rfl
theorem q916 : (Jvm.Cond.constantLong "LongYear" (242 : Nat) (65536 : Int64)) ∈ LW := tw4 (i := 196) rfl rfl
theorem q917 : (Jvm.Cond.methodLink "LongYear" (244 : Nat) ({ cls := "LongYear", name := "leftOver", desc := "(II)I" } : Jvm.MethodName)) ∈ LW := tw4 (i := 197) rfl rfl
theorem q918 : (Jvm.Cond.methodLink "LongYear" (247 : Nat) ({ cls := "LongYear", name := "undrawn", desc := "(III)I" } : Jvm.MethodName)) ∈ LW := tw4 (i := 198) rfl rfl
theorem q919 : (Jvm.Cond.static ({ cls := "LongYear", name := "undrawn", desc := "(III)I" } : Jvm.MethodName)) ∈ LW := tw4 (i := 199) rfl rfl
theorem q920 : (Jvm.Cond.code ({ cls := "LongYear", name := "undrawn", desc := "(III)I" } : Jvm.MethodName) prog_1_method_53_code (5 : Nat) (Option.some Jvm.ClassFile.FieldType.int)) ∈ LW := tw4 (i := 200) rfl rfl
theorem q921 : (Jvm.Cond.methodLink "LongYearLaw" (117 : Nat) ({ cls := "LongYear", name := "word", desc := "(IIIIII)I" } : Jvm.MethodName)) ∈ LW := tw4 (i := 201) rfl rfl
theorem q922 : (Jvm.Cond.instanceMethod ({ cls := "LongYear", name := "word", desc := "(IIIIII)I" } : Jvm.MethodName)) ∈ LW := tw4 (i := 202) rfl rfl
theorem q923 : (Jvm.Cond.selects "LongYear" ({ cls := "LongYear", name := "word", desc := "(IIIIII)I" } : Jvm.MethodName) ({ cls := "LongYear", name := "word", desc := "(IIIIII)I" } : Jvm.MethodName)) ∈ LW := tw4 (i := 203) rfl rfl
theorem q924 : (Jvm.Cond.code ({ cls := "LongYear", name := "word", desc := "(IIIIII)I" } : Jvm.MethodName) prog_1_method_27_code (7 : Nat) (Option.some Jvm.ClassFile.FieldType.int)) ∈ LW := tw4 (i := 204) rfl rfl
theorem q925 : (Jvm.Cond.methodLink "LongYear" (250 : Nat) ({ cls := "LongYear", name := "takeLetters", desc := "(IIIIII)Z" } : Jvm.MethodName)) ∈ LW := tw4 (i := 205) rfl rfl
theorem q927 : (Jvm.Cond.instanceMethod ({ cls := "LongYear", name := "takeLetters", desc := "(IIIIII)Z" } : Jvm.MethodName)) ∈ LW := tw4 (i := 207) rfl rfl
theorem q928 : (Jvm.Cond.code ({ cls := "LongYear", name := "takeLetters", desc := "(IIIIII)Z" } : Jvm.MethodName) prog_1_method_45_code (8 : Nat) (Option.some Jvm.ClassFile.FieldType.boolean)) ∈ LW := tw4 (i := 208) rfl rfl
theorem q929 : (Jvm.Cond.methodLink "LongYear" (317 : Nat) ({ cls := "LongYear", name := "put", desc := "([III)V" } : Jvm.MethodName)) ∈ LW := tw4 (i := 209) rfl rfl
theorem q930 : (Jvm.Cond.methodLink "LongYear" (321 : Nat) ({ cls := "LongYear", name := "at", desc := "([II)I" } : Jvm.MethodName)) ∈ LW := tw4 (i := 210) rfl rfl
theorem q931 : (Jvm.Cond.methodLink "LongYear" (257 : Nat) ({ cls := "LongYear$Books", name := "addWord", desc := "([I)I" } : Jvm.MethodName)) ∈ LW := tw4 (i := 211) rfl rfl
theorem q932 : (Jvm.Cond.instanceMethod ({ cls := "LongYear$Books", name := "addWord", desc := "([I)I" } : Jvm.MethodName)) ∈ LW := tw4 (i := 212) rfl rfl
theorem q933 : (Jvm.Cond.selects "LongYear$Books" ({ cls := "LongYear$Books", name := "addWord", desc := "([I)I" } : Jvm.MethodName) ({ cls := "LongYear$Books", name := "addWord", desc := "([I)I" } : Jvm.MethodName)) ∈ LW := tw4 (i := 213) rfl rfl
theorem q934 : (Jvm.Cond.code ({ cls := "LongYear$Books", name := "addWord", desc := "([I)I" } : Jvm.MethodName) prog_2_method_8_code (3 : Nat) (Option.some Jvm.ClassFile.FieldType.int)) ∈ LW := tw4 (i := 214) rfl rfl
theorem q935 : (Jvm.Cond.methodLink "LongYearLaw" (122 : Nat) ({ cls := "LongYear", name := "toldOn", desc := "(III)I" } : Jvm.MethodName)) ∈ LW := tw4 (i := 215) rfl rfl
theorem q936 : (Jvm.Cond.instanceMethod ({ cls := "LongYear", name := "toldOn", desc := "(III)I" } : Jvm.MethodName)) ∈ LW := tw4 (i := 216) rfl rfl
theorem q937 : (Jvm.Cond.selects "LongYear" ({ cls := "LongYear", name := "toldOn", desc := "(III)I" } : Jvm.MethodName) ({ cls := "LongYear", name := "toldOn", desc := "(III)I" } : Jvm.MethodName)) ∈ LW := tw4 (i := 217) rfl rfl
theorem q938 : (Jvm.Cond.code ({ cls := "LongYear", name := "toldOn", desc := "(III)I" } : Jvm.MethodName) prog_1_method_28_code (6 : Nat) (Option.some Jvm.ClassFile.FieldType.int)) ∈ LW := tw4 (i := 218) rfl rfl
theorem q939 : (Jvm.Cond.methodLink "LongYear" (261 : Nat) ({ cls := "LongYear", name := "isWord", desc := "(I)Z" } : Jvm.MethodName)) ∈ LW := tw4 (i := 219) rfl rfl
theorem q941 : (Jvm.Cond.instanceMethod ({ cls := "LongYear", name := "isWord", desc := "(I)Z" } : Jvm.MethodName)) ∈ LW := tw4 (i := 221) rfl rfl
theorem q942 : (Jvm.Cond.code ({ cls := "LongYear", name := "isWord", desc := "(I)Z" } : Jvm.MethodName) prog_1_method_43_code (2 : Nat) (Option.some Jvm.ClassFile.FieldType.boolean)) ∈ LW := tw4 (i := 222) rfl rfl
theorem q943 : (Jvm.Cond.methodLink "LongYear" (264 : Nat) ({ cls := "LongYear$Books", name := "letter", desc := "(II)I" } : Jvm.MethodName)) ∈ LW := tw4 (i := 223) rfl rfl
theorem q944 : (Jvm.Cond.instanceMethod ({ cls := "LongYear$Books", name := "letter", desc := "(II)I" } : Jvm.MethodName)) ∈ LW := tw4 (i := 224) rfl rfl
theorem q945 : (Jvm.Cond.selects "LongYear$Books" ({ cls := "LongYear$Books", name := "letter", desc := "(II)I" } : Jvm.MethodName) ({ cls := "LongYear$Books", name := "letter", desc := "(II)I" } : Jvm.MethodName)) ∈ LW := tw4 (i := 225) rfl rfl
theorem q946 : (Jvm.Cond.code ({ cls := "LongYear$Books", name := "letter", desc := "(II)I" } : Jvm.MethodName) prog_2_method_15_code (3 : Nat) (Option.some Jvm.ClassFile.FieldType.int)) ∈ LW := tw4 (i := 226) rfl rfl
theorem q947 : (Jvm.Cond.methodLink "LongYear" (267 : Nat) ({ cls := "java/lang/Math", name := "floorMod", desc := "(II)I" } : Jvm.MethodName)) ∈ LW := tw4 (i := 227) rfl rfl
theorem q948 : (Jvm.Cond.static ({ cls := "java/lang/Math", name := "floorMod", desc := "(II)I" } : Jvm.MethodName)) ∈ LW := tw4 (i := 228) rfl rfl
theorem q949 : (Jvm.Cond.code ({ cls := "java/lang/Math", name := "floorMod", desc := "(II)I" } : Jvm.MethodName) prog_16_method_50_code (3 : Nat) (Option.some Jvm.ClassFile.FieldType.int)) ∈ LW := tw4 (i := 229) rfl rfl
theorem q950 : (Jvm.Cond.methodLink "LongYearLaw" (126 : Nat) ({ cls := "LongYear", name := "apart", desc := "(II)I" } : Jvm.MethodName)) ∈ LW := tw4 (i := 230) rfl rfl
theorem q951 : (Jvm.Cond.instanceMethod ({ cls := "LongYear", name := "apart", desc := "(II)I" } : Jvm.MethodName)) ∈ LW := tw4 (i := 231) rfl rfl
theorem q952 : (Jvm.Cond.selects "LongYear" ({ cls := "LongYear", name := "apart", desc := "(II)I" } : Jvm.MethodName) ({ cls := "LongYear", name := "apart", desc := "(II)I" } : Jvm.MethodName)) ∈ LW := tw4 (i := 232) rfl rfl
theorem q953 : (Jvm.Cond.code ({ cls := "LongYear", name := "apart", desc := "(II)I" } : Jvm.MethodName) prog_1_method_29_code (3 : Nat) (Option.some Jvm.ClassFile.FieldType.int)) ∈ LW := tw4 (i := 233) rfl rfl
theorem q954 : (Jvm.Cond.methodLink "LongYear" (272 : Nat) ({ cls := "LongYear$Books", name := "wordsApart", desc := "(II)I" } : Jvm.MethodName)) ∈ LW := tw4 (i := 234) rfl rfl
theorem q955 : (Jvm.Cond.instanceMethod ({ cls := "LongYear$Books", name := "wordsApart", desc := "(II)I" } : Jvm.MethodName)) ∈ LW := tw4 (i := 235) rfl rfl
theorem q956 : (Jvm.Cond.selects "LongYear$Books" ({ cls := "LongYear$Books", name := "wordsApart", desc := "(II)I" } : Jvm.MethodName) ({ cls := "LongYear$Books", name := "wordsApart", desc := "(II)I" } : Jvm.MethodName)) ∈ LW := tw4 (i := 236) rfl rfl
theorem q957 : (Jvm.Cond.code ({ cls := "LongYear$Books", name := "wordsApart", desc := "(II)I" } : Jvm.MethodName) prog_2_method_16_code (5 : Nat) (Option.some Jvm.ClassFile.FieldType.int)) ∈ LW := tw4 (i := 237) rfl rfl
theorem q958 : (Jvm.Cond.methodLink "LongYear$Books" (75 : Nat) ({ cls := "LongYear$Books", name := "letter", desc := "(II)I" } : Jvm.MethodName)) ∈ LW := tw4 (i := 238) rfl rfl
theorem q959 : (Jvm.Cond.methodLink "LongYearLaw" (130 : Nat) ({ cls := "LongYear", name := "bears", desc := "()I" } : Jvm.MethodName)) ∈ LW := tw4 (i := 239) rfl rfl
theorem q960 : (Jvm.Cond.instanceMethod ({ cls := "LongYear", name := "bears", desc := "()I" } : Jvm.MethodName)) ∈ LW := tw5 (i := 0) rfl rfl
theorem q961 : (Jvm.Cond.selects "LongYear" ({ cls := "LongYear", name := "bears", desc := "()I" } : Jvm.MethodName) ({ cls := "LongYear", name := "bears", desc := "()I" } : Jvm.MethodName)) ∈ LW := tw5 (i := 1) rfl rfl
theorem q962 : (Jvm.Cond.code ({ cls := "LongYear", name := "bears", desc := "()I" } : Jvm.MethodName) prog_1_method_30_code (2 : Nat) (Option.some Jvm.ClassFile.FieldType.int)) ∈ LW := tw5 (i := 2) rfl rfl
theorem q963 : (Jvm.Cond.methodLink "LongYear" (275 : Nat) ({ cls := "LongYear$Books", name := "nearestPair", desc := "()I" } : Jvm.MethodName)) ∈ LW := tw5 (i := 3) rfl rfl
theorem q964 : (Jvm.Cond.instanceMethod ({ cls := "LongYear$Books", name := "nearestPair", desc := "()I" } : Jvm.MethodName)) ∈ LW := tw5 (i := 4) rfl rfl
theorem q965 : (Jvm.Cond.selects "LongYear$Books" ({ cls := "LongYear$Books", name := "nearestPair", desc := "()I" } : Jvm.MethodName) ({ cls := "LongYear$Books", name := "nearestPair", desc := "()I" } : Jvm.MethodName)) ∈ LW := tw5 (i := 5) rfl rfl
theorem q966 : (Jvm.Cond.code ({ cls := "LongYear$Books", name := "nearestPair", desc := "()I" } : Jvm.MethodName) prog_2_method_17_code (5 : Nat) (Option.some Jvm.ClassFile.FieldType.int)) ∈ LW := tw5 (i := 6) rfl rfl
theorem q967 : (Jvm.Cond.methodLink "LongYear$Books" (79 : Nat) ({ cls := "LongYear$Books", name := "wordsApart", desc := "(II)I" } : Jvm.MethodName)) ∈ LW := tw5 (i := 7) rfl rfl
theorem q968 : (Jvm.Cond.methodLink "LongYearLaw" (134 : Nat) ({ cls := "LongYear", name := "meant", desc := "(IIIIII)I" } : Jvm.MethodName)) ∈ LW := tw5 (i := 8) rfl rfl
theorem q969 : (Jvm.Cond.instanceMethod ({ cls := "LongYear", name := "meant", desc := "(IIIIII)I" } : Jvm.MethodName)) ∈ LW := tw5 (i := 9) rfl rfl
theorem q970 : (Jvm.Cond.selects "LongYear" ({ cls := "LongYear", name := "meant", desc := "(IIIIII)I" } : Jvm.MethodName) ({ cls := "LongYear", name := "meant", desc := "(IIIIII)I" } : Jvm.MethodName)) ∈ LW := tw5 (i := 10) rfl rfl
theorem q971 : (Jvm.Cond.code ({ cls := "LongYear", name := "meant", desc := "(IIIIII)I" } : Jvm.MethodName) prog_1_method_31_code (7 : Nat) (Option.some Jvm.ClassFile.FieldType.int)) ∈ LW := tw5 (i := 11) rfl rfl
theorem q972 : (Jvm.Cond.methodLink "LongYear" (281 : Nat) ({ cls := "LongYear$Books", name := "nearestWord", desc := "([I)I" } : Jvm.MethodName)) ∈ LW := tw5 (i := 12) rfl rfl
theorem q973 : (Jvm.Cond.instanceMethod ({ cls := "LongYear$Books", name := "nearestWord", desc := "([I)I" } : Jvm.MethodName)) ∈ LW := tw5 (i := 13) rfl rfl
theorem q974 : (Jvm.Cond.selects "LongYear$Books" ({ cls := "LongYear$Books", name := "nearestWord", desc := "([I)I" } : Jvm.MethodName) ({ cls := "LongYear$Books", name := "nearestWord", desc := "([I)I" } : Jvm.MethodName)) ∈ LW := tw5 (i := 14) rfl rfl
theorem q975 : (Jvm.Cond.code ({ cls := "LongYear$Books", name := "nearestWord", desc := "([I)I" } : Jvm.MethodName) prog_2_method_18_code (7 : Nat) (Option.some Jvm.ClassFile.FieldType.int)) ∈ LW := tw5 (i := 15) rfl rfl
theorem q976 : (Jvm.Cond.methodLink "LongYearLaw" (138 : Nat) ({ cls := "LongYear", name := "meet", desc := "(II)I" } : Jvm.MethodName)) ∈ LW := tw5 (i := 16) rfl rfl
theorem q977 : (Jvm.Cond.instanceMethod ({ cls := "LongYear", name := "meet", desc := "(II)I" } : Jvm.MethodName)) ∈ LW := tw5 (i := 17) rfl rfl
theorem q978 : (Jvm.Cond.selects "LongYear" ({ cls := "LongYear", name := "meet", desc := "(II)I" } : Jvm.MethodName) ({ cls := "LongYear", name := "meet", desc := "(II)I" } : Jvm.MethodName)) ∈ LW := tw5 (i := 18) rfl rfl
theorem q979 : (Jvm.Cond.code ({ cls := "LongYear", name := "meet", desc := "(II)I" } : Jvm.MethodName) prog_1_method_32_code (6 : Nat) (Option.some Jvm.ClassFile.FieldType.int)) ∈ LW := tw5 (i := 19) rfl rfl
theorem q980 : (Jvm.Cond.methodLink "LongYearLaw" (142 : Nat) ({ cls := "LongYear", name := "part", desc := "(I)J" } : Jvm.MethodName)) ∈ LW := tw5 (i := 20) rfl rfl
theorem q981 : (Jvm.Cond.instanceMethod ({ cls := "LongYear", name := "part", desc := "(I)J" } : Jvm.MethodName)) ∈ LW := tw5 (i := 21) rfl rfl
theorem q982 : (Jvm.Cond.selects "LongYear" ({ cls := "LongYear", name := "part", desc := "(I)J" } : Jvm.MethodName) ({ cls := "LongYear", name := "part", desc := "(I)J" } : Jvm.MethodName)) ∈ LW := tw5 (i := 22) rfl rfl
theorem q983 : (Jvm.Cond.code ({ cls := "LongYear", name := "part", desc := "(I)J" } : Jvm.MethodName) prog_1_method_33_code (2 : Nat) (Option.some Jvm.ClassFile.FieldType.long)) ∈ LW := tw5 (i := 23) rfl rfl
theorem q984 : (Jvm.Cond.methodLink "LongYearLaw" (147 : Nat) ({ cls := "LongYear", name := "image", desc := "(I)I" } : Jvm.MethodName)) ∈ LW := tw5 (i := 24) rfl rfl
theorem q985 : (Jvm.Cond.instanceMethod ({ cls := "LongYear", name := "image", desc := "(I)I" } : Jvm.MethodName)) ∈ LW := tw5 (i := 25) rfl rfl
theorem q986 : (Jvm.Cond.selects "LongYear" ({ cls := "LongYear", name := "image", desc := "(I)I" } : Jvm.MethodName) ({ cls := "LongYear", name := "image", desc := "(I)I" } : Jvm.MethodName)) ∈ LW := tw5 (i := 26) rfl rfl
theorem q987 : (Jvm.Cond.code ({ cls := "LongYear", name := "image", desc := "(I)I" } : Jvm.MethodName) prog_1_method_34_code (2 : Nat) (Option.some Jvm.ClassFile.FieldType.int)) ∈ LW := tw5 (i := 27) rfl rfl
theorem q988 : (Jvm.Cond.methodLink "LongYear" (287 : Nat) ({ cls := "LongYear", name := "imageAt", desc := "(I)LLongYear$Lump;" } : Jvm.MethodName)) ∈ LW := tw5 (i := 28) rfl rfl
theorem q990 : (Jvm.Cond.instanceMethod ({ cls := "LongYear", name := "imageAt", desc := "(I)LLongYear$Lump;" } : Jvm.MethodName)) ∈ LW := tw5 (i := 30) rfl rfl
theorem q991 : (Jvm.Cond.code ({ cls := "LongYear", name := "imageAt", desc := "(I)LLongYear$Lump;" } : Jvm.MethodName) prog_1_method_44_code (2 : Nat) (Option.some (Jvm.ClassFile.FieldType.object "LongYear$Lump"))) ∈ LW := tw5 (i := 31) rfl rfl
theorem q992 : (Jvm.Cond.methodLink "LongYearLaw" (151 : Nat) ({ cls := "LongYear", name := "from", desc := "(I)I" } : Jvm.MethodName)) ∈ LW := tw5 (i := 32) rfl rfl
theorem q993 : (Jvm.Cond.instanceMethod ({ cls := "LongYear", name := "from", desc := "(I)I" } : Jvm.MethodName)) ∈ LW := tw5 (i := 33) rfl rfl
theorem q994 : (Jvm.Cond.selects "LongYear" ({ cls := "LongYear", name := "from", desc := "(I)I" } : Jvm.MethodName) ({ cls := "LongYear", name := "from", desc := "(I)I" } : Jvm.MethodName)) ∈ LW := tw5 (i := 34) rfl rfl
theorem q995 : (Jvm.Cond.code ({ cls := "LongYear", name := "from", desc := "(I)I" } : Jvm.MethodName) prog_1_method_35_code (2 : Nat) (Option.some Jvm.ClassFile.FieldType.int)) ∈ LW := tw5 (i := 35) rfl rfl
theorem q996 : (Jvm.Cond.methodLink "LongYearLaw" (155 : Nat) ({ cls := "LongYear", name := "status", desc := "(I)I" } : Jvm.MethodName)) ∈ LW := tw5 (i := 36) rfl rfl
theorem q997 : (Jvm.Cond.instanceMethod ({ cls := "LongYear", name := "status", desc := "(I)I" } : Jvm.MethodName)) ∈ LW := tw5 (i := 37) rfl rfl
theorem q998 : (Jvm.Cond.selects "LongYear" ({ cls := "LongYear", name := "status", desc := "(I)I" } : Jvm.MethodName) ({ cls := "LongYear", name := "status", desc := "(I)I" } : Jvm.MethodName)) ∈ LW := tw5 (i := 38) rfl rfl
theorem q999 : (Jvm.Cond.code ({ cls := "LongYear", name := "status", desc := "(I)I" } : Jvm.MethodName) prog_1_method_36_code (2 : Nat) (Option.some Jvm.ClassFile.FieldType.int)) ∈ LW := tw5 (i := 39) rfl rfl
theorem q1000 : (Jvm.Cond.methodLink "LongYearLaw" (159 : Nat) ({ cls := "LongYear", name := "count", desc := "(I)I" } : Jvm.MethodName)) ∈ LW := tw5 (i := 40) rfl rfl
theorem q1001 : (Jvm.Cond.instanceMethod ({ cls := "LongYear", name := "count", desc := "(I)I" } : Jvm.MethodName)) ∈ LW := tw5 (i := 41) rfl rfl
theorem q1002 : (Jvm.Cond.selects "LongYear" ({ cls := "LongYear", name := "count", desc := "(I)I" } : Jvm.MethodName) ({ cls := "LongYear", name := "count", desc := "(I)I" } : Jvm.MethodName)) ∈ LW := tw5 (i := 42) rfl rfl
theorem q1003 : (Jvm.Cond.code ({ cls := "LongYear", name := "count", desc := "(I)I" } : Jvm.MethodName) prog_1_method_37_code (2 : Nat) (Option.some Jvm.ClassFile.FieldType.int)) ∈ LW := tw5 (i := 43) rfl rfl
theorem q1004 : (Jvm.Cond.methodLink "LongYear" (303 : Nat) ({ cls := "LongYear", name := "tally", desc := "(I)I" } : Jvm.MethodName)) ∈ LW := tw5 (i := 44) rfl rfl
theorem q1006 : (Jvm.Cond.instanceMethod ({ cls := "LongYear", name := "tally", desc := "(I)I" } : Jvm.MethodName)) ∈ LW := tw5 (i := 46) rfl rfl
theorem q1007 : (Jvm.Cond.code ({ cls := "LongYear", name := "tally", desc := "(I)I" } : Jvm.MethodName) prog_1_method_47_code (2 : Nat) (Option.some Jvm.ClassFile.FieldType.int)) ∈ LW := tw5 (i := 47) rfl rfl
theorem q1008 : (Jvm.Cond.methodLink "LongYearLaw" (163 : Nat) ({ cls := "LongYear", name := "digest", desc := "()J" } : Jvm.MethodName)) ∈ LW := tw5 (i := 48) rfl rfl
theorem q1009 : (Jvm.Cond.instanceMethod ({ cls := "LongYear", name := "digest", desc := "()J" } : Jvm.MethodName)) ∈ LW := tw5 (i := 49) rfl rfl
theorem q1010 : (Jvm.Cond.selects "LongYear" ({ cls := "LongYear", name := "digest", desc := "()J" } : Jvm.MethodName) ({ cls := "LongYear", name := "digest", desc := "()J" } : Jvm.MethodName)) ∈ LW := tw5 (i := 50) rfl rfl
theorem q1011 : (Jvm.Cond.code ({ cls := "LongYear", name := "digest", desc := "()J" } : Jvm.MethodName) prog_1_method_38_code (4 : Nat) (Option.some Jvm.ClassFile.FieldType.long)) ∈ LW := tw5 (i := 51) rfl rfl
theorem q1012 : (Jvm.Cond.constantLong "LongYear" (306 : Nat) (827 : Int64)) ∈ LW := tw5 (i := 52) rfl rfl
theorem q1013 : (Jvm.Cond.methodLink "LongYear" (308 : Nat) ({ cls := "LongYear", name := "mix", desc := "(JJ)J" } : Jvm.MethodName)) ∈ LW := tw5 (i := 53) rfl rfl
theorem q1014 : (Jvm.Cond.static ({ cls := "LongYear", name := "mix", desc := "(JJ)J" } : Jvm.MethodName)) ∈ LW := tw5 (i := 54) rfl rfl
theorem q1015 : (Jvm.Cond.code ({ cls := "LongYear", name := "mix", desc := "(JJ)J" } : Jvm.MethodName) prog_1_method_51_code (4 : Nat) (Option.some Jvm.ClassFile.FieldType.long)) ∈ LW := tw5 (i := 55) rfl rfl
theorem q1016 : (Jvm.Cond.constantLong "LongYear" (343 : Nat) (31 : Int64)) ∈ LW := tw5 (i := 56) rfl rfl
theorem q1017 : (Jvm.Cond.methodLink "LongYear" (312 : Nat) ({ cls := "LongYear$Farm", name := "mixInto", desc := "(J)J" } : Jvm.MethodName)) ∈ LW := tw5 (i := 57) rfl rfl
theorem q1018 : (Jvm.Cond.instanceMethod ({ cls := "LongYear$Farm", name := "mixInto", desc := "(J)J" } : Jvm.MethodName)) ∈ LW := tw5 (i := 58) rfl rfl
theorem q1019 : (Jvm.Cond.selects "LongYear$Farm" ({ cls := "LongYear$Farm", name := "mixInto", desc := "(J)J" } : Jvm.MethodName) ({ cls := "LongYear$Farm", name := "mixInto", desc := "(J)J" } : Jvm.MethodName)) ∈ LW := tw5 (i := 59) rfl rfl
theorem q1020 : (Jvm.Cond.code ({ cls := "LongYear$Farm", name := "mixInto", desc := "(J)J" } : Jvm.MethodName) prog_4_method_26_code (7 : Nat) (Option.some Jvm.ClassFile.FieldType.long)) ∈ LW := tw5 (i := 60) rfl rfl
theorem q1022 : (Jvm.Cond.methodLink "LongYear" (316 : Nat) ({ cls := "LongYear$Books", name := "mixInto", desc := "(J)J" } : Jvm.MethodName)) ∈ LW := tw5 (i := 62) rfl rfl
theorem q1023 : (Jvm.Cond.instanceMethod ({ cls := "LongYear$Books", name := "mixInto", desc := "(J)J" } : Jvm.MethodName)) ∈ LW := tw5 (i := 63) rfl rfl
theorem q1024 : (Jvm.Cond.selects "LongYear$Books" ({ cls := "LongYear$Books", name := "mixInto", desc := "(J)J" } : Jvm.MethodName) ({ cls := "LongYear$Books", name := "mixInto", desc := "(J)J" } : Jvm.MethodName)) ∈ LW := tw5 (i := 64) rfl rfl
theorem q1025 : (Jvm.Cond.code ({ cls := "LongYear$Books", name := "mixInto", desc := "(J)J" } : Jvm.MethodName) prog_2_method_19_code (6 : Nat) (Option.some Jvm.ClassFile.FieldType.long)) ∈ LW := tw5 (i := 65) rfl rfl
theorem q1027 : (Jvm.Cond.classLink "LongYearLaw" (10 : Nat) "LongYearModel") ∈ LW := tw5 (i := 67) rfl rfl
theorem q1028 : (Jvm.Cond.instantiable "LongYearModel" (18 : Nat)) ∈ LW := tw5 (i := 68) rfl rfl
theorem q1029 : (Jvm.Cond.methodLink "LongYearLaw" (12 : Nat) ({ cls := "LongYearModel", name := "<init>", desc := "()V" } : Jvm.MethodName)) ∈ LW := tw5 (i := 69) rfl rfl
theorem q1030 : (Jvm.Cond.instanceMethod ({ cls := "LongYearModel", name := "<init>", desc := "()V" } : Jvm.MethodName)) ∈ LW := tw5 (i := 70) rfl rfl
theorem q1031 : (Jvm.Cond.code ({ cls := "LongYearModel", name := "<init>", desc := "()V" } : Jvm.MethodName) prog_14_method_1_code (1 : Nat) (Option.none : Option Jvm.ClassFile.FieldType)) ∈ LW := tw5 (i := 71) rfl rfl
theorem q1032 : (Jvm.Cond.methodLink "LongYearModel" (1 : Nat) ({ cls := "java/lang/Object", name := "<init>", desc := "()V" } : Jvm.MethodName)) ∈ LW := tw5 (i := 72) rfl rfl
theorem q1033 : (Jvm.Cond.methodLink "LongYearModel" (48 : Nat) ({ cls := "LongYearModel", name := "begin", desc := "([II)V" } : Jvm.MethodName)) ∈ LW := tw5 (i := 73) rfl rfl
theorem q1034 : (Jvm.Cond.static ({ cls := "LongYearModel", name := "begin", desc := "([II)V" } : Jvm.MethodName)) ∈ LW := tw5 (i := 74) rfl rfl
theorem q1035 : (Jvm.Cond.code ({ cls := "LongYearModel", name := "begin", desc := "([II)V" } : Jvm.MethodName) prog_14_method_8_code (3 : Nat) (Option.none : Option Jvm.ClassFile.FieldType)) ∈ LW := tw5 (i := 75) rfl rfl
theorem q1036 : (Jvm.Cond.fieldLink "LongYearModel" (7 : Nat) "LongYearModel" "now" "[I") ∈ LW := tw5 (i := 76) rfl rfl
theorem q1037 : (Jvm.Cond.fieldLink "LongYearModel" (13 : Nat) "LongYearModel" "kept" "[I") ∈ LW := tw5 (i := 77) rfl rfl
theorem q1038 : (Jvm.Cond.fieldLink "LongYearModel" (16 : Nat) "LongYearModel" "isKept" "[Z") ∈ LW := tw5 (i := 78) rfl rfl
theorem q1039 : (Jvm.Cond.fieldLink "LongYearModel" (20 : Nat) "LongYearModel" "refused" "[I") ∈ LW := tw5 (i := 79) rfl rfl
theorem q1040 : (Jvm.Cond.fieldLink "LongYearModel" (161 : Nat) "LongYearModel" "above" "J") ∈ LW := tw5 (i := 80) rfl rfl
theorem q1041 : (Jvm.Cond.fieldLink "LongYearModel" (23 : Nat) "LongYearModel" "below" "J") ∈ LW := tw5 (i := 81) rfl rfl
theorem q1042 : (Jvm.Cond.fieldLink "LongYearModel" (27 : Nat) "LongYearModel" "was" "[I") ∈ LW := tw5 (i := 82) rfl rfl
theorem q1043 : (Jvm.Cond.fieldLink "LongYearModel" (30 : Nat) "LongYearModel" "groups" "[I") ∈ LW := tw5 (i := 83) rfl rfl
theorem q1044 : (Jvm.Cond.fieldLink "LongYearModel" (33 : Nat) "LongYearModel" "nets" "[I") ∈ LW := tw5 (i := 84) rfl rfl
theorem q1045 : (Jvm.Cond.fieldLink "LongYearModel" (36 : Nat) "LongYearModel" "heard" "[I") ∈ LW := tw5 (i := 85) rfl rfl
theorem q1046 : (Jvm.Cond.fieldLink "LongYearModel" (39 : Nat) "LongYearModel" "bytes" "[I") ∈ LW := tw5 (i := 86) rfl rfl
theorem q1047 : (Jvm.Cond.fieldLink "LongYearModel" (239 : Nat) "LongYearModel" "bytesLong" "I") ∈ LW := tw5 (i := 87) rfl rfl
theorem q1048 : (Jvm.Cond.fieldLink "LongYearModel" (251 : Nat) "LongYearModel" "tokenAt" "I") ∈ LW := tw5 (i := 88) rfl rfl
theorem q1049 : (Jvm.Cond.fieldLink "LongYearModel" (254 : Nat) "LongYearModel" "tokenLong" "I") ∈ LW := tw5 (i := 89) rfl rfl
theorem q1050 : (Jvm.Cond.fieldLink "LongYearModel" (257 : Nat) "LongYearModel" "token" "I") ∈ LW := tw5 (i := 90) rfl rfl
theorem q1051 : (Jvm.Cond.fieldLink "LongYearModel" (260 : Nat) "LongYearModel" "value" "I") ∈ LW := tw5 (i := 91) rfl rfl
theorem q1052 : (Jvm.Cond.fieldLink "LongYearModel" (42 : Nat) "LongYearModel" "next" "[I") ∈ LW := tw5 (i := 92) rfl rfl
theorem q1053 : (Jvm.Cond.fieldLink "LongYearModel" (45 : Nat) "LongYearModel" "values" "[I") ∈ LW := tw5 (i := 93) rfl rfl
theorem q1054 : (Jvm.Cond.laysFinal "LongYearModel" "LongYearModel" "now" "[I") ∈ LW := tw5 (i := 94) rfl rfl
theorem q1056 : (Jvm.Cond.laysFinal "LongYearModel" "LongYearModel" "kept" "[I") ∈ LW := tw5 (i := 96) rfl rfl
theorem q1058 : (Jvm.Cond.laysFinal "LongYearModel" "LongYearModel" "isKept" "[Z") ∈ LW := tw5 (i := 98) rfl rfl
theorem q1060 : (Jvm.Cond.laysFinal "LongYearModel" "LongYearModel" "refused" "[I") ∈ LW := tw5 (i := 100) rfl rfl
theorem q1062 : (Jvm.Cond.lays "LongYearModel" "LongYearModel" "above" "J") ∈ LW := tw5 (i := 102) rfl rfl
theorem q1064 : (Jvm.Cond.lays "LongYearModel" "LongYearModel" "below" "J") ∈ LW := tw5 (i := 104) rfl rfl
theorem q1066 : (Jvm.Cond.laysFinal "LongYearModel" "LongYearModel" "was" "[I") ∈ LW := tw5 (i := 106) rfl rfl
theorem q1068 : (Jvm.Cond.laysFinal "LongYearModel" "LongYearModel" "groups" "[I") ∈ LW := tw5 (i := 108) rfl rfl
theorem q1070 : (Jvm.Cond.laysFinal "LongYearModel" "LongYearModel" "nets" "[I") ∈ LW := tw5 (i := 110) rfl rfl
theorem q1072 : (Jvm.Cond.laysFinal "LongYearModel" "LongYearModel" "heard" "[I") ∈ LW := tw5 (i := 112) rfl rfl
theorem q1074 : (Jvm.Cond.laysFinal "LongYearModel" "LongYearModel" "bytes" "[I") ∈ LW := tw5 (i := 114) rfl rfl
theorem q1076 : (Jvm.Cond.lays "LongYearModel" "LongYearModel" "bytesLong" "I") ∈ LW := tw5 (i := 116) rfl rfl
theorem q1078 : (Jvm.Cond.lays "LongYearModel" "LongYearModel" "tokenAt" "I") ∈ LW := tw5 (i := 118) rfl rfl
theorem q1080 : (Jvm.Cond.lays "LongYearModel" "LongYearModel" "tokenLong" "I") ∈ LW := tw5 (i := 120) rfl rfl
theorem q1082 : (Jvm.Cond.lays "LongYearModel" "LongYearModel" "token" "I") ∈ LW := tw5 (i := 122) rfl rfl
theorem q1084 : (Jvm.Cond.lays "LongYearModel" "LongYearModel" "value" "I") ∈ LW := tw5 (i := 124) rfl rfl
theorem q1086 : (Jvm.Cond.laysFinal "LongYearModel" "LongYearModel" "next" "[I") ∈ LW := tw5 (i := 126) rfl rfl
theorem q1088 : (Jvm.Cond.laysFinal "LongYearModel" "LongYearModel" "values" "[I") ∈ LW := tw5 (i := 128) rfl rfl
theorem q1090 : (Jvm.Cond.superclass "LongYearModel" "java/lang/Object") ∈ LW := tw5 (i := 130) rfl rfl
theorem q1091 : (Jvm.Cond.arrayClass Jvm.ClassFile.FieldType.boolean) ∈ LW := tw5 (i := 131) rfl rfl
theorem q1092 : (Jvm.Cond.methodLink "LongYearLaw" (17 : Nat) ({ cls := "LongYearModel", name := "year", desc := "(I)I" } : Jvm.MethodName)) ∈ LW := tw5 (i := 132) rfl rfl
theorem q1093 : (Jvm.Cond.instanceMethod ({ cls := "LongYearModel", name := "year", desc := "(I)I" } : Jvm.MethodName)) ∈ LW := tw5 (i := 133) rfl rfl
theorem q1094 : (Jvm.Cond.selects "LongYearModel" ({ cls := "LongYearModel", name := "year", desc := "(I)I" } : Jvm.MethodName) ({ cls := "LongYearModel", name := "year", desc := "(I)I" } : Jvm.MethodName)) ∈ LW := tw5 (i := 134) rfl rfl
theorem q1095 : (Jvm.Cond.code ({ cls := "LongYearModel", name := "year", desc := "(I)I" } : Jvm.MethodName) prog_14_method_12_code (3 : Nat) (Option.some Jvm.ClassFile.FieldType.int)) ∈ LW := tw5 (i := 135) rfl rfl
theorem q1096 : (Jvm.Cond.constantLong "LongYearModel" (60 : Nat) (2 : Int64)) ∈ LW := tw5 (i := 136) rfl rfl
theorem q1097 : (Jvm.Cond.constantLong "LongYearModel" (62 : Nat) (70 : Int64)) ∈ LW := tw5 (i := 137) rfl rfl
theorem q1098 : (Jvm.Cond.methodLink "LongYearModel" (56 : Nat) ({ cls := "LongYearModel", name := "in", desc := "(JJJ)Z" } : Jvm.MethodName)) ∈ LW := tw5 (i := 138) rfl rfl
theorem q1099 : (Jvm.Cond.static ({ cls := "LongYearModel", name := "in", desc := "(JJJ)Z" } : Jvm.MethodName)) ∈ LW := tw5 (i := 139) rfl rfl
theorem q1100 : (Jvm.Cond.code ({ cls := "LongYearModel", name := "in", desc := "(JJJ)Z" } : Jvm.MethodName) prog_14_method_3_code (6 : Nat) (Option.some Jvm.ClassFile.FieldType.boolean)) ∈ LW := tw5 (i := 140) rfl rfl
theorem q1101 : (Jvm.Cond.methodLink "LongYearModel" (64 : Nat) ({ cls := "LongYearModel", name := "bad", desc := "(I)I" } : Jvm.MethodName)) ∈ LW := tw5 (i := 141) rfl rfl
theorem q1103 : (Jvm.Cond.instanceMethod ({ cls := "LongYearModel", name := "bad", desc := "(I)I" } : Jvm.MethodName)) ∈ LW := tw5 (i := 143) rfl rfl
theorem q1104 : (Jvm.Cond.code ({ cls := "LongYearModel", name := "bad", desc := "(I)I" } : Jvm.MethodName) prog_14_method_4_code (2 : Nat) (Option.some Jvm.ClassFile.FieldType.int)) ∈ LW := tw5 (i := 144) rfl rfl
theorem q1105 : (Jvm.Cond.methodLink "LongYearLaw" (22 : Nat) ({ cls := "LongYearModel", name := "store", desc := "(II)I" } : Jvm.MethodName)) ∈ LW := tw5 (i := 145) rfl rfl
theorem q1106 : (Jvm.Cond.instanceMethod ({ cls := "LongYearModel", name := "store", desc := "(II)I" } : Jvm.MethodName)) ∈ LW := tw5 (i := 146) rfl rfl
theorem q1107 : (Jvm.Cond.selects "LongYearModel" ({ cls := "LongYearModel", name := "store", desc := "(II)I" } : Jvm.MethodName) ({ cls := "LongYearModel", name := "store", desc := "(II)I" } : Jvm.MethodName)) ∈ LW := tw5 (i := 147) rfl rfl
theorem q1108 : (Jvm.Cond.code ({ cls := "LongYearModel", name := "store", desc := "(II)I" } : Jvm.MethodName) prog_14_method_13_code (4 : Nat) (Option.some Jvm.ClassFile.FieldType.int)) ∈ LW := tw5 (i := 148) rfl rfl
theorem q1109 : (Jvm.Cond.constantLong "LongYearModel" (68 : Nat) (3 : Int64)) ∈ LW := tw5 (i := 149) rfl rfl
theorem q1110 : (Jvm.Cond.constantLong "LongYearModel" (70 : Nat) (9999 : Int64)) ∈ LW := tw5 (i := 150) rfl rfl
theorem q1111 : (Jvm.Cond.methodLink "LongYearLaw" (27 : Nat) ({ cls := "LongYearModel", name := "family", desc := "(III)I" } : Jvm.MethodName)) ∈ LW := tw5 (i := 151) rfl rfl
theorem q1112 : (Jvm.Cond.instanceMethod ({ cls := "LongYearModel", name := "family", desc := "(III)I" } : Jvm.MethodName)) ∈ LW := tw5 (i := 152) rfl rfl
theorem q1113 : (Jvm.Cond.selects "LongYearModel" ({ cls := "LongYearModel", name := "family", desc := "(III)I" } : Jvm.MethodName) ({ cls := "LongYearModel", name := "family", desc := "(III)I" } : Jvm.MethodName)) ∈ LW := tw5 (i := 153) rfl rfl
theorem q1114 : (Jvm.Cond.code ({ cls := "LongYearModel", name := "family", desc := "(III)I" } : Jvm.MethodName) prog_14_method_15_code (4 : Nat) (Option.some Jvm.ClassFile.FieldType.int)) ∈ LW := tw5 (i := 154) rfl rfl
theorem q1115 : (Jvm.Cond.constantLong "LongYearModel" (72 : Nat) (4 : Int64)) ∈ LW := tw5 (i := 155) rfl rfl
theorem q1116 : (Jvm.Cond.constantLong "LongYearModel" (74 : Nat) (20 : Int64)) ∈ LW := tw5 (i := 156) rfl rfl
theorem q1117 : (Jvm.Cond.constantLong "LongYearModel" (76 : Nat) (9 : Int64)) ∈ LW := tw5 (i := 157) rfl rfl
theorem q1118 : (Jvm.Cond.methodLink "LongYearModel" (52 : Nat) ({ cls := "LongYearModel", name := "families", desc := "()I" } : Jvm.MethodName)) ∈ LW := tw5 (i := 158) rfl rfl
theorem q1120 : (Jvm.Cond.instanceMethod ({ cls := "LongYearModel", name := "families", desc := "()I" } : Jvm.MethodName)) ∈ LW := tw5 (i := 160) rfl rfl
theorem q1121 : (Jvm.Cond.code ({ cls := "LongYearModel", name := "families", desc := "()I" } : Jvm.MethodName) prog_14_method_9_code (1 : Nat) (Option.some Jvm.ClassFile.FieldType.int)) ∈ LW := tw5 (i := 161) rfl rfl
theorem q1122 : (Jvm.Cond.methodLink "LongYearModel" (78 : Nat) ({ cls := "LongYearModel", name := "full", desc := "()I" } : Jvm.MethodName)) ∈ LW := tw5 (i := 162) rfl rfl
theorem q1124 : (Jvm.Cond.instanceMethod ({ cls := "LongYearModel", name := "full", desc := "()I" } : Jvm.MethodName)) ∈ LW := tw5 (i := 164) rfl rfl
theorem q1125 : (Jvm.Cond.code ({ cls := "LongYearModel", name := "full", desc := "()I" } : Jvm.MethodName) prog_14_method_6_code (1 : Nat) (Option.some Jvm.ClassFile.FieldType.int)) ∈ LW := tw5 (i := 165) rfl rfl
theorem q1126 : (Jvm.Cond.methodLink "LongYearModel" (81 : Nat) ({ cls := "LongYearModel", name := "layFamily", desc := "([IIII)V" } : Jvm.MethodName)) ∈ LW := tw5 (i := 166) rfl rfl
theorem q1127 : (Jvm.Cond.static ({ cls := "LongYearModel", name := "layFamily", desc := "([IIII)V" } : Jvm.MethodName)) ∈ LW := tw5 (i := 167) rfl rfl
theorem q1128 : (Jvm.Cond.code ({ cls := "LongYearModel", name := "layFamily", desc := "([IIII)V" } : Jvm.MethodName) prog_14_method_14_code (5 : Nat) (Option.none : Option Jvm.ClassFile.FieldType)) ∈ LW := tw5 (i := 168) rfl rfl
theorem q1129 : (Jvm.Cond.methodLink "LongYearLaw" (31 : Nat) ({ cls := "LongYearModel", name := "job", desc := "(II)I" } : Jvm.MethodName)) ∈ LW := tw5 (i := 169) rfl rfl
theorem q1130 : (Jvm.Cond.instanceMethod ({ cls := "LongYearModel", name := "job", desc := "(II)I" } : Jvm.MethodName)) ∈ LW := tw5 (i := 170) rfl rfl
theorem q1131 : (Jvm.Cond.selects "LongYearModel" ({ cls := "LongYearModel", name := "job", desc := "(II)I" } : Jvm.MethodName) ({ cls := "LongYearModel", name := "job", desc := "(II)I" } : Jvm.MethodName)) ∈ LW := tw5 (i := 171) rfl rfl
theorem q1132 : (Jvm.Cond.code ({ cls := "LongYearModel", name := "job", desc := "(II)I" } : Jvm.MethodName) prog_14_method_16_code (4 : Nat) (Option.some Jvm.ClassFile.FieldType.int)) ∈ LW := tw5 (i := 172) rfl rfl
theorem q1133 : (Jvm.Cond.methodLink "LongYearModel" (85 : Nat) ({ cls := "LongYearModel", name := "isFamily", desc := "(I)Z" } : Jvm.MethodName)) ∈ LW := tw5 (i := 173) rfl rfl
theorem q1135 : (Jvm.Cond.instanceMethod ({ cls := "LongYearModel", name := "isFamily", desc := "(I)Z" } : Jvm.MethodName)) ∈ LW := tw5 (i := 175) rfl rfl
theorem q1136 : (Jvm.Cond.code ({ cls := "LongYearModel", name := "isFamily", desc := "(I)Z" } : Jvm.MethodName) prog_14_method_10_code (2 : Nat) (Option.some Jvm.ClassFile.FieldType.boolean)) ∈ LW := tw5 (i := 176) rfl rfl
theorem q1137 : (Jvm.Cond.methodLink "LongYearModel" (89 : Nat) ({ cls := "LongYearModel", name := "of", desc := "(II)I" } : Jvm.MethodName)) ∈ LW := tw5 (i := 177) rfl rfl
theorem q1139 : (Jvm.Cond.instanceMethod ({ cls := "LongYearModel", name := "of", desc := "(II)I" } : Jvm.MethodName)) ∈ LW := tw5 (i := 179) rfl rfl
theorem q1140 : (Jvm.Cond.code ({ cls := "LongYearModel", name := "of", desc := "(II)I" } : Jvm.MethodName) prog_14_method_11_code (3 : Nat) (Option.some Jvm.ClassFile.FieldType.int)) ∈ LW := tw5 (i := 180) rfl rfl
theorem q1141 : (Jvm.Cond.methodLink "LongYearLaw" (48 : Nat) ({ cls := "LongYearModel", name := "pass", desc := "(I)I" } : Jvm.MethodName)) ∈ LW := tw5 (i := 181) rfl rfl
theorem q1142 : (Jvm.Cond.instanceMethod ({ cls := "LongYearModel", name := "pass", desc := "(I)I" } : Jvm.MethodName)) ∈ LW := tw5 (i := 182) rfl rfl
theorem q1143 : (Jvm.Cond.selects "LongYearModel" ({ cls := "LongYearModel", name := "pass", desc := "(I)I" } : Jvm.MethodName) ({ cls := "LongYearModel", name := "pass", desc := "(I)I" } : Jvm.MethodName)) ∈ LW := tw5 (i := 183) rfl rfl
theorem q1144 : (Jvm.Cond.code ({ cls := "LongYearModel", name := "pass", desc := "(I)I" } : Jvm.MethodName) prog_14_method_31_code (4 : Nat) (Option.some Jvm.ClassFile.FieldType.int)) ∈ LW := tw5 (i := 184) rfl rfl
theorem q1145 : (Jvm.Cond.methodLink "LongYearModel" (132 : Nat) ({ cls := "LongYearModel", name := "keepPast", desc := "()V" } : Jvm.MethodName)) ∈ LW := tw5 (i := 185) rfl rfl
theorem q1147 : (Jvm.Cond.instanceMethod ({ cls := "LongYearModel", name := "keepPast", desc := "()V" } : Jvm.MethodName)) ∈ LW := tw5 (i := 187) rfl rfl
theorem q1148 : (Jvm.Cond.code ({ cls := "LongYearModel", name := "keepPast", desc := "()V" } : Jvm.MethodName) prog_14_method_30_code (3 : Nat) (Option.none : Option Jvm.ClassFile.FieldType)) ∈ LW := tw5 (i := 188) rfl rfl
theorem q1149 : (Jvm.Cond.methodLink "LongYearModel" (135 : Nat) ({ cls := "LongYearModel", name := "goYear", desc := "(Z)I" } : Jvm.MethodName)) ∈ LW := tw5 (i := 189) rfl rfl
theorem q1151 : (Jvm.Cond.instanceMethod ({ cls := "LongYearModel", name := "goYear", desc := "(Z)I" } : Jvm.MethodName)) ∈ LW := tw5 (i := 191) rfl rfl
theorem q1152 : (Jvm.Cond.code ({ cls := "LongYearModel", name := "goYear", desc := "(Z)I" } : Jvm.MethodName) prog_14_method_29_code (3 : Nat) (Option.some Jvm.ClassFile.FieldType.int)) ∈ LW := tw5 (i := 192) rfl rfl
theorem q1153 : (Jvm.Cond.methodLink "LongYearModel" (93 : Nat) ({ cls := "LongYearModel", name := "isNoon", desc := "(I)Z" } : Jvm.MethodName)) ∈ LW := tw5 (i := 193) rfl rfl
theorem q1155 : (Jvm.Cond.instanceMethod ({ cls := "LongYearModel", name := "isNoon", desc := "(I)Z" } : Jvm.MethodName)) ∈ LW := tw5 (i := 195) rfl rfl
theorem q1156 : (Jvm.Cond.code ({ cls := "LongYearModel", name := "isNoon", desc := "(I)Z" } : Jvm.MethodName) prog_14_method_19_code (2 : Nat) (Option.some Jvm.ClassFile.FieldType.boolean)) ∈ LW := tw5 (i := 196) rfl rfl
theorem q1157 : (Jvm.Cond.methodLink "LongYearModel" (125 : Nat) ({ cls := "LongYearModel", name := "goNoon", desc := "(Z)V" } : Jvm.MethodName)) ∈ LW := tw5 (i := 197) rfl rfl
theorem q1159 : (Jvm.Cond.instanceMethod ({ cls := "LongYearModel", name := "goNoon", desc := "(Z)V" } : Jvm.MethodName)) ∈ LW := tw5 (i := 199) rfl rfl
theorem q1160 : (Jvm.Cond.code ({ cls := "LongYearModel", name := "goNoon", desc := "(Z)V" } : Jvm.MethodName) prog_14_method_28_code (4 : Nat) (Option.none : Option Jvm.ClassFile.FieldType)) ∈ LW := tw5 (i := 200) rfl rfl
theorem q1161 : (Jvm.Cond.methodLink "LongYearModel" (122 : Nat) ({ cls := "LongYearModel", name := "fieldsNow", desc := "()I" } : Jvm.MethodName)) ∈ LW := tw5 (i := 201) rfl rfl
theorem q1163 : (Jvm.Cond.instanceMethod ({ cls := "LongYearModel", name := "fieldsNow", desc := "()I" } : Jvm.MethodName)) ∈ LW := tw5 (i := 203) rfl rfl
theorem q1164 : (Jvm.Cond.code ({ cls := "LongYearModel", name := "fieldsNow", desc := "()I" } : Jvm.MethodName) prog_14_method_27_code (3 : Nat) (Option.some Jvm.ClassFile.FieldType.int)) ∈ LW := tw5 (i := 204) rfl rfl
theorem q1165 : (Jvm.Cond.methodLink "LongYearModel" (103 : Nat) ({ cls := "LongYearModel", name := "put", desc := "(II)V" } : Jvm.MethodName)) ∈ LW := tw5 (i := 205) rfl rfl
theorem q1167 : (Jvm.Cond.instanceMethod ({ cls := "LongYearModel", name := "put", desc := "(II)V" } : Jvm.MethodName)) ∈ LW := tw5 (i := 207) rfl rfl
theorem q1168 : (Jvm.Cond.code ({ cls := "LongYearModel", name := "put", desc := "(II)V" } : Jvm.MethodName) prog_14_method_21_code (4 : Nat) (Option.none : Option Jvm.ClassFile.FieldType)) ∈ LW := tw5 (i := 208) rfl rfl
theorem q1169 : (Jvm.Cond.methodLink "LongYearModel" (116 : Nat) ({ cls := "LongYearModel", name := "eat", desc := "()V" } : Jvm.MethodName)) ∈ LW := tw5 (i := 209) rfl rfl
theorem q1171 : (Jvm.Cond.instanceMethod ({ cls := "LongYearModel", name := "eat", desc := "()V" } : Jvm.MethodName)) ∈ LW := tw5 (i := 211) rfl rfl
theorem q1172 : (Jvm.Cond.code ({ cls := "LongYearModel", name := "eat", desc := "()V" } : Jvm.MethodName) prog_14_method_24_code (3 : Nat) (Option.none : Option Jvm.ClassFile.FieldType)) ∈ LW := tw5 (i := 212) rfl rfl
theorem q1173 : (Jvm.Cond.methodLink "LongYearModel" (110 : Nat) ({ cls := "LongYearModel", name := "eatsOf", desc := "(II)I" } : Jvm.MethodName)) ∈ LW := tw5 (i := 213) rfl rfl
theorem q1175 : (Jvm.Cond.instanceMethod ({ cls := "LongYearModel", name := "eatsOf", desc := "(II)I" } : Jvm.MethodName)) ∈ LW := tw5 (i := 215) rfl rfl
theorem q1176 : (Jvm.Cond.code ({ cls := "LongYearModel", name := "eatsOf", desc := "(II)I" } : Jvm.MethodName) prog_14_method_20_code (5 : Nat) (Option.some Jvm.ClassFile.FieldType.int)) ∈ LW := tw5 (i := 216) rfl rfl
theorem q1177 : (Jvm.Cond.methodLink "LongYearModel" (129 : Nat) ({ cls := "LongYearModel", name := "goDusk", desc := "()V" } : Jvm.MethodName)) ∈ LW := tw5 (i := 217) rfl rfl
theorem q1179 : (Jvm.Cond.instanceMethod ({ cls := "LongYearModel", name := "goDusk", desc := "()V" } : Jvm.MethodName)) ∈ LW := tw5 (i := 219) rfl rfl
theorem q1180 : (Jvm.Cond.code ({ cls := "LongYearModel", name := "goDusk", desc := "()V" } : Jvm.MethodName) prog_14_method_26_code (3 : Nat) (Option.none : Option Jvm.ClassFile.FieldType)) ∈ LW := tw5 (i := 220) rfl rfl
theorem q1181 : (Jvm.Cond.methodLink "LongYearModel" (113 : Nat) ({ cls := "LongYearModel", name := "work", desc := "(I)V" } : Jvm.MethodName)) ∈ LW := tw5 (i := 221) rfl rfl
theorem q1183 : (Jvm.Cond.instanceMethod ({ cls := "LongYearModel", name := "work", desc := "(I)V" } : Jvm.MethodName)) ∈ LW := tw5 (i := 223) rfl rfl
theorem q1184 : (Jvm.Cond.code ({ cls := "LongYearModel", name := "work", desc := "(I)V" } : Jvm.MethodName) prog_14_method_23_code (3 : Nat) (Option.none : Option Jvm.ClassFile.FieldType)) ∈ LW := tw5 (i := 224) rfl rfl
theorem q1185 : (Jvm.Cond.methodLink "LongYearModel" (96 : Nat) ({ cls := "LongYearModel", name := "teach", desc := "(I)V" } : Jvm.MethodName)) ∈ LW := tw5 (i := 225) rfl rfl
theorem q1187 : (Jvm.Cond.instanceMethod ({ cls := "LongYearModel", name := "teach", desc := "(I)V" } : Jvm.MethodName)) ∈ LW := tw5 (i := 227) rfl rfl
theorem q1188 : (Jvm.Cond.code ({ cls := "LongYearModel", name := "teach", desc := "(I)V" } : Jvm.MethodName) prog_14_method_22_code (5 : Nat) (Option.none : Option Jvm.ClassFile.FieldType)) ∈ LW := tw5 (i := 228) rfl rfl
theorem q1189 : (Jvm.Cond.methodLink "LongYearModel" (100 : Nat) ({ cls := "LongYearModel", name := "makes", desc := "(I)I" } : Jvm.MethodName)) ∈ LW := tw5 (i := 229) rfl rfl
theorem q1190 : (Jvm.Cond.static ({ cls := "LongYearModel", name := "makes", desc := "(I)I" } : Jvm.MethodName)) ∈ LW := tw5 (i := 230) rfl rfl
theorem q1191 : (Jvm.Cond.code ({ cls := "LongYearModel", name := "makes", desc := "(I)I" } : Jvm.MethodName) prog_14_method_17_code (1 : Nat) (Option.some Jvm.ClassFile.FieldType.int)) ∈ LW := tw5 (i := 231) rfl rfl
theorem q1192 : (Jvm.Cond.methodLink "LongYearModel" (107 : Nat) ({ cls := "LongYearModel", name := "tends", desc := "(I)I" } : Jvm.MethodName)) ∈ LW := tw5 (i := 232) rfl rfl
theorem q1193 : (Jvm.Cond.static ({ cls := "LongYearModel", name := "tends", desc := "(I)I" } : Jvm.MethodName)) ∈ LW := tw5 (i := 233) rfl rfl
theorem q1194 : (Jvm.Cond.code ({ cls := "LongYearModel", name := "tends", desc := "(I)I" } : Jvm.MethodName) prog_14_method_18_code (1 : Nat) (Option.some Jvm.ClassFile.FieldType.int)) ∈ LW := tw5 (i := 234) rfl rfl
theorem q1195 : (Jvm.Cond.methodLink "LongYearModel" (119 : Nat) ({ cls := "LongYearModel", name := "freeze", desc := "()V" } : Jvm.MethodName)) ∈ LW := tw5 (i := 235) rfl rfl
theorem q1197 : (Jvm.Cond.instanceMethod ({ cls := "LongYearModel", name := "freeze", desc := "()V" } : Jvm.MethodName)) ∈ LW := tw5 (i := 237) rfl rfl
theorem q1198 : (Jvm.Cond.code ({ cls := "LongYearModel", name := "freeze", desc := "()V" } : Jvm.MethodName) prog_14_method_25_code (3 : Nat) (Option.none : Option Jvm.ClassFile.FieldType)) ∈ LW := tw5 (i := 238) rfl rfl
theorem q1199 : (Jvm.Cond.methodLink "LongYearLaw" (52 : Nat) ({ cls := "LongYearModel", name := "undo", desc := "()I" } : Jvm.MethodName)) ∈ LW := tw5 (i := 239) rfl rfl
theorem q1200 : (Jvm.Cond.instanceMethod ({ cls := "LongYearModel", name := "undo", desc := "()I" } : Jvm.MethodName)) ∈ LW := tw6 (i := 0) rfl rfl
theorem q1201 : (Jvm.Cond.selects "LongYearModel" ({ cls := "LongYearModel", name := "undo", desc := "()I" } : Jvm.MethodName) ({ cls := "LongYearModel", name := "undo", desc := "()I" } : Jvm.MethodName)) ∈ LW := tw6 (i := 1) rfl rfl
theorem q1202 : (Jvm.Cond.code ({ cls := "LongYearModel", name := "undo", desc := "()I" } : Jvm.MethodName) prog_14_method_32_code (3 : Nat) (Option.some Jvm.ClassFile.FieldType.int)) ∈ LW := tw6 (i := 2) rfl rfl
theorem q1203 : (Jvm.Cond.methodLink "LongYearModel" (139 : Nat) ({ cls := "LongYearModel", name := "no", desc := "()I" } : Jvm.MethodName)) ∈ LW := tw6 (i := 3) rfl rfl
theorem q1205 : (Jvm.Cond.instanceMethod ({ cls := "LongYearModel", name := "no", desc := "()I" } : Jvm.MethodName)) ∈ LW := tw6 (i := 5) rfl rfl
theorem q1206 : (Jvm.Cond.code ({ cls := "LongYearModel", name := "no", desc := "()I" } : Jvm.MethodName) prog_14_method_5_code (1 : Nat) (Option.some Jvm.ClassFile.FieldType.int)) ∈ LW := tw6 (i := 6) rfl rfl
theorem q1207 : (Jvm.Cond.methodLink "LongYearLaw" (56 : Nat) ({ cls := "LongYearModel", name := "about", desc := "(II)I" } : Jvm.MethodName)) ∈ LW := tw6 (i := 7) rfl rfl
theorem q1208 : (Jvm.Cond.instanceMethod ({ cls := "LongYearModel", name := "about", desc := "(II)I" } : Jvm.MethodName)) ∈ LW := tw6 (i := 8) rfl rfl
theorem q1209 : (Jvm.Cond.selects "LongYearModel" ({ cls := "LongYearModel", name := "about", desc := "(II)I" } : Jvm.MethodName) ({ cls := "LongYearModel", name := "about", desc := "(II)I" } : Jvm.MethodName)) ∈ LW := tw6 (i := 9) rfl rfl
theorem q1210 : (Jvm.Cond.code ({ cls := "LongYearModel", name := "about", desc := "(II)I" } : Jvm.MethodName) prog_14_method_33_code (3 : Nat) (Option.some Jvm.ClassFile.FieldType.int)) ∈ LW := tw6 (i := 10) rfl rfl
theorem q1211 : (Jvm.Cond.methodLink "LongYearLaw" (60 : Nat) ({ cls := "LongYearModel", name := "eats", desc := "(II)I" } : Jvm.MethodName)) ∈ LW := tw6 (i := 11) rfl rfl
theorem q1212 : (Jvm.Cond.instanceMethod ({ cls := "LongYearModel", name := "eats", desc := "(II)I" } : Jvm.MethodName)) ∈ LW := tw6 (i := 12) rfl rfl
theorem q1213 : (Jvm.Cond.selects "LongYearModel" ({ cls := "LongYearModel", name := "eats", desc := "(II)I" } : Jvm.MethodName) ({ cls := "LongYearModel", name := "eats", desc := "(II)I" } : Jvm.MethodName)) ∈ LW := tw6 (i := 13) rfl rfl
theorem q1214 : (Jvm.Cond.code ({ cls := "LongYearModel", name := "eats", desc := "(II)I" } : Jvm.MethodName) prog_14_method_34_code (3 : Nat) (Option.some Jvm.ClassFile.FieldType.int)) ∈ LW := tw6 (i := 14) rfl rfl
theorem q1215 : (Jvm.Cond.methodLink "LongYearLaw" (64 : Nat) ({ cls := "LongYearModel", name := "fields", desc := "()I" } : Jvm.MethodName)) ∈ LW := tw6 (i := 15) rfl rfl
theorem q1216 : (Jvm.Cond.instanceMethod ({ cls := "LongYearModel", name := "fields", desc := "()I" } : Jvm.MethodName)) ∈ LW := tw6 (i := 16) rfl rfl
theorem q1217 : (Jvm.Cond.selects "LongYearModel" ({ cls := "LongYearModel", name := "fields", desc := "()I" } : Jvm.MethodName) ({ cls := "LongYearModel", name := "fields", desc := "()I" } : Jvm.MethodName)) ∈ LW := tw6 (i := 17) rfl rfl
theorem q1218 : (Jvm.Cond.code ({ cls := "LongYearModel", name := "fields", desc := "()I" } : Jvm.MethodName) prog_14_method_35_code (1 : Nat) (Option.some Jvm.ClassFile.FieldType.int)) ∈ LW := tw6 (i := 18) rfl rfl
theorem q1219 : (Jvm.Cond.methodLink "LongYearLaw" (68 : Nat) ({ cls := "LongYearModel", name := "plan", desc := "(II)I" } : Jvm.MethodName)) ∈ LW := tw6 (i := 19) rfl rfl
theorem q1220 : (Jvm.Cond.instanceMethod ({ cls := "LongYearModel", name := "plan", desc := "(II)I" } : Jvm.MethodName)) ∈ LW := tw6 (i := 20) rfl rfl
theorem q1221 : (Jvm.Cond.selects "LongYearModel" ({ cls := "LongYearModel", name := "plan", desc := "(II)I" } : Jvm.MethodName) ({ cls := "LongYearModel", name := "plan", desc := "(II)I" } : Jvm.MethodName)) ∈ LW := tw6 (i := 21) rfl rfl
theorem q1222 : (Jvm.Cond.code ({ cls := "LongYearModel", name := "plan", desc := "(II)I" } : Jvm.MethodName) prog_14_method_40_code (8 : Nat) (Option.some Jvm.ClassFile.FieldType.int)) ∈ LW := tw6 (i := 22) rfl rfl
theorem q1223 : (Jvm.Cond.constantLong "LongYearModel" (142 : Nat) (5 : Int64)) ∈ LW := tw6 (i := 23) rfl rfl
theorem q1224 : (Jvm.Cond.methodLink "LongYearModel" (144 : Nat) ({ cls := "LongYearModel", name := "start", desc := "()V" } : Jvm.MethodName)) ∈ LW := tw6 (i := 24) rfl rfl
theorem q1226 : (Jvm.Cond.instanceMethod ({ cls := "LongYearModel", name := "start", desc := "()V" } : Jvm.MethodName)) ∈ LW := tw6 (i := 26) rfl rfl
theorem q1227 : (Jvm.Cond.code ({ cls := "LongYearModel", name := "start", desc := "()V" } : Jvm.MethodName) prog_14_method_36_code (2 : Nat) (Option.none : Option Jvm.ClassFile.FieldType)) ∈ LW := tw6 (i := 27) rfl rfl
theorem q1228 : (Jvm.Cond.methodLink "LongYearModel" (147 : Nat) ({ cls := "LongYearModel", name := "power", desc := "(II)I" } : Jvm.MethodName)) ∈ LW := tw6 (i := 28) rfl rfl
theorem q1229 : (Jvm.Cond.static ({ cls := "LongYearModel", name := "power", desc := "(II)I" } : Jvm.MethodName)) ∈ LW := tw6 (i := 29) rfl rfl
theorem q1230 : (Jvm.Cond.code ({ cls := "LongYearModel", name := "power", desc := "(II)I" } : Jvm.MethodName) prog_14_method_38_code (4 : Nat) (Option.some Jvm.ClassFile.FieldType.int)) ∈ LW := tw6 (i := 30) rfl rfl
theorem q1231 : (Jvm.Cond.methodLink "LongYearModel" (150 : Nat) ({ cls := "LongYearModel", name := "allDo", desc := "(I)V" } : Jvm.MethodName)) ∈ LW := tw6 (i := 31) rfl rfl
theorem q1233 : (Jvm.Cond.instanceMethod ({ cls := "LongYearModel", name := "allDo", desc := "(I)V" } : Jvm.MethodName)) ∈ LW := tw6 (i := 33) rfl rfl
theorem q1234 : (Jvm.Cond.code ({ cls := "LongYearModel", name := "allDo", desc := "(I)V" } : Jvm.MethodName) prog_14_method_39_code (3 : Nat) (Option.none : Option Jvm.ClassFile.FieldType)) ∈ LW := tw6 (i := 34) rfl rfl
theorem q1235 : (Jvm.Cond.methodLink "LongYearModel" (153 : Nat) ({ cls := "LongYearModel", name := "back", desc := "()V" } : Jvm.MethodName)) ∈ LW := tw6 (i := 35) rfl rfl
theorem q1237 : (Jvm.Cond.instanceMethod ({ cls := "LongYearModel", name := "back", desc := "()V" } : Jvm.MethodName)) ∈ LW := tw6 (i := 37) rfl rfl
theorem q1238 : (Jvm.Cond.code ({ cls := "LongYearModel", name := "back", desc := "()V" } : Jvm.MethodName) prog_14_method_37_code (2 : Nat) (Option.none : Option Jvm.ClassFile.FieldType)) ∈ LW := tw6 (i := 38) rfl rfl
theorem q1239 : (Jvm.Cond.methodLink "LongYearLaw" (72 : Nat) ({ cls := "LongYearModel", name := "want", desc := "(I)I" } : Jvm.MethodName)) ∈ LW := tw6 (i := 39) rfl rfl
theorem q1240 : (Jvm.Cond.instanceMethod ({ cls := "LongYearModel", name := "want", desc := "(I)I" } : Jvm.MethodName)) ∈ LW := tw6 (i := 40) rfl rfl
theorem q1241 : (Jvm.Cond.selects "LongYearModel" ({ cls := "LongYearModel", name := "want", desc := "(I)I" } : Jvm.MethodName) ({ cls := "LongYearModel", name := "want", desc := "(I)I" } : Jvm.MethodName)) ∈ LW := tw6 (i := 41) rfl rfl
theorem q1242 : (Jvm.Cond.code ({ cls := "LongYearModel", name := "want", desc := "(I)I" } : Jvm.MethodName) prog_14_method_42_code (3 : Nat) (Option.some Jvm.ClassFile.FieldType.int)) ∈ LW := tw6 (i := 42) rfl rfl
theorem q1243 : (Jvm.Cond.constantLong "LongYearModel" (156 : Nat) (200 : Int64)) ∈ LW := tw6 (i := 43) rfl rfl
theorem q1244 : (Jvm.Cond.methodLink "LongYearModel" (158 : Nat) ({ cls := "LongYearModel", name := "firstWant", desc := "(I)I" } : Jvm.MethodName)) ∈ LW := tw6 (i := 44) rfl rfl
theorem q1246 : (Jvm.Cond.instanceMethod ({ cls := "LongYearModel", name := "firstWant", desc := "(I)I" } : Jvm.MethodName)) ∈ LW := tw6 (i := 46) rfl rfl
theorem q1247 : (Jvm.Cond.code ({ cls := "LongYearModel", name := "firstWant", desc := "(I)I" } : Jvm.MethodName) prog_14_method_41_code (3 : Nat) (Option.some Jvm.ClassFile.FieldType.int)) ∈ LW := tw6 (i := 47) rfl rfl
theorem q1248 : (Jvm.Cond.methodLink "LongYearLaw" (76 : Nat) ({ cls := "LongYearModel", name := "held", desc := "(I)I" } : Jvm.MethodName)) ∈ LW := tw6 (i := 48) rfl rfl
theorem q1249 : (Jvm.Cond.instanceMethod ({ cls := "LongYearModel", name := "held", desc := "(I)I" } : Jvm.MethodName)) ∈ LW := tw6 (i := 49) rfl rfl
theorem q1250 : (Jvm.Cond.selects "LongYearModel" ({ cls := "LongYearModel", name := "held", desc := "(I)I" } : Jvm.MethodName) ({ cls := "LongYearModel", name := "held", desc := "(I)I" } : Jvm.MethodName)) ∈ LW := tw6 (i := 50) rfl rfl
theorem q1251 : (Jvm.Cond.code ({ cls := "LongYearModel", name := "held", desc := "(I)I" } : Jvm.MethodName) prog_14_method_43_code (4 : Nat) (Option.some Jvm.ClassFile.FieldType.int)) ∈ LW := tw6 (i := 51) rfl rfl
theorem q1252 : (Jvm.Cond.methodLink "LongYearLaw" (80 : Nat) ({ cls := "LongYearModel", name := "chance", desc := "(II)I" } : Jvm.MethodName)) ∈ LW := tw6 (i := 52) rfl rfl
theorem q1253 : (Jvm.Cond.instanceMethod ({ cls := "LongYearModel", name := "chance", desc := "(II)I" } : Jvm.MethodName)) ∈ LW := tw6 (i := 53) rfl rfl
theorem q1254 : (Jvm.Cond.selects "LongYearModel" ({ cls := "LongYearModel", name := "chance", desc := "(II)I" } : Jvm.MethodName) ({ cls := "LongYearModel", name := "chance", desc := "(II)I" } : Jvm.MethodName)) ∈ LW := tw6 (i := 54) rfl rfl
theorem q1255 : (Jvm.Cond.code ({ cls := "LongYearModel", name := "chance", desc := "(II)I" } : Jvm.MethodName) prog_14_method_48_code (8 : Nat) (Option.some Jvm.ClassFile.FieldType.int)) ∈ LW := tw6 (i := 55) rfl rfl
theorem q1256 : (Jvm.Cond.constantLong "LongYearModel" (164 : Nat) (60 : Int64)) ∈ LW := tw6 (i := 56) rfl rfl
theorem q1257 : (Jvm.Cond.constantLong "LongYearModel" (166 : Nat) (10 : Int64)) ∈ LW := tw6 (i := 57) rfl rfl
theorem q1258 : (Jvm.Cond.methodLink "LongYearModel" (168 : Nat) ({ cls := "LongYearModel", name := "noons", desc := "(I)I" } : Jvm.MethodName)) ∈ LW := tw6 (i := 58) rfl rfl
theorem q1260 : (Jvm.Cond.instanceMethod ({ cls := "LongYearModel", name := "noons", desc := "(I)I" } : Jvm.MethodName)) ∈ LW := tw6 (i := 60) rfl rfl
theorem q1261 : (Jvm.Cond.code ({ cls := "LongYearModel", name := "noons", desc := "(I)I" } : Jvm.MethodName) prog_14_method_45_code (4 : Nat) (Option.some Jvm.ClassFile.FieldType.int)) ∈ LW := tw6 (i := 61) rfl rfl
theorem q1262 : (Jvm.Cond.methodLink "LongYearModel" (171 : Nat) ({ cls := "LongYearModel", name := "isFed", desc := "(II)Z" } : Jvm.MethodName)) ∈ LW := tw6 (i := 62) rfl rfl
theorem q1264 : (Jvm.Cond.instanceMethod ({ cls := "LongYearModel", name := "isFed", desc := "(II)Z" } : Jvm.MethodName)) ∈ LW := tw6 (i := 64) rfl rfl
theorem q1265 : (Jvm.Cond.code ({ cls := "LongYearModel", name := "isFed", desc := "(II)Z" } : Jvm.MethodName) prog_14_method_46_code (7 : Nat) (Option.some Jvm.ClassFile.FieldType.boolean)) ∈ LW := tw6 (i := 65) rfl rfl
theorem q1266 : (Jvm.Cond.methodLink "LongYearModel" (175 : Nat) ({ cls := "LongYearModel", name := "bits", desc := "(I)I" } : Jvm.MethodName)) ∈ LW := tw6 (i := 66) rfl rfl
theorem q1267 : (Jvm.Cond.static ({ cls := "LongYearModel", name := "bits", desc := "(I)I" } : Jvm.MethodName)) ∈ LW := tw6 (i := 67) rfl rfl
theorem q1268 : (Jvm.Cond.code ({ cls := "LongYearModel", name := "bits", desc := "(I)I" } : Jvm.MethodName) prog_14_method_7_code (3 : Nat) (Option.some Jvm.ClassFile.FieldType.int)) ∈ LW := tw6 (i := 68) rfl rfl
theorem q1269 : (Jvm.Cond.methodLink "LongYearModel" (178 : Nat) ({ cls := "LongYearModel", name := "ways", desc := "(II)J" } : Jvm.MethodName)) ∈ LW := tw6 (i := 69) rfl rfl
theorem q1270 : (Jvm.Cond.static ({ cls := "LongYearModel", name := "ways", desc := "(II)J" } : Jvm.MethodName)) ∈ LW := tw6 (i := 70) rfl rfl
theorem q1271 : (Jvm.Cond.code ({ cls := "LongYearModel", name := "ways", desc := "(II)J" } : Jvm.MethodName) prog_14_method_47_code (5 : Nat) (Option.some Jvm.ClassFile.FieldType.long)) ∈ LW := tw6 (i := 71) rfl rfl
theorem q1272 : (Jvm.Cond.methodLink "LongYearModel" (182 : Nat) ({ cls := "LongYearModel", name := "tell", desc := "(JJ)V" } : Jvm.MethodName)) ∈ LW := tw6 (i := 72) rfl rfl
theorem q1274 : (Jvm.Cond.instanceMethod ({ cls := "LongYearModel", name := "tell", desc := "(JJ)V" } : Jvm.MethodName)) ∈ LW := tw6 (i := 74) rfl rfl
theorem q1275 : (Jvm.Cond.code ({ cls := "LongYearModel", name := "tell", desc := "(JJ)V" } : Jvm.MethodName) prog_14_method_44_code (11 : Nat) (Option.none : Option Jvm.ClassFile.FieldType)) ∈ LW := tw6 (i := 75) rfl rfl
theorem q1276 : (Jvm.Cond.methodLink "LongYearLaw" (84 : Nat) ({ cls := "LongYearModel", name := "teachers", desc := "(I)I" } : Jvm.MethodName)) ∈ LW := tw6 (i := 76) rfl rfl
theorem q1277 : (Jvm.Cond.instanceMethod ({ cls := "LongYearModel", name := "teachers", desc := "(I)I" } : Jvm.MethodName)) ∈ LW := tw6 (i := 77) rfl rfl
theorem q1278 : (Jvm.Cond.selects "LongYearModel" ({ cls := "LongYearModel", name := "teachers", desc := "(I)I" } : Jvm.MethodName) ({ cls := "LongYearModel", name := "teachers", desc := "(I)I" } : Jvm.MethodName)) ∈ LW := tw6 (i := 78) rfl rfl
theorem q1279 : (Jvm.Cond.code ({ cls := "LongYearModel", name := "teachers", desc := "(I)I" } : Jvm.MethodName) prog_14_method_50_code (5 : Nat) (Option.some Jvm.ClassFile.FieldType.int)) ∈ LW := tw6 (i := 79) rfl rfl
theorem q1280 : (Jvm.Cond.methodLink "LongYearModel" (186 : Nat) ({ cls := "LongYearModel", name := "allRemember", desc := "(II)Z" } : Jvm.MethodName)) ∈ LW := tw6 (i := 80) rfl rfl
theorem q1282 : (Jvm.Cond.instanceMethod ({ cls := "LongYearModel", name := "allRemember", desc := "(II)Z" } : Jvm.MethodName)) ∈ LW := tw6 (i := 82) rfl rfl
theorem q1283 : (Jvm.Cond.code ({ cls := "LongYearModel", name := "allRemember", desc := "(II)Z" } : Jvm.MethodName) prog_14_method_49_code (5 : Nat) (Option.some Jvm.ClassFile.FieldType.boolean)) ∈ LW := tw6 (i := 83) rfl rfl
theorem q1284 : (Jvm.Cond.methodLink "LongYearLaw" (88 : Nat) ({ cls := "LongYearModel", name := "debt", desc := "(III)I" } : Jvm.MethodName)) ∈ LW := tw6 (i := 84) rfl rfl
theorem q1285 : (Jvm.Cond.instanceMethod ({ cls := "LongYearModel", name := "debt", desc := "(III)I" } : Jvm.MethodName)) ∈ LW := tw6 (i := 85) rfl rfl
theorem q1286 : (Jvm.Cond.selects "LongYearModel" ({ cls := "LongYearModel", name := "debt", desc := "(III)I" } : Jvm.MethodName) ({ cls := "LongYearModel", name := "debt", desc := "(III)I" } : Jvm.MethodName)) ∈ LW := tw6 (i := 86) rfl rfl
theorem q1287 : (Jvm.Cond.code ({ cls := "LongYearModel", name := "debt", desc := "(III)I" } : Jvm.MethodName) prog_14_method_52_code (4 : Nat) (Option.some Jvm.ClassFile.FieldType.int)) ∈ LW := tw6 (i := 87) rfl rfl
theorem q1288 : (Jvm.Cond.constantLong "LongYearModel" (189 : Nat) (999 : Int64)) ∈ LW := tw6 (i := 88) rfl rfl
theorem q1289 : (Jvm.Cond.methodLink "LongYearModel" (191 : Nat) ({ cls := "LongYearModel", name := "layDebt", desc := "([IIII)V" } : Jvm.MethodName)) ∈ LW := tw6 (i := 89) rfl rfl
theorem q1290 : (Jvm.Cond.static ({ cls := "LongYearModel", name := "layDebt", desc := "([IIII)V" } : Jvm.MethodName)) ∈ LW := tw6 (i := 90) rfl rfl
theorem q1291 : (Jvm.Cond.code ({ cls := "LongYearModel", name := "layDebt", desc := "([IIII)V" } : Jvm.MethodName) prog_14_method_51_code (5 : Nat) (Option.none : Option Jvm.ClassFile.FieldType)) ∈ LW := tw6 (i := 91) rfl rfl
theorem q1292 : (Jvm.Cond.methodLink "LongYearLaw" (92 : Nat) ({ cls := "LongYearModel", name := "rate", desc := "(I)I" } : Jvm.MethodName)) ∈ LW := tw6 (i := 92) rfl rfl
theorem q1293 : (Jvm.Cond.instanceMethod ({ cls := "LongYearModel", name := "rate", desc := "(I)I" } : Jvm.MethodName)) ∈ LW := tw6 (i := 93) rfl rfl
theorem q1294 : (Jvm.Cond.selects "LongYearModel" ({ cls := "LongYearModel", name := "rate", desc := "(I)I" } : Jvm.MethodName) ({ cls := "LongYearModel", name := "rate", desc := "(I)I" } : Jvm.MethodName)) ∈ LW := tw6 (i := 94) rfl rfl
theorem q1295 : (Jvm.Cond.code ({ cls := "LongYearModel", name := "rate", desc := "(I)I" } : Jvm.MethodName) prog_14_method_53_code (3 : Nat) (Option.some Jvm.ClassFile.FieldType.int)) ∈ LW := tw6 (i := 95) rfl rfl
theorem q1296 : (Jvm.Cond.constantLong "LongYearModel" (194 : Nat) (50 : Int64)) ∈ LW := tw6 (i := 96) rfl rfl
theorem q1297 : (Jvm.Cond.methodLink "LongYearLaw" (96 : Nat) ({ cls := "LongYearModel", name := "net", desc := "(I)I" } : Jvm.MethodName)) ∈ LW := tw6 (i := 97) rfl rfl
theorem q1298 : (Jvm.Cond.instanceMethod ({ cls := "LongYearModel", name := "net", desc := "(I)I" } : Jvm.MethodName)) ∈ LW := tw6 (i := 98) rfl rfl
theorem q1299 : (Jvm.Cond.selects "LongYearModel" ({ cls := "LongYearModel", name := "net", desc := "(I)I" } : Jvm.MethodName) ({ cls := "LongYearModel", name := "net", desc := "(I)I" } : Jvm.MethodName)) ∈ LW := tw6 (i := 99) rfl rfl
theorem q1300 : (Jvm.Cond.code ({ cls := "LongYearModel", name := "net", desc := "(I)I" } : Jvm.MethodName) prog_14_method_55_code (2 : Nat) (Option.some Jvm.ClassFile.FieldType.int)) ∈ LW := tw6 (i := 100) rfl rfl
theorem q1301 : (Jvm.Cond.methodLink "LongYearModel" (196 : Nat) ({ cls := "LongYearModel", name := "netOf", desc := "(I)I" } : Jvm.MethodName)) ∈ LW := tw6 (i := 101) rfl rfl
theorem q1303 : (Jvm.Cond.instanceMethod ({ cls := "LongYearModel", name := "netOf", desc := "(I)I" } : Jvm.MethodName)) ∈ LW := tw6 (i := 103) rfl rfl
theorem q1304 : (Jvm.Cond.code ({ cls := "LongYearModel", name := "netOf", desc := "(I)I" } : Jvm.MethodName) prog_14_method_54_code (7 : Nat) (Option.some Jvm.ClassFile.FieldType.int)) ∈ LW := tw6 (i := 104) rfl rfl
theorem q1305 : (Jvm.Cond.constant "LongYearModel" (199 : Nat) (-100000 : Int32)) ∈ LW := tw6 (i := 105) rfl rfl
theorem q1306 : (Jvm.Cond.methodLink "LongYearLaw" (100 : Nat) ({ cls := "LongYearModel", name := "cleared", desc := "()I" } : Jvm.MethodName)) ∈ LW := tw6 (i := 106) rfl rfl
theorem q1307 : (Jvm.Cond.instanceMethod ({ cls := "LongYearModel", name := "cleared", desc := "()I" } : Jvm.MethodName)) ∈ LW := tw6 (i := 107) rfl rfl
theorem q1308 : (Jvm.Cond.selects "LongYearModel" ({ cls := "LongYearModel", name := "cleared", desc := "()I" } : Jvm.MethodName) ({ cls := "LongYearModel", name := "cleared", desc := "()I" } : Jvm.MethodName)) ∈ LW := tw6 (i := 108) rfl rfl
theorem q1309 : (Jvm.Cond.code ({ cls := "LongYearModel", name := "cleared", desc := "()I" } : Jvm.MethodName) prog_14_method_57_code (5 : Nat) (Option.some Jvm.ClassFile.FieldType.int)) ∈ LW := tw6 (i := 109) rfl rfl
theorem q1310 : (Jvm.Cond.constant "LongYearModel" (200 : Nat) (-1000000 : Int32)) ∈ LW := tw6 (i := 110) rfl rfl
theorem q1311 : (Jvm.Cond.methodLink "LongYearModel" (201 : Nat) ({ cls := "LongYearModel", name := "sumOf", desc := "(I)I" } : Jvm.MethodName)) ∈ LW := tw6 (i := 111) rfl rfl
theorem q1313 : (Jvm.Cond.instanceMethod ({ cls := "LongYearModel", name := "sumOf", desc := "(I)I" } : Jvm.MethodName)) ∈ LW := tw6 (i := 113) rfl rfl
theorem q1314 : (Jvm.Cond.code ({ cls := "LongYearModel", name := "sumOf", desc := "(I)I" } : Jvm.MethodName) prog_14_method_56_code (4 : Nat) (Option.some Jvm.ClassFile.FieldType.int)) ∈ LW := tw6 (i := 114) rfl rfl
theorem q1315 : (Jvm.Cond.methodLink "LongYearLaw" (104 : Nat) ({ cls := "LongYearModel", name := "report", desc := "(III)I" } : Jvm.MethodName)) ∈ LW := tw6 (i := 115) rfl rfl
theorem q1316 : (Jvm.Cond.instanceMethod ({ cls := "LongYearModel", name := "report", desc := "(III)I" } : Jvm.MethodName)) ∈ LW := tw6 (i := 116) rfl rfl
theorem q1317 : (Jvm.Cond.selects "LongYearModel" ({ cls := "LongYearModel", name := "report", desc := "(III)I" } : Jvm.MethodName) ({ cls := "LongYearModel", name := "report", desc := "(III)I" } : Jvm.MethodName)) ∈ LW := tw6 (i := 117) rfl rfl
theorem q1318 : (Jvm.Cond.code ({ cls := "LongYearModel", name := "report", desc := "(III)I" } : Jvm.MethodName) prog_14_method_58_code (5 : Nat) (Option.some Jvm.ClassFile.FieldType.int)) ∈ LW := tw6 (i := 118) rfl rfl
theorem q1319 : (Jvm.Cond.constantLong "LongYearModel" (204 : Nat) (99 : Int64)) ∈ LW := tw6 (i := 119) rfl rfl
theorem q1320 : (Jvm.Cond.methodLink "LongYearLaw" (108 : Nat) ({ cls := "LongYearModel", name := "liars", desc := "(I)I" } : Jvm.MethodName)) ∈ LW := tw6 (i := 120) rfl rfl
theorem q1321 : (Jvm.Cond.instanceMethod ({ cls := "LongYearModel", name := "liars", desc := "(I)I" } : Jvm.MethodName)) ∈ LW := tw6 (i := 121) rfl rfl
theorem q1322 : (Jvm.Cond.selects "LongYearModel" ({ cls := "LongYearModel", name := "liars", desc := "(I)I" } : Jvm.MethodName) ({ cls := "LongYearModel", name := "liars", desc := "(I)I" } : Jvm.MethodName)) ∈ LW := tw6 (i := 122) rfl rfl
theorem q1323 : (Jvm.Cond.code ({ cls := "LongYearModel", name := "liars", desc := "(I)I" } : Jvm.MethodName) prog_14_method_60_code (6 : Nat) (Option.some Jvm.ClassFile.FieldType.int)) ∈ LW := tw6 (i := 123) rfl rfl
theorem q1324 : (Jvm.Cond.methodLink "LongYearModel" (206 : Nat) ({ cls := "LongYearModel", name := "areAlike", desc := "(I)Z" } : Jvm.MethodName)) ∈ LW := tw6 (i := 124) rfl rfl
theorem q1326 : (Jvm.Cond.instanceMethod ({ cls := "LongYearModel", name := "areAlike", desc := "(I)Z" } : Jvm.MethodName)) ∈ LW := tw6 (i := 126) rfl rfl
theorem q1327 : (Jvm.Cond.code ({ cls := "LongYearModel", name := "areAlike", desc := "(I)Z" } : Jvm.MethodName) prog_14_method_59_code (7 : Nat) (Option.some Jvm.ClassFile.FieldType.boolean)) ∈ LW := tw6 (i := 127) rfl rfl
theorem q1328 : (Jvm.Cond.methodLink "LongYearLaw" (112 : Nat) ({ cls := "LongYearModel", name := "none", desc := "(I)I" } : Jvm.MethodName)) ∈ LW := tw6 (i := 128) rfl rfl
theorem q1329 : (Jvm.Cond.instanceMethod ({ cls := "LongYearModel", name := "none", desc := "(I)I" } : Jvm.MethodName)) ∈ LW := tw6 (i := 129) rfl rfl
theorem q1330 : (Jvm.Cond.selects "LongYearModel" ({ cls := "LongYearModel", name := "none", desc := "(I)I" } : Jvm.MethodName) ({ cls := "LongYearModel", name := "none", desc := "(I)I" } : Jvm.MethodName)) ∈ LW := tw6 (i := 130) rfl rfl
theorem q1331 : (Jvm.Cond.code ({ cls := "LongYearModel", name := "none", desc := "(I)I" } : Jvm.MethodName) prog_14_method_61_code (4 : Nat) (Option.some Jvm.ClassFile.FieldType.int)) ∈ LW := tw6 (i := 131) rfl rfl
theorem q1332 : (Jvm.Cond.methodLink "LongYearLaw" (116 : Nat) ({ cls := "LongYearModel", name := "lots", desc := "(II)I" } : Jvm.MethodName)) ∈ LW := tw6 (i := 132) rfl rfl
theorem q1333 : (Jvm.Cond.instanceMethod ({ cls := "LongYearModel", name := "lots", desc := "(II)I" } : Jvm.MethodName)) ∈ LW := tw6 (i := 133) rfl rfl
theorem q1334 : (Jvm.Cond.selects "LongYearModel" ({ cls := "LongYearModel", name := "lots", desc := "(II)I" } : Jvm.MethodName) ({ cls := "LongYearModel", name := "lots", desc := "(II)I" } : Jvm.MethodName)) ∈ LW := tw6 (i := 134) rfl rfl
theorem q1335 : (Jvm.Cond.code ({ cls := "LongYearModel", name := "lots", desc := "(II)I" } : Jvm.MethodName) prog_14_method_63_code (7 : Nat) (Option.some Jvm.ClassFile.FieldType.int)) ∈ LW := tw6 (i := 135) rfl rfl
theorem q1336 : (Jvm.Cond.constantLong "LongYearModel" (209 : Nat) (999999 : Int64)) ∈ LW := tw6 (i := 136) rfl rfl
theorem q1337 : (Jvm.Cond.constantLong "LongYearModel" (211 : Nat) (1103515245 : Int64)) ∈ LW := tw6 (i := 137) rfl rfl
theorem q1338 : (Jvm.Cond.constantLong "LongYearModel" (213 : Nat) (12345 : Int64)) ∈ LW := tw6 (i := 138) rfl rfl
theorem q1339 : (Jvm.Cond.constantLong "LongYearModel" (215 : Nat) (2147483648 : Int64)) ∈ LW := tw6 (i := 139) rfl rfl
theorem q1340 : (Jvm.Cond.constantLong "LongYearModel" (217 : Nat) (65536 : Int64)) ∈ LW := tw6 (i := 140) rfl rfl
theorem q1341 : (Jvm.Cond.methodLink "LongYearModel" (219 : Nat) ({ cls := "LongYearModel", name := "place", desc := "(II)I" } : Jvm.MethodName)) ∈ LW := tw6 (i := 141) rfl rfl
theorem q1342 : (Jvm.Cond.static ({ cls := "LongYearModel", name := "place", desc := "(II)I" } : Jvm.MethodName)) ∈ LW := tw6 (i := 142) rfl rfl
theorem q1343 : (Jvm.Cond.code ({ cls := "LongYearModel", name := "place", desc := "(II)I" } : Jvm.MethodName) prog_14_method_62_code (4 : Nat) (Option.some Jvm.ClassFile.FieldType.int)) ∈ LW := tw6 (i := 143) rfl rfl
theorem q1344 : (Jvm.Cond.methodLink "LongYearLaw" (121 : Nat) ({ cls := "LongYearModel", name := "word", desc := "(IIIIII)I" } : Jvm.MethodName)) ∈ LW := tw6 (i := 144) rfl rfl
theorem q1345 : (Jvm.Cond.instanceMethod ({ cls := "LongYearModel", name := "word", desc := "(IIIIII)I" } : Jvm.MethodName)) ∈ LW := tw6 (i := 145) rfl rfl
theorem q1346 : (Jvm.Cond.selects "LongYearModel" ({ cls := "LongYearModel", name := "word", desc := "(IIIIII)I" } : Jvm.MethodName) ({ cls := "LongYearModel", name := "word", desc := "(IIIIII)I" } : Jvm.MethodName)) ∈ LW := tw6 (i := 146) rfl rfl
theorem q1347 : (Jvm.Cond.code ({ cls := "LongYearModel", name := "word", desc := "(IIIIII)I" } : Jvm.MethodName) prog_14_method_65_code (8 : Nat) (Option.some Jvm.ClassFile.FieldType.int)) ∈ LW := tw6 (i := 147) rfl rfl
theorem q1348 : (Jvm.Cond.methodLink "LongYearModel" (224 : Nat) ({ cls := "LongYearModel", name := "hears", desc := "(IIIIII)Z" } : Jvm.MethodName)) ∈ LW := tw6 (i := 148) rfl rfl
theorem q1350 : (Jvm.Cond.instanceMethod ({ cls := "LongYearModel", name := "hears", desc := "(IIIIII)Z" } : Jvm.MethodName)) ∈ LW := tw6 (i := 150) rfl rfl
theorem q1351 : (Jvm.Cond.code ({ cls := "LongYearModel", name := "hears", desc := "(IIIIII)Z" } : Jvm.MethodName) prog_14_method_64_code (9 : Nat) (Option.some Jvm.ClassFile.FieldType.boolean)) ∈ LW := tw6 (i := 151) rfl rfl
theorem q1352 : (Jvm.Cond.constantLong "LongYearModel" (222 : Nat) (25 : Int64)) ∈ LW := tw6 (i := 152) rfl rfl
theorem q1353 : (Jvm.Cond.methodLink "LongYearLaw" (125 : Nat) ({ cls := "LongYearModel", name := "toldOn", desc := "(III)I" } : Jvm.MethodName)) ∈ LW := tw6 (i := 153) rfl rfl
theorem q1354 : (Jvm.Cond.instanceMethod ({ cls := "LongYearModel", name := "toldOn", desc := "(III)I" } : Jvm.MethodName)) ∈ LW := tw6 (i := 154) rfl rfl
theorem q1355 : (Jvm.Cond.selects "LongYearModel" ({ cls := "LongYearModel", name := "toldOn", desc := "(III)I" } : Jvm.MethodName) ({ cls := "LongYearModel", name := "toldOn", desc := "(III)I" } : Jvm.MethodName)) ∈ LW := tw6 (i := 155) rfl rfl
theorem q1356 : (Jvm.Cond.code ({ cls := "LongYearModel", name := "toldOn", desc := "(III)I" } : Jvm.MethodName) prog_14_method_67_code (7 : Nat) (Option.some Jvm.ClassFile.FieldType.int)) ∈ LW := tw6 (i := 156) rfl rfl
theorem q1357 : (Jvm.Cond.methodLink "LongYearModel" (228 : Nat) ({ cls := "LongYearModel", name := "isWord", desc := "(I)Z" } : Jvm.MethodName)) ∈ LW := tw6 (i := 157) rfl rfl
theorem q1359 : (Jvm.Cond.instanceMethod ({ cls := "LongYearModel", name := "isWord", desc := "(I)Z" } : Jvm.MethodName)) ∈ LW := tw6 (i := 159) rfl rfl
theorem q1360 : (Jvm.Cond.code ({ cls := "LongYearModel", name := "isWord", desc := "(I)Z" } : Jvm.MethodName) prog_14_method_66_code (2 : Nat) (Option.some Jvm.ClassFile.FieldType.boolean)) ∈ LW := tw6 (i := 160) rfl rfl
theorem q1361 : (Jvm.Cond.constantLong "LongYearModel" (231 : Nat) (30 : Int64)) ∈ LW := tw6 (i := 161) rfl rfl
theorem q1362 : (Jvm.Cond.methodLink "LongYearLaw" (129 : Nat) ({ cls := "LongYearModel", name := "apart", desc := "(II)I" } : Jvm.MethodName)) ∈ LW := tw6 (i := 162) rfl rfl
theorem q1363 : (Jvm.Cond.instanceMethod ({ cls := "LongYearModel", name := "apart", desc := "(II)I" } : Jvm.MethodName)) ∈ LW := tw6 (i := 163) rfl rfl
theorem q1364 : (Jvm.Cond.selects "LongYearModel" ({ cls := "LongYearModel", name := "apart", desc := "(II)I" } : Jvm.MethodName) ({ cls := "LongYearModel", name := "apart", desc := "(II)I" } : Jvm.MethodName)) ∈ LW := tw6 (i := 164) rfl rfl
theorem q1365 : (Jvm.Cond.code ({ cls := "LongYearModel", name := "apart", desc := "(II)I" } : Jvm.MethodName) prog_14_method_69_code (3 : Nat) (Option.some Jvm.ClassFile.FieldType.int)) ∈ LW := tw6 (i := 165) rfl rfl
theorem q1366 : (Jvm.Cond.methodLink "LongYearModel" (233 : Nat) ({ cls := "LongYearModel", name := "apartOf", desc := "(II)I" } : Jvm.MethodName)) ∈ LW := tw6 (i := 166) rfl rfl
theorem q1368 : (Jvm.Cond.instanceMethod ({ cls := "LongYearModel", name := "apartOf", desc := "(II)I" } : Jvm.MethodName)) ∈ LW := tw6 (i := 168) rfl rfl
theorem q1369 : (Jvm.Cond.code ({ cls := "LongYearModel", name := "apartOf", desc := "(II)I" } : Jvm.MethodName) prog_14_method_68_code (5 : Nat) (Option.some Jvm.ClassFile.FieldType.int)) ∈ LW := tw6 (i := 169) rfl rfl
theorem q1370 : (Jvm.Cond.methodLink "LongYearLaw" (133 : Nat) ({ cls := "LongYearModel", name := "bears", desc := "()I" } : Jvm.MethodName)) ∈ LW := tw6 (i := 170) rfl rfl
theorem q1371 : (Jvm.Cond.instanceMethod ({ cls := "LongYearModel", name := "bears", desc := "()I" } : Jvm.MethodName)) ∈ LW := tw6 (i := 171) rfl rfl
theorem q1372 : (Jvm.Cond.selects "LongYearModel" ({ cls := "LongYearModel", name := "bears", desc := "()I" } : Jvm.MethodName) ({ cls := "LongYearModel", name := "bears", desc := "()I" } : Jvm.MethodName)) ∈ LW := tw6 (i := 172) rfl rfl
theorem q1373 : (Jvm.Cond.code ({ cls := "LongYearModel", name := "bears", desc := "()I" } : Jvm.MethodName) prog_14_method_70_code (4 : Nat) (Option.some Jvm.ClassFile.FieldType.int)) ∈ LW := tw6 (i := 173) rfl rfl
theorem q1374 : (Jvm.Cond.constant "LongYearModel" (236 : Nat) (1000000 : Int32)) ∈ LW := tw6 (i := 174) rfl rfl
theorem q1375 : (Jvm.Cond.methodLink "LongYearLaw" (137 : Nat) ({ cls := "LongYearModel", name := "meant", desc := "(IIIIII)I" } : Jvm.MethodName)) ∈ LW := tw6 (i := 175) rfl rfl
theorem q1376 : (Jvm.Cond.instanceMethod ({ cls := "LongYearModel", name := "meant", desc := "(IIIIII)I" } : Jvm.MethodName)) ∈ LW := tw6 (i := 176) rfl rfl
theorem q1377 : (Jvm.Cond.selects "LongYearModel" ({ cls := "LongYearModel", name := "meant", desc := "(IIIIII)I" } : Jvm.MethodName) ({ cls := "LongYearModel", name := "meant", desc := "(IIIIII)I" } : Jvm.MethodName)) ∈ LW := tw6 (i := 177) rfl rfl
theorem q1378 : (Jvm.Cond.code ({ cls := "LongYearModel", name := "meant", desc := "(IIIIII)I" } : Jvm.MethodName) prog_14_method_71_code (12 : Nat) (Option.some Jvm.ClassFile.FieldType.int)) ∈ LW := tw6 (i := 178) rfl rfl
theorem q1379 : (Jvm.Cond.methodLink "LongYearLaw" (141 : Nat) ({ cls := "LongYearModel", name := "meet", desc := "(II)I" } : Jvm.MethodName)) ∈ LW := tw6 (i := 179) rfl rfl
theorem q1380 : (Jvm.Cond.instanceMethod ({ cls := "LongYearModel", name := "meet", desc := "(II)I" } : Jvm.MethodName)) ∈ LW := tw6 (i := 180) rfl rfl
theorem q1381 : (Jvm.Cond.selects "LongYearModel" ({ cls := "LongYearModel", name := "meet", desc := "(II)I" } : Jvm.MethodName) ({ cls := "LongYearModel", name := "meet", desc := "(II)I" } : Jvm.MethodName)) ∈ LW := tw6 (i := 181) rfl rfl
theorem q1382 : (Jvm.Cond.code ({ cls := "LongYearModel", name := "meet", desc := "(II)I" } : Jvm.MethodName) prog_14_method_72_code (4 : Nat) (Option.some Jvm.ClassFile.FieldType.int)) ∈ LW := tw6 (i := 182) rfl rfl
theorem q1383 : (Jvm.Cond.methodLink "LongYearLaw" (35 : Nat) ({ cls := "LongYearModel", name := "type", desc := "(I)I" } : Jvm.MethodName)) ∈ LW := tw6 (i := 183) rfl rfl
theorem q1384 : (Jvm.Cond.instanceMethod ({ cls := "LongYearModel", name := "type", desc := "(I)I" } : Jvm.MethodName)) ∈ LW := tw6 (i := 184) rfl rfl
theorem q1385 : (Jvm.Cond.selects "LongYearModel" ({ cls := "LongYearModel", name := "type", desc := "(I)I" } : Jvm.MethodName) ({ cls := "LongYearModel", name := "type", desc := "(I)I" } : Jvm.MethodName)) ∈ LW := tw6 (i := 185) rfl rfl
theorem q1386 : (Jvm.Cond.code ({ cls := "LongYearModel", name := "type", desc := "(I)I" } : Jvm.MethodName) prog_14_method_73_code (2 : Nat) (Option.some Jvm.ClassFile.FieldType.int)) ∈ LW := tw6 (i := 186) rfl rfl
theorem q1387 : (Jvm.Cond.constantLong "LongYearModel" (237 : Nat) (127 : Int64)) ∈ LW := tw6 (i := 187) rfl rfl
theorem q1388 : (Jvm.Cond.methodLink "LongYearLaw" (40 : Nat) ({ cls := "LongYearModel", name := "clear", desc := "()I" } : Jvm.MethodName)) ∈ LW := tw6 (i := 188) rfl rfl
theorem q1389 : (Jvm.Cond.instanceMethod ({ cls := "LongYearModel", name := "clear", desc := "()I" } : Jvm.MethodName)) ∈ LW := tw6 (i := 189) rfl rfl
theorem q1390 : (Jvm.Cond.selects "LongYearModel" ({ cls := "LongYearModel", name := "clear", desc := "()I" } : Jvm.MethodName) ({ cls := "LongYearModel", name := "clear", desc := "()I" } : Jvm.MethodName)) ∈ LW := tw6 (i := 190) rfl rfl
theorem q1391 : (Jvm.Cond.code ({ cls := "LongYearModel", name := "clear", desc := "()I" } : Jvm.MethodName) prog_14_method_74_code (2 : Nat) (Option.some Jvm.ClassFile.FieldType.int)) ∈ LW := tw6 (i := 191) rfl rfl
theorem q1392 : (Jvm.Cond.methodLink "LongYearLaw" (44 : Nat) ({ cls := "LongYearModel", name := "read", desc := "()I" } : Jvm.MethodName)) ∈ LW := tw6 (i := 192) rfl rfl
theorem q1393 : (Jvm.Cond.instanceMethod ({ cls := "LongYearModel", name := "read", desc := "()I" } : Jvm.MethodName)) ∈ LW := tw6 (i := 193) rfl rfl
theorem q1394 : (Jvm.Cond.selects "LongYearModel" ({ cls := "LongYearModel", name := "read", desc := "()I" } : Jvm.MethodName) ({ cls := "LongYearModel", name := "read", desc := "()I" } : Jvm.MethodName)) ∈ LW := tw6 (i := 194) rfl rfl
theorem q1395 : (Jvm.Cond.code ({ cls := "LongYearModel", name := "read", desc := "()I" } : Jvm.MethodName) prog_14_method_86_code (3 : Nat) (Option.some Jvm.ClassFile.FieldType.int)) ∈ LW := tw6 (i := 195) rfl rfl
theorem q1396 : (Jvm.Cond.methodLink "LongYearModel" (269 : Nat) ({ cls := "LongYearModel", name := "look", desc := "(I)V" } : Jvm.MethodName)) ∈ LW := tw6 (i := 196) rfl rfl
theorem q1398 : (Jvm.Cond.instanceMethod ({ cls := "LongYearModel", name := "look", desc := "(I)V" } : Jvm.MethodName)) ∈ LW := tw6 (i := 198) rfl rfl
theorem q1399 : (Jvm.Cond.code ({ cls := "LongYearModel", name := "look", desc := "(I)V" } : Jvm.MethodName) prog_14_method_77_code (5 : Nat) (Option.none : Option Jvm.ClassFile.FieldType)) ∈ LW := tw6 (i := 199) rfl rfl
theorem q1400 : (Jvm.Cond.methodLink "LongYearModel" (263 : Nat) ({ cls := "LongYearModel", name := "isSmall", desc := "(I)Z" } : Jvm.MethodName)) ∈ LW := tw6 (i := 200) rfl rfl
theorem q1401 : (Jvm.Cond.static ({ cls := "LongYearModel", name := "isSmall", desc := "(I)Z" } : Jvm.MethodName)) ∈ LW := tw6 (i := 201) rfl rfl
theorem q1402 : (Jvm.Cond.code ({ cls := "LongYearModel", name := "isSmall", desc := "(I)Z" } : Jvm.MethodName) prog_14_method_75_code (1 : Nat) (Option.some Jvm.ClassFile.FieldType.boolean)) ∈ LW := tw6 (i := 202) rfl rfl
theorem q1403 : (Jvm.Cond.constantLong "LongYearModel" (243 : Nat) (97 : Int64)) ∈ LW := tw6 (i := 203) rfl rfl
theorem q1404 : (Jvm.Cond.constantLong "LongYearModel" (245 : Nat) (122 : Int64)) ∈ LW := tw6 (i := 204) rfl rfl
theorem q1405 : (Jvm.Cond.methodLink "LongYearModel" (266 : Nat) ({ cls := "LongYearModel", name := "isFigure", desc := "(I)Z" } : Jvm.MethodName)) ∈ LW := tw6 (i := 205) rfl rfl
theorem q1406 : (Jvm.Cond.static ({ cls := "LongYearModel", name := "isFigure", desc := "(I)Z" } : Jvm.MethodName)) ∈ LW := tw6 (i := 206) rfl rfl
theorem q1407 : (Jvm.Cond.code ({ cls := "LongYearModel", name := "isFigure", desc := "(I)Z" } : Jvm.MethodName) prog_14_method_76_code (1 : Nat) (Option.some Jvm.ClassFile.FieldType.boolean)) ∈ LW := tw6 (i := 207) rfl rfl
theorem q1408 : (Jvm.Cond.constantLong "LongYearModel" (247 : Nat) (48 : Int64)) ∈ LW := tw6 (i := 208) rfl rfl
theorem q1409 : (Jvm.Cond.constantLong "LongYearModel" (249 : Nat) (57 : Int64)) ∈ LW := tw6 (i := 209) rfl rfl
theorem q1410 : (Jvm.Cond.methodLink "LongYearModel" (292 : Nat) ({ cls := "LongYearModel", name := "readsFirst", desc := "()Z" } : Jvm.MethodName)) ∈ LW := tw6 (i := 210) rfl rfl
theorem q1412 : (Jvm.Cond.instanceMethod ({ cls := "LongYearModel", name := "readsFirst", desc := "()Z" } : Jvm.MethodName)) ∈ LW := tw6 (i := 212) rfl rfl
theorem q1413 : (Jvm.Cond.code ({ cls := "LongYearModel", name := "readsFirst", desc := "()Z" } : Jvm.MethodName) prog_14_method_81_code (2 : Nat) (Option.some Jvm.ClassFile.FieldType.boolean)) ∈ LW := tw6 (i := 213) rfl rfl
theorem q1414 : (Jvm.Cond.methodLink "LongYearModel" (275 : Nat) ({ cls := "LongYearModel", name := "isName", desc := "(IIIIII)Z" } : Jvm.MethodName)) ∈ LW := tw6 (i := 214) rfl rfl
theorem q1416 : (Jvm.Cond.instanceMethod ({ cls := "LongYearModel", name := "isName", desc := "(IIIIII)Z" } : Jvm.MethodName)) ∈ LW := tw6 (i := 216) rfl rfl
theorem q1417 : (Jvm.Cond.code ({ cls := "LongYearModel", name := "isName", desc := "(IIIIII)Z" } : Jvm.MethodName) prog_14_method_79_code (10 : Nat) (Option.some Jvm.ClassFile.FieldType.boolean)) ∈ LW := tw6 (i := 217) rfl rfl
theorem q1418 : (Jvm.Cond.methodLink "LongYearModel" (272 : Nat) ({ cls := "LongYearModel", name := "goOn", desc := "()V" } : Jvm.MethodName)) ∈ LW := tw6 (i := 218) rfl rfl
theorem q1420 : (Jvm.Cond.instanceMethod ({ cls := "LongYearModel", name := "goOn", desc := "()V" } : Jvm.MethodName)) ∈ LW := tw6 (i := 220) rfl rfl
theorem q1421 : (Jvm.Cond.code ({ cls := "LongYearModel", name := "goOn", desc := "()V" } : Jvm.MethodName) prog_14_method_78_code (1 : Nat) (Option.none : Option Jvm.ClassFile.FieldType)) ∈ LW := tw6 (i := 221) rfl rfl
theorem q1422 : (Jvm.Cond.methodLink "LongYearModel" (278 : Nat) ({ cls := "LongYearModel", name := "takes", desc := "(III)Z" } : Jvm.MethodName)) ∈ LW := tw6 (i := 222) rfl rfl
theorem q1424 : (Jvm.Cond.instanceMethod ({ cls := "LongYearModel", name := "takes", desc := "(III)Z" } : Jvm.MethodName)) ∈ LW := tw6 (i := 224) rfl rfl
theorem q1425 : (Jvm.Cond.code ({ cls := "LongYearModel", name := "takes", desc := "(III)Z" } : Jvm.MethodName) prog_14_method_80_code (4 : Nat) (Option.some Jvm.ClassFile.FieldType.boolean)) ∈ LW := tw6 (i := 225) rfl rfl
theorem q1426 : (Jvm.Cond.methodLink "LongYearModel" (295 : Nat) ({ cls := "LongYearModel", name := "readsItem", desc := "()Z" } : Jvm.MethodName)) ∈ LW := tw6 (i := 226) rfl rfl
theorem q1428 : (Jvm.Cond.instanceMethod ({ cls := "LongYearModel", name := "readsItem", desc := "()Z" } : Jvm.MethodName)) ∈ LW := tw6 (i := 228) rfl rfl
theorem q1429 : (Jvm.Cond.code ({ cls := "LongYearModel", name := "readsItem", desc := "()Z" } : Jvm.MethodName) prog_14_method_85_code (2 : Nat) (Option.some Jvm.ClassFile.FieldType.boolean)) ∈ LW := tw6 (i := 229) rfl rfl
theorem q1430 : (Jvm.Cond.methodLink "LongYearModel" (285 : Nat) ({ cls := "LongYearModel", name := "readsFamily", desc := "()Z" } : Jvm.MethodName)) ∈ LW := tw6 (i := 230) rfl rfl
theorem q1432 : (Jvm.Cond.instanceMethod ({ cls := "LongYearModel", name := "readsFamily", desc := "()Z" } : Jvm.MethodName)) ∈ LW := tw6 (i := 232) rfl rfl
theorem q1433 : (Jvm.Cond.code ({ cls := "LongYearModel", name := "readsFamily", desc := "()Z" } : Jvm.MethodName) prog_14_method_84_code (1 : Nat) (Option.some Jvm.ClassFile.FieldType.boolean)) ∈ LW := tw6 (i := 233) rfl rfl
theorem q1434 : (Jvm.Cond.methodLink "LongYearModel" (282 : Nat) ({ cls := "LongYearModel", name := "lastFamily", desc := "()I" } : Jvm.MethodName)) ∈ LW := tw6 (i := 234) rfl rfl
theorem q1436 : (Jvm.Cond.instanceMethod ({ cls := "LongYearModel", name := "lastFamily", desc := "()I" } : Jvm.MethodName)) ∈ LW := tw6 (i := 236) rfl rfl
theorem q1437 : (Jvm.Cond.code ({ cls := "LongYearModel", name := "lastFamily", desc := "()I" } : Jvm.MethodName) prog_14_method_82_code (1 : Nat) (Option.some Jvm.ClassFile.FieldType.int)) ∈ LW := tw6 (i := 237) rfl rfl
theorem q1438 : (Jvm.Cond.methodLink "LongYearModel" (289 : Nat) ({ cls := "LongYearModel", name := "readsDebt", desc := "()Z" } : Jvm.MethodName)) ∈ LW := tw6 (i := 238) rfl rfl
theorem q1440 : (Jvm.Cond.instanceMethod ({ cls := "LongYearModel", name := "readsDebt", desc := "()Z" } : Jvm.MethodName)) ∈ LW := tw7 (i := 0) rfl rfl
theorem q1441 : (Jvm.Cond.code ({ cls := "LongYearModel", name := "readsDebt", desc := "()Z" } : Jvm.MethodName) prog_14_method_83_code (1 : Nat) (Option.some Jvm.ClassFile.FieldType.boolean)) ∈ LW := tw7 (i := 1) rfl rfl
theorem q1442 : (Jvm.Cond.methodLink "LongYearLaw" (146 : Nat) ({ cls := "LongYearModel", name := "part", desc := "(I)J" } : Jvm.MethodName)) ∈ LW := tw7 (i := 2) rfl rfl
theorem q1443 : (Jvm.Cond.instanceMethod ({ cls := "LongYearModel", name := "part", desc := "(I)J" } : Jvm.MethodName)) ∈ LW := tw7 (i := 3) rfl rfl
theorem q1444 : (Jvm.Cond.selects "LongYearModel" ({ cls := "LongYearModel", name := "part", desc := "(I)J" } : Jvm.MethodName) ({ cls := "LongYearModel", name := "part", desc := "(I)J" } : Jvm.MethodName)) ∈ LW := tw7 (i := 4) rfl rfl
theorem q1445 : (Jvm.Cond.code ({ cls := "LongYearModel", name := "part", desc := "(I)J" } : Jvm.MethodName) prog_14_method_87_code (2 : Nat) (Option.some Jvm.ClassFile.FieldType.long)) ∈ LW := tw7 (i := 5) rfl rfl
theorem q1446 : (Jvm.Cond.methodLink "LongYearLaw" (150 : Nat) ({ cls := "LongYearModel", name := "image", desc := "(I)I" } : Jvm.MethodName)) ∈ LW := tw7 (i := 6) rfl rfl
theorem q1447 : (Jvm.Cond.instanceMethod ({ cls := "LongYearModel", name := "image", desc := "(I)I" } : Jvm.MethodName)) ∈ LW := tw7 (i := 7) rfl rfl
theorem q1448 : (Jvm.Cond.selects "LongYearModel" ({ cls := "LongYearModel", name := "image", desc := "(I)I" } : Jvm.MethodName) ({ cls := "LongYearModel", name := "image", desc := "(I)I" } : Jvm.MethodName)) ∈ LW := tw7 (i := 8) rfl rfl
theorem q1449 : (Jvm.Cond.code ({ cls := "LongYearModel", name := "image", desc := "(I)I" } : Jvm.MethodName) prog_14_method_88_code (3 : Nat) (Option.some Jvm.ClassFile.FieldType.int)) ∈ LW := tw7 (i := 9) rfl rfl
theorem q1450 : (Jvm.Cond.methodLink "LongYearLaw" (154 : Nat) ({ cls := "LongYearModel", name := "from", desc := "(I)I" } : Jvm.MethodName)) ∈ LW := tw7 (i := 10) rfl rfl
theorem q1451 : (Jvm.Cond.instanceMethod ({ cls := "LongYearModel", name := "from", desc := "(I)I" } : Jvm.MethodName)) ∈ LW := tw7 (i := 11) rfl rfl
theorem q1452 : (Jvm.Cond.selects "LongYearModel" ({ cls := "LongYearModel", name := "from", desc := "(I)I" } : Jvm.MethodName) ({ cls := "LongYearModel", name := "from", desc := "(I)I" } : Jvm.MethodName)) ∈ LW := tw7 (i := 12) rfl rfl
theorem q1453 : (Jvm.Cond.code ({ cls := "LongYearModel", name := "from", desc := "(I)I" } : Jvm.MethodName) prog_14_method_89_code (3 : Nat) (Option.some Jvm.ClassFile.FieldType.int)) ∈ LW := tw7 (i := 13) rfl rfl
theorem q1454 : (Jvm.Cond.methodLink "LongYearLaw" (158 : Nat) ({ cls := "LongYearModel", name := "status", desc := "(I)I" } : Jvm.MethodName)) ∈ LW := tw7 (i := 14) rfl rfl
theorem q1455 : (Jvm.Cond.instanceMethod ({ cls := "LongYearModel", name := "status", desc := "(I)I" } : Jvm.MethodName)) ∈ LW := tw7 (i := 15) rfl rfl
theorem q1456 : (Jvm.Cond.selects "LongYearModel" ({ cls := "LongYearModel", name := "status", desc := "(I)I" } : Jvm.MethodName) ({ cls := "LongYearModel", name := "status", desc := "(I)I" } : Jvm.MethodName)) ∈ LW := tw7 (i := 16) rfl rfl
theorem q1457 : (Jvm.Cond.code ({ cls := "LongYearModel", name := "status", desc := "(I)I" } : Jvm.MethodName) prog_14_method_90_code (2 : Nat) (Option.some Jvm.ClassFile.FieldType.int)) ∈ LW := tw7 (i := 17) rfl rfl
theorem q1458 : (Jvm.Cond.methodLink "LongYearLaw" (162 : Nat) ({ cls := "LongYearModel", name := "count", desc := "(I)I" } : Jvm.MethodName)) ∈ LW := tw7 (i := 18) rfl rfl
theorem q1459 : (Jvm.Cond.instanceMethod ({ cls := "LongYearModel", name := "count", desc := "(I)I" } : Jvm.MethodName)) ∈ LW := tw7 (i := 19) rfl rfl
theorem q1460 : (Jvm.Cond.selects "LongYearModel" ({ cls := "LongYearModel", name := "count", desc := "(I)I" } : Jvm.MethodName) ({ cls := "LongYearModel", name := "count", desc := "(I)I" } : Jvm.MethodName)) ∈ LW := tw7 (i := 20) rfl rfl
theorem q1461 : (Jvm.Cond.code ({ cls := "LongYearModel", name := "count", desc := "(I)I" } : Jvm.MethodName) prog_14_method_92_code (2 : Nat) (Option.some Jvm.ClassFile.FieldType.int)) ∈ LW := tw7 (i := 21) rfl rfl
theorem q1462 : (Jvm.Cond.constantLong "LongYearModel" (298 : Nat) (13 : Int64)) ∈ LW := tw7 (i := 22) rfl rfl
theorem q1463 : (Jvm.Cond.methodLink "LongYearModel" (300 : Nat) ({ cls := "LongYearModel", name := "counted", desc := "(I)I" } : Jvm.MethodName)) ∈ LW := tw7 (i := 23) rfl rfl
theorem q1465 : (Jvm.Cond.instanceMethod ({ cls := "LongYearModel", name := "counted", desc := "(I)I" } : Jvm.MethodName)) ∈ LW := tw7 (i := 25) rfl rfl
theorem q1466 : (Jvm.Cond.code ({ cls := "LongYearModel", name := "counted", desc := "(I)I" } : Jvm.MethodName) prog_14_method_91_code (2 : Nat) (Option.some Jvm.ClassFile.FieldType.int)) ∈ LW := tw7 (i := 26) rfl rfl
theorem q1467 : (Jvm.Cond.methodLink "LongYearLaw" (167 : Nat) ({ cls := "LongYearModel", name := "digest", desc := "()J" } : Jvm.MethodName)) ∈ LW := tw7 (i := 27) rfl rfl
theorem q1468 : (Jvm.Cond.instanceMethod ({ cls := "LongYearModel", name := "digest", desc := "()J" } : Jvm.MethodName)) ∈ LW := tw7 (i := 28) rfl rfl
theorem q1469 : (Jvm.Cond.selects "LongYearModel" ({ cls := "LongYearModel", name := "digest", desc := "()J" } : Jvm.MethodName) ({ cls := "LongYearModel", name := "digest", desc := "()J" } : Jvm.MethodName)) ∈ LW := tw7 (i := 29) rfl rfl
theorem q1470 : (Jvm.Cond.code ({ cls := "LongYearModel", name := "digest", desc := "()J" } : Jvm.MethodName) prog_14_method_94_code (4 : Nat) (Option.some Jvm.ClassFile.FieldType.long)) ∈ LW := tw7 (i := 30) rfl rfl
theorem q1471 : (Jvm.Cond.constantLong "LongYearModel" (305 : Nat) (827 : Int64)) ∈ LW := tw7 (i := 31) rfl rfl
theorem q1472 : (Jvm.Cond.constantLong "LongYearModel" (303 : Nat) (31 : Int64)) ∈ LW := tw7 (i := 32) rfl rfl
theorem q1473 : (Jvm.Cond.methodLink "LongYearModel" (307 : Nat) ({ cls := "LongYearModel", name := "sums", desc := "(JII)J" } : Jvm.MethodName)) ∈ LW := tw7 (i := 33) rfl rfl
theorem q1475 : (Jvm.Cond.instanceMethod ({ cls := "LongYearModel", name := "sums", desc := "(JII)J" } : Jvm.MethodName)) ∈ LW := tw7 (i := 35) rfl rfl
theorem q1476 : (Jvm.Cond.code ({ cls := "LongYearModel", name := "sums", desc := "(JII)J" } : Jvm.MethodName) prog_14_method_93_code (8 : Nat) (Option.some Jvm.ClassFile.FieldType.long)) ∈ LW := tw7 (i := 36) rfl rfl
theorem q1477 : (Jvm.Cond.sameMethod "LongYear$Keepers" "LongYear$Keepers" "tends" "()I") ∈ LW := tw7 (i := 37) rfl rfl
theorem q1482 : (Jvm.Cond.fieldLink "java/lang/String" (9 : Nat) "java/lang/String" "value" "[B") ∈ LW := tw7 (i := 42) rfl rfl
theorem q1483 : (Jvm.Cond.fieldLink "java/lang/String" (15 : Nat) "java/lang/String" "coder" "B") ∈ LW := tw7 (i := 43) rfl rfl
theorem qp1_0 : Cond.selects "LongYear" ⟨"LongYear", "refuseBad", "(I)I"⟩ ⟨"LongYear", "refuseBad", "(I)I"⟩ ∈ LW := tp1 (i := 0) (q := (⟨"LongYear", "refuseBad", "(I)I"⟩, 13)) rfl
theorem qp1_1 : Cond.selects "LongYear" ⟨"LongYear", "refuseFull", "()I"⟩ ⟨"LongYear", "refuseFull", "()I"⟩ ∈ LW := tp1 (i := 1) (q := (⟨"LongYear", "refuseFull", "()I"⟩, 13)) rfl
theorem qp1_2 : Cond.selects "LongYear" ⟨"LongYear", "isFamily", "(I)Z"⟩ ⟨"LongYear", "isFamily", "(I)Z"⟩ ∈ LW := tp1 (i := 2) (q := (⟨"LongYear", "isFamily", "(I)Z"⟩, 13)) rfl
theorem qp1_3 : Cond.selects "LongYear$Reader" ⟨"LongYear$Reader", "advance", "()V"⟩ ⟨"LongYear$Reader", "advance", "()V"⟩ ∈ LW := tp1 (i := 3) (q := (⟨"LongYear$Reader", "advance", "()V"⟩, 7)) rfl
theorem qp1_4 : Cond.selects "LongYear$Reader" ⟨"LongYear$Reader", "isLetter", "(I)Z"⟩ ⟨"LongYear$Reader", "isLetter", "(I)Z"⟩ ∈ LW := tp1 (i := 4) (q := (⟨"LongYear$Reader", "isLetter", "(I)Z"⟩, 7)) rfl
theorem qp1_5 : Cond.selects "LongYear$Reader" ⟨"LongYear$Reader", "isFigure", "(I)Z"⟩ ⟨"LongYear$Reader", "isFigure", "(I)Z"⟩ ∈ LW := tp1 (i := 5) (q := (⟨"LongYear$Reader", "isFigure", "(I)Z"⟩, 7)) rfl
theorem qp1_6 : Cond.selects "LongYear$Reader" ⟨"LongYear$Reader", "advanceNumber", "()V"⟩ ⟨"LongYear$Reader", "advanceNumber", "()V"⟩ ∈ LW := tp1 (i := 6) (q := (⟨"LongYear$Reader", "advanceNumber", "()V"⟩, 7)) rfl
theorem qp1_7 : Cond.selects "LongYear$Reader" ⟨"LongYear$Reader", "readItem", "(LLongYear$Lump;Z)Z"⟩ ⟨"LongYear$Reader", "readItem", "(LLongYear$Lump;Z)Z"⟩ ∈ LW := tp1 (i := 7) (q := (⟨"LongYear$Reader", "readItem", "(LLongYear$Lump;Z)Z"⟩, 7)) rfl
theorem qp1_8 : Cond.selects "LongYear$Reader" ⟨"LongYear$Reader", "itemTold", "()I"⟩ ⟨"LongYear$Reader", "itemTold", "()I"⟩ ∈ LW := tp1 (i := 8) (q := (⟨"LongYear$Reader", "itemTold", "()I"⟩, 7)) rfl
theorem qp1_9 : Cond.selects "LongYear$Reader" ⟨"LongYear$Reader", "spells", "(Ljava/lang/String;)Z"⟩ ⟨"LongYear$Reader", "spells", "(Ljava/lang/String;)Z"⟩ ∈ LW := tp1 (i := 9) (q := (⟨"LongYear$Reader", "spells", "(Ljava/lang/String;)Z"⟩, 7)) rfl
theorem qp1_10 : Cond.selects "LongYear$Reader" ⟨"LongYear$Reader", "fits", "(III)Z"⟩ ⟨"LongYear$Reader", "fits", "(III)Z"⟩ ∈ LW := tp1 (i := 10) (q := (⟨"LongYear$Reader", "fits", "(III)Z"⟩, 7)) rfl
theorem qp1_11 : Cond.selects "LongYear$Reader" ⟨"LongYear$Reader", "addTo", "(LLongYear$Lump;I)V"⟩ ⟨"LongYear$Reader", "addTo", "(LLongYear$Lump;I)V"⟩ ∈ LW := tp1 (i := 11) (q := (⟨"LongYear$Reader", "addTo", "(LLongYear$Lump;I)V"⟩, 7)) rfl
theorem qp1_12 : Cond.selects "LongYear$Farm" ⟨"LongYear$Farm", "setTimeTo", "(LLongYear$Farm;)V"⟩ ⟨"LongYear$Farm", "setTimeTo", "(LLongYear$Farm;)V"⟩ ∈ LW := tp1 (i := 12) (q := (⟨"LongYear$Farm", "setTimeTo", "(LLongYear$Farm;)V"⟩, 13)) rfl
theorem qp1_13 : Cond.selects "LongYear$Farm" ⟨"LongYear$Farm", "harvest", "(I)V"⟩ ⟨"LongYear$Farm", "harvest", "(I)V"⟩ ∈ LW := tp1 (i := 13) (q := (⟨"LongYear$Farm", "harvest", "(I)V"⟩, 13)) rfl
theorem qp1_14 : Cond.selects "LongYear$Farm" ⟨"LongYear$Farm", "work", "()V"⟩ ⟨"LongYear$Farm", "work", "()V"⟩ ∈ LW := tp1 (i := 14) (q := (⟨"LongYear$Farm", "work", "()V"⟩, 13)) rfl
theorem qp1_15 : Cond.selects "LongYear$Farm" ⟨"LongYear$Farm", "teach", "(I)V"⟩ ⟨"LongYear$Farm", "teach", "(I)V"⟩ ∈ LW := tp1 (i := 15) (q := (⟨"LongYear$Farm", "teach", "(I)V"⟩, 13)) rfl
theorem qp2_0 : Cond.selects "LongYear$Farm" ⟨"LongYear$Farm", "feed", "(Z)I"⟩ ⟨"LongYear$Farm", "feed", "(Z)I"⟩ ∈ LW := tp2 (i := 0) (q := (⟨"LongYear$Farm", "feed", "(Z)I"⟩, 13)) rfl
theorem qp2_1 : Cond.selects "LongYear$Farm" ⟨"LongYear$Farm", "remember", "()V"⟩ ⟨"LongYear$Farm", "remember", "()V"⟩ ∈ LW := tp2 (i := 1) (q := (⟨"LongYear$Farm", "remember", "()V"⟩, 13)) rfl
theorem qp2_2 : Cond.selects "LongYear$Farm" ⟨"LongYear$Farm", "warm", "()V"⟩ ⟨"LongYear$Farm", "warm", "()V"⟩ ∈ LW := tp2 (i := 2) (q := (⟨"LongYear$Farm", "warm", "()V"⟩, 13)) rfl
theorem qp2_3 : Cond.selects "LongYear$Farm" ⟨"LongYear$Farm", "lose", "()V"⟩ ⟨"LongYear$Farm", "lose", "()V"⟩ ∈ LW := tp2 (i := 3) (q := (⟨"LongYear$Farm", "lose", "()V"⟩, 13)) rfl
theorem qp2_4 : Cond.selects "LongYear$Farm" ⟨"LongYear$Farm", "forget", "()V"⟩ ⟨"LongYear$Farm", "forget", "()V"⟩ ∈ LW := tp2 (i := 4) (q := (⟨"LongYear$Farm", "forget", "()V"⟩, 13)) rfl
theorem qp2_5 : Cond.selects "LongYear" ⟨"LongYear", "refuseNo", "()I"⟩ ⟨"LongYear", "refuseNo", "()I"⟩ ∈ LW := tp2 (i := 5) (q := (⟨"LongYear", "refuseNo", "()I"⟩, 13)) rfl
theorem qp2_6 : Cond.selects "LongYear$Trials" ⟨"LongYear$Trials", "keepIfMost", "(I)V"⟩ ⟨"LongYear$Trials", "keepIfMost", "(I)V"⟩ ∈ LW := tp2 (i := 6) (q := (⟨"LongYear$Trials", "keepIfMost", "(I)V"⟩, 7)) rfl
theorem qp2_7 : Cond.selects "LongYear" ⟨"LongYear", "takeFraction", "(JJ)V"⟩ ⟨"LongYear", "takeFraction", "(JJ)V"⟩ ∈ LW := tp2 (i := 7) (q := (⟨"LongYear", "takeFraction", "(JJ)V"⟩, 13)) rfl
theorem qp2_8 : Cond.selects "LongYear$Trials" ⟨"LongYear$Trials", "keepsMemory", "(LLongYear$Farm;II)Z"⟩ ⟨"LongYear$Trials", "keepsMemory", "(LLongYear$Farm;II)Z"⟩ ∈ LW := tp2 (i := 8) (q := (⟨"LongYear$Trials", "keepsMemory", "(LLongYear$Farm;II)Z"⟩, 7)) rfl
theorem qp2_9 : Cond.selects "LongYear$Trials" ⟨"LongYear$Trials", "mostGroupsBelow", "(II)I"⟩ ⟨"LongYear$Trials", "mostGroupsBelow", "(II)I"⟩ ∈ LW := tp2 (i := 9) (q := (⟨"LongYear$Trials", "mostGroupsBelow", "(II)I"⟩, 7)) rfl
theorem qp2_10 : Cond.selects "LongYear$Books" ⟨"LongYear$Books", "alikeWithout", "(I)Z"⟩ ⟨"LongYear$Books", "alikeWithout", "(I)Z"⟩ ∈ LW := tp2 (i := 10) (q := (⟨"LongYear$Books", "alikeWithout", "(I)Z"⟩, 11)) rfl
theorem qp2_11 : Cond.selects "LongYear$Books" ⟨"LongYear$Books", "isTold", "(II)Z"⟩ ⟨"LongYear$Books", "isTold", "(II)Z"⟩ ∈ LW := tp2 (i := 11) (q := (⟨"LongYear$Books", "isTold", "(II)Z"⟩, 11)) rfl
theorem qp2_12 : Cond.selects "LongYear$Books" ⟨"LongYear$Books", "differ", "(II)Z"⟩ ⟨"LongYear$Books", "differ", "(II)Z"⟩ ∈ LW := tp2 (i := 12) (q := (⟨"LongYear$Books", "differ", "(II)Z"⟩, 11)) rfl
theorem qp2_13 : Cond.selects "LongYear" ⟨"LongYear", "takeLetters", "(IIIIII)Z"⟩ ⟨"LongYear", "takeLetters", "(IIIIII)Z"⟩ ∈ LW := tp2 (i := 13) (q := (⟨"LongYear", "takeLetters", "(IIIIII)Z"⟩, 13)) rfl
theorem qp2_14 : Cond.selects "LongYear" ⟨"LongYear", "isWord", "(I)Z"⟩ ⟨"LongYear", "isWord", "(I)Z"⟩ ∈ LW := tp2 (i := 14) (q := (⟨"LongYear", "isWord", "(I)Z"⟩, 13)) rfl
theorem qp2_15 : Cond.selects "LongYear" ⟨"LongYear", "imageAt", "(I)LLongYear$Lump;"⟩ ⟨"LongYear", "imageAt", "(I)LLongYear$Lump;"⟩ ∈ LW := tp2 (i := 15) (q := (⟨"LongYear", "imageAt", "(I)LLongYear$Lump;"⟩, 13)) rfl
theorem qp3_0 : Cond.selects "LongYear" ⟨"LongYear", "tally", "(I)I"⟩ ⟨"LongYear", "tally", "(I)I"⟩ ∈ LW := tp3 (i := 0) (q := (⟨"LongYear", "tally", "(I)I"⟩, 13)) rfl
theorem qp3_1 : Cond.selects "LongYearModel" ⟨"LongYearModel", "bad", "(I)I"⟩ ⟨"LongYearModel", "bad", "(I)I"⟩ ∈ LW := tp3 (i := 1) (q := (⟨"LongYearModel", "bad", "(I)I"⟩, 18)) rfl
theorem qp3_2 : Cond.selects "LongYearModel" ⟨"LongYearModel", "families", "()I"⟩ ⟨"LongYearModel", "families", "()I"⟩ ∈ LW := tp3 (i := 2) (q := (⟨"LongYearModel", "families", "()I"⟩, 18)) rfl
theorem qp3_3 : Cond.selects "LongYearModel" ⟨"LongYearModel", "full", "()I"⟩ ⟨"LongYearModel", "full", "()I"⟩ ∈ LW := tp3 (i := 3) (q := (⟨"LongYearModel", "full", "()I"⟩, 18)) rfl
theorem qp3_4 : Cond.selects "LongYearModel" ⟨"LongYearModel", "isFamily", "(I)Z"⟩ ⟨"LongYearModel", "isFamily", "(I)Z"⟩ ∈ LW := tp3 (i := 4) (q := (⟨"LongYearModel", "isFamily", "(I)Z"⟩, 18)) rfl
theorem qp3_5 : Cond.selects "LongYearModel" ⟨"LongYearModel", "of", "(II)I"⟩ ⟨"LongYearModel", "of", "(II)I"⟩ ∈ LW := tp3 (i := 5) (q := (⟨"LongYearModel", "of", "(II)I"⟩, 18)) rfl
theorem qp3_6 : Cond.selects "LongYearModel" ⟨"LongYearModel", "keepPast", "()V"⟩ ⟨"LongYearModel", "keepPast", "()V"⟩ ∈ LW := tp3 (i := 6) (q := (⟨"LongYearModel", "keepPast", "()V"⟩, 18)) rfl
theorem qp3_7 : Cond.selects "LongYearModel" ⟨"LongYearModel", "goYear", "(Z)I"⟩ ⟨"LongYearModel", "goYear", "(Z)I"⟩ ∈ LW := tp3 (i := 7) (q := (⟨"LongYearModel", "goYear", "(Z)I"⟩, 18)) rfl
theorem qp3_8 : Cond.selects "LongYearModel" ⟨"LongYearModel", "isNoon", "(I)Z"⟩ ⟨"LongYearModel", "isNoon", "(I)Z"⟩ ∈ LW := tp3 (i := 8) (q := (⟨"LongYearModel", "isNoon", "(I)Z"⟩, 18)) rfl
theorem qp3_9 : Cond.selects "LongYearModel" ⟨"LongYearModel", "goNoon", "(Z)V"⟩ ⟨"LongYearModel", "goNoon", "(Z)V"⟩ ∈ LW := tp3 (i := 9) (q := (⟨"LongYearModel", "goNoon", "(Z)V"⟩, 18)) rfl
theorem qp3_10 : Cond.selects "LongYearModel" ⟨"LongYearModel", "fieldsNow", "()I"⟩ ⟨"LongYearModel", "fieldsNow", "()I"⟩ ∈ LW := tp3 (i := 10) (q := (⟨"LongYearModel", "fieldsNow", "()I"⟩, 18)) rfl
theorem qp3_11 : Cond.selects "LongYearModel" ⟨"LongYearModel", "put", "(II)V"⟩ ⟨"LongYearModel", "put", "(II)V"⟩ ∈ LW := tp3 (i := 11) (q := (⟨"LongYearModel", "put", "(II)V"⟩, 18)) rfl
theorem qp3_12 : Cond.selects "LongYearModel" ⟨"LongYearModel", "eat", "()V"⟩ ⟨"LongYearModel", "eat", "()V"⟩ ∈ LW := tp3 (i := 12) (q := (⟨"LongYearModel", "eat", "()V"⟩, 18)) rfl
theorem qp3_13 : Cond.selects "LongYearModel" ⟨"LongYearModel", "eatsOf", "(II)I"⟩ ⟨"LongYearModel", "eatsOf", "(II)I"⟩ ∈ LW := tp3 (i := 13) (q := (⟨"LongYearModel", "eatsOf", "(II)I"⟩, 18)) rfl
theorem qp3_14 : Cond.selects "LongYearModel" ⟨"LongYearModel", "goDusk", "()V"⟩ ⟨"LongYearModel", "goDusk", "()V"⟩ ∈ LW := tp3 (i := 14) (q := (⟨"LongYearModel", "goDusk", "()V"⟩, 18)) rfl
theorem qp3_15 : Cond.selects "LongYearModel" ⟨"LongYearModel", "work", "(I)V"⟩ ⟨"LongYearModel", "work", "(I)V"⟩ ∈ LW := tp3 (i := 15) (q := (⟨"LongYearModel", "work", "(I)V"⟩, 18)) rfl
theorem qp4_0 : Cond.selects "LongYearModel" ⟨"LongYearModel", "teach", "(I)V"⟩ ⟨"LongYearModel", "teach", "(I)V"⟩ ∈ LW := tp4 (i := 0) (q := (⟨"LongYearModel", "teach", "(I)V"⟩, 18)) rfl
theorem qp4_1 : Cond.selects "LongYearModel" ⟨"LongYearModel", "freeze", "()V"⟩ ⟨"LongYearModel", "freeze", "()V"⟩ ∈ LW := tp4 (i := 1) (q := (⟨"LongYearModel", "freeze", "()V"⟩, 18)) rfl
theorem qp4_2 : Cond.selects "LongYearModel" ⟨"LongYearModel", "no", "()I"⟩ ⟨"LongYearModel", "no", "()I"⟩ ∈ LW := tp4 (i := 2) (q := (⟨"LongYearModel", "no", "()I"⟩, 18)) rfl
theorem qp4_3 : Cond.selects "LongYearModel" ⟨"LongYearModel", "start", "()V"⟩ ⟨"LongYearModel", "start", "()V"⟩ ∈ LW := tp4 (i := 3) (q := (⟨"LongYearModel", "start", "()V"⟩, 18)) rfl
theorem qp4_4 : Cond.selects "LongYearModel" ⟨"LongYearModel", "allDo", "(I)V"⟩ ⟨"LongYearModel", "allDo", "(I)V"⟩ ∈ LW := tp4 (i := 4) (q := (⟨"LongYearModel", "allDo", "(I)V"⟩, 18)) rfl
theorem qp4_5 : Cond.selects "LongYearModel" ⟨"LongYearModel", "back", "()V"⟩ ⟨"LongYearModel", "back", "()V"⟩ ∈ LW := tp4 (i := 5) (q := (⟨"LongYearModel", "back", "()V"⟩, 18)) rfl
theorem qp4_6 : Cond.selects "LongYearModel" ⟨"LongYearModel", "firstWant", "(I)I"⟩ ⟨"LongYearModel", "firstWant", "(I)I"⟩ ∈ LW := tp4 (i := 6) (q := (⟨"LongYearModel", "firstWant", "(I)I"⟩, 18)) rfl
theorem qp4_7 : Cond.selects "LongYearModel" ⟨"LongYearModel", "noons", "(I)I"⟩ ⟨"LongYearModel", "noons", "(I)I"⟩ ∈ LW := tp4 (i := 7) (q := (⟨"LongYearModel", "noons", "(I)I"⟩, 18)) rfl
theorem qp4_8 : Cond.selects "LongYearModel" ⟨"LongYearModel", "isFed", "(II)Z"⟩ ⟨"LongYearModel", "isFed", "(II)Z"⟩ ∈ LW := tp4 (i := 8) (q := (⟨"LongYearModel", "isFed", "(II)Z"⟩, 18)) rfl
theorem qp4_9 : Cond.selects "LongYearModel" ⟨"LongYearModel", "tell", "(JJ)V"⟩ ⟨"LongYearModel", "tell", "(JJ)V"⟩ ∈ LW := tp4 (i := 9) (q := (⟨"LongYearModel", "tell", "(JJ)V"⟩, 18)) rfl
theorem qp4_10 : Cond.selects "LongYearModel" ⟨"LongYearModel", "allRemember", "(II)Z"⟩ ⟨"LongYearModel", "allRemember", "(II)Z"⟩ ∈ LW := tp4 (i := 10) (q := (⟨"LongYearModel", "allRemember", "(II)Z"⟩, 18)) rfl
theorem qp4_11 : Cond.selects "LongYearModel" ⟨"LongYearModel", "netOf", "(I)I"⟩ ⟨"LongYearModel", "netOf", "(I)I"⟩ ∈ LW := tp4 (i := 11) (q := (⟨"LongYearModel", "netOf", "(I)I"⟩, 18)) rfl
theorem qp4_12 : Cond.selects "LongYearModel" ⟨"LongYearModel", "sumOf", "(I)I"⟩ ⟨"LongYearModel", "sumOf", "(I)I"⟩ ∈ LW := tp4 (i := 12) (q := (⟨"LongYearModel", "sumOf", "(I)I"⟩, 18)) rfl
theorem qp4_13 : Cond.selects "LongYearModel" ⟨"LongYearModel", "areAlike", "(I)Z"⟩ ⟨"LongYearModel", "areAlike", "(I)Z"⟩ ∈ LW := tp4 (i := 13) (q := (⟨"LongYearModel", "areAlike", "(I)Z"⟩, 18)) rfl
theorem qp4_14 : Cond.selects "LongYearModel" ⟨"LongYearModel", "hears", "(IIIIII)Z"⟩ ⟨"LongYearModel", "hears", "(IIIIII)Z"⟩ ∈ LW := tp4 (i := 14) (q := (⟨"LongYearModel", "hears", "(IIIIII)Z"⟩, 18)) rfl
theorem qp4_15 : Cond.selects "LongYearModel" ⟨"LongYearModel", "isWord", "(I)Z"⟩ ⟨"LongYearModel", "isWord", "(I)Z"⟩ ∈ LW := tp4 (i := 15) (q := (⟨"LongYearModel", "isWord", "(I)Z"⟩, 18)) rfl
theorem qp5_0 : Cond.selects "LongYearModel" ⟨"LongYearModel", "apartOf", "(II)I"⟩ ⟨"LongYearModel", "apartOf", "(II)I"⟩ ∈ LW := tp5 (i := 0) (q := (⟨"LongYearModel", "apartOf", "(II)I"⟩, 18)) rfl
theorem qp5_1 : Cond.selects "LongYearModel" ⟨"LongYearModel", "look", "(I)V"⟩ ⟨"LongYearModel", "look", "(I)V"⟩ ∈ LW := tp5 (i := 1) (q := (⟨"LongYearModel", "look", "(I)V"⟩, 18)) rfl
theorem qp5_2 : Cond.selects "LongYearModel" ⟨"LongYearModel", "readsFirst", "()Z"⟩ ⟨"LongYearModel", "readsFirst", "()Z"⟩ ∈ LW := tp5 (i := 2) (q := (⟨"LongYearModel", "readsFirst", "()Z"⟩, 18)) rfl
theorem qp5_3 : Cond.selects "LongYearModel" ⟨"LongYearModel", "isName", "(IIIIII)Z"⟩ ⟨"LongYearModel", "isName", "(IIIIII)Z"⟩ ∈ LW := tp5 (i := 3) (q := (⟨"LongYearModel", "isName", "(IIIIII)Z"⟩, 18)) rfl
theorem qp5_4 : Cond.selects "LongYearModel" ⟨"LongYearModel", "goOn", "()V"⟩ ⟨"LongYearModel", "goOn", "()V"⟩ ∈ LW := tp5 (i := 4) (q := (⟨"LongYearModel", "goOn", "()V"⟩, 18)) rfl
theorem qp5_5 : Cond.selects "LongYearModel" ⟨"LongYearModel", "takes", "(III)Z"⟩ ⟨"LongYearModel", "takes", "(III)Z"⟩ ∈ LW := tp5 (i := 5) (q := (⟨"LongYearModel", "takes", "(III)Z"⟩, 18)) rfl
theorem qp5_6 : Cond.selects "LongYearModel" ⟨"LongYearModel", "readsItem", "()Z"⟩ ⟨"LongYearModel", "readsItem", "()Z"⟩ ∈ LW := tp5 (i := 6) (q := (⟨"LongYearModel", "readsItem", "()Z"⟩, 18)) rfl
theorem qp5_7 : Cond.selects "LongYearModel" ⟨"LongYearModel", "readsFamily", "()Z"⟩ ⟨"LongYearModel", "readsFamily", "()Z"⟩ ∈ LW := tp5 (i := 7) (q := (⟨"LongYearModel", "readsFamily", "()Z"⟩, 18)) rfl
theorem qp5_8 : Cond.selects "LongYearModel" ⟨"LongYearModel", "lastFamily", "()I"⟩ ⟨"LongYearModel", "lastFamily", "()I"⟩ ∈ LW := tp5 (i := 8) (q := (⟨"LongYearModel", "lastFamily", "()I"⟩, 18)) rfl
theorem qp5_9 : Cond.selects "LongYearModel" ⟨"LongYearModel", "readsDebt", "()Z"⟩ ⟨"LongYearModel", "readsDebt", "()Z"⟩ ∈ LW := tp5 (i := 9) (q := (⟨"LongYearModel", "readsDebt", "()Z"⟩, 18)) rfl
theorem qp5_10 : Cond.selects "LongYearModel" ⟨"LongYearModel", "counted", "(I)I"⟩ ⟨"LongYearModel", "counted", "(I)I"⟩ ∈ LW := tp5 (i := 10) (q := (⟨"LongYearModel", "counted", "(I)I"⟩, 18)) rfl
theorem qp5_11 : Cond.selects "LongYearModel" ⟨"LongYearModel", "sums", "(JII)J"⟩ ⟨"LongYearModel", "sums", "(JII)J"⟩ ∈ LW := tp5 (i := 11) (q := (⟨"LongYearModel", "sums", "(JII)J"⟩, 18)) rfl
