/-! the words of the tables that every method may use, in one list; each by its place -/
def AW : List Cond := lw_tbl.filter goodWord
abbrev ws_ (y : MethodName) (cc : ByteArray) (n : Nat) (ret : Option FieldType) : List Cond := Cond.code y cc n ret :: AW
theorem AW_tbl {w : Cond} (h : w ∈ AW) : w ∈ lw_tbl := (List.mem_filter.mp h).1
theorem AW_good {w : Cond} (h : w ∈ AW) : goodWord w = true := (List.mem_filter.mp h).2
theorem AW_in {w : Cond} (i : Nat) (h : lw_tbl[i]? = some w) (g : goodWord w = true) : w ∈ AW := List.mem_filter.mpr ⟨List.mem_of_getElem? h, g⟩
theorem qs0 : Cond.selects "MembranePlant" (⟨"MembranePlant", "passPresent", "(Z)V"⟩ : MethodName) (⟨"MembranePlant", "passPresent", "(Z)V"⟩ : MethodName) ∈ AW := AW_in 0 (by decide +kernel) rfl
theorem qs1 : Cond.selects "MembranePlant$State" (⟨"MembranePlant$State", "goOnCleaning", "(I)V"⟩ : MethodName) (⟨"MembranePlant$State", "goOnCleaning", "(I)V"⟩ : MethodName) ∈ AW := AW_in 1 (by decide +kernel) rfl
theorem qs2 : Cond.selects "MembranePlant$State" (⟨"MembranePlant$State", "runTrain", "(LMembranePlant$Settings;I)I"⟩ : MethodName) (⟨"MembranePlant$State", "runTrain", "(LMembranePlant$Settings;I)I"⟩ : MethodName) ∈ AW := AW_in 2 (by decide +kernel) rfl
theorem qs3 : Cond.selects "MembranePlant$State" (⟨"MembranePlant$State", "pour", "(LMembranePlant$Settings;)V"⟩ : MethodName) (⟨"MembranePlant$State", "pour", "(LMembranePlant$Settings;)V"⟩ : MethodName) ∈ AW := AW_in 3 (by decide +kernel) rfl
theorem qs4 : Cond.selects "MembranePlant$State" (⟨"MembranePlant$State", "serve", "(LMembranePlant$Settings;I)V"⟩ : MethodName) (⟨"MembranePlant$State", "serve", "(LMembranePlant$Settings;I)V"⟩ : MethodName) ∈ AW := AW_in 4 (by decide +kernel) rfl
theorem qs5 : Cond.selects "MembranePlant$Orders" (⟨"MembranePlant$Orders", "find", "(I)I"⟩ : MethodName) (⟨"MembranePlant$Orders", "find", "(I)I"⟩ : MethodName) ∈ AW := AW_in 5 (by decide +kernel) rfl
theorem qs6 : Cond.selects "java/lang/Throwable" (⟨"java/lang/Throwable", "fillInStackTrace", "(I)Ljava/lang/Throwable;"⟩ : MethodName) (⟨"java/lang/Throwable", "fillInStackTrace", "(I)Ljava/lang/Throwable;"⟩ : MethodName) ∈ AW := AW_in 6 (by decide +kernel) rfl
theorem qs7 : Cond.selects "MembranePlant" (⟨"MembranePlant", "checkTrain", "(I)V"⟩ : MethodName) (⟨"MembranePlant", "checkTrain", "(I)V"⟩ : MethodName) ∈ AW := AW_in 7 (by decide +kernel) rfl
theorem qs8 : Cond.selects "MembranePlant" (⟨"MembranePlant", "checkReady", "(I)V"⟩ : MethodName) (⟨"MembranePlant", "checkReady", "(I)V"⟩ : MethodName) ∈ AW := AW_in 8 (by decide +kernel) rfl
theorem qs9 : Cond.selects "MembranePlant" (⟨"MembranePlant", "checkTank", "(I)V"⟩ : MethodName) (⟨"MembranePlant", "checkTank", "(I)V"⟩ : MethodName) ∈ AW := AW_in 9 (by decide +kernel) rfl
theorem qs10 : Cond.selects "MembranePlant$Planner" (⟨"MembranePlant$Planner", "isAsOrdered", "(II)Z"⟩ : MethodName) (⟨"MembranePlant$Planner", "isAsOrdered", "(II)Z"⟩ : MethodName) ∈ AW := AW_in 10 (by decide +kernel) rfl
theorem qs11 : Cond.selects "MembranePlant$Planner" (⟨"MembranePlant$Planner", "canPass", "(II)Z"⟩ : MethodName) (⟨"MembranePlant$Planner", "canPass", "(II)Z"⟩ : MethodName) ∈ AW := AW_in 11 (by decide +kernel) rfl
theorem qs12 : Cond.selects "MembranePlantModel" (⟨"MembranePlantModel", "isTrain", "(I)Z"⟩ : MethodName) (⟨"MembranePlantModel", "isTrain", "(I)Z"⟩ : MethodName) ∈ AW := AW_in 12 (by decide +kernel) rfl
theorem qs13 : Cond.selects "MembranePlantModel" (⟨"MembranePlantModel", "of", "(II)I"⟩ : MethodName) (⟨"MembranePlantModel", "of", "(II)I"⟩ : MethodName) ∈ AW := AW_in 13 (by decide +kernel) rfl
theorem qs14 : Cond.selects "MembranePlantModel" (⟨"MembranePlantModel", "gives", "(I)I"⟩ : MethodName) (⟨"MembranePlantModel", "gives", "(I)I"⟩ : MethodName) ∈ AW := AW_in 14 (by decide +kernel) rfl
theorem qs15 : Cond.selects "MembranePlantModel" (⟨"MembranePlantModel", "needs", "(I)I"⟩ : MethodName) (⟨"MembranePlantModel", "needs", "(I)I"⟩ : MethodName) ∈ AW := AW_in 15 (by decide +kernel) rfl
theorem qs16 : Cond.selects "MembranePlantModel" (⟨"MembranePlantModel", "takes", "(I)I"⟩ : MethodName) (⟨"MembranePlantModel", "takes", "(I)I"⟩ : MethodName) ∈ AW := AW_in 16 (by decide +kernel) rfl
theorem qs17 : Cond.selects "MembranePlantModel" (⟨"MembranePlantModel", "isTank", "(I)Z"⟩ : MethodName) (⟨"MembranePlantModel", "isTank", "(I)Z"⟩ : MethodName) ∈ AW := AW_in 17 (by decide +kernel) rfl
theorem qs18 : Cond.selects "MembranePlantModel" (⟨"MembranePlantModel", "passes", "(Z)V"⟩ : MethodName) (⟨"MembranePlantModel", "passes", "(Z)V"⟩ : MethodName) ∈ AW := AW_in 18 (by decide +kernel) rfl
theorem qs19 : Cond.selects "MembranePlantModel" (⟨"MembranePlantModel", "goes", "(IZ)Z"⟩ : MethodName) (⟨"MembranePlantModel", "goes", "(IZ)Z"⟩ : MethodName) ∈ AW := AW_in 19 (by decide +kernel) rfl
theorem qs20 : Cond.selects "MembranePlantModel" (⟨"MembranePlantModel", "cleans", "(I)V"⟩ : MethodName) (⟨"MembranePlantModel", "cleans", "(I)V"⟩ : MethodName) ∈ AW := AW_in 20 (by decide +kernel) rfl
theorem qs21 : Cond.selects "MembranePlantModel" (⟨"MembranePlantModel", "works", "(I)V"⟩ : MethodName) (⟨"MembranePlantModel", "works", "(I)V"⟩ : MethodName) ∈ AW := AW_in 21 (by decide +kernel) rfl
theorem qs22 : Cond.selects "MembranePlantModel" (⟨"MembranePlantModel", "orderAt", "(I)I"⟩ : MethodName) (⟨"MembranePlantModel", "orderAt", "(I)I"⟩ : MethodName) ∈ AW := AW_in 22 (by decide +kernel) rfl
theorem qs23 : Cond.selects "MembranePlantModel" (⟨"MembranePlantModel", "forgets", "(I)V"⟩ : MethodName) (⟨"MembranePlantModel", "forgets", "(I)V"⟩ : MethodName) ∈ AW := AW_in 23 (by decide +kernel) rfl
theorem qs24 : Cond.selects "MembranePlantModel" (⟨"MembranePlantModel", "looks", "(I)V"⟩ : MethodName) (⟨"MembranePlantModel", "looks", "(I)V"⟩ : MethodName) ∈ AW := AW_in 24 (by decide +kernel) rfl
theorem qs25 : Cond.selects "MembranePlantModel" (⟨"MembranePlantModel", "laysBack", "([I[I)V"⟩ : MethodName) (⟨"MembranePlantModel", "laysBack", "([I[I)V"⟩ : MethodName) ∈ AW := AW_in 25 (by decide +kernel) rfl
theorem qs26 : Cond.selects "MembranePlantModel" (⟨"MembranePlantModel", "isAllowed", "(II)Z"⟩ : MethodName) (⟨"MembranePlantModel", "isAllowed", "(II)Z"⟩ : MethodName) ∈ AW := AW_in 26 (by decide +kernel) rfl
theorem q0 : (Jvm.Cond.initialized "MembranePlantLaw") ∈ AW := AW_in 27 (by decide +kernel) rfl
theorem q1 : (Jvm.Cond.initialized "MembranePlant") ∈ AW := AW_in 28 (by decide +kernel) rfl
theorem q2 : (Jvm.Cond.initialized "MembranePlant$Settings") ∈ AW := AW_in 29 (by decide +kernel) rfl
theorem q3 : (Jvm.Cond.initialized "java/util/Arrays") ∈ AW := AW_in 30 (by decide +kernel) rfl
theorem q4 : (Jvm.Cond.initialized "MembranePlant$State") ∈ AW := AW_in 31 (by decide +kernel) rfl
theorem q5 : (Jvm.Cond.initialized "MembranePlant$Orders") ∈ AW := AW_in 32 (by decide +kernel) rfl
theorem q6 : (Jvm.Cond.initialized "MembranePlant$Planner") ∈ AW := AW_in 33 (by decide +kernel) rfl
theorem q7 : (Jvm.Cond.initialized "MembranePlant$Meters") ∈ AW := AW_in 34 (by decide +kernel) rfl
theorem q8 : (Jvm.Cond.initialized "MembranePlantModel") ∈ AW := AW_in 35 (by decide +kernel) rfl
theorem q9 : (Jvm.Cond.initialized "java/lang/Throwable") ∈ AW := AW_in 36 (by decide +kernel) rfl
theorem q10 : (Jvm.Cond.initialized "java/lang/Exception") ∈ AW := AW_in 37 (by decide +kernel) rfl
theorem q11 : (Jvm.Cond.initialized "java/lang/RuntimeException") ∈ AW := AW_in 38 (by decide +kernel) rfl
theorem q12 : (Jvm.Cond.initialized "java/lang/IllegalArgumentException") ∈ AW := AW_in 39 (by decide +kernel) rfl
theorem q13 : (Jvm.Cond.initialized "java/lang/IllegalStateException") ∈ AW := AW_in 40 (by decide +kernel) rfl
theorem q14 : (Jvm.Cond.initialized "java/lang/IndexOutOfBoundsException") ∈ AW := AW_in 41 (by decide +kernel) rfl
theorem q15 : (Jvm.Cond.initialized "java/lang/ArrayIndexOutOfBoundsException") ∈ AW := AW_in 42 (by decide +kernel) rfl
theorem q16 : (Jvm.Cond.initialized "java/lang/String") ∈ AW := AW_in 43 (by decide +kernel) rfl
theorem q17 : (Jvm.Cond.initialized "java/lang/UnsupportedOperationException") ∈ AW := AW_in 44 (by decide +kernel) rfl
theorem q18 : (Jvm.Cond.initialized "java/lang/Math") ∈ AW := AW_in 45 (by decide +kernel) rfl
theorem q19 : (Jvm.Cond.initialized "java/lang/System") ∈ AW := AW_in 46 (by decide +kernel) rfl
theorem q20 : (Jvm.Cond.initialized "java/util/NoSuchElementException") ∈ AW := AW_in 47 (by decide +kernel) rfl
theorem q21 : (Jvm.Cond.initialized "java/lang/ArithmeticException") ∈ AW := AW_in 48 (by decide +kernel) rfl
theorem q22 : (Jvm.Cond.classLink "MembranePlantLaw" (8 : Nat) "MembranePlant") ∈ AW := AW_in 49 (by decide +kernel) rfl
theorem q23 : (Jvm.Cond.instantiable "MembranePlant" (7 : Nat)) ∈ AW := AW_in 50 (by decide +kernel) rfl
theorem q24 : (Jvm.Cond.methodLink "MembranePlantLaw" (108 : Nat) ({ cls := "MembranePlant", name := "<init>", desc := "()V" } : Jvm.MethodName)) ∈ AW := AW_in 51 (by decide +kernel) rfl
theorem q25 : (Jvm.Cond.instanceMethod ({ cls := "MembranePlant", name := "<init>", desc := "()V" } : Jvm.MethodName)) ∈ AW := AW_in 52 (by decide +kernel) rfl
theorem q26 : (Jvm.Cond.code ({ cls := "MembranePlant", name := "<init>", desc := "()V" } : Jvm.MethodName) prog_1_method_1_code (1 : Nat) (Option.none : Option Jvm.ClassFile.FieldType)) ∈ AW := AW_in 53 (by decide +kernel) rfl
theorem q27 : (Jvm.Cond.methodLink "MembranePlant" (1 : Nat) ({ cls := "java/lang/Object", name := "<init>", desc := "()V" } : Jvm.MethodName)) ∈ AW := AW_in 54 (by decide +kernel) rfl
theorem q28 : (Jvm.Cond.instanceMethod ({ cls := "java/lang/Object", name := "<init>", desc := "()V" } : Jvm.MethodName)) ∈ AW := AW_in 55 (by decide +kernel) rfl
theorem q29 : (Jvm.Cond.code ({ cls := "java/lang/Object", name := "<init>", desc := "()V" } : Jvm.MethodName) object_method_1_code (1 : Nat) (Option.none : Option Jvm.ClassFile.FieldType)) ∈ AW := AW_in 56 (by decide +kernel) rfl
theorem q30 : (Jvm.Cond.classLink "MembranePlant" (7 : Nat) "MembranePlant$Settings") ∈ AW := AW_in 57 (by decide +kernel) rfl
theorem q31 : (Jvm.Cond.instantiable "MembranePlant$Settings" (9 : Nat)) ∈ AW := AW_in 58 (by decide +kernel) rfl
theorem q32 : (Jvm.Cond.methodLink "MembranePlant" (9 : Nat) ({ cls := "MembranePlant$Settings", name := "<init>", desc := "()V" } : Jvm.MethodName)) ∈ AW := AW_in 59 (by decide +kernel) rfl
theorem q33 : (Jvm.Cond.instanceMethod ({ cls := "MembranePlant$Settings", name := "<init>", desc := "()V" } : Jvm.MethodName)) ∈ AW := AW_in 60 (by decide +kernel) rfl
theorem q34 : (Jvm.Cond.code ({ cls := "MembranePlant$Settings", name := "<init>", desc := "()V" } : Jvm.MethodName) prog_5_method_1_code (1 : Nat) (Option.none : Option Jvm.ClassFile.FieldType)) ∈ AW := AW_in 61 (by decide +kernel) rfl
theorem q35 : (Jvm.Cond.methodLink "MembranePlant$Settings" (3 : Nat) ({ cls := "java/lang/Object", name := "<init>", desc := "()V" } : Jvm.MethodName)) ∈ AW := AW_in 62 (by decide +kernel) rfl
theorem q36 : (Jvm.Cond.classLink "MembranePlant$Settings" (21 : Nat) "[[I") ∈ AW := AW_in 63 (by decide +kernel) rfl
theorem q38 : (Jvm.Cond.methodLink "MembranePlant$Settings" (29 : Nat) ({ cls := "java/util/Arrays", name := "fill", desc := "([II)V" } : Jvm.MethodName)) ∈ AW := AW_in 65 (by decide +kernel) rfl
theorem q39 : (Jvm.Cond.static ({ cls := "java/util/Arrays", name := "fill", desc := "([II)V" } : Jvm.MethodName)) ∈ AW := AW_in 66 (by decide +kernel) rfl
theorem q40 : (Jvm.Cond.code ({ cls := "java/util/Arrays", name := "fill", desc := "([II)V" } : Jvm.MethodName) prog_22_method_103_code (4 : Nat) (Option.none : Option Jvm.ClassFile.FieldType)) ∈ AW := AW_in 67 (by decide +kernel) rfl
theorem q41 : (Jvm.Cond.fieldLink "MembranePlant$Settings" (9 : Nat) "MembranePlant$Settings" "areas" "[I") ∈ AW := AW_in 68 (by decide +kernel) rfl
theorem q42 : (Jvm.Cond.fieldLink "MembranePlant" (67 : Nat) "MembranePlant$Settings" "areas" "[I") ∈ AW := AW_in 69 (by decide +kernel) rfl
theorem q43 : (Jvm.Cond.fieldLink "MembranePlant$Settings" (15 : Nat) "MembranePlant$Settings" "pressures" "[I") ∈ AW := AW_in 70 (by decide +kernel) rfl
theorem q44 : (Jvm.Cond.fieldLink "MembranePlant" (71 : Nat) "MembranePlant$Settings" "pressures" "[I") ∈ AW := AW_in 71 (by decide +kernel) rfl
theorem q45 : (Jvm.Cond.fieldLink "MembranePlant$Settings" (18 : Nat) "MembranePlant$Settings" "capacities" "[I") ∈ AW := AW_in 72 (by decide +kernel) rfl
theorem q46 : (Jvm.Cond.fieldLink "MembranePlant$State" (92 : Nat) "MembranePlant$Settings" "capacities" "[I") ∈ AW := AW_in 73 (by decide +kernel) rfl
theorem q47 : (Jvm.Cond.fieldLink "MembranePlant" (124 : Nat) "MembranePlant$Settings" "capacities" "[I") ∈ AW := AW_in 74 (by decide +kernel) rfl
theorem q48 : (Jvm.Cond.fieldLink "MembranePlant$Settings" (23 : Nat) "MembranePlant$Settings" "demands" "[[I") ∈ AW := AW_in 75 (by decide +kernel) rfl
theorem q49 : (Jvm.Cond.fieldLink "MembranePlant$State" (104 : Nat) "MembranePlant$Settings" "demands" "[[I") ∈ AW := AW_in 76 (by decide +kernel) rfl
theorem q50 : (Jvm.Cond.fieldLink "MembranePlant" (134 : Nat) "MembranePlant$Settings" "demands" "[[I") ∈ AW := AW_in 77 (by decide +kernel) rfl
theorem q51 : (Jvm.Cond.fieldLink "MembranePlant$Settings" (26 : Nat) "MembranePlant$Settings" "prices" "[I") ∈ AW := AW_in 78 (by decide +kernel) rfl
theorem q52 : (Jvm.Cond.fieldLink "MembranePlant$State" (56 : Nat) "MembranePlant$Settings" "prices" "[I") ∈ AW := AW_in 79 (by decide +kernel) rfl
theorem q53 : (Jvm.Cond.fieldLink "MembranePlant" (142 : Nat) "MembranePlant$Settings" "prices" "[I") ∈ AW := AW_in 80 (by decide +kernel) rfl
theorem q54 : (Jvm.Cond.fieldLink "MembranePlant" (57 : Nat) "MembranePlant$Settings" "trains" "I") ∈ AW := AW_in 81 (by decide +kernel) rfl
theorem q55 : (Jvm.Cond.fieldLink "MembranePlant$State" (43 : Nat) "MembranePlant$Settings" "trains" "I") ∈ AW := AW_in 82 (by decide +kernel) rfl
theorem q56 : (Jvm.Cond.fieldLink "MembranePlant$State" (89 : Nat) "MembranePlant$Settings" "tanks" "I") ∈ AW := AW_in 83 (by decide +kernel) rfl
theorem q57 : (Jvm.Cond.fieldLink "MembranePlant" (87 : Nat) "MembranePlant$Settings" "tanks" "I") ∈ AW := AW_in 84 (by decide +kernel) rfl
theorem q58 : (Jvm.Cond.fieldLink "MembranePlant$Settings" (35 : Nat) "MembranePlant$Settings" "salinity" "I") ∈ AW := AW_in 85 (by decide +kernel) rfl
theorem q59 : (Jvm.Cond.fieldLink "MembranePlant" (78 : Nat) "MembranePlant$Settings" "salinity" "I") ∈ AW := AW_in 86 (by decide +kernel) rfl
theorem q60 : (Jvm.Cond.fieldLink "MembranePlant$Settings" (39 : Nat) "MembranePlant$Settings" "recovery" "I") ∈ AW := AW_in 87 (by decide +kernel) rfl
theorem q61 : (Jvm.Cond.fieldLink "MembranePlant" (81 : Nat) "MembranePlant$Settings" "recovery" "I") ∈ AW := AW_in 88 (by decide +kernel) rfl
theorem q81 : (Jvm.Cond.arrayClass Jvm.ClassFile.FieldType.int) ∈ AW := AW_in 108 (by decide +kernel) rfl
theorem q82 : (Jvm.Cond.classLink "MembranePlant" (16 : Nat) "MembranePlant$State") ∈ AW := AW_in 109 (by decide +kernel) rfl
theorem q83 : (Jvm.Cond.instantiable "MembranePlant$State" (13 : Nat)) ∈ AW := AW_in 110 (by decide +kernel) rfl
theorem q85 : (Jvm.Cond.instanceMethod ({ cls := "MembranePlant$State", name := "<init>", desc := "()V" } : Jvm.MethodName)) ∈ AW := AW_in 112 (by decide +kernel) rfl
theorem q86 : (Jvm.Cond.code ({ cls := "MembranePlant$State", name := "<init>", desc := "()V" } : Jvm.MethodName) prog_6_method_1_code (1 : Nat) (Option.none : Option Jvm.ClassFile.FieldType)) ∈ AW := AW_in 113 (by decide +kernel) rfl
theorem q87 : (Jvm.Cond.methodLink "MembranePlant$State" (3 : Nat) ({ cls := "java/lang/Object", name := "<init>", desc := "()V" } : Jvm.MethodName)) ∈ AW := AW_in 114 (by decide +kernel) rfl
theorem q88 : (Jvm.Cond.fieldLink "MembranePlant$State" (9 : Nat) "MembranePlant$State" "fouling" "[I") ∈ AW := AW_in 115 (by decide +kernel) rfl
theorem q89 : (Jvm.Cond.fieldLink "MembranePlant" (105 : Nat) "MembranePlant$State" "fouling" "[I") ∈ AW := AW_in 116 (by decide +kernel) rfl
theorem q90 : (Jvm.Cond.fieldLink "MembranePlant$State" (15 : Nat) "MembranePlant$State" "wear" "[I") ∈ AW := AW_in 117 (by decide +kernel) rfl
theorem q91 : (Jvm.Cond.fieldLink "MembranePlant" (108 : Nat) "MembranePlant$State" "wear" "[I") ∈ AW := AW_in 118 (by decide +kernel) rfl
theorem q92 : (Jvm.Cond.fieldLink "MembranePlant$State" (18 : Nat) "MembranePlant$State" "left" "[I") ∈ AW := AW_in 119 (by decide +kernel) rfl
theorem q93 : (Jvm.Cond.fieldLink "MembranePlant" (102 : Nat) "MembranePlant$State" "left" "[I") ∈ AW := AW_in 120 (by decide +kernel) rfl
theorem q94 : (Jvm.Cond.fieldLink "MembranePlant$State" (21 : Nat) "MembranePlant$State" "levels" "[I") ∈ AW := AW_in 121 (by decide +kernel) rfl
theorem q95 : (Jvm.Cond.fieldLink "MembranePlant" (90 : Nat) "MembranePlant$State" "levels" "[I") ∈ AW := AW_in 122 (by decide +kernel) rfl
theorem q96 : (Jvm.Cond.fieldLink "MembranePlant$State" (24 : Nat) "MembranePlant$State" "missing" "[I") ∈ AW := AW_in 123 (by decide +kernel) rfl
theorem q97 : (Jvm.Cond.fieldLink "MembranePlant$Meters" (54 : Nat) "MembranePlant$State" "missing" "[I") ∈ AW := AW_in 124 (by decide +kernel) rfl
theorem q98 : (Jvm.Cond.fieldLink "MembranePlant$Meters" (27 : Nat) "MembranePlant$State" "product" "I") ∈ AW := AW_in 125 (by decide +kernel) rfl
theorem q99 : (Jvm.Cond.fieldLink "MembranePlant$State" (33 : Nat) "MembranePlant$State" "product" "I") ∈ AW := AW_in 126 (by decide +kernel) rfl
theorem q100 : (Jvm.Cond.fieldLink "MembranePlant" (152 : Nat) "MembranePlant$State" "product" "I") ∈ AW := AW_in 127 (by decide +kernel) rfl
theorem q101 : (Jvm.Cond.fieldLink "MembranePlant$Meters" (19 : Nat) "MembranePlant$State" "feed" "I") ∈ AW := AW_in 128 (by decide +kernel) rfl
theorem q102 : (Jvm.Cond.fieldLink "MembranePlant$State" (37 : Nat) "MembranePlant$State" "feed" "I") ∈ AW := AW_in 129 (by decide +kernel) rfl
theorem q103 : (Jvm.Cond.fieldLink "MembranePlant$Meters" (32 : Nat) "MembranePlant$State" "brine" "I") ∈ AW := AW_in 130 (by decide +kernel) rfl
theorem q104 : (Jvm.Cond.fieldLink "MembranePlant$State" (40 : Nat) "MembranePlant$State" "brine" "I") ∈ AW := AW_in 131 (by decide +kernel) rfl
theorem q105 : (Jvm.Cond.fieldLink "MembranePlant$Meters" (42 : Nat) "MembranePlant$State" "cost" "I") ∈ AW := AW_in 132 (by decide +kernel) rfl
theorem q106 : (Jvm.Cond.fieldLink "MembranePlant$State" (59 : Nat) "MembranePlant$State" "cost" "I") ∈ AW := AW_in 133 (by decide +kernel) rfl
theorem q107 : (Jvm.Cond.fieldLink "MembranePlant$Planner" (80 : Nat) "MembranePlant$State" "cost" "I") ∈ AW := AW_in 134 (by decide +kernel) rfl
theorem q108 : (Jvm.Cond.fieldLink "MembranePlant$Meters" (37 : Nat) "MembranePlant$State" "spilled" "I") ∈ AW := AW_in 135 (by decide +kernel) rfl
theorem q109 : (Jvm.Cond.fieldLink "MembranePlant$State" (95 : Nat) "MembranePlant$State" "spilled" "I") ∈ AW := AW_in 136 (by decide +kernel) rfl
theorem q110 : (Jvm.Cond.fieldLink "MembranePlant$Meters" (47 : Nat) "MembranePlant$State" "served" "I") ∈ AW := AW_in 137 (by decide +kernel) rfl
theorem q111 : (Jvm.Cond.fieldLink "MembranePlant$State" (98 : Nat) "MembranePlant$State" "served" "I") ∈ AW := AW_in 138 (by decide +kernel) rfl
theorem q112 : (Jvm.Cond.fieldLink "MembranePlant$Meters" (52 : Nat) "MembranePlant$State" "demanded" "I") ∈ AW := AW_in 139 (by decide +kernel) rfl
theorem q113 : (Jvm.Cond.fieldLink "MembranePlant$State" (101 : Nat) "MembranePlant$State" "demanded" "I") ∈ AW := AW_in 140 (by decide +kernel) rfl
theorem q114 : (Jvm.Cond.fieldLink "MembranePlant$State" (108 : Nat) "MembranePlant$State" "lacking" "I") ∈ AW := AW_in 141 (by decide +kernel) rfl
theorem q115 : (Jvm.Cond.fieldLink "MembranePlant$Planner" (87 : Nat) "MembranePlant$State" "lacking" "I") ∈ AW := AW_in 142 (by decide +kernel) rfl
theorem q143 : (Jvm.Cond.classLink "MembranePlant" (23 : Nat) "MembranePlant$Orders") ∈ AW := AW_in 170 (by decide +kernel) rfl
theorem q144 : (Jvm.Cond.instantiable "MembranePlant$Orders" (3 : Nat)) ∈ AW := AW_in 171 (by decide +kernel) rfl
theorem q146 : (Jvm.Cond.instanceMethod ({ cls := "MembranePlant$Orders", name := "<init>", desc := "()V" } : Jvm.MethodName)) ∈ AW := AW_in 173 (by decide +kernel) rfl
theorem q147 : (Jvm.Cond.code ({ cls := "MembranePlant$Orders", name := "<init>", desc := "()V" } : Jvm.MethodName) prog_3_method_1_code (1 : Nat) (Option.none : Option Jvm.ClassFile.FieldType)) ∈ AW := AW_in 174 (by decide +kernel) rfl
theorem q148 : (Jvm.Cond.methodLink "MembranePlant$Orders" (3 : Nat) ({ cls := "java/lang/Object", name := "<init>", desc := "()V" } : Jvm.MethodName)) ∈ AW := AW_in 175 (by decide +kernel) rfl
theorem q149 : (Jvm.Cond.fieldLink "MembranePlant$Orders" (9 : Nat) "MembranePlant$Orders" "halfHours" "[I") ∈ AW := AW_in 176 (by decide +kernel) rfl
theorem q150 : (Jvm.Cond.fieldLink "MembranePlant$Orders" (15 : Nat) "MembranePlant$Orders" "tells" "[I") ∈ AW := AW_in 177 (by decide +kernel) rfl
theorem q151 : (Jvm.Cond.fieldLink "MembranePlant$Orders" (22 : Nat) "MembranePlant$Orders" "count" "I") ∈ AW := AW_in 178 (by decide +kernel) rfl
theorem q152 : (Jvm.Cond.fieldLink "MembranePlant" (177 : Nat) "MembranePlant$Orders" "count" "I") ∈ AW := AW_in 179 (by decide +kernel) rfl
theorem q160 : (Jvm.Cond.classLink "MembranePlant" (30 : Nat) "MembranePlant$Planner") ∈ AW := AW_in 187 (by decide +kernel) rfl
theorem q161 : (Jvm.Cond.instantiable "MembranePlant$Planner" (8 : Nat)) ∈ AW := AW_in 188 (by decide +kernel) rfl
theorem q162 : (Jvm.Cond.methodLink "MembranePlant" (32 : Nat) ({ cls := "MembranePlant$Planner", name := "<init>", desc := "(LMembranePlant$Settings;LMembranePlant$Orders;)V" } : Jvm.MethodName)) ∈ AW := AW_in 189 (by decide +kernel) rfl
theorem q163 : (Jvm.Cond.instanceMethod ({ cls := "MembranePlant$Planner", name := "<init>", desc := "(LMembranePlant$Settings;LMembranePlant$Orders;)V" } : Jvm.MethodName)) ∈ AW := AW_in 190 (by decide +kernel) rfl
theorem q164 : (Jvm.Cond.code ({ cls := "MembranePlant$Planner", name := "<init>", desc := "(LMembranePlant$Settings;LMembranePlant$Orders;)V" } : Jvm.MethodName) prog_4_method_1_code (4 : Nat) (Option.none : Option Jvm.ClassFile.FieldType)) ∈ AW := AW_in 191 (by decide +kernel) rfl
theorem q165 : (Jvm.Cond.methodLink "MembranePlant$Planner" (3 : Nat) ({ cls := "java/lang/Object", name := "<init>", desc := "()V" } : Jvm.MethodName)) ∈ AW := AW_in 192 (by decide +kernel) rfl
theorem q166 : (Jvm.Cond.classLink "MembranePlant$Planner" (9 : Nat) "MembranePlant$State") ∈ AW := AW_in 193 (by decide +kernel) rfl
theorem q169 : (Jvm.Cond.fieldLink "MembranePlant$Planner" (24 : Nat) "MembranePlant$Planner" "settings" "LMembranePlant$Settings;") ∈ AW := AW_in 196 (by decide +kernel) rfl
theorem q170 : (Jvm.Cond.fieldLink "MembranePlant$Planner" (28 : Nat) "MembranePlant$Planner" "orders" "LMembranePlant$Orders;") ∈ AW := AW_in 197 (by decide +kernel) rfl
theorem q171 : (Jvm.Cond.fieldLink "MembranePlant$Planner" (11 : Nat) "MembranePlant$Planner" "rows" "[LMembranePlant$State;") ∈ AW := AW_in 198 (by decide +kernel) rfl
theorem q172 : (Jvm.Cond.fieldLink "MembranePlant$Planner" (17 : Nat) "MembranePlant$Planner" "told" "[I") ∈ AW := AW_in 199 (by decide +kernel) rfl
theorem q173 : (Jvm.Cond.fieldLink "MembranePlant$Planner" (21 : Nat) "MembranePlant$Planner" "slots" "[I") ∈ AW := AW_in 200 (by decide +kernel) rfl
theorem q174 : (Jvm.Cond.fieldLink "MembranePlant$Planner" (43 : Nat) "MembranePlant$Planner" "length" "I") ∈ AW := AW_in 201 (by decide +kernel) rfl
theorem q175 : (Jvm.Cond.fieldLink "MembranePlant$Planner" (59 : Nat) "MembranePlant$Planner" "best" "I") ∈ AW := AW_in 202 (by decide +kernel) rfl
theorem q176 : (Jvm.Cond.fieldLink "MembranePlant" (166 : Nat) "MembranePlant$Planner" "best" "I") ∈ AW := AW_in 203 (by decide +kernel) rfl
theorem q177 : (Jvm.Cond.fieldLink "MembranePlant$Planner" (63 : Nat) "MembranePlant$Planner" "leastCost" "I") ∈ AW := AW_in 204 (by decide +kernel) rfl
theorem q178 : (Jvm.Cond.fieldLink "MembranePlant" (162 : Nat) "MembranePlant$Planner" "leastCost" "I") ∈ AW := AW_in 205 (by decide +kernel) rfl
theorem q196 : (Jvm.Cond.classLink "MembranePlant" (39 : Nat) "MembranePlant$Meters") ∈ AW := AW_in 223 (by decide +kernel) rfl
theorem q197 : (Jvm.Cond.instantiable "MembranePlant$Meters" (9 : Nat)) ∈ AW := AW_in 224 (by decide +kernel) rfl
theorem q199 : (Jvm.Cond.instanceMethod ({ cls := "MembranePlant$Meters", name := "<init>", desc := "()V" } : Jvm.MethodName)) ∈ AW := AW_in 226 (by decide +kernel) rfl
theorem q200 : (Jvm.Cond.code ({ cls := "MembranePlant$Meters", name := "<init>", desc := "()V" } : Jvm.MethodName) prog_2_method_1_code (1 : Nat) (Option.none : Option Jvm.ClassFile.FieldType)) ∈ AW := AW_in 227 (by decide +kernel) rfl
theorem q201 : (Jvm.Cond.methodLink "MembranePlant$Meters" (3 : Nat) ({ cls := "java/lang/Object", name := "<init>", desc := "()V" } : Jvm.MethodName)) ∈ AW := AW_in 228 (by decide +kernel) rfl
theorem q202 : (Jvm.Cond.fieldLink "MembranePlant$Meters" (9 : Nat) "MembranePlant$Meters" "shorts" "[I") ∈ AW := AW_in 229 (by decide +kernel) rfl
theorem q203 : (Jvm.Cond.fieldLink "MembranePlant" (145 : Nat) "MembranePlant$Meters" "shorts" "[I") ∈ AW := AW_in 230 (by decide +kernel) rfl
theorem q204 : (Jvm.Cond.fieldLink "MembranePlant$Meters" (15 : Nat) "MembranePlant$Meters" "feed" "J") ∈ AW := AW_in 231 (by decide +kernel) rfl
theorem q205 : (Jvm.Cond.fieldLink "MembranePlant" (212 : Nat) "MembranePlant$Meters" "feed" "J") ∈ AW := AW_in 232 (by decide +kernel) rfl
theorem q206 : (Jvm.Cond.fieldLink "MembranePlant$Meters" (24 : Nat) "MembranePlant$Meters" "product" "J") ∈ AW := AW_in 233 (by decide +kernel) rfl
theorem q207 : (Jvm.Cond.fieldLink "MembranePlant" (215 : Nat) "MembranePlant$Meters" "product" "J") ∈ AW := AW_in 234 (by decide +kernel) rfl
theorem q208 : (Jvm.Cond.fieldLink "MembranePlant$Meters" (29 : Nat) "MembranePlant$Meters" "brine" "J") ∈ AW := AW_in 235 (by decide +kernel) rfl
theorem q209 : (Jvm.Cond.fieldLink "MembranePlant" (217 : Nat) "MembranePlant$Meters" "brine" "J") ∈ AW := AW_in 236 (by decide +kernel) rfl
theorem q210 : (Jvm.Cond.fieldLink "MembranePlant$Meters" (34 : Nat) "MembranePlant$Meters" "spilled" "J") ∈ AW := AW_in 237 (by decide +kernel) rfl
theorem q211 : (Jvm.Cond.fieldLink "MembranePlant" (220 : Nat) "MembranePlant$Meters" "spilled" "J") ∈ AW := AW_in 238 (by decide +kernel) rfl
theorem q212 : (Jvm.Cond.fieldLink "MembranePlant$Meters" (39 : Nat) "MembranePlant$Meters" "cost" "J") ∈ AW := AW_in 239 (by decide +kernel) rfl
theorem q213 : (Jvm.Cond.fieldLink "MembranePlant" (226 : Nat) "MembranePlant$Meters" "cost" "J") ∈ AW := AW_in 240 (by decide +kernel) rfl
theorem q214 : (Jvm.Cond.fieldLink "MembranePlant$Meters" (44 : Nat) "MembranePlant$Meters" "served" "J") ∈ AW := AW_in 241 (by decide +kernel) rfl
theorem q215 : (Jvm.Cond.fieldLink "MembranePlant" (223 : Nat) "MembranePlant$Meters" "served" "J") ∈ AW := AW_in 242 (by decide +kernel) rfl
theorem q216 : (Jvm.Cond.fieldLink "MembranePlant$Meters" (49 : Nat) "MembranePlant$Meters" "demanded" "J") ∈ AW := AW_in 243 (by decide +kernel) rfl
theorem q217 : (Jvm.Cond.fieldLink "MembranePlant" (233 : Nat) "MembranePlant$Meters" "demanded" "J") ∈ AW := AW_in 244 (by decide +kernel) rfl
theorem q218 : (Jvm.Cond.fieldLink "MembranePlant" (98 : Nat) "MembranePlant$Meters" "cleaned" "J") ∈ AW := AW_in 245 (by decide +kernel) rfl
theorem q238 : (Jvm.Cond.fieldLink "MembranePlant" (10 : Nat) "MembranePlant" "settings" "LMembranePlant$Settings;") ∈ AW := AW_in 265 (by decide +kernel) rfl
theorem q239 : (Jvm.Cond.fieldLink "MembranePlant" (19 : Nat) "MembranePlant" "state" "LMembranePlant$State;") ∈ AW := AW_in 266 (by decide +kernel) rfl
theorem q240 : (Jvm.Cond.fieldLink "MembranePlant" (26 : Nat) "MembranePlant" "orders" "LMembranePlant$Orders;") ∈ AW := AW_in 267 (by decide +kernel) rfl
theorem q241 : (Jvm.Cond.fieldLink "MembranePlant" (35 : Nat) "MembranePlant" "planner" "LMembranePlant$Planner;") ∈ AW := AW_in 268 (by decide +kernel) rfl
theorem q242 : (Jvm.Cond.fieldLink "MembranePlant" (42 : Nat) "MembranePlant" "meters" "LMembranePlant$Meters;") ∈ AW := AW_in 269 (by decide +kernel) rfl
theorem q243 : (Jvm.Cond.fieldLink "MembranePlant" (46 : Nat) "MembranePlant" "horizon" "I") ∈ AW := AW_in 270 (by decide +kernel) rfl
theorem q244 : (Jvm.Cond.fieldLink "MembranePlant" (50 : Nat) "MembranePlant" "present" "I") ∈ AW := AW_in 271 (by decide +kernel) rfl
theorem q260 : (Jvm.Cond.methodLink "MembranePlantLaw" (150 : Nat) ({ cls := "MembranePlant", name := "readyTrains", desc := "()I" } : Jvm.MethodName)) ∈ AW := AW_in 287 (by decide +kernel) rfl
theorem q261 : (Jvm.Cond.instanceMethod ({ cls := "MembranePlant", name := "readyTrains", desc := "()I" } : Jvm.MethodName)) ∈ AW := AW_in 288 (by decide +kernel) rfl
theorem q262 : (Jvm.Cond.selects "MembranePlant" ({ cls := "MembranePlant", name := "readyTrains", desc := "()I" } : Jvm.MethodName) ({ cls := "MembranePlant", name := "readyTrains", desc := "()I" } : Jvm.MethodName)) ∈ AW := AW_in 289 (by decide +kernel) rfl
theorem q263 : (Jvm.Cond.code ({ cls := "MembranePlant", name := "readyTrains", desc := "()I" } : Jvm.MethodName) prog_1_method_12_code (3 : Nat) (Option.some Jvm.ClassFile.FieldType.int)) ∈ AW := AW_in 290 (by decide +kernel) rfl
theorem q264 : (Jvm.Cond.methodLink "MembranePlantLaw" (174 : Nat) ({ cls := "MembranePlant", name := "pass", desc := "(Z)I" } : Jvm.MethodName)) ∈ AW := AW_in 291 (by decide +kernel) rfl
theorem q265 : (Jvm.Cond.instanceMethod ({ cls := "MembranePlant", name := "pass", desc := "(Z)I" } : Jvm.MethodName)) ∈ AW := AW_in 292 (by decide +kernel) rfl
theorem q266 : (Jvm.Cond.selects "MembranePlant" ({ cls := "MembranePlant", name := "pass", desc := "(Z)I" } : Jvm.MethodName) ({ cls := "MembranePlant", name := "pass", desc := "(Z)I" } : Jvm.MethodName)) ∈ AW := AW_in 293 (by decide +kernel) rfl
theorem q267 : (Jvm.Cond.code ({ cls := "MembranePlant", name := "pass", desc := "(Z)I" } : Jvm.MethodName) prog_1_method_19_code (2 : Nat) (Option.some Jvm.ClassFile.FieldType.int)) ∈ AW := AW_in 294 (by decide +kernel) rfl
theorem q268 : (Jvm.Cond.methodLink "MembranePlant" (148 : Nat) ({ cls := "MembranePlant", name := "passPresent", desc := "(Z)V" } : Jvm.MethodName)) ∈ AW := AW_in 295 (by decide +kernel) rfl
theorem q270 : (Jvm.Cond.instanceMethod ({ cls := "MembranePlant", name := "passPresent", desc := "(Z)V" } : Jvm.MethodName)) ∈ AW := AW_in 297 (by decide +kernel) rfl
theorem q271 : (Jvm.Cond.code ({ cls := "MembranePlant", name := "passPresent", desc := "(Z)V" } : Jvm.MethodName) prog_1_method_46_code (2 : Nat) (Option.none : Option Jvm.ClassFile.FieldType)) ∈ AW := AW_in 298 (by decide +kernel) rfl
theorem q272 : (Jvm.Cond.methodLink "MembranePlant" (256 : Nat) ({ cls := "MembranePlant", name := "slotOf", desc := "(I)I" } : Jvm.MethodName)) ∈ AW := AW_in 299 (by decide +kernel) rfl
theorem q273 : (Jvm.Cond.static ({ cls := "MembranePlant", name := "slotOf", desc := "(I)I" } : Jvm.MethodName)) ∈ AW := AW_in 300 (by decide +kernel) rfl
theorem q274 : (Jvm.Cond.code ({ cls := "MembranePlant", name := "slotOf", desc := "(I)I" } : Jvm.MethodName) prog_1_method_45_code (1 : Nat) (Option.some Jvm.ClassFile.FieldType.int)) ∈ AW := AW_in 301 (by decide +kernel) rfl
theorem q275 : (Jvm.Cond.methodLink "MembranePlant" (253 : Nat) ({ cls := "java/lang/Math", name := "floorMod", desc := "(II)I" } : Jvm.MethodName)) ∈ AW := AW_in 302 (by decide +kernel) rfl
theorem q276 : (Jvm.Cond.static ({ cls := "java/lang/Math", name := "floorMod", desc := "(II)I" } : Jvm.MethodName)) ∈ AW := AW_in 303 (by decide +kernel) rfl
theorem q277 : (Jvm.Cond.code ({ cls := "java/lang/Math", name := "floorMod", desc := "(II)I" } : Jvm.MethodName) prog_16_method_50_code (3 : Nat) (Option.some Jvm.ClassFile.FieldType.int)) ∈ AW := AW_in 304 (by decide +kernel) rfl
theorem q278 : (Jvm.Cond.methodLink "MembranePlant" (259 : Nat) ({ cls := "MembranePlant$State", name := "letPass", desc := "(LMembranePlant$Settings;IZ)V" } : Jvm.MethodName)) ∈ AW := AW_in 305 (by decide +kernel) rfl
theorem q279 : (Jvm.Cond.instanceMethod ({ cls := "MembranePlant$State", name := "letPass", desc := "(LMembranePlant$Settings;IZ)V" } : Jvm.MethodName)) ∈ AW := AW_in 306 (by decide +kernel) rfl
theorem q280 : (Jvm.Cond.selects "MembranePlant$State" ({ cls := "MembranePlant$State", name := "letPass", desc := "(LMembranePlant$Settings;IZ)V" } : Jvm.MethodName) ({ cls := "MembranePlant$State", name := "letPass", desc := "(LMembranePlant$Settings;IZ)V" } : Jvm.MethodName)) ∈ AW := AW_in 307 (by decide +kernel) rfl
theorem q281 : (Jvm.Cond.code ({ cls := "MembranePlant$State", name := "letPass", desc := "(LMembranePlant$Settings;IZ)V" } : Jvm.MethodName) prog_6_method_3_code (6 : Nat) (Option.none : Option Jvm.ClassFile.FieldType)) ∈ AW := AW_in 308 (by decide +kernel) rfl
theorem q282 : (Jvm.Cond.methodLink "MembranePlant$State" (48 : Nat) ({ cls := "MembranePlant$State", name := "goOnCleaning", desc := "(I)V" } : Jvm.MethodName)) ∈ AW := AW_in 309 (by decide +kernel) rfl
theorem q284 : (Jvm.Cond.instanceMethod ({ cls := "MembranePlant$State", name := "goOnCleaning", desc := "(I)V" } : Jvm.MethodName)) ∈ AW := AW_in 311 (by decide +kernel) rfl
theorem q285 : (Jvm.Cond.code ({ cls := "MembranePlant$State", name := "goOnCleaning", desc := "(I)V" } : Jvm.MethodName) prog_6_method_4_code (2 : Nat) (Option.none : Option Jvm.ClassFile.FieldType)) ∈ AW := AW_in 312 (by decide +kernel) rfl
theorem q286 : (Jvm.Cond.methodLink "MembranePlant$State" (70 : Nat) ({ cls := "java/lang/Math", name := "min", desc := "(II)I" } : Jvm.MethodName)) ∈ AW := AW_in 313 (by decide +kernel) rfl
theorem q287 : (Jvm.Cond.static ({ cls := "java/lang/Math", name := "min", desc := "(II)I" } : Jvm.MethodName)) ∈ AW := AW_in 314 (by decide +kernel) rfl
theorem q288 : (Jvm.Cond.code ({ cls := "java/lang/Math", name := "min", desc := "(II)I" } : Jvm.MethodName) prog_16_method_69_code (2 : Nat) (Option.some Jvm.ClassFile.FieldType.int)) ∈ AW := AW_in 315 (by decide +kernel) rfl
theorem q289 : (Jvm.Cond.methodLink "MembranePlant$State" (52 : Nat) ({ cls := "MembranePlant$State", name := "runTrain", desc := "(LMembranePlant$Settings;I)I" } : Jvm.MethodName)) ∈ AW := AW_in 316 (by decide +kernel) rfl
theorem q291 : (Jvm.Cond.instanceMethod ({ cls := "MembranePlant$State", name := "runTrain", desc := "(LMembranePlant$Settings;I)I" } : Jvm.MethodName)) ∈ AW := AW_in 318 (by decide +kernel) rfl
theorem q292 : (Jvm.Cond.code ({ cls := "MembranePlant$State", name := "runTrain", desc := "(LMembranePlant$Settings;I)I" } : Jvm.MethodName) prog_6_method_5_code (5 : Nat) (Option.some Jvm.ClassFile.FieldType.int)) ∈ AW := AW_in 319 (by decide +kernel) rfl
theorem q293 : (Jvm.Cond.methodLink "MembranePlant$State" (76 : Nat) ({ cls := "MembranePlant$Settings", name := "productAt", desc := "(II)I" } : Jvm.MethodName)) ∈ AW := AW_in 320 (by decide +kernel) rfl
theorem q294 : (Jvm.Cond.instanceMethod ({ cls := "MembranePlant$Settings", name := "productAt", desc := "(II)I" } : Jvm.MethodName)) ∈ AW := AW_in 321 (by decide +kernel) rfl
theorem q295 : (Jvm.Cond.selects "MembranePlant$Settings" ({ cls := "MembranePlant$Settings", name := "productAt", desc := "(II)I" } : Jvm.MethodName) ({ cls := "MembranePlant$Settings", name := "productAt", desc := "(II)I" } : Jvm.MethodName)) ∈ AW := AW_in 322 (by decide +kernel) rfl
theorem q296 : (Jvm.Cond.code ({ cls := "MembranePlant$Settings", name := "productAt", desc := "(II)I" } : Jvm.MethodName) prog_5_method_2_code (3 : Nat) (Option.some Jvm.ClassFile.FieldType.int)) ∈ AW := AW_in 323 (by decide +kernel) rfl
theorem q297 : (Jvm.Cond.methodLink "MembranePlant$State" (79 : Nat) ({ cls := "MembranePlant$Settings", name := "feedFor", desc := "(I)I" } : Jvm.MethodName)) ∈ AW := AW_in 324 (by decide +kernel) rfl
theorem q298 : (Jvm.Cond.instanceMethod ({ cls := "MembranePlant$Settings", name := "feedFor", desc := "(I)I" } : Jvm.MethodName)) ∈ AW := AW_in 325 (by decide +kernel) rfl
theorem q299 : (Jvm.Cond.selects "MembranePlant$Settings" ({ cls := "MembranePlant$Settings", name := "feedFor", desc := "(I)I" } : Jvm.MethodName) ({ cls := "MembranePlant$Settings", name := "feedFor", desc := "(I)I" } : Jvm.MethodName)) ∈ AW := AW_in 326 (by decide +kernel) rfl
theorem q300 : (Jvm.Cond.code ({ cls := "MembranePlant$Settings", name := "feedFor", desc := "(I)I" } : Jvm.MethodName) prog_5_method_3_code (2 : Nat) (Option.some Jvm.ClassFile.FieldType.int)) ∈ AW := AW_in 327 (by decide +kernel) rfl
theorem q301 : (Jvm.Cond.methodLink "MembranePlant$State" (83 : Nat) ({ cls := "MembranePlant$Settings", name := "foulingStep", desc := "(I)I" } : Jvm.MethodName)) ∈ AW := AW_in 328 (by decide +kernel) rfl
theorem q302 : (Jvm.Cond.instanceMethod ({ cls := "MembranePlant$Settings", name := "foulingStep", desc := "(I)I" } : Jvm.MethodName)) ∈ AW := AW_in 329 (by decide +kernel) rfl
theorem q303 : (Jvm.Cond.selects "MembranePlant$Settings" ({ cls := "MembranePlant$Settings", name := "foulingStep", desc := "(I)I" } : Jvm.MethodName) ({ cls := "MembranePlant$Settings", name := "foulingStep", desc := "(I)I" } : Jvm.MethodName)) ∈ AW := AW_in 330 (by decide +kernel) rfl
theorem q304 : (Jvm.Cond.code ({ cls := "MembranePlant$Settings", name := "foulingStep", desc := "(I)I" } : Jvm.MethodName) prog_5_method_5_code (2 : Nat) (Option.some Jvm.ClassFile.FieldType.int)) ∈ AW := AW_in 331 (by decide +kernel) rfl
theorem q305 : (Jvm.Cond.methodLink "MembranePlant$State" (86 : Nat) ({ cls := "MembranePlant$Settings", name := "energyFor", desc := "(II)I" } : Jvm.MethodName)) ∈ AW := AW_in 332 (by decide +kernel) rfl
theorem q306 : (Jvm.Cond.instanceMethod ({ cls := "MembranePlant$Settings", name := "energyFor", desc := "(II)I" } : Jvm.MethodName)) ∈ AW := AW_in 333 (by decide +kernel) rfl
theorem q307 : (Jvm.Cond.selects "MembranePlant$Settings" ({ cls := "MembranePlant$Settings", name := "energyFor", desc := "(II)I" } : Jvm.MethodName) ({ cls := "MembranePlant$Settings", name := "energyFor", desc := "(II)I" } : Jvm.MethodName)) ∈ AW := AW_in 334 (by decide +kernel) rfl
theorem q308 : (Jvm.Cond.code ({ cls := "MembranePlant$Settings", name := "energyFor", desc := "(II)I" } : Jvm.MethodName) prog_5_method_4_code (3 : Nat) (Option.some Jvm.ClassFile.FieldType.int)) ∈ AW := AW_in 335 (by decide +kernel) rfl
theorem q309 : (Jvm.Cond.methodLink "MembranePlant$State" (62 : Nat) ({ cls := "MembranePlant$State", name := "pour", desc := "(LMembranePlant$Settings;)V" } : Jvm.MethodName)) ∈ AW := AW_in 336 (by decide +kernel) rfl
theorem q311 : (Jvm.Cond.instanceMethod ({ cls := "MembranePlant$State", name := "pour", desc := "(LMembranePlant$Settings;)V" } : Jvm.MethodName)) ∈ AW := AW_in 338 (by decide +kernel) rfl
theorem q312 : (Jvm.Cond.code ({ cls := "MembranePlant$State", name := "pour", desc := "(LMembranePlant$Settings;)V" } : Jvm.MethodName) prog_6_method_6_code (5 : Nat) (Option.none : Option Jvm.ClassFile.FieldType)) ∈ AW := AW_in 339 (by decide +kernel) rfl
theorem q313 : (Jvm.Cond.methodLink "MembranePlant$State" (66 : Nat) ({ cls := "MembranePlant$State", name := "serve", desc := "(LMembranePlant$Settings;I)V" } : Jvm.MethodName)) ∈ AW := AW_in 340 (by decide +kernel) rfl
theorem q315 : (Jvm.Cond.instanceMethod ({ cls := "MembranePlant$State", name := "serve", desc := "(LMembranePlant$Settings;I)V" } : Jvm.MethodName)) ∈ AW := AW_in 342 (by decide +kernel) rfl
theorem q316 : (Jvm.Cond.code ({ cls := "MembranePlant$State", name := "serve", desc := "(LMembranePlant$Settings;I)V" } : Jvm.MethodName) prog_6_method_7_code (6 : Nat) (Option.none : Option Jvm.ClassFile.FieldType)) ∈ AW := AW_in 343 (by decide +kernel) rfl
theorem q317 : (Jvm.Cond.methodLink "MembranePlant" (263 : Nat) ({ cls := "MembranePlant$Meters", name := "add", desc := "(LMembranePlant$State;)V" } : Jvm.MethodName)) ∈ AW := AW_in 344 (by decide +kernel) rfl
theorem q318 : (Jvm.Cond.instanceMethod ({ cls := "MembranePlant$Meters", name := "add", desc := "(LMembranePlant$State;)V" } : Jvm.MethodName)) ∈ AW := AW_in 345 (by decide +kernel) rfl
theorem q319 : (Jvm.Cond.selects "MembranePlant$Meters" ({ cls := "MembranePlant$Meters", name := "add", desc := "(LMembranePlant$State;)V" } : Jvm.MethodName) ({ cls := "MembranePlant$Meters", name := "add", desc := "(LMembranePlant$State;)V" } : Jvm.MethodName)) ∈ AW := AW_in 346 (by decide +kernel) rfl
theorem q320 : (Jvm.Cond.code ({ cls := "MembranePlant$Meters", name := "add", desc := "(LMembranePlant$State;)V" } : Jvm.MethodName) prog_2_method_2_code (3 : Nat) (Option.none : Option Jvm.ClassFile.FieldType)) ∈ AW := AW_in 347 (by decide +kernel) rfl
theorem q321 : (Jvm.Cond.methodLink "MembranePlant" (190 : Nat) ({ cls := "MembranePlant$Orders", name := "forget", desc := "(I)V" } : Jvm.MethodName)) ∈ AW := AW_in 348 (by decide +kernel) rfl
theorem q322 : (Jvm.Cond.instanceMethod ({ cls := "MembranePlant$Orders", name := "forget", desc := "(I)V" } : Jvm.MethodName)) ∈ AW := AW_in 349 (by decide +kernel) rfl
theorem q323 : (Jvm.Cond.selects "MembranePlant$Orders" ({ cls := "MembranePlant$Orders", name := "forget", desc := "(I)V" } : Jvm.MethodName) ({ cls := "MembranePlant$Orders", name := "forget", desc := "(I)V" } : Jvm.MethodName)) ∈ AW := AW_in 350 (by decide +kernel) rfl
theorem q324 : (Jvm.Cond.code ({ cls := "MembranePlant$Orders", name := "forget", desc := "(I)V" } : Jvm.MethodName) prog_3_method_4_code (3 : Nat) (Option.none : Option Jvm.ClassFile.FieldType)) ∈ AW := AW_in 351 (by decide +kernel) rfl
theorem q325 : (Jvm.Cond.methodLink "MembranePlant$Orders" (18 : Nat) ({ cls := "MembranePlant$Orders", name := "find", desc := "(I)I" } : Jvm.MethodName)) ∈ AW := AW_in 352 (by decide +kernel) rfl
theorem q327 : (Jvm.Cond.instanceMethod ({ cls := "MembranePlant$Orders", name := "find", desc := "(I)I" } : Jvm.MethodName)) ∈ AW := AW_in 354 (by decide +kernel) rfl
theorem q328 : (Jvm.Cond.code ({ cls := "MembranePlant$Orders", name := "find", desc := "(I)I" } : Jvm.MethodName) prog_3_method_5_code (3 : Nat) (Option.some Jvm.ClassFile.FieldType.int)) ∈ AW := AW_in 355 (by decide +kernel) rfl
theorem q329 : (Jvm.Cond.methodLink "MembranePlantLaw" (192 : Nat) ({ cls := "MembranePlant", name := "halfHour", desc := "()I" } : Jvm.MethodName)) ∈ AW := AW_in 356 (by decide +kernel) rfl
theorem q330 : (Jvm.Cond.instanceMethod ({ cls := "MembranePlant", name := "halfHour", desc := "()I" } : Jvm.MethodName)) ∈ AW := AW_in 357 (by decide +kernel) rfl
theorem q331 : (Jvm.Cond.selects "MembranePlant" ({ cls := "MembranePlant", name := "halfHour", desc := "()I" } : Jvm.MethodName) ({ cls := "MembranePlant", name := "halfHour", desc := "()I" } : Jvm.MethodName)) ∈ AW := AW_in 358 (by decide +kernel) rfl
theorem q332 : (Jvm.Cond.code ({ cls := "MembranePlant", name := "halfHour", desc := "()I" } : Jvm.MethodName) prog_1_method_24_code (1 : Nat) (Option.some Jvm.ClassFile.FieldType.int)) ∈ AW := AW_in 359 (by decide +kernel) rfl
theorem q333 : (Jvm.Cond.methodLink "MembranePlantLaw" (208 : Nat) ({ cls := "MembranePlant", name := "feed", desc := "()J" } : Jvm.MethodName)) ∈ AW := AW_in 360 (by decide +kernel) rfl
theorem q334 : (Jvm.Cond.instanceMethod ({ cls := "MembranePlant", name := "feed", desc := "()J" } : Jvm.MethodName)) ∈ AW := AW_in 361 (by decide +kernel) rfl
theorem q335 : (Jvm.Cond.selects "MembranePlant" ({ cls := "MembranePlant", name := "feed", desc := "()J" } : Jvm.MethodName) ({ cls := "MembranePlant", name := "feed", desc := "()J" } : Jvm.MethodName)) ∈ AW := AW_in 362 (by decide +kernel) rfl
theorem q336 : (Jvm.Cond.code ({ cls := "MembranePlant", name := "feed", desc := "()J" } : Jvm.MethodName) prog_1_method_29_code (1 : Nat) (Option.some Jvm.ClassFile.FieldType.long)) ∈ AW := AW_in 363 (by decide +kernel) rfl
theorem q337 : (Jvm.Cond.methodLink "MembranePlantLaw" (213 : Nat) ({ cls := "MembranePlant", name := "product", desc := "()J" } : Jvm.MethodName)) ∈ AW := AW_in 364 (by decide +kernel) rfl
theorem q338 : (Jvm.Cond.instanceMethod ({ cls := "MembranePlant", name := "product", desc := "()J" } : Jvm.MethodName)) ∈ AW := AW_in 365 (by decide +kernel) rfl
theorem q339 : (Jvm.Cond.selects "MembranePlant" ({ cls := "MembranePlant", name := "product", desc := "()J" } : Jvm.MethodName) ({ cls := "MembranePlant", name := "product", desc := "()J" } : Jvm.MethodName)) ∈ AW := AW_in 366 (by decide +kernel) rfl
theorem q340 : (Jvm.Cond.code ({ cls := "MembranePlant", name := "product", desc := "()J" } : Jvm.MethodName) prog_1_method_30_code (1 : Nat) (Option.some Jvm.ClassFile.FieldType.long)) ∈ AW := AW_in 367 (by decide +kernel) rfl
theorem q341 : (Jvm.Cond.methodLink "MembranePlantLaw" (217 : Nat) ({ cls := "MembranePlant", name := "brine", desc := "()J" } : Jvm.MethodName)) ∈ AW := AW_in 368 (by decide +kernel) rfl
theorem q342 : (Jvm.Cond.instanceMethod ({ cls := "MembranePlant", name := "brine", desc := "()J" } : Jvm.MethodName)) ∈ AW := AW_in 369 (by decide +kernel) rfl
theorem q343 : (Jvm.Cond.selects "MembranePlant" ({ cls := "MembranePlant", name := "brine", desc := "()J" } : Jvm.MethodName) ({ cls := "MembranePlant", name := "brine", desc := "()J" } : Jvm.MethodName)) ∈ AW := AW_in 370 (by decide +kernel) rfl
theorem q344 : (Jvm.Cond.code ({ cls := "MembranePlant", name := "brine", desc := "()J" } : Jvm.MethodName) prog_1_method_31_code (1 : Nat) (Option.some Jvm.ClassFile.FieldType.long)) ∈ AW := AW_in 371 (by decide +kernel) rfl
theorem q345 : (Jvm.Cond.methodLink "MembranePlantLaw" (221 : Nat) ({ cls := "MembranePlant", name := "spilled", desc := "()J" } : Jvm.MethodName)) ∈ AW := AW_in 372 (by decide +kernel) rfl
theorem q346 : (Jvm.Cond.instanceMethod ({ cls := "MembranePlant", name := "spilled", desc := "()J" } : Jvm.MethodName)) ∈ AW := AW_in 373 (by decide +kernel) rfl
theorem q347 : (Jvm.Cond.selects "MembranePlant" ({ cls := "MembranePlant", name := "spilled", desc := "()J" } : Jvm.MethodName) ({ cls := "MembranePlant", name := "spilled", desc := "()J" } : Jvm.MethodName)) ∈ AW := AW_in 374 (by decide +kernel) rfl
theorem q348 : (Jvm.Cond.code ({ cls := "MembranePlant", name := "spilled", desc := "()J" } : Jvm.MethodName) prog_1_method_32_code (1 : Nat) (Option.some Jvm.ClassFile.FieldType.long)) ∈ AW := AW_in 375 (by decide +kernel) rfl
theorem q349 : (Jvm.Cond.methodLink "MembranePlantLaw" (225 : Nat) ({ cls := "MembranePlant", name := "spilledByBalance", desc := "()J" } : Jvm.MethodName)) ∈ AW := AW_in 376 (by decide +kernel) rfl
theorem q350 : (Jvm.Cond.instanceMethod ({ cls := "MembranePlant", name := "spilledByBalance", desc := "()J" } : Jvm.MethodName)) ∈ AW := AW_in 377 (by decide +kernel) rfl
theorem q351 : (Jvm.Cond.selects "MembranePlant" ({ cls := "MembranePlant", name := "spilledByBalance", desc := "()J" } : Jvm.MethodName) ({ cls := "MembranePlant", name := "spilledByBalance", desc := "()J" } : Jvm.MethodName)) ∈ AW := AW_in 378 (by decide +kernel) rfl
theorem q352 : (Jvm.Cond.code ({ cls := "MembranePlant", name := "spilledByBalance", desc := "()J" } : Jvm.MethodName) prog_1_method_33_code (4 : Nat) (Option.some Jvm.ClassFile.FieldType.long)) ∈ AW := AW_in 379 (by decide +kernel) rfl
theorem q353 : (Jvm.Cond.methodLink "MembranePlantLaw" (229 : Nat) ({ cls := "MembranePlant", name := "cost", desc := "()J" } : Jvm.MethodName)) ∈ AW := AW_in 380 (by decide +kernel) rfl
theorem q354 : (Jvm.Cond.instanceMethod ({ cls := "MembranePlant", name := "cost", desc := "()J" } : Jvm.MethodName)) ∈ AW := AW_in 381 (by decide +kernel) rfl
theorem q355 : (Jvm.Cond.selects "MembranePlant" ({ cls := "MembranePlant", name := "cost", desc := "()J" } : Jvm.MethodName) ({ cls := "MembranePlant", name := "cost", desc := "()J" } : Jvm.MethodName)) ∈ AW := AW_in 382 (by decide +kernel) rfl
theorem q356 : (Jvm.Cond.code ({ cls := "MembranePlant", name := "cost", desc := "()J" } : Jvm.MethodName) prog_1_method_34_code (1 : Nat) (Option.some Jvm.ClassFile.FieldType.long)) ∈ AW := AW_in 383 (by decide +kernel) rfl
theorem q357 : (Jvm.Cond.methodLink "MembranePlantLaw" (233 : Nat) ({ cls := "MembranePlant", name := "isBalanced", desc := "()Z" } : Jvm.MethodName)) ∈ AW := AW_in 384 (by decide +kernel) rfl
theorem q358 : (Jvm.Cond.instanceMethod ({ cls := "MembranePlant", name := "isBalanced", desc := "()Z" } : Jvm.MethodName)) ∈ AW := AW_in 385 (by decide +kernel) rfl
theorem q359 : (Jvm.Cond.selects "MembranePlant" ({ cls := "MembranePlant", name := "isBalanced", desc := "()Z" } : Jvm.MethodName) ({ cls := "MembranePlant", name := "isBalanced", desc := "()Z" } : Jvm.MethodName)) ∈ AW := AW_in 386 (by decide +kernel) rfl
theorem q360 : (Jvm.Cond.code ({ cls := "MembranePlant", name := "isBalanced", desc := "()Z" } : Jvm.MethodName) prog_1_method_35_code (1 : Nat) (Option.some Jvm.ClassFile.FieldType.boolean)) ∈ AW := AW_in 387 (by decide +kernel) rfl
theorem q361 : (Jvm.Cond.methodLink "MembranePlant" (229 : Nat) ({ cls := "MembranePlant", name := "spilledByBalance", desc := "()J" } : Jvm.MethodName)) ∈ AW := AW_in 388 (by decide +kernel) rfl
theorem q362 : (Jvm.Cond.methodLink "MembranePlantLaw" (112 : Nat) ({ cls := "MembranePlantLaw", name := "addTrain", desc := "(LMembranePlant;I[J)I" } : Jvm.MethodName)) ∈ AW := AW_in 389 (by decide +kernel) rfl
theorem q363 : (Jvm.Cond.static ({ cls := "MembranePlantLaw", name := "addTrain", desc := "(LMembranePlant;I[J)I" } : Jvm.MethodName)) ∈ AW := AW_in 390 (by decide +kernel) rfl
theorem q364 : (Jvm.Cond.codeWith ({ cls := "MembranePlantLaw", name := "addTrain", desc := "(LMembranePlant;I[J)I" } : Jvm.MethodName) method_3_code (4 : Nat) (Option.some Jvm.ClassFile.FieldType.int) [((0 : Nat), (9 : Nat), (12 : Nat), (13 : Nat)), ((0 : Nat), (9 : Nat), (15 : Nat), (15 : Nat))]) ∈ AW := AW_in 391 (by decide +kernel) rfl
theorem q365 : (Jvm.Cond.classLink "MembranePlantLaw" (13 : Nat) "java/lang/IllegalArgumentException") ∈ AW := AW_in 392 (by decide +kernel) rfl
theorem q366 : (Jvm.Cond.classLink "MembranePlantLaw" (15 : Nat) "java/lang/IllegalStateException") ∈ AW := AW_in 393 (by decide +kernel) rfl
theorem q367 : (Jvm.Cond.methodLink "MembranePlantLaw" (7 : Nat) ({ cls := "MembranePlant", name := "addTrain", desc := "(I)I" } : Jvm.MethodName)) ∈ AW := AW_in 394 (by decide +kernel) rfl
theorem q368 : (Jvm.Cond.instanceMethod ({ cls := "MembranePlant", name := "addTrain", desc := "(I)I" } : Jvm.MethodName)) ∈ AW := AW_in 395 (by decide +kernel) rfl
theorem q369 : (Jvm.Cond.selects "MembranePlant" ({ cls := "MembranePlant", name := "addTrain", desc := "(I)I" } : Jvm.MethodName) ({ cls := "MembranePlant", name := "addTrain", desc := "(I)I" } : Jvm.MethodName)) ∈ AW := AW_in 396 (by decide +kernel) rfl
theorem q370 : (Jvm.Cond.code ({ cls := "MembranePlant", name := "addTrain", desc := "(I)I" } : Jvm.MethodName) prog_1_method_2_code (3 : Nat) (Option.some Jvm.ClassFile.FieldType.int)) ∈ AW := AW_in 397 (by decide +kernel) rfl
theorem q371 : (Jvm.Cond.methodLink "MembranePlant" (53 : Nat) ({ cls := "MembranePlant", name := "checkRange", desc := "(III)V" } : Jvm.MethodName)) ∈ AW := AW_in 398 (by decide +kernel) rfl
theorem q372 : (Jvm.Cond.static ({ cls := "MembranePlant", name := "checkRange", desc := "(III)V" } : Jvm.MethodName)) ∈ AW := AW_in 399 (by decide +kernel) rfl
theorem q373 : (Jvm.Cond.code ({ cls := "MembranePlant", name := "checkRange", desc := "(III)V" } : Jvm.MethodName) prog_1_method_38_code (3 : Nat) (Option.none : Option Jvm.ClassFile.FieldType)) ∈ AW := AW_in 400 (by decide +kernel) rfl
theorem q374 : (Jvm.Cond.classLink "MembranePlant" (172 : Nat) "java/lang/IllegalArgumentException") ∈ AW := AW_in 401 (by decide +kernel) rfl
theorem q375 : (Jvm.Cond.instantiable "java/lang/IllegalArgumentException" (6 : Nat)) ∈ AW := AW_in 402 (by decide +kernel) rfl
theorem q383 : (Jvm.Cond.selects "java/lang/IllegalArgumentException" ({ cls := "java/lang/Throwable", name := "fillInStackTrace", desc := "(I)Ljava/lang/Throwable;" } : Jvm.MethodName) ({ cls := "java/lang/Throwable", name := "fillInStackTrace", desc := "(I)Ljava/lang/Throwable;" } : Jvm.MethodName)) ∈ AW := AW_in 410 (by decide +kernel) rfl
theorem q384 : (Jvm.Cond.selects "java/lang/IllegalArgumentException" ({ cls := "java/lang/Throwable", name := "fillInStackTrace", desc := "()Ljava/lang/Throwable;" } : Jvm.MethodName) ({ cls := "java/lang/Throwable", name := "fillInStackTrace", desc := "()Ljava/lang/Throwable;" } : Jvm.MethodName)) ∈ AW := AW_in 411 (by decide +kernel) rfl
theorem q395 : (Jvm.Cond.fieldLink "java/lang/Throwable" (198 : Nat) "java/lang/Throwable" "backtrace" "Ljava/lang/Object;") ∈ AW := AW_in 422 (by decide +kernel) rfl
theorem q397 : (Jvm.Cond.instanceMethod ({ cls := "java/lang/Throwable", name := "<init>", desc := "()V" } : Jvm.MethodName)) ∈ AW := AW_in 424 (by decide +kernel) rfl
theorem q398 : (Jvm.Cond.code ({ cls := "java/lang/Throwable", name := "<init>", desc := "()V" } : Jvm.MethodName) prog_20_method_1_code (1 : Nat) (Option.none : Option Jvm.ClassFile.FieldType)) ∈ AW := AW_in 425 (by decide +kernel) rfl
theorem q399 : (Jvm.Cond.methodLink "java/lang/Throwable" (1 : Nat) ({ cls := "java/lang/Object", name := "<init>", desc := "()V" } : Jvm.MethodName)) ∈ AW := AW_in 426 (by decide +kernel) rfl
theorem q400 : (Jvm.Cond.fieldLink "java/lang/Throwable" (13 : Nat) "java/lang/Throwable" "UNASSIGNED_STACK" "[Ljava/lang/StackTraceElement;") ∈ AW := AW_in 427 (by decide +kernel) rfl
