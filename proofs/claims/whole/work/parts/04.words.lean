/-! by program: good words, the others, texts, rooms -/
/-- the good words, as a name that nothing unfolds -/
theorem kt_Gex : ∃ G : List Cond, G = lw_tbl.filter goodWord := ⟨_, rfl⟩
noncomputable def kt_G : List Cond := Classical.choose kt_Gex
theorem kt_G_eq : kt_G = lw_tbl.filter goodWord := Classical.choose_spec kt_Gex
theorem kt_m (i : Nat) {w : Cond} (h : lw_tbl[i]? = some w) (g : goodWord w = true) : w ∈ kt_G := by rw [kt_G_eq]; exact List.mem_filter.mpr ⟨List.mem_of_getElem? h, g⟩
theorem kt_G_good {w : Cond} (h : w ∈ kt_G) : goodWord w = true := by rw [kt_G_eq] at h; exact (List.mem_filter.mp h).2
theorem kt_G_in {w : Cond} (h : w ∈ kt_G) : w ∈ lw_tbl := by rw [kt_G_eq] at h; exact (List.mem_filter.mp h).1
set_option maxRecDepth 100000 in
theorem mw_1 : Cond.selects "CutShears$LossTable" ⟨"CutShears$LossTable", "add", "(III)I"⟩ ⟨"CutShears$LossTable", "add", "(III)I"⟩ ∈ kt_G := kt_m 1 (by decide +kernel) (by decide +kernel)
set_option maxRecDepth 100000 in
theorem mw_2 : Cond.selects "CutShears$LossTable" ⟨"CutShears$LossTable", "fill", "()V"⟩ ⟨"CutShears$LossTable", "fill", "()V"⟩ ∈ kt_G := kt_m 2 (by decide +kernel) (by decide +kernel)
set_option maxRecDepth 100000 in
theorem mw_3 : Cond.selects "CutShears$LossTable" ⟨"CutShears$LossTable", "tryFirst", "(II)V"⟩ ⟨"CutShears$LossTable", "tryFirst", "(II)V"⟩ ∈ kt_G := kt_m 3 (by decide +kernel) (by decide +kernel)
set_option maxRecDepth 100000 in
theorem mw_4 : Cond.selects "CutShears$BarPlan" ⟨"CutShears$BarPlan", "planRest", "(LCutShears$LossTable;)V"⟩ ⟨"CutShears$BarPlan", "planRest", "(LCutShears$LossTable;)V"⟩ ∈ kt_G := kt_m 4 (by decide +kernel) (by decide +kernel)
set_option maxRecDepth 100000 in
theorem mw_5 : Cond.selects "CutShears$BarPlan" ⟨"CutShears$BarPlan", "startBar", "(II)V"⟩ ⟨"CutShears$BarPlan", "startBar", "(II)V"⟩ ∈ kt_G := kt_m 5 (by decide +kernel) (by decide +kernel)
set_option maxRecDepth 100000 in
theorem mw_6 : Cond.selects "CutShears$BarPlan" ⟨"CutShears$BarPlan", "changeCrops", "(II)V"⟩ ⟨"CutShears$BarPlan", "changeCrops", "(II)V"⟩ ∈ kt_G := kt_m 6 (by decide +kernel) (by decide +kernel)
set_option maxRecDepth 100000 in
theorem mw_7 : Cond.selects "CutShears$BarPlan" ⟨"CutShears$BarPlan", "requireCutsFit", "(I)V"⟩ ⟨"CutShears$BarPlan", "requireCutsFit", "(I)V"⟩ ∈ kt_G := kt_m 7 (by decide +kernel) (by decide +kernel)
set_option maxRecDepth 100000 in
theorem mw_8 : Cond.selects "CutShears$BarPlan" ⟨"CutShears$BarPlan", "learnLength", "(I)V"⟩ ⟨"CutShears$BarPlan", "learnLength", "(I)V"⟩ ∈ kt_G := kt_m 8 (by decide +kernel) (by decide +kernel)
set_option maxRecDepth 100000 in
theorem mw_9 : Cond.selects "CutShears$BarPlan" ⟨"CutShears$BarPlan", "wantedOf", "(I)I"⟩ ⟨"CutShears$BarPlan", "wantedOf", "(I)I"⟩ ∈ kt_G := kt_m 9 (by decide +kernel) (by decide +kernel)
set_option maxRecDepth 100000 in
theorem mw_10 : Cond.selects "CutShears$BarPlan" ⟨"CutShears$BarPlan", "beginOf", "(I)I"⟩ ⟨"CutShears$BarPlan", "beginOf", "(I)I"⟩ ∈ kt_G := kt_m 10 (by decide +kernel) (by decide +kernel)
set_option maxRecDepth 100000 in
theorem mw_11 : Cond.selects "CutShears$BarPlan" ⟨"CutShears$BarPlan", "stepsOf", "(I)I"⟩ ⟨"CutShears$BarPlan", "stepsOf", "(I)I"⟩ ∈ kt_G := kt_m 11 (by decide +kernel) (by decide +kernel)
set_option maxRecDepth 100000 in
theorem mw_12 : Cond.selects "CutShears$CoolingBed" ⟨"CutShears$CoolingBed", "lay", "(II)I"⟩ ⟨"CutShears$CoolingBed", "lay", "(II)I"⟩ ∈ kt_G := kt_m 12 (by decide +kernel) (by decide +kernel)
set_option maxRecDepth 100000 in
theorem mw_13 : Cond.selects "CutShears$CutBook" ⟨"CutShears$CutBook", "enter", "(III)V"⟩ ⟨"CutShears$CutBook", "enter", "(III)V"⟩ ∈ kt_G := kt_m 13 (by decide +kernel) (by decide +kernel)
set_option maxRecDepth 100000 in
theorem mw_14 : Cond.selects "CutShears$BarPlan" ⟨"CutShears$BarPlan", "markNextCut", "()V"⟩ ⟨"CutShears$BarPlan", "markNextCut", "()V"⟩ ∈ kt_G := kt_m 14 (by decide +kernel) (by decide +kernel)
set_option maxRecDepth 100000 in
theorem mw_15 : Cond.selects "CutShears$CoolingBed" ⟨"CutShears$CoolingBed", "cutOn", "(I)I"⟩ ⟨"CutShears$CoolingBed", "cutOn", "(I)I"⟩ ∈ kt_G := kt_m 15 (by decide +kernel) (by decide +kernel)
set_option maxRecDepth 100000 in
theorem mw_16 : Cond.selects "CutShears$CutBook" ⟨"CutShears$CutBook", "countOnBed", "(I)I"⟩ ⟨"CutShears$CutBook", "countOnBed", "(I)I"⟩ ∈ kt_G := kt_m 16 (by decide +kernel) (by decide +kernel)
set_option maxRecDepth 100000 in
theorem mw_17 : Cond.selects "CutShears$CutBook" ⟨"CutShears$CutBook", "isOnBed", "(II)Z"⟩ ⟨"CutShears$CutBook", "isOnBed", "(II)Z"⟩ ∈ kt_G := kt_m 17 (by decide +kernel) (by decide +kernel)
set_option maxRecDepth 100000 in
theorem mw_18 : Cond.selects "CutShears$CutBook" ⟨"CutShears$CutBook", "takeBundle", "(IILCutShears$CoolingBed;)I"⟩ ⟨"CutShears$CutBook", "takeBundle", "(IILCutShears$CoolingBed;)I"⟩ ∈ kt_G := kt_m 18 (by decide +kernel) (by decide +kernel)
set_option maxRecDepth 100000 in
theorem mw_19 : Cond.selects "CutShears$CoolingBed" ⟨"CutShears$CoolingBed", "free", "(I)V"⟩ ⟨"CutShears$CoolingBed", "free", "(I)V"⟩ ∈ kt_G := kt_m 19 (by decide +kernel) (by decide +kernel)
set_option maxRecDepth 100000 in
theorem mw_20 : Cond.selects "CutShears$CutBook" ⟨"CutShears$CutBook", "tell", "(II)I"⟩ ⟨"CutShears$CutBook", "tell", "(II)I"⟩ ∈ kt_G := kt_m 20 (by decide +kernel) (by decide +kernel)
set_option maxRecDepth 100000 in
theorem mw_21 : Cond.selects "CutShears$CutBook" ⟨"CutShears$CutBook", "sumOf", "(I)I"⟩ ⟨"CutShears$CutBook", "sumOf", "(I)I"⟩ ∈ kt_G := kt_m 21 (by decide +kernel) (by decide +kernel)
set_option maxRecDepth 100000 in
theorem mw_22 : Cond.selects "CutShears$CutBook" ⟨"CutShears$CutBook", "sideCut", "(I)I"⟩ ⟨"CutShears$CutBook", "sideCut", "(I)I"⟩ ∈ kt_G := kt_m 22 (by decide +kernel) (by decide +kernel)
set_option maxRecDepth 100000 in
theorem mw_23 : Cond.selects "CutShearsModel" ⟨"CutShearsModel", "goes", "(ZZZ)Z"⟩ ⟨"CutShearsModel", "goes", "(ZZZ)Z"⟩ ∈ kt_G := kt_m 23 (by decide +kernel) (by decide +kernel)
set_option maxRecDepth 100000 in
theorem mw_24 : Cond.selects "CutShearsModel" ⟨"CutShearsModel", "taken", "()I"⟩ ⟨"CutShearsModel", "taken", "()I"⟩ ∈ kt_G := kt_m 24 (by decide +kernel) (by decide +kernel)
set_option maxRecDepth 100000 in
theorem mw_25 : Cond.selects "CutShearsModel" ⟨"CutShearsModel", "plan", "()V"⟩ ⟨"CutShearsModel", "plan", "()V"⟩ ∈ kt_G := kt_m 25 (by decide +kernel) (by decide +kernel)
set_option maxRecDepth 100000 in
theorem mw_26 : Cond.selects "CutShearsModel" ⟨"CutShearsModel", "left", "()I"⟩ ⟨"CutShearsModel", "left", "()I"⟩ ∈ kt_G := kt_m 26 (by decide +kernel) (by decide +kernel)
set_option maxRecDepth 100000 in
theorem mw_27 : Cond.selects "CutShearsModel" ⟨"CutShearsModel", "isBetter", "(IIII)Z"⟩ ⟨"CutShearsModel", "isBetter", "(IIII)Z"⟩ ∈ kt_G := kt_m 27 (by decide +kernel) (by decide +kernel)
set_option maxRecDepth 100000 in
theorem mw_28 : Cond.selects "CutShearsModel" ⟨"CutShearsModel", "finds", "(I)Z"⟩ ⟨"CutShearsModel", "finds", "(I)Z"⟩ ∈ kt_G := kt_m 28 (by decide +kernel) (by decide +kernel)
set_option maxRecDepth 100000 in
theorem mw_29 : Cond.selects "CutShearsModel" ⟨"CutShearsModel", "lying", "(I)I"⟩ ⟨"CutShearsModel", "lying", "(I)I"⟩ ∈ kt_G := kt_m 29 (by decide +kernel) (by decide +kernel)
set_option maxRecDepth 100000 in
theorem mw_30 : Cond.selects "CutShearsModel" ⟨"CutShearsModel", "isWanted", "(I)Z"⟩ ⟨"CutShearsModel", "isWanted", "(I)Z"⟩ ∈ kt_G := kt_m 30 (by decide +kernel) (by decide +kernel)
set_option maxRecDepth 100000 in
theorem mw_32 : Cond.initialized "CutShears" ∈ kt_G := kt_m 32 (by decide +kernel) (by decide +kernel)
set_option maxRecDepth 100000 in
theorem mw_33 : Cond.initialized "CutShears$LossTable" ∈ kt_G := kt_m 33 (by decide +kernel) (by decide +kernel)
set_option maxRecDepth 100000 in
theorem mw_34 : Cond.initialized "CutShears$BarPlan" ∈ kt_G := kt_m 34 (by decide +kernel) (by decide +kernel)
set_option maxRecDepth 100000 in
theorem mw_35 : Cond.initialized "CutShears$CutBook" ∈ kt_G := kt_m 35 (by decide +kernel) (by decide +kernel)
set_option maxRecDepth 100000 in
theorem mw_36 : Cond.initialized "CutShears$CoolingBed" ∈ kt_G := kt_m 36 (by decide +kernel) (by decide +kernel)
set_option maxRecDepth 100000 in
theorem mw_37 : Cond.initialized "CutShearsModel" ∈ kt_G := kt_m 37 (by decide +kernel) (by decide +kernel)
set_option maxRecDepth 100000 in
theorem mw_41 : Cond.initialized "java/lang/IllegalArgumentException" ∈ kt_G := kt_m 41 (by decide +kernel) (by decide +kernel)
set_option maxRecDepth 100000 in
theorem mw_42 : Cond.initialized "java/lang/UnsupportedOperationException" ∈ kt_G := kt_m 42 (by decide +kernel) (by decide +kernel)
set_option maxRecDepth 100000 in
theorem mw_43 : Cond.initialized "java/lang/Math" ∈ kt_G := kt_m 43 (by decide +kernel) (by decide +kernel)
set_option maxRecDepth 100000 in
theorem mw_44 : Cond.initialized "java/lang/IndexOutOfBoundsException" ∈ kt_G := kt_m 44 (by decide +kernel) (by decide +kernel)
set_option maxRecDepth 100000 in
theorem mw_45 : Cond.initialized "java/lang/IllegalStateException" ∈ kt_G := kt_m 45 (by decide +kernel) (by decide +kernel)
set_option maxRecDepth 100000 in
theorem mw_51 : Cond.methodLink "CutShears" 1 ⟨"java/lang/Object", "<init>", "()V"⟩ ∈ kt_G := kt_m 51 (by decide +kernel) (by decide +kernel)
set_option maxRecDepth 100000 in
theorem mw_52 : Cond.instanceMethod ⟨"java/lang/Object", "<init>", "()V"⟩ ∈ kt_G := kt_m 52 (by decide +kernel) (by decide +kernel)
set_option maxRecDepth 100000 in
theorem mw_53 : Cond.code ⟨"java/lang/Object", "<init>", "()V"⟩ object_method_1_code 1 none ∈ kt_G := kt_m 53 rfl rfl
set_option maxRecDepth 100000 in
theorem mw_54 : Cond.classLink "CutShears" 7 "CutShears$LossTable" ∈ kt_G := kt_m 54 (by decide +kernel) (by decide +kernel)
set_option maxRecDepth 100000 in
theorem mw_55 : Cond.instantiable "CutShears$LossTable" 7 ∈ kt_G := kt_m 55 (by decide +kernel) (by decide +kernel)
set_option maxRecDepth 100000 in
theorem mw_57 : Cond.instanceMethod ⟨"CutShears$LossTable", "<init>", "()V"⟩ ∈ kt_G := kt_m 57 (by decide +kernel) (by decide +kernel)
set_option maxRecDepth 100000 in
theorem mw_58 : Cond.code ⟨"CutShears$LossTable", "<init>", "()V"⟩ prog_5_method_1_code 1 none ∈ kt_G := kt_m 58 rfl rfl
set_option maxRecDepth 100000 in
theorem mw_59 : Cond.methodLink "CutShears$LossTable" 3 ⟨"java/lang/Object", "<init>", "()V"⟩ ∈ kt_G := kt_m 59 (by decide +kernel) (by decide +kernel)
set_option maxRecDepth 100000 in
theorem mw_60 : Cond.fieldLink "CutShears$LossTable" 9 "CutShears$LossTable" "lows" "[I" ∈ kt_G := kt_m 60 (by decide +kernel) (by decide +kernel)
set_option maxRecDepth 100000 in
theorem mw_61 : Cond.fieldLink "CutShears$LossTable" 15 "CutShears$LossTable" "highs" "[I" ∈ kt_G := kt_m 61 (by decide +kernel) (by decide +kernel)
set_option maxRecDepth 100000 in
theorem mw_62 : Cond.fieldLink "CutShears$LossTable" 18 "CutShears$LossTable" "ranks" "[I" ∈ kt_G := kt_m 62 (by decide +kernel) (by decide +kernel)
set_option maxRecDepth 100000 in
theorem mw_63 : Cond.fieldLink "CutShears$LossTable" 21 "CutShears$LossTable" "costs" "[I" ∈ kt_G := kt_m 63 (by decide +kernel) (by decide +kernel)
set_option maxRecDepth 100000 in
theorem mw_64 : Cond.fieldLink "CutShears$LossTable" 24 "CutShears$LossTable" "firstWanted" "[I" ∈ kt_G := kt_m 64 (by decide +kernel) (by decide +kernel)
set_option maxRecDepth 100000 in
theorem mw_66 : Cond.fieldLink "CutShears$LossTable" 27 "CutShears$LossTable" "firstSteps" "[I" ∈ kt_G := kt_m 66 (by decide +kernel) (by decide +kernel)
set_option maxRecDepth 100000 in
theorem mw_68 : Cond.fieldLink "CutShears$LossTable" 30 "CutShears$LossTable" "count" "I" ∈ kt_G := kt_m 68 (by decide +kernel) (by decide +kernel)
set_option maxRecDepth 100000 in
theorem mw_85 : Cond.arrayClass .int ∈ kt_G := kt_m 85 (by decide +kernel) (by decide +kernel)
set_option maxRecDepth 100000 in
theorem mw_86 : Cond.classLink "CutShears" 16 "CutShears$BarPlan" ∈ kt_G := kt_m 86 (by decide +kernel) (by decide +kernel)
set_option maxRecDepth 100000 in
theorem mw_87 : Cond.instantiable "CutShears$BarPlan" 11 ∈ kt_G := kt_m 87 (by decide +kernel) (by decide +kernel)
set_option maxRecDepth 100000 in
theorem mw_89 : Cond.instanceMethod ⟨"CutShears$BarPlan", "<init>", "()V"⟩ ∈ kt_G := kt_m 89 (by decide +kernel) (by decide +kernel)
set_option maxRecDepth 100000 in
theorem mw_90 : Cond.code ⟨"CutShears$BarPlan", "<init>", "()V"⟩ prog_2_method_1_code 1 none ∈ kt_G := kt_m 90 rfl rfl
set_option maxRecDepth 100000 in
theorem mw_91 : Cond.methodLink "CutShears$BarPlan" 3 ⟨"java/lang/Object", "<init>", "()V"⟩ ∈ kt_G := kt_m 91 (by decide +kernel) (by decide +kernel)
set_option maxRecDepth 100000 in
theorem mw_92 : Cond.fieldLink "CutShears$BarPlan" 9 "CutShears$BarPlan" "wanted" "[I" ∈ kt_G := kt_m 92 (by decide +kernel) (by decide +kernel)
set_option maxRecDepth 100000 in
theorem mw_93 : Cond.fieldLink "CutShears$BarPlan" 15 "CutShears$BarPlan" "begins" "[I" ∈ kt_G := kt_m 93 (by decide +kernel) (by decide +kernel)
set_option maxRecDepth 100000 in
theorem mw_94 : Cond.fieldLink "CutShears$BarPlan" 18 "CutShears$BarPlan" "steps" "[I" ∈ kt_G := kt_m 94 (by decide +kernel) (by decide +kernel)
set_option maxRecDepth 100000 in
theorem mw_95 : Cond.fieldLink "CutShears$BarPlan" 21 "CutShears$BarPlan" "length" "I" ∈ kt_G := kt_m 95 (by decide +kernel) (by decide +kernel)
set_option maxRecDepth 100000 in
theorem mw_96 : Cond.fieldLink "CutShears$BarPlan" 25 "CutShears$BarPlan" "error" "I" ∈ kt_G := kt_m 96 (by decide +kernel) (by decide +kernel)
set_option maxRecDepth 100000 in
theorem mw_97 : Cond.fieldLink "CutShears$BarPlan" 28 "CutShears$BarPlan" "head" "I" ∈ kt_G := kt_m 97 (by decide +kernel) (by decide +kernel)
set_option maxRecDepth 100000 in
theorem mw_98 : Cond.fieldLink "CutShears$BarPlan" 31 "CutShears$BarPlan" "tail" "I" ∈ kt_G := kt_m 98 (by decide +kernel) (by decide +kernel)
set_option maxRecDepth 100000 in
theorem mw_99 : Cond.fieldLink "CutShears$BarPlan" 34 "CutShears$BarPlan" "count" "I" ∈ kt_G := kt_m 99 (by decide +kernel) (by decide +kernel)
set_option maxRecDepth 100000 in
theorem mw_101 : Cond.fieldLink "CutShears$BarPlan" 37 "CutShears$BarPlan" "cutCount" "I" ∈ kt_G := kt_m 101 (by decide +kernel) (by decide +kernel)
set_option maxRecDepth 100000 in
theorem mw_103 : Cond.fieldLink "CutShears$BarPlan" 40 "CutShears$BarPlan" "cutSteps" "I" ∈ kt_G := kt_m 103 (by decide +kernel) (by decide +kernel)
set_option maxRecDepth 100000 in
theorem mw_104 : Cond.fieldLink "CutShears$BarPlan" 43 "CutShears$BarPlan" "rest" "I" ∈ kt_G := kt_m 104 (by decide +kernel) (by decide +kernel)
set_option maxRecDepth 100000 in
theorem mw_129 : Cond.classLink "CutShears" 23 "CutShears$CutBook" ∈ kt_G := kt_m 129 (by decide +kernel) (by decide +kernel)
set_option maxRecDepth 100000 in
theorem mw_130 : Cond.instantiable "CutShears$CutBook" 9 ∈ kt_G := kt_m 130 (by decide +kernel) (by decide +kernel)
set_option maxRecDepth 100000 in
theorem mw_132 : Cond.instanceMethod ⟨"CutShears$CutBook", "<init>", "()V"⟩ ∈ kt_G := kt_m 132 (by decide +kernel) (by decide +kernel)
set_option maxRecDepth 100000 in
theorem mw_133 : Cond.code ⟨"CutShears$CutBook", "<init>", "()V"⟩ prog_4_method_1_code 1 none ∈ kt_G := kt_m 133 rfl rfl
set_option maxRecDepth 100000 in
theorem mw_134 : Cond.methodLink "CutShears$CutBook" 3 ⟨"java/lang/Object", "<init>", "()V"⟩ ∈ kt_G := kt_m 134 (by decide +kernel) (by decide +kernel)
set_option maxRecDepth 100000 in
theorem mw_135 : Cond.fieldLink "CutShears$CutBook" 9 "CutShears$CutBook" "wanted" "[I" ∈ kt_G := kt_m 135 (by decide +kernel) (by decide +kernel)
set_option maxRecDepth 100000 in
theorem mw_136 : Cond.fieldLink "CutShears$CutBook" 15 "CutShears$CutBook" "steps" "[I" ∈ kt_G := kt_m 136 (by decide +kernel) (by decide +kernel)
set_option maxRecDepth 100000 in
theorem mw_137 : Cond.fieldLink "CutShears$CutBook" 18 "CutShears$CutBook" "places" "[I" ∈ kt_G := kt_m 137 (by decide +kernel) (by decide +kernel)
set_option maxRecDepth 100000 in
theorem mw_138 : Cond.fieldLink "CutShears$CutBook" 21 "CutShears$CutBook" "bundles" "[I" ∈ kt_G := kt_m 138 (by decide +kernel) (by decide +kernel)
set_option maxRecDepth 100000 in
theorem mw_139 : Cond.fieldLink "CutShears$CutBook" 24 "CutShears$CutBook" "sideCuts" "[I" ∈ kt_G := kt_m 139 (by decide +kernel) (by decide +kernel)
set_option maxRecDepth 100000 in
theorem mw_140 : Cond.fieldLink "CutShears$CutBook" 27 "CutShears$CutBook" "sums" "[I" ∈ kt_G := kt_m 140 (by decide +kernel) (by decide +kernel)
set_option maxRecDepth 100000 in
theorem mw_141 : Cond.fieldLink "CutShears$CutBook" 30 "CutShears$CutBook" "count" "I" ∈ kt_G := kt_m 141 (by decide +kernel) (by decide +kernel)
set_option maxRecDepth 100000 in
theorem mw_143 : Cond.fieldLink "CutShears$CutBook" 34 "CutShears$CutBook" "sideCount" "I" ∈ kt_G := kt_m 143 (by decide +kernel) (by decide +kernel)
set_option maxRecDepth 100000 in
theorem mw_144 : Cond.fieldLink "CutShears$CutBook" 37 "CutShears$CutBook" "bundleCount" "I" ∈ kt_G := kt_m 144 (by decide +kernel) (by decide +kernel)
set_option maxRecDepth 100000 in
theorem mw_164 : Cond.classLink "CutShears" 30 "CutShears$CoolingBed" ∈ kt_G := kt_m 164 (by decide +kernel) (by decide +kernel)
set_option maxRecDepth 100000 in
theorem mw_165 : Cond.instantiable "CutShears$CoolingBed" 4 ∈ kt_G := kt_m 165 (by decide +kernel) (by decide +kernel)
set_option maxRecDepth 100000 in
theorem mw_167 : Cond.instanceMethod ⟨"CutShears$CoolingBed", "<init>", "()V"⟩ ∈ kt_G := kt_m 167 (by decide +kernel) (by decide +kernel)
set_option maxRecDepth 100000 in
theorem mw_168 : Cond.code ⟨"CutShears$CoolingBed", "<init>", "()V"⟩ prog_3_method_1_code 2 none ∈ kt_G := kt_m 168 rfl rfl
set_option maxRecDepth 100000 in
theorem mw_169 : Cond.methodLink "CutShears$CoolingBed" 3 ⟨"java/lang/Object", "<init>", "()V"⟩ ∈ kt_G := kt_m 169 (by decide +kernel) (by decide +kernel)
set_option maxRecDepth 100000 in
theorem mw_170 : Cond.fieldLink "CutShears$CoolingBed" 9 "CutShears$CoolingBed" "cuts" "[I" ∈ kt_G := kt_m 170 (by decide +kernel) (by decide +kernel)
set_option maxRecDepth 100000 in
theorem mw_171 : Cond.fieldLink "CutShears$CoolingBed" 15 "CutShears$CoolingBed" "places" "I" ∈ kt_G := kt_m 171 (by decide +kernel) (by decide +kernel)
set_option maxRecDepth 100000 in
theorem mw_173 : Cond.fieldLink "CutShears$CoolingBed" 19 "CutShears$CoolingBed" "longest" "I" ∈ kt_G := kt_m 173 (by decide +kernel) (by decide +kernel)
set_option maxRecDepth 100000 in
theorem mw_175 : Cond.fieldLink "CutShears$CoolingBed" 22 "CutShears$CoolingBed" "lying" "I" ∈ kt_G := kt_m 175 (by decide +kernel) (by decide +kernel)
set_option maxRecDepth 100000 in
theorem mw_186 : Cond.fieldLink "CutShears" 10 "CutShears" "table" "LCutShears$LossTable;" ∈ kt_G := kt_m 186 (by decide +kernel) (by decide +kernel)
set_option maxRecDepth 100000 in
theorem mw_187 : Cond.fieldLink "CutShears" 19 "CutShears" "plan" "LCutShears$BarPlan;" ∈ kt_G := kt_m 187 (by decide +kernel) (by decide +kernel)
set_option maxRecDepth 100000 in
theorem mw_188 : Cond.fieldLink "CutShears" 26 "CutShears" "book" "LCutShears$CutBook;" ∈ kt_G := kt_m 188 (by decide +kernel) (by decide +kernel)
set_option maxRecDepth 100000 in
theorem mw_189 : Cond.fieldLink "CutShears" 33 "CutShears" "cooling" "LCutShears$CoolingBed;" ∈ kt_G := kt_m 189 (by decide +kernel) (by decide +kernel)
set_option maxRecDepth 100000 in
theorem mw_216 : Cond.methodLink "CutShears" 37 ⟨"CutShears", "requireRange", "(III)V"⟩ ∈ kt_G := kt_m 216 (by decide +kernel) (by decide +kernel)
set_option maxRecDepth 100000 in
theorem mw_217 : Cond.static ⟨"CutShears", "requireRange", "(III)V"⟩ ∈ kt_G := kt_m 217 (by decide +kernel) (by decide +kernel)
set_option maxRecDepth 100000 in
theorem mw_218 : Cond.code ⟨"CutShears", "requireRange", "(III)V"⟩ prog_1_method_19_code 3 none ∈ kt_G := kt_m 218 rfl rfl
set_option maxRecDepth 100000 in
theorem mw_219 : Cond.classLink "CutShears" 149 "java/lang/IllegalArgumentException" ∈ kt_G := kt_m 219 (by decide +kernel) (by decide +kernel)
set_option maxRecDepth 100000 in
theorem mw_290 : Cond.instanceMethod ⟨"CutShears$LossTable", "add", "(III)I"⟩ ∈ kt_G := kt_m 290 (by decide +kernel) (by decide +kernel)
set_option maxRecDepth 100000 in
theorem mw_291 : Cond.code ⟨"CutShears$LossTable", "add", "(III)I"⟩ prog_5_method_2_code 4 (some .int) ∈ kt_G := kt_m 291 rfl rfl
set_option maxRecDepth 100000 in
theorem mw_292 : Cond.classLink "CutShears$LossTable" 34 "java/lang/UnsupportedOperationException" ∈ kt_G := kt_m 292 (by decide +kernel) (by decide +kernel)
set_option maxRecDepth 100000 in
theorem mw_308 : Cond.methodLink "CutShears$LossTable" 41 ⟨"CutShears$LossTable", "fill", "()V"⟩ ∈ kt_G := kt_m 308 (by decide +kernel) (by decide +kernel)
set_option maxRecDepth 100000 in
theorem mw_310 : Cond.instanceMethod ⟨"CutShears$LossTable", "fill", "()V"⟩ ∈ kt_G := kt_m 310 (by decide +kernel) (by decide +kernel)
set_option maxRecDepth 100000 in
theorem mw_311 : Cond.code ⟨"CutShears$LossTable", "fill", "()V"⟩ prog_5_method_3_code 3 none ∈ kt_G := kt_m 311 rfl rfl
set_option maxRecDepth 100000 in
theorem mw_312 : Cond.constant "CutShears$LossTable" 44 1048576 ∈ kt_G := kt_m 312 (by decide +kernel) (by decide +kernel)
set_option maxRecDepth 100000 in
theorem mw_313 : Cond.methodLink "CutShears$LossTable" 45 ⟨"CutShears$LossTable", "tryFirst", "(II)V"⟩ ∈ kt_G := kt_m 313 (by decide +kernel) (by decide +kernel)
set_option maxRecDepth 100000 in
theorem mw_315 : Cond.instanceMethod ⟨"CutShears$LossTable", "tryFirst", "(II)V"⟩ ∈ kt_G := kt_m 315 (by decide +kernel) (by decide +kernel)
set_option maxRecDepth 100000 in
theorem mw_316 : Cond.code ⟨"CutShears$LossTable", "tryFirst", "(II)V"⟩ prog_5_method_4_code 7 none ∈ kt_G := kt_m 316 rfl rfl
set_option maxRecDepth 100000 in
theorem mw_317 : Cond.methodLink "CutShears$LossTable" 49 ⟨"java/lang/Math", "min", "(II)I"⟩ ∈ kt_G := kt_m 317 (by decide +kernel) (by decide +kernel)
set_option maxRecDepth 100000 in
theorem mw_318 : Cond.static ⟨"java/lang/Math", "min", "(II)I"⟩ ∈ kt_G := kt_m 318 (by decide +kernel) (by decide +kernel)
set_option maxRecDepth 100000 in
theorem mw_319 : Cond.code ⟨"java/lang/Math", "min", "(II)I"⟩ prog_12_method_69_code 2 (some .int) ∈ kt_G := kt_m 319 rfl rfl
set_option maxRecDepth 100000 in
theorem mw_322 : Cond.instanceMethod ⟨"CutShears$BarPlan", "planRest", "(LCutShears$LossTable;)V"⟩ ∈ kt_G := kt_m 322 (by decide +kernel) (by decide +kernel)
set_option maxRecDepth 100000 in
theorem mw_323 : Cond.code ⟨"CutShears$BarPlan", "planRest", "(LCutShears$LossTable;)V"⟩ prog_2_method_7_code 6 none ∈ kt_G := kt_m 323 rfl rfl
set_option maxRecDepth 100000 in
theorem mw_324 : Cond.methodLink "CutShears$BarPlan" 53 ⟨"CutShears$BarPlan", "roomOf", "(IIII)I"⟩ ∈ kt_G := kt_m 324 (by decide +kernel) (by decide +kernel)
set_option maxRecDepth 100000 in
theorem mw_325 : Cond.static ⟨"CutShears$BarPlan", "roomOf", "(IIII)I"⟩ ∈ kt_G := kt_m 325 (by decide +kernel) (by decide +kernel)
set_option maxRecDepth 100000 in
theorem mw_326 : Cond.code ⟨"CutShears$BarPlan", "roomOf", "(IIII)I"⟩ prog_2_method_6_code 4 (some .int) ∈ kt_G := kt_m 326 rfl rfl
set_option maxRecDepth 100000 in
theorem mw_327 : Cond.methodLink "CutShears$BarPlan" 63 ⟨"java/lang/Math", "max", "(II)I"⟩ ∈ kt_G := kt_m 327 (by decide +kernel) (by decide +kernel)
set_option maxRecDepth 100000 in
theorem mw_328 : Cond.static ⟨"java/lang/Math", "max", "(II)I"⟩ ∈ kt_G := kt_m 328 (by decide +kernel) (by decide +kernel)
set_option maxRecDepth 100000 in
theorem mw_329 : Cond.code ⟨"java/lang/Math", "max", "(II)I"⟩ prog_12_method_65_code 2 (some .int) ∈ kt_G := kt_m 329 rfl rfl
set_option maxRecDepth 100000 in
theorem mw_331 : Cond.static ⟨"CutShears", "numberAt", "([II)I"⟩ ∈ kt_G := kt_m 331 (by decide +kernel) (by decide +kernel)
set_option maxRecDepth 100000 in
theorem mw_332 : Cond.code ⟨"CutShears", "numberAt", "([II)I"⟩ prog_1_method_20_code 2 (some .int) ∈ kt_G := kt_m 332 rfl rfl
set_option maxRecDepth 100000 in
theorem mw_342 : Cond.instanceMethod ⟨"CutShears$BarPlan", "startBar", "(II)V"⟩ ∈ kt_G := kt_m 342 (by decide +kernel) (by decide +kernel)
set_option maxRecDepth 100000 in
theorem mw_343 : Cond.code ⟨"CutShears$BarPlan", "startBar", "(II)V"⟩ prog_2_method_2_code 3 none ∈ kt_G := kt_m 343 rfl rfl
set_option maxRecDepth 100000 in
theorem mw_353 : Cond.instanceMethod ⟨"CutShears$BarPlan", "changeCrops", "(II)V"⟩ ∈ kt_G := kt_m 353 (by decide +kernel) (by decide +kernel)
set_option maxRecDepth 100000 in
theorem mw_354 : Cond.code ⟨"CutShears$BarPlan", "changeCrops", "(II)V"⟩ prog_2_method_3_code 3 none ∈ kt_G := kt_m 354 rfl rfl
set_option maxRecDepth 100000 in
theorem mw_355 : Cond.classLink "CutShears$BarPlan" 46 "java/lang/UnsupportedOperationException" ∈ kt_G := kt_m 355 (by decide +kernel) (by decide +kernel)
set_option maxRecDepth 100000 in
theorem mw_358 : Cond.methodLink "CutShears$BarPlan" 57 ⟨"CutShears$BarPlan", "requireCutsFit", "(I)V"⟩ ∈ kt_G := kt_m 358 (by decide +kernel) (by decide +kernel)
set_option maxRecDepth 100000 in
theorem mw_360 : Cond.instanceMethod ⟨"CutShears$BarPlan", "requireCutsFit", "(I)V"⟩ ∈ kt_G := kt_m 360 (by decide +kernel) (by decide +kernel)
set_option maxRecDepth 100000 in
theorem mw_361 : Cond.code ⟨"CutShears$BarPlan", "requireCutsFit", "(I)V"⟩ prog_2_method_5_code 2 none ∈ kt_G := kt_m 361 rfl rfl
set_option maxRecDepth 100000 in
theorem mw_372 : Cond.instanceMethod ⟨"CutShears$BarPlan", "learnLength", "(I)V"⟩ ∈ kt_G := kt_m 372 (by decide +kernel) (by decide +kernel)
set_option maxRecDepth 100000 in
theorem mw_373 : Cond.code ⟨"CutShears$BarPlan", "learnLength", "(I)V"⟩ prog_2_method_4_code 2 none ∈ kt_G := kt_m 373 rfl rfl
set_option maxRecDepth 100000 in
theorem mw_382 : Cond.methodLink "CutShears" 64 ⟨"CutShears", "requireIndex", "(II)V"⟩ ∈ kt_G := kt_m 382 (by decide +kernel) (by decide +kernel)
set_option maxRecDepth 100000 in
theorem mw_383 : Cond.static ⟨"CutShears", "requireIndex", "(II)V"⟩ ∈ kt_G := kt_m 383 (by decide +kernel) (by decide +kernel)
set_option maxRecDepth 100000 in
theorem mw_384 : Cond.code ⟨"CutShears", "requireIndex", "(II)V"⟩ prog_1_method_18_code 2 none ∈ kt_G := kt_m 384 rfl rfl
set_option maxRecDepth 100000 in
theorem mw_385 : Cond.classLink "CutShears" 139 "java/lang/IndexOutOfBoundsException" ∈ kt_G := kt_m 385 (by decide +kernel) (by decide +kernel)
set_option maxRecDepth 100000 in
theorem mw_403 : Cond.instanceMethod ⟨"CutShears$BarPlan", "wantedOf", "(I)I"⟩ ∈ kt_G := kt_m 403 (by decide +kernel) (by decide +kernel)
set_option maxRecDepth 100000 in
theorem mw_404 : Cond.code ⟨"CutShears$BarPlan", "wantedOf", "(I)I"⟩ prog_2_method_9_code 2 (some .int) ∈ kt_G := kt_m 404 rfl rfl
set_option maxRecDepth 100000 in
theorem mw_407 : Cond.instanceMethod ⟨"CutShears$BarPlan", "beginOf", "(I)I"⟩ ∈ kt_G := kt_m 407 (by decide +kernel) (by decide +kernel)
set_option maxRecDepth 100000 in
theorem mw_408 : Cond.code ⟨"CutShears$BarPlan", "beginOf", "(I)I"⟩ prog_2_method_10_code 2 (some .int) ∈ kt_G := kt_m 408 rfl rfl
set_option maxRecDepth 100000 in
theorem mw_411 : Cond.instanceMethod ⟨"CutShears$BarPlan", "stepsOf", "(I)I"⟩ ∈ kt_G := kt_m 411 (by decide +kernel) (by decide +kernel)
set_option maxRecDepth 100000 in
theorem mw_412 : Cond.code ⟨"CutShears$BarPlan", "stepsOf", "(I)I"⟩ prog_2_method_11_code 2 (some .int) ∈ kt_G := kt_m 412 rfl rfl
set_option maxRecDepth 100000 in
theorem mw_421 : Cond.classLink "CutShears" 83 "java/lang/IllegalStateException" ∈ kt_G := kt_m 421 (by decide +kernel) (by decide +kernel)
set_option maxRecDepth 100000 in
theorem mw_437 : Cond.classLink "CutShears" 91 "java/lang/UnsupportedOperationException" ∈ kt_G := kt_m 437 (by decide +kernel) (by decide +kernel)
set_option maxRecDepth 100000 in
theorem mw_442 : Cond.instanceMethod ⟨"CutShears$CoolingBed", "lay", "(II)I"⟩ ∈ kt_G := kt_m 442 (by decide +kernel) (by decide +kernel)
set_option maxRecDepth 100000 in
theorem mw_443 : Cond.code ⟨"CutShears$CoolingBed", "lay", "(II)I"⟩ prog_3_method_2_code 4 (some .int) ∈ kt_G := kt_m 443 rfl rfl
set_option maxRecDepth 100000 in
theorem mw_446 : Cond.instanceMethod ⟨"CutShears$CutBook", "enter", "(III)V"⟩ ∈ kt_G := kt_m 446 (by decide +kernel) (by decide +kernel)
set_option maxRecDepth 100000 in
theorem mw_447 : Cond.code ⟨"CutShears$CutBook", "enter", "(III)V"⟩ prog_4_method_2_code 4 none ∈ kt_G := kt_m 447 rfl rfl
set_option maxRecDepth 100000 in
theorem mw_450 : Cond.instanceMethod ⟨"CutShears$BarPlan", "markNextCut", "()V"⟩ ∈ kt_G := kt_m 450 (by decide +kernel) (by decide +kernel)
set_option maxRecDepth 100000 in
theorem mw_451 : Cond.code ⟨"CutShears$BarPlan", "markNextCut", "()V"⟩ prog_2_method_8_code 1 none ∈ kt_G := kt_m 451 rfl rfl
set_option maxRecDepth 100000 in
theorem mw_452 : Cond.methodLink "CutShears$BarPlan" 81 ⟨"CutShears$BarPlan", "stepsOf", "(I)I"⟩ ∈ kt_G := kt_m 452 (by decide +kernel) (by decide +kernel)
set_option maxRecDepth 100000 in
theorem mw_470 : Cond.instanceMethod ⟨"CutShears$CoolingBed", "cutOn", "(I)I"⟩ ∈ kt_G := kt_m 470 (by decide +kernel) (by decide +kernel)
set_option maxRecDepth 100000 in
theorem mw_471 : Cond.code ⟨"CutShears$CoolingBed", "cutOn", "(I)I"⟩ prog_3_method_3_code 2 (some .int) ∈ kt_G := kt_m 471 rfl rfl
set_option maxRecDepth 100000 in
theorem mw_482 : Cond.instanceMethod ⟨"CutShears$CutBook", "countOnBed", "(I)I"⟩ ∈ kt_G := kt_m 482 (by decide +kernel) (by decide +kernel)
set_option maxRecDepth 100000 in
theorem mw_483 : Cond.code ⟨"CutShears$CutBook", "countOnBed", "(I)I"⟩ prog_4_method_7_code 4 (some .int) ∈ kt_G := kt_m 483 rfl rfl
set_option maxRecDepth 100000 in
theorem mw_484 : Cond.methodLink "CutShears$CutBook" 44 ⟨"CutShears$CutBook", "isOnBed", "(II)Z"⟩ ∈ kt_G := kt_m 484 (by decide +kernel) (by decide +kernel)
set_option maxRecDepth 100000 in
theorem mw_486 : Cond.instanceMethod ⟨"CutShears$CutBook", "isOnBed", "(II)Z"⟩ ∈ kt_G := kt_m 486 (by decide +kernel) (by decide +kernel)
set_option maxRecDepth 100000 in
theorem mw_487 : Cond.code ⟨"CutShears$CutBook", "isOnBed", "(II)Z"⟩ prog_4_method_6_code 3 (some .boolean) ∈ kt_G := kt_m 487 rfl rfl
set_option maxRecDepth 100000 in
theorem mw_491 : Cond.instanceMethod ⟨"CutShears$CutBook", "takeBundle", "(IILCutShears$CoolingBed;)I"⟩ ∈ kt_G := kt_m 491 (by decide +kernel) (by decide +kernel)
set_option maxRecDepth 100000 in
theorem mw_492 : Cond.code ⟨"CutShears$CutBook", "takeBundle", "(IILCutShears$CoolingBed;)I"⟩ prog_4_method_8_code 6 (some .int) ∈ kt_G := kt_m 492 rfl rfl
set_option maxRecDepth 100000 in
theorem mw_495 : Cond.instanceMethod ⟨"CutShears$CoolingBed", "free", "(I)V"⟩ ∈ kt_G := kt_m 495 (by decide +kernel) (by decide +kernel)
set_option maxRecDepth 100000 in
theorem mw_496 : Cond.code ⟨"CutShears$CoolingBed", "free", "(I)V"⟩ prog_3_method_4_code 2 none ∈ kt_G := kt_m 496 rfl rfl
set_option maxRecDepth 100000 in
theorem mw_506 : Cond.instanceMethod ⟨"CutShears$CutBook", "tell", "(II)I"⟩ ∈ kt_G := kt_m 506 (by decide +kernel) (by decide +kernel)
set_option maxRecDepth 100000 in
theorem mw_507 : Cond.code ⟨"CutShears$CutBook", "tell", "(II)I"⟩ prog_4_method_3_code 3 (some .int) ∈ kt_G := kt_m 507 rfl rfl
set_option maxRecDepth 100000 in
theorem mw_516 : Cond.methodLink "CutShears" 133 ⟨"CutShears", "thousandthsOfTurns", "(II)I"⟩ ∈ kt_G := kt_m 516 (by decide +kernel) (by decide +kernel)
set_option maxRecDepth 100000 in
theorem mw_517 : Cond.static ⟨"CutShears", "thousandthsOfTurns", "(II)I"⟩ ∈ kt_G := kt_m 517 (by decide +kernel) (by decide +kernel)
set_option maxRecDepth 100000 in
theorem mw_518 : Cond.code ⟨"CutShears", "thousandthsOfTurns", "(II)I"⟩ prog_1_method_17_code 2 (some .int) ∈ kt_G := kt_m 518 rfl rfl
set_option maxRecDepth 100000 in
theorem mw_528 : Cond.instanceMethod ⟨"CutShears$CutBook", "sumOf", "(I)I"⟩ ∈ kt_G := kt_m 528 (by decide +kernel) (by decide +kernel)
set_option maxRecDepth 100000 in
theorem mw_529 : Cond.code ⟨"CutShears$CutBook", "sumOf", "(I)I"⟩ prog_4_method_4_code 2 (some .int) ∈ kt_G := kt_m 529 rfl rfl
set_option maxRecDepth 100000 in
theorem mw_540 : Cond.instanceMethod ⟨"CutShears$CutBook", "sideCut", "(I)I"⟩ ∈ kt_G := kt_m 540 (by decide +kernel) (by decide +kernel)
set_option maxRecDepth 100000 in
theorem mw_541 : Cond.code ⟨"CutShears$CutBook", "sideCut", "(I)I"⟩ prog_4_method_5_code 2 (some .int) ∈ kt_G := kt_m 541 rfl rfl
set_option maxRecDepth 100000 in
theorem mw_547 : Cond.methodLink "CutShearsModel" 1 ⟨"java/lang/Object", "<init>", "()V"⟩ ∈ kt_G := kt_m 547 (by decide +kernel) (by decide +kernel)
set_option maxRecDepth 100000 in
theorem mw_548 : Cond.fieldLink "CutShearsModel" 60 "CutShearsModel" "thrown" "I" ∈ kt_G := kt_m 548 (by decide +kernel) (by decide +kernel)
set_option maxRecDepth 100000 in
theorem mw_549 : Cond.fieldLink "CutShearsModel" 63 "CutShearsModel" "wanted" "I" ∈ kt_G := kt_m 549 (by decide +kernel) (by decide +kernel)
set_option maxRecDepth 100000 in
theorem mw_550 : Cond.fieldLink "CutShearsModel" 7 "CutShearsModel" "low" "[I" ∈ kt_G := kt_m 550 (by decide +kernel) (by decide +kernel)
set_option maxRecDepth 100000 in
theorem mw_551 : Cond.fieldLink "CutShearsModel" 13 "CutShearsModel" "high" "[I" ∈ kt_G := kt_m 551 (by decide +kernel) (by decide +kernel)
set_option maxRecDepth 100000 in
theorem mw_552 : Cond.fieldLink "CutShearsModel" 16 "CutShearsModel" "rank" "[I" ∈ kt_G := kt_m 552 (by decide +kernel) (by decide +kernel)
set_option maxRecDepth 100000 in
theorem mw_553 : Cond.fieldLink "CutShearsModel" 19 "CutShearsModel" "length" "I" ∈ kt_G := kt_m 553 (by decide +kernel) (by decide +kernel)
set_option maxRecDepth 100000 in
theorem mw_554 : Cond.fieldLink "CutShearsModel" 76 "CutShearsModel" "error" "I" ∈ kt_G := kt_m 554 (by decide +kernel) (by decide +kernel)
set_option maxRecDepth 100000 in
theorem mw_555 : Cond.fieldLink "CutShearsModel" 79 "CutShearsModel" "head" "I" ∈ kt_G := kt_m 555 (by decide +kernel) (by decide +kernel)
set_option maxRecDepth 100000 in
theorem mw_556 : Cond.fieldLink "CutShearsModel" 82 "CutShearsModel" "tail" "I" ∈ kt_G := kt_m 556 (by decide +kernel) (by decide +kernel)
set_option maxRecDepth 100000 in
theorem mw_557 : Cond.fieldLink "CutShearsModel" 23 "CutShearsModel" "places" "I" ∈ kt_G := kt_m 557 (by decide +kernel) (by decide +kernel)
set_option maxRecDepth 100000 in
theorem mw_558 : Cond.fieldLink "CutShearsModel" 26 "CutShearsModel" "longest" "I" ∈ kt_G := kt_m 558 (by decide +kernel) (by decide +kernel)
set_option maxRecDepth 100000 in
theorem mw_559 : Cond.fieldLink "CutShearsModel" 73 "CutShearsModel" "cuts" "I" ∈ kt_G := kt_m 559 (by decide +kernel) (by decide +kernel)
set_option maxRecDepth 100000 in
theorem mw_560 : Cond.fieldLink "CutShearsModel" 70 "CutShearsModel" "first" "I" ∈ kt_G := kt_m 560 (by decide +kernel) (by decide +kernel)
set_option maxRecDepth 100000 in
theorem mw_561 : Cond.fieldLink "CutShearsModel" 29 "CutShearsModel" "cutWanted" "[I" ∈ kt_G := kt_m 561 (by decide +kernel) (by decide +kernel)
set_option maxRecDepth 100000 in
theorem mw_562 : Cond.fieldLink "CutShearsModel" 32 "CutShearsModel" "cutSteps" "[I" ∈ kt_G := kt_m 562 (by decide +kernel) (by decide +kernel)
set_option maxRecDepth 100000 in
theorem mw_563 : Cond.fieldLink "CutShearsModel" 35 "CutShearsModel" "cutPlace" "[I" ∈ kt_G := kt_m 563 (by decide +kernel) (by decide +kernel)
set_option maxRecDepth 100000 in
theorem mw_564 : Cond.fieldLink "CutShearsModel" 38 "CutShearsModel" "cutBundle" "[I" ∈ kt_G := kt_m 564 (by decide +kernel) (by decide +kernel)
set_option maxRecDepth 100000 in
theorem mw_565 : Cond.fieldLink "CutShearsModel" 41 "CutShearsModel" "aside" "[Z" ∈ kt_G := kt_m 565 (by decide +kernel) (by decide +kernel)
set_option maxRecDepth 100000 in
theorem mw_566 : Cond.fieldLink "CutShearsModel" 127 "CutShearsModel" "bundles" "I" ∈ kt_G := kt_m 566 (by decide +kernel) (by decide +kernel)
set_option maxRecDepth 100000 in
theorem mw_567 : Cond.fieldLink "CutShearsModel" 45 "CutShearsModel" "loss" "[I" ∈ kt_G := kt_m 567 (by decide +kernel) (by decide +kernel)
set_option maxRecDepth 100000 in
theorem mw_568 : Cond.fieldLink "CutShearsModel" 48 "CutShearsModel" "ranks" "[I" ∈ kt_G := kt_m 568 (by decide +kernel) (by decide +kernel)
set_option maxRecDepth 100000 in
theorem mw_569 : Cond.fieldLink "CutShearsModel" 51 "CutShearsModel" "many" "[I" ∈ kt_G := kt_m 569 (by decide +kernel) (by decide +kernel)
set_option maxRecDepth 100000 in
theorem mw_570 : Cond.fieldLink "CutShearsModel" 54 "CutShearsModel" "next" "[I" ∈ kt_G := kt_m 570 (by decide +kernel) (by decide +kernel)
set_option maxRecDepth 100000 in
theorem mw_571 : Cond.fieldLink "CutShearsModel" 57 "CutShearsModel" "steps" "[I" ∈ kt_G := kt_m 571 (by decide +kernel) (by decide +kernel)
set_option maxRecDepth 100000 in
theorem mw_572 : Cond.fieldLink "CutShearsModel" 110 "CutShearsModel" "foundWanted" "I" ∈ kt_G := kt_m 572 (by decide +kernel) (by decide +kernel)
set_option maxRecDepth 100000 in
theorem mw_573 : Cond.fieldLink "CutShearsModel" 107 "CutShearsModel" "foundBegin" "I" ∈ kt_G := kt_m 573 (by decide +kernel) (by decide +kernel)
set_option maxRecDepth 100000 in
theorem mw_574 : Cond.fieldLink "CutShearsModel" 113 "CutShearsModel" "foundSteps" "I" ∈ kt_G := kt_m 574 (by decide +kernel) (by decide +kernel)
set_option maxRecDepth 100000 in
theorem mw_630 : Cond.arrayClass .boolean ∈ kt_G := kt_m 630 (by decide +kernel) (by decide +kernel)
set_option maxRecDepth 100000 in
theorem mw_639 : Cond.methodLink "CutShearsModel" 66 ⟨"CutShearsModel", "in", "(III)Z"⟩ ∈ kt_G := kt_m 639 (by decide +kernel) (by decide +kernel)
set_option maxRecDepth 100000 in
theorem mw_640 : Cond.static ⟨"CutShearsModel", "in", "(III)Z"⟩ ∈ kt_G := kt_m 640 (by decide +kernel) (by decide +kernel)
set_option maxRecDepth 100000 in
theorem mw_641 : Cond.code ⟨"CutShearsModel", "in", "(III)Z"⟩ prog_7_method_3_code 3 (some .boolean) ∈ kt_G := kt_m 641 rfl rfl
set_option maxRecDepth 100000 in
theorem mw_642 : Cond.methodLink "CutShearsModel" 93 ⟨"CutShearsModel", "goes", "(ZZZ)Z"⟩ ∈ kt_G := kt_m 642 (by decide +kernel) (by decide +kernel)
set_option maxRecDepth 100000 in
theorem mw_644 : Cond.instanceMethod ⟨"CutShearsModel", "goes", "(ZZZ)Z"⟩ ∈ kt_G := kt_m 644 (by decide +kernel) (by decide +kernel)
set_option maxRecDepth 100000 in
theorem mw_645 : Cond.code ⟨"CutShearsModel", "goes", "(ZZZ)Z"⟩ prog_7_method_4_code 4 (some .boolean) ∈ kt_G := kt_m 645 rfl rfl
set_option maxRecDepth 100000 in
theorem mw_654 : Cond.methodLink "CutShearsModel" 89 ⟨"CutShearsModel", "taken", "()I"⟩ ∈ kt_G := kt_m 654 (by decide +kernel) (by decide +kernel)
set_option maxRecDepth 100000 in
theorem mw_656 : Cond.instanceMethod ⟨"CutShearsModel", "taken", "()I"⟩ ∈ kt_G := kt_m 656 (by decide +kernel) (by decide +kernel)
set_option maxRecDepth 100000 in
theorem mw_657 : Cond.code ⟨"CutShearsModel", "taken", "()I"⟩ prog_7_method_7_code 3 (some .int) ∈ kt_G := kt_m 657 rfl rfl
set_option maxRecDepth 100000 in
theorem mw_658 : Cond.methodLink "CutShearsModel" 85 ⟨"CutShearsModel", "room", "(IIII)I"⟩ ∈ kt_G := kt_m 658 (by decide +kernel) (by decide +kernel)
set_option maxRecDepth 100000 in
theorem mw_659 : Cond.static ⟨"CutShearsModel", "room", "(IIII)I"⟩ ∈ kt_G := kt_m 659 (by decide +kernel) (by decide +kernel)
set_option maxRecDepth 100000 in
theorem mw_660 : Cond.code ⟨"CutShearsModel", "room", "(IIII)I"⟩ prog_7_method_6_code 5 (some .int) ∈ kt_G := kt_m 660 rfl rfl
set_option maxRecDepth 100000 in
theorem mw_669 : Cond.methodLink "CutShearsModel" 104 ⟨"CutShearsModel", "plan", "()V"⟩ ∈ kt_G := kt_m 669 (by decide +kernel) (by decide +kernel)
set_option maxRecDepth 100000 in
theorem mw_671 : Cond.instanceMethod ⟨"CutShearsModel", "plan", "()V"⟩ ∈ kt_G := kt_m 671 (by decide +kernel) (by decide +kernel)
set_option maxRecDepth 100000 in
theorem mw_672 : Cond.code ⟨"CutShearsModel", "plan", "()V"⟩ prog_7_method_14_code 5 none ∈ kt_G := kt_m 672 rfl rfl
set_option maxRecDepth 100000 in
theorem mw_673 : Cond.methodLink "CutShearsModel" 97 ⟨"CutShearsModel", "left", "()I"⟩ ∈ kt_G := kt_m 673 (by decide +kernel) (by decide +kernel)
set_option maxRecDepth 100000 in
theorem mw_675 : Cond.instanceMethod ⟨"CutShearsModel", "left", "()I"⟩ ∈ kt_G := kt_m 675 (by decide +kernel) (by decide +kernel)
set_option maxRecDepth 100000 in
theorem mw_676 : Cond.code ⟨"CutShearsModel", "left", "()I"⟩ prog_7_method_8_code 1 (some .int) ∈ kt_G := kt_m 676 rfl rfl
set_option maxRecDepth 100000 in
theorem mw_677 : Cond.methodLink "CutShearsModel" 100 ⟨"CutShearsModel", "isBetter", "(IIII)Z"⟩ ∈ kt_G := kt_m 677 (by decide +kernel) (by decide +kernel)
set_option maxRecDepth 100000 in
theorem mw_679 : Cond.instanceMethod ⟨"CutShearsModel", "isBetter", "(IIII)Z"⟩ ∈ kt_G := kt_m 679 (by decide +kernel) (by decide +kernel)
set_option maxRecDepth 100000 in
theorem mw_680 : Cond.code ⟨"CutShearsModel", "isBetter", "(IIII)Z"⟩ prog_7_method_13_code 5 (some .boolean) ∈ kt_G := kt_m 680 rfl rfl
set_option maxRecDepth 100000 in
theorem mw_685 : Cond.methodLink "CutShearsModel" 116 ⟨"CutShearsModel", "finds", "(I)Z"⟩ ∈ kt_G := kt_m 685 (by decide +kernel) (by decide +kernel)
set_option maxRecDepth 100000 in
theorem mw_687 : Cond.instanceMethod ⟨"CutShearsModel", "finds", "(I)Z"⟩ ∈ kt_G := kt_m 687 (by decide +kernel) (by decide +kernel)
set_option maxRecDepth 100000 in
theorem mw_688 : Cond.code ⟨"CutShearsModel", "finds", "(I)Z"⟩ prog_7_method_16_code 4 (some .boolean) ∈ kt_G := kt_m 688 rfl rfl
set_option maxRecDepth 100000 in
theorem mw_697 : Cond.methodLink "CutShearsModel" 120 ⟨"CutShearsModel", "lying", "(I)I"⟩ ∈ kt_G := kt_m 697 (by decide +kernel) (by decide +kernel)
set_option maxRecDepth 100000 in
theorem mw_699 : Cond.instanceMethod ⟨"CutShearsModel", "lying", "(I)I"⟩ ∈ kt_G := kt_m 699 (by decide +kernel) (by decide +kernel)
set_option maxRecDepth 100000 in
theorem mw_700 : Cond.code ⟨"CutShearsModel", "lying", "(I)I"⟩ prog_7_method_19_code 3 (some .int) ∈ kt_G := kt_m 700 rfl rfl
set_option maxRecDepth 100000 in
theorem mw_713 : Cond.methodLink "CutShearsModel" 124 ⟨"CutShearsModel", "isWanted", "(I)Z"⟩ ∈ kt_G := kt_m 713 (by decide +kernel) (by decide +kernel)
set_option maxRecDepth 100000 in
theorem mw_715 : Cond.instanceMethod ⟨"CutShearsModel", "isWanted", "(I)Z"⟩ ∈ kt_G := kt_m 715 (by decide +kernel) (by decide +kernel)
set_option maxRecDepth 100000 in
theorem mw_716 : Cond.code ⟨"CutShearsModel", "isWanted", "(I)Z"⟩ prog_7_method_5_code 2 (some .boolean) ∈ kt_G := kt_m 716 rfl rfl
set_option maxRecDepth 100000 in
theorem hi_b : ∀ w ∈ u_ws "CutShears$BarPlan" T_b 11, w ∈ kt_G := by rw [kt_G_eq]; decide +kernel
set_option maxRecDepth 100000 in
theorem hi_c : ∀ w ∈ u_ws "CutShears$CoolingBed" T_c 4, w ∈ kt_G := by rw [kt_G_eq]; decide +kernel
set_option maxRecDepth 100000 in
theorem hi_k : ∀ w ∈ u_ws "CutShears$CutBook" T_k 9, w ∈ kt_G := by rw [kt_G_eq]; decide +kernel
set_option maxRecDepth 100000 in
theorem hi_t : ∀ w ∈ u_ws "CutShears$LossTable" T_t 7, w ∈ kt_G := by rw [kt_G_eq]; decide +kernel
set_option maxRecDepth 100000 in
theorem hi_x : ∀ w ∈ u_ws "CutShears" T_x 4, w ∈ kt_G := by rw [kt_G_eq]; decide +kernel
set_option maxRecDepth 100000 in
theorem hi_m : ∀ w ∈ u_ws "CutShearsModel" T_m 27, w ∈ kt_G := by rw [kt_G_eq]; decide +kernel
def kt_N : List Cond := [.fieldLinkNest "CutShears$BarPlan" 69 "CutShears$LossTable" "firstSteps" "[I" "CutShears",
  .fieldLinkNest "CutShears$BarPlan" 78 "CutShears$LossTable" "firstWanted" "[I" "CutShears",
  .methodLinkNest "CutShears$BarPlan" 74 ⟨"CutShears", "numberAt", "([II)I"⟩ "CutShears",
  .methodLinkNest "CutShears$CoolingBed" 25 ⟨"CutShears", "numberAt", "([II)I"⟩ "CutShears",
  .methodLinkNest "CutShears$CutBook" 40 ⟨"CutShears", "numberAt", "([II)I"⟩ "CutShears",
  .methodLinkNest "CutShears$CutBook" 48 ⟨"CutShears$CoolingBed", "free", "(I)V"⟩ "CutShears",
  .methodLinkNest "CutShears" 32 ⟨"CutShears$CoolingBed", "<init>", "()V"⟩ "CutShears",
  .methodLinkNest "CutShears" 25 ⟨"CutShears$CutBook", "<init>", "()V"⟩ "CutShears",
  .methodLinkNest "CutShears" 18 ⟨"CutShears$BarPlan", "<init>", "()V"⟩ "CutShears",
  .methodLinkNest "CutShears" 9 ⟨"CutShears$LossTable", "<init>", "()V"⟩ "CutShears",
  .methodLinkNest "CutShears" 45 ⟨"CutShears$BarPlan", "planRest", "(LCutShears$LossTable;)V"⟩ "CutShears",
  .methodLinkNest "CutShears" 41 ⟨"CutShears$LossTable", "add", "(III)I"⟩ "CutShears",
  .methodLinkNest "CutShears" 49 ⟨"CutShears$BarPlan", "startBar", "(II)V"⟩ "CutShears",
  .methodLinkNest "CutShears" 53 ⟨"CutShears$BarPlan", "changeCrops", "(II)V"⟩ "CutShears",
  .methodLinkNest "CutShears" 56 ⟨"CutShears$BarPlan", "learnLength", "(I)V"⟩ "CutShears",
  .fieldLinkNest "CutShears" 60 "CutShears$BarPlan" "count" "I" "CutShears",
  .methodLinkNest "CutShears" 67 ⟨"CutShears$BarPlan", "wantedOf", "(I)I"⟩ "CutShears",
  .methodLinkNest "CutShears" 71 ⟨"CutShears$BarPlan", "beginOf", "(I)I"⟩ "CutShears",
  .methodLinkNest "CutShears" 74 ⟨"CutShears$BarPlan", "stepsOf", "(I)I"⟩ "CutShears",
  .fieldLinkNest "CutShears" 77 "CutShears$BarPlan" "cutCount" "I" "CutShears",
  .fieldLinkNest "CutShears" 80 "CutShears$BarPlan" "rest" "I" "CutShears",
  .fieldLinkNest "CutShears" 90 "CutShears$CutBook" "count" "I" "CutShears",
  .methodLinkNest "CutShears" 103 ⟨"CutShears$BarPlan", "markNextCut", "()V"⟩ "CutShears",
  .methodLinkNest "CutShears" 100 ⟨"CutShears$CutBook", "enter", "(III)V"⟩ "CutShears",
  .methodLinkNest "CutShears" 96 ⟨"CutShears$CoolingBed", "lay", "(II)I"⟩ "CutShears",
  .fieldLinkNest "CutShears" 106 "CutShears$CoolingBed" "lying" "I" "CutShears",
  .fieldLinkNest "CutShears" 111 "CutShears$CoolingBed" "places" "I" "CutShears",
  .fieldLinkNest "CutShears" 114 "CutShears$CoolingBed" "longest" "I" "CutShears",
  .methodLinkNest "CutShears" 117 ⟨"CutShears$CoolingBed", "cutOn", "(I)I"⟩ "CutShears",
  .fieldLinkNest "CutShears" 120 "CutShears$LossTable" "count" "I" "CutShears",
  .methodLinkNest "CutShears" 126 ⟨"CutShears$CutBook", "takeBundle", "(IILCutShears$CoolingBed;)I"⟩ "CutShears",
  .methodLinkNest "CutShears" 121 ⟨"CutShears$CutBook", "countOnBed", "(I)I"⟩ "CutShears",
  .methodLinkNest "CutShears" 130 ⟨"CutShears$CutBook", "tell", "(II)I"⟩ "CutShears",
  .methodLinkNest "CutShears" 136 ⟨"CutShears$CutBook", "sumOf", "(I)I"⟩ "CutShears",
  .methodLinkNest "CutShears" 144 ⟨"CutShears$CutBook", "sideCut", "(I)I"⟩ "CutShears",
  .castable "java/lang/IllegalArgumentException" "java/lang/IllegalArgumentException",
  .declares ⟨"java/lang/RuntimeException", "<init>", "()V"⟩,
  .declares ⟨"java/lang/RuntimeException", "<init>", "(Ljava/lang/String;)V"⟩,
  .declares ⟨"java/lang/Exception", "<init>", "()V"⟩,
  .declares ⟨"java/lang/Exception", "<init>", "(Ljava/lang/String;)V"⟩,
  .declares ⟨"java/lang/Throwable", "<init>", "()V"⟩,
  .declares ⟨"java/lang/Throwable", "<init>", "(Ljava/lang/String;)V"⟩,
  .castable "java/lang/UnsupportedOperationException" "java/lang/UnsupportedOperationException",
  .castable "java/lang/IndexOutOfBoundsException" "java/lang/IndexOutOfBoundsException",
  .castable "java/lang/IllegalStateException" "java/lang/IllegalStateException"]
def kt_T : List (String × Nat × String) := [("CutShears$LossTable", 36, "there are 6 wanted lengths"), ("CutShears$BarPlan", 61, "the cuts would not fit any more"), ("CutShears$BarPlan", 48, "the head can not change behind a cut"), ("CutShears", 151, "a number is out of its range"), ("CutShears", 147, "no such number"), ("CutShears", 93, "300 pieces were cut"), ("CutShears", 85, "no piece is left to cut"), ("CutShears", 109, "the bed is not empty"), ("CutShears", 124, "there are not so many on the bed"), ("CutShears", 141, "no such cut at the side")]
set_option maxRecDepth 100000 in
theorem ha_0 : ∀ w ∈ vx_atS "CutShears$LossTable" 38 "java/lang/UnsupportedOperationException" ["java/lang/RuntimeException", "java/lang/Exception"], w ∈ kt_G ∨ w ∈ kt_N := by rw [kt_G_eq]; decide +kernel
set_option maxRecDepth 100000 in
theorem ha_1 : ∀ w ∈ vx_atS "CutShears$BarPlan" 50 "java/lang/UnsupportedOperationException" ["java/lang/RuntimeException", "java/lang/Exception"], w ∈ kt_G ∨ w ∈ kt_N := by rw [kt_G_eq]; decide +kernel
set_option maxRecDepth 100000 in
theorem ha_2 : ∀ w ∈ vx_atS "CutShears" 153 "java/lang/IllegalArgumentException" ["java/lang/RuntimeException", "java/lang/Exception"], w ∈ kt_G ∨ w ∈ kt_N := by rw [kt_G_eq]; decide +kernel
set_option maxRecDepth 100000 in
theorem ha_3 : ∀ w ∈ vx_atS "CutShears" 143 "java/lang/IndexOutOfBoundsException" ["java/lang/RuntimeException", "java/lang/Exception"], w ∈ kt_G ∨ w ∈ kt_N := by rw [kt_G_eq]; decide +kernel
set_option maxRecDepth 100000 in
theorem ha_4 : ∀ w ∈ vx_atS "CutShears" 95 "java/lang/UnsupportedOperationException" ["java/lang/RuntimeException", "java/lang/Exception"], w ∈ kt_G ∨ w ∈ kt_N := by rw [kt_G_eq]; decide +kernel
set_option maxRecDepth 100000 in
theorem ha_5 : ∀ w ∈ vx_atS "CutShears" 87 "java/lang/IllegalStateException" ["java/lang/RuntimeException", "java/lang/Exception"], w ∈ kt_G ∨ w ∈ kt_N := by rw [kt_G_eq]; decide +kernel
abbrev rm_t_init : Room := { frames := 1, cells := 6, slots := 621, locals := 20 }
abbrev rm_t_tryFirst : Room := { frames := 1, cells := 0, slots := 0, locals := 21 }
abbrev rm_t_fill : Room := { frames := 2, cells := 0, slots := 0, locals := 47 }
abbrev rm_t_add : Room := { frames := 6, cells := 1, slots := 6, locals := 90 }
abbrev rm_t_addn : Room := { frames := 6, cells := 0, slots := 0, locals := 90 }
abbrev rm_b_init : Room := { frames := 1, cells := 3, slots := 600, locals := 20 }
abbrev rm_b_startBar : Room := { frames := 0, cells := 0, slots := 0, locals := 0 }
abbrev rm_b_roomOf : Room := { frames := 1, cells := 0, slots := 0, locals := 21 }
abbrev rm_b_requireCutsFit : Room := { frames := 6, cells := 1, slots := 6, locals := 90 }
abbrev rm_b_requireCutsFitn : Room := { frames := 6, cells := 0, slots := 0, locals := 90 }
abbrev rm_b_changeCrops : Room := { frames := 7, cells := 1, slots := 6, locals := 111 }
abbrev rm_b_changeCropsn : Room := { frames := 7, cells := 0, slots := 0, locals := 111 }
abbrev rm_b_learnLength : Room := { frames := 7, cells := 1, slots := 6, locals := 111 }
abbrev rm_b_learnLengthn : Room := { frames := 7, cells := 0, slots := 0, locals := 111 }
abbrev rm_x_numberAt : Room := { frames := 0, cells := 0, slots := 0, locals := 0 }
abbrev rm_b_planRest : Room := { frames := 2, cells := 0, slots := 0, locals := 44 }
abbrev rm_b_stepsOf : Room := { frames := 1, cells := 0, slots := 0, locals := 21 }
abbrev rm_b_markNextCut : Room := { frames := 2, cells := 0, slots := 0, locals := 42 }
abbrev rm_b_wantedOf : Room := { frames := 1, cells := 0, slots := 0, locals := 21 }
abbrev rm_b_beginOf : Room := { frames := 1, cells := 0, slots := 0, locals := 21 }
abbrev rm_c_init : Room := { frames := 1, cells := 1, slots := 20, locals := 20 }
abbrev rm_c_lay : Room := { frames := 0, cells := 0, slots := 0, locals := 0 }
abbrev rm_c_cutOn : Room := { frames := 1, cells := 0, slots := 0, locals := 21 }
abbrev rm_c_free : Room := { frames := 0, cells := 0, slots := 0, locals := 0 }
abbrev rm_k_init : Room := { frames := 1, cells := 6, slots := 1506, locals := 20 }
abbrev rm_k_enter : Room := { frames := 0, cells := 0, slots := 0, locals := 0 }
abbrev rm_k_tell : Room := { frames := 1, cells := 0, slots := 0, locals := 21 }
abbrev rm_k_sumOf : Room := { frames := 1, cells := 0, slots := 0, locals := 21 }
abbrev rm_k_sideCut : Room := { frames := 1, cells := 0, slots := 0, locals := 21 }
abbrev rm_k_isOnBed : Room := { frames := 0, cells := 0, slots := 0, locals := 0 }
abbrev rm_k_countOnBed : Room := { frames := 1, cells := 0, slots := 0, locals := 22 }
abbrev rm_k_takeBundle : Room := { frames := 1, cells := 0, slots := 0, locals := 22 }
abbrev rm_x_init : Room := { frames := 2, cells := 20, slots := 2778, locals := 41 }
abbrev rm_x_requireRange : Room := { frames := 6, cells := 1, slots := 6, locals := 90 }
abbrev rm_x_requireRangen : Room := { frames := 6, cells := 0, slots := 0, locals := 90 }
abbrev rm_x_want : Room := { frames := 7, cells := 1, slots := 6, locals := 113 }
abbrev rm_x_bar : Room := { frames := 7, cells := 1, slots := 6, locals := 112 }
abbrev rm_x_crop : Room := { frames := 8, cells := 1, slots := 6, locals := 133 }
abbrev rm_x_known : Room := { frames := 8, cells := 1, slots := 6, locals := 132 }
abbrev rm_x_pieces : Room := { frames := 0, cells := 0, slots := 0, locals := 0 }
abbrev rm_x_requireIndex : Room := { frames := 6, cells := 1, slots := 6, locals := 90 }
abbrev rm_x_requireIndexn : Room := { frames := 6, cells := 0, slots := 0, locals := 90 }
abbrev rm_x_piece : Room := { frames := 7, cells := 1, slots := 6, locals := 111 }
abbrev rm_x_loss : Room := { frames := 0, cells := 0, slots := 0, locals := 0 }
abbrev rm_x_cut : Room := { frames := 6, cells := 1, slots := 6, locals := 90 }
abbrev rm_x_bed : Room := { frames := 7, cells := 1, slots := 6, locals := 112 }
abbrev rm_x_at : Room := { frames := 7, cells := 1, slots := 6, locals := 111 }
abbrev rm_x_bundle : Room := { frames := 7, cells := 1, slots := 6, locals := 112 }
abbrev rm_x_cutAt : Room := { frames := 7, cells := 1, slots := 6, locals := 111 }
abbrev rm_x_thousandthsOfTurns : Room := { frames := 0, cells := 0, slots := 0, locals := 0 }
abbrev rm_x_blade : Room := { frames := 7, cells := 1, slots := 6, locals := 112 }
abbrev rm_x_sum : Room := { frames := 7, cells := 1, slots := 6, locals := 111 }
abbrev rm_x_side : Room := { frames := 6, cells := 1, slots := 6, locals := 90 }
abbrev rm_m_init : Room := { frames := 1, cells := 13, slots := 2523, locals := 20 }
abbrev rm_m_thrown : Room := { frames := 0, cells := 0, slots := 0, locals := 0 }
abbrev rm_m_in : Room := { frames := 0, cells := 0, slots := 0, locals := 0 }
abbrev rm_m_goes : Room := { frames := 0, cells := 0, slots := 0, locals := 0 }
abbrev rm_m_isWanted : Room := { frames := 1, cells := 0, slots := 0, locals := 22 }
abbrev rm_m_room : Room := { frames := 0, cells := 0, slots := 0, locals := 0 }
abbrev rm_m_taken : Room := { frames := 0, cells := 0, slots := 0, locals := 0 }
abbrev rm_m_left : Room := { frames := 1, cells := 0, slots := 0, locals := 24 }
abbrev rm_m_want : Room := { frames := 1, cells := 0, slots := 0, locals := 23 }
abbrev rm_m_bar : Room := { frames := 1, cells := 0, slots := 0, locals := 23 }
abbrev rm_m_crop : Room := { frames := 1, cells := 0, slots := 0, locals := 24 }
abbrev rm_m_known : Room := { frames := 1, cells := 0, slots := 0, locals := 24 }
abbrev rm_m_isBetter : Room := { frames := 0, cells := 0, slots := 0, locals := 0 }
abbrev rm_m_plan : Room := { frames := 2, cells := 0, slots := 0, locals := 44 }
abbrev rm_m_pieces : Room := { frames := 3, cells := 0, slots := 0, locals := 68 }
abbrev rm_m_finds : Room := { frames := 3, cells := 0, slots := 0, locals := 68 }
abbrev rm_m_piece : Room := { frames := 4, cells := 0, slots := 0, locals := 91 }
abbrev rm_m_loss : Room := { frames := 3, cells := 0, slots := 0, locals := 68 }
abbrev rm_m_lying : Room := { frames := 0, cells := 0, slots := 0, locals := 0 }
abbrev rm_m_cut : Room := { frames := 4, cells := 0, slots := 0, locals := 91 }
abbrev rm_m_bed : Room := { frames := 1, cells := 0, slots := 0, locals := 23 }
abbrev rm_m_at : Room := { frames := 1, cells := 0, slots := 0, locals := 23 }
abbrev rm_m_bundle : Room := { frames := 2, cells := 0, slots := 0, locals := 43 }
abbrev rm_m_cutAt : Room := { frames := 1, cells := 0, slots := 0, locals := 23 }
abbrev rm_m_blade : Room := { frames := 4, cells := 0, slots := 0, locals := 91 }
abbrev rm_m_sum : Room := { frames := 2, cells := 0, slots := 0, locals := 43 }
abbrev rm_m_side : Room := { frames := 1, cells := 0, slots := 0, locals := 23 }
