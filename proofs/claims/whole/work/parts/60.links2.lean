theorem sl_value : Cond.fieldLink "java/lang/String" 9 "java/lang/String" "value" "[B" ∈ Tw := in_Tw (List.mem_of_getElem? (i := 1680) (by decide +kernel)) rfl
theorem sl_coder : Cond.fieldLink "java/lang/String" 15 "java/lang/String" "coder" "B" ∈ Tw := in_Tw (List.mem_of_getElem? (i := 1681) (by decide +kernel)) rfl
theorem sl_comp : Cond.fieldLink "java/lang/String" 38 "java/lang/String" "COMPACT_STRINGS" "Z" ∈ Tw := in_Tw (List.mem_of_getElem? (i := 651) (by decide +kernel)) rfl
theorem sl_form : Cond.fieldLink "java/lang/String" 1053 "jdk/internal/util/Preconditions" "SIOOBE_FORMATTER" "Ljava/util/function/BiFunction;" ∈ Tw := in_Tw (List.mem_of_getElem? (i := 667) (by decide +kernel)) rfl
theorem ac_st : Cond.static arraycopyName ∈ Tw := in_Tw (List.mem_of_getElem? (i := 860) (by decide +kernel)) rfl
theorem ac_nat : Cond.native arraycopyName ∈ Tw := in_Tw (List.mem_of_getElem? (i := 861) (by decide +kernel)) rfl
theorem ac_ini : Cond.initialized "java/lang/System" ∈ Tw := in_Tw (List.mem_of_getElem? (i := 161) (by decide +kernel)) rfl
theorem ac_X1_59 : Cond.methodLink RX1 59 arraycopyName ∈ Tw := in_Tw (List.mem_of_getElem? (i := 1198) (by decide +kernel)) rfl
theorem ac_X5_22 : Cond.methodLink RX5 22 arraycopyName ∈ Tw := in_Tw (List.mem_of_getElem? (i := 1203) (by decide +kernel)) rfl
theorem ac_X7_28 : Cond.methodLink RX7 28 arraycopyName ∈ Tw := in_Tw (List.mem_of_getElem? (i := 986) (by decide +kernel)) rfl
theorem ac_X8_51 : Cond.methodLink RX8 51 arraycopyName ∈ Tw := in_Tw (List.mem_of_getElem? (i := 1193) (by decide +kernel)) rfl
theorem ac_J7_150 : Cond.methodLink RJ7 150 arraycopyName ∈ Tw := in_Tw (List.mem_of_getElem? (i := 859) (by decide +kernel)) rfl
theorem cn_link : Cond.methodLink "java/util/Arrays" 316 ⟨"[I", "clone", "()Ljava/lang/Object;"⟩ ∈ Tw := in_Tw (List.mem_of_getElem? (i := 851) (by decide +kernel)) rfl
theorem cn_same : Cond.sameMethod "[I" "java/lang/Object" "clone" "()Ljava/lang/Object;" ∈ Tw := in_Tw (List.mem_of_getElem? (i := 852) (by decide +kernel)) rfl
theorem cn_nat : Cond.native ⟨"java/lang/Object", "clone", "()Ljava/lang/Object;"⟩ ∈ Tw := in_Tw (List.mem_of_getElem? (i := 853) (by decide +kernel)) rfl
theorem cn_ins : Cond.instanceMethod ⟨"java/lang/Object", "clone", "()Ljava/lang/Object;"⟩ ∈ Tw := in_Tw (List.mem_of_getElem? (i := 854) (by decide +kernel)) rfl
theorem cn_sel : Cond.selects "[I" ⟨"[I", "clone", "()Ljava/lang/Object;"⟩ ⟨"java/lang/Object", "clone", "()Ljava/lang/Object;"⟩ ∈ Tw := in_Tw (List.mem_of_getElem? (i := 855) (by decide +kernel)) rfl
theorem cn_cast : Cond.castable "[I" "java/lang/Cloneable" ∈ lw_tbl := List.mem_of_getElem? (i := 856) (by decide +kernel)
theorem cn_cl : Cond.classLink "java/util/Arrays" 317 "[I" ∈ Tw := in_Tw (List.mem_of_getElem? (i := 857) (by decide +kernel)) rfl
