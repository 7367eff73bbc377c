theorem sf_Str_9 : Cond.fieldLink "java/lang/String" 9 "java/lang/String" "value" "[B" ∈ gd_tbl := gd_in (in_t8 (List.mem_of_getElem? (i := 29) rfl)) rfl
theorem sf_Str_15 : Cond.fieldLink "java/lang/String" 15 "java/lang/String" "coder" "B" ∈ gd_tbl := gd_in (in_t8 (List.mem_of_getElem? (i := 30) rfl)) rfl
theorem sf_Str_38 : Cond.fieldLink "java/lang/String" 38 "java/lang/String" "COMPACT_STRINGS" "Z" ∈ gd_tbl := gd_in (in_t3 (List.mem_of_getElem? (i := 184) rfl)) rfl
theorem sf_Str_1053 : Cond.fieldLink "java/lang/String" 1053 "jdk/internal/util/Preconditions" "SIOOBE_FORMATTER" "Ljava/util/function/BiFunction;" ∈ gd_tbl := gd_in (in_t3 (List.mem_of_getElem? (i := 204) rfl)) rfl
theorem ac_l : Cond.methodLink "java/util/Arrays" 150 arraycopyName ∈ gd_tbl := gd_in (in_t4 (List.mem_of_getElem? (i := 119) rfl)) rfl
theorem ac_n : Cond.native arraycopyName ∈ gd_tbl := gd_in (in_t4 (List.mem_of_getElem? (i := 121) rfl)) rfl
theorem ac_s : Cond.static arraycopyName ∈ gd_tbl := gd_in (in_t4 (List.mem_of_getElem? (i := 120) rfl)) rfl
theorem ac_i : Cond.initialized "java/lang/System" ∈ gd_tbl := gd_in (in_t1 (List.mem_of_getElem? (i := 21) rfl)) rfl
theorem aw_I : Cond.arrayClass .int ∈ gd_tbl := gd_in (in_t1 (List.mem_of_getElem? (i := 146) rfl)) rfl
theorem aw_B : Cond.arrayClass .byte ∈ gd_tbl := gd_in (in_t2 (List.mem_of_getElem? (i := 2) rfl)) rfl
theorem aw_Z : Cond.arrayClass .boolean ∈ gd_tbl := gd_in (in_t6 (List.mem_of_getElem? (i := 122) rfl)) rfl
theorem aw_J : Cond.arrayClass .long ∈ gd_tbl := gd_in (in_t2 (List.mem_of_getElem? (i := 194) rfl)) rfl
