/-! Methods: codes, names, decoded instructions: written by wip/whole/tools/names.py out of the claim. -/
abbrev c_F_init : ByteArray := prog_1_method_1_code
abbrev y_F_init : MethodName := ⟨"FingerSpans", "<init>", "()V"⟩
theorem k_F_init : Cond.code y_F_init c_F_init 1 (none : Option FieldType) ∈ lw_tbl := List.mem_of_getElem? (i := 73) (by decide +kernel)
theorem b_F_init : x_ce y_F_init c_F_init 1 (none : Option FieldType) 0 := ⟨k_F_init, i_F, by decide +kernel⟩
theorem s_F_init : Cond.instanceMethod y_F_init ∈ lw_tbl := List.mem_of_getElem? (i := 72) (by decide +kernel)
theorem d_F_init_0 : decode c_F_init 0 = .ok (.aload_n 0, 1) := by decide +kernel
theorem d_F_init_1 : decode c_F_init 1 = .ok (.invokespecial 3, 3) := by decide +kernel
theorem d_F_init_4 : decode c_F_init 4 = .ok (.aload_n 0, 1) := by decide +kernel
theorem d_F_init_5 : decode c_F_init 5 = .ok (.new 9, 3) := by decide +kernel
theorem d_F_init_8 : decode c_F_init 8 = .ok (.dup, 1) := by decide +kernel
theorem d_F_init_9 : decode c_F_init 9 = .ok (.invokespecial 11, 3) := by decide +kernel
theorem d_F_init_12 : decode c_F_init 12 = .ok (.putfield 12, 3) := by decide +kernel
theorem d_F_init_15 : decode c_F_init 15 = .ok (.aload_n 0, 1) := by decide +kernel
theorem d_F_init_16 : decode c_F_init 16 = .ok (.new 16, 3) := by decide +kernel
theorem d_F_init_19 : decode c_F_init 19 = .ok (.dup, 1) := by decide +kernel
theorem d_F_init_20 : decode c_F_init 20 = .ok (.invokespecial 18, 3) := by decide +kernel
theorem d_F_init_23 : decode c_F_init 23 = .ok (.putfield 19, 3) := by decide +kernel
theorem d_F_init_26 : decode c_F_init 26 = .ok (.aload_n 0, 1) := by decide +kernel
theorem d_F_init_27 : decode c_F_init 27 = .ok (.bipush 120, 2) := by decide +kernel
theorem d_F_init_29 : decode c_F_init 29 = .ok (.anewarray 23, 3) := by decide +kernel
theorem d_F_init_32 : decode c_F_init 32 = .ok (.putfield 25, 3) := by decide +kernel
theorem d_F_init_35 : decode c_F_init 35 = .ok (.aload_n 0, 1) := by decide +kernel
theorem d_F_init_36 : decode c_F_init 36 = .ok (.getfield 25, 3) := by decide +kernel
theorem d_F_init_39 : decode c_F_init 39 = .ok (.iconst 0, 1) := by decide +kernel
theorem d_F_init_40 : decode c_F_init 40 = .ok (.aload_n 0, 1) := by decide +kernel
theorem d_F_init_41 : decode c_F_init 41 = .ok (.getfield 12, 3) := by decide +kernel
theorem d_F_init_44 : decode c_F_init 44 = .ok (.getfield 29, 3) := by decide +kernel
theorem d_F_init_47 : decode c_F_init 47 = .ok (.aastore, 1) := by decide +kernel
theorem d_F_init_48 : decode c_F_init 48 = .ok (.aload_n 0, 1) := by decide +kernel
theorem d_F_init_49 : decode c_F_init 49 = .ok (.iconst 1, 1) := by decide +kernel
theorem d_F_init_50 : decode c_F_init 50 = .ok (.putfield 33, 3) := by decide +kernel
theorem d_F_init_53 : decode c_F_init 53 = .ok (.return_, 1) := by decide +kernel
abbrev c_F_pushFront : ByteArray := prog_1_method_2_code
abbrev y_F_pushFront : MethodName := ⟨"FingerSpans", "pushFront", "(III)I"⟩
theorem k_F_pushFront : Cond.code y_F_pushFront c_F_pushFront 4 (some FieldType.int) ∈ lw_tbl := List.mem_of_getElem? (i := 167) (by decide +kernel)
theorem b_F_pushFront : x_ce y_F_pushFront c_F_pushFront 4 (some FieldType.int) 3 := ⟨k_F_pushFront, i_F, by decide +kernel⟩
theorem s_F_pushFront : Cond.instanceMethod y_F_pushFront ∈ lw_tbl := List.mem_of_getElem? (i := 165) (by decide +kernel)
theorem v_F_pushFront : Cond.selects "FingerSpans" y_F_pushFront y_F_pushFront ∈ lw_tbl := List.mem_of_getElem? (i := 166) (by decide +kernel)
theorem d_F_pushFront_0 : decode c_F_pushFront 0 = .ok (.aload_n 0, 1) := by decide +kernel
theorem d_F_pushFront_1 : decode c_F_pushFront 1 = .ok (.iload_n 1, 1) := by decide +kernel
theorem d_F_pushFront_2 : decode c_F_pushFront 2 = .ok (.invokevirtual 37, 3) := by decide +kernel
theorem d_F_pushFront_5 : decode c_F_pushFront 5 = .ok (.ifCond .eq 8, 3) := by decide +kernel
theorem d_F_pushFront_8 : decode c_F_pushFront 8 = .ok (.iload_n 2, 1) := by decide +kernel
theorem d_F_pushFront_9 : decode c_F_pushFront 9 = .ok (.iload_n 3, 1) := by decide +kernel
theorem d_F_pushFront_10 : decode c_F_pushFront 10 = .ok (.if_icmp .le 5, 3) := by decide +kernel
theorem d_F_pushFront_13 : decode c_F_pushFront 13 = .ok (.iconst (-1), 1) := by decide +kernel
theorem d_F_pushFront_14 : decode c_F_pushFront 14 = .ok (.ireturn, 1) := by decide +kernel
theorem d_F_pushFront_15 : decode c_F_pushFront 15 = .ok (.aload_n 0, 1) := by decide +kernel
theorem d_F_pushFront_16 : decode c_F_pushFront 16 = .ok (.iconst 1, 1) := by decide +kernel
theorem d_F_pushFront_17 : decode c_F_pushFront 17 = .ok (.invokevirtual 41, 3) := by decide +kernel
theorem d_F_pushFront_20 : decode c_F_pushFront 20 = .ok (.ifCond .eq 17, 3) := by decide +kernel
theorem d_F_pushFront_23 : decode c_F_pushFront 23 = .ok (.aload_n 0, 1) := by decide +kernel
theorem d_F_pushFront_24 : decode c_F_pushFront 24 = .ok (.getfield 25, 3) := by decide +kernel
theorem d_F_pushFront_27 : decode c_F_pushFront 27 = .ok (.iload_n 1, 1) := by decide +kernel
theorem d_F_pushFront_28 : decode c_F_pushFront 28 = .ok (.aaload, 1) := by decide +kernel
theorem d_F_pushFront_29 : decode c_F_pushFront 29 = .ok (.getfield 44, 3) := by decide +kernel
theorem d_F_pushFront_32 : decode c_F_pushFront 32 = .ok (.bipush 40, 2) := by decide +kernel
theorem d_F_pushFront_34 : decode c_F_pushFront 34 = .ok (.if_icmp .lt 6, 3) := by decide +kernel
theorem d_F_pushFront_37 : decode c_F_pushFront 37 = .ok (.bipush (-2), 2) := by decide +kernel
theorem d_F_pushFront_39 : decode c_F_pushFront 39 = .ok (.ireturn, 1) := by decide +kernel
theorem d_F_pushFront_40 : decode c_F_pushFront 40 = .ok (.aload_n 0, 1) := by decide +kernel
theorem d_F_pushFront_41 : decode c_F_pushFront 41 = .ok (.aload_n 0, 1) := by decide +kernel
theorem d_F_pushFront_42 : decode c_F_pushFront 42 = .ok (.getfield 12, 3) := by decide +kernel
theorem d_F_pushFront_45 : decode c_F_pushFront 45 = .ok (.new 47, 3) := by decide +kernel
theorem d_F_pushFront_48 : decode c_F_pushFront 48 = .ok (.dup, 1) := by decide +kernel
theorem d_F_pushFront_49 : decode c_F_pushFront 49 = .ok (.iload_n 2, 1) := by decide +kernel
theorem d_F_pushFront_50 : decode c_F_pushFront 50 = .ok (.iload_n 3, 1) := by decide +kernel
theorem d_F_pushFront_51 : decode c_F_pushFront 51 = .ok (.invokespecial 49, 3) := by decide +kernel
theorem d_F_pushFront_54 : decode c_F_pushFront 54 = .ok (.aload_n 0, 1) := by decide +kernel
theorem d_F_pushFront_55 : decode c_F_pushFront 55 = .ok (.getfield 25, 3) := by decide +kernel
theorem d_F_pushFront_58 : decode c_F_pushFront 58 = .ok (.iload_n 1, 1) := by decide +kernel
theorem d_F_pushFront_59 : decode c_F_pushFront 59 = .ok (.aaload, 1) := by decide +kernel
theorem d_F_pushFront_60 : decode c_F_pushFront 60 = .ok (.invokevirtual 52, 3) := by decide +kernel
theorem d_F_pushFront_63 : decode c_F_pushFront 63 = .ok (.invokevirtual 56, 3) := by decide +kernel
theorem d_F_pushFront_66 : decode c_F_pushFront 66 = .ok (.ireturn, 1) := by decide +kernel
abbrev c_F_pushBack : ByteArray := prog_1_method_3_code
abbrev y_F_pushBack : MethodName := ⟨"FingerSpans", "pushBack", "(III)I"⟩
theorem k_F_pushBack : Cond.code y_F_pushBack c_F_pushBack 4 (some FieldType.int) ∈ lw_tbl := List.mem_of_getElem? (i := 251) (by decide +kernel)
theorem b_F_pushBack : x_ce y_F_pushBack c_F_pushBack 4 (some FieldType.int) 3 := ⟨k_F_pushBack, i_F, by decide +kernel⟩
theorem s_F_pushBack : Cond.instanceMethod y_F_pushBack ∈ lw_tbl := List.mem_of_getElem? (i := 249) (by decide +kernel)
theorem v_F_pushBack : Cond.selects "FingerSpans" y_F_pushBack y_F_pushBack ∈ lw_tbl := List.mem_of_getElem? (i := 250) (by decide +kernel)
theorem d_F_pushBack_0 : decode c_F_pushBack 0 = .ok (.aload_n 0, 1) := by decide +kernel
theorem d_F_pushBack_1 : decode c_F_pushBack 1 = .ok (.iload_n 1, 1) := by decide +kernel
theorem d_F_pushBack_2 : decode c_F_pushBack 2 = .ok (.invokevirtual 37, 3) := by decide +kernel
theorem d_F_pushBack_5 : decode c_F_pushBack 5 = .ok (.ifCond .eq 8, 3) := by decide +kernel
theorem d_F_pushBack_8 : decode c_F_pushBack 8 = .ok (.iload_n 2, 1) := by decide +kernel
theorem d_F_pushBack_9 : decode c_F_pushBack 9 = .ok (.iload_n 3, 1) := by decide +kernel
theorem d_F_pushBack_10 : decode c_F_pushBack 10 = .ok (.if_icmp .le 5, 3) := by decide +kernel
theorem d_F_pushBack_13 : decode c_F_pushBack 13 = .ok (.iconst (-1), 1) := by decide +kernel
theorem d_F_pushBack_14 : decode c_F_pushBack 14 = .ok (.ireturn, 1) := by decide +kernel
theorem d_F_pushBack_15 : decode c_F_pushBack 15 = .ok (.aload_n 0, 1) := by decide +kernel
theorem d_F_pushBack_16 : decode c_F_pushBack 16 = .ok (.iconst 1, 1) := by decide +kernel
theorem d_F_pushBack_17 : decode c_F_pushBack 17 = .ok (.invokevirtual 41, 3) := by decide +kernel
theorem d_F_pushBack_20 : decode c_F_pushBack 20 = .ok (.ifCond .eq 17, 3) := by decide +kernel
theorem d_F_pushBack_23 : decode c_F_pushBack 23 = .ok (.aload_n 0, 1) := by decide +kernel
theorem d_F_pushBack_24 : decode c_F_pushBack 24 = .ok (.getfield 25, 3) := by decide +kernel
theorem d_F_pushBack_27 : decode c_F_pushBack 27 = .ok (.iload_n 1, 1) := by decide +kernel
theorem d_F_pushBack_28 : decode c_F_pushBack 28 = .ok (.aaload, 1) := by decide +kernel
theorem d_F_pushBack_29 : decode c_F_pushBack 29 = .ok (.getfield 44, 3) := by decide +kernel
theorem d_F_pushBack_32 : decode c_F_pushBack 32 = .ok (.bipush 40, 2) := by decide +kernel
theorem d_F_pushBack_34 : decode c_F_pushBack 34 = .ok (.if_icmp .lt 6, 3) := by decide +kernel
theorem d_F_pushBack_37 : decode c_F_pushBack 37 = .ok (.bipush (-2), 2) := by decide +kernel
theorem d_F_pushBack_39 : decode c_F_pushBack 39 = .ok (.ireturn, 1) := by decide +kernel
theorem d_F_pushBack_40 : decode c_F_pushBack 40 = .ok (.aload_n 0, 1) := by decide +kernel
theorem d_F_pushBack_41 : decode c_F_pushBack 41 = .ok (.aload_n 0, 1) := by decide +kernel
theorem d_F_pushBack_42 : decode c_F_pushBack 42 = .ok (.getfield 12, 3) := by decide +kernel
theorem d_F_pushBack_45 : decode c_F_pushBack 45 = .ok (.aload_n 0, 1) := by decide +kernel
theorem d_F_pushBack_46 : decode c_F_pushBack 46 = .ok (.getfield 25, 3) := by decide +kernel
theorem d_F_pushBack_49 : decode c_F_pushBack 49 = .ok (.iload_n 1, 1) := by decide +kernel
theorem d_F_pushBack_50 : decode c_F_pushBack 50 = .ok (.aaload, 1) := by decide +kernel
theorem d_F_pushBack_51 : decode c_F_pushBack 51 = .ok (.new 47, 3) := by decide +kernel
theorem d_F_pushBack_54 : decode c_F_pushBack 54 = .ok (.dup, 1) := by decide +kernel
theorem d_F_pushBack_55 : decode c_F_pushBack 55 = .ok (.iload_n 2, 1) := by decide +kernel
theorem d_F_pushBack_56 : decode c_F_pushBack 56 = .ok (.iload_n 3, 1) := by decide +kernel
theorem d_F_pushBack_57 : decode c_F_pushBack 57 = .ok (.invokespecial 49, 3) := by decide +kernel
theorem d_F_pushBack_60 : decode c_F_pushBack 60 = .ok (.invokevirtual 60, 3) := by decide +kernel
theorem d_F_pushBack_63 : decode c_F_pushBack 63 = .ok (.invokevirtual 56, 3) := by decide +kernel
theorem d_F_pushBack_66 : decode c_F_pushBack 66 = .ok (.ireturn, 1) := by decide +kernel
abbrev c_F_popFront : ByteArray := prog_1_method_4_code
abbrev y_F_popFront : MethodName := ⟨"FingerSpans", "popFront", "(I)I"⟩
theorem k_F_popFront : Cond.code y_F_popFront c_F_popFront 2 (some FieldType.int) ∈ lw_tbl := List.mem_of_getElem? (i := 268) (by decide +kernel)
theorem b_F_popFront : x_ce y_F_popFront c_F_popFront 2 (some FieldType.int) 1 := ⟨k_F_popFront, i_F, by decide +kernel⟩
theorem s_F_popFront : Cond.instanceMethod y_F_popFront ∈ lw_tbl := List.mem_of_getElem? (i := 266) (by decide +kernel)
theorem v_F_popFront : Cond.selects "FingerSpans" y_F_popFront y_F_popFront ∈ lw_tbl := List.mem_of_getElem? (i := 267) (by decide +kernel)
theorem d_F_popFront_0 : decode c_F_popFront 0 = .ok (.aload_n 0, 1) := by decide +kernel
theorem d_F_popFront_1 : decode c_F_popFront 1 = .ok (.iload_n 1, 1) := by decide +kernel
theorem d_F_popFront_2 : decode c_F_popFront 2 = .ok (.invokevirtual 37, 3) := by decide +kernel
theorem d_F_popFront_5 : decode c_F_popFront 5 = .ok (.ifCond .eq 15, 3) := by decide +kernel
theorem d_F_popFront_8 : decode c_F_popFront 8 = .ok (.aload_n 0, 1) := by decide +kernel
theorem d_F_popFront_9 : decode c_F_popFront 9 = .ok (.getfield 25, 3) := by decide +kernel
theorem d_F_popFront_12 : decode c_F_popFront 12 = .ok (.iload_n 1, 1) := by decide +kernel
theorem d_F_popFront_13 : decode c_F_popFront 13 = .ok (.aaload, 1) := by decide +kernel
theorem d_F_popFront_14 : decode c_F_popFront 14 = .ok (.invokevirtual 64, 3) := by decide +kernel
theorem d_F_popFront_17 : decode c_F_popFront 17 = .ok (.ifCond .eq 5, 3) := by decide +kernel
theorem d_F_popFront_20 : decode c_F_popFront 20 = .ok (.iconst (-1), 1) := by decide +kernel
theorem d_F_popFront_21 : decode c_F_popFront 21 = .ok (.ireturn, 1) := by decide +kernel
theorem d_F_popFront_22 : decode c_F_popFront 22 = .ok (.aload_n 0, 1) := by decide +kernel
theorem d_F_popFront_23 : decode c_F_popFront 23 = .ok (.iconst 1, 1) := by decide +kernel
theorem d_F_popFront_24 : decode c_F_popFront 24 = .ok (.invokevirtual 41, 3) := by decide +kernel
theorem d_F_popFront_27 : decode c_F_popFront 27 = .ok (.ifCond .ne 6, 3) := by decide +kernel
theorem d_F_popFront_30 : decode c_F_popFront 30 = .ok (.bipush (-2), 2) := by decide +kernel
theorem d_F_popFront_32 : decode c_F_popFront 32 = .ok (.ireturn, 1) := by decide +kernel
theorem d_F_popFront_33 : decode c_F_popFront 33 = .ok (.aload_n 0, 1) := by decide +kernel
theorem d_F_popFront_34 : decode c_F_popFront 34 = .ok (.aload_n 0, 1) := by decide +kernel
theorem d_F_popFront_35 : decode c_F_popFront 35 = .ok (.getfield 12, 3) := by decide +kernel
theorem d_F_popFront_38 : decode c_F_popFront 38 = .ok (.aload_n 0, 1) := by decide +kernel
theorem d_F_popFront_39 : decode c_F_popFront 39 = .ok (.getfield 25, 3) := by decide +kernel
theorem d_F_popFront_42 : decode c_F_popFront 42 = .ok (.iload_n 1, 1) := by decide +kernel
theorem d_F_popFront_43 : decode c_F_popFront 43 = .ok (.aaload, 1) := by decide +kernel
theorem d_F_popFront_44 : decode c_F_popFront 44 = .ok (.invokevirtual 68, 3) := by decide +kernel
theorem d_F_popFront_47 : decode c_F_popFront 47 = .ok (.invokevirtual 56, 3) := by decide +kernel
theorem d_F_popFront_50 : decode c_F_popFront 50 = .ok (.ireturn, 1) := by decide +kernel
abbrev c_F_popBack : ByteArray := prog_1_method_5_code
abbrev y_F_popBack : MethodName := ⟨"FingerSpans", "popBack", "(I)I"⟩
theorem k_F_popBack : Cond.code y_F_popBack c_F_popBack 2 (some FieldType.int) ∈ lw_tbl := List.mem_of_getElem? (i := 295) (by decide +kernel)
theorem b_F_popBack : x_ce y_F_popBack c_F_popBack 2 (some FieldType.int) 1 := ⟨k_F_popBack, i_F, by decide +kernel⟩
theorem s_F_popBack : Cond.instanceMethod y_F_popBack ∈ lw_tbl := List.mem_of_getElem? (i := 293) (by decide +kernel)
theorem v_F_popBack : Cond.selects "FingerSpans" y_F_popBack y_F_popBack ∈ lw_tbl := List.mem_of_getElem? (i := 294) (by decide +kernel)
theorem d_F_popBack_0 : decode c_F_popBack 0 = .ok (.aload_n 0, 1) := by decide +kernel
theorem d_F_popBack_1 : decode c_F_popBack 1 = .ok (.iload_n 1, 1) := by decide +kernel
theorem d_F_popBack_2 : decode c_F_popBack 2 = .ok (.invokevirtual 37, 3) := by decide +kernel
theorem d_F_popBack_5 : decode c_F_popBack 5 = .ok (.ifCond .eq 15, 3) := by decide +kernel
theorem d_F_popBack_8 : decode c_F_popBack 8 = .ok (.aload_n 0, 1) := by decide +kernel
theorem d_F_popBack_9 : decode c_F_popBack 9 = .ok (.getfield 25, 3) := by decide +kernel
theorem d_F_popBack_12 : decode c_F_popBack 12 = .ok (.iload_n 1, 1) := by decide +kernel
theorem d_F_popBack_13 : decode c_F_popBack 13 = .ok (.aaload, 1) := by decide +kernel
theorem d_F_popBack_14 : decode c_F_popBack 14 = .ok (.invokevirtual 64, 3) := by decide +kernel
theorem d_F_popBack_17 : decode c_F_popBack 17 = .ok (.ifCond .eq 5, 3) := by decide +kernel
theorem d_F_popBack_20 : decode c_F_popBack 20 = .ok (.iconst (-1), 1) := by decide +kernel
theorem d_F_popBack_21 : decode c_F_popBack 21 = .ok (.ireturn, 1) := by decide +kernel
theorem d_F_popBack_22 : decode c_F_popBack 22 = .ok (.aload_n 0, 1) := by decide +kernel
theorem d_F_popBack_23 : decode c_F_popBack 23 = .ok (.iconst 1, 1) := by decide +kernel
theorem d_F_popBack_24 : decode c_F_popBack 24 = .ok (.invokevirtual 41, 3) := by decide +kernel
theorem d_F_popBack_27 : decode c_F_popBack 27 = .ok (.ifCond .ne 6, 3) := by decide +kernel
theorem d_F_popBack_30 : decode c_F_popBack 30 = .ok (.bipush (-2), 2) := by decide +kernel
theorem d_F_popBack_32 : decode c_F_popBack 32 = .ok (.ireturn, 1) := by decide +kernel
theorem d_F_popBack_33 : decode c_F_popBack 33 = .ok (.aload_n 0, 1) := by decide +kernel
theorem d_F_popBack_34 : decode c_F_popBack 34 = .ok (.aload_n 0, 1) := by decide +kernel
theorem d_F_popBack_35 : decode c_F_popBack 35 = .ok (.getfield 12, 3) := by decide +kernel
theorem d_F_popBack_38 : decode c_F_popBack 38 = .ok (.aload_n 0, 1) := by decide +kernel
theorem d_F_popBack_39 : decode c_F_popBack 39 = .ok (.getfield 25, 3) := by decide +kernel
theorem d_F_popBack_42 : decode c_F_popBack 42 = .ok (.iload_n 1, 1) := by decide +kernel
theorem d_F_popBack_43 : decode c_F_popBack 43 = .ok (.aaload, 1) := by decide +kernel
theorem d_F_popBack_44 : decode c_F_popBack 44 = .ok (.invokevirtual 72, 3) := by decide +kernel
theorem d_F_popBack_47 : decode c_F_popBack 47 = .ok (.invokevirtual 56, 3) := by decide +kernel
theorem d_F_popBack_50 : decode c_F_popBack 50 = .ok (.ireturn, 1) := by decide +kernel
abbrev c_F_concat : ByteArray := prog_1_method_6_code
abbrev y_F_concat : MethodName := ⟨"FingerSpans", "concat", "(II)I"⟩
theorem k_F_concat : Cond.code y_F_concat c_F_concat 3 (some FieldType.int) ∈ lw_tbl := List.mem_of_getElem? (i := 300) (by decide +kernel)
theorem b_F_concat : x_ce y_F_concat c_F_concat 3 (some FieldType.int) 2 := ⟨k_F_concat, i_F, by decide +kernel⟩
theorem s_F_concat : Cond.instanceMethod y_F_concat ∈ lw_tbl := List.mem_of_getElem? (i := 298) (by decide +kernel)
theorem v_F_concat : Cond.selects "FingerSpans" y_F_concat y_F_concat ∈ lw_tbl := List.mem_of_getElem? (i := 299) (by decide +kernel)
theorem d_F_concat_0 : decode c_F_concat 0 = .ok (.aload_n 0, 1) := by decide +kernel
theorem d_F_concat_1 : decode c_F_concat 1 = .ok (.iload_n 1, 1) := by decide +kernel
theorem d_F_concat_2 : decode c_F_concat 2 = .ok (.invokevirtual 37, 3) := by decide +kernel
theorem d_F_concat_5 : decode c_F_concat 5 = .ok (.ifCond .eq 11, 3) := by decide +kernel
theorem d_F_concat_8 : decode c_F_concat 8 = .ok (.aload_n 0, 1) := by decide +kernel
theorem d_F_concat_9 : decode c_F_concat 9 = .ok (.iload_n 2, 1) := by decide +kernel
theorem d_F_concat_10 : decode c_F_concat 10 = .ok (.invokevirtual 37, 3) := by decide +kernel
theorem d_F_concat_13 : decode c_F_concat 13 = .ok (.ifCond .ne 5, 3) := by decide +kernel
theorem d_F_concat_16 : decode c_F_concat 16 = .ok (.iconst (-1), 1) := by decide +kernel
theorem d_F_concat_17 : decode c_F_concat 17 = .ok (.ireturn, 1) := by decide +kernel
theorem d_F_concat_18 : decode c_F_concat 18 = .ok (.aload_n 0, 1) := by decide +kernel
theorem d_F_concat_19 : decode c_F_concat 19 = .ok (.iconst 1, 1) := by decide +kernel
theorem d_F_concat_20 : decode c_F_concat 20 = .ok (.invokevirtual 41, 3) := by decide +kernel
theorem d_F_concat_23 : decode c_F_concat 23 = .ok (.ifCond .eq 27, 3) := by decide +kernel
theorem d_F_concat_26 : decode c_F_concat 26 = .ok (.aload_n 0, 1) := by decide +kernel
theorem d_F_concat_27 : decode c_F_concat 27 = .ok (.getfield 25, 3) := by decide +kernel
theorem d_F_concat_30 : decode c_F_concat 30 = .ok (.iload_n 1, 1) := by decide +kernel
theorem d_F_concat_31 : decode c_F_concat 31 = .ok (.aaload, 1) := by decide +kernel
theorem d_F_concat_32 : decode c_F_concat 32 = .ok (.getfield 44, 3) := by decide +kernel
theorem d_F_concat_35 : decode c_F_concat 35 = .ok (.aload_n 0, 1) := by decide +kernel
theorem d_F_concat_36 : decode c_F_concat 36 = .ok (.getfield 25, 3) := by decide +kernel
theorem d_F_concat_39 : decode c_F_concat 39 = .ok (.iload_n 2, 1) := by decide +kernel
theorem d_F_concat_40 : decode c_F_concat 40 = .ok (.aaload, 1) := by decide +kernel
theorem d_F_concat_41 : decode c_F_concat 41 = .ok (.getfield 44, 3) := by decide +kernel
theorem d_F_concat_44 : decode c_F_concat 44 = .ok (.iadd, 1) := by decide +kernel
theorem d_F_concat_45 : decode c_F_concat 45 = .ok (.bipush 40, 2) := by decide +kernel
theorem d_F_concat_47 : decode c_F_concat 47 = .ok (.if_icmp .le 6, 3) := by decide +kernel
theorem d_F_concat_50 : decode c_F_concat 50 = .ok (.bipush (-2), 2) := by decide +kernel
theorem d_F_concat_52 : decode c_F_concat 52 = .ok (.ireturn, 1) := by decide +kernel
theorem d_F_concat_53 : decode c_F_concat 53 = .ok (.aload_n 0, 1) := by decide +kernel
theorem d_F_concat_54 : decode c_F_concat 54 = .ok (.aload_n 0, 1) := by decide +kernel
theorem d_F_concat_55 : decode c_F_concat 55 = .ok (.getfield 12, 3) := by decide +kernel
theorem d_F_concat_58 : decode c_F_concat 58 = .ok (.aload_n 0, 1) := by decide +kernel
theorem d_F_concat_59 : decode c_F_concat 59 = .ok (.getfield 25, 3) := by decide +kernel
theorem d_F_concat_62 : decode c_F_concat 62 = .ok (.iload_n 1, 1) := by decide +kernel
theorem d_F_concat_63 : decode c_F_concat 63 = .ok (.aaload, 1) := by decide +kernel
theorem d_F_concat_64 : decode c_F_concat 64 = .ok (.aload_n 0, 1) := by decide +kernel
theorem d_F_concat_65 : decode c_F_concat 65 = .ok (.getfield 12, 3) := by decide +kernel
theorem d_F_concat_68 : decode c_F_concat 68 = .ok (.getfield 75, 3) := by decide +kernel
theorem d_F_concat_71 : decode c_F_concat 71 = .ok (.aload_n 0, 1) := by decide +kernel
theorem d_F_concat_72 : decode c_F_concat 72 = .ok (.getfield 25, 3) := by decide +kernel
theorem d_F_concat_75 : decode c_F_concat 75 = .ok (.iload_n 2, 1) := by decide +kernel
theorem d_F_concat_76 : decode c_F_concat 76 = .ok (.aaload, 1) := by decide +kernel
theorem d_F_concat_77 : decode c_F_concat 77 = .ok (.invokevirtual 79, 3) := by decide +kernel
theorem d_F_concat_80 : decode c_F_concat 80 = .ok (.invokevirtual 56, 3) := by decide +kernel
theorem d_F_concat_83 : decode c_F_concat 83 = .ok (.ireturn, 1) := by decide +kernel
abbrev c_F_split : ByteArray := prog_1_method_7_code
abbrev y_F_split : MethodName := ⟨"FingerSpans", "split", "(II)I"⟩
theorem k_F_split : Cond.code y_F_split c_F_split 5 (some FieldType.int) ∈ lw_tbl := List.mem_of_getElem? (i := 321) (by decide +kernel)
theorem b_F_split : x_ce y_F_split c_F_split 5 (some FieldType.int) 2 := ⟨k_F_split, i_F, by decide +kernel⟩
theorem s_F_split : Cond.instanceMethod y_F_split ∈ lw_tbl := List.mem_of_getElem? (i := 319) (by decide +kernel)
theorem v_F_split : Cond.selects "FingerSpans" y_F_split y_F_split ∈ lw_tbl := List.mem_of_getElem? (i := 320) (by decide +kernel)
theorem d_F_split_0 : decode c_F_split 0 = .ok (.aload_n 0, 1) := by decide +kernel
theorem d_F_split_1 : decode c_F_split 1 = .ok (.iload_n 1, 1) := by decide +kernel
theorem d_F_split_2 : decode c_F_split 2 = .ok (.invokevirtual 37, 3) := by decide +kernel
theorem d_F_split_5 : decode c_F_split 5 = .ok (.ifCond .eq 20, 3) := by decide +kernel
theorem d_F_split_8 : decode c_F_split 8 = .ok (.iload_n 2, 1) := by decide +kernel
theorem d_F_split_9 : decode c_F_split 9 = .ok (.ifCond .lt 16, 3) := by decide +kernel
theorem d_F_split_12 : decode c_F_split 12 = .ok (.iload_n 2, 1) := by decide +kernel
theorem d_F_split_13 : decode c_F_split 13 = .ok (.aload_n 0, 1) := by decide +kernel
theorem d_F_split_14 : decode c_F_split 14 = .ok (.getfield 25, 3) := by decide +kernel
theorem d_F_split_17 : decode c_F_split 17 = .ok (.iload_n 1, 1) := by decide +kernel
theorem d_F_split_18 : decode c_F_split 18 = .ok (.aaload, 1) := by decide +kernel
theorem d_F_split_19 : decode c_F_split 19 = .ok (.getfield 44, 3) := by decide +kernel
theorem d_F_split_22 : decode c_F_split 22 = .ok (.if_icmp .le 5, 3) := by decide +kernel
theorem d_F_split_25 : decode c_F_split 25 = .ok (.iconst (-1), 1) := by decide +kernel
theorem d_F_split_26 : decode c_F_split 26 = .ok (.ireturn, 1) := by decide +kernel
theorem d_F_split_27 : decode c_F_split 27 = .ok (.aload_n 0, 1) := by decide +kernel
theorem d_F_split_28 : decode c_F_split 28 = .ok (.iconst 2, 1) := by decide +kernel
theorem d_F_split_29 : decode c_F_split 29 = .ok (.invokevirtual 41, 3) := by decide +kernel
theorem d_F_split_32 : decode c_F_split 32 = .ok (.ifCond .ne 6, 3) := by decide +kernel
theorem d_F_split_35 : decode c_F_split 35 = .ok (.bipush (-2), 2) := by decide +kernel
theorem d_F_split_37 : decode c_F_split 37 = .ok (.ireturn, 1) := by decide +kernel
theorem d_F_split_38 : decode c_F_split 38 = .ok (.aload_n 0, 1) := by decide +kernel
theorem d_F_split_39 : decode c_F_split 39 = .ok (.getfield 12, 3) := by decide +kernel
theorem d_F_split_42 : decode c_F_split 42 = .ok (.aload_n 0, 1) := by decide +kernel
theorem d_F_split_43 : decode c_F_split 43 = .ok (.getfield 25, 3) := by decide +kernel
theorem d_F_split_46 : decode c_F_split 46 = .ok (.iload_n 1, 1) := by decide +kernel
theorem d_F_split_47 : decode c_F_split 47 = .ok (.aaload, 1) := by decide +kernel
theorem d_F_split_48 : decode c_F_split 48 = .ok (.iload_n 2, 1) := by decide +kernel
theorem d_F_split_49 : decode c_F_split 49 = .ok (.invokevirtual 83, 3) := by decide +kernel
theorem d_F_split_52 : decode c_F_split 52 = .ok (.astore_n 3, 1) := by decide +kernel
theorem d_F_split_53 : decode c_F_split 53 = .ok (.aload_n 0, 1) := by decide +kernel
theorem d_F_split_54 : decode c_F_split 54 = .ok (.aload_n 3, 1) := by decide +kernel
theorem d_F_split_55 : decode c_F_split 55 = .ok (.getfield 87, 3) := by decide +kernel
theorem d_F_split_58 : decode c_F_split 58 = .ok (.invokevirtual 56, 3) := by decide +kernel
theorem d_F_split_61 : decode c_F_split 61 = .ok (.istore 4, 2) := by decide +kernel
theorem d_F_split_63 : decode c_F_split 63 = .ok (.aload_n 0, 1) := by decide +kernel
theorem d_F_split_64 : decode c_F_split 64 = .ok (.aload_n 3, 1) := by decide +kernel
theorem d_F_split_65 : decode c_F_split 65 = .ok (.getfield 92, 3) := by decide +kernel
theorem d_F_split_68 : decode c_F_split 68 = .ok (.invokevirtual 56, 3) := by decide +kernel
theorem d_F_split_71 : decode c_F_split 71 = .ok (.pop, 1) := by decide +kernel
theorem d_F_split_72 : decode c_F_split 72 = .ok (.iload 4, 2) := by decide +kernel
theorem d_F_split_74 : decode c_F_split 74 = .ok (.ireturn, 1) := by decide +kernel
abbrev c_F_replace : ByteArray := prog_1_method_8_code
abbrev y_F_replace : MethodName := ⟨"FingerSpans", "replace", "(IIII)I"⟩
theorem k_F_replace : Cond.code y_F_replace c_F_replace 5 (some FieldType.int) ∈ lw_tbl := List.mem_of_getElem? (i := 381) (by decide +kernel)
theorem b_F_replace : x_ce y_F_replace c_F_replace 5 (some FieldType.int) 4 := ⟨k_F_replace, i_F, by decide +kernel⟩
theorem s_F_replace : Cond.instanceMethod y_F_replace ∈ lw_tbl := List.mem_of_getElem? (i := 379) (by decide +kernel)
theorem v_F_replace : Cond.selects "FingerSpans" y_F_replace y_F_replace ∈ lw_tbl := List.mem_of_getElem? (i := 380) (by decide +kernel)
theorem d_F_replace_0 : decode c_F_replace 0 = .ok (.aload_n 0, 1) := by decide +kernel
theorem d_F_replace_1 : decode c_F_replace 1 = .ok (.iload_n 1, 1) := by decide +kernel
theorem d_F_replace_2 : decode c_F_replace 2 = .ok (.iload_n 2, 1) := by decide +kernel
theorem d_F_replace_3 : decode c_F_replace 3 = .ok (.invokevirtual 95, 3) := by decide +kernel
theorem d_F_replace_6 : decode c_F_replace 6 = .ok (.ifCond .eq 9, 3) := by decide +kernel
theorem d_F_replace_9 : decode c_F_replace 9 = .ok (.iload_n 3, 1) := by decide +kernel
theorem d_F_replace_10 : decode c_F_replace 10 = .ok (.iload 4, 2) := by decide +kernel
theorem d_F_replace_12 : decode c_F_replace 12 = .ok (.if_icmp .le 5, 3) := by decide +kernel
theorem d_F_replace_15 : decode c_F_replace 15 = .ok (.iconst (-1), 1) := by decide +kernel
theorem d_F_replace_16 : decode c_F_replace 16 = .ok (.ireturn, 1) := by decide +kernel
theorem d_F_replace_17 : decode c_F_replace 17 = .ok (.aload_n 0, 1) := by decide +kernel
theorem d_F_replace_18 : decode c_F_replace 18 = .ok (.iconst 1, 1) := by decide +kernel
theorem d_F_replace_19 : decode c_F_replace 19 = .ok (.invokevirtual 41, 3) := by decide +kernel
theorem d_F_replace_22 : decode c_F_replace 22 = .ok (.ifCond .ne 6, 3) := by decide +kernel
theorem d_F_replace_25 : decode c_F_replace 25 = .ok (.bipush (-2), 2) := by decide +kernel
theorem d_F_replace_27 : decode c_F_replace 27 = .ok (.ireturn, 1) := by decide +kernel
theorem d_F_replace_28 : decode c_F_replace 28 = .ok (.aload_n 0, 1) := by decide +kernel
theorem d_F_replace_29 : decode c_F_replace 29 = .ok (.aload_n 0, 1) := by decide +kernel
theorem d_F_replace_30 : decode c_F_replace 30 = .ok (.getfield 12, 3) := by decide +kernel
theorem d_F_replace_33 : decode c_F_replace 33 = .ok (.aload_n 0, 1) := by decide +kernel
theorem d_F_replace_34 : decode c_F_replace 34 = .ok (.getfield 25, 3) := by decide +kernel
theorem d_F_replace_37 : decode c_F_replace 37 = .ok (.iload_n 1, 1) := by decide +kernel
theorem d_F_replace_38 : decode c_F_replace 38 = .ok (.aaload, 1) := by decide +kernel
theorem d_F_replace_39 : decode c_F_replace 39 = .ok (.iload_n 2, 1) := by decide +kernel
theorem d_F_replace_40 : decode c_F_replace 40 = .ok (.new 47, 3) := by decide +kernel
theorem d_F_replace_43 : decode c_F_replace 43 = .ok (.dup, 1) := by decide +kernel
theorem d_F_replace_44 : decode c_F_replace 44 = .ok (.iload_n 3, 1) := by decide +kernel
theorem d_F_replace_45 : decode c_F_replace 45 = .ok (.iload 4, 2) := by decide +kernel
theorem d_F_replace_47 : decode c_F_replace 47 = .ok (.invokespecial 49, 3) := by decide +kernel
theorem d_F_replace_50 : decode c_F_replace 50 = .ok (.invokevirtual 99, 3) := by decide +kernel
theorem d_F_replace_53 : decode c_F_replace 53 = .ok (.invokevirtual 56, 3) := by decide +kernel
theorem d_F_replace_56 : decode c_F_replace 56 = .ok (.ireturn, 1) := by decide +kernel
abbrev c_F_insert : ByteArray := prog_1_method_9_code
abbrev y_F_insert : MethodName := ⟨"FingerSpans", "insert", "(III)I"⟩
theorem k_F_insert : Cond.code y_F_insert c_F_insert 7 (some FieldType.int) ∈ lw_tbl := List.mem_of_getElem? (i := 412) (by decide +kernel)
theorem b_F_insert : x_ce y_F_insert c_F_insert 7 (some FieldType.int) 3 := ⟨k_F_insert, i_F, by decide +kernel⟩
theorem s_F_insert : Cond.instanceMethod y_F_insert ∈ lw_tbl := List.mem_of_getElem? (i := 410) (by decide +kernel)
theorem v_F_insert : Cond.selects "FingerSpans" y_F_insert y_F_insert ∈ lw_tbl := List.mem_of_getElem? (i := 411) (by decide +kernel)
theorem d_F_insert_0 : decode c_F_insert 0 = .ok (.aload_n 0, 1) := by decide +kernel
theorem d_F_insert_1 : decode c_F_insert 1 = .ok (.iload_n 1, 1) := by decide +kernel
theorem d_F_insert_2 : decode c_F_insert 2 = .ok (.invokevirtual 37, 3) := by decide +kernel
theorem d_F_insert_5 : decode c_F_insert 5 = .ok (.ifCond .eq 8, 3) := by decide +kernel
theorem d_F_insert_8 : decode c_F_insert 8 = .ok (.iload_n 2, 1) := by decide +kernel
theorem d_F_insert_9 : decode c_F_insert 9 = .ok (.iload_n 3, 1) := by decide +kernel
theorem d_F_insert_10 : decode c_F_insert 10 = .ok (.if_icmp .le 5, 3) := by decide +kernel
theorem d_F_insert_13 : decode c_F_insert 13 = .ok (.iconst (-1), 1) := by decide +kernel
theorem d_F_insert_14 : decode c_F_insert 14 = .ok (.ireturn, 1) := by decide +kernel
theorem d_F_insert_15 : decode c_F_insert 15 = .ok (.aload_n 0, 1) := by decide +kernel
theorem d_F_insert_16 : decode c_F_insert 16 = .ok (.iconst 1, 1) := by decide +kernel
theorem d_F_insert_17 : decode c_F_insert 17 = .ok (.invokevirtual 41, 3) := by decide +kernel
theorem d_F_insert_20 : decode c_F_insert 20 = .ok (.ifCond .eq 17, 3) := by decide +kernel
theorem d_F_insert_23 : decode c_F_insert 23 = .ok (.aload_n 0, 1) := by decide +kernel
theorem d_F_insert_24 : decode c_F_insert 24 = .ok (.getfield 25, 3) := by decide +kernel
theorem d_F_insert_27 : decode c_F_insert 27 = .ok (.iload_n 1, 1) := by decide +kernel
theorem d_F_insert_28 : decode c_F_insert 28 = .ok (.aaload, 1) := by decide +kernel
theorem d_F_insert_29 : decode c_F_insert 29 = .ok (.getfield 44, 3) := by decide +kernel
theorem d_F_insert_32 : decode c_F_insert 32 = .ok (.bipush 40, 2) := by decide +kernel
theorem d_F_insert_34 : decode c_F_insert 34 = .ok (.if_icmp .lt 6, 3) := by decide +kernel
theorem d_F_insert_37 : decode c_F_insert 37 = .ok (.bipush (-2), 2) := by decide +kernel
theorem d_F_insert_39 : decode c_F_insert 39 = .ok (.ireturn, 1) := by decide +kernel
theorem d_F_insert_40 : decode c_F_insert 40 = .ok (.aload_n 0, 1) := by decide +kernel
theorem d_F_insert_41 : decode c_F_insert 41 = .ok (.getfield 25, 3) := by decide +kernel
theorem d_F_insert_44 : decode c_F_insert 44 = .ok (.iload_n 1, 1) := by decide +kernel
theorem d_F_insert_45 : decode c_F_insert 45 = .ok (.aaload, 1) := by decide +kernel
theorem d_F_insert_46 : decode c_F_insert 46 = .ok (.iconst 1, 1) := by decide +kernel
theorem d_F_insert_47 : decode c_F_insert 47 = .ok (.iload_n 2, 1) := by decide +kernel
theorem d_F_insert_48 : decode c_F_insert 48 = .ok (.i2l, 1) := by decide +kernel
theorem d_F_insert_49 : decode c_F_insert 49 = .ok (.invokestatic 103, 3) := by decide +kernel
theorem d_F_insert_52 : decode c_F_insert 52 = .ok (.istore 4, 2) := by decide +kernel
theorem d_F_insert_54 : decode c_F_insert 54 = .ok (.aload_n 0, 1) := by decide +kernel
theorem d_F_insert_55 : decode c_F_insert 55 = .ok (.getfield 12, 3) := by decide +kernel
theorem d_F_insert_58 : decode c_F_insert 58 = .ok (.aload_n 0, 1) := by decide +kernel
theorem d_F_insert_59 : decode c_F_insert 59 = .ok (.getfield 25, 3) := by decide +kernel
theorem d_F_insert_62 : decode c_F_insert 62 = .ok (.iload_n 1, 1) := by decide +kernel
theorem d_F_insert_63 : decode c_F_insert 63 = .ok (.aaload, 1) := by decide +kernel
theorem d_F_insert_64 : decode c_F_insert 64 = .ok (.iload 4, 2) := by decide +kernel
theorem d_F_insert_66 : decode c_F_insert 66 = .ok (.invokevirtual 83, 3) := by decide +kernel
theorem d_F_insert_69 : decode c_F_insert 69 = .ok (.astore 5, 2) := by decide +kernel
theorem d_F_insert_71 : decode c_F_insert 71 = .ok (.aload_n 0, 1) := by decide +kernel
theorem d_F_insert_72 : decode c_F_insert 72 = .ok (.getfield 12, 3) := by decide +kernel
theorem d_F_insert_75 : decode c_F_insert 75 = .ok (.new 47, 3) := by decide +kernel
theorem d_F_insert_78 : decode c_F_insert 78 = .ok (.dup, 1) := by decide +kernel
theorem d_F_insert_79 : decode c_F_insert 79 = .ok (.iload_n 2, 1) := by decide +kernel
theorem d_F_insert_80 : decode c_F_insert 80 = .ok (.iload_n 3, 1) := by decide +kernel
theorem d_F_insert_81 : decode c_F_insert 81 = .ok (.invokespecial 49, 3) := by decide +kernel
theorem d_F_insert_84 : decode c_F_insert 84 = .ok (.aload 5, 2) := by decide +kernel
theorem d_F_insert_86 : decode c_F_insert 86 = .ok (.getfield 92, 3) := by decide +kernel
theorem d_F_insert_89 : decode c_F_insert 89 = .ok (.invokevirtual 52, 3) := by decide +kernel
theorem d_F_insert_92 : decode c_F_insert 92 = .ok (.astore 6, 2) := by decide +kernel
theorem d_F_insert_94 : decode c_F_insert 94 = .ok (.aload_n 0, 1) := by decide +kernel
theorem d_F_insert_95 : decode c_F_insert 95 = .ok (.aload_n 0, 1) := by decide +kernel
theorem d_F_insert_96 : decode c_F_insert 96 = .ok (.getfield 12, 3) := by decide +kernel
theorem d_F_insert_99 : decode c_F_insert 99 = .ok (.aload 5, 2) := by decide +kernel
theorem d_F_insert_101 : decode c_F_insert 101 = .ok (.getfield 87, 3) := by decide +kernel
theorem d_F_insert_104 : decode c_F_insert 104 = .ok (.aload_n 0, 1) := by decide +kernel
theorem d_F_insert_105 : decode c_F_insert 105 = .ok (.getfield 12, 3) := by decide +kernel
theorem d_F_insert_108 : decode c_F_insert 108 = .ok (.getfield 75, 3) := by decide +kernel
theorem d_F_insert_111 : decode c_F_insert 111 = .ok (.aload 6, 2) := by decide +kernel
theorem d_F_insert_113 : decode c_F_insert 113 = .ok (.invokevirtual 79, 3) := by decide +kernel
theorem d_F_insert_116 : decode c_F_insert 116 = .ok (.invokevirtual 56, 3) := by decide +kernel
theorem d_F_insert_119 : decode c_F_insert 119 = .ok (.ireturn, 1) := by decide +kernel
abbrev c_F_removeTop : ByteArray := prog_1_method_10_code
abbrev y_F_removeTop : MethodName := ⟨"FingerSpans", "removeTop", "(I)I"⟩
theorem k_F_removeTop : Cond.code y_F_removeTop c_F_removeTop 5 (some FieldType.int) ∈ lw_tbl := List.mem_of_getElem? (i := 448) (by decide +kernel)
theorem b_F_removeTop : x_ce y_F_removeTop c_F_removeTop 5 (some FieldType.int) 1 := ⟨k_F_removeTop, i_F, by decide +kernel⟩
theorem s_F_removeTop : Cond.instanceMethod y_F_removeTop ∈ lw_tbl := List.mem_of_getElem? (i := 446) (by decide +kernel)
theorem v_F_removeTop : Cond.selects "FingerSpans" y_F_removeTop y_F_removeTop ∈ lw_tbl := List.mem_of_getElem? (i := 447) (by decide +kernel)
theorem d_F_removeTop_0 : decode c_F_removeTop 0 = .ok (.aload_n 0, 1) := by decide +kernel
theorem d_F_removeTop_1 : decode c_F_removeTop 1 = .ok (.iload_n 1, 1) := by decide +kernel
theorem d_F_removeTop_2 : decode c_F_removeTop 2 = .ok (.invokevirtual 37, 3) := by decide +kernel
theorem d_F_removeTop_5 : decode c_F_removeTop 5 = .ok (.ifCond .eq 15, 3) := by decide +kernel
theorem d_F_removeTop_8 : decode c_F_removeTop 8 = .ok (.aload_n 0, 1) := by decide +kernel
theorem d_F_removeTop_9 : decode c_F_removeTop 9 = .ok (.getfield 25, 3) := by decide +kernel
theorem d_F_removeTop_12 : decode c_F_removeTop 12 = .ok (.iload_n 1, 1) := by decide +kernel
theorem d_F_removeTop_13 : decode c_F_removeTop 13 = .ok (.aaload, 1) := by decide +kernel
theorem d_F_removeTop_14 : decode c_F_removeTop 14 = .ok (.invokevirtual 64, 3) := by decide +kernel
theorem d_F_removeTop_17 : decode c_F_removeTop 17 = .ok (.ifCond .eq 5, 3) := by decide +kernel
theorem d_F_removeTop_20 : decode c_F_removeTop 20 = .ok (.iconst (-1), 1) := by decide +kernel
theorem d_F_removeTop_21 : decode c_F_removeTop 21 = .ok (.ireturn, 1) := by decide +kernel
theorem d_F_removeTop_22 : decode c_F_removeTop 22 = .ok (.aload_n 0, 1) := by decide +kernel
theorem d_F_removeTop_23 : decode c_F_removeTop 23 = .ok (.iconst 1, 1) := by decide +kernel
theorem d_F_removeTop_24 : decode c_F_removeTop 24 = .ok (.invokevirtual 41, 3) := by decide +kernel
theorem d_F_removeTop_27 : decode c_F_removeTop 27 = .ok (.ifCond .ne 6, 3) := by decide +kernel
theorem d_F_removeTop_30 : decode c_F_removeTop 30 = .ok (.bipush (-2), 2) := by decide +kernel
theorem d_F_removeTop_32 : decode c_F_removeTop 32 = .ok (.ireturn, 1) := by decide +kernel
theorem d_F_removeTop_33 : decode c_F_removeTop 33 = .ok (.aload_n 0, 1) := by decide +kernel
theorem d_F_removeTop_34 : decode c_F_removeTop 34 = .ok (.getfield 25, 3) := by decide +kernel
theorem d_F_removeTop_37 : decode c_F_removeTop 37 = .ok (.iload_n 1, 1) := by decide +kernel
theorem d_F_removeTop_38 : decode c_F_removeTop 38 = .ok (.aaload, 1) := by decide +kernel
theorem d_F_removeTop_39 : decode c_F_removeTop 39 = .ok (.iconst 2, 1) := by decide +kernel
theorem d_F_removeTop_40 : decode c_F_removeTop 40 = .ok (.invokestatic 107, 3) := by decide +kernel
theorem d_F_removeTop_43 : decode c_F_removeTop 43 = .ok (.lstore_n 2, 1) := by decide +kernel
theorem d_F_removeTop_44 : decode c_F_removeTop 44 = .ok (.aload_n 0, 1) := by decide +kernel
theorem d_F_removeTop_45 : decode c_F_removeTop 45 = .ok (.getfield 12, 3) := by decide +kernel
theorem d_F_removeTop_48 : decode c_F_removeTop 48 = .ok (.aload_n 0, 1) := by decide +kernel
theorem d_F_removeTop_49 : decode c_F_removeTop 49 = .ok (.getfield 25, 3) := by decide +kernel
theorem d_F_removeTop_52 : decode c_F_removeTop 52 = .ok (.iload_n 1, 1) := by decide +kernel
theorem d_F_removeTop_53 : decode c_F_removeTop 53 = .ok (.aaload, 1) := by decide +kernel
theorem d_F_removeTop_54 : decode c_F_removeTop 54 = .ok (.aload_n 0, 1) := by decide +kernel
theorem d_F_removeTop_55 : decode c_F_removeTop 55 = .ok (.getfield 25, 3) := by decide +kernel
theorem d_F_removeTop_58 : decode c_F_removeTop 58 = .ok (.iload_n 1, 1) := by decide +kernel
theorem d_F_removeTop_59 : decode c_F_removeTop 59 = .ok (.aaload, 1) := by decide +kernel
theorem d_F_removeTop_60 : decode c_F_removeTop 60 = .ok (.iconst 2, 1) := by decide +kernel
theorem d_F_removeTop_61 : decode c_F_removeTop 61 = .ok (.lload_n 2, 1) := by decide +kernel
theorem d_F_removeTop_62 : decode c_F_removeTop 62 = .ok (.invokestatic 103, 3) := by decide +kernel
theorem d_F_removeTop_65 : decode c_F_removeTop 65 = .ok (.invokevirtual 111, 3) := by decide +kernel
theorem d_F_removeTop_68 : decode c_F_removeTop 68 = .ok (.astore 4, 2) := by decide +kernel
theorem d_F_removeTop_70 : decode c_F_removeTop 70 = .ok (.aload_n 0, 1) := by decide +kernel
theorem d_F_removeTop_71 : decode c_F_removeTop 71 = .ok (.aload_n 0, 1) := by decide +kernel
theorem d_F_removeTop_72 : decode c_F_removeTop 72 = .ok (.getfield 12, 3) := by decide +kernel
theorem d_F_removeTop_75 : decode c_F_removeTop 75 = .ok (.aload 4, 2) := by decide +kernel
theorem d_F_removeTop_77 : decode c_F_removeTop 77 = .ok (.getfield 115, 3) := by decide +kernel
theorem d_F_removeTop_80 : decode c_F_removeTop 80 = .ok (.aload_n 0, 1) := by decide +kernel
theorem d_F_removeTop_81 : decode c_F_removeTop 81 = .ok (.getfield 12, 3) := by decide +kernel
theorem d_F_removeTop_84 : decode c_F_removeTop 84 = .ok (.getfield 75, 3) := by decide +kernel
theorem d_F_removeTop_87 : decode c_F_removeTop 87 = .ok (.aload 4, 2) := by decide +kernel
theorem d_F_removeTop_89 : decode c_F_removeTop 89 = .ok (.getfield 118, 3) := by decide +kernel
theorem d_F_removeTop_92 : decode c_F_removeTop 92 = .ok (.invokevirtual 79, 3) := by decide +kernel
theorem d_F_removeTop_95 : decode c_F_removeTop 95 = .ok (.invokevirtual 56, 3) := by decide +kernel
theorem d_F_removeTop_98 : decode c_F_removeTop 98 = .ok (.ireturn, 1) := by decide +kernel
abbrev c_F_length : ByteArray := prog_1_method_11_code
abbrev y_F_length : MethodName := ⟨"FingerSpans", "length", "(I)I"⟩
theorem k_F_length : Cond.code y_F_length c_F_length 2 (some FieldType.int) ∈ lw_tbl := List.mem_of_getElem? (i := 456) (by decide +kernel)
theorem b_F_length : x_ce y_F_length c_F_length 2 (some FieldType.int) 1 := ⟨k_F_length, i_F, by decide +kernel⟩
theorem s_F_length : Cond.instanceMethod y_F_length ∈ lw_tbl := List.mem_of_getElem? (i := 454) (by decide +kernel)
theorem v_F_length : Cond.selects "FingerSpans" y_F_length y_F_length ∈ lw_tbl := List.mem_of_getElem? (i := 455) (by decide +kernel)
theorem d_F_length_0 : decode c_F_length 0 = .ok (.aload_n 0, 1) := by decide +kernel
theorem d_F_length_1 : decode c_F_length 1 = .ok (.iload_n 1, 1) := by decide +kernel
theorem d_F_length_2 : decode c_F_length 2 = .ok (.invokevirtual 37, 3) := by decide +kernel
theorem d_F_length_5 : decode c_F_length 5 = .ok (.ifCond .eq 15, 3) := by decide +kernel
theorem d_F_length_8 : decode c_F_length 8 = .ok (.aload_n 0, 1) := by decide +kernel
theorem d_F_length_9 : decode c_F_length 9 = .ok (.getfield 25, 3) := by decide +kernel
theorem d_F_length_12 : decode c_F_length 12 = .ok (.iload_n 1, 1) := by decide +kernel
theorem d_F_length_13 : decode c_F_length 13 = .ok (.aaload, 1) := by decide +kernel
theorem d_F_length_14 : decode c_F_length 14 = .ok (.getfield 44, 3) := by decide +kernel
theorem d_F_length_17 : decode c_F_length 17 = .ok (.goto 4, 3) := by decide +kernel
theorem d_F_length_20 : decode c_F_length 20 = .ok (.iconst (-1), 1) := by decide +kernel
theorem d_F_length_21 : decode c_F_length 21 = .ok (.ireturn, 1) := by decide +kernel
abbrev c_F_low : ByteArray := prog_1_method_12_code
abbrev y_F_low : MethodName := ⟨"FingerSpans", "low", "(II)I"⟩
theorem k_F_low : Cond.code y_F_low c_F_low 3 (some FieldType.int) ∈ lw_tbl := List.mem_of_getElem? (i := 460) (by decide +kernel)
theorem b_F_low : x_ce y_F_low c_F_low 3 (some FieldType.int) 2 := ⟨k_F_low, i_F, by decide +kernel⟩
theorem s_F_low : Cond.instanceMethod y_F_low ∈ lw_tbl := List.mem_of_getElem? (i := 458) (by decide +kernel)
theorem v_F_low : Cond.selects "FingerSpans" y_F_low y_F_low ∈ lw_tbl := List.mem_of_getElem? (i := 459) (by decide +kernel)
theorem d_F_low_0 : decode c_F_low 0 = .ok (.aload_n 0, 1) := by decide +kernel
theorem d_F_low_1 : decode c_F_low 1 = .ok (.iload_n 1, 1) := by decide +kernel
theorem d_F_low_2 : decode c_F_low 2 = .ok (.iload_n 2, 1) := by decide +kernel
theorem d_F_low_3 : decode c_F_low 3 = .ok (.invokevirtual 95, 3) := by decide +kernel
theorem d_F_low_6 : decode c_F_low 6 = .ok (.ifCond .eq 19, 3) := by decide +kernel
theorem d_F_low_9 : decode c_F_low 9 = .ok (.aload_n 0, 1) := by decide +kernel
theorem d_F_low_10 : decode c_F_low 10 = .ok (.getfield 25, 3) := by decide +kernel
theorem d_F_low_13 : decode c_F_low 13 = .ok (.iload_n 1, 1) := by decide +kernel
theorem d_F_low_14 : decode c_F_low 14 = .ok (.aaload, 1) := by decide +kernel
theorem d_F_low_15 : decode c_F_low 15 = .ok (.iload_n 2, 1) := by decide +kernel
theorem d_F_low_16 : decode c_F_low 16 = .ok (.invokevirtual 119, 3) := by decide +kernel
theorem d_F_low_19 : decode c_F_low 19 = .ok (.getfield 123, 3) := by decide +kernel
theorem d_F_low_22 : decode c_F_low 22 = .ok (.goto 4, 3) := by decide +kernel
theorem d_F_low_25 : decode c_F_low 25 = .ok (.iconst 0, 1) := by decide +kernel
theorem d_F_low_26 : decode c_F_low 26 = .ok (.ireturn, 1) := by decide +kernel
abbrev c_F_high : ByteArray := prog_1_method_13_code
abbrev y_F_high : MethodName := ⟨"FingerSpans", "high", "(II)I"⟩
theorem k_F_high : Cond.code y_F_high c_F_high 3 (some FieldType.int) ∈ lw_tbl := List.mem_of_getElem? (i := 464) (by decide +kernel)
theorem b_F_high : x_ce y_F_high c_F_high 3 (some FieldType.int) 2 := ⟨k_F_high, i_F, by decide +kernel⟩
theorem s_F_high : Cond.instanceMethod y_F_high ∈ lw_tbl := List.mem_of_getElem? (i := 462) (by decide +kernel)
theorem v_F_high : Cond.selects "FingerSpans" y_F_high y_F_high ∈ lw_tbl := List.mem_of_getElem? (i := 463) (by decide +kernel)
theorem d_F_high_0 : decode c_F_high 0 = .ok (.aload_n 0, 1) := by decide +kernel
theorem d_F_high_1 : decode c_F_high 1 = .ok (.iload_n 1, 1) := by decide +kernel
theorem d_F_high_2 : decode c_F_high 2 = .ok (.iload_n 2, 1) := by decide +kernel
theorem d_F_high_3 : decode c_F_high 3 = .ok (.invokevirtual 95, 3) := by decide +kernel
theorem d_F_high_6 : decode c_F_high 6 = .ok (.ifCond .eq 19, 3) := by decide +kernel
theorem d_F_high_9 : decode c_F_high 9 = .ok (.aload_n 0, 1) := by decide +kernel
theorem d_F_high_10 : decode c_F_high 10 = .ok (.getfield 25, 3) := by decide +kernel
theorem d_F_high_13 : decode c_F_high 13 = .ok (.iload_n 1, 1) := by decide +kernel
theorem d_F_high_14 : decode c_F_high 14 = .ok (.aaload, 1) := by decide +kernel
theorem d_F_high_15 : decode c_F_high 15 = .ok (.iload_n 2, 1) := by decide +kernel
theorem d_F_high_16 : decode c_F_high 16 = .ok (.invokevirtual 119, 3) := by decide +kernel
theorem d_F_high_19 : decode c_F_high 19 = .ok (.getfield 126, 3) := by decide +kernel
theorem d_F_high_22 : decode c_F_high 22 = .ok (.goto 4, 3) := by decide +kernel
theorem d_F_high_25 : decode c_F_high 25 = .ok (.iconst 0, 1) := by decide +kernel
theorem d_F_high_26 : decode c_F_high 26 = .ok (.ireturn, 1) := by decide +kernel
abbrev c_F_measure : ByteArray := prog_1_method_14_code
abbrev y_F_measure : MethodName := ⟨"FingerSpans", "measure", "(II)J"⟩
theorem k_F_measure : Cond.code y_F_measure c_F_measure 3 (some FieldType.long) ∈ lw_tbl := List.mem_of_getElem? (i := 468) (by decide +kernel)
theorem b_F_measure : x_ce y_F_measure c_F_measure 3 (some FieldType.long) 2 := ⟨k_F_measure, i_F, by decide +kernel⟩
theorem s_F_measure : Cond.instanceMethod y_F_measure ∈ lw_tbl := List.mem_of_getElem? (i := 466) (by decide +kernel)
theorem v_F_measure : Cond.selects "FingerSpans" y_F_measure y_F_measure ∈ lw_tbl := List.mem_of_getElem? (i := 467) (by decide +kernel)
theorem d_F_measure_0 : decode c_F_measure 0 = .ok (.aload_n 0, 1) := by decide +kernel
theorem d_F_measure_1 : decode c_F_measure 1 = .ok (.iload_n 1, 1) := by decide +kernel
theorem d_F_measure_2 : decode c_F_measure 2 = .ok (.invokevirtual 37, 3) := by decide +kernel
theorem d_F_measure_5 : decode c_F_measure 5 = .ok (.ifCond .eq 22, 3) := by decide +kernel
theorem d_F_measure_8 : decode c_F_measure 8 = .ok (.aload_n 0, 1) := by decide +kernel
theorem d_F_measure_9 : decode c_F_measure 9 = .ok (.getfield 25, 3) := by decide +kernel
theorem d_F_measure_12 : decode c_F_measure 12 = .ok (.iload_n 1, 1) := by decide +kernel
theorem d_F_measure_13 : decode c_F_measure 13 = .ok (.aaload, 1) := by decide +kernel
theorem d_F_measure_14 : decode c_F_measure 14 = .ok (.invokevirtual 64, 3) := by decide +kernel
theorem d_F_measure_17 : decode c_F_measure 17 = .ok (.ifCond .ne 10, 3) := by decide +kernel
theorem d_F_measure_20 : decode c_F_measure 20 = .ok (.iload_n 2, 1) := by decide +kernel
theorem d_F_measure_21 : decode c_F_measure 21 = .ok (.invokestatic 129, 3) := by decide +kernel
theorem d_F_measure_24 : decode c_F_measure 24 = .ok (.ifCond .ne 5, 3) := by decide +kernel
theorem d_F_measure_27 : decode c_F_measure 27 = .ok (.lconst 0, 1) := by decide +kernel
theorem d_F_measure_28 : decode c_F_measure 28 = .ok (.lreturn, 1) := by decide +kernel
theorem d_F_measure_29 : decode c_F_measure 29 = .ok (.aload_n 0, 1) := by decide +kernel
theorem d_F_measure_30 : decode c_F_measure 30 = .ok (.getfield 25, 3) := by decide +kernel
theorem d_F_measure_33 : decode c_F_measure 33 = .ok (.iload_n 1, 1) := by decide +kernel
theorem d_F_measure_34 : decode c_F_measure 34 = .ok (.aaload, 1) := by decide +kernel
theorem d_F_measure_35 : decode c_F_measure 35 = .ok (.iload_n 2, 1) := by decide +kernel
theorem d_F_measure_36 : decode c_F_measure 36 = .ok (.invokestatic 107, 3) := by decide +kernel
theorem d_F_measure_39 : decode c_F_measure 39 = .ok (.lreturn, 1) := by decide +kernel
abbrev c_F_search : ByteArray := prog_1_method_15_code
abbrev y_F_search : MethodName := ⟨"FingerSpans", "search", "(IIJ)I"⟩
theorem k_F_search : Cond.code y_F_search c_F_search 5 (some FieldType.int) ∈ lw_tbl := List.mem_of_getElem? (i := 475) (by decide +kernel)
theorem b_F_search : x_ce y_F_search c_F_search 5 (some FieldType.int) 3 := ⟨k_F_search, i_F, by decide +kernel⟩
theorem s_F_search : Cond.instanceMethod y_F_search ∈ lw_tbl := List.mem_of_getElem? (i := 473) (by decide +kernel)
theorem v_F_search : Cond.selects "FingerSpans" y_F_search y_F_search ∈ lw_tbl := List.mem_of_getElem? (i := 474) (by decide +kernel)
theorem d_F_search_0 : decode c_F_search 0 = .ok (.aload_n 0, 1) := by decide +kernel
theorem d_F_search_1 : decode c_F_search 1 = .ok (.iload_n 1, 1) := by decide +kernel
theorem d_F_search_2 : decode c_F_search 2 = .ok (.invokevirtual 37, 3) := by decide +kernel
theorem d_F_search_5 : decode c_F_search 5 = .ok (.ifCond .eq 10, 3) := by decide +kernel
theorem d_F_search_8 : decode c_F_search 8 = .ok (.iload_n 2, 1) := by decide +kernel
theorem d_F_search_9 : decode c_F_search 9 = .ok (.invokestatic 129, 3) := by decide +kernel
theorem d_F_search_12 : decode c_F_search 12 = .ok (.ifCond .ne 5, 3) := by decide +kernel
theorem d_F_search_15 : decode c_F_search 15 = .ok (.iconst (-1), 1) := by decide +kernel
theorem d_F_search_16 : decode c_F_search 16 = .ok (.ireturn, 1) := by decide +kernel
theorem d_F_search_17 : decode c_F_search 17 = .ok (.aload_n 0, 1) := by decide +kernel
theorem d_F_search_18 : decode c_F_search 18 = .ok (.getfield 25, 3) := by decide +kernel
theorem d_F_search_21 : decode c_F_search 21 = .ok (.iload_n 1, 1) := by decide +kernel
theorem d_F_search_22 : decode c_F_search 22 = .ok (.aaload, 1) := by decide +kernel
theorem d_F_search_23 : decode c_F_search 23 = .ok (.iload_n 2, 1) := by decide +kernel
theorem d_F_search_24 : decode c_F_search 24 = .ok (.lload_n 3, 1) := by decide +kernel
theorem d_F_search_25 : decode c_F_search 25 = .ok (.invokestatic 103, 3) := by decide +kernel
theorem d_F_search_28 : decode c_F_search 28 = .ok (.ireturn, 1) := by decide +kernel
abbrev c_F_meeting : ByteArray := prog_1_method_16_code
abbrev y_F_meeting : MethodName := ⟨"FingerSpans", "meeting", "(IIII)I"⟩
theorem k_F_meeting : Cond.code y_F_meeting c_F_meeting 8 (some FieldType.int) ∈ lw_tbl := List.mem_of_getElem? (i := 479) (by decide +kernel)
theorem b_F_meeting : x_ce y_F_meeting c_F_meeting 8 (some FieldType.int) 4 := ⟨k_F_meeting, i_F, by decide +kernel⟩
theorem s_F_meeting : Cond.instanceMethod y_F_meeting ∈ lw_tbl := List.mem_of_getElem? (i := 477) (by decide +kernel)
theorem v_F_meeting : Cond.selects "FingerSpans" y_F_meeting y_F_meeting ∈ lw_tbl := List.mem_of_getElem? (i := 478) (by decide +kernel)
theorem d_F_meeting_0 : decode c_F_meeting 0 = .ok (.aload_n 0, 1) := by decide +kernel
theorem d_F_meeting_1 : decode c_F_meeting 1 = .ok (.iload_n 1, 1) := by decide +kernel
theorem d_F_meeting_2 : decode c_F_meeting 2 = .ok (.invokevirtual 37, 3) := by decide +kernel
theorem d_F_meeting_5 : decode c_F_meeting 5 = .ok (.ifCond .ne 5, 3) := by decide +kernel
theorem d_F_meeting_8 : decode c_F_meeting 8 = .ok (.iconst (-1), 1) := by decide +kernel
theorem d_F_meeting_9 : decode c_F_meeting 9 = .ok (.ireturn, 1) := by decide +kernel
theorem d_F_meeting_10 : decode c_F_meeting 10 = .ok (.aload_n 0, 1) := by decide +kernel
theorem d_F_meeting_11 : decode c_F_meeting 11 = .ok (.getfield 25, 3) := by decide +kernel
theorem d_F_meeting_14 : decode c_F_meeting 14 = .ok (.iload_n 1, 1) := by decide +kernel
theorem d_F_meeting_15 : decode c_F_meeting 15 = .ok (.aaload, 1) := by decide +kernel
theorem d_F_meeting_16 : decode c_F_meeting 16 = .ok (.astore 5, 2) := by decide +kernel
theorem d_F_meeting_18 : decode c_F_meeting 18 = .ok (.iload_n 2, 1) := by decide +kernel
theorem d_F_meeting_19 : decode c_F_meeting 19 = .ok (.iconst 0, 1) := by decide +kernel
theorem d_F_meeting_20 : decode c_F_meeting 20 = .ok (.invokestatic 132, 3) := by decide +kernel
theorem d_F_meeting_23 : decode c_F_meeting 23 = .ok (.istore 6, 2) := by decide +kernel
theorem d_F_meeting_25 : decode c_F_meeting 25 = .ok (.iload 6, 2) := by decide +kernel
theorem d_F_meeting_27 : decode c_F_meeting 27 = .ok (.aload 5, 2) := by decide +kernel
theorem d_F_meeting_29 : decode c_F_meeting 29 = .ok (.getfield 44, 3) := by decide +kernel
theorem d_F_meeting_32 : decode c_F_meeting 32 = .ok (.if_icmp .ge 40, 3) := by decide +kernel
theorem d_F_meeting_35 : decode c_F_meeting 35 = .ok (.aload 5, 2) := by decide +kernel
theorem d_F_meeting_37 : decode c_F_meeting 37 = .ok (.iload 6, 2) := by decide +kernel
theorem d_F_meeting_39 : decode c_F_meeting 39 = .ok (.invokevirtual 119, 3) := by decide +kernel
theorem d_F_meeting_42 : decode c_F_meeting 42 = .ok (.astore 7, 2) := by decide +kernel
theorem d_F_meeting_44 : decode c_F_meeting 44 = .ok (.aload 7, 2) := by decide +kernel
theorem d_F_meeting_46 : decode c_F_meeting 46 = .ok (.getfield 123, 3) := by decide +kernel
theorem d_F_meeting_49 : decode c_F_meeting 49 = .ok (.iload 4, 2) := by decide +kernel
theorem d_F_meeting_51 : decode c_F_meeting 51 = .ok (.if_icmp .gt 15, 3) := by decide +kernel
theorem d_F_meeting_54 : decode c_F_meeting 54 = .ok (.aload 7, 2) := by decide +kernel
theorem d_F_meeting_56 : decode c_F_meeting 56 = .ok (.getfield 126, 3) := by decide +kernel
theorem d_F_meeting_59 : decode c_F_meeting 59 = .ok (.iload_n 3, 1) := by decide +kernel
theorem d_F_meeting_60 : decode c_F_meeting 60 = .ok (.if_icmp .lt 6, 3) := by decide +kernel
theorem d_F_meeting_63 : decode c_F_meeting 63 = .ok (.iload 6, 2) := by decide +kernel
theorem d_F_meeting_65 : decode c_F_meeting 65 = .ok (.ireturn, 1) := by decide +kernel
theorem d_F_meeting_66 : decode c_F_meeting 66 = .ok (.iinc 6 1, 3) := by decide +kernel
theorem d_F_meeting_69 : decode c_F_meeting 69 = .ok (.goto (-44), 3) := by decide +kernel
theorem d_F_meeting_72 : decode c_F_meeting 72 = .ok (.iconst (-1), 1) := by decide +kernel
theorem d_F_meeting_73 : decode c_F_meeting 73 = .ok (.ireturn, 1) := by decide +kernel
abbrev c_F_spine : ByteArray := prog_1_method_17_code
abbrev y_F_spine : MethodName := ⟨"FingerSpans", "spine", "(I)I"⟩
theorem k_F_spine : Cond.code y_F_spine c_F_spine 4 (some FieldType.int) ∈ lw_tbl := List.mem_of_getElem? (i := 486) (by decide +kernel)
theorem b_F_spine : x_ce y_F_spine c_F_spine 4 (some FieldType.int) 1 := ⟨k_F_spine, i_F, by decide +kernel⟩
theorem s_F_spine : Cond.instanceMethod y_F_spine ∈ lw_tbl := List.mem_of_getElem? (i := 484) (by decide +kernel)
theorem v_F_spine : Cond.selects "FingerSpans" y_F_spine y_F_spine ∈ lw_tbl := List.mem_of_getElem? (i := 485) (by decide +kernel)
theorem d_F_spine_0 : decode c_F_spine 0 = .ok (.aload_n 0, 1) := by decide +kernel
theorem d_F_spine_1 : decode c_F_spine 1 = .ok (.iload_n 1, 1) := by decide +kernel
theorem d_F_spine_2 : decode c_F_spine 2 = .ok (.invokevirtual 37, 3) := by decide +kernel
theorem d_F_spine_5 : decode c_F_spine 5 = .ok (.ifCond .ne 5, 3) := by decide +kernel
theorem d_F_spine_8 : decode c_F_spine 8 = .ok (.iconst (-1), 1) := by decide +kernel
theorem d_F_spine_9 : decode c_F_spine 9 = .ok (.ireturn, 1) := by decide +kernel
theorem d_F_spine_10 : decode c_F_spine 10 = .ok (.iconst 0, 1) := by decide +kernel
theorem d_F_spine_11 : decode c_F_spine 11 = .ok (.istore_n 2, 1) := by decide +kernel
theorem d_F_spine_12 : decode c_F_spine 12 = .ok (.aload_n 0, 1) := by decide +kernel
theorem d_F_spine_13 : decode c_F_spine 13 = .ok (.getfield 25, 3) := by decide +kernel
theorem d_F_spine_16 : decode c_F_spine 16 = .ok (.iload_n 1, 1) := by decide +kernel
theorem d_F_spine_17 : decode c_F_spine 17 = .ok (.aaload, 1) := by decide +kernel
theorem d_F_spine_18 : decode c_F_spine 18 = .ok (.astore_n 3, 1) := by decide +kernel
theorem d_F_spine_19 : decode c_F_spine 19 = .ok (.aload_n 3, 1) := by decide +kernel
theorem d_F_spine_20 : decode c_F_spine 20 = .ok (.invokevirtual 138, 3) := by decide +kernel
theorem d_F_spine_23 : decode c_F_spine 23 = .ok (.ifCond .eq 14, 3) := by decide +kernel
theorem d_F_spine_26 : decode c_F_spine 26 = .ok (.iinc 2 2, 3) := by decide +kernel
theorem d_F_spine_29 : decode c_F_spine 29 = .ok (.aload_n 3, 1) := by decide +kernel
theorem d_F_spine_30 : decode c_F_spine 30 = .ok (.getfield 141, 3) := by decide +kernel
theorem d_F_spine_33 : decode c_F_spine 33 = .ok (.astore_n 3, 1) := by decide +kernel
theorem d_F_spine_34 : decode c_F_spine 34 = .ok (.goto (-15), 3) := by decide +kernel
theorem d_F_spine_37 : decode c_F_spine 37 = .ok (.aload_n 3, 1) := by decide +kernel
theorem d_F_spine_38 : decode c_F_spine 38 = .ok (.invokevirtual 64, 3) := by decide +kernel
theorem d_F_spine_41 : decode c_F_spine 41 = .ok (.ifCond .eq 7, 3) := by decide +kernel
theorem d_F_spine_44 : decode c_F_spine 44 = .ok (.iload_n 2, 1) := by decide +kernel
theorem d_F_spine_45 : decode c_F_spine 45 = .ok (.goto 6, 3) := by decide +kernel
theorem d_F_spine_48 : decode c_F_spine 48 = .ok (.iload_n 2, 1) := by decide +kernel
theorem d_F_spine_49 : decode c_F_spine 49 = .ok (.iconst 1, 1) := by decide +kernel
theorem d_F_spine_50 : decode c_F_spine 50 = .ok (.iadd, 1) := by decide +kernel
theorem d_F_spine_51 : decode c_F_spine 51 = .ok (.ireturn, 1) := by decide +kernel
abbrev c_F_digit : ByteArray := prog_1_method_18_code
abbrev y_F_digit : MethodName := ⟨"FingerSpans", "digit", "(IIZ)I"⟩
theorem k_F_digit : Cond.code y_F_digit c_F_digit 6 (some FieldType.int) ∈ lw_tbl := List.mem_of_getElem? (i := 491) (by decide +kernel)
theorem b_F_digit : x_ce y_F_digit c_F_digit 6 (some FieldType.int) 3 := ⟨k_F_digit, i_F, by decide +kernel⟩
theorem s_F_digit : Cond.instanceMethod y_F_digit ∈ lw_tbl := List.mem_of_getElem? (i := 489) (by decide +kernel)
theorem v_F_digit : Cond.selects "FingerSpans" y_F_digit y_F_digit ∈ lw_tbl := List.mem_of_getElem? (i := 490) (by decide +kernel)
theorem d_F_digit_0 : decode c_F_digit 0 = .ok (.aload_n 0, 1) := by decide +kernel
theorem d_F_digit_1 : decode c_F_digit 1 = .ok (.iload_n 1, 1) := by decide +kernel
theorem d_F_digit_2 : decode c_F_digit 2 = .ok (.invokevirtual 37, 3) := by decide +kernel
theorem d_F_digit_5 : decode c_F_digit 5 = .ok (.ifCond .ne 5, 3) := by decide +kernel
theorem d_F_digit_8 : decode c_F_digit 8 = .ok (.iconst (-1), 1) := by decide +kernel
theorem d_F_digit_9 : decode c_F_digit 9 = .ok (.ireturn, 1) := by decide +kernel
theorem d_F_digit_10 : decode c_F_digit 10 = .ok (.aload_n 0, 1) := by decide +kernel
theorem d_F_digit_11 : decode c_F_digit 11 = .ok (.getfield 25, 3) := by decide +kernel
theorem d_F_digit_14 : decode c_F_digit 14 = .ok (.iload_n 1, 1) := by decide +kernel
theorem d_F_digit_15 : decode c_F_digit 15 = .ok (.aaload, 1) := by decide +kernel
theorem d_F_digit_16 : decode c_F_digit 16 = .ok (.astore 4, 2) := by decide +kernel
theorem d_F_digit_18 : decode c_F_digit 18 = .ok (.iconst 0, 1) := by decide +kernel
theorem d_F_digit_19 : decode c_F_digit 19 = .ok (.istore 5, 2) := by decide +kernel
theorem d_F_digit_21 : decode c_F_digit 21 = .ok (.iload 5, 2) := by decide +kernel
theorem d_F_digit_23 : decode c_F_digit 23 = .ok (.iload_n 2, 1) := by decide +kernel
theorem d_F_digit_24 : decode c_F_digit 24 = .ok (.if_icmp .ge 21, 3) := by decide +kernel
theorem d_F_digit_27 : decode c_F_digit 27 = .ok (.aload 4, 2) := by decide +kernel
theorem d_F_digit_29 : decode c_F_digit 29 = .ok (.ifnull 16, 3) := by decide +kernel
theorem d_F_digit_32 : decode c_F_digit 32 = .ok (.aload 4, 2) := by decide +kernel
theorem d_F_digit_34 : decode c_F_digit 34 = .ok (.getfield 141, 3) := by decide +kernel
theorem d_F_digit_37 : decode c_F_digit 37 = .ok (.astore 4, 2) := by decide +kernel
theorem d_F_digit_39 : decode c_F_digit 39 = .ok (.iinc 5 1, 3) := by decide +kernel
theorem d_F_digit_42 : decode c_F_digit 42 = .ok (.goto (-21), 3) := by decide +kernel
theorem d_F_digit_45 : decode c_F_digit 45 = .ok (.iload_n 2, 1) := by decide +kernel
theorem d_F_digit_46 : decode c_F_digit 46 = .ok (.ifCond .lt 16, 3) := by decide +kernel
theorem d_F_digit_49 : decode c_F_digit 49 = .ok (.aload 4, 2) := by decide +kernel
theorem d_F_digit_51 : decode c_F_digit 51 = .ok (.ifnull 11, 3) := by decide +kernel
theorem d_F_digit_54 : decode c_F_digit 54 = .ok (.aload 4, 2) := by decide +kernel
theorem d_F_digit_56 : decode c_F_digit 56 = .ok (.invokevirtual 138, 3) := by decide +kernel
theorem d_F_digit_59 : decode c_F_digit 59 = .ok (.ifCond .ne 5, 3) := by decide +kernel
theorem d_F_digit_62 : decode c_F_digit 62 = .ok (.iconst 0, 1) := by decide +kernel
theorem d_F_digit_63 : decode c_F_digit 63 = .ok (.ireturn, 1) := by decide +kernel
theorem d_F_digit_64 : decode c_F_digit 64 = .ok (.iload_n 3, 1) := by decide +kernel
theorem d_F_digit_65 : decode c_F_digit 65 = .ok (.ifCond .eq 12, 3) := by decide +kernel
theorem d_F_digit_68 : decode c_F_digit 68 = .ok (.aload 4, 2) := by decide +kernel
theorem d_F_digit_70 : decode c_F_digit 70 = .ok (.getfield 144, 3) := by decide +kernel
theorem d_F_digit_73 : decode c_F_digit 73 = .ok (.arraylength, 1) := by decide +kernel
theorem d_F_digit_74 : decode c_F_digit 74 = .ok (.goto 9, 3) := by decide +kernel
theorem d_F_digit_77 : decode c_F_digit 77 = .ok (.aload 4, 2) := by decide +kernel
theorem d_F_digit_79 : decode c_F_digit 79 = .ok (.getfield 147, 3) := by decide +kernel
theorem d_F_digit_82 : decode c_F_digit 82 = .ok (.arraylength, 1) := by decide +kernel
theorem d_F_digit_83 : decode c_F_digit 83 = .ok (.ireturn, 1) := by decide +kernel
abbrev c_F_rank : ByteArray := prog_1_method_19_code
abbrev y_F_rank : MethodName := ⟨"FingerSpans", "rank", "(II)I"⟩
theorem k_F_rank : Cond.code y_F_rank c_F_rank 3 (some FieldType.int) ∈ lw_tbl := List.mem_of_getElem? (i := 495) (by decide +kernel)
theorem b_F_rank : x_ce y_F_rank c_F_rank 3 (some FieldType.int) 2 := ⟨k_F_rank, i_F, by decide +kernel⟩
theorem s_F_rank : Cond.instanceMethod y_F_rank ∈ lw_tbl := List.mem_of_getElem? (i := 493) (by decide +kernel)
theorem v_F_rank : Cond.selects "FingerSpans" y_F_rank y_F_rank ∈ lw_tbl := List.mem_of_getElem? (i := 494) (by decide +kernel)
theorem d_F_rank_0 : decode c_F_rank 0 = .ok (.aload_n 0, 1) := by decide +kernel
theorem d_F_rank_1 : decode c_F_rank 1 = .ok (.iload_n 1, 1) := by decide +kernel
theorem d_F_rank_2 : decode c_F_rank 2 = .ok (.iload_n 2, 1) := by decide +kernel
theorem d_F_rank_3 : decode c_F_rank 3 = .ok (.invokevirtual 95, 3) := by decide +kernel
theorem d_F_rank_6 : decode c_F_rank 6 = .ok (.ifCond .eq 16, 3) := by decide +kernel
theorem d_F_rank_9 : decode c_F_rank 9 = .ok (.aload_n 0, 1) := by decide +kernel
theorem d_F_rank_10 : decode c_F_rank 10 = .ok (.getfield 25, 3) := by decide +kernel
theorem d_F_rank_13 : decode c_F_rank 13 = .ok (.iload_n 1, 1) := by decide +kernel
theorem d_F_rank_14 : decode c_F_rank 14 = .ok (.aaload, 1) := by decide +kernel
theorem d_F_rank_15 : decode c_F_rank 15 = .ok (.iload_n 2, 1) := by decide +kernel
theorem d_F_rank_16 : decode c_F_rank 16 = .ok (.invokevirtual 150, 3) := by decide +kernel
theorem d_F_rank_19 : decode c_F_rank 19 = .ok (.goto 4, 3) := by decide +kernel
theorem d_F_rank_22 : decode c_F_rank 22 = .ok (.iconst (-1), 1) := by decide +kernel
theorem d_F_rank_23 : decode c_F_rank 23 = .ok (.ireturn, 1) := by decide +kernel
abbrev c_F_shared : ByteArray := prog_1_method_20_code
abbrev y_F_shared : MethodName := ⟨"FingerSpans", "shared", "(II)I"⟩
theorem k_F_shared : Cond.code y_F_shared c_F_shared 3 (some FieldType.int) ∈ lw_tbl := List.mem_of_getElem? (i := 504) (by decide +kernel)
theorem b_F_shared : x_ce y_F_shared c_F_shared 3 (some FieldType.int) 2 := ⟨k_F_shared, i_F, by decide +kernel⟩
theorem s_F_shared : Cond.instanceMethod y_F_shared ∈ lw_tbl := List.mem_of_getElem? (i := 502) (by decide +kernel)
theorem v_F_shared : Cond.selects "FingerSpans" y_F_shared y_F_shared ∈ lw_tbl := List.mem_of_getElem? (i := 503) (by decide +kernel)
theorem d_F_shared_0 : decode c_F_shared 0 = .ok (.aload_n 0, 1) := by decide +kernel
theorem d_F_shared_1 : decode c_F_shared 1 = .ok (.iload_n 1, 1) := by decide +kernel
theorem d_F_shared_2 : decode c_F_shared 2 = .ok (.invokevirtual 37, 3) := by decide +kernel
theorem d_F_shared_5 : decode c_F_shared 5 = .ok (.ifCond .eq 11, 3) := by decide +kernel
theorem d_F_shared_8 : decode c_F_shared 8 = .ok (.aload_n 0, 1) := by decide +kernel
theorem d_F_shared_9 : decode c_F_shared 9 = .ok (.iload_n 2, 1) := by decide +kernel
theorem d_F_shared_10 : decode c_F_shared 10 = .ok (.invokevirtual 37, 3) := by decide +kernel
theorem d_F_shared_13 : decode c_F_shared 13 = .ok (.ifCond .ne 5, 3) := by decide +kernel
theorem d_F_shared_16 : decode c_F_shared 16 = .ok (.iconst (-1), 1) := by decide +kernel
theorem d_F_shared_17 : decode c_F_shared 17 = .ok (.ireturn, 1) := by decide +kernel
theorem d_F_shared_18 : decode c_F_shared 18 = .ok (.aload_n 0, 1) := by decide +kernel
theorem d_F_shared_19 : decode c_F_shared 19 = .ok (.getfield 19, 3) := by decide +kernel
theorem d_F_shared_22 : decode c_F_shared 22 = .ok (.aload_n 0, 1) := by decide +kernel
theorem d_F_shared_23 : decode c_F_shared 23 = .ok (.getfield 25, 3) := by decide +kernel
theorem d_F_shared_26 : decode c_F_shared 26 = .ok (.iload_n 1, 1) := by decide +kernel
theorem d_F_shared_27 : decode c_F_shared 27 = .ok (.aaload, 1) := by decide +kernel
theorem d_F_shared_28 : decode c_F_shared 28 = .ok (.aload_n 0, 1) := by decide +kernel
theorem d_F_shared_29 : decode c_F_shared 29 = .ok (.getfield 25, 3) := by decide +kernel
theorem d_F_shared_32 : decode c_F_shared 32 = .ok (.iload_n 2, 1) := by decide +kernel
theorem d_F_shared_33 : decode c_F_shared 33 = .ok (.aaload, 1) := by decide +kernel
theorem d_F_shared_34 : decode c_F_shared 34 = .ok (.invokevirtual 154, 3) := by decide +kernel
theorem d_F_shared_37 : decode c_F_shared 37 = .ok (.ireturn, 1) := by decide +kernel
abbrev c_F_made : ByteArray := prog_1_method_21_code
abbrev y_F_made : MethodName := ⟨"FingerSpans", "made", "()I"⟩
theorem k_F_made : Cond.code y_F_made c_F_made 1 (some FieldType.int) ∈ lw_tbl := List.mem_of_getElem? (i := 521) (by decide +kernel)
theorem b_F_made : x_ce y_F_made c_F_made 1 (some FieldType.int) 0 := ⟨k_F_made, i_F, by decide +kernel⟩
theorem s_F_made : Cond.instanceMethod y_F_made ∈ lw_tbl := List.mem_of_getElem? (i := 519) (by decide +kernel)
theorem v_F_made : Cond.selects "FingerSpans" y_F_made y_F_made ∈ lw_tbl := List.mem_of_getElem? (i := 520) (by decide +kernel)
theorem d_F_made_0 : decode c_F_made 0 = .ok (.aload_n 0, 1) := by decide +kernel
theorem d_F_made_1 : decode c_F_made 1 = .ok (.getfield 12, 3) := by decide +kernel
theorem d_F_made_4 : decode c_F_made 4 = .ok (.getfield 158, 3) := by decide +kernel
theorem d_F_made_7 : decode c_F_made 7 = .ok (.ireturn, 1) := by decide +kernel
abbrev c_F_isVersion : ByteArray := prog_1_method_22_code
abbrev y_F_isVersion : MethodName := ⟨"FingerSpans", "isVersion", "(I)Z"⟩
theorem k_F_isVersion : Cond.code y_F_isVersion c_F_isVersion 2 (some FieldType.boolean) ∈ lw_tbl := List.mem_of_getElem? (i := 171) (by decide +kernel)
theorem b_F_isVersion : x_ce y_F_isVersion c_F_isVersion 2 (some FieldType.boolean) 1 := ⟨k_F_isVersion, i_F, by decide +kernel⟩
theorem s_F_isVersion : Cond.instanceMethod y_F_isVersion ∈ lw_tbl := List.mem_of_getElem? (i := 170) (by decide +kernel)
theorem v_F_isVersion : Cond.selects "FingerSpans" y_F_isVersion y_F_isVersion ∈ lw_tbl := List.mem_of_getElem? (i := 0) (by decide +kernel)
theorem d_F_isVersion_0 : decode c_F_isVersion 0 = .ok (.iload_n 1, 1) := by decide +kernel
theorem d_F_isVersion_1 : decode c_F_isVersion 1 = .ok (.ifCond .lt 15, 3) := by decide +kernel
theorem d_F_isVersion_4 : decode c_F_isVersion 4 = .ok (.iload_n 1, 1) := by decide +kernel
theorem d_F_isVersion_5 : decode c_F_isVersion 5 = .ok (.aload_n 0, 1) := by decide +kernel
theorem d_F_isVersion_6 : decode c_F_isVersion 6 = .ok (.getfield 33, 3) := by decide +kernel
theorem d_F_isVersion_9 : decode c_F_isVersion 9 = .ok (.if_icmp .ge 7, 3) := by decide +kernel
theorem d_F_isVersion_12 : decode c_F_isVersion 12 = .ok (.iconst 1, 1) := by decide +kernel
theorem d_F_isVersion_13 : decode c_F_isVersion 13 = .ok (.goto 4, 3) := by decide +kernel
theorem d_F_isVersion_16 : decode c_F_isVersion 16 = .ok (.iconst 0, 1) := by decide +kernel
theorem d_F_isVersion_17 : decode c_F_isVersion 17 = .ok (.ireturn, 1) := by decide +kernel
abbrev c_F_isPlace : ByteArray := prog_1_method_23_code
abbrev y_F_isPlace : MethodName := ⟨"FingerSpans", "isPlace", "(II)Z"⟩
theorem k_F_isPlace : Cond.code y_F_isPlace c_F_isPlace 3 (some FieldType.boolean) ∈ lw_tbl := List.mem_of_getElem? (i := 385) (by decide +kernel)
theorem b_F_isPlace : x_ce y_F_isPlace c_F_isPlace 3 (some FieldType.boolean) 2 := ⟨k_F_isPlace, i_F, by decide +kernel⟩
theorem s_F_isPlace : Cond.instanceMethod y_F_isPlace ∈ lw_tbl := List.mem_of_getElem? (i := 384) (by decide +kernel)
theorem v_F_isPlace : Cond.selects "FingerSpans" y_F_isPlace y_F_isPlace ∈ lw_tbl := List.mem_of_getElem? (i := 23) (by decide +kernel)
theorem d_F_isPlace_0 : decode c_F_isPlace 0 = .ok (.aload_n 0, 1) := by decide +kernel
theorem d_F_isPlace_1 : decode c_F_isPlace 1 = .ok (.iload_n 1, 1) := by decide +kernel
theorem d_F_isPlace_2 : decode c_F_isPlace 2 = .ok (.invokevirtual 37, 3) := by decide +kernel
theorem d_F_isPlace_5 : decode c_F_isPlace 5 = .ok (.ifCond .eq 24, 3) := by decide +kernel
theorem d_F_isPlace_8 : decode c_F_isPlace 8 = .ok (.iload_n 2, 1) := by decide +kernel
theorem d_F_isPlace_9 : decode c_F_isPlace 9 = .ok (.ifCond .lt 20, 3) := by decide +kernel
theorem d_F_isPlace_12 : decode c_F_isPlace 12 = .ok (.iload_n 2, 1) := by decide +kernel
theorem d_F_isPlace_13 : decode c_F_isPlace 13 = .ok (.aload_n 0, 1) := by decide +kernel
theorem d_F_isPlace_14 : decode c_F_isPlace 14 = .ok (.getfield 25, 3) := by decide +kernel
theorem d_F_isPlace_17 : decode c_F_isPlace 17 = .ok (.iload_n 1, 1) := by decide +kernel
theorem d_F_isPlace_18 : decode c_F_isPlace 18 = .ok (.aaload, 1) := by decide +kernel
theorem d_F_isPlace_19 : decode c_F_isPlace 19 = .ok (.getfield 44, 3) := by decide +kernel
theorem d_F_isPlace_22 : decode c_F_isPlace 22 = .ok (.if_icmp .ge 7, 3) := by decide +kernel
theorem d_F_isPlace_25 : decode c_F_isPlace 25 = .ok (.iconst 1, 1) := by decide +kernel
theorem d_F_isPlace_26 : decode c_F_isPlace 26 = .ok (.goto 4, 3) := by decide +kernel
theorem d_F_isPlace_29 : decode c_F_isPlace 29 = .ok (.iconst 0, 1) := by decide +kernel
theorem d_F_isPlace_30 : decode c_F_isPlace 30 = .ok (.ireturn, 1) := by decide +kernel
abbrev c_F_isKind : ByteArray := prog_1_method_24_code
abbrev y_F_isKind : MethodName := ⟨"FingerSpans", "isKind", "(I)Z"⟩
theorem k_F_isKind : Cond.code y_F_isKind c_F_isKind 1 (some FieldType.boolean) ∈ lw_tbl := List.mem_of_getElem? (i := 471) (by decide +kernel)
theorem b_F_isKind : x_ce y_F_isKind c_F_isKind 1 (some FieldType.boolean) 1 := ⟨k_F_isKind, i_F, by decide +kernel⟩
theorem s_F_isKind : Cond.static y_F_isKind ∈ lw_tbl := List.mem_of_getElem? (i := 470) (by decide +kernel)
theorem d_F_isKind_0 : decode c_F_isKind 0 = .ok (.iload_n 0, 1) := by decide +kernel
theorem d_F_isKind_1 : decode c_F_isKind 1 = .ok (.ifCond .lt 12, 3) := by decide +kernel
theorem d_F_isKind_4 : decode c_F_isKind 4 = .ok (.iload_n 0, 1) := by decide +kernel
theorem d_F_isKind_5 : decode c_F_isKind 5 = .ok (.iconst 3, 1) := by decide +kernel
theorem d_F_isKind_6 : decode c_F_isKind 6 = .ok (.if_icmp .gt 7, 3) := by decide +kernel
theorem d_F_isKind_9 : decode c_F_isKind 9 = .ok (.iconst 1, 1) := by decide +kernel
theorem d_F_isKind_10 : decode c_F_isKind 10 = .ok (.goto 4, 3) := by decide +kernel
theorem d_F_isKind_13 : decode c_F_isKind 13 = .ok (.iconst 0, 1) := by decide +kernel
theorem d_F_isKind_14 : decode c_F_isKind 14 = .ok (.ireturn, 1) := by decide +kernel
abbrev c_F_hasRoomFor : ByteArray := prog_1_method_25_code
abbrev y_F_hasRoomFor : MethodName := ⟨"FingerSpans", "hasRoomFor", "(I)Z"⟩
theorem k_F_hasRoomFor : Cond.code y_F_hasRoomFor c_F_hasRoomFor 2 (some FieldType.boolean) ∈ lw_tbl := List.mem_of_getElem? (i := 175) (by decide +kernel)
theorem b_F_hasRoomFor : x_ce y_F_hasRoomFor c_F_hasRoomFor 2 (some FieldType.boolean) 1 := ⟨k_F_hasRoomFor, i_F, by decide +kernel⟩
theorem s_F_hasRoomFor : Cond.instanceMethod y_F_hasRoomFor ∈ lw_tbl := List.mem_of_getElem? (i := 174) (by decide +kernel)
theorem v_F_hasRoomFor : Cond.selects "FingerSpans" y_F_hasRoomFor y_F_hasRoomFor ∈ lw_tbl := List.mem_of_getElem? (i := 1) (by decide +kernel)
theorem d_F_hasRoomFor_0 : decode c_F_hasRoomFor 0 = .ok (.aload_n 0, 1) := by decide +kernel
theorem d_F_hasRoomFor_1 : decode c_F_hasRoomFor 1 = .ok (.getfield 33, 3) := by decide +kernel
theorem d_F_hasRoomFor_4 : decode c_F_hasRoomFor 4 = .ok (.iload_n 1, 1) := by decide +kernel
theorem d_F_hasRoomFor_5 : decode c_F_hasRoomFor 5 = .ok (.iadd, 1) := by decide +kernel
theorem d_F_hasRoomFor_6 : decode c_F_hasRoomFor 6 = .ok (.bipush 120, 2) := by decide +kernel
theorem d_F_hasRoomFor_8 : decode c_F_hasRoomFor 8 = .ok (.if_icmp .gt 7, 3) := by decide +kernel
theorem d_F_hasRoomFor_11 : decode c_F_hasRoomFor 11 = .ok (.iconst 1, 1) := by decide +kernel
theorem d_F_hasRoomFor_12 : decode c_F_hasRoomFor 12 = .ok (.goto 4, 3) := by decide +kernel
theorem d_F_hasRoomFor_15 : decode c_F_hasRoomFor 15 = .ok (.iconst 0, 1) := by decide +kernel
theorem d_F_hasRoomFor_16 : decode c_F_hasRoomFor 16 = .ok (.ireturn, 1) := by decide +kernel
abbrev c_F_keep : ByteArray := prog_1_method_26_code
abbrev y_F_keep : MethodName := ⟨"FingerSpans", "keep", "(LFingerSpans$Tree;)I"⟩
theorem k_F_keep : Cond.code y_F_keep c_F_keep 2 (some FieldType.int) ∈ lw_tbl := List.mem_of_getElem? (i := 247) (by decide +kernel)
theorem b_F_keep : x_ce y_F_keep c_F_keep 2 (some FieldType.int) 1 := ⟨k_F_keep, i_F, by decide +kernel⟩
theorem s_F_keep : Cond.instanceMethod y_F_keep ∈ lw_tbl := List.mem_of_getElem? (i := 246) (by decide +kernel)
theorem v_F_keep : Cond.selects "FingerSpans" y_F_keep y_F_keep ∈ lw_tbl := List.mem_of_getElem? (i := 7) (by decide +kernel)
theorem d_F_keep_0 : decode c_F_keep 0 = .ok (.aload_n 0, 1) := by decide +kernel
theorem d_F_keep_1 : decode c_F_keep 1 = .ok (.getfield 25, 3) := by decide +kernel
theorem d_F_keep_4 : decode c_F_keep 4 = .ok (.aload_n 0, 1) := by decide +kernel
theorem d_F_keep_5 : decode c_F_keep 5 = .ok (.getfield 33, 3) := by decide +kernel
theorem d_F_keep_8 : decode c_F_keep 8 = .ok (.aload_n 1, 1) := by decide +kernel
theorem d_F_keep_9 : decode c_F_keep 9 = .ok (.aastore, 1) := by decide +kernel
theorem d_F_keep_10 : decode c_F_keep 10 = .ok (.aload_n 0, 1) := by decide +kernel
theorem d_F_keep_11 : decode c_F_keep 11 = .ok (.dup, 1) := by decide +kernel
theorem d_F_keep_12 : decode c_F_keep 12 = .ok (.getfield 33, 3) := by decide +kernel
theorem d_F_keep_15 : decode c_F_keep 15 = .ok (.iconst 1, 1) := by decide +kernel
theorem d_F_keep_16 : decode c_F_keep 16 = .ok (.iadd, 1) := by decide +kernel
theorem d_F_keep_17 : decode c_F_keep 17 = .ok (.putfield 33, 3) := by decide +kernel
theorem d_F_keep_20 : decode c_F_keep 20 = .ok (.aload_n 0, 1) := by decide +kernel
theorem d_F_keep_21 : decode c_F_keep 21 = .ok (.getfield 33, 3) := by decide +kernel
theorem d_F_keep_24 : decode c_F_keep 24 = .ok (.iconst 1, 1) := by decide +kernel
theorem d_F_keep_25 : decode c_F_keep 25 = .ok (.isub, 1) := by decide +kernel
theorem d_F_keep_26 : decode c_F_keep 26 = .ok (.ireturn, 1) := by decide +kernel
abbrev c_F_total : ByteArray := prog_1_method_27_code
abbrev y_F_total : MethodName := ⟨"FingerSpans", "total", "(LFingerSpans$Tree;I)J"⟩
theorem k_F_total : Cond.code y_F_total c_F_total 5 (some FieldType.long) ∈ lw_tbl := List.mem_of_getElem? (i := 451) (by decide +kernel)
theorem b_F_total : x_ce y_F_total c_F_total 5 (some FieldType.long) 2 := ⟨k_F_total, i_F, by decide +kernel⟩
theorem s_F_total : Cond.static y_F_total ∈ lw_tbl := List.mem_of_getElem? (i := 450) (by decide +kernel)
theorem d_F_total_0 : decode c_F_total 0 = .ok (.iload_n 1, 1) := by decide +kernel
theorem d_F_total_1 : decode c_F_total 1 = .ok (.invokestatic 161, 3) := by decide +kernel
theorem d_F_total_4 : decode c_F_total 4 = .ok (.lstore_n 2, 1) := by decide +kernel
theorem d_F_total_5 : decode c_F_total 5 = .ok (.iconst 0, 1) := by decide +kernel
theorem d_F_total_6 : decode c_F_total 6 = .ok (.istore 4, 2) := by decide +kernel
theorem d_F_total_8 : decode c_F_total 8 = .ok (.iload 4, 2) := by decide +kernel
theorem d_F_total_10 : decode c_F_total 10 = .ok (.aload_n 0, 1) := by decide +kernel
theorem d_F_total_11 : decode c_F_total 11 = .ok (.getfield 44, 3) := by decide +kernel
theorem d_F_total_14 : decode c_F_total 14 = .ok (.if_icmp .ge 21, 3) := by decide +kernel
theorem d_F_total_17 : decode c_F_total 17 = .ok (.lload_n 2, 1) := by decide +kernel
theorem d_F_total_18 : decode c_F_total 18 = .ok (.aload_n 0, 1) := by decide +kernel
theorem d_F_total_19 : decode c_F_total 19 = .ok (.iload 4, 2) := by decide +kernel
theorem d_F_total_21 : decode c_F_total 21 = .ok (.invokevirtual 119, 3) := by decide +kernel
theorem d_F_total_24 : decode c_F_total 24 = .ok (.iload_n 1, 1) := by decide +kernel
theorem d_F_total_25 : decode c_F_total 25 = .ok (.invokestatic 165, 3) := by decide +kernel
theorem d_F_total_28 : decode c_F_total 28 = .ok (.lstore_n 2, 1) := by decide +kernel
theorem d_F_total_29 : decode c_F_total 29 = .ok (.iinc 4 1, 3) := by decide +kernel
theorem d_F_total_32 : decode c_F_total 32 = .ok (.goto (-24), 3) := by decide +kernel
theorem d_F_total_35 : decode c_F_total 35 = .ok (.lload_n 2, 1) := by decide +kernel
theorem d_F_total_36 : decode c_F_total 36 = .ok (.lreturn, 1) := by decide +kernel
abbrev c_F_firstPlace : ByteArray := prog_1_method_28_code
abbrev y_F_firstPlace : MethodName := ⟨"FingerSpans", "firstPlace", "(LFingerSpans$Tree;IJ)I"⟩
theorem k_F_firstPlace : Cond.code y_F_firstPlace c_F_firstPlace 7 (some FieldType.int) ∈ lw_tbl := List.mem_of_getElem? (i := 415) (by decide +kernel)
theorem b_F_firstPlace : x_ce y_F_firstPlace c_F_firstPlace 7 (some FieldType.int) 3 := ⟨k_F_firstPlace, i_F, by decide +kernel⟩
theorem s_F_firstPlace : Cond.static y_F_firstPlace ∈ lw_tbl := List.mem_of_getElem? (i := 414) (by decide +kernel)
theorem d_F_firstPlace_0 : decode c_F_firstPlace 0 = .ok (.iload_n 1, 1) := by decide +kernel
theorem d_F_firstPlace_1 : decode c_F_firstPlace 1 = .ok (.invokestatic 161, 3) := by decide +kernel
theorem d_F_firstPlace_4 : decode c_F_firstPlace 4 = .ok (.lstore 4, 2) := by decide +kernel
theorem d_F_firstPlace_6 : decode c_F_firstPlace 6 = .ok (.iconst 0, 1) := by decide +kernel
theorem d_F_firstPlace_7 : decode c_F_firstPlace 7 = .ok (.istore 6, 2) := by decide +kernel
theorem d_F_firstPlace_9 : decode c_F_firstPlace 9 = .ok (.iload 6, 2) := by decide +kernel
theorem d_F_firstPlace_11 : decode c_F_firstPlace 11 = .ok (.aload_n 0, 1) := by decide +kernel
theorem d_F_firstPlace_12 : decode c_F_firstPlace 12 = .ok (.getfield 44, 3) := by decide +kernel
theorem d_F_firstPlace_15 : decode c_F_firstPlace 15 = .ok (.if_icmp .ge 36, 3) := by decide +kernel
theorem d_F_firstPlace_18 : decode c_F_firstPlace 18 = .ok (.lload 4, 2) := by decide +kernel
theorem d_F_firstPlace_20 : decode c_F_firstPlace 20 = .ok (.aload_n 0, 1) := by decide +kernel
theorem d_F_firstPlace_21 : decode c_F_firstPlace 21 = .ok (.iload 6, 2) := by decide +kernel
theorem d_F_firstPlace_23 : decode c_F_firstPlace 23 = .ok (.invokevirtual 119, 3) := by decide +kernel
theorem d_F_firstPlace_26 : decode c_F_firstPlace 26 = .ok (.iload_n 1, 1) := by decide +kernel
theorem d_F_firstPlace_27 : decode c_F_firstPlace 27 = .ok (.invokestatic 165, 3) := by decide +kernel
theorem d_F_firstPlace_30 : decode c_F_firstPlace 30 = .ok (.lstore 4, 2) := by decide +kernel
theorem d_F_firstPlace_32 : decode c_F_firstPlace 32 = .ok (.lload 4, 2) := by decide +kernel
theorem d_F_firstPlace_34 : decode c_F_firstPlace 34 = .ok (.iload_n 1, 1) := by decide +kernel
theorem d_F_firstPlace_35 : decode c_F_firstPlace 35 = .ok (.lload_n 2, 1) := by decide +kernel
theorem d_F_firstPlace_36 : decode c_F_firstPlace 36 = .ok (.invokestatic 169, 3) := by decide +kernel
theorem d_F_firstPlace_39 : decode c_F_firstPlace 39 = .ok (.ifCond .eq 6, 3) := by decide +kernel
theorem d_F_firstPlace_42 : decode c_F_firstPlace 42 = .ok (.iload 6, 2) := by decide +kernel
theorem d_F_firstPlace_44 : decode c_F_firstPlace 44 = .ok (.ireturn, 1) := by decide +kernel
theorem d_F_firstPlace_45 : decode c_F_firstPlace 45 = .ok (.iinc 6 1, 3) := by decide +kernel
theorem d_F_firstPlace_48 : decode c_F_firstPlace 48 = .ok (.goto (-39), 3) := by decide +kernel
theorem d_F_firstPlace_51 : decode c_F_firstPlace 51 = .ok (.aload_n 0, 1) := by decide +kernel
theorem d_F_firstPlace_52 : decode c_F_firstPlace 52 = .ok (.getfield 44, 3) := by decide +kernel
theorem d_F_firstPlace_55 : decode c_F_firstPlace 55 = .ok (.ireturn, 1) := by decide +kernel
abbrev c_F_isGreatest : ByteArray := prog_1_method_29_code
abbrev y_F_isGreatest : MethodName := ⟨"FingerSpans", "isGreatest", "(I)Z"⟩
theorem k_F_isGreatest : Cond.code y_F_isGreatest c_F_isGreatest 1 (some FieldType.boolean) ∈ lw_tbl := List.mem_of_getElem? (i := 421) (by decide +kernel)
theorem b_F_isGreatest : x_ce y_F_isGreatest c_F_isGreatest 1 (some FieldType.boolean) 1 := ⟨k_F_isGreatest, i_F, by decide +kernel⟩
theorem s_F_isGreatest : Cond.static y_F_isGreatest ∈ lw_tbl := List.mem_of_getElem? (i := 420) (by decide +kernel)
theorem d_F_isGreatest_0 : decode c_F_isGreatest 0 = .ok (.iload_n 0, 1) := by decide +kernel
theorem d_F_isGreatest_1 : decode c_F_isGreatest 1 = .ok (.iconst 1, 1) := by decide +kernel
theorem d_F_isGreatest_2 : decode c_F_isGreatest 2 = .ok (.if_icmp .eq 8, 3) := by decide +kernel
theorem d_F_isGreatest_5 : decode c_F_isGreatest 5 = .ok (.iload_n 0, 1) := by decide +kernel
theorem d_F_isGreatest_6 : decode c_F_isGreatest 6 = .ok (.iconst 2, 1) := by decide +kernel
theorem d_F_isGreatest_7 : decode c_F_isGreatest 7 = .ok (.if_icmp .ne 7, 3) := by decide +kernel
theorem d_F_isGreatest_10 : decode c_F_isGreatest 10 = .ok (.iconst 1, 1) := by decide +kernel
theorem d_F_isGreatest_11 : decode c_F_isGreatest 11 = .ok (.goto 4, 3) := by decide +kernel
theorem d_F_isGreatest_14 : decode c_F_isGreatest 14 = .ok (.iconst 0, 1) := by decide +kernel
theorem d_F_isGreatest_15 : decode c_F_isGreatest 15 = .ok (.ireturn, 1) := by decide +kernel
abbrev c_F_totalOfNone : ByteArray := prog_1_method_30_code
abbrev y_F_totalOfNone : MethodName := ⟨"FingerSpans", "totalOfNone", "(I)J"⟩
theorem k_F_totalOfNone : Cond.code y_F_totalOfNone c_F_totalOfNone 1 (some FieldType.long) ∈ lw_tbl := List.mem_of_getElem? (i := 418) (by decide +kernel)
theorem b_F_totalOfNone : x_ce y_F_totalOfNone c_F_totalOfNone 1 (some FieldType.long) 1 := ⟨k_F_totalOfNone, i_F, by decide +kernel⟩
theorem s_F_totalOfNone : Cond.static y_F_totalOfNone ∈ lw_tbl := List.mem_of_getElem? (i := 417) (by decide +kernel)
theorem d_F_totalOfNone_0 : decode c_F_totalOfNone 0 = .ok (.iload_n 0, 1) := by decide +kernel
theorem d_F_totalOfNone_1 : decode c_F_totalOfNone 1 = .ok (.invokestatic 173, 3) := by decide +kernel
theorem d_F_totalOfNone_4 : decode c_F_totalOfNone 4 = .ok (.ifCond .eq 9, 3) := by decide +kernel
theorem d_F_totalOfNone_7 : decode c_F_totalOfNone 7 = .ok (.ldc2_w 176, 3) := by decide +kernel
theorem d_F_totalOfNone_10 : decode c_F_totalOfNone 10 = .ok (.goto 4, 3) := by decide +kernel
theorem d_F_totalOfNone_13 : decode c_F_totalOfNone 13 = .ok (.lconst 0, 1) := by decide +kernel
theorem d_F_totalOfNone_14 : decode c_F_totalOfNone 14 = .ok (.lreturn, 1) := by decide +kernel
abbrev c_F_totalWith : ByteArray := prog_1_method_31_code
abbrev y_F_totalWith : MethodName := ⟨"FingerSpans", "totalWith", "(JLFingerSpans$Item;I)J"⟩
theorem k_F_totalWith : Cond.code y_F_totalWith c_F_totalWith 4 (some FieldType.long) ∈ lw_tbl := List.mem_of_getElem? (i := 438) (by decide +kernel)
theorem b_F_totalWith : x_ce y_F_totalWith c_F_totalWith 4 (some FieldType.long) 3 := ⟨k_F_totalWith, i_F, by decide +kernel⟩
theorem s_F_totalWith : Cond.static y_F_totalWith ∈ lw_tbl := List.mem_of_getElem? (i := 437) (by decide +kernel)
theorem d_F_totalWith_0 : decode c_F_totalWith 0 = .ok (.iload_n 3, 1) := by decide +kernel
theorem d_F_totalWith_1 : decode c_F_totalWith 1 = .ok (.tableswitch 63 1 3 #[27, 37, 47], 27) := by decide +kernel
theorem d_F_totalWith_28 : decode c_F_totalWith 28 = .ok (.lload_n 0, 1) := by decide +kernel
theorem d_F_totalWith_29 : decode c_F_totalWith 29 = .ok (.aload_n 2, 1) := by decide +kernel
theorem d_F_totalWith_30 : decode c_F_totalWith 30 = .ok (.getfield 123, 3) := by decide +kernel
theorem d_F_totalWith_33 : decode c_F_totalWith 33 = .ok (.i2l, 1) := by decide +kernel
theorem d_F_totalWith_34 : decode c_F_totalWith 34 = .ok (.invokestatic 178, 3) := by decide +kernel
theorem d_F_totalWith_37 : decode c_F_totalWith 37 = .ok (.lreturn, 1) := by decide +kernel
theorem d_F_totalWith_38 : decode c_F_totalWith 38 = .ok (.lload_n 0, 1) := by decide +kernel
theorem d_F_totalWith_39 : decode c_F_totalWith 39 = .ok (.aload_n 2, 1) := by decide +kernel
theorem d_F_totalWith_40 : decode c_F_totalWith 40 = .ok (.getfield 126, 3) := by decide +kernel
theorem d_F_totalWith_43 : decode c_F_totalWith 43 = .ok (.i2l, 1) := by decide +kernel
theorem d_F_totalWith_44 : decode c_F_totalWith 44 = .ok (.invokestatic 178, 3) := by decide +kernel
theorem d_F_totalWith_47 : decode c_F_totalWith 47 = .ok (.lreturn, 1) := by decide +kernel
theorem d_F_totalWith_48 : decode c_F_totalWith 48 = .ok (.lload_n 0, 1) := by decide +kernel
theorem d_F_totalWith_49 : decode c_F_totalWith 49 = .ok (.aload_n 2, 1) := by decide +kernel
theorem d_F_totalWith_50 : decode c_F_totalWith 50 = .ok (.getfield 126, 3) := by decide +kernel
theorem d_F_totalWith_53 : decode c_F_totalWith 53 = .ok (.i2l, 1) := by decide +kernel
theorem d_F_totalWith_54 : decode c_F_totalWith 54 = .ok (.aload_n 2, 1) := by decide +kernel
theorem d_F_totalWith_55 : decode c_F_totalWith 55 = .ok (.getfield 123, 3) := by decide +kernel
theorem d_F_totalWith_58 : decode c_F_totalWith 58 = .ok (.i2l, 1) := by decide +kernel
theorem d_F_totalWith_59 : decode c_F_totalWith 59 = .ok (.lsub, 1) := by decide +kernel
theorem d_F_totalWith_60 : decode c_F_totalWith 60 = .ok (.lconst 1, 1) := by decide +kernel
theorem d_F_totalWith_61 : decode c_F_totalWith 61 = .ok (.ladd, 1) := by decide +kernel
theorem d_F_totalWith_62 : decode c_F_totalWith 62 = .ok (.ladd, 1) := by decide +kernel
theorem d_F_totalWith_63 : decode c_F_totalWith 63 = .ok (.lreturn, 1) := by decide +kernel
theorem d_F_totalWith_64 : decode c_F_totalWith 64 = .ok (.lload_n 0, 1) := by decide +kernel
theorem d_F_totalWith_65 : decode c_F_totalWith 65 = .ok (.lconst 1, 1) := by decide +kernel
theorem d_F_totalWith_66 : decode c_F_totalWith 66 = .ok (.ladd, 1) := by decide +kernel
theorem d_F_totalWith_67 : decode c_F_totalWith 67 = .ok (.lreturn, 1) := by decide +kernel
abbrev c_F_isBeyond : ByteArray := prog_1_method_32_code
abbrev y_F_isBeyond : MethodName := ⟨"FingerSpans", "isBeyond", "(JIJ)Z"⟩
theorem k_F_isBeyond : Cond.code y_F_isBeyond c_F_isBeyond 5 (some FieldType.boolean) ∈ lw_tbl := List.mem_of_getElem? (i := 444) (by decide +kernel)
theorem b_F_isBeyond : x_ce y_F_isBeyond c_F_isBeyond 5 (some FieldType.boolean) 3 := ⟨k_F_isBeyond, i_F, by decide +kernel⟩
theorem s_F_isBeyond : Cond.static y_F_isBeyond ∈ lw_tbl := List.mem_of_getElem? (i := 443) (by decide +kernel)
theorem d_F_isBeyond_0 : decode c_F_isBeyond 0 = .ok (.iload_n 2, 1) := by decide +kernel
theorem d_F_isBeyond_1 : decode c_F_isBeyond 1 = .ok (.invokestatic 173, 3) := by decide +kernel
theorem d_F_isBeyond_4 : decode c_F_isBeyond 4 = .ok (.ifCond .eq 17, 3) := by decide +kernel
theorem d_F_isBeyond_7 : decode c_F_isBeyond 7 = .ok (.lload_n 0, 1) := by decide +kernel
theorem d_F_isBeyond_8 : decode c_F_isBeyond 8 = .ok (.lload_n 3, 1) := by decide +kernel
theorem d_F_isBeyond_9 : decode c_F_isBeyond 9 = .ok (.lcmp, 1) := by decide +kernel
theorem d_F_isBeyond_10 : decode c_F_isBeyond 10 = .ok (.ifCond .lt 7, 3) := by decide +kernel
theorem d_F_isBeyond_13 : decode c_F_isBeyond 13 = .ok (.iconst 1, 1) := by decide +kernel
theorem d_F_isBeyond_14 : decode c_F_isBeyond 14 = .ok (.goto 18, 3) := by decide +kernel
theorem d_F_isBeyond_17 : decode c_F_isBeyond 17 = .ok (.iconst 0, 1) := by decide +kernel
theorem d_F_isBeyond_18 : decode c_F_isBeyond 18 = .ok (.goto 14, 3) := by decide +kernel
theorem d_F_isBeyond_21 : decode c_F_isBeyond 21 = .ok (.lload_n 0, 1) := by decide +kernel
theorem d_F_isBeyond_22 : decode c_F_isBeyond 22 = .ok (.lload_n 3, 1) := by decide +kernel
theorem d_F_isBeyond_23 : decode c_F_isBeyond 23 = .ok (.lcmp, 1) := by decide +kernel
theorem d_F_isBeyond_24 : decode c_F_isBeyond 24 = .ok (.ifCond .le 7, 3) := by decide +kernel
theorem d_F_isBeyond_27 : decode c_F_isBeyond 27 = .ok (.iconst 1, 1) := by decide +kernel
theorem d_F_isBeyond_28 : decode c_F_isBeyond 28 = .ok (.goto 4, 3) := by decide +kernel
theorem d_F_isBeyond_31 : decode c_F_isBeyond 31 = .ok (.iconst 0, 1) := by decide +kernel
theorem d_F_isBeyond_32 : decode c_F_isBeyond 32 = .ok (.ireturn, 1) := by decide +kernel
abbrev c_C_init : ByteArray := prog_2_method_1_code
abbrev y_C_init : MethodName := ⟨"FingerSpans$Cut", "<init>", "(LFingerSpans$Tree;LFingerSpans$Item;LFingerSpans$Tree;)V"⟩
theorem k_C_init : Cond.code y_C_init c_C_init 4 (none : Option FieldType) ∈ lw_tbl := List.mem_of_getElem? (i := 349) (by decide +kernel)
theorem b_C_init : x_ce y_C_init c_C_init 4 (none : Option FieldType) 3 := ⟨k_C_init, i_C, by decide +kernel⟩
theorem s_C_init : Cond.instanceMethod y_C_init ∈ lw_tbl := List.mem_of_getElem? (i := 348) (by decide +kernel)
theorem d_C_init_0 : decode c_C_init 0 = .ok (.aload_n 0, 1) := by decide +kernel
theorem d_C_init_1 : decode c_C_init 1 = .ok (.invokespecial 1, 3) := by decide +kernel
theorem d_C_init_4 : decode c_C_init 4 = .ok (.aload_n 0, 1) := by decide +kernel
theorem d_C_init_5 : decode c_C_init 5 = .ok (.aload_n 1, 1) := by decide +kernel
theorem d_C_init_6 : decode c_C_init 6 = .ok (.putfield 7, 3) := by decide +kernel
theorem d_C_init_9 : decode c_C_init 9 = .ok (.aload_n 0, 1) := by decide +kernel
theorem d_C_init_10 : decode c_C_init 10 = .ok (.aload_n 2, 1) := by decide +kernel
theorem d_C_init_11 : decode c_C_init 11 = .ok (.putfield 13, 3) := by decide +kernel
theorem d_C_init_14 : decode c_C_init 14 = .ok (.aload_n 0, 1) := by decide +kernel
theorem d_C_init_15 : decode c_C_init 15 = .ok (.aload_n 3, 1) := by decide +kernel
theorem d_C_init_16 : decode c_C_init 16 = .ok (.putfield 17, 3) := by decide +kernel
theorem d_C_init_19 : decode c_C_init 19 = .ok (.return_, 1) := by decide +kernel
abbrev c_H_init : ByteArray := prog_3_method_1_code
abbrev y_H_init : MethodName := ⟨"FingerSpans$Halves", "<init>", "(LFingerSpans$Tree;LFingerSpans$Tree;)V"⟩
theorem k_H_init : Cond.code y_H_init c_H_init 3 (none : Option FieldType) ∈ lw_tbl := List.mem_of_getElem? (i := 330) (by decide +kernel)
theorem b_H_init : x_ce y_H_init c_H_init 3 (none : Option FieldType) 2 := ⟨k_H_init, i_H, by decide +kernel⟩
theorem s_H_init : Cond.instanceMethod y_H_init ∈ lw_tbl := List.mem_of_getElem? (i := 329) (by decide +kernel)
theorem d_H_init_0 : decode c_H_init 0 = .ok (.aload_n 0, 1) := by decide +kernel
theorem d_H_init_1 : decode c_H_init 1 = .ok (.invokespecial 1, 3) := by decide +kernel
theorem d_H_init_4 : decode c_H_init 4 = .ok (.aload_n 0, 1) := by decide +kernel
theorem d_H_init_5 : decode c_H_init 5 = .ok (.aload_n 1, 1) := by decide +kernel
theorem d_H_init_6 : decode c_H_init 6 = .ok (.putfield 7, 3) := by decide +kernel
theorem d_H_init_9 : decode c_H_init 9 = .ok (.aload_n 0, 1) := by decide +kernel
theorem d_H_init_10 : decode c_H_init 10 = .ok (.aload_n 2, 1) := by decide +kernel
theorem d_H_init_11 : decode c_H_init 11 = .ok (.putfield 13, 3) := by decide +kernel
theorem d_H_init_14 : decode c_H_init 14 = .ok (.return_, 1) := by decide +kernel
abbrev c_I_init : ByteArray := prog_4_method_1_code
abbrev y_I_init : MethodName := ⟨"FingerSpans$Item", "<init>", "(II)V"⟩
theorem k_I_init : Cond.code y_I_init c_I_init 3 (none : Option FieldType) ∈ lw_tbl := List.mem_of_getElem? (i := 180) (by decide +kernel)
theorem b_I_init : x_ce y_I_init c_I_init 3 (none : Option FieldType) 2 := ⟨k_I_init, i_I, by decide +kernel⟩
theorem s_I_init : Cond.instanceMethod y_I_init ∈ lw_tbl := List.mem_of_getElem? (i := 179) (by decide +kernel)
theorem d_I_init_0 : decode c_I_init 0 = .ok (.aload_n 0, 1) := by decide +kernel
theorem d_I_init_1 : decode c_I_init 1 = .ok (.invokespecial 1, 3) := by decide +kernel
theorem d_I_init_4 : decode c_I_init 4 = .ok (.aload_n 0, 1) := by decide +kernel
theorem d_I_init_5 : decode c_I_init 5 = .ok (.iconst 0, 1) := by decide +kernel
theorem d_I_init_6 : decode c_I_init 6 = .ok (.putfield 7, 3) := by decide +kernel
theorem d_I_init_9 : decode c_I_init 9 = .ok (.aload_n 0, 1) := by decide +kernel
theorem d_I_init_10 : decode c_I_init 10 = .ok (.iload_n 1, 1) := by decide +kernel
theorem d_I_init_11 : decode c_I_init 11 = .ok (.putfield 13, 3) := by decide +kernel
theorem d_I_init_14 : decode c_I_init 14 = .ok (.aload_n 0, 1) := by decide +kernel
theorem d_I_init_15 : decode c_I_init 15 = .ok (.iload_n 2, 1) := by decide +kernel
theorem d_I_init_16 : decode c_I_init 16 = .ok (.putfield 16, 3) := by decide +kernel
theorem d_I_init_19 : decode c_I_init 19 = .ok (.aload_n 0, 1) := by decide +kernel
theorem d_I_init_20 : decode c_I_init 20 = .ok (.iconst 0, 1) := by decide +kernel
theorem d_I_init_21 : decode c_I_init 21 = .ok (.anewarray 8, 3) := by decide +kernel
theorem d_I_init_24 : decode c_I_init 24 = .ok (.putfield 19, 3) := by decide +kernel
theorem d_I_init_27 : decode c_I_init 27 = .ok (.aload_n 0, 1) := by decide +kernel
theorem d_I_init_28 : decode c_I_init 28 = .ok (.iconst 1, 1) := by decide +kernel
theorem d_I_init_29 : decode c_I_init 29 = .ok (.putfield 23, 3) := by decide +kernel
theorem d_I_init_32 : decode c_I_init 32 = .ok (.return_, 1) := by decide +kernel
abbrev c_I_init2 : ByteArray := prog_4_method_2_code
abbrev y_I_init2 : MethodName := ⟨"FingerSpans$Item", "<init>", "(I[LFingerSpans$Item;)V"⟩
theorem k_I_init2 : Cond.code y_I_init2 c_I_init2 3 (none : Option FieldType) ∈ lw_tbl := List.mem_of_getElem? (i := 241) (by decide +kernel)
theorem b_I_init2 : x_ce y_I_init2 c_I_init2 3 (none : Option FieldType) 2 := ⟨k_I_init2, i_I, by decide +kernel⟩
theorem s_I_init2 : Cond.instanceMethod y_I_init2 ∈ lw_tbl := List.mem_of_getElem? (i := 240) (by decide +kernel)
theorem d_I_init2_0 : decode c_I_init2 0 = .ok (.aload_n 0, 1) := by decide +kernel
theorem d_I_init2_1 : decode c_I_init2 1 = .ok (.invokespecial 1, 3) := by decide +kernel
theorem d_I_init2_4 : decode c_I_init2 4 = .ok (.aload_n 0, 1) := by decide +kernel
theorem d_I_init2_5 : decode c_I_init2 5 = .ok (.iload_n 1, 1) := by decide +kernel
theorem d_I_init2_6 : decode c_I_init2 6 = .ok (.putfield 7, 3) := by decide +kernel
theorem d_I_init2_9 : decode c_I_init2 9 = .ok (.aload_n 0, 1) := by decide +kernel
theorem d_I_init2_10 : decode c_I_init2 10 = .ok (.iconst 0, 1) := by decide +kernel
theorem d_I_init2_11 : decode c_I_init2 11 = .ok (.putfield 13, 3) := by decide +kernel
theorem d_I_init2_14 : decode c_I_init2 14 = .ok (.aload_n 0, 1) := by decide +kernel
theorem d_I_init2_15 : decode c_I_init2 15 = .ok (.iconst 0, 1) := by decide +kernel
theorem d_I_init2_16 : decode c_I_init2 16 = .ok (.putfield 16, 3) := by decide +kernel
theorem d_I_init2_19 : decode c_I_init2 19 = .ok (.aload_n 0, 1) := by decide +kernel
theorem d_I_init2_20 : decode c_I_init2 20 = .ok (.aload_n 2, 1) := by decide +kernel
theorem d_I_init2_21 : decode c_I_init2 21 = .ok (.putfield 19, 3) := by decide +kernel
theorem d_I_init2_24 : decode c_I_init2 24 = .ok (.aload_n 0, 1) := by decide +kernel
theorem d_I_init2_25 : decode c_I_init2 25 = .ok (.aload_n 2, 1) := by decide +kernel
theorem d_I_init2_26 : decode c_I_init2 26 = .ok (.invokestatic 26, 3) := by decide +kernel
theorem d_I_init2_29 : decode c_I_init2 29 = .ok (.putfield 23, 3) := by decide +kernel
theorem d_I_init2_32 : decode c_I_init2 32 = .ok (.return_, 1) := by decide +kernel
abbrev c_I_isNode : ByteArray := prog_4_method_3_code
abbrev y_I_isNode : MethodName := ⟨"FingerSpans$Item", "isNode", "()Z"⟩
theorem k_I_isNode : Cond.code y_I_isNode c_I_isNode 1 (some FieldType.boolean) ∈ lw_tbl := List.mem_of_getElem? (i := 404) (by decide +kernel)
theorem b_I_isNode : x_ce y_I_isNode c_I_isNode 1 (some FieldType.boolean) 0 := ⟨k_I_isNode, i_I, by decide +kernel⟩
theorem s_I_isNode : Cond.instanceMethod y_I_isNode ∈ lw_tbl := List.mem_of_getElem? (i := 403) (by decide +kernel)
theorem v_I_isNode : Cond.selects "FingerSpans$Item" y_I_isNode y_I_isNode ∈ lw_tbl := List.mem_of_getElem? (i := 26) (by decide +kernel)
theorem d_I_isNode_0 : decode c_I_isNode 0 = .ok (.aload_n 0, 1) := by decide +kernel
theorem d_I_isNode_1 : decode c_I_isNode 1 = .ok (.getfield 19, 3) := by decide +kernel
theorem d_I_isNode_4 : decode c_I_isNode 4 = .ok (.arraylength, 1) := by decide +kernel
theorem d_I_isNode_5 : decode c_I_isNode 5 = .ok (.ifCond .le 7, 3) := by decide +kernel
theorem d_I_isNode_8 : decode c_I_isNode 8 = .ok (.iconst 1, 1) := by decide +kernel
theorem d_I_isNode_9 : decode c_I_isNode 9 = .ok (.goto 4, 3) := by decide +kernel
theorem d_I_isNode_12 : decode c_I_isNode 12 = .ok (.iconst 0, 1) := by decide +kernel
theorem d_I_isNode_13 : decode c_I_isNode 13 = .ok (.ireturn, 1) := by decide +kernel
abbrev c_K_init : ByteArray := prog_5_method_1_code
abbrev y_K_init : MethodName := ⟨"FingerSpans$Marks", "<init>", "()V"⟩
theorem k_K_init : Cond.code y_K_init c_K_init 1 (none : Option FieldType) ∈ lw_tbl := List.mem_of_getElem? (i := 139) (by decide +kernel)
theorem b_K_init : x_ce y_K_init c_K_init 1 (none : Option FieldType) 0 := ⟨k_K_init, i_K, by decide +kernel⟩
theorem s_K_init : Cond.instanceMethod y_K_init ∈ lw_tbl := List.mem_of_getElem? (i := 138) (by decide +kernel)
theorem d_K_init_0 : decode c_K_init 0 = .ok (.aload_n 0, 1) := by decide +kernel
theorem d_K_init_1 : decode c_K_init 1 = .ok (.invokespecial 3, 3) := by decide +kernel
theorem d_K_init_4 : decode c_K_init 4 = .ok (.aload_n 0, 1) := by decide +kernel
theorem d_K_init_5 : decode c_K_init 5 = .ok (.sipush 4642, 3) := by decide +kernel
theorem d_K_init_8 : decode c_K_init 8 = .ok (.newarray .int, 2) := by decide +kernel
theorem d_K_init_10 : decode c_K_init 10 = .ok (.putfield 9, 3) := by decide +kernel
theorem d_K_init_13 : decode c_K_init 13 = .ok (.aload_n 0, 1) := by decide +kernel
theorem d_K_init_14 : decode c_K_init 14 = .ok (.iconst 0, 1) := by decide +kernel
theorem d_K_init_15 : decode c_K_init 15 = .ok (.putfield 15, 3) := by decide +kernel
theorem d_K_init_18 : decode c_K_init 18 = .ok (.return_, 1) := by decide +kernel
abbrev c_K_common : ByteArray := prog_5_method_2_code
abbrev y_K_common : MethodName := ⟨"FingerSpans$Marks", "common", "(LFingerSpans$Tree;LFingerSpans$Tree;)I"⟩
theorem k_K_common : Cond.code y_K_common c_K_common 7 (some FieldType.int) ∈ lw_tbl := List.mem_of_getElem? (i := 508) (by decide +kernel)
theorem b_K_common : x_ce y_K_common c_K_common 7 (some FieldType.int) 2 := ⟨k_K_common, i_K, by decide +kernel⟩
theorem s_K_common : Cond.instanceMethod y_K_common ∈ lw_tbl := List.mem_of_getElem? (i := 507) (by decide +kernel)
theorem v_K_common : Cond.selects "FingerSpans$Marks" y_K_common y_K_common ∈ lw_tbl := List.mem_of_getElem? (i := 29) (by decide +kernel)
theorem d_K_common_0 : decode c_K_common 0 = .ok (.aload_n 0, 1) := by decide +kernel
theorem d_K_common_1 : decode c_K_common 1 = .ok (.getfield 15, 3) := by decide +kernel
theorem d_K_common_4 : decode c_K_common 4 = .ok (.iconst 1, 1) := by decide +kernel
theorem d_K_common_5 : decode c_K_common 5 = .ok (.iadd, 1) := by decide +kernel
theorem d_K_common_6 : decode c_K_common 6 = .ok (.istore_n 3, 1) := by decide +kernel
theorem d_K_common_7 : decode c_K_common 7 = .ok (.aload_n 0, 1) := by decide +kernel
theorem d_K_common_8 : decode c_K_common 8 = .ok (.getfield 15, 3) := by decide +kernel
theorem d_K_common_11 : decode c_K_common 11 = .ok (.iconst 2, 1) := by decide +kernel
theorem d_K_common_12 : decode c_K_common 12 = .ok (.iadd, 1) := by decide +kernel
theorem d_K_common_13 : decode c_K_common 13 = .ok (.istore 4, 2) := by decide +kernel
theorem d_K_common_15 : decode c_K_common 15 = .ok (.aload_n 0, 1) := by decide +kernel
theorem d_K_common_16 : decode c_K_common 16 = .ok (.iload 4, 2) := by decide +kernel
theorem d_K_common_18 : decode c_K_common 18 = .ok (.putfield 15, 3) := by decide +kernel
theorem d_K_common_21 : decode c_K_common 21 = .ok (.aload_n 1, 1) := by decide +kernel
theorem d_K_common_22 : decode c_K_common 22 = .ok (.astore 5, 2) := by decide +kernel
theorem d_K_common_24 : decode c_K_common 24 = .ok (.aload 5, 2) := by decide +kernel
theorem d_K_common_26 : decode c_K_common 26 = .ok (.ifnull 33, 3) := by decide +kernel
theorem d_K_common_29 : decode c_K_common 29 = .ok (.aload_n 0, 1) := by decide +kernel
theorem d_K_common_30 : decode c_K_common 30 = .ok (.aload 5, 2) := by decide +kernel
theorem d_K_common_32 : decode c_K_common 32 = .ok (.getfield 19, 3) := by decide +kernel
theorem d_K_common_35 : decode c_K_common 35 = .ok (.iload_n 3, 1) := by decide +kernel
theorem d_K_common_36 : decode c_K_common 36 = .ok (.invokevirtual 25, 3) := by decide +kernel
theorem d_K_common_39 : decode c_K_common 39 = .ok (.aload_n 0, 1) := by decide +kernel
theorem d_K_common_40 : decode c_K_common 40 = .ok (.aload 5, 2) := by decide +kernel
theorem d_K_common_42 : decode c_K_common 42 = .ok (.getfield 29, 3) := by decide +kernel
theorem d_K_common_45 : decode c_K_common 45 = .ok (.iload_n 3, 1) := by decide +kernel
theorem d_K_common_46 : decode c_K_common 46 = .ok (.invokevirtual 25, 3) := by decide +kernel
theorem d_K_common_49 : decode c_K_common 49 = .ok (.aload 5, 2) := by decide +kernel
theorem d_K_common_51 : decode c_K_common 51 = .ok (.getfield 32, 3) := by decide +kernel
theorem d_K_common_54 : decode c_K_common 54 = .ok (.astore 5, 2) := by decide +kernel
theorem d_K_common_56 : decode c_K_common 56 = .ok (.goto (-32), 3) := by decide +kernel
theorem d_K_common_59 : decode c_K_common 59 = .ok (.iconst 0, 1) := by decide +kernel
theorem d_K_common_60 : decode c_K_common 60 = .ok (.istore 5, 2) := by decide +kernel
theorem d_K_common_62 : decode c_K_common 62 = .ok (.aload_n 2, 1) := by decide +kernel
theorem d_K_common_63 : decode c_K_common 63 = .ok (.astore 6, 2) := by decide +kernel
theorem d_K_common_65 : decode c_K_common 65 = .ok (.aload 6, 2) := by decide +kernel
theorem d_K_common_67 : decode c_K_common 67 = .ok (.ifnull 47, 3) := by decide +kernel
theorem d_K_common_70 : decode c_K_common 70 = .ok (.iload 5, 2) := by decide +kernel
theorem d_K_common_72 : decode c_K_common 72 = .ok (.aload_n 0, 1) := by decide +kernel
theorem d_K_common_73 : decode c_K_common 73 = .ok (.aload 6, 2) := by decide +kernel
theorem d_K_common_75 : decode c_K_common 75 = .ok (.getfield 19, 3) := by decide +kernel
theorem d_K_common_78 : decode c_K_common 78 = .ok (.iload_n 3, 1) := by decide +kernel
theorem d_K_common_79 : decode c_K_common 79 = .ok (.iload 4, 2) := by decide +kernel
theorem d_K_common_81 : decode c_K_common 81 = .ok (.invokevirtual 36, 3) := by decide +kernel
theorem d_K_common_84 : decode c_K_common 84 = .ok (.iadd, 1) := by decide +kernel
theorem d_K_common_85 : decode c_K_common 85 = .ok (.istore 5, 2) := by decide +kernel
theorem d_K_common_87 : decode c_K_common 87 = .ok (.iload 5, 2) := by decide +kernel
theorem d_K_common_89 : decode c_K_common 89 = .ok (.aload_n 0, 1) := by decide +kernel
theorem d_K_common_90 : decode c_K_common 90 = .ok (.aload 6, 2) := by decide +kernel
theorem d_K_common_92 : decode c_K_common 92 = .ok (.getfield 29, 3) := by decide +kernel
theorem d_K_common_95 : decode c_K_common 95 = .ok (.iload_n 3, 1) := by decide +kernel
theorem d_K_common_96 : decode c_K_common 96 = .ok (.iload 4, 2) := by decide +kernel
theorem d_K_common_98 : decode c_K_common 98 = .ok (.invokevirtual 36, 3) := by decide +kernel
theorem d_K_common_101 : decode c_K_common 101 = .ok (.iadd, 1) := by decide +kernel
theorem d_K_common_102 : decode c_K_common 102 = .ok (.istore 5, 2) := by decide +kernel
theorem d_K_common_104 : decode c_K_common 104 = .ok (.aload 6, 2) := by decide +kernel
theorem d_K_common_106 : decode c_K_common 106 = .ok (.getfield 32, 3) := by decide +kernel
theorem d_K_common_109 : decode c_K_common 109 = .ok (.astore 6, 2) := by decide +kernel
theorem d_K_common_111 : decode c_K_common 111 = .ok (.goto (-46), 3) := by decide +kernel
theorem d_K_common_114 : decode c_K_common 114 = .ok (.iload 5, 2) := by decide +kernel
theorem d_K_common_116 : decode c_K_common 116 = .ok (.ireturn, 1) := by decide +kernel
abbrev c_K_markAll : ByteArray := prog_5_method_3_code
abbrev y_K_markAll : MethodName := ⟨"FingerSpans$Marks", "markAll", "([LFingerSpans$Item;I)V"⟩
theorem k_K_markAll : Cond.code y_K_markAll c_K_markAll 7 (none : Option FieldType) ∈ lw_tbl := List.mem_of_getElem? (i := 512) (by decide +kernel)
theorem b_K_markAll : x_ce y_K_markAll c_K_markAll 7 (none : Option FieldType) 2 := ⟨k_K_markAll, i_K, by decide +kernel⟩
theorem s_K_markAll : Cond.instanceMethod y_K_markAll ∈ lw_tbl := List.mem_of_getElem? (i := 511) (by decide +kernel)
theorem v_K_markAll : Cond.selects "FingerSpans$Marks" y_K_markAll y_K_markAll ∈ lw_tbl := List.mem_of_getElem? (i := 30) (by decide +kernel)
theorem d_K_markAll_0 : decode c_K_markAll 0 = .ok (.aload_n 1, 1) := by decide +kernel
theorem d_K_markAll_1 : decode c_K_markAll 1 = .ok (.astore_n 3, 1) := by decide +kernel
theorem d_K_markAll_2 : decode c_K_markAll 2 = .ok (.aload_n 3, 1) := by decide +kernel
theorem d_K_markAll_3 : decode c_K_markAll 3 = .ok (.arraylength, 1) := by decide +kernel
theorem d_K_markAll_4 : decode c_K_markAll 4 = .ok (.istore 4, 2) := by decide +kernel
theorem d_K_markAll_6 : decode c_K_markAll 6 = .ok (.iconst 0, 1) := by decide +kernel
theorem d_K_markAll_7 : decode c_K_markAll 7 = .ok (.istore 5, 2) := by decide +kernel
theorem d_K_markAll_9 : decode c_K_markAll 9 = .ok (.iload 5, 2) := by decide +kernel
theorem d_K_markAll_11 : decode c_K_markAll 11 = .ok (.iload 4, 2) := by decide +kernel
theorem d_K_markAll_13 : decode c_K_markAll 13 = .ok (.if_icmp .ge 44, 3) := by decide +kernel
theorem d_K_markAll_16 : decode c_K_markAll 16 = .ok (.aload_n 3, 1) := by decide +kernel
theorem d_K_markAll_17 : decode c_K_markAll 17 = .ok (.iload 5, 2) := by decide +kernel
theorem d_K_markAll_19 : decode c_K_markAll 19 = .ok (.aaload, 1) := by decide +kernel
theorem d_K_markAll_20 : decode c_K_markAll 20 = .ok (.astore 6, 2) := by decide +kernel
theorem d_K_markAll_22 : decode c_K_markAll 22 = .ok (.aload 6, 2) := by decide +kernel
theorem d_K_markAll_24 : decode c_K_markAll 24 = .ok (.invokevirtual 40, 3) := by decide +kernel
theorem d_K_markAll_27 : decode c_K_markAll 27 = .ok (.ifCond .eq 24, 3) := by decide +kernel
theorem d_K_markAll_30 : decode c_K_markAll 30 = .ok (.aload_n 0, 1) := by decide +kernel
theorem d_K_markAll_31 : decode c_K_markAll 31 = .ok (.getfield 9, 3) := by decide +kernel
theorem d_K_markAll_34 : decode c_K_markAll 34 = .ok (.aload 6, 2) := by decide +kernel
theorem d_K_markAll_36 : decode c_K_markAll 36 = .ok (.getfield 46, 3) := by decide +kernel
theorem d_K_markAll_39 : decode c_K_markAll 39 = .ok (.iload_n 2, 1) := by decide +kernel
theorem d_K_markAll_40 : decode c_K_markAll 40 = .ok (.iastore, 1) := by decide +kernel
theorem d_K_markAll_41 : decode c_K_markAll 41 = .ok (.aload_n 0, 1) := by decide +kernel
theorem d_K_markAll_42 : decode c_K_markAll 42 = .ok (.aload 6, 2) := by decide +kernel
theorem d_K_markAll_44 : decode c_K_markAll 44 = .ok (.getfield 49, 3) := by decide +kernel
theorem d_K_markAll_47 : decode c_K_markAll 47 = .ok (.iload_n 2, 1) := by decide +kernel
theorem d_K_markAll_48 : decode c_K_markAll 48 = .ok (.invokevirtual 25, 3) := by decide +kernel
theorem d_K_markAll_51 : decode c_K_markAll 51 = .ok (.iinc 5 1, 3) := by decide +kernel
theorem d_K_markAll_54 : decode c_K_markAll 54 = .ok (.goto (-45), 3) := by decide +kernel
theorem d_K_markAll_57 : decode c_K_markAll 57 = .ok (.return_, 1) := by decide +kernel
abbrev c_K_countMarked : ByteArray := prog_5_method_4_code
abbrev y_K_countMarked : MethodName := ⟨"FingerSpans$Marks", "countMarked", "([LFingerSpans$Item;II)I"⟩
theorem k_K_countMarked : Cond.code y_K_countMarked c_K_countMarked 9 (some FieldType.int) ∈ lw_tbl := List.mem_of_getElem? (i := 517) (by decide +kernel)
theorem b_K_countMarked : x_ce y_K_countMarked c_K_countMarked 9 (some FieldType.int) 3 := ⟨k_K_countMarked, i_K, by decide +kernel⟩
theorem s_K_countMarked : Cond.instanceMethod y_K_countMarked ∈ lw_tbl := List.mem_of_getElem? (i := 516) (by decide +kernel)
theorem v_K_countMarked : Cond.selects "FingerSpans$Marks" y_K_countMarked y_K_countMarked ∈ lw_tbl := List.mem_of_getElem? (i := 31) (by decide +kernel)
theorem d_K_countMarked_0 : decode c_K_countMarked 0 = .ok (.iconst 0, 1) := by decide +kernel
theorem d_K_countMarked_1 : decode c_K_countMarked 1 = .ok (.istore 4, 2) := by decide +kernel
theorem d_K_countMarked_3 : decode c_K_countMarked 3 = .ok (.aload_n 1, 1) := by decide +kernel
theorem d_K_countMarked_4 : decode c_K_countMarked 4 = .ok (.astore 5, 2) := by decide +kernel
theorem d_K_countMarked_6 : decode c_K_countMarked 6 = .ok (.aload 5, 2) := by decide +kernel
theorem d_K_countMarked_8 : decode c_K_countMarked 8 = .ok (.arraylength, 1) := by decide +kernel
theorem d_K_countMarked_9 : decode c_K_countMarked 9 = .ok (.istore 6, 2) := by decide +kernel
theorem d_K_countMarked_11 : decode c_K_countMarked 11 = .ok (.iconst 0, 1) := by decide +kernel
theorem d_K_countMarked_12 : decode c_K_countMarked 12 = .ok (.istore 7, 2) := by decide +kernel
theorem d_K_countMarked_14 : decode c_K_countMarked 14 = .ok (.iload 7, 2) := by decide +kernel
theorem d_K_countMarked_16 : decode c_K_countMarked 16 = .ok (.iload 6, 2) := by decide +kernel
theorem d_K_countMarked_18 : decode c_K_countMarked 18 = .ok (.if_icmp .ge 68, 3) := by decide +kernel
theorem d_K_countMarked_21 : decode c_K_countMarked 21 = .ok (.aload 5, 2) := by decide +kernel
theorem d_K_countMarked_23 : decode c_K_countMarked 23 = .ok (.iload 7, 2) := by decide +kernel
theorem d_K_countMarked_25 : decode c_K_countMarked 25 = .ok (.aaload, 1) := by decide +kernel
theorem d_K_countMarked_26 : decode c_K_countMarked 26 = .ok (.astore 8, 2) := by decide +kernel
theorem d_K_countMarked_28 : decode c_K_countMarked 28 = .ok (.aload 8, 2) := by decide +kernel
theorem d_K_countMarked_30 : decode c_K_countMarked 30 = .ok (.invokevirtual 40, 3) := by decide +kernel
theorem d_K_countMarked_33 : decode c_K_countMarked 33 = .ok (.ifCond .eq 47, 3) := by decide +kernel
theorem d_K_countMarked_36 : decode c_K_countMarked 36 = .ok (.aload_n 0, 1) := by decide +kernel
theorem d_K_countMarked_37 : decode c_K_countMarked 37 = .ok (.getfield 9, 3) := by decide +kernel
theorem d_K_countMarked_40 : decode c_K_countMarked 40 = .ok (.aload 8, 2) := by decide +kernel
theorem d_K_countMarked_42 : decode c_K_countMarked 42 = .ok (.getfield 46, 3) := by decide +kernel
theorem d_K_countMarked_45 : decode c_K_countMarked 45 = .ok (.iaload, 1) := by decide +kernel
theorem d_K_countMarked_46 : decode c_K_countMarked 46 = .ok (.iload_n 2, 1) := by decide +kernel
theorem d_K_countMarked_47 : decode c_K_countMarked 47 = .ok (.if_icmp .ne 17, 3) := by decide +kernel
theorem d_K_countMarked_50 : decode c_K_countMarked 50 = .ok (.aload_n 0, 1) := by decide +kernel
theorem d_K_countMarked_51 : decode c_K_countMarked 51 = .ok (.getfield 9, 3) := by decide +kernel
theorem d_K_countMarked_54 : decode c_K_countMarked 54 = .ok (.aload 8, 2) := by decide +kernel
theorem d_K_countMarked_56 : decode c_K_countMarked 56 = .ok (.getfield 46, 3) := by decide +kernel
theorem d_K_countMarked_59 : decode c_K_countMarked 59 = .ok (.iload_n 3, 1) := by decide +kernel
theorem d_K_countMarked_60 : decode c_K_countMarked 60 = .ok (.iastore, 1) := by decide +kernel
theorem d_K_countMarked_61 : decode c_K_countMarked 61 = .ok (.iinc 4 1, 3) := by decide +kernel
theorem d_K_countMarked_64 : decode c_K_countMarked 64 = .ok (.iload 4, 2) := by decide +kernel
theorem d_K_countMarked_66 : decode c_K_countMarked 66 = .ok (.aload_n 0, 1) := by decide +kernel
theorem d_K_countMarked_67 : decode c_K_countMarked 67 = .ok (.aload 8, 2) := by decide +kernel
theorem d_K_countMarked_69 : decode c_K_countMarked 69 = .ok (.getfield 49, 3) := by decide +kernel
theorem d_K_countMarked_72 : decode c_K_countMarked 72 = .ok (.iload_n 2, 1) := by decide +kernel
theorem d_K_countMarked_73 : decode c_K_countMarked 73 = .ok (.iload_n 3, 1) := by decide +kernel
theorem d_K_countMarked_74 : decode c_K_countMarked 74 = .ok (.invokevirtual 36, 3) := by decide +kernel
theorem d_K_countMarked_77 : decode c_K_countMarked 77 = .ok (.iadd, 1) := by decide +kernel
theorem d_K_countMarked_78 : decode c_K_countMarked 78 = .ok (.istore 4, 2) := by decide +kernel
theorem d_K_countMarked_80 : decode c_K_countMarked 80 = .ok (.iinc 7 1, 3) := by decide +kernel
theorem d_K_countMarked_83 : decode c_K_countMarked 83 = .ok (.goto (-69), 3) := by decide +kernel
theorem d_K_countMarked_86 : decode c_K_countMarked 86 = .ok (.iload 4, 2) := by decide +kernel
theorem d_K_countMarked_88 : decode c_K_countMarked 88 = .ok (.ireturn, 1) := by decide +kernel
abbrev c_R_entriesIn : ByteArray := prog_6_method_2_code
abbrev y_R_entriesIn : MethodName := ⟨"FingerSpans$Rows", "entriesIn", "([LFingerSpans$Item;)I"⟩
theorem k_R_entriesIn : Cond.code y_R_entriesIn c_R_entriesIn 6 (some FieldType.int) ∈ lw_tbl := List.mem_of_getElem? (i := 93) (by decide +kernel)
theorem b_R_entriesIn : x_ce y_R_entriesIn c_R_entriesIn 6 (some FieldType.int) 1 := ⟨k_R_entriesIn, i_R, by decide +kernel⟩
theorem s_R_entriesIn : Cond.static y_R_entriesIn ∈ lw_tbl := List.mem_of_getElem? (i := 92) (by decide +kernel)
theorem d_R_entriesIn_0 : decode c_R_entriesIn 0 = .ok (.iconst 0, 1) := by decide +kernel
theorem d_R_entriesIn_1 : decode c_R_entriesIn 1 = .ok (.istore_n 1, 1) := by decide +kernel
theorem d_R_entriesIn_2 : decode c_R_entriesIn 2 = .ok (.aload_n 0, 1) := by decide +kernel
theorem d_R_entriesIn_3 : decode c_R_entriesIn 3 = .ok (.astore_n 2, 1) := by decide +kernel
theorem d_R_entriesIn_4 : decode c_R_entriesIn 4 = .ok (.aload_n 2, 1) := by decide +kernel
theorem d_R_entriesIn_5 : decode c_R_entriesIn 5 = .ok (.arraylength, 1) := by decide +kernel
theorem d_R_entriesIn_6 : decode c_R_entriesIn 6 = .ok (.istore_n 3, 1) := by decide +kernel
theorem d_R_entriesIn_7 : decode c_R_entriesIn 7 = .ok (.iconst 0, 1) := by decide +kernel
theorem d_R_entriesIn_8 : decode c_R_entriesIn 8 = .ok (.istore 4, 2) := by decide +kernel
theorem d_R_entriesIn_10 : decode c_R_entriesIn 10 = .ok (.iload 4, 2) := by decide +kernel
theorem d_R_entriesIn_12 : decode c_R_entriesIn 12 = .ok (.iload_n 3, 1) := by decide +kernel
theorem d_R_entriesIn_13 : decode c_R_entriesIn 13 = .ok (.if_icmp .ge 23, 3) := by decide +kernel
theorem d_R_entriesIn_16 : decode c_R_entriesIn 16 = .ok (.aload_n 2, 1) := by decide +kernel
theorem d_R_entriesIn_17 : decode c_R_entriesIn 17 = .ok (.iload 4, 2) := by decide +kernel
theorem d_R_entriesIn_19 : decode c_R_entriesIn 19 = .ok (.aaload, 1) := by decide +kernel
theorem d_R_entriesIn_20 : decode c_R_entriesIn 20 = .ok (.astore 5, 2) := by decide +kernel
theorem d_R_entriesIn_22 : decode c_R_entriesIn 22 = .ok (.iload_n 1, 1) := by decide +kernel
theorem d_R_entriesIn_23 : decode c_R_entriesIn 23 = .ok (.aload 5, 2) := by decide +kernel
theorem d_R_entriesIn_25 : decode c_R_entriesIn 25 = .ok (.getfield 7, 3) := by decide +kernel
theorem d_R_entriesIn_28 : decode c_R_entriesIn 28 = .ok (.iadd, 1) := by decide +kernel
theorem d_R_entriesIn_29 : decode c_R_entriesIn 29 = .ok (.istore_n 1, 1) := by decide +kernel
theorem d_R_entriesIn_30 : decode c_R_entriesIn 30 = .ok (.iinc 4 1, 3) := by decide +kernel
theorem d_R_entriesIn_33 : decode c_R_entriesIn 33 = .ok (.goto (-23), 3) := by decide +kernel
theorem d_R_entriesIn_36 : decode c_R_entriesIn 36 = .ok (.iload_n 1, 1) := by decide +kernel
theorem d_R_entriesIn_37 : decode c_R_entriesIn 37 = .ok (.ireturn, 1) := by decide +kernel
abbrev c_R_entriesBefore : ByteArray := prog_6_method_3_code
abbrev y_R_entriesBefore : MethodName := ⟨"FingerSpans$Rows", "entriesBefore", "([LFingerSpans$Item;I)I"⟩
theorem k_R_entriesBefore : Cond.code y_R_entriesBefore c_R_entriesBefore 4 (some FieldType.int) ∈ lw_tbl := List.mem_of_getElem? (i := 407) (by decide +kernel)
theorem b_R_entriesBefore : x_ce y_R_entriesBefore c_R_entriesBefore 4 (some FieldType.int) 2 := ⟨k_R_entriesBefore, i_R, by decide +kernel⟩
theorem s_R_entriesBefore : Cond.static y_R_entriesBefore ∈ lw_tbl := List.mem_of_getElem? (i := 406) (by decide +kernel)
theorem d_R_entriesBefore_0 : decode c_R_entriesBefore 0 = .ok (.iconst 0, 1) := by decide +kernel
theorem d_R_entriesBefore_1 : decode c_R_entriesBefore 1 = .ok (.istore_n 2, 1) := by decide +kernel
theorem d_R_entriesBefore_2 : decode c_R_entriesBefore 2 = .ok (.iconst 0, 1) := by decide +kernel
theorem d_R_entriesBefore_3 : decode c_R_entriesBefore 3 = .ok (.istore_n 3, 1) := by decide +kernel
theorem d_R_entriesBefore_4 : decode c_R_entriesBefore 4 = .ok (.iload_n 3, 1) := by decide +kernel
theorem d_R_entriesBefore_5 : decode c_R_entriesBefore 5 = .ok (.iload_n 1, 1) := by decide +kernel
theorem d_R_entriesBefore_6 : decode c_R_entriesBefore 6 = .ok (.if_icmp .ge 18, 3) := by decide +kernel
theorem d_R_entriesBefore_9 : decode c_R_entriesBefore 9 = .ok (.iload_n 2, 1) := by decide +kernel
theorem d_R_entriesBefore_10 : decode c_R_entriesBefore 10 = .ok (.aload_n 0, 1) := by decide +kernel
theorem d_R_entriesBefore_11 : decode c_R_entriesBefore 11 = .ok (.iload_n 3, 1) := by decide +kernel
theorem d_R_entriesBefore_12 : decode c_R_entriesBefore 12 = .ok (.aaload, 1) := by decide +kernel
theorem d_R_entriesBefore_13 : decode c_R_entriesBefore 13 = .ok (.getfield 7, 3) := by decide +kernel
theorem d_R_entriesBefore_16 : decode c_R_entriesBefore 16 = .ok (.iadd, 1) := by decide +kernel
theorem d_R_entriesBefore_17 : decode c_R_entriesBefore 17 = .ok (.istore_n 2, 1) := by decide +kernel
theorem d_R_entriesBefore_18 : decode c_R_entriesBefore 18 = .ok (.iinc 3 1, 3) := by decide +kernel
theorem d_R_entriesBefore_21 : decode c_R_entriesBefore 21 = .ok (.goto (-17), 3) := by decide +kernel
theorem d_R_entriesBefore_24 : decode c_R_entriesBefore 24 = .ok (.iload_n 2, 1) := by decide +kernel
theorem d_R_entriesBefore_25 : decode c_R_entriesBefore 25 = .ok (.ireturn, 1) := by decide +kernel
abbrev c_R_indexOf : ByteArray := prog_6_method_4_code
abbrev y_R_indexOf : MethodName := ⟨"FingerSpans$Rows", "indexOf", "([LFingerSpans$Item;I)I"⟩
theorem k_R_indexOf : Cond.code y_R_indexOf c_R_indexOf 4 (some FieldType.int) ∈ lw_tbl := List.mem_of_getElem? (i := 368) (by decide +kernel)
theorem b_R_indexOf : x_ce y_R_indexOf c_R_indexOf 4 (some FieldType.int) 2 := ⟨k_R_indexOf, i_R, by decide +kernel⟩
theorem s_R_indexOf : Cond.static y_R_indexOf ∈ lw_tbl := List.mem_of_getElem? (i := 367) (by decide +kernel)
theorem d_R_indexOf_0 : decode c_R_indexOf 0 = .ok (.iconst 0, 1) := by decide +kernel
theorem d_R_indexOf_1 : decode c_R_indexOf 1 = .ok (.istore_n 2, 1) := by decide +kernel
theorem d_R_indexOf_2 : decode c_R_indexOf 2 = .ok (.aload_n 0, 1) := by decide +kernel
theorem d_R_indexOf_3 : decode c_R_indexOf 3 = .ok (.iconst 0, 1) := by decide +kernel
theorem d_R_indexOf_4 : decode c_R_indexOf 4 = .ok (.aaload, 1) := by decide +kernel
theorem d_R_indexOf_5 : decode c_R_indexOf 5 = .ok (.getfield 7, 3) := by decide +kernel
theorem d_R_indexOf_8 : decode c_R_indexOf 8 = .ok (.istore_n 3, 1) := by decide +kernel
theorem d_R_indexOf_9 : decode c_R_indexOf 9 = .ok (.iload_n 1, 1) := by decide +kernel
theorem d_R_indexOf_10 : decode c_R_indexOf 10 = .ok (.iload_n 3, 1) := by decide +kernel
theorem d_R_indexOf_11 : decode c_R_indexOf 11 = .ok (.if_icmp .lt 26, 3) := by decide +kernel
theorem d_R_indexOf_14 : decode c_R_indexOf 14 = .ok (.iload_n 2, 1) := by decide +kernel
theorem d_R_indexOf_15 : decode c_R_indexOf 15 = .ok (.aload_n 0, 1) := by decide +kernel
theorem d_R_indexOf_16 : decode c_R_indexOf 16 = .ok (.arraylength, 1) := by decide +kernel
theorem d_R_indexOf_17 : decode c_R_indexOf 17 = .ok (.iconst 1, 1) := by decide +kernel
theorem d_R_indexOf_18 : decode c_R_indexOf 18 = .ok (.isub, 1) := by decide +kernel
theorem d_R_indexOf_19 : decode c_R_indexOf 19 = .ok (.if_icmp .ge 18, 3) := by decide +kernel
theorem d_R_indexOf_22 : decode c_R_indexOf 22 = .ok (.iinc 2 1, 3) := by decide +kernel
theorem d_R_indexOf_25 : decode c_R_indexOf 25 = .ok (.iload_n 3, 1) := by decide +kernel
theorem d_R_indexOf_26 : decode c_R_indexOf 26 = .ok (.aload_n 0, 1) := by decide +kernel
theorem d_R_indexOf_27 : decode c_R_indexOf 27 = .ok (.iload_n 2, 1) := by decide +kernel
theorem d_R_indexOf_28 : decode c_R_indexOf 28 = .ok (.aaload, 1) := by decide +kernel
theorem d_R_indexOf_29 : decode c_R_indexOf 29 = .ok (.getfield 7, 3) := by decide +kernel
theorem d_R_indexOf_32 : decode c_R_indexOf 32 = .ok (.iadd, 1) := by decide +kernel
theorem d_R_indexOf_33 : decode c_R_indexOf 33 = .ok (.istore_n 3, 1) := by decide +kernel
theorem d_R_indexOf_34 : decode c_R_indexOf 34 = .ok (.goto (-25), 3) := by decide +kernel
theorem d_R_indexOf_37 : decode c_R_indexOf 37 = .ok (.iload_n 2, 1) := by decide +kernel
theorem d_R_indexOf_38 : decode c_R_indexOf 38 = .ok (.ireturn, 1) := by decide +kernel
abbrev c_R_entryAt : ByteArray := prog_6_method_5_code
abbrev y_R_entryAt : MethodName := ⟨"FingerSpans$Rows", "entryAt", "([LFingerSpans$Item;I)LFingerSpans$Item;"⟩
theorem k_R_entryAt : Cond.code y_R_entryAt c_R_entryAt 4 (some (FieldType.object "FingerSpans$Item")) ∈ lw_tbl := List.mem_of_getElem? (i := 429) (by decide +kernel)
theorem b_R_entryAt : x_ce y_R_entryAt c_R_entryAt 4 (some (FieldType.object "FingerSpans$Item")) 2 := ⟨k_R_entryAt, i_R, by decide +kernel⟩
theorem s_R_entryAt : Cond.static y_R_entryAt ∈ lw_tbl := List.mem_of_getElem? (i := 428) (by decide +kernel)
theorem d_R_entryAt_0 : decode c_R_entryAt 0 = .ok (.aload_n 0, 1) := by decide +kernel
theorem d_R_entryAt_1 : decode c_R_entryAt 1 = .ok (.iload_n 1, 1) := by decide +kernel
theorem d_R_entryAt_2 : decode c_R_entryAt 2 = .ok (.invokestatic 13, 3) := by decide +kernel
theorem d_R_entryAt_5 : decode c_R_entryAt 5 = .ok (.istore_n 2, 1) := by decide +kernel
theorem d_R_entryAt_6 : decode c_R_entryAt 6 = .ok (.aload_n 0, 1) := by decide +kernel
theorem d_R_entryAt_7 : decode c_R_entryAt 7 = .ok (.iload_n 2, 1) := by decide +kernel
theorem d_R_entryAt_8 : decode c_R_entryAt 8 = .ok (.aaload, 1) := by decide +kernel
theorem d_R_entryAt_9 : decode c_R_entryAt 9 = .ok (.astore_n 3, 1) := by decide +kernel
theorem d_R_entryAt_10 : decode c_R_entryAt 10 = .ok (.aload_n 3, 1) := by decide +kernel
theorem d_R_entryAt_11 : decode c_R_entryAt 11 = .ok (.invokevirtual 19, 3) := by decide +kernel
theorem d_R_entryAt_14 : decode c_R_entryAt 14 = .ok (.ifCond .eq 20, 3) := by decide +kernel
theorem d_R_entryAt_17 : decode c_R_entryAt 17 = .ok (.aload_n 3, 1) := by decide +kernel
theorem d_R_entryAt_18 : decode c_R_entryAt 18 = .ok (.getfield 23, 3) := by decide +kernel
theorem d_R_entryAt_21 : decode c_R_entryAt 21 = .ok (.iload_n 1, 1) := by decide +kernel
theorem d_R_entryAt_22 : decode c_R_entryAt 22 = .ok (.aload_n 0, 1) := by decide +kernel
theorem d_R_entryAt_23 : decode c_R_entryAt 23 = .ok (.iload_n 2, 1) := by decide +kernel
theorem d_R_entryAt_24 : decode c_R_entryAt 24 = .ok (.invokestatic 27, 3) := by decide +kernel
theorem d_R_entryAt_27 : decode c_R_entryAt 27 = .ok (.isub, 1) := by decide +kernel
theorem d_R_entryAt_28 : decode c_R_entryAt 28 = .ok (.invokestatic 30, 3) := by decide +kernel
theorem d_R_entryAt_31 : decode c_R_entryAt 31 = .ok (.goto 4, 3) := by decide +kernel
theorem d_R_entryAt_34 : decode c_R_entryAt 34 = .ok (.aload_n 3, 1) := by decide +kernel
theorem d_R_entryAt_35 : decode c_R_entryAt 35 = .ok (.areturn, 1) := by decide +kernel
abbrev c_R_slice : ByteArray := prog_6_method_6_code
abbrev y_R_slice : MethodName := ⟨"FingerSpans$Rows", "slice", "([LFingerSpans$Item;II)[LFingerSpans$Item;"⟩
theorem k_R_slice : Cond.code y_R_slice c_R_slice 5 (some (FieldType.array (FieldType.object "FingerSpans$Item"))) ∈ lw_tbl := List.mem_of_getElem? (i := 234) (by decide +kernel)
theorem b_R_slice : x_ce y_R_slice c_R_slice 5 (some (FieldType.array (FieldType.object "FingerSpans$Item"))) 3 := ⟨k_R_slice, i_R, by decide +kernel⟩
theorem s_R_slice : Cond.static y_R_slice ∈ lw_tbl := List.mem_of_getElem? (i := 233) (by decide +kernel)
theorem d_R_slice_0 : decode c_R_slice 0 = .ok (.iload_n 2, 1) := by decide +kernel
theorem d_R_slice_1 : decode c_R_slice 1 = .ok (.iload_n 1, 1) := by decide +kernel
theorem d_R_slice_2 : decode c_R_slice 2 = .ok (.isub, 1) := by decide +kernel
theorem d_R_slice_3 : decode c_R_slice 3 = .ok (.anewarray 8, 3) := by decide +kernel
theorem d_R_slice_6 : decode c_R_slice 6 = .ok (.astore_n 3, 1) := by decide +kernel
theorem d_R_slice_7 : decode c_R_slice 7 = .ok (.iconst 0, 1) := by decide +kernel
theorem d_R_slice_8 : decode c_R_slice 8 = .ok (.istore 4, 2) := by decide +kernel
theorem d_R_slice_10 : decode c_R_slice 10 = .ok (.iload 4, 2) := by decide +kernel
theorem d_R_slice_12 : decode c_R_slice 12 = .ok (.aload_n 3, 1) := by decide +kernel
theorem d_R_slice_13 : decode c_R_slice 13 = .ok (.arraylength, 1) := by decide +kernel
theorem d_R_slice_14 : decode c_R_slice 14 = .ok (.if_icmp .ge 19, 3) := by decide +kernel
theorem d_R_slice_17 : decode c_R_slice 17 = .ok (.aload_n 3, 1) := by decide +kernel
theorem d_R_slice_18 : decode c_R_slice 18 = .ok (.iload 4, 2) := by decide +kernel
theorem d_R_slice_20 : decode c_R_slice 20 = .ok (.aload_n 0, 1) := by decide +kernel
theorem d_R_slice_21 : decode c_R_slice 21 = .ok (.iload_n 1, 1) := by decide +kernel
theorem d_R_slice_22 : decode c_R_slice 22 = .ok (.iload 4, 2) := by decide +kernel
theorem d_R_slice_24 : decode c_R_slice 24 = .ok (.iadd, 1) := by decide +kernel
theorem d_R_slice_25 : decode c_R_slice 25 = .ok (.aaload, 1) := by decide +kernel
theorem d_R_slice_26 : decode c_R_slice 26 = .ok (.aastore, 1) := by decide +kernel
theorem d_R_slice_27 : decode c_R_slice 27 = .ok (.iinc 4 1, 3) := by decide +kernel
theorem d_R_slice_30 : decode c_R_slice 30 = .ok (.goto (-20), 3) := by decide +kernel
theorem d_R_slice_33 : decode c_R_slice 33 = .ok (.aload_n 3, 1) := by decide +kernel
theorem d_R_slice_34 : decode c_R_slice 34 = .ok (.areturn, 1) := by decide +kernel
abbrev c_R_before : ByteArray := prog_6_method_7_code
abbrev y_R_before : MethodName := ⟨"FingerSpans$Rows", "before", "([LFingerSpans$Item;I)[LFingerSpans$Item;"⟩
theorem k_R_before : Cond.code y_R_before c_R_before 2 (some (FieldType.array (FieldType.object "FingerSpans$Item"))) ∈ lw_tbl := List.mem_of_getElem? (i := 258) (by decide +kernel)
theorem b_R_before : x_ce y_R_before c_R_before 2 (some (FieldType.array (FieldType.object "FingerSpans$Item"))) 2 := ⟨k_R_before, i_R, by decide +kernel⟩
theorem s_R_before : Cond.static y_R_before ∈ lw_tbl := List.mem_of_getElem? (i := 257) (by decide +kernel)
theorem d_R_before_0 : decode c_R_before 0 = .ok (.aload_n 0, 1) := by decide +kernel
theorem d_R_before_1 : decode c_R_before 1 = .ok (.iconst 0, 1) := by decide +kernel
theorem d_R_before_2 : decode c_R_before 2 = .ok (.iload_n 1, 1) := by decide +kernel
theorem d_R_before_3 : decode c_R_before 3 = .ok (.invokestatic 34, 3) := by decide +kernel
theorem d_R_before_6 : decode c_R_before 6 = .ok (.areturn, 1) := by decide +kernel
abbrev c_R_after : ByteArray := prog_6_method_8_code
abbrev y_R_after : MethodName := ⟨"FingerSpans$Rows", "after", "([LFingerSpans$Item;I)[LFingerSpans$Item;"⟩
theorem k_R_after : Cond.code y_R_after c_R_after 2 (some (FieldType.array (FieldType.object "FingerSpans$Item"))) ∈ lw_tbl := List.mem_of_getElem? (i := 231) (by decide +kernel)
theorem b_R_after : x_ce y_R_after c_R_after 2 (some (FieldType.array (FieldType.object "FingerSpans$Item"))) 2 := ⟨k_R_after, i_R, by decide +kernel⟩
theorem s_R_after : Cond.static y_R_after ∈ lw_tbl := List.mem_of_getElem? (i := 230) (by decide +kernel)
theorem d_R_after_0 : decode c_R_after 0 = .ok (.aload_n 0, 1) := by decide +kernel
theorem d_R_after_1 : decode c_R_after 1 = .ok (.iload_n 1, 1) := by decide +kernel
theorem d_R_after_2 : decode c_R_after 2 = .ok (.iconst 1, 1) := by decide +kernel
theorem d_R_after_3 : decode c_R_after 3 = .ok (.iadd, 1) := by decide +kernel
theorem d_R_after_4 : decode c_R_after 4 = .ok (.aload_n 0, 1) := by decide +kernel
theorem d_R_after_5 : decode c_R_after 5 = .ok (.arraylength, 1) := by decide +kernel
theorem d_R_after_6 : decode c_R_after 6 = .ok (.invokestatic 34, 3) := by decide +kernel
theorem d_R_after_9 : decode c_R_after 9 = .ok (.areturn, 1) := by decide +kernel
abbrev c_R_joined : ByteArray := prog_6_method_9_code
abbrev y_R_joined : MethodName := ⟨"FingerSpans$Rows", "joined", "([LFingerSpans$Item;[LFingerSpans$Item;)[LFingerSpans$Item;"⟩
theorem k_R_joined : Cond.code y_R_joined c_R_joined 4 (some (FieldType.array (FieldType.object "FingerSpans$Item"))) ∈ lw_tbl := List.mem_of_getElem? (i := 227) (by decide +kernel)
theorem b_R_joined : x_ce y_R_joined c_R_joined 4 (some (FieldType.array (FieldType.object "FingerSpans$Item"))) 2 := ⟨k_R_joined, i_R, by decide +kernel⟩
theorem s_R_joined : Cond.static y_R_joined ∈ lw_tbl := List.mem_of_getElem? (i := 226) (by decide +kernel)
theorem d_R_joined_0 : decode c_R_joined 0 = .ok (.aload_n 0, 1) := by decide +kernel
theorem d_R_joined_1 : decode c_R_joined 1 = .ok (.arraylength, 1) := by decide +kernel
theorem d_R_joined_2 : decode c_R_joined 2 = .ok (.aload_n 1, 1) := by decide +kernel
theorem d_R_joined_3 : decode c_R_joined 3 = .ok (.arraylength, 1) := by decide +kernel
theorem d_R_joined_4 : decode c_R_joined 4 = .ok (.iadd, 1) := by decide +kernel
theorem d_R_joined_5 : decode c_R_joined 5 = .ok (.anewarray 8, 3) := by decide +kernel
theorem d_R_joined_8 : decode c_R_joined 8 = .ok (.astore_n 2, 1) := by decide +kernel
theorem d_R_joined_9 : decode c_R_joined 9 = .ok (.iconst 0, 1) := by decide +kernel
theorem d_R_joined_10 : decode c_R_joined 10 = .ok (.istore_n 3, 1) := by decide +kernel
theorem d_R_joined_11 : decode c_R_joined 11 = .ok (.iload_n 3, 1) := by decide +kernel
theorem d_R_joined_12 : decode c_R_joined 12 = .ok (.aload_n 0, 1) := by decide +kernel
theorem d_R_joined_13 : decode c_R_joined 13 = .ok (.arraylength, 1) := by decide +kernel
theorem d_R_joined_14 : decode c_R_joined 14 = .ok (.if_icmp .ge 15, 3) := by decide +kernel
theorem d_R_joined_17 : decode c_R_joined 17 = .ok (.aload_n 2, 1) := by decide +kernel
theorem d_R_joined_18 : decode c_R_joined 18 = .ok (.iload_n 3, 1) := by decide +kernel
theorem d_R_joined_19 : decode c_R_joined 19 = .ok (.aload_n 0, 1) := by decide +kernel
theorem d_R_joined_20 : decode c_R_joined 20 = .ok (.iload_n 3, 1) := by decide +kernel
theorem d_R_joined_21 : decode c_R_joined 21 = .ok (.aaload, 1) := by decide +kernel
theorem d_R_joined_22 : decode c_R_joined 22 = .ok (.aastore, 1) := by decide +kernel
theorem d_R_joined_23 : decode c_R_joined 23 = .ok (.iinc 3 1, 3) := by decide +kernel
theorem d_R_joined_26 : decode c_R_joined 26 = .ok (.goto (-15), 3) := by decide +kernel
theorem d_R_joined_29 : decode c_R_joined 29 = .ok (.iconst 0, 1) := by decide +kernel
theorem d_R_joined_30 : decode c_R_joined 30 = .ok (.istore_n 3, 1) := by decide +kernel
theorem d_R_joined_31 : decode c_R_joined 31 = .ok (.iload_n 3, 1) := by decide +kernel
theorem d_R_joined_32 : decode c_R_joined 32 = .ok (.aload_n 1, 1) := by decide +kernel
theorem d_R_joined_33 : decode c_R_joined 33 = .ok (.arraylength, 1) := by decide +kernel
theorem d_R_joined_34 : decode c_R_joined 34 = .ok (.if_icmp .ge 18, 3) := by decide +kernel
theorem d_R_joined_37 : decode c_R_joined 37 = .ok (.aload_n 2, 1) := by decide +kernel
theorem d_R_joined_38 : decode c_R_joined 38 = .ok (.aload_n 0, 1) := by decide +kernel
theorem d_R_joined_39 : decode c_R_joined 39 = .ok (.arraylength, 1) := by decide +kernel
theorem d_R_joined_40 : decode c_R_joined 40 = .ok (.iload_n 3, 1) := by decide +kernel
theorem d_R_joined_41 : decode c_R_joined 41 = .ok (.iadd, 1) := by decide +kernel
theorem d_R_joined_42 : decode c_R_joined 42 = .ok (.aload_n 1, 1) := by decide +kernel
theorem d_R_joined_43 : decode c_R_joined 43 = .ok (.iload_n 3, 1) := by decide +kernel
theorem d_R_joined_44 : decode c_R_joined 44 = .ok (.aaload, 1) := by decide +kernel
theorem d_R_joined_45 : decode c_R_joined 45 = .ok (.aastore, 1) := by decide +kernel
theorem d_R_joined_46 : decode c_R_joined 46 = .ok (.iinc 3 1, 3) := by decide +kernel
theorem d_R_joined_49 : decode c_R_joined 49 = .ok (.goto (-18), 3) := by decide +kernel
theorem d_R_joined_52 : decode c_R_joined 52 = .ok (.aload_n 2, 1) := by decide +kernel
theorem d_R_joined_53 : decode c_R_joined 53 = .ok (.areturn, 1) := by decide +kernel
abbrev c_U_init : ByteArray := prog_7_method_1_code
abbrev y_U_init : MethodName := ⟨"FingerSpans$Rules", "<init>", "()V"⟩
theorem k_U_init : Cond.code y_U_init c_U_init 1 (none : Option FieldType) ∈ lw_tbl := List.mem_of_getElem? (i := 81) (by decide +kernel)
theorem b_U_init : x_ce y_U_init c_U_init 1 (none : Option FieldType) 0 := ⟨k_U_init, i_U, by decide +kernel⟩
theorem s_U_init : Cond.instanceMethod y_U_init ∈ lw_tbl := List.mem_of_getElem? (i := 80) (by decide +kernel)
theorem d_U_init_0 : decode c_U_init 0 = .ok (.aload_n 0, 1) := by decide +kernel
theorem d_U_init_1 : decode c_U_init 1 = .ok (.invokespecial 3, 3) := by decide +kernel
theorem d_U_init_4 : decode c_U_init 4 = .ok (.aload_n 0, 1) := by decide +kernel
theorem d_U_init_5 : decode c_U_init 5 = .ok (.iconst 0, 1) := by decide +kernel
theorem d_U_init_6 : decode c_U_init 6 = .ok (.anewarray 9, 3) := by decide +kernel
theorem d_U_init_9 : decode c_U_init 9 = .ok (.putfield 11, 3) := by decide +kernel
theorem d_U_init_12 : decode c_U_init 12 = .ok (.aload_n 0, 1) := by decide +kernel
theorem d_U_init_13 : decode c_U_init 13 = .ok (.new 17, 3) := by decide +kernel
theorem d_U_init_16 : decode c_U_init 16 = .ok (.dup, 1) := by decide +kernel
theorem d_U_init_17 : decode c_U_init 17 = .ok (.aload_n 0, 1) := by decide +kernel
theorem d_U_init_18 : decode c_U_init 18 = .ok (.getfield 11, 3) := by decide +kernel
theorem d_U_init_21 : decode c_U_init 21 = .ok (.aconst_null, 1) := by decide +kernel
theorem d_U_init_22 : decode c_U_init 22 = .ok (.aload_n 0, 1) := by decide +kernel
theorem d_U_init_23 : decode c_U_init 23 = .ok (.getfield 11, 3) := by decide +kernel
theorem d_U_init_26 : decode c_U_init 26 = .ok (.invokespecial 19, 3) := by decide +kernel
theorem d_U_init_29 : decode c_U_init 29 = .ok (.putfield 22, 3) := by decide +kernel
theorem d_U_init_32 : decode c_U_init 32 = .ok (.aload_n 0, 1) := by decide +kernel
theorem d_U_init_33 : decode c_U_init 33 = .ok (.iconst 0, 1) := by decide +kernel
theorem d_U_init_34 : decode c_U_init 34 = .ok (.putfield 26, 3) := by decide +kernel
theorem d_U_init_37 : decode c_U_init 37 = .ok (.return_, 1) := by decide +kernel
abbrev c_U_node : ByteArray := prog_7_method_2_code
abbrev y_U_node : MethodName := ⟨"FingerSpans$Rules", "node", "([LFingerSpans$Item;)LFingerSpans$Item;"⟩
theorem k_U_node : Cond.code y_U_node c_U_node 2 (some (FieldType.object "FingerSpans$Item")) ∈ lw_tbl := List.mem_of_getElem? (i := 238) (by decide +kernel)
theorem b_U_node : x_ce y_U_node c_U_node 2 (some (FieldType.object "FingerSpans$Item")) 1 := ⟨k_U_node, i_U, by decide +kernel⟩
theorem s_U_node : Cond.instanceMethod y_U_node ∈ lw_tbl := List.mem_of_getElem? (i := 237) (by decide +kernel)
theorem v_U_node : Cond.selects "FingerSpans$Rules" y_U_node y_U_node ∈ lw_tbl := List.mem_of_getElem? (i := 6) (by decide +kernel)
theorem d_U_node_0 : decode c_U_node 0 = .ok (.aload_n 0, 1) := by decide +kernel
theorem d_U_node_1 : decode c_U_node 1 = .ok (.dup, 1) := by decide +kernel
theorem d_U_node_2 : decode c_U_node 2 = .ok (.getfield 26, 3) := by decide +kernel
theorem d_U_node_5 : decode c_U_node 5 = .ok (.iconst 1, 1) := by decide +kernel
theorem d_U_node_6 : decode c_U_node 6 = .ok (.iadd, 1) := by decide +kernel
theorem d_U_node_7 : decode c_U_node 7 = .ok (.putfield 26, 3) := by decide +kernel
theorem d_U_node_10 : decode c_U_node 10 = .ok (.new 9, 3) := by decide +kernel
theorem d_U_node_13 : decode c_U_node 13 = .ok (.dup, 1) := by decide +kernel
theorem d_U_node_14 : decode c_U_node 14 = .ok (.aload_n 0, 1) := by decide +kernel
theorem d_U_node_15 : decode c_U_node 15 = .ok (.getfield 26, 3) := by decide +kernel
theorem d_U_node_18 : decode c_U_node 18 = .ok (.aload_n 1, 1) := by decide +kernel
theorem d_U_node_19 : decode c_U_node 19 = .ok (.invokespecial 30, 3) := by decide +kernel
theorem d_U_node_22 : decode c_U_node 22 = .ok (.areturn, 1) := by decide +kernel
abbrev c_U_rowOf : ByteArray := prog_7_method_3_code
abbrev y_U_rowOf : MethodName := ⟨"FingerSpans$Rules", "rowOf", "(LFingerSpans$Item;)[LFingerSpans$Item;"⟩
theorem k_U_rowOf : Cond.code y_U_rowOf c_U_rowOf 1 (some (FieldType.array (FieldType.object "FingerSpans$Item"))) ∈ lw_tbl := List.mem_of_getElem? (i := 220) (by decide +kernel)
theorem b_U_rowOf : x_ce y_U_rowOf c_U_rowOf 1 (some (FieldType.array (FieldType.object "FingerSpans$Item"))) 1 := ⟨k_U_rowOf, i_U, by decide +kernel⟩
theorem s_U_rowOf : Cond.static y_U_rowOf ∈ lw_tbl := List.mem_of_getElem? (i := 219) (by decide +kernel)
theorem d_U_rowOf_0 : decode c_U_rowOf 0 = .ok (.iconst 1, 1) := by decide +kernel
theorem d_U_rowOf_1 : decode c_U_rowOf 1 = .ok (.anewarray 9, 3) := by decide +kernel
theorem d_U_rowOf_4 : decode c_U_rowOf 4 = .ok (.dup, 1) := by decide +kernel
theorem d_U_rowOf_5 : decode c_U_rowOf 5 = .ok (.iconst 0, 1) := by decide +kernel
theorem d_U_rowOf_6 : decode c_U_rowOf 6 = .ok (.aload_n 0, 1) := by decide +kernel
theorem d_U_rowOf_7 : decode c_U_rowOf 7 = .ok (.aastore, 1) := by decide +kernel
theorem d_U_rowOf_8 : decode c_U_rowOf 8 = .ok (.areturn, 1) := by decide +kernel
abbrev c_U_single : ByteArray := prog_7_method_4_code
abbrev y_U_single : MethodName := ⟨"FingerSpans$Rules", "single", "(LFingerSpans$Item;)LFingerSpans$Tree;"⟩
theorem k_U_single : Cond.code y_U_single c_U_single 2 (some (FieldType.object "FingerSpans$Tree")) ∈ lw_tbl := List.mem_of_getElem? (i := 217) (by decide +kernel)
theorem b_U_single : x_ce y_U_single c_U_single 2 (some (FieldType.object "FingerSpans$Tree")) 1 := ⟨k_U_single, i_U, by decide +kernel⟩
theorem s_U_single : Cond.instanceMethod y_U_single ∈ lw_tbl := List.mem_of_getElem? (i := 216) (by decide +kernel)
theorem v_U_single : Cond.selects "FingerSpans$Rules" y_U_single y_U_single ∈ lw_tbl := List.mem_of_getElem? (i := 4) (by decide +kernel)
theorem d_U_single_0 : decode c_U_single 0 = .ok (.new 17, 3) := by decide +kernel
theorem d_U_single_3 : decode c_U_single 3 = .ok (.dup, 1) := by decide +kernel
theorem d_U_single_4 : decode c_U_single 4 = .ok (.aload_n 1, 1) := by decide +kernel
theorem d_U_single_5 : decode c_U_single 5 = .ok (.invokestatic 33, 3) := by decide +kernel
theorem d_U_single_8 : decode c_U_single 8 = .ok (.aconst_null, 1) := by decide +kernel
theorem d_U_single_9 : decode c_U_single 9 = .ok (.aload_n 0, 1) := by decide +kernel
theorem d_U_single_10 : decode c_U_single 10 = .ok (.getfield 11, 3) := by decide +kernel
theorem d_U_single_13 : decode c_U_single 13 = .ok (.invokespecial 19, 3) := by decide +kernel
theorem d_U_single_16 : decode c_U_single 16 = .ok (.areturn, 1) := by decide +kernel
abbrev c_U_front : ByteArray := prog_7_method_5_code
abbrev y_U_front : MethodName := ⟨"FingerSpans$Rules", "front", "(LFingerSpans$Item;LFingerSpans$Tree;)LFingerSpans$Tree;"⟩
theorem k_U_front : Cond.code y_U_front c_U_front 4 (some (FieldType.object "FingerSpans$Tree")) ∈ lw_tbl := List.mem_of_getElem? (i := 209) (by decide +kernel)
theorem b_U_front : x_ce y_U_front c_U_front 4 (some (FieldType.object "FingerSpans$Tree")) 2 := ⟨k_U_front, i_U, by decide +kernel⟩
theorem s_U_front : Cond.instanceMethod y_U_front ∈ lw_tbl := List.mem_of_getElem? (i := 208) (by decide +kernel)
theorem v_U_front : Cond.selects "FingerSpans$Rules" y_U_front y_U_front ∈ lw_tbl := List.mem_of_getElem? (i := 2) (by decide +kernel)
theorem d_U_front_0 : decode c_U_front 0 = .ok (.aload_n 2, 1) := by decide +kernel
theorem d_U_front_1 : decode c_U_front 1 = .ok (.invokevirtual 37, 3) := by decide +kernel
theorem d_U_front_4 : decode c_U_front 4 = .ok (.ifCond .eq 9, 3) := by decide +kernel
theorem d_U_front_7 : decode c_U_front 7 = .ok (.aload_n 0, 1) := by decide +kernel
theorem d_U_front_8 : decode c_U_front 8 = .ok (.aload_n 1, 1) := by decide +kernel
theorem d_U_front_9 : decode c_U_front 9 = .ok (.invokevirtual 41, 3) := by decide +kernel
theorem d_U_front_12 : decode c_U_front 12 = .ok (.areturn, 1) := by decide +kernel
theorem d_U_front_13 : decode c_U_front 13 = .ok (.aload_n 2, 1) := by decide +kernel
theorem d_U_front_14 : decode c_U_front 14 = .ok (.invokevirtual 45, 3) := by decide +kernel
theorem d_U_front_17 : decode c_U_front 17 = .ok (.ifCond .ne 23, 3) := by decide +kernel
theorem d_U_front_20 : decode c_U_front 20 = .ok (.new 17, 3) := by decide +kernel
theorem d_U_front_23 : decode c_U_front 23 = .ok (.dup, 1) := by decide +kernel
theorem d_U_front_24 : decode c_U_front 24 = .ok (.aload_n 1, 1) := by decide +kernel
theorem d_U_front_25 : decode c_U_front 25 = .ok (.invokestatic 33, 3) := by decide +kernel
theorem d_U_front_28 : decode c_U_front 28 = .ok (.aload_n 0, 1) := by decide +kernel
theorem d_U_front_29 : decode c_U_front 29 = .ok (.getfield 22, 3) := by decide +kernel
theorem d_U_front_32 : decode c_U_front 32 = .ok (.aload_n 2, 1) := by decide +kernel
theorem d_U_front_33 : decode c_U_front 33 = .ok (.getfield 48, 3) := by decide +kernel
theorem d_U_front_36 : decode c_U_front 36 = .ok (.invokespecial 19, 3) := by decide +kernel
theorem d_U_front_39 : decode c_U_front 39 = .ok (.areturn, 1) := by decide +kernel
theorem d_U_front_40 : decode c_U_front 40 = .ok (.aload_n 2, 1) := by decide +kernel
theorem d_U_front_41 : decode c_U_front 41 = .ok (.getfield 48, 3) := by decide +kernel
theorem d_U_front_44 : decode c_U_front 44 = .ok (.arraylength, 1) := by decide +kernel
theorem d_U_front_45 : decode c_U_front 45 = .ok (.iconst 4, 1) := by decide +kernel
theorem d_U_front_46 : decode c_U_front 46 = .ok (.if_icmp .ge 30, 3) := by decide +kernel
theorem d_U_front_49 : decode c_U_front 49 = .ok (.new 17, 3) := by decide +kernel
theorem d_U_front_52 : decode c_U_front 52 = .ok (.dup, 1) := by decide +kernel
theorem d_U_front_53 : decode c_U_front 53 = .ok (.aload_n 1, 1) := by decide +kernel
theorem d_U_front_54 : decode c_U_front 54 = .ok (.invokestatic 33, 3) := by decide +kernel
theorem d_U_front_57 : decode c_U_front 57 = .ok (.aload_n 2, 1) := by decide +kernel
theorem d_U_front_58 : decode c_U_front 58 = .ok (.getfield 48, 3) := by decide +kernel
theorem d_U_front_61 : decode c_U_front 61 = .ok (.invokestatic 51, 3) := by decide +kernel
theorem d_U_front_64 : decode c_U_front 64 = .ok (.aload_n 2, 1) := by decide +kernel
theorem d_U_front_65 : decode c_U_front 65 = .ok (.getfield 57, 3) := by decide +kernel
theorem d_U_front_68 : decode c_U_front 68 = .ok (.aload_n 2, 1) := by decide +kernel
theorem d_U_front_69 : decode c_U_front 69 = .ok (.getfield 60, 3) := by decide +kernel
theorem d_U_front_72 : decode c_U_front 72 = .ok (.invokespecial 19, 3) := by decide +kernel
theorem d_U_front_75 : decode c_U_front 75 = .ok (.areturn, 1) := by decide +kernel
theorem d_U_front_76 : decode c_U_front 76 = .ok (.aload_n 0, 1) := by decide +kernel
theorem d_U_front_77 : decode c_U_front 77 = .ok (.aload_n 0, 1) := by decide +kernel
theorem d_U_front_78 : decode c_U_front 78 = .ok (.aload_n 2, 1) := by decide +kernel
theorem d_U_front_79 : decode c_U_front 79 = .ok (.getfield 48, 3) := by decide +kernel
theorem d_U_front_82 : decode c_U_front 82 = .ok (.iconst 0, 1) := by decide +kernel
theorem d_U_front_83 : decode c_U_front 83 = .ok (.invokestatic 63, 3) := by decide +kernel
theorem d_U_front_86 : decode c_U_front 86 = .ok (.invokevirtual 67, 3) := by decide +kernel
theorem d_U_front_89 : decode c_U_front 89 = .ok (.aload_n 2, 1) := by decide +kernel
theorem d_U_front_90 : decode c_U_front 90 = .ok (.getfield 57, 3) := by decide +kernel
theorem d_U_front_93 : decode c_U_front 93 = .ok (.invokevirtual 71, 3) := by decide +kernel
theorem d_U_front_96 : decode c_U_front 96 = .ok (.astore_n 3, 1) := by decide +kernel
theorem d_U_front_97 : decode c_U_front 97 = .ok (.new 17, 3) := by decide +kernel
theorem d_U_front_100 : decode c_U_front 100 = .ok (.dup, 1) := by decide +kernel
theorem d_U_front_101 : decode c_U_front 101 = .ok (.iconst 2, 1) := by decide +kernel
theorem d_U_front_102 : decode c_U_front 102 = .ok (.anewarray 9, 3) := by decide +kernel
theorem d_U_front_105 : decode c_U_front 105 = .ok (.dup, 1) := by decide +kernel
theorem d_U_front_106 : decode c_U_front 106 = .ok (.iconst 0, 1) := by decide +kernel
theorem d_U_front_107 : decode c_U_front 107 = .ok (.aload_n 1, 1) := by decide +kernel
theorem d_U_front_108 : decode c_U_front 108 = .ok (.aastore, 1) := by decide +kernel
theorem d_U_front_109 : decode c_U_front 109 = .ok (.dup, 1) := by decide +kernel
theorem d_U_front_110 : decode c_U_front 110 = .ok (.iconst 1, 1) := by decide +kernel
theorem d_U_front_111 : decode c_U_front 111 = .ok (.aload_n 2, 1) := by decide +kernel
theorem d_U_front_112 : decode c_U_front 112 = .ok (.getfield 48, 3) := by decide +kernel
theorem d_U_front_115 : decode c_U_front 115 = .ok (.iconst 0, 1) := by decide +kernel
theorem d_U_front_116 : decode c_U_front 116 = .ok (.aaload, 1) := by decide +kernel
theorem d_U_front_117 : decode c_U_front 117 = .ok (.aastore, 1) := by decide +kernel
theorem d_U_front_118 : decode c_U_front 118 = .ok (.aload_n 3, 1) := by decide +kernel
theorem d_U_front_119 : decode c_U_front 119 = .ok (.aload_n 2, 1) := by decide +kernel
theorem d_U_front_120 : decode c_U_front 120 = .ok (.getfield 60, 3) := by decide +kernel
theorem d_U_front_123 : decode c_U_front 123 = .ok (.invokespecial 19, 3) := by decide +kernel
theorem d_U_front_126 : decode c_U_front 126 = .ok (.areturn, 1) := by decide +kernel
abbrev c_U_back : ByteArray := prog_7_method_6_code
abbrev y_U_back : MethodName := ⟨"FingerSpans$Rules", "back", "(LFingerSpans$Tree;LFingerSpans$Item;)LFingerSpans$Tree;"⟩
theorem k_U_back : Cond.code y_U_back c_U_back 4 (some (FieldType.object "FingerSpans$Tree")) ∈ lw_tbl := List.mem_of_getElem? (i := 255) (by decide +kernel)
theorem b_U_back : x_ce y_U_back c_U_back 4 (some (FieldType.object "FingerSpans$Tree")) 2 := ⟨k_U_back, i_U, by decide +kernel⟩
theorem s_U_back : Cond.instanceMethod y_U_back ∈ lw_tbl := List.mem_of_getElem? (i := 254) (by decide +kernel)
theorem v_U_back : Cond.selects "FingerSpans$Rules" y_U_back y_U_back ∈ lw_tbl := List.mem_of_getElem? (i := 8) (by decide +kernel)
theorem d_U_back_0 : decode c_U_back 0 = .ok (.aload_n 1, 1) := by decide +kernel
theorem d_U_back_1 : decode c_U_back 1 = .ok (.invokevirtual 37, 3) := by decide +kernel
theorem d_U_back_4 : decode c_U_back 4 = .ok (.ifCond .eq 9, 3) := by decide +kernel
theorem d_U_back_7 : decode c_U_back 7 = .ok (.aload_n 0, 1) := by decide +kernel
theorem d_U_back_8 : decode c_U_back 8 = .ok (.aload_n 2, 1) := by decide +kernel
theorem d_U_back_9 : decode c_U_back 9 = .ok (.invokevirtual 41, 3) := by decide +kernel
theorem d_U_back_12 : decode c_U_back 12 = .ok (.areturn, 1) := by decide +kernel
theorem d_U_back_13 : decode c_U_back 13 = .ok (.aload_n 1, 1) := by decide +kernel
theorem d_U_back_14 : decode c_U_back 14 = .ok (.invokevirtual 45, 3) := by decide +kernel
theorem d_U_back_17 : decode c_U_back 17 = .ok (.ifCond .ne 23, 3) := by decide +kernel
theorem d_U_back_20 : decode c_U_back 20 = .ok (.new 17, 3) := by decide +kernel
theorem d_U_back_23 : decode c_U_back 23 = .ok (.dup, 1) := by decide +kernel
theorem d_U_back_24 : decode c_U_back 24 = .ok (.aload_n 1, 1) := by decide +kernel
theorem d_U_back_25 : decode c_U_back 25 = .ok (.getfield 48, 3) := by decide +kernel
theorem d_U_back_28 : decode c_U_back 28 = .ok (.aload_n 0, 1) := by decide +kernel
theorem d_U_back_29 : decode c_U_back 29 = .ok (.getfield 22, 3) := by decide +kernel
theorem d_U_back_32 : decode c_U_back 32 = .ok (.aload_n 2, 1) := by decide +kernel
theorem d_U_back_33 : decode c_U_back 33 = .ok (.invokestatic 33, 3) := by decide +kernel
theorem d_U_back_36 : decode c_U_back 36 = .ok (.invokespecial 19, 3) := by decide +kernel
theorem d_U_back_39 : decode c_U_back 39 = .ok (.areturn, 1) := by decide +kernel
theorem d_U_back_40 : decode c_U_back 40 = .ok (.aload_n 1, 1) := by decide +kernel
theorem d_U_back_41 : decode c_U_back 41 = .ok (.getfield 60, 3) := by decide +kernel
theorem d_U_back_44 : decode c_U_back 44 = .ok (.arraylength, 1) := by decide +kernel
theorem d_U_back_45 : decode c_U_back 45 = .ok (.iconst 4, 1) := by decide +kernel
theorem d_U_back_46 : decode c_U_back 46 = .ok (.if_icmp .ge 30, 3) := by decide +kernel
theorem d_U_back_49 : decode c_U_back 49 = .ok (.new 17, 3) := by decide +kernel
theorem d_U_back_52 : decode c_U_back 52 = .ok (.dup, 1) := by decide +kernel
theorem d_U_back_53 : decode c_U_back 53 = .ok (.aload_n 1, 1) := by decide +kernel
theorem d_U_back_54 : decode c_U_back 54 = .ok (.getfield 48, 3) := by decide +kernel
theorem d_U_back_57 : decode c_U_back 57 = .ok (.aload_n 1, 1) := by decide +kernel
theorem d_U_back_58 : decode c_U_back 58 = .ok (.getfield 57, 3) := by decide +kernel
theorem d_U_back_61 : decode c_U_back 61 = .ok (.aload_n 1, 1) := by decide +kernel
theorem d_U_back_62 : decode c_U_back 62 = .ok (.getfield 60, 3) := by decide +kernel
theorem d_U_back_65 : decode c_U_back 65 = .ok (.aload_n 2, 1) := by decide +kernel
theorem d_U_back_66 : decode c_U_back 66 = .ok (.invokestatic 33, 3) := by decide +kernel
theorem d_U_back_69 : decode c_U_back 69 = .ok (.invokestatic 51, 3) := by decide +kernel
theorem d_U_back_72 : decode c_U_back 72 = .ok (.invokespecial 19, 3) := by decide +kernel
theorem d_U_back_75 : decode c_U_back 75 = .ok (.areturn, 1) := by decide +kernel
theorem d_U_back_76 : decode c_U_back 76 = .ok (.aload_n 0, 1) := by decide +kernel
theorem d_U_back_77 : decode c_U_back 77 = .ok (.aload_n 1, 1) := by decide +kernel
theorem d_U_back_78 : decode c_U_back 78 = .ok (.getfield 57, 3) := by decide +kernel
theorem d_U_back_81 : decode c_U_back 81 = .ok (.aload_n 0, 1) := by decide +kernel
theorem d_U_back_82 : decode c_U_back 82 = .ok (.aload_n 1, 1) := by decide +kernel
theorem d_U_back_83 : decode c_U_back 83 = .ok (.getfield 60, 3) := by decide +kernel
theorem d_U_back_86 : decode c_U_back 86 = .ok (.iconst 3, 1) := by decide +kernel
theorem d_U_back_87 : decode c_U_back 87 = .ok (.invokestatic 75, 3) := by decide +kernel
theorem d_U_back_90 : decode c_U_back 90 = .ok (.invokevirtual 67, 3) := by decide +kernel
theorem d_U_back_93 : decode c_U_back 93 = .ok (.invokevirtual 78, 3) := by decide +kernel
theorem d_U_back_96 : decode c_U_back 96 = .ok (.astore_n 3, 1) := by decide +kernel
theorem d_U_back_97 : decode c_U_back 97 = .ok (.new 17, 3) := by decide +kernel
theorem d_U_back_100 : decode c_U_back 100 = .ok (.dup, 1) := by decide +kernel
theorem d_U_back_101 : decode c_U_back 101 = .ok (.aload_n 1, 1) := by decide +kernel
theorem d_U_back_102 : decode c_U_back 102 = .ok (.getfield 48, 3) := by decide +kernel
theorem d_U_back_105 : decode c_U_back 105 = .ok (.aload_n 3, 1) := by decide +kernel
theorem d_U_back_106 : decode c_U_back 106 = .ok (.iconst 2, 1) := by decide +kernel
theorem d_U_back_107 : decode c_U_back 107 = .ok (.anewarray 9, 3) := by decide +kernel
theorem d_U_back_110 : decode c_U_back 110 = .ok (.dup, 1) := by decide +kernel
theorem d_U_back_111 : decode c_U_back 111 = .ok (.iconst 0, 1) := by decide +kernel
theorem d_U_back_112 : decode c_U_back 112 = .ok (.aload_n 1, 1) := by decide +kernel
theorem d_U_back_113 : decode c_U_back 113 = .ok (.invokevirtual 82, 3) := by decide +kernel
theorem d_U_back_116 : decode c_U_back 116 = .ok (.aastore, 1) := by decide +kernel
theorem d_U_back_117 : decode c_U_back 117 = .ok (.dup, 1) := by decide +kernel
theorem d_U_back_118 : decode c_U_back 118 = .ok (.iconst 1, 1) := by decide +kernel
theorem d_U_back_119 : decode c_U_back 119 = .ok (.aload_n 2, 1) := by decide +kernel
theorem d_U_back_120 : decode c_U_back 120 = .ok (.aastore, 1) := by decide +kernel
theorem d_U_back_121 : decode c_U_back 121 = .ok (.invokespecial 19, 3) := by decide +kernel
theorem d_U_back_124 : decode c_U_back 124 = .ok (.areturn, 1) := by decide +kernel
abbrev c_U_line : ByteArray := prog_7_method_7_code
abbrev y_U_line : MethodName := ⟨"FingerSpans$Rules", "line", "([LFingerSpans$Item;)LFingerSpans$Tree;"⟩
theorem k_U_line : Cond.code y_U_line c_U_line 3 (some (FieldType.object "FingerSpans$Tree")) ∈ lw_tbl := List.mem_of_getElem? (i := 281) (by decide +kernel)
theorem b_U_line : x_ce y_U_line c_U_line 3 (some (FieldType.object "FingerSpans$Tree")) 1 := ⟨k_U_line, i_U, by decide +kernel⟩
theorem s_U_line : Cond.instanceMethod y_U_line ∈ lw_tbl := List.mem_of_getElem? (i := 280) (by decide +kernel)
theorem v_U_line : Cond.selects "FingerSpans$Rules" y_U_line y_U_line ∈ lw_tbl := List.mem_of_getElem? (i := 12) (by decide +kernel)
theorem d_U_line_0 : decode c_U_line 0 = .ok (.aload_n 1, 1) := by decide +kernel
theorem d_U_line_1 : decode c_U_line 1 = .ok (.arraylength, 1) := by decide +kernel
theorem d_U_line_2 : decode c_U_line 2 = .ok (.ifCond .ne 8, 3) := by decide +kernel
theorem d_U_line_5 : decode c_U_line 5 = .ok (.aload_n 0, 1) := by decide +kernel
theorem d_U_line_6 : decode c_U_line 6 = .ok (.getfield 22, 3) := by decide +kernel
theorem d_U_line_9 : decode c_U_line 9 = .ok (.areturn, 1) := by decide +kernel
theorem d_U_line_10 : decode c_U_line 10 = .ok (.aload_n 1, 1) := by decide +kernel
theorem d_U_line_11 : decode c_U_line 11 = .ok (.arraylength, 1) := by decide +kernel
theorem d_U_line_12 : decode c_U_line 12 = .ok (.iconst 1, 1) := by decide +kernel
theorem d_U_line_13 : decode c_U_line 13 = .ok (.if_icmp .ne 17, 3) := by decide +kernel
theorem d_U_line_16 : decode c_U_line 16 = .ok (.new 17, 3) := by decide +kernel
theorem d_U_line_19 : decode c_U_line 19 = .ok (.dup, 1) := by decide +kernel
theorem d_U_line_20 : decode c_U_line 20 = .ok (.aload_n 1, 1) := by decide +kernel
theorem d_U_line_21 : decode c_U_line 21 = .ok (.aconst_null, 1) := by decide +kernel
theorem d_U_line_22 : decode c_U_line 22 = .ok (.aload_n 0, 1) := by decide +kernel
theorem d_U_line_23 : decode c_U_line 23 = .ok (.getfield 11, 3) := by decide +kernel
theorem d_U_line_26 : decode c_U_line 26 = .ok (.invokespecial 19, 3) := by decide +kernel
theorem d_U_line_29 : decode c_U_line 29 = .ok (.areturn, 1) := by decide +kernel
theorem d_U_line_30 : decode c_U_line 30 = .ok (.aload_n 1, 1) := by decide +kernel
theorem d_U_line_31 : decode c_U_line 31 = .ok (.arraylength, 1) := by decide +kernel
theorem d_U_line_32 : decode c_U_line 32 = .ok (.iconst 1, 1) := by decide +kernel
theorem d_U_line_33 : decode c_U_line 33 = .ok (.iadd, 1) := by decide +kernel
theorem d_U_line_34 : decode c_U_line 34 = .ok (.iconst 2, 1) := by decide +kernel
theorem d_U_line_35 : decode c_U_line 35 = .ok (.idiv, 1) := by decide +kernel
theorem d_U_line_36 : decode c_U_line 36 = .ok (.istore_n 2, 1) := by decide +kernel
theorem d_U_line_37 : decode c_U_line 37 = .ok (.new 17, 3) := by decide +kernel
theorem d_U_line_40 : decode c_U_line 40 = .ok (.dup, 1) := by decide +kernel
theorem d_U_line_41 : decode c_U_line 41 = .ok (.aload_n 1, 1) := by decide +kernel
theorem d_U_line_42 : decode c_U_line 42 = .ok (.iload_n 2, 1) := by decide +kernel
theorem d_U_line_43 : decode c_U_line 43 = .ok (.invokestatic 75, 3) := by decide +kernel
theorem d_U_line_46 : decode c_U_line 46 = .ok (.aload_n 0, 1) := by decide +kernel
theorem d_U_line_47 : decode c_U_line 47 = .ok (.getfield 22, 3) := by decide +kernel
theorem d_U_line_50 : decode c_U_line 50 = .ok (.aload_n 1, 1) := by decide +kernel
theorem d_U_line_51 : decode c_U_line 51 = .ok (.iload_n 2, 1) := by decide +kernel
theorem d_U_line_52 : decode c_U_line 52 = .ok (.aload_n 1, 1) := by decide +kernel
theorem d_U_line_53 : decode c_U_line 53 = .ok (.arraylength, 1) := by decide +kernel
theorem d_U_line_54 : decode c_U_line 54 = .ok (.invokestatic 86, 3) := by decide +kernel
theorem d_U_line_57 : decode c_U_line 57 = .ok (.invokespecial 19, 3) := by decide +kernel
theorem d_U_line_60 : decode c_U_line 60 = .ok (.areturn, 1) := by decide +kernel
abbrev c_U_open : ByteArray := prog_7_method_8_code
abbrev y_U_open : MethodName := ⟨"FingerSpans$Rules", "open", "([LFingerSpans$Item;LFingerSpans$Tree;[LFingerSpans$Item;)LFingerSpans$Tree;"⟩
theorem k_U_open : Cond.code y_U_open c_U_open 4 (some (FieldType.object "FingerSpans$Tree")) ∈ lw_tbl := List.mem_of_getElem? (i := 277) (by decide +kernel)
theorem b_U_open : x_ce y_U_open c_U_open 4 (some (FieldType.object "FingerSpans$Tree")) 3 := ⟨k_U_open, i_U, by decide +kernel⟩
theorem s_U_open : Cond.instanceMethod y_U_open ∈ lw_tbl := List.mem_of_getElem? (i := 276) (by decide +kernel)
theorem v_U_open : Cond.selects "FingerSpans$Rules" y_U_open y_U_open ∈ lw_tbl := List.mem_of_getElem? (i := 11) (by decide +kernel)
theorem d_U_open_0 : decode c_U_open 0 = .ok (.aload_n 1, 1) := by decide +kernel
theorem d_U_open_1 : decode c_U_open 1 = .ok (.arraylength, 1) := by decide +kernel
theorem d_U_open_2 : decode c_U_open 2 = .ok (.ifCond .le 19, 3) := by decide +kernel
theorem d_U_open_5 : decode c_U_open 5 = .ok (.aload_n 3, 1) := by decide +kernel
theorem d_U_open_6 : decode c_U_open 6 = .ok (.arraylength, 1) := by decide +kernel
theorem d_U_open_7 : decode c_U_open 7 = .ok (.ifCond .le 14, 3) := by decide +kernel
theorem d_U_open_10 : decode c_U_open 10 = .ok (.new 17, 3) := by decide +kernel
theorem d_U_open_13 : decode c_U_open 13 = .ok (.dup, 1) := by decide +kernel
theorem d_U_open_14 : decode c_U_open 14 = .ok (.aload_n 1, 1) := by decide +kernel
theorem d_U_open_15 : decode c_U_open 15 = .ok (.aload_n 2, 1) := by decide +kernel
theorem d_U_open_16 : decode c_U_open 16 = .ok (.aload_n 3, 1) := by decide +kernel
theorem d_U_open_17 : decode c_U_open 17 = .ok (.invokespecial 19, 3) := by decide +kernel
theorem d_U_open_20 : decode c_U_open 20 = .ok (.areturn, 1) := by decide +kernel
theorem d_U_open_21 : decode c_U_open 21 = .ok (.aload_n 2, 1) := by decide +kernel
theorem d_U_open_22 : decode c_U_open 22 = .ok (.invokevirtual 37, 3) := by decide +kernel
theorem d_U_open_25 : decode c_U_open 25 = .ok (.ifCond .eq 18, 3) := by decide +kernel
theorem d_U_open_28 : decode c_U_open 28 = .ok (.aload_n 0, 1) := by decide +kernel
theorem d_U_open_29 : decode c_U_open 29 = .ok (.aload_n 1, 1) := by decide +kernel
theorem d_U_open_30 : decode c_U_open 30 = .ok (.arraylength, 1) := by decide +kernel
theorem d_U_open_31 : decode c_U_open 31 = .ok (.ifCond .ne 7, 3) := by decide +kernel
theorem d_U_open_34 : decode c_U_open 34 = .ok (.aload_n 3, 1) := by decide +kernel
theorem d_U_open_35 : decode c_U_open 35 = .ok (.goto 4, 3) := by decide +kernel
theorem d_U_open_38 : decode c_U_open 38 = .ok (.aload_n 1, 1) := by decide +kernel
theorem d_U_open_39 : decode c_U_open 39 = .ok (.invokevirtual 90, 3) := by decide +kernel
theorem d_U_open_42 : decode c_U_open 42 = .ok (.areturn, 1) := by decide +kernel
theorem d_U_open_43 : decode c_U_open 43 = .ok (.aload_n 1, 1) := by decide +kernel
theorem d_U_open_44 : decode c_U_open 44 = .ok (.arraylength, 1) := by decide +kernel
theorem d_U_open_45 : decode c_U_open 45 = .ok (.ifCond .ne 24, 3) := by decide +kernel
theorem d_U_open_48 : decode c_U_open 48 = .ok (.new 17, 3) := by decide +kernel
theorem d_U_open_51 : decode c_U_open 51 = .ok (.dup, 1) := by decide +kernel
theorem d_U_open_52 : decode c_U_open 52 = .ok (.aload_n 2, 1) := by decide +kernel
theorem d_U_open_53 : decode c_U_open 53 = .ok (.invokevirtual 94, 3) := by decide +kernel
theorem d_U_open_56 : decode c_U_open 56 = .ok (.getfield 97, 3) := by decide +kernel
theorem d_U_open_59 : decode c_U_open 59 = .ok (.aload_n 0, 1) := by decide +kernel
theorem d_U_open_60 : decode c_U_open 60 = .ok (.aload_n 2, 1) := by decide +kernel
theorem d_U_open_61 : decode c_U_open 61 = .ok (.invokevirtual 100, 3) := by decide +kernel
theorem d_U_open_64 : decode c_U_open 64 = .ok (.aload_n 3, 1) := by decide +kernel
theorem d_U_open_65 : decode c_U_open 65 = .ok (.invokespecial 19, 3) := by decide +kernel
theorem d_U_open_68 : decode c_U_open 68 = .ok (.areturn, 1) := by decide +kernel
theorem d_U_open_69 : decode c_U_open 69 = .ok (.new 17, 3) := by decide +kernel
theorem d_U_open_72 : decode c_U_open 72 = .ok (.dup, 1) := by decide +kernel
theorem d_U_open_73 : decode c_U_open 73 = .ok (.aload_n 1, 1) := by decide +kernel
theorem d_U_open_74 : decode c_U_open 74 = .ok (.aload_n 0, 1) := by decide +kernel
theorem d_U_open_75 : decode c_U_open 75 = .ok (.aload_n 2, 1) := by decide +kernel
theorem d_U_open_76 : decode c_U_open 76 = .ok (.invokevirtual 104, 3) := by decide +kernel
theorem d_U_open_79 : decode c_U_open 79 = .ok (.aload_n 2, 1) := by decide +kernel
theorem d_U_open_80 : decode c_U_open 80 = .ok (.invokevirtual 82, 3) := by decide +kernel
theorem d_U_open_83 : decode c_U_open 83 = .ok (.getfield 97, 3) := by decide +kernel
theorem d_U_open_86 : decode c_U_open 86 = .ok (.invokespecial 19, 3) := by decide +kernel
theorem d_U_open_89 : decode c_U_open 89 = .ok (.areturn, 1) := by decide +kernel
abbrev c_U_rest : ByteArray := prog_7_method_9_code
abbrev y_U_rest : MethodName := ⟨"FingerSpans$Rules", "rest", "(LFingerSpans$Tree;)LFingerSpans$Tree;"⟩
theorem k_U_rest : Cond.code y_U_rest c_U_rest 2 (some (FieldType.object "FingerSpans$Tree")) ∈ lw_tbl := List.mem_of_getElem? (i := 273) (by decide +kernel)
theorem b_U_rest : x_ce y_U_rest c_U_rest 2 (some (FieldType.object "FingerSpans$Tree")) 1 := ⟨k_U_rest, i_U, by decide +kernel⟩
theorem s_U_rest : Cond.instanceMethod y_U_rest ∈ lw_tbl := List.mem_of_getElem? (i := 272) (by decide +kernel)
theorem v_U_rest : Cond.selects "FingerSpans$Rules" y_U_rest y_U_rest ∈ lw_tbl := List.mem_of_getElem? (i := 10) (by decide +kernel)
theorem d_U_rest_0 : decode c_U_rest 0 = .ok (.aload_n 1, 1) := by decide +kernel
theorem d_U_rest_1 : decode c_U_rest 1 = .ok (.invokevirtual 45, 3) := by decide +kernel
theorem d_U_rest_4 : decode c_U_rest 4 = .ok (.ifCond .ne 8, 3) := by decide +kernel
theorem d_U_rest_7 : decode c_U_rest 7 = .ok (.aload_n 0, 1) := by decide +kernel
theorem d_U_rest_8 : decode c_U_rest 8 = .ok (.getfield 22, 3) := by decide +kernel
theorem d_U_rest_11 : decode c_U_rest 11 = .ok (.areturn, 1) := by decide +kernel
theorem d_U_rest_12 : decode c_U_rest 12 = .ok (.aload_n 0, 1) := by decide +kernel
theorem d_U_rest_13 : decode c_U_rest 13 = .ok (.aload_n 1, 1) := by decide +kernel
theorem d_U_rest_14 : decode c_U_rest 14 = .ok (.getfield 48, 3) := by decide +kernel
theorem d_U_rest_17 : decode c_U_rest 17 = .ok (.iconst 0, 1) := by decide +kernel
theorem d_U_rest_18 : decode c_U_rest 18 = .ok (.invokestatic 63, 3) := by decide +kernel
theorem d_U_rest_21 : decode c_U_rest 21 = .ok (.aload_n 1, 1) := by decide +kernel
theorem d_U_rest_22 : decode c_U_rest 22 = .ok (.getfield 57, 3) := by decide +kernel
theorem d_U_rest_25 : decode c_U_rest 25 = .ok (.aload_n 1, 1) := by decide +kernel
theorem d_U_rest_26 : decode c_U_rest 26 = .ok (.getfield 60, 3) := by decide +kernel
theorem d_U_rest_29 : decode c_U_rest 29 = .ok (.invokevirtual 107, 3) := by decide +kernel
theorem d_U_rest_32 : decode c_U_rest 32 = .ok (.areturn, 1) := by decide +kernel
abbrev c_U_lead : ByteArray := prog_7_method_10_code
abbrev y_U_lead : MethodName := ⟨"FingerSpans$Rules", "lead", "(LFingerSpans$Tree;)LFingerSpans$Tree;"⟩
theorem k_U_lead : Cond.code y_U_lead c_U_lead 2 (some (FieldType.object "FingerSpans$Tree")) ∈ lw_tbl := List.mem_of_getElem? (i := 291) (by decide +kernel)
theorem b_U_lead : x_ce y_U_lead c_U_lead 2 (some (FieldType.object "FingerSpans$Tree")) 1 := ⟨k_U_lead, i_U, by decide +kernel⟩
theorem s_U_lead : Cond.instanceMethod y_U_lead ∈ lw_tbl := List.mem_of_getElem? (i := 290) (by decide +kernel)
theorem v_U_lead : Cond.selects "FingerSpans$Rules" y_U_lead y_U_lead ∈ lw_tbl := List.mem_of_getElem? (i := 14) (by decide +kernel)
theorem d_U_lead_0 : decode c_U_lead 0 = .ok (.aload_n 1, 1) := by decide +kernel
theorem d_U_lead_1 : decode c_U_lead 1 = .ok (.invokevirtual 45, 3) := by decide +kernel
theorem d_U_lead_4 : decode c_U_lead 4 = .ok (.ifCond .ne 8, 3) := by decide +kernel
theorem d_U_lead_7 : decode c_U_lead 7 = .ok (.aload_n 0, 1) := by decide +kernel
theorem d_U_lead_8 : decode c_U_lead 8 = .ok (.getfield 22, 3) := by decide +kernel
theorem d_U_lead_11 : decode c_U_lead 11 = .ok (.areturn, 1) := by decide +kernel
theorem d_U_lead_12 : decode c_U_lead 12 = .ok (.aload_n 0, 1) := by decide +kernel
theorem d_U_lead_13 : decode c_U_lead 13 = .ok (.aload_n 1, 1) := by decide +kernel
theorem d_U_lead_14 : decode c_U_lead 14 = .ok (.getfield 48, 3) := by decide +kernel
theorem d_U_lead_17 : decode c_U_lead 17 = .ok (.aload_n 1, 1) := by decide +kernel
theorem d_U_lead_18 : decode c_U_lead 18 = .ok (.getfield 57, 3) := by decide +kernel
theorem d_U_lead_21 : decode c_U_lead 21 = .ok (.aload_n 1, 1) := by decide +kernel
theorem d_U_lead_22 : decode c_U_lead 22 = .ok (.getfield 60, 3) := by decide +kernel
theorem d_U_lead_25 : decode c_U_lead 25 = .ok (.aload_n 1, 1) := by decide +kernel
theorem d_U_lead_26 : decode c_U_lead 26 = .ok (.getfield 60, 3) := by decide +kernel
theorem d_U_lead_29 : decode c_U_lead 29 = .ok (.arraylength, 1) := by decide +kernel
theorem d_U_lead_30 : decode c_U_lead 30 = .ok (.iconst 1, 1) := by decide +kernel
theorem d_U_lead_31 : decode c_U_lead 31 = .ok (.isub, 1) := by decide +kernel
theorem d_U_lead_32 : decode c_U_lead 32 = .ok (.invokestatic 75, 3) := by decide +kernel
theorem d_U_lead_35 : decode c_U_lead 35 = .ok (.invokevirtual 107, 3) := by decide +kernel
theorem d_U_lead_38 : decode c_U_lead 38 = .ok (.areturn, 1) := by decide +kernel
abbrev c_U_join : ByteArray := prog_7_method_11_code
abbrev y_U_join : MethodName := ⟨"FingerSpans$Rules", "join", "(LFingerSpans$Tree;[LFingerSpans$Item;LFingerSpans$Tree;)LFingerSpans$Tree;"⟩
theorem k_U_join : Cond.code y_U_join c_U_join 5 (some (FieldType.object "FingerSpans$Tree")) ∈ lw_tbl := List.mem_of_getElem? (i := 304) (by decide +kernel)
theorem b_U_join : x_ce y_U_join c_U_join 5 (some (FieldType.object "FingerSpans$Tree")) 3 := ⟨k_U_join, i_U, by decide +kernel⟩
theorem s_U_join : Cond.instanceMethod y_U_join ∈ lw_tbl := List.mem_of_getElem? (i := 303) (by decide +kernel)
theorem v_U_join : Cond.selects "FingerSpans$Rules" y_U_join y_U_join ∈ lw_tbl := List.mem_of_getElem? (i := 15) (by decide +kernel)
theorem d_U_join_0 : decode c_U_join 0 = .ok (.aload_n 1, 1) := by decide +kernel
theorem d_U_join_1 : decode c_U_join 1 = .ok (.invokevirtual 37, 3) := by decide +kernel
theorem d_U_join_4 : decode c_U_join 4 = .ok (.ifCond .eq 10, 3) := by decide +kernel
theorem d_U_join_7 : decode c_U_join 7 = .ok (.aload_n 0, 1) := by decide +kernel
theorem d_U_join_8 : decode c_U_join 8 = .ok (.aload_n 2, 1) := by decide +kernel
theorem d_U_join_9 : decode c_U_join 9 = .ok (.aload_n 3, 1) := by decide +kernel
theorem d_U_join_10 : decode c_U_join 10 = .ok (.invokevirtual 111, 3) := by decide +kernel
theorem d_U_join_13 : decode c_U_join 13 = .ok (.areturn, 1) := by decide +kernel
theorem d_U_join_14 : decode c_U_join 14 = .ok (.aload_n 3, 1) := by decide +kernel
theorem d_U_join_15 : decode c_U_join 15 = .ok (.invokevirtual 37, 3) := by decide +kernel
theorem d_U_join_18 : decode c_U_join 18 = .ok (.ifCond .eq 10, 3) := by decide +kernel
theorem d_U_join_21 : decode c_U_join 21 = .ok (.aload_n 0, 1) := by decide +kernel
theorem d_U_join_22 : decode c_U_join 22 = .ok (.aload_n 1, 1) := by decide +kernel
theorem d_U_join_23 : decode c_U_join 23 = .ok (.aload_n 2, 1) := by decide +kernel
theorem d_U_join_24 : decode c_U_join 24 = .ok (.invokevirtual 115, 3) := by decide +kernel
theorem d_U_join_27 : decode c_U_join 27 = .ok (.areturn, 1) := by decide +kernel
theorem d_U_join_28 : decode c_U_join 28 = .ok (.aload_n 1, 1) := by decide +kernel
theorem d_U_join_29 : decode c_U_join 29 = .ok (.invokevirtual 45, 3) := by decide +kernel
theorem d_U_join_32 : decode c_U_join 32 = .ok (.ifCond .ne 18, 3) := by decide +kernel
theorem d_U_join_35 : decode c_U_join 35 = .ok (.aload_n 0, 1) := by decide +kernel
theorem d_U_join_36 : decode c_U_join 36 = .ok (.aload_n 1, 1) := by decide +kernel
theorem d_U_join_37 : decode c_U_join 37 = .ok (.invokevirtual 94, 3) := by decide +kernel
theorem d_U_join_40 : decode c_U_join 40 = .ok (.aload_n 0, 1) := by decide +kernel
theorem d_U_join_41 : decode c_U_join 41 = .ok (.aload_n 2, 1) := by decide +kernel
theorem d_U_join_42 : decode c_U_join 42 = .ok (.aload_n 3, 1) := by decide +kernel
theorem d_U_join_43 : decode c_U_join 43 = .ok (.invokevirtual 111, 3) := by decide +kernel
theorem d_U_join_46 : decode c_U_join 46 = .ok (.invokevirtual 71, 3) := by decide +kernel
theorem d_U_join_49 : decode c_U_join 49 = .ok (.areturn, 1) := by decide +kernel
theorem d_U_join_50 : decode c_U_join 50 = .ok (.aload_n 3, 1) := by decide +kernel
theorem d_U_join_51 : decode c_U_join 51 = .ok (.invokevirtual 45, 3) := by decide +kernel
theorem d_U_join_54 : decode c_U_join 54 = .ok (.ifCond .ne 18, 3) := by decide +kernel
theorem d_U_join_57 : decode c_U_join 57 = .ok (.aload_n 0, 1) := by decide +kernel
theorem d_U_join_58 : decode c_U_join 58 = .ok (.aload_n 0, 1) := by decide +kernel
theorem d_U_join_59 : decode c_U_join 59 = .ok (.aload_n 1, 1) := by decide +kernel
theorem d_U_join_60 : decode c_U_join 60 = .ok (.aload_n 2, 1) := by decide +kernel
theorem d_U_join_61 : decode c_U_join 61 = .ok (.invokevirtual 115, 3) := by decide +kernel
theorem d_U_join_64 : decode c_U_join 64 = .ok (.aload_n 3, 1) := by decide +kernel
theorem d_U_join_65 : decode c_U_join 65 = .ok (.invokevirtual 94, 3) := by decide +kernel
theorem d_U_join_68 : decode c_U_join 68 = .ok (.invokevirtual 78, 3) := by decide +kernel
theorem d_U_join_71 : decode c_U_join 71 = .ok (.areturn, 1) := by decide +kernel
theorem d_U_join_72 : decode c_U_join 72 = .ok (.aload_n 0, 1) := by decide +kernel
theorem d_U_join_73 : decode c_U_join 73 = .ok (.aload_n 1, 1) := by decide +kernel
theorem d_U_join_74 : decode c_U_join 74 = .ok (.getfield 60, 3) := by decide +kernel
theorem d_U_join_77 : decode c_U_join 77 = .ok (.aload_n 2, 1) := by decide +kernel
theorem d_U_join_78 : decode c_U_join 78 = .ok (.invokestatic 51, 3) := by decide +kernel
theorem d_U_join_81 : decode c_U_join 81 = .ok (.aload_n 3, 1) := by decide +kernel
theorem d_U_join_82 : decode c_U_join 82 = .ok (.getfield 48, 3) := by decide +kernel
theorem d_U_join_85 : decode c_U_join 85 = .ok (.invokestatic 51, 3) := by decide +kernel
theorem d_U_join_88 : decode c_U_join 88 = .ok (.invokevirtual 119, 3) := by decide +kernel
theorem d_U_join_91 : decode c_U_join 91 = .ok (.astore 4, 2) := by decide +kernel
theorem d_U_join_93 : decode c_U_join 93 = .ok (.new 17, 3) := by decide +kernel
theorem d_U_join_96 : decode c_U_join 96 = .ok (.dup, 1) := by decide +kernel
theorem d_U_join_97 : decode c_U_join 97 = .ok (.aload_n 1, 1) := by decide +kernel
theorem d_U_join_98 : decode c_U_join 98 = .ok (.getfield 48, 3) := by decide +kernel
theorem d_U_join_101 : decode c_U_join 101 = .ok (.aload_n 0, 1) := by decide +kernel
theorem d_U_join_102 : decode c_U_join 102 = .ok (.aload_n 1, 1) := by decide +kernel
theorem d_U_join_103 : decode c_U_join 103 = .ok (.getfield 57, 3) := by decide +kernel
theorem d_U_join_106 : decode c_U_join 106 = .ok (.aload 4, 2) := by decide +kernel
theorem d_U_join_108 : decode c_U_join 108 = .ok (.aload_n 3, 1) := by decide +kernel
theorem d_U_join_109 : decode c_U_join 109 = .ok (.getfield 57, 3) := by decide +kernel
theorem d_U_join_112 : decode c_U_join 112 = .ok (.invokevirtual 123, 3) := by decide +kernel
theorem d_U_join_115 : decode c_U_join 115 = .ok (.aload_n 3, 1) := by decide +kernel
theorem d_U_join_116 : decode c_U_join 116 = .ok (.getfield 60, 3) := by decide +kernel
theorem d_U_join_119 : decode c_U_join 119 = .ok (.invokespecial 19, 3) := by decide +kernel
theorem d_U_join_122 : decode c_U_join 122 = .ok (.areturn, 1) := by decide +kernel
abbrev c_U_allFront : ByteArray := prog_7_method_12_code
abbrev y_U_allFront : MethodName := ⟨"FingerSpans$Rules", "allFront", "([LFingerSpans$Item;LFingerSpans$Tree;)LFingerSpans$Tree;"⟩
theorem k_U_allFront : Cond.code y_U_allFront c_U_allFront 5 (some (FieldType.object "FingerSpans$Tree")) ∈ lw_tbl := List.mem_of_getElem? (i := 308) (by decide +kernel)
theorem b_U_allFront : x_ce y_U_allFront c_U_allFront 5 (some (FieldType.object "FingerSpans$Tree")) 2 := ⟨k_U_allFront, i_U, by decide +kernel⟩
theorem s_U_allFront : Cond.instanceMethod y_U_allFront ∈ lw_tbl := List.mem_of_getElem? (i := 307) (by decide +kernel)
theorem v_U_allFront : Cond.selects "FingerSpans$Rules" y_U_allFront y_U_allFront ∈ lw_tbl := List.mem_of_getElem? (i := 16) (by decide +kernel)
theorem d_U_allFront_0 : decode c_U_allFront 0 = .ok (.aload_n 2, 1) := by decide +kernel
theorem d_U_allFront_1 : decode c_U_allFront 1 = .ok (.astore_n 3, 1) := by decide +kernel
theorem d_U_allFront_2 : decode c_U_allFront 2 = .ok (.aload_n 1, 1) := by decide +kernel
theorem d_U_allFront_3 : decode c_U_allFront 3 = .ok (.arraylength, 1) := by decide +kernel
theorem d_U_allFront_4 : decode c_U_allFront 4 = .ok (.iconst 1, 1) := by decide +kernel
theorem d_U_allFront_5 : decode c_U_allFront 5 = .ok (.isub, 1) := by decide +kernel
theorem d_U_allFront_6 : decode c_U_allFront 6 = .ok (.istore 4, 2) := by decide +kernel
theorem d_U_allFront_8 : decode c_U_allFront 8 = .ok (.iload 4, 2) := by decide +kernel
theorem d_U_allFront_10 : decode c_U_allFront 10 = .ok (.ifCond .lt 19, 3) := by decide +kernel
theorem d_U_allFront_13 : decode c_U_allFront 13 = .ok (.aload_n 0, 1) := by decide +kernel
theorem d_U_allFront_14 : decode c_U_allFront 14 = .ok (.aload_n 1, 1) := by decide +kernel
theorem d_U_allFront_15 : decode c_U_allFront 15 = .ok (.iload 4, 2) := by decide +kernel
theorem d_U_allFront_17 : decode c_U_allFront 17 = .ok (.aaload, 1) := by decide +kernel
theorem d_U_allFront_18 : decode c_U_allFront 18 = .ok (.aload_n 3, 1) := by decide +kernel
theorem d_U_allFront_19 : decode c_U_allFront 19 = .ok (.invokevirtual 71, 3) := by decide +kernel
theorem d_U_allFront_22 : decode c_U_allFront 22 = .ok (.astore_n 3, 1) := by decide +kernel
theorem d_U_allFront_23 : decode c_U_allFront 23 = .ok (.iinc 4 (-1), 3) := by decide +kernel
theorem d_U_allFront_26 : decode c_U_allFront 26 = .ok (.goto (-18), 3) := by decide +kernel
theorem d_U_allFront_29 : decode c_U_allFront 29 = .ok (.aload_n 3, 1) := by decide +kernel
theorem d_U_allFront_30 : decode c_U_allFront 30 = .ok (.areturn, 1) := by decide +kernel
abbrev c_U_allBack : ByteArray := prog_7_method_13_code
abbrev y_U_allBack : MethodName := ⟨"FingerSpans$Rules", "allBack", "(LFingerSpans$Tree;[LFingerSpans$Item;)LFingerSpans$Tree;"⟩
theorem k_U_allBack : Cond.code y_U_allBack c_U_allBack 5 (some (FieldType.object "FingerSpans$Tree")) ∈ lw_tbl := List.mem_of_getElem? (i := 312) (by decide +kernel)
theorem b_U_allBack : x_ce y_U_allBack c_U_allBack 5 (some (FieldType.object "FingerSpans$Tree")) 2 := ⟨k_U_allBack, i_U, by decide +kernel⟩
theorem s_U_allBack : Cond.instanceMethod y_U_allBack ∈ lw_tbl := List.mem_of_getElem? (i := 311) (by decide +kernel)
theorem v_U_allBack : Cond.selects "FingerSpans$Rules" y_U_allBack y_U_allBack ∈ lw_tbl := List.mem_of_getElem? (i := 17) (by decide +kernel)
theorem d_U_allBack_0 : decode c_U_allBack 0 = .ok (.aload_n 1, 1) := by decide +kernel
theorem d_U_allBack_1 : decode c_U_allBack 1 = .ok (.astore_n 3, 1) := by decide +kernel
theorem d_U_allBack_2 : decode c_U_allBack 2 = .ok (.iconst 0, 1) := by decide +kernel
theorem d_U_allBack_3 : decode c_U_allBack 3 = .ok (.istore 4, 2) := by decide +kernel
theorem d_U_allBack_5 : decode c_U_allBack 5 = .ok (.iload 4, 2) := by decide +kernel
theorem d_U_allBack_7 : decode c_U_allBack 7 = .ok (.aload_n 2, 1) := by decide +kernel
theorem d_U_allBack_8 : decode c_U_allBack 8 = .ok (.arraylength, 1) := by decide +kernel
theorem d_U_allBack_9 : decode c_U_allBack 9 = .ok (.if_icmp .ge 19, 3) := by decide +kernel
theorem d_U_allBack_12 : decode c_U_allBack 12 = .ok (.aload_n 0, 1) := by decide +kernel
theorem d_U_allBack_13 : decode c_U_allBack 13 = .ok (.aload_n 3, 1) := by decide +kernel
theorem d_U_allBack_14 : decode c_U_allBack 14 = .ok (.aload_n 2, 1) := by decide +kernel
theorem d_U_allBack_15 : decode c_U_allBack 15 = .ok (.iload 4, 2) := by decide +kernel
theorem d_U_allBack_17 : decode c_U_allBack 17 = .ok (.aaload, 1) := by decide +kernel
theorem d_U_allBack_18 : decode c_U_allBack 18 = .ok (.invokevirtual 78, 3) := by decide +kernel
theorem d_U_allBack_21 : decode c_U_allBack 21 = .ok (.astore_n 3, 1) := by decide +kernel
theorem d_U_allBack_22 : decode c_U_allBack 22 = .ok (.iinc 4 1, 3) := by decide +kernel
theorem d_U_allBack_25 : decode c_U_allBack 25 = .ok (.goto (-20), 3) := by decide +kernel
theorem d_U_allBack_28 : decode c_U_allBack 28 = .ok (.aload_n 3, 1) := by decide +kernel
theorem d_U_allBack_29 : decode c_U_allBack 29 = .ok (.areturn, 1) := by decide +kernel
abbrev c_U_groups : ByteArray := prog_7_method_14_code
abbrev y_U_groups : MethodName := ⟨"FingerSpans$Rules", "groups", "([LFingerSpans$Item;)[LFingerSpans$Item;"⟩
theorem k_U_groups : Cond.code y_U_groups c_U_groups 7 (some (FieldType.array (FieldType.object "FingerSpans$Item"))) ∈ lw_tbl := List.mem_of_getElem? (i := 316) (by decide +kernel)
theorem b_U_groups : x_ce y_U_groups c_U_groups 7 (some (FieldType.array (FieldType.object "FingerSpans$Item"))) 1 := ⟨k_U_groups, i_U, by decide +kernel⟩
theorem s_U_groups : Cond.instanceMethod y_U_groups ∈ lw_tbl := List.mem_of_getElem? (i := 315) (by decide +kernel)
theorem v_U_groups : Cond.selects "FingerSpans$Rules" y_U_groups y_U_groups ∈ lw_tbl := List.mem_of_getElem? (i := 18) (by decide +kernel)
theorem d_U_groups_0 : decode c_U_groups 0 = .ok (.aload_n 1, 1) := by decide +kernel
theorem d_U_groups_1 : decode c_U_groups 1 = .ok (.arraylength, 1) := by decide +kernel
theorem d_U_groups_2 : decode c_U_groups 2 = .ok (.iconst 2, 1) := by decide +kernel
theorem d_U_groups_3 : decode c_U_groups 3 = .ok (.iadd, 1) := by decide +kernel
theorem d_U_groups_4 : decode c_U_groups 4 = .ok (.iconst 3, 1) := by decide +kernel
theorem d_U_groups_5 : decode c_U_groups 5 = .ok (.idiv, 1) := by decide +kernel
theorem d_U_groups_6 : decode c_U_groups 6 = .ok (.anewarray 9, 3) := by decide +kernel
theorem d_U_groups_9 : decode c_U_groups 9 = .ok (.astore_n 2, 1) := by decide +kernel
theorem d_U_groups_10 : decode c_U_groups 10 = .ok (.iconst 0, 1) := by decide +kernel
theorem d_U_groups_11 : decode c_U_groups 11 = .ok (.istore_n 3, 1) := by decide +kernel
theorem d_U_groups_12 : decode c_U_groups 12 = .ok (.iconst 0, 1) := by decide +kernel
theorem d_U_groups_13 : decode c_U_groups 13 = .ok (.istore 4, 2) := by decide +kernel
theorem d_U_groups_15 : decode c_U_groups 15 = .ok (.iload 4, 2) := by decide +kernel
theorem d_U_groups_17 : decode c_U_groups 17 = .ok (.aload_n 2, 1) := by decide +kernel
theorem d_U_groups_18 : decode c_U_groups 18 = .ok (.arraylength, 1) := by decide +kernel
theorem d_U_groups_19 : decode c_U_groups 19 = .ok (.if_icmp .ge 56, 3) := by decide +kernel
theorem d_U_groups_22 : decode c_U_groups 22 = .ok (.aload_n 1, 1) := by decide +kernel
theorem d_U_groups_23 : decode c_U_groups 23 = .ok (.arraylength, 1) := by decide +kernel
theorem d_U_groups_24 : decode c_U_groups 24 = .ok (.iload_n 3, 1) := by decide +kernel
theorem d_U_groups_25 : decode c_U_groups 25 = .ok (.isub, 1) := by decide +kernel
theorem d_U_groups_26 : decode c_U_groups 26 = .ok (.istore 5, 2) := by decide +kernel
theorem d_U_groups_28 : decode c_U_groups 28 = .ok (.iload 5, 2) := by decide +kernel
theorem d_U_groups_30 : decode c_U_groups 30 = .ok (.iconst 2, 1) := by decide +kernel
theorem d_U_groups_31 : decode c_U_groups 31 = .ok (.if_icmp .eq 9, 3) := by decide +kernel
theorem d_U_groups_34 : decode c_U_groups 34 = .ok (.iload 5, 2) := by decide +kernel
theorem d_U_groups_36 : decode c_U_groups 36 = .ok (.iconst 4, 1) := by decide +kernel
theorem d_U_groups_37 : decode c_U_groups 37 = .ok (.if_icmp .ne 7, 3) := by decide +kernel
theorem d_U_groups_40 : decode c_U_groups 40 = .ok (.iconst 2, 1) := by decide +kernel
theorem d_U_groups_41 : decode c_U_groups 41 = .ok (.goto 4, 3) := by decide +kernel
theorem d_U_groups_44 : decode c_U_groups 44 = .ok (.iconst 3, 1) := by decide +kernel
theorem d_U_groups_45 : decode c_U_groups 45 = .ok (.istore 6, 2) := by decide +kernel
theorem d_U_groups_47 : decode c_U_groups 47 = .ok (.aload_n 2, 1) := by decide +kernel
theorem d_U_groups_48 : decode c_U_groups 48 = .ok (.iload 4, 2) := by decide +kernel
theorem d_U_groups_50 : decode c_U_groups 50 = .ok (.aload_n 0, 1) := by decide +kernel
theorem d_U_groups_51 : decode c_U_groups 51 = .ok (.aload_n 1, 1) := by decide +kernel
theorem d_U_groups_52 : decode c_U_groups 52 = .ok (.iload_n 3, 1) := by decide +kernel
theorem d_U_groups_53 : decode c_U_groups 53 = .ok (.iload_n 3, 1) := by decide +kernel
theorem d_U_groups_54 : decode c_U_groups 54 = .ok (.iload 6, 2) := by decide +kernel
theorem d_U_groups_56 : decode c_U_groups 56 = .ok (.iadd, 1) := by decide +kernel
theorem d_U_groups_57 : decode c_U_groups 57 = .ok (.invokestatic 86, 3) := by decide +kernel
theorem d_U_groups_60 : decode c_U_groups 60 = .ok (.invokevirtual 67, 3) := by decide +kernel
theorem d_U_groups_63 : decode c_U_groups 63 = .ok (.aastore, 1) := by decide +kernel
theorem d_U_groups_64 : decode c_U_groups 64 = .ok (.iload_n 3, 1) := by decide +kernel
theorem d_U_groups_65 : decode c_U_groups 65 = .ok (.iload 6, 2) := by decide +kernel
theorem d_U_groups_67 : decode c_U_groups 67 = .ok (.iadd, 1) := by decide +kernel
theorem d_U_groups_68 : decode c_U_groups 68 = .ok (.istore_n 3, 1) := by decide +kernel
theorem d_U_groups_69 : decode c_U_groups 69 = .ok (.iinc 4 1, 3) := by decide +kernel
theorem d_U_groups_72 : decode c_U_groups 72 = .ok (.goto (-57), 3) := by decide +kernel
theorem d_U_groups_75 : decode c_U_groups 75 = .ok (.aload_n 2, 1) := by decide +kernel
theorem d_U_groups_76 : decode c_U_groups 76 = .ok (.areturn, 1) := by decide +kernel
abbrev c_U_cut : ByteArray := prog_7_method_15_code
abbrev y_U_cut : MethodName := ⟨"FingerSpans$Rules", "cut", "(LFingerSpans$Tree;I)LFingerSpans$Cut;"⟩
theorem k_U_cut : Cond.code y_U_cut c_U_cut 9 (some (FieldType.object "FingerSpans$Cut")) ∈ lw_tbl := List.mem_of_getElem? (i := 344) (by decide +kernel)
theorem b_U_cut : x_ce y_U_cut c_U_cut 9 (some (FieldType.object "FingerSpans$Cut")) 2 := ⟨k_U_cut, i_U, by decide +kernel⟩
theorem s_U_cut : Cond.instanceMethod y_U_cut ∈ lw_tbl := List.mem_of_getElem? (i := 343) (by decide +kernel)
theorem v_U_cut : Cond.selects "FingerSpans$Rules" y_U_cut y_U_cut ∈ lw_tbl := List.mem_of_getElem? (i := 20) (by decide +kernel)
theorem d_U_cut_0 : decode c_U_cut 0 = .ok (.aload_n 1, 1) := by decide +kernel
theorem d_U_cut_1 : decode c_U_cut 1 = .ok (.invokevirtual 45, 3) := by decide +kernel
theorem d_U_cut_4 : decode c_U_cut 4 = .ok (.ifCond .ne 23, 3) := by decide +kernel
theorem d_U_cut_7 : decode c_U_cut 7 = .ok (.new 127, 3) := by decide +kernel
theorem d_U_cut_10 : decode c_U_cut 10 = .ok (.dup, 1) := by decide +kernel
theorem d_U_cut_11 : decode c_U_cut 11 = .ok (.aload_n 0, 1) := by decide +kernel
theorem d_U_cut_12 : decode c_U_cut 12 = .ok (.getfield 22, 3) := by decide +kernel
theorem d_U_cut_15 : decode c_U_cut 15 = .ok (.aload_n 1, 1) := by decide +kernel
theorem d_U_cut_16 : decode c_U_cut 16 = .ok (.invokevirtual 94, 3) := by decide +kernel
theorem d_U_cut_19 : decode c_U_cut 19 = .ok (.aload_n 0, 1) := by decide +kernel
theorem d_U_cut_20 : decode c_U_cut 20 = .ok (.getfield 22, 3) := by decide +kernel
theorem d_U_cut_23 : decode c_U_cut 23 = .ok (.invokespecial 129, 3) := by decide +kernel
theorem d_U_cut_26 : decode c_U_cut 26 = .ok (.areturn, 1) := by decide +kernel
theorem d_U_cut_27 : decode c_U_cut 27 = .ok (.iload_n 2, 1) := by decide +kernel
theorem d_U_cut_28 : decode c_U_cut 28 = .ok (.aload_n 1, 1) := by decide +kernel
theorem d_U_cut_29 : decode c_U_cut 29 = .ok (.getfield 132, 3) := by decide +kernel
theorem d_U_cut_32 : decode c_U_cut 32 = .ok (.if_icmp .lt 67, 3) := by decide +kernel
theorem d_U_cut_35 : decode c_U_cut 35 = .ok (.aload_n 1, 1) := by decide +kernel
theorem d_U_cut_36 : decode c_U_cut 36 = .ok (.getfield 60, 3) := by decide +kernel
theorem d_U_cut_39 : decode c_U_cut 39 = .ok (.iload_n 2, 1) := by decide +kernel
theorem d_U_cut_40 : decode c_U_cut 40 = .ok (.aload_n 1, 1) := by decide +kernel
theorem d_U_cut_41 : decode c_U_cut 41 = .ok (.getfield 132, 3) := by decide +kernel
theorem d_U_cut_44 : decode c_U_cut 44 = .ok (.isub, 1) := by decide +kernel
theorem d_U_cut_45 : decode c_U_cut 45 = .ok (.invokestatic 135, 3) := by decide +kernel
theorem d_U_cut_48 : decode c_U_cut 48 = .ok (.istore_n 3, 1) := by decide +kernel
theorem d_U_cut_49 : decode c_U_cut 49 = .ok (.aload_n 0, 1) := by decide +kernel
theorem d_U_cut_50 : decode c_U_cut 50 = .ok (.aload_n 1, 1) := by decide +kernel
theorem d_U_cut_51 : decode c_U_cut 51 = .ok (.getfield 48, 3) := by decide +kernel
theorem d_U_cut_54 : decode c_U_cut 54 = .ok (.aload_n 1, 1) := by decide +kernel
theorem d_U_cut_55 : decode c_U_cut 55 = .ok (.getfield 57, 3) := by decide +kernel
theorem d_U_cut_58 : decode c_U_cut 58 = .ok (.aload_n 1, 1) := by decide +kernel
theorem d_U_cut_59 : decode c_U_cut 59 = .ok (.getfield 60, 3) := by decide +kernel
theorem d_U_cut_62 : decode c_U_cut 62 = .ok (.iload_n 3, 1) := by decide +kernel
theorem d_U_cut_63 : decode c_U_cut 63 = .ok (.invokestatic 75, 3) := by decide +kernel
theorem d_U_cut_66 : decode c_U_cut 66 = .ok (.invokevirtual 107, 3) := by decide +kernel
theorem d_U_cut_69 : decode c_U_cut 69 = .ok (.astore 4, 2) := by decide +kernel
theorem d_U_cut_71 : decode c_U_cut 71 = .ok (.new 127, 3) := by decide +kernel
theorem d_U_cut_74 : decode c_U_cut 74 = .ok (.dup, 1) := by decide +kernel
theorem d_U_cut_75 : decode c_U_cut 75 = .ok (.aload 4, 2) := by decide +kernel
theorem d_U_cut_77 : decode c_U_cut 77 = .ok (.aload_n 1, 1) := by decide +kernel
theorem d_U_cut_78 : decode c_U_cut 78 = .ok (.getfield 60, 3) := by decide +kernel
theorem d_U_cut_81 : decode c_U_cut 81 = .ok (.iload_n 3, 1) := by decide +kernel
theorem d_U_cut_82 : decode c_U_cut 82 = .ok (.aaload, 1) := by decide +kernel
theorem d_U_cut_83 : decode c_U_cut 83 = .ok (.aload_n 0, 1) := by decide +kernel
theorem d_U_cut_84 : decode c_U_cut 84 = .ok (.aload_n 1, 1) := by decide +kernel
theorem d_U_cut_85 : decode c_U_cut 85 = .ok (.getfield 60, 3) := by decide +kernel
theorem d_U_cut_88 : decode c_U_cut 88 = .ok (.iload_n 3, 1) := by decide +kernel
theorem d_U_cut_89 : decode c_U_cut 89 = .ok (.invokestatic 63, 3) := by decide +kernel
theorem d_U_cut_92 : decode c_U_cut 92 = .ok (.invokevirtual 90, 3) := by decide +kernel
theorem d_U_cut_95 : decode c_U_cut 95 = .ok (.invokespecial 129, 3) := by decide +kernel
theorem d_U_cut_98 : decode c_U_cut 98 = .ok (.areturn, 1) := by decide +kernel
theorem d_U_cut_99 : decode c_U_cut 99 = .ok (.aload_n 1, 1) := by decide +kernel
theorem d_U_cut_100 : decode c_U_cut 100 = .ok (.iload_n 2, 1) := by decide +kernel
theorem d_U_cut_101 : decode c_U_cut 101 = .ok (.invokevirtual 139, 3) := by decide +kernel
theorem d_U_cut_104 : decode c_U_cut 104 = .ok (.ifCond .ne 62, 3) := by decide +kernel
theorem d_U_cut_107 : decode c_U_cut 107 = .ok (.aload_n 1, 1) := by decide +kernel
theorem d_U_cut_108 : decode c_U_cut 108 = .ok (.getfield 48, 3) := by decide +kernel
theorem d_U_cut_111 : decode c_U_cut 111 = .ok (.iload_n 2, 1) := by decide +kernel
theorem d_U_cut_112 : decode c_U_cut 112 = .ok (.invokestatic 135, 3) := by decide +kernel
theorem d_U_cut_115 : decode c_U_cut 115 = .ok (.istore_n 3, 1) := by decide +kernel
theorem d_U_cut_116 : decode c_U_cut 116 = .ok (.aload_n 0, 1) := by decide +kernel
theorem d_U_cut_117 : decode c_U_cut 117 = .ok (.aload_n 1, 1) := by decide +kernel
theorem d_U_cut_118 : decode c_U_cut 118 = .ok (.getfield 48, 3) := by decide +kernel
theorem d_U_cut_121 : decode c_U_cut 121 = .ok (.iload_n 3, 1) := by decide +kernel
theorem d_U_cut_122 : decode c_U_cut 122 = .ok (.invokestatic 63, 3) := by decide +kernel
theorem d_U_cut_125 : decode c_U_cut 125 = .ok (.aload_n 1, 1) := by decide +kernel
theorem d_U_cut_126 : decode c_U_cut 126 = .ok (.getfield 57, 3) := by decide +kernel
theorem d_U_cut_129 : decode c_U_cut 129 = .ok (.aload_n 1, 1) := by decide +kernel
theorem d_U_cut_130 : decode c_U_cut 130 = .ok (.getfield 60, 3) := by decide +kernel
theorem d_U_cut_133 : decode c_U_cut 133 = .ok (.invokevirtual 107, 3) := by decide +kernel
theorem d_U_cut_136 : decode c_U_cut 136 = .ok (.astore 4, 2) := by decide +kernel
theorem d_U_cut_138 : decode c_U_cut 138 = .ok (.new 127, 3) := by decide +kernel
theorem d_U_cut_141 : decode c_U_cut 141 = .ok (.dup, 1) := by decide +kernel
theorem d_U_cut_142 : decode c_U_cut 142 = .ok (.aload_n 0, 1) := by decide +kernel
theorem d_U_cut_143 : decode c_U_cut 143 = .ok (.aload_n 1, 1) := by decide +kernel
theorem d_U_cut_144 : decode c_U_cut 144 = .ok (.getfield 48, 3) := by decide +kernel
theorem d_U_cut_147 : decode c_U_cut 147 = .ok (.iload_n 3, 1) := by decide +kernel
theorem d_U_cut_148 : decode c_U_cut 148 = .ok (.invokestatic 75, 3) := by decide +kernel
theorem d_U_cut_151 : decode c_U_cut 151 = .ok (.invokevirtual 90, 3) := by decide +kernel
theorem d_U_cut_154 : decode c_U_cut 154 = .ok (.aload_n 1, 1) := by decide +kernel
theorem d_U_cut_155 : decode c_U_cut 155 = .ok (.getfield 48, 3) := by decide +kernel
theorem d_U_cut_158 : decode c_U_cut 158 = .ok (.iload_n 3, 1) := by decide +kernel
theorem d_U_cut_159 : decode c_U_cut 159 = .ok (.aaload, 1) := by decide +kernel
theorem d_U_cut_160 : decode c_U_cut 160 = .ok (.aload 4, 2) := by decide +kernel
theorem d_U_cut_162 : decode c_U_cut 162 = .ok (.invokespecial 129, 3) := by decide +kernel
theorem d_U_cut_165 : decode c_U_cut 165 = .ok (.areturn, 1) := by decide +kernel
theorem d_U_cut_166 : decode c_U_cut 166 = .ok (.iload_n 2, 1) := by decide +kernel
theorem d_U_cut_167 : decode c_U_cut 167 = .ok (.aload_n 1, 1) := by decide +kernel
theorem d_U_cut_168 : decode c_U_cut 168 = .ok (.invokevirtual 143, 3) := by decide +kernel
theorem d_U_cut_171 : decode c_U_cut 171 = .ok (.isub, 1) := by decide +kernel
theorem d_U_cut_172 : decode c_U_cut 172 = .ok (.istore_n 3, 1) := by decide +kernel
theorem d_U_cut_173 : decode c_U_cut 173 = .ok (.aload_n 0, 1) := by decide +kernel
theorem d_U_cut_174 : decode c_U_cut 174 = .ok (.aload_n 1, 1) := by decide +kernel
theorem d_U_cut_175 : decode c_U_cut 175 = .ok (.getfield 57, 3) := by decide +kernel
theorem d_U_cut_178 : decode c_U_cut 178 = .ok (.iload_n 3, 1) := by decide +kernel
theorem d_U_cut_179 : decode c_U_cut 179 = .ok (.invokevirtual 147, 3) := by decide +kernel
theorem d_U_cut_182 : decode c_U_cut 182 = .ok (.astore 4, 2) := by decide +kernel
theorem d_U_cut_184 : decode c_U_cut 184 = .ok (.aload 4, 2) := by decide +kernel
theorem d_U_cut_186 : decode c_U_cut 186 = .ok (.getfield 151, 3) := by decide +kernel
theorem d_U_cut_189 : decode c_U_cut 189 = .ok (.getfield 97, 3) := by decide +kernel
theorem d_U_cut_192 : decode c_U_cut 192 = .ok (.astore 5, 2) := by decide +kernel
theorem d_U_cut_194 : decode c_U_cut 194 = .ok (.aload 5, 2) := by decide +kernel
theorem d_U_cut_196 : decode c_U_cut 196 = .ok (.iload_n 3, 1) := by decide +kernel
theorem d_U_cut_197 : decode c_U_cut 197 = .ok (.aload 4, 2) := by decide +kernel
theorem d_U_cut_199 : decode c_U_cut 199 = .ok (.getfield 155, 3) := by decide +kernel
theorem d_U_cut_202 : decode c_U_cut 202 = .ok (.getfield 157, 3) := by decide +kernel
theorem d_U_cut_205 : decode c_U_cut 205 = .ok (.isub, 1) := by decide +kernel
theorem d_U_cut_206 : decode c_U_cut 206 = .ok (.invokestatic 135, 3) := by decide +kernel
theorem d_U_cut_209 : decode c_U_cut 209 = .ok (.istore 6, 2) := by decide +kernel
theorem d_U_cut_211 : decode c_U_cut 211 = .ok (.aload_n 0, 1) := by decide +kernel
theorem d_U_cut_212 : decode c_U_cut 212 = .ok (.aload_n 1, 1) := by decide +kernel
theorem d_U_cut_213 : decode c_U_cut 213 = .ok (.getfield 48, 3) := by decide +kernel
theorem d_U_cut_216 : decode c_U_cut 216 = .ok (.aload 4, 2) := by decide +kernel
theorem d_U_cut_218 : decode c_U_cut 218 = .ok (.getfield 155, 3) := by decide +kernel
theorem d_U_cut_221 : decode c_U_cut 221 = .ok (.aload 5, 2) := by decide +kernel
theorem d_U_cut_223 : decode c_U_cut 223 = .ok (.iload 6, 2) := by decide +kernel
theorem d_U_cut_225 : decode c_U_cut 225 = .ok (.invokestatic 75, 3) := by decide +kernel
theorem d_U_cut_228 : decode c_U_cut 228 = .ok (.invokevirtual 107, 3) := by decide +kernel
theorem d_U_cut_231 : decode c_U_cut 231 = .ok (.astore 7, 2) := by decide +kernel
theorem d_U_cut_233 : decode c_U_cut 233 = .ok (.aload_n 0, 1) := by decide +kernel
theorem d_U_cut_234 : decode c_U_cut 234 = .ok (.aload 5, 2) := by decide +kernel
theorem d_U_cut_236 : decode c_U_cut 236 = .ok (.iload 6, 2) := by decide +kernel
theorem d_U_cut_238 : decode c_U_cut 238 = .ok (.invokestatic 63, 3) := by decide +kernel
theorem d_U_cut_241 : decode c_U_cut 241 = .ok (.aload 4, 2) := by decide +kernel
theorem d_U_cut_243 : decode c_U_cut 243 = .ok (.getfield 160, 3) := by decide +kernel
theorem d_U_cut_246 : decode c_U_cut 246 = .ok (.aload_n 1, 1) := by decide +kernel
theorem d_U_cut_247 : decode c_U_cut 247 = .ok (.getfield 60, 3) := by decide +kernel
theorem d_U_cut_250 : decode c_U_cut 250 = .ok (.invokevirtual 107, 3) := by decide +kernel
theorem d_U_cut_253 : decode c_U_cut 253 = .ok (.astore 8, 2) := by decide +kernel
theorem d_U_cut_255 : decode c_U_cut 255 = .ok (.new 127, 3) := by decide +kernel
theorem d_U_cut_258 : decode c_U_cut 258 = .ok (.dup, 1) := by decide +kernel
theorem d_U_cut_259 : decode c_U_cut 259 = .ok (.aload 7, 2) := by decide +kernel
theorem d_U_cut_261 : decode c_U_cut 261 = .ok (.aload 5, 2) := by decide +kernel
theorem d_U_cut_263 : decode c_U_cut 263 = .ok (.iload 6, 2) := by decide +kernel
theorem d_U_cut_265 : decode c_U_cut 265 = .ok (.aaload, 1) := by decide +kernel
theorem d_U_cut_266 : decode c_U_cut 266 = .ok (.aload 8, 2) := by decide +kernel
theorem d_U_cut_268 : decode c_U_cut 268 = .ok (.invokespecial 129, 3) := by decide +kernel
theorem d_U_cut_271 : decode c_U_cut 271 = .ok (.areturn, 1) := by decide +kernel
abbrev c_U_halves : ByteArray := prog_7_method_16_code
abbrev y_U_halves : MethodName := ⟨"FingerSpans$Rules", "halves", "(LFingerSpans$Tree;I)LFingerSpans$Halves;"⟩
theorem k_U_halves : Cond.code y_U_halves c_U_halves 4 (some (FieldType.object "FingerSpans$Halves")) ∈ lw_tbl := List.mem_of_getElem? (i := 325) (by decide +kernel)
theorem b_U_halves : x_ce y_U_halves c_U_halves 4 (some (FieldType.object "FingerSpans$Halves")) 2 := ⟨k_U_halves, i_U, by decide +kernel⟩
theorem s_U_halves : Cond.instanceMethod y_U_halves ∈ lw_tbl := List.mem_of_getElem? (i := 324) (by decide +kernel)
theorem v_U_halves : Cond.selects "FingerSpans$Rules" y_U_halves y_U_halves ∈ lw_tbl := List.mem_of_getElem? (i := 19) (by decide +kernel)
theorem d_U_halves_0 : decode c_U_halves 0 = .ok (.iload_n 2, 1) := by decide +kernel
theorem d_U_halves_1 : decode c_U_halves 1 = .ok (.aload_n 1, 1) := by decide +kernel
theorem d_U_halves_2 : decode c_U_halves 2 = .ok (.getfield 157, 3) := by decide +kernel
theorem d_U_halves_5 : decode c_U_halves 5 = .ok (.if_icmp .ne 16, 3) := by decide +kernel
theorem d_U_halves_8 : decode c_U_halves 8 = .ok (.new 162, 3) := by decide +kernel
theorem d_U_halves_11 : decode c_U_halves 11 = .ok (.dup, 1) := by decide +kernel
theorem d_U_halves_12 : decode c_U_halves 12 = .ok (.aload_n 1, 1) := by decide +kernel
theorem d_U_halves_13 : decode c_U_halves 13 = .ok (.aload_n 0, 1) := by decide +kernel
theorem d_U_halves_14 : decode c_U_halves 14 = .ok (.getfield 22, 3) := by decide +kernel
theorem d_U_halves_17 : decode c_U_halves 17 = .ok (.invokespecial 164, 3) := by decide +kernel
theorem d_U_halves_20 : decode c_U_halves 20 = .ok (.areturn, 1) := by decide +kernel
theorem d_U_halves_21 : decode c_U_halves 21 = .ok (.aload_n 0, 1) := by decide +kernel
theorem d_U_halves_22 : decode c_U_halves 22 = .ok (.aload_n 1, 1) := by decide +kernel
theorem d_U_halves_23 : decode c_U_halves 23 = .ok (.iload_n 2, 1) := by decide +kernel
theorem d_U_halves_24 : decode c_U_halves 24 = .ok (.invokevirtual 147, 3) := by decide +kernel
theorem d_U_halves_27 : decode c_U_halves 27 = .ok (.astore_n 3, 1) := by decide +kernel
theorem d_U_halves_28 : decode c_U_halves 28 = .ok (.new 162, 3) := by decide +kernel
theorem d_U_halves_31 : decode c_U_halves 31 = .ok (.dup, 1) := by decide +kernel
theorem d_U_halves_32 : decode c_U_halves 32 = .ok (.aload_n 3, 1) := by decide +kernel
theorem d_U_halves_33 : decode c_U_halves 33 = .ok (.getfield 155, 3) := by decide +kernel
theorem d_U_halves_36 : decode c_U_halves 36 = .ok (.aload_n 0, 1) := by decide +kernel
theorem d_U_halves_37 : decode c_U_halves 37 = .ok (.aload_n 3, 1) := by decide +kernel
theorem d_U_halves_38 : decode c_U_halves 38 = .ok (.getfield 151, 3) := by decide +kernel
theorem d_U_halves_41 : decode c_U_halves 41 = .ok (.aload_n 3, 1) := by decide +kernel
theorem d_U_halves_42 : decode c_U_halves 42 = .ok (.getfield 160, 3) := by decide +kernel
theorem d_U_halves_45 : decode c_U_halves 45 = .ok (.invokevirtual 71, 3) := by decide +kernel
theorem d_U_halves_48 : decode c_U_halves 48 = .ok (.invokespecial 164, 3) := by decide +kernel
theorem d_U_halves_51 : decode c_U_halves 51 = .ok (.areturn, 1) := by decide +kernel
abbrev c_U_withEntry : ByteArray := prog_7_method_17_code
abbrev y_U_withEntry : MethodName := ⟨"FingerSpans$Rules", "withEntry", "(LFingerSpans$Tree;ILFingerSpans$Item;)LFingerSpans$Tree;"⟩
theorem k_U_withEntry : Cond.code y_U_withEntry c_U_withEntry 5 (some (FieldType.object "FingerSpans$Tree")) ∈ lw_tbl := List.mem_of_getElem? (i := 389) (by decide +kernel)
theorem b_U_withEntry : x_ce y_U_withEntry c_U_withEntry 5 (some (FieldType.object "FingerSpans$Tree")) 3 := ⟨k_U_withEntry, i_U, by decide +kernel⟩
theorem s_U_withEntry : Cond.instanceMethod y_U_withEntry ∈ lw_tbl := List.mem_of_getElem? (i := 388) (by decide +kernel)
theorem v_U_withEntry : Cond.selects "FingerSpans$Rules" y_U_withEntry y_U_withEntry ∈ lw_tbl := List.mem_of_getElem? (i := 24) (by decide +kernel)
theorem d_U_withEntry_0 : decode c_U_withEntry 0 = .ok (.iload_n 2, 1) := by decide +kernel
theorem d_U_withEntry_1 : decode c_U_withEntry 1 = .ok (.aload_n 1, 1) := by decide +kernel
theorem d_U_withEntry_2 : decode c_U_withEntry 2 = .ok (.getfield 132, 3) := by decide +kernel
theorem d_U_withEntry_5 : decode c_U_withEntry 5 = .ok (.if_icmp .lt 38, 3) := by decide +kernel
theorem d_U_withEntry_8 : decode c_U_withEntry 8 = .ok (.aload_n 0, 1) := by decide +kernel
theorem d_U_withEntry_9 : decode c_U_withEntry 9 = .ok (.aload_n 1, 1) := by decide +kernel
theorem d_U_withEntry_10 : decode c_U_withEntry 10 = .ok (.getfield 60, 3) := by decide +kernel
theorem d_U_withEntry_13 : decode c_U_withEntry 13 = .ok (.iload_n 2, 1) := by decide +kernel
theorem d_U_withEntry_14 : decode c_U_withEntry 14 = .ok (.aload_n 1, 1) := by decide +kernel
theorem d_U_withEntry_15 : decode c_U_withEntry 15 = .ok (.getfield 132, 3) := by decide +kernel
theorem d_U_withEntry_18 : decode c_U_withEntry 18 = .ok (.isub, 1) := by decide +kernel
theorem d_U_withEntry_19 : decode c_U_withEntry 19 = .ok (.aload_n 3, 1) := by decide +kernel
theorem d_U_withEntry_20 : decode c_U_withEntry 20 = .ok (.invokevirtual 167, 3) := by decide +kernel
theorem d_U_withEntry_23 : decode c_U_withEntry 23 = .ok (.astore 4, 2) := by decide +kernel
theorem d_U_withEntry_25 : decode c_U_withEntry 25 = .ok (.new 17, 3) := by decide +kernel
theorem d_U_withEntry_28 : decode c_U_withEntry 28 = .ok (.dup, 1) := by decide +kernel
theorem d_U_withEntry_29 : decode c_U_withEntry 29 = .ok (.aload_n 1, 1) := by decide +kernel
theorem d_U_withEntry_30 : decode c_U_withEntry 30 = .ok (.getfield 48, 3) := by decide +kernel
theorem d_U_withEntry_33 : decode c_U_withEntry 33 = .ok (.aload_n 1, 1) := by decide +kernel
theorem d_U_withEntry_34 : decode c_U_withEntry 34 = .ok (.getfield 57, 3) := by decide +kernel
theorem d_U_withEntry_37 : decode c_U_withEntry 37 = .ok (.aload 4, 2) := by decide +kernel
theorem d_U_withEntry_39 : decode c_U_withEntry 39 = .ok (.invokespecial 19, 3) := by decide +kernel
theorem d_U_withEntry_42 : decode c_U_withEntry 42 = .ok (.areturn, 1) := by decide +kernel
theorem d_U_withEntry_43 : decode c_U_withEntry 43 = .ok (.aload_n 1, 1) := by decide +kernel
theorem d_U_withEntry_44 : decode c_U_withEntry 44 = .ok (.iload_n 2, 1) := by decide +kernel
theorem d_U_withEntry_45 : decode c_U_withEntry 45 = .ok (.invokevirtual 139, 3) := by decide +kernel
theorem d_U_withEntry_48 : decode c_U_withEntry 48 = .ok (.ifCond .eq 38, 3) := by decide +kernel
theorem d_U_withEntry_51 : decode c_U_withEntry 51 = .ok (.aload_n 0, 1) := by decide +kernel
theorem d_U_withEntry_52 : decode c_U_withEntry 52 = .ok (.aload_n 1, 1) := by decide +kernel
theorem d_U_withEntry_53 : decode c_U_withEntry 53 = .ok (.getfield 57, 3) := by decide +kernel
theorem d_U_withEntry_56 : decode c_U_withEntry 56 = .ok (.iload_n 2, 1) := by decide +kernel
theorem d_U_withEntry_57 : decode c_U_withEntry 57 = .ok (.aload_n 1, 1) := by decide +kernel
theorem d_U_withEntry_58 : decode c_U_withEntry 58 = .ok (.invokevirtual 143, 3) := by decide +kernel
theorem d_U_withEntry_61 : decode c_U_withEntry 61 = .ok (.isub, 1) := by decide +kernel
theorem d_U_withEntry_62 : decode c_U_withEntry 62 = .ok (.aload_n 3, 1) := by decide +kernel
theorem d_U_withEntry_63 : decode c_U_withEntry 63 = .ok (.invokevirtual 171, 3) := by decide +kernel
theorem d_U_withEntry_66 : decode c_U_withEntry 66 = .ok (.astore 4, 2) := by decide +kernel
theorem d_U_withEntry_68 : decode c_U_withEntry 68 = .ok (.new 17, 3) := by decide +kernel
theorem d_U_withEntry_71 : decode c_U_withEntry 71 = .ok (.dup, 1) := by decide +kernel
theorem d_U_withEntry_72 : decode c_U_withEntry 72 = .ok (.aload_n 1, 1) := by decide +kernel
theorem d_U_withEntry_73 : decode c_U_withEntry 73 = .ok (.getfield 48, 3) := by decide +kernel
theorem d_U_withEntry_76 : decode c_U_withEntry 76 = .ok (.aload 4, 2) := by decide +kernel
theorem d_U_withEntry_78 : decode c_U_withEntry 78 = .ok (.aload_n 1, 1) := by decide +kernel
theorem d_U_withEntry_79 : decode c_U_withEntry 79 = .ok (.getfield 60, 3) := by decide +kernel
theorem d_U_withEntry_82 : decode c_U_withEntry 82 = .ok (.invokespecial 19, 3) := by decide +kernel
theorem d_U_withEntry_85 : decode c_U_withEntry 85 = .ok (.areturn, 1) := by decide +kernel
theorem d_U_withEntry_86 : decode c_U_withEntry 86 = .ok (.new 17, 3) := by decide +kernel
theorem d_U_withEntry_89 : decode c_U_withEntry 89 = .ok (.dup, 1) := by decide +kernel
theorem d_U_withEntry_90 : decode c_U_withEntry 90 = .ok (.aload_n 0, 1) := by decide +kernel
theorem d_U_withEntry_91 : decode c_U_withEntry 91 = .ok (.aload_n 1, 1) := by decide +kernel
theorem d_U_withEntry_92 : decode c_U_withEntry 92 = .ok (.getfield 48, 3) := by decide +kernel
theorem d_U_withEntry_95 : decode c_U_withEntry 95 = .ok (.iload_n 2, 1) := by decide +kernel
theorem d_U_withEntry_96 : decode c_U_withEntry 96 = .ok (.aload_n 3, 1) := by decide +kernel
theorem d_U_withEntry_97 : decode c_U_withEntry 97 = .ok (.invokevirtual 167, 3) := by decide +kernel
theorem d_U_withEntry_100 : decode c_U_withEntry 100 = .ok (.aload_n 1, 1) := by decide +kernel
theorem d_U_withEntry_101 : decode c_U_withEntry 101 = .ok (.getfield 57, 3) := by decide +kernel
theorem d_U_withEntry_104 : decode c_U_withEntry 104 = .ok (.aload_n 1, 1) := by decide +kernel
theorem d_U_withEntry_105 : decode c_U_withEntry 105 = .ok (.getfield 60, 3) := by decide +kernel
theorem d_U_withEntry_108 : decode c_U_withEntry 108 = .ok (.invokespecial 19, 3) := by decide +kernel
theorem d_U_withEntry_111 : decode c_U_withEntry 111 = .ok (.areturn, 1) := by decide +kernel
abbrev c_U_rowWithEntry : ByteArray := prog_7_method_18_code
abbrev y_U_rowWithEntry : MethodName := ⟨"FingerSpans$Rules", "rowWithEntry", "([LFingerSpans$Item;ILFingerSpans$Item;)[LFingerSpans$Item;"⟩
theorem k_U_rowWithEntry : Cond.code y_U_rowWithEntry c_U_rowWithEntry 7 (some (FieldType.array (FieldType.object "FingerSpans$Item"))) ∈ lw_tbl := List.mem_of_getElem? (i := 393) (by decide +kernel)
theorem b_U_rowWithEntry : x_ce y_U_rowWithEntry c_U_rowWithEntry 7 (some (FieldType.array (FieldType.object "FingerSpans$Item"))) 3 := ⟨k_U_rowWithEntry, i_U, by decide +kernel⟩
theorem s_U_rowWithEntry : Cond.instanceMethod y_U_rowWithEntry ∈ lw_tbl := List.mem_of_getElem? (i := 392) (by decide +kernel)
theorem v_U_rowWithEntry : Cond.selects "FingerSpans$Rules" y_U_rowWithEntry y_U_rowWithEntry ∈ lw_tbl := List.mem_of_getElem? (i := 25) (by decide +kernel)
theorem d_U_rowWithEntry_0 : decode c_U_rowWithEntry 0 = .ok (.aload_n 1, 1) := by decide +kernel
theorem d_U_rowWithEntry_1 : decode c_U_rowWithEntry 1 = .ok (.iload_n 2, 1) := by decide +kernel
theorem d_U_rowWithEntry_2 : decode c_U_rowWithEntry 2 = .ok (.invokestatic 135, 3) := by decide +kernel
theorem d_U_rowWithEntry_5 : decode c_U_rowWithEntry 5 = .ok (.istore 4, 2) := by decide +kernel
theorem d_U_rowWithEntry_7 : decode c_U_rowWithEntry 7 = .ok (.aload_n 1, 1) := by decide +kernel
theorem d_U_rowWithEntry_8 : decode c_U_rowWithEntry 8 = .ok (.invokevirtual 175, 3) := by decide +kernel
theorem d_U_rowWithEntry_11 : decode c_U_rowWithEntry 11 = .ok (.checkcast 176, 3) := by decide +kernel
theorem d_U_rowWithEntry_14 : decode c_U_rowWithEntry 14 = .ok (.astore 5, 2) := by decide +kernel
theorem d_U_rowWithEntry_16 : decode c_U_rowWithEntry 16 = .ok (.aload 5, 2) := by decide +kernel
theorem d_U_rowWithEntry_18 : decode c_U_rowWithEntry 18 = .ok (.iload 4, 2) := by decide +kernel
theorem d_U_rowWithEntry_20 : decode c_U_rowWithEntry 20 = .ok (.aload_n 3, 1) := by decide +kernel
theorem d_U_rowWithEntry_21 : decode c_U_rowWithEntry 21 = .ok (.aastore, 1) := by decide +kernel
theorem d_U_rowWithEntry_22 : decode c_U_rowWithEntry 22 = .ok (.aload_n 1, 1) := by decide +kernel
theorem d_U_rowWithEntry_23 : decode c_U_rowWithEntry 23 = .ok (.iload 4, 2) := by decide +kernel
theorem d_U_rowWithEntry_25 : decode c_U_rowWithEntry 25 = .ok (.aaload, 1) := by decide +kernel
theorem d_U_rowWithEntry_26 : decode c_U_rowWithEntry 26 = .ok (.invokevirtual 180, 3) := by decide +kernel
theorem d_U_rowWithEntry_29 : decode c_U_rowWithEntry 29 = .ok (.ifCond .eq 36, 3) := by decide +kernel
theorem d_U_rowWithEntry_32 : decode c_U_rowWithEntry 32 = .ok (.iload_n 2, 1) := by decide +kernel
theorem d_U_rowWithEntry_33 : decode c_U_rowWithEntry 33 = .ok (.aload_n 1, 1) := by decide +kernel
theorem d_U_rowWithEntry_34 : decode c_U_rowWithEntry 34 = .ok (.iload 4, 2) := by decide +kernel
theorem d_U_rowWithEntry_36 : decode c_U_rowWithEntry 36 = .ok (.invokestatic 183, 3) := by decide +kernel
theorem d_U_rowWithEntry_39 : decode c_U_rowWithEntry 39 = .ok (.isub, 1) := by decide +kernel
theorem d_U_rowWithEntry_40 : decode c_U_rowWithEntry 40 = .ok (.istore 6, 2) := by decide +kernel
theorem d_U_rowWithEntry_42 : decode c_U_rowWithEntry 42 = .ok (.aload 5, 2) := by decide +kernel
theorem d_U_rowWithEntry_44 : decode c_U_rowWithEntry 44 = .ok (.iload 4, 2) := by decide +kernel
theorem d_U_rowWithEntry_46 : decode c_U_rowWithEntry 46 = .ok (.aload_n 0, 1) := by decide +kernel
theorem d_U_rowWithEntry_47 : decode c_U_rowWithEntry 47 = .ok (.aload_n 0, 1) := by decide +kernel
theorem d_U_rowWithEntry_48 : decode c_U_rowWithEntry 48 = .ok (.aload_n 1, 1) := by decide +kernel
theorem d_U_rowWithEntry_49 : decode c_U_rowWithEntry 49 = .ok (.iload 4, 2) := by decide +kernel
theorem d_U_rowWithEntry_51 : decode c_U_rowWithEntry 51 = .ok (.aaload, 1) := by decide +kernel
theorem d_U_rowWithEntry_52 : decode c_U_rowWithEntry 52 = .ok (.getfield 97, 3) := by decide +kernel
theorem d_U_rowWithEntry_55 : decode c_U_rowWithEntry 55 = .ok (.iload 6, 2) := by decide +kernel
theorem d_U_rowWithEntry_57 : decode c_U_rowWithEntry 57 = .ok (.aload_n 3, 1) := by decide +kernel
theorem d_U_rowWithEntry_58 : decode c_U_rowWithEntry 58 = .ok (.invokevirtual 167, 3) := by decide +kernel
theorem d_U_rowWithEntry_61 : decode c_U_rowWithEntry 61 = .ok (.invokevirtual 67, 3) := by decide +kernel
theorem d_U_rowWithEntry_64 : decode c_U_rowWithEntry 64 = .ok (.aastore, 1) := by decide +kernel
theorem d_U_rowWithEntry_65 : decode c_U_rowWithEntry 65 = .ok (.aload 5, 2) := by decide +kernel
theorem d_U_rowWithEntry_67 : decode c_U_rowWithEntry 67 = .ok (.areturn, 1) := by decide +kernel
abbrev c_T_init : ByteArray := prog_8_method_1_code
abbrev y_T_init : MethodName := ⟨"FingerSpans$Tree", "<init>", "([LFingerSpans$Item;LFingerSpans$Tree;[LFingerSpans$Item;)V"⟩
theorem k_T_init : Cond.code y_T_init c_T_init 4 (none : Option FieldType) ∈ lw_tbl := List.mem_of_getElem? (i := 89) (by decide +kernel)
theorem b_T_init : x_ce y_T_init c_T_init 4 (none : Option FieldType) 3 := ⟨k_T_init, i_T, by decide +kernel⟩
theorem s_T_init : Cond.instanceMethod y_T_init ∈ lw_tbl := List.mem_of_getElem? (i := 88) (by decide +kernel)
theorem d_T_init_0 : decode c_T_init 0 = .ok (.aload_n 0, 1) := by decide +kernel
theorem d_T_init_1 : decode c_T_init 1 = .ok (.invokespecial 1, 3) := by decide +kernel
theorem d_T_init_4 : decode c_T_init 4 = .ok (.aload_n 0, 1) := by decide +kernel
theorem d_T_init_5 : decode c_T_init 5 = .ok (.aload_n 1, 1) := by decide +kernel
theorem d_T_init_6 : decode c_T_init 6 = .ok (.putfield 7, 3) := by decide +kernel
theorem d_T_init_9 : decode c_T_init 9 = .ok (.aload_n 0, 1) := by decide +kernel
theorem d_T_init_10 : decode c_T_init 10 = .ok (.aload_n 2, 1) := by decide +kernel
theorem d_T_init_11 : decode c_T_init 11 = .ok (.putfield 13, 3) := by decide +kernel
theorem d_T_init_14 : decode c_T_init 14 = .ok (.aload_n 0, 1) := by decide +kernel
theorem d_T_init_15 : decode c_T_init 15 = .ok (.aload_n 3, 1) := by decide +kernel
theorem d_T_init_16 : decode c_T_init 16 = .ok (.putfield 17, 3) := by decide +kernel
theorem d_T_init_19 : decode c_T_init 19 = .ok (.aload_n 0, 1) := by decide +kernel
theorem d_T_init_20 : decode c_T_init 20 = .ok (.aload_n 1, 1) := by decide +kernel
theorem d_T_init_21 : decode c_T_init 21 = .ok (.invokestatic 20, 3) := by decide +kernel
theorem d_T_init_24 : decode c_T_init 24 = .ok (.aload_n 2, 1) := by decide +kernel
theorem d_T_init_25 : decode c_T_init 25 = .ok (.ifnonnull 7, 3) := by decide +kernel
theorem d_T_init_28 : decode c_T_init 28 = .ok (.iconst 0, 1) := by decide +kernel
theorem d_T_init_29 : decode c_T_init 29 = .ok (.goto 7, 3) := by decide +kernel
theorem d_T_init_32 : decode c_T_init 32 = .ok (.aload_n 2, 1) := by decide +kernel
theorem d_T_init_33 : decode c_T_init 33 = .ok (.getfield 26, 3) := by decide +kernel
theorem d_T_init_36 : decode c_T_init 36 = .ok (.iadd, 1) := by decide +kernel
theorem d_T_init_37 : decode c_T_init 37 = .ok (.putfield 30, 3) := by decide +kernel
theorem d_T_init_40 : decode c_T_init 40 = .ok (.aload_n 0, 1) := by decide +kernel
theorem d_T_init_41 : decode c_T_init 41 = .ok (.aload_n 0, 1) := by decide +kernel
theorem d_T_init_42 : decode c_T_init 42 = .ok (.getfield 30, 3) := by decide +kernel
theorem d_T_init_45 : decode c_T_init 45 = .ok (.aload_n 3, 1) := by decide +kernel
theorem d_T_init_46 : decode c_T_init 46 = .ok (.invokestatic 20, 3) := by decide +kernel
theorem d_T_init_49 : decode c_T_init 49 = .ok (.iadd, 1) := by decide +kernel
theorem d_T_init_50 : decode c_T_init 50 = .ok (.putfield 26, 3) := by decide +kernel
theorem d_T_init_53 : decode c_T_init 53 = .ok (.return_, 1) := by decide +kernel
abbrev c_T_isEmpty : ByteArray := prog_8_method_2_code
abbrev y_T_isEmpty : MethodName := ⟨"FingerSpans$Tree", "isEmpty", "()Z"⟩
theorem k_T_isEmpty : Cond.code y_T_isEmpty c_T_isEmpty 1 (some FieldType.boolean) ∈ lw_tbl := List.mem_of_getElem? (i := 213) (by decide +kernel)
theorem b_T_isEmpty : x_ce y_T_isEmpty c_T_isEmpty 1 (some FieldType.boolean) 0 := ⟨k_T_isEmpty, i_T, by decide +kernel⟩
theorem s_T_isEmpty : Cond.instanceMethod y_T_isEmpty ∈ lw_tbl := List.mem_of_getElem? (i := 212) (by decide +kernel)
theorem v_T_isEmpty : Cond.selects "FingerSpans$Tree" y_T_isEmpty y_T_isEmpty ∈ lw_tbl := List.mem_of_getElem? (i := 3) (by decide +kernel)
theorem d_T_isEmpty_0 : decode c_T_isEmpty 0 = .ok (.aload_n 0, 1) := by decide +kernel
theorem d_T_isEmpty_1 : decode c_T_isEmpty 1 = .ok (.getfield 7, 3) := by decide +kernel
theorem d_T_isEmpty_4 : decode c_T_isEmpty 4 = .ok (.arraylength, 1) := by decide +kernel
theorem d_T_isEmpty_5 : decode c_T_isEmpty 5 = .ok (.ifCond .ne 7, 3) := by decide +kernel
theorem d_T_isEmpty_8 : decode c_T_isEmpty 8 = .ok (.iconst 1, 1) := by decide +kernel
theorem d_T_isEmpty_9 : decode c_T_isEmpty 9 = .ok (.goto 4, 3) := by decide +kernel
theorem d_T_isEmpty_12 : decode c_T_isEmpty 12 = .ok (.iconst 0, 1) := by decide +kernel
theorem d_T_isEmpty_13 : decode c_T_isEmpty 13 = .ok (.ireturn, 1) := by decide +kernel
abbrev c_T_isDeep : ByteArray := prog_8_method_3_code
abbrev y_T_isDeep : MethodName := ⟨"FingerSpans$Tree", "isDeep", "()Z"⟩
theorem k_T_isDeep : Cond.code y_T_isDeep c_T_isDeep 1 (some FieldType.boolean) ∈ lw_tbl := List.mem_of_getElem? (i := 224) (by decide +kernel)
theorem b_T_isDeep : x_ce y_T_isDeep c_T_isDeep 1 (some FieldType.boolean) 0 := ⟨k_T_isDeep, i_T, by decide +kernel⟩
theorem s_T_isDeep : Cond.instanceMethod y_T_isDeep ∈ lw_tbl := List.mem_of_getElem? (i := 223) (by decide +kernel)
theorem v_T_isDeep : Cond.selects "FingerSpans$Tree" y_T_isDeep y_T_isDeep ∈ lw_tbl := List.mem_of_getElem? (i := 5) (by decide +kernel)
theorem d_T_isDeep_0 : decode c_T_isDeep 0 = .ok (.aload_n 0, 1) := by decide +kernel
theorem d_T_isDeep_1 : decode c_T_isDeep 1 = .ok (.getfield 13, 3) := by decide +kernel
theorem d_T_isDeep_4 : decode c_T_isDeep 4 = .ok (.ifnull 7, 3) := by decide +kernel
theorem d_T_isDeep_7 : decode c_T_isDeep 7 = .ok (.iconst 1, 1) := by decide +kernel
theorem d_T_isDeep_8 : decode c_T_isDeep 8 = .ok (.goto 4, 3) := by decide +kernel
theorem d_T_isDeep_11 : decode c_T_isDeep 11 = .ok (.iconst 0, 1) := by decide +kernel
theorem d_T_isDeep_12 : decode c_T_isDeep 12 = .ok (.ireturn, 1) := by decide +kernel
abbrev c_T_middleStart : ByteArray := prog_8_method_4_code
abbrev y_T_middleStart : MethodName := ⟨"FingerSpans$Tree", "middleStart", "()I"⟩
theorem k_T_middleStart : Cond.code y_T_middleStart c_T_middleStart 1 (some FieldType.int) ∈ lw_tbl := List.mem_of_getElem? (i := 376) (by decide +kernel)
theorem b_T_middleStart : x_ce y_T_middleStart c_T_middleStart 1 (some FieldType.int) 0 := ⟨k_T_middleStart, i_T, by decide +kernel⟩
theorem s_T_middleStart : Cond.instanceMethod y_T_middleStart ∈ lw_tbl := List.mem_of_getElem? (i := 375) (by decide +kernel)
theorem v_T_middleStart : Cond.selects "FingerSpans$Tree" y_T_middleStart y_T_middleStart ∈ lw_tbl := List.mem_of_getElem? (i := 22) (by decide +kernel)
theorem d_T_middleStart_0 : decode c_T_middleStart 0 = .ok (.aload_n 0, 1) := by decide +kernel
theorem d_T_middleStart_1 : decode c_T_middleStart 1 = .ok (.invokevirtual 33, 3) := by decide +kernel
theorem d_T_middleStart_4 : decode c_T_middleStart 4 = .ok (.ifCond .eq 18, 3) := by decide +kernel
theorem d_T_middleStart_7 : decode c_T_middleStart 7 = .ok (.aload_n 0, 1) := by decide +kernel
theorem d_T_middleStart_8 : decode c_T_middleStart 8 = .ok (.getfield 30, 3) := by decide +kernel
theorem d_T_middleStart_11 : decode c_T_middleStart 11 = .ok (.aload_n 0, 1) := by decide +kernel
theorem d_T_middleStart_12 : decode c_T_middleStart 12 = .ok (.getfield 13, 3) := by decide +kernel
theorem d_T_middleStart_15 : decode c_T_middleStart 15 = .ok (.getfield 26, 3) := by decide +kernel
theorem d_T_middleStart_18 : decode c_T_middleStart 18 = .ok (.isub, 1) := by decide +kernel
theorem d_T_middleStart_19 : decode c_T_middleStart 19 = .ok (.goto 7, 3) := by decide +kernel
theorem d_T_middleStart_22 : decode c_T_middleStart 22 = .ok (.aload_n 0, 1) := by decide +kernel
theorem d_T_middleStart_23 : decode c_T_middleStart 23 = .ok (.getfield 30, 3) := by decide +kernel
theorem d_T_middleStart_26 : decode c_T_middleStart 26 = .ok (.ireturn, 1) := by decide +kernel
abbrev c_T_holdsInMiddle : ByteArray := prog_8_method_5_code
abbrev y_T_holdsInMiddle : MethodName := ⟨"FingerSpans$Tree", "holdsInMiddle", "(I)Z"⟩
theorem k_T_holdsInMiddle : Cond.code y_T_holdsInMiddle c_T_holdsInMiddle 2 (some FieldType.boolean) ∈ lw_tbl := List.mem_of_getElem? (i := 372) (by decide +kernel)
theorem b_T_holdsInMiddle : x_ce y_T_holdsInMiddle c_T_holdsInMiddle 2 (some FieldType.boolean) 1 := ⟨k_T_holdsInMiddle, i_T, by decide +kernel⟩
theorem s_T_holdsInMiddle : Cond.instanceMethod y_T_holdsInMiddle ∈ lw_tbl := List.mem_of_getElem? (i := 371) (by decide +kernel)
theorem v_T_holdsInMiddle : Cond.selects "FingerSpans$Tree" y_T_holdsInMiddle y_T_holdsInMiddle ∈ lw_tbl := List.mem_of_getElem? (i := 21) (by decide +kernel)
theorem d_T_holdsInMiddle_0 : decode c_T_holdsInMiddle 0 = .ok (.iload_n 1, 1) := by decide +kernel
theorem d_T_holdsInMiddle_1 : decode c_T_holdsInMiddle 1 = .ok (.aload_n 0, 1) := by decide +kernel
theorem d_T_holdsInMiddle_2 : decode c_T_holdsInMiddle 2 = .ok (.invokevirtual 37, 3) := by decide +kernel
theorem d_T_holdsInMiddle_5 : decode c_T_holdsInMiddle 5 = .ok (.if_icmp .lt 15, 3) := by decide +kernel
theorem d_T_holdsInMiddle_8 : decode c_T_holdsInMiddle 8 = .ok (.iload_n 1, 1) := by decide +kernel
theorem d_T_holdsInMiddle_9 : decode c_T_holdsInMiddle 9 = .ok (.aload_n 0, 1) := by decide +kernel
theorem d_T_holdsInMiddle_10 : decode c_T_holdsInMiddle 10 = .ok (.getfield 30, 3) := by decide +kernel
theorem d_T_holdsInMiddle_13 : decode c_T_holdsInMiddle 13 = .ok (.if_icmp .ge 7, 3) := by decide +kernel
theorem d_T_holdsInMiddle_16 : decode c_T_holdsInMiddle 16 = .ok (.iconst 1, 1) := by decide +kernel
theorem d_T_holdsInMiddle_17 : decode c_T_holdsInMiddle 17 = .ok (.goto 4, 3) := by decide +kernel
theorem d_T_holdsInMiddle_20 : decode c_T_holdsInMiddle 20 = .ok (.iconst 0, 1) := by decide +kernel
theorem d_T_holdsInMiddle_21 : decode c_T_holdsInMiddle 21 = .ok (.ireturn, 1) := by decide +kernel
abbrev c_T_first : ByteArray := prog_8_method_6_code
abbrev y_T_first : MethodName := ⟨"FingerSpans$Tree", "first", "()LFingerSpans$Item;"⟩
theorem k_T_first : Cond.code y_T_first c_T_first 1 (some (FieldType.object "FingerSpans$Item")) ∈ lw_tbl := List.mem_of_getElem? (i := 286) (by decide +kernel)
theorem b_T_first : x_ce y_T_first c_T_first 1 (some (FieldType.object "FingerSpans$Item")) 0 := ⟨k_T_first, i_T, by decide +kernel⟩
theorem s_T_first : Cond.instanceMethod y_T_first ∈ lw_tbl := List.mem_of_getElem? (i := 285) (by decide +kernel)
theorem v_T_first : Cond.selects "FingerSpans$Tree" y_T_first y_T_first ∈ lw_tbl := List.mem_of_getElem? (i := 13) (by decide +kernel)
theorem d_T_first_0 : decode c_T_first 0 = .ok (.aload_n 0, 1) := by decide +kernel
theorem d_T_first_1 : decode c_T_first 1 = .ok (.getfield 7, 3) := by decide +kernel
theorem d_T_first_4 : decode c_T_first 4 = .ok (.iconst 0, 1) := by decide +kernel
theorem d_T_first_5 : decode c_T_first 5 = .ok (.aaload, 1) := by decide +kernel
theorem d_T_first_6 : decode c_T_first 6 = .ok (.areturn, 1) := by decide +kernel
abbrev c_T_last : ByteArray := prog_8_method_7_code
abbrev y_T_last : MethodName := ⟨"FingerSpans$Tree", "last", "()LFingerSpans$Item;"⟩
theorem k_T_last : Cond.code y_T_last c_T_last 1 (some (FieldType.object "FingerSpans$Item")) ∈ lw_tbl := List.mem_of_getElem? (i := 263) (by decide +kernel)
theorem b_T_last : x_ce y_T_last c_T_last 1 (some (FieldType.object "FingerSpans$Item")) 0 := ⟨k_T_last, i_T, by decide +kernel⟩
theorem s_T_last : Cond.instanceMethod y_T_last ∈ lw_tbl := List.mem_of_getElem? (i := 262) (by decide +kernel)
theorem v_T_last : Cond.selects "FingerSpans$Tree" y_T_last y_T_last ∈ lw_tbl := List.mem_of_getElem? (i := 9) (by decide +kernel)
theorem d_T_last_0 : decode c_T_last 0 = .ok (.aload_n 0, 1) := by decide +kernel
theorem d_T_last_1 : decode c_T_last 1 = .ok (.invokevirtual 33, 3) := by decide +kernel
theorem d_T_last_4 : decode c_T_last 4 = .ok (.ifCond .eq 18, 3) := by decide +kernel
theorem d_T_last_7 : decode c_T_last 7 = .ok (.aload_n 0, 1) := by decide +kernel
theorem d_T_last_8 : decode c_T_last 8 = .ok (.getfield 17, 3) := by decide +kernel
theorem d_T_last_11 : decode c_T_last 11 = .ok (.aload_n 0, 1) := by decide +kernel
theorem d_T_last_12 : decode c_T_last 12 = .ok (.getfield 17, 3) := by decide +kernel
theorem d_T_last_15 : decode c_T_last 15 = .ok (.arraylength, 1) := by decide +kernel
theorem d_T_last_16 : decode c_T_last 16 = .ok (.iconst 1, 1) := by decide +kernel
theorem d_T_last_17 : decode c_T_last 17 = .ok (.isub, 1) := by decide +kernel
theorem d_T_last_18 : decode c_T_last 18 = .ok (.aaload, 1) := by decide +kernel
theorem d_T_last_19 : decode c_T_last 19 = .ok (.goto 9, 3) := by decide +kernel
theorem d_T_last_22 : decode c_T_last 22 = .ok (.aload_n 0, 1) := by decide +kernel
theorem d_T_last_23 : decode c_T_last 23 = .ok (.getfield 7, 3) := by decide +kernel
theorem d_T_last_26 : decode c_T_last 26 = .ok (.iconst 0, 1) := by decide +kernel
theorem d_T_last_27 : decode c_T_last 27 = .ok (.aaload, 1) := by decide +kernel
theorem d_T_last_28 : decode c_T_last 28 = .ok (.areturn, 1) := by decide +kernel
abbrev c_T_entryAt : ByteArray := prog_8_method_8_code
abbrev y_T_entryAt : MethodName := ⟨"FingerSpans$Tree", "entryAt", "(I)LFingerSpans$Item;"⟩
theorem k_T_entryAt : Cond.code y_T_entryAt c_T_entryAt 2 (some (FieldType.object "FingerSpans$Item")) ∈ lw_tbl := List.mem_of_getElem? (i := 426) (by decide +kernel)
theorem b_T_entryAt : x_ce y_T_entryAt c_T_entryAt 2 (some (FieldType.object "FingerSpans$Item")) 1 := ⟨k_T_entryAt, i_T, by decide +kernel⟩
theorem s_T_entryAt : Cond.instanceMethod y_T_entryAt ∈ lw_tbl := List.mem_of_getElem? (i := 425) (by decide +kernel)
theorem v_T_entryAt : Cond.selects "FingerSpans$Tree" y_T_entryAt y_T_entryAt ∈ lw_tbl := List.mem_of_getElem? (i := 27) (by decide +kernel)
theorem d_T_entryAt_0 : decode c_T_entryAt 0 = .ok (.iload_n 1, 1) := by decide +kernel
theorem d_T_entryAt_1 : decode c_T_entryAt 1 = .ok (.aload_n 0, 1) := by decide +kernel
theorem d_T_entryAt_2 : decode c_T_entryAt 2 = .ok (.getfield 30, 3) := by decide +kernel
theorem d_T_entryAt_5 : decode c_T_entryAt 5 = .ok (.if_icmp .lt 17, 3) := by decide +kernel
theorem d_T_entryAt_8 : decode c_T_entryAt 8 = .ok (.aload_n 0, 1) := by decide +kernel
theorem d_T_entryAt_9 : decode c_T_entryAt 9 = .ok (.getfield 17, 3) := by decide +kernel
theorem d_T_entryAt_12 : decode c_T_entryAt 12 = .ok (.iload_n 1, 1) := by decide +kernel
theorem d_T_entryAt_13 : decode c_T_entryAt 13 = .ok (.aload_n 0, 1) := by decide +kernel
theorem d_T_entryAt_14 : decode c_T_entryAt 14 = .ok (.getfield 30, 3) := by decide +kernel
theorem d_T_entryAt_17 : decode c_T_entryAt 17 = .ok (.isub, 1) := by decide +kernel
theorem d_T_entryAt_18 : decode c_T_entryAt 18 = .ok (.invokestatic 41, 3) := by decide +kernel
theorem d_T_entryAt_21 : decode c_T_entryAt 21 = .ok (.areturn, 1) := by decide +kernel
theorem d_T_entryAt_22 : decode c_T_entryAt 22 = .ok (.aload_n 0, 1) := by decide +kernel
theorem d_T_entryAt_23 : decode c_T_entryAt 23 = .ok (.iload_n 1, 1) := by decide +kernel
theorem d_T_entryAt_24 : decode c_T_entryAt 24 = .ok (.invokevirtual 45, 3) := by decide +kernel
theorem d_T_entryAt_27 : decode c_T_entryAt 27 = .ok (.ifCond .eq 17, 3) := by decide +kernel
theorem d_T_entryAt_30 : decode c_T_entryAt 30 = .ok (.aload_n 0, 1) := by decide +kernel
theorem d_T_entryAt_31 : decode c_T_entryAt 31 = .ok (.getfield 13, 3) := by decide +kernel
theorem d_T_entryAt_34 : decode c_T_entryAt 34 = .ok (.iload_n 1, 1) := by decide +kernel
theorem d_T_entryAt_35 : decode c_T_entryAt 35 = .ok (.aload_n 0, 1) := by decide +kernel
theorem d_T_entryAt_36 : decode c_T_entryAt 36 = .ok (.invokevirtual 37, 3) := by decide +kernel
theorem d_T_entryAt_39 : decode c_T_entryAt 39 = .ok (.isub, 1) := by decide +kernel
theorem d_T_entryAt_40 : decode c_T_entryAt 40 = .ok (.invokevirtual 49, 3) := by decide +kernel
theorem d_T_entryAt_43 : decode c_T_entryAt 43 = .ok (.areturn, 1) := by decide +kernel
theorem d_T_entryAt_44 : decode c_T_entryAt 44 = .ok (.aload_n 0, 1) := by decide +kernel
theorem d_T_entryAt_45 : decode c_T_entryAt 45 = .ok (.getfield 7, 3) := by decide +kernel
theorem d_T_entryAt_48 : decode c_T_entryAt 48 = .ok (.iload_n 1, 1) := by decide +kernel
theorem d_T_entryAt_49 : decode c_T_entryAt 49 = .ok (.invokestatic 41, 3) := by decide +kernel
theorem d_T_entryAt_52 : decode c_T_entryAt 52 = .ok (.areturn, 1) := by decide +kernel
abbrev c_T_levelOf : ByteArray := prog_8_method_9_code
abbrev y_T_levelOf : MethodName := ⟨"FingerSpans$Tree", "levelOf", "(I)I"⟩
theorem k_T_levelOf : Cond.code y_T_levelOf c_T_levelOf 2 (some FieldType.int) ∈ lw_tbl := List.mem_of_getElem? (i := 499) (by decide +kernel)
theorem b_T_levelOf : x_ce y_T_levelOf c_T_levelOf 2 (some FieldType.int) 1 := ⟨k_T_levelOf, i_T, by decide +kernel⟩
theorem s_T_levelOf : Cond.instanceMethod y_T_levelOf ∈ lw_tbl := List.mem_of_getElem? (i := 498) (by decide +kernel)
theorem v_T_levelOf : Cond.selects "FingerSpans$Tree" y_T_levelOf y_T_levelOf ∈ lw_tbl := List.mem_of_getElem? (i := 28) (by decide +kernel)
theorem d_T_levelOf_0 : decode c_T_levelOf 0 = .ok (.aload_n 0, 1) := by decide +kernel
theorem d_T_levelOf_1 : decode c_T_levelOf 1 = .ok (.iload_n 1, 1) := by decide +kernel
theorem d_T_levelOf_2 : decode c_T_levelOf 2 = .ok (.invokevirtual 45, 3) := by decide +kernel
theorem d_T_levelOf_5 : decode c_T_levelOf 5 = .ok (.ifCond .eq 21, 3) := by decide +kernel
theorem d_T_levelOf_8 : decode c_T_levelOf 8 = .ok (.iconst 1, 1) := by decide +kernel
theorem d_T_levelOf_9 : decode c_T_levelOf 9 = .ok (.aload_n 0, 1) := by decide +kernel
theorem d_T_levelOf_10 : decode c_T_levelOf 10 = .ok (.getfield 13, 3) := by decide +kernel
theorem d_T_levelOf_13 : decode c_T_levelOf 13 = .ok (.iload_n 1, 1) := by decide +kernel
theorem d_T_levelOf_14 : decode c_T_levelOf 14 = .ok (.aload_n 0, 1) := by decide +kernel
theorem d_T_levelOf_15 : decode c_T_levelOf 15 = .ok (.invokevirtual 37, 3) := by decide +kernel
theorem d_T_levelOf_18 : decode c_T_levelOf 18 = .ok (.isub, 1) := by decide +kernel
theorem d_T_levelOf_19 : decode c_T_levelOf 19 = .ok (.invokevirtual 52, 3) := by decide +kernel
theorem d_T_levelOf_22 : decode c_T_levelOf 22 = .ok (.iadd, 1) := by decide +kernel
theorem d_T_levelOf_23 : decode c_T_levelOf 23 = .ok (.goto 4, 3) := by decide +kernel
theorem d_T_levelOf_26 : decode c_T_levelOf 26 = .ok (.iconst 0, 1) := by decide +kernel
theorem d_T_levelOf_27 : decode c_T_levelOf 27 = .ok (.ireturn, 1) := by decide +kernel
