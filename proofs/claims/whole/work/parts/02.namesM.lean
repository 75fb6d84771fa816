/-! Methods: codes, names, decoded instructions: written by wip/whole/tools/names.py out of the claim. -/
abbrev c_M_init : ByteArray := prog_10_method_1_code
abbrev y_M_init : MethodName := ⟨"FingerSpansModel", "<init>", "()V"⟩
theorem k_M_init : Cond.code y_M_init c_M_init 1 (none : Option FieldType) ∈ lw_tbl := List.mem_of_getElem? (i := 526) (by decide +kernel)
theorem b_M_init : x_ce y_M_init c_M_init 1 (none : Option FieldType) 0 := ⟨k_M_init, i_M, by decide +kernel⟩
theorem s_M_init : Cond.instanceMethod y_M_init ∈ lw_tbl := List.mem_of_getElem? (i := 525) (by decide +kernel)
theorem d_M_init_0 : decode c_M_init 0 = .ok (.aload_n 0, 1) := by decide +kernel
theorem d_M_init_1 : decode c_M_init 1 = .ok (.invokespecial 1, 3) := by decide +kernel
theorem d_M_init_4 : decode c_M_init 4 = .ok (.aload_n 0, 1) := by decide +kernel
theorem d_M_init_5 : decode c_M_init 5 = .ok (.bipush 120, 2) := by decide +kernel
theorem d_M_init_7 : decode c_M_init 7 = .ok (.newarray .int, 2) := by decide +kernel
theorem d_M_init_9 : decode c_M_init 9 = .ok (.putfield 7, 3) := by decide +kernel
theorem d_M_init_12 : decode c_M_init 12 = .ok (.aload_n 0, 1) := by decide +kernel
theorem d_M_init_13 : decode c_M_init 13 = .ok (.bipush 120, 2) := by decide +kernel
theorem d_M_init_15 : decode c_M_init 15 = .ok (.newarray .int, 2) := by decide +kernel
theorem d_M_init_17 : decode c_M_init 17 = .ok (.putfield 13, 3) := by decide +kernel
theorem d_M_init_20 : decode c_M_init 20 = .ok (.aload_n 0, 1) := by decide +kernel
theorem d_M_init_21 : decode c_M_init 21 = .ok (.sipush 4200, 3) := by decide +kernel
theorem d_M_init_24 : decode c_M_init 24 = .ok (.newarray .byte, 2) := by decide +kernel
theorem d_M_init_26 : decode c_M_init 26 = .ok (.putfield 16, 3) := by decide +kernel
theorem d_M_init_29 : decode c_M_init 29 = .ok (.aload_n 0, 1) := by decide +kernel
theorem d_M_init_30 : decode c_M_init 30 = .ok (.sipush 4200, 3) := by decide +kernel
theorem d_M_init_33 : decode c_M_init 33 = .ok (.newarray .byte, 2) := by decide +kernel
theorem d_M_init_35 : decode c_M_init 35 = .ok (.putfield 20, 3) := by decide +kernel
theorem d_M_init_38 : decode c_M_init 38 = .ok (.aload_n 0, 1) := by decide +kernel
theorem d_M_init_39 : decode c_M_init 39 = .ok (.sipush 4800, 3) := by decide +kernel
theorem d_M_init_42 : decode c_M_init 42 = .ok (.newarray .long, 2) := by decide +kernel
theorem d_M_init_44 : decode c_M_init 44 = .ok (.putfield 23, 3) := by decide +kernel
theorem d_M_init_47 : decode c_M_init 47 = .ok (.aload_n 0, 1) := by decide +kernel
theorem d_M_init_48 : decode c_M_init 48 = .ok (.bipush 120, 2) := by decide +kernel
theorem d_M_init_50 : decode c_M_init 50 = .ok (.newarray .byte, 2) := by decide +kernel
theorem d_M_init_52 : decode c_M_init 52 = .ok (.putfield 27, 3) := by decide +kernel
theorem d_M_init_55 : decode c_M_init 55 = .ok (.aload_n 0, 1) := by decide +kernel
theorem d_M_init_56 : decode c_M_init 56 = .ok (.iconst 1, 1) := by decide +kernel
theorem d_M_init_57 : decode c_M_init 57 = .ok (.putfield 30, 3) := by decide +kernel
theorem d_M_init_60 : decode c_M_init 60 = .ok (.aload_n 0, 1) := by decide +kernel
theorem d_M_init_61 : decode c_M_init 61 = .ok (.bipush 48, 2) := by decide +kernel
theorem d_M_init_63 : decode c_M_init 63 = .ok (.newarray .long, 2) := by decide +kernel
theorem d_M_init_65 : decode c_M_init 65 = .ok (.putfield 34, 3) := by decide +kernel
theorem d_M_init_68 : decode c_M_init 68 = .ok (.return_, 1) := by decide +kernel
abbrev c_M_level : ByteArray := prog_10_method_2_code
abbrev y_M_level : MethodName := ⟨"FingerSpansModel", "level", "(J)I"⟩
theorem k_M_level : Cond.code y_M_level c_M_level 2 (some FieldType.int) ∈ lw_tbl := List.mem_of_getElem? (i := 594) (by decide +kernel)
theorem b_M_level : x_ce y_M_level c_M_level 2 (some FieldType.int) 1 := ⟨k_M_level, i_M, by decide +kernel⟩
theorem s_M_level : Cond.static y_M_level ∈ lw_tbl := List.mem_of_getElem? (i := 593) (by decide +kernel)
theorem d_M_level_0 : decode c_M_level 0 = .ok (.lload_n 0, 1) := by decide +kernel
theorem d_M_level_1 : decode c_M_level 1 = .ok (.bipush 9, 2) := by decide +kernel
theorem d_M_level_3 : decode c_M_level 3 = .ok (.lushr, 1) := by decide +kernel
theorem d_M_level_4 : decode c_M_level 4 = .ok (.l2i, 1) := by decide +kernel
theorem d_M_level_5 : decode c_M_level 5 = .ok (.bipush 7, 2) := by decide +kernel
theorem d_M_level_7 : decode c_M_level 7 = .ok (.iand, 1) := by decide +kernel
theorem d_M_level_8 : decode c_M_level 8 = .ok (.ireturn, 1) := by decide +kernel
abbrev c_M_side : ByteArray := prog_10_method_3_code
abbrev y_M_side : MethodName := ⟨"FingerSpansModel", "side", "(J)I"⟩
theorem k_M_side : Cond.code y_M_side c_M_side 2 (some FieldType.int) ∈ lw_tbl := List.mem_of_getElem? (i := 602) (by decide +kernel)
theorem b_M_side : x_ce y_M_side c_M_side 2 (some FieldType.int) 1 := ⟨k_M_side, i_M, by decide +kernel⟩
theorem s_M_side : Cond.static y_M_side ∈ lw_tbl := List.mem_of_getElem? (i := 601) (by decide +kernel)
theorem d_M_side_0 : decode c_M_side 0 = .ok (.lload_n 0, 1) := by decide +kernel
theorem d_M_side_1 : decode c_M_side 1 = .ok (.bipush 7, 2) := by decide +kernel
theorem d_M_side_3 : decode c_M_side 3 = .ok (.lushr, 1) := by decide +kernel
theorem d_M_side_4 : decode c_M_side 4 = .ok (.l2i, 1) := by decide +kernel
theorem d_M_side_5 : decode c_M_side 5 = .ok (.iconst 3, 1) := by decide +kernel
theorem d_M_side_6 : decode c_M_side 6 = .ok (.iand, 1) := by decide +kernel
theorem d_M_side_7 : decode c_M_side 7 = .ok (.ireturn, 1) := by decide +kernel
abbrev c_M_node : ByteArray := prog_10_method_4_code
abbrev y_M_node : MethodName := ⟨"FingerSpansModel", "node", "(JI)I"⟩
theorem k_M_node : Cond.code y_M_node c_M_node 3 (some FieldType.int) ∈ lw_tbl := List.mem_of_getElem? (i := 591) (by decide +kernel)
theorem b_M_node : x_ce y_M_node c_M_node 3 (some FieldType.int) 2 := ⟨k_M_node, i_M, by decide +kernel⟩
theorem s_M_node : Cond.static y_M_node ∈ lw_tbl := List.mem_of_getElem? (i := 590) (by decide +kernel)
theorem d_M_node_0 : decode c_M_node 0 = .ok (.lload_n 0, 1) := by decide +kernel
theorem d_M_node_1 : decode c_M_node 1 = .ok (.bipush 13, 2) := by decide +kernel
theorem d_M_node_3 : decode c_M_node 3 = .ok (.iload_n 2, 1) := by decide +kernel
theorem d_M_node_4 : decode c_M_node 4 = .ok (.imul, 1) := by decide +kernel
theorem d_M_node_5 : decode c_M_node 5 = .ok (.iconst 1, 1) := by decide +kernel
theorem d_M_node_6 : decode c_M_node 6 = .ok (.isub, 1) := by decide +kernel
theorem d_M_node_7 : decode c_M_node 7 = .ok (.lushr, 1) := by decide +kernel
theorem d_M_node_8 : decode c_M_node 8 = .ok (.l2i, 1) := by decide +kernel
theorem d_M_node_9 : decode c_M_node 9 = .ok (.sipush 8191, 3) := by decide +kernel
theorem d_M_node_12 : decode c_M_node 12 = .ok (.iand, 1) := by decide +kernel
theorem d_M_node_13 : decode c_M_node 13 = .ok (.ireturn, 1) := by decide +kernel
abbrev c_M_entry : ByteArray := prog_10_method_5_code
abbrev y_M_entry : MethodName := ⟨"FingerSpansModel", "entry", "(J)I"⟩
theorem k_M_entry : Cond.code y_M_entry c_M_entry 2 (some FieldType.int) ∈ lw_tbl := List.mem_of_getElem? (i := 704) (by decide +kernel)
theorem b_M_entry : x_ce y_M_entry c_M_entry 2 (some FieldType.int) 1 := ⟨k_M_entry, i_M, by decide +kernel⟩
theorem s_M_entry : Cond.static y_M_entry ∈ lw_tbl := List.mem_of_getElem? (i := 703) (by decide +kernel)
theorem d_M_entry_0 : decode c_M_entry 0 = .ok (.lload_n 0, 1) := by decide +kernel
theorem d_M_entry_1 : decode c_M_entry 1 = .ok (.l2i, 1) := by decide +kernel
theorem d_M_entry_2 : decode c_M_entry 2 = .ok (.bipush 127, 2) := by decide +kernel
theorem d_M_entry_4 : decode c_M_entry 4 = .ok (.iand, 1) := by decide +kernel
theorem d_M_entry_5 : decode c_M_entry 5 = .ok (.ireturn, 1) := by decide +kernel
abbrev c_M_is : ByteArray := prog_10_method_6_code
abbrev y_M_is : MethodName := ⟨"FingerSpansModel", "is", "(III)Z"⟩
theorem k_M_is : Cond.code y_M_is c_M_is 4 (some FieldType.boolean) ∈ lw_tbl := List.mem_of_getElem? (i := 606) (by decide +kernel)
theorem b_M_is : x_ce y_M_is c_M_is 4 (some FieldType.boolean) 3 := ⟨k_M_is, i_M, by decide +kernel⟩
theorem s_M_is : Cond.instanceMethod y_M_is ∈ lw_tbl := List.mem_of_getElem? (i := 605) (by decide +kernel)
theorem v_M_is : Cond.selects "FingerSpansModel" y_M_is y_M_is ∈ lw_tbl := List.mem_of_getElem? (i := 38) (by decide +kernel)
theorem d_M_is_0 : decode c_M_is 0 = .ok (.iload_n 1, 1) := by decide +kernel
theorem d_M_is_1 : decode c_M_is 1 = .ok (.ifCond .lt 41, 3) := by decide +kernel
theorem d_M_is_4 : decode c_M_is 4 = .ok (.iload_n 1, 1) := by decide +kernel
theorem d_M_is_5 : decode c_M_is 5 = .ok (.aload_n 0, 1) := by decide +kernel
theorem d_M_is_6 : decode c_M_is 6 = .ok (.getfield 37, 3) := by decide +kernel
theorem d_M_is_9 : decode c_M_is 9 = .ok (.if_icmp .ge 33, 3) := by decide +kernel
theorem d_M_is_12 : decode c_M_is 12 = .ok (.aload_n 0, 1) := by decide +kernel
theorem d_M_is_13 : decode c_M_is 13 = .ok (.getfield 34, 3) := by decide +kernel
theorem d_M_is_16 : decode c_M_is 16 = .ok (.iload_n 1, 1) := by decide +kernel
theorem d_M_is_17 : decode c_M_is 17 = .ok (.laload, 1) := by decide +kernel
theorem d_M_is_18 : decode c_M_is 18 = .ok (.invokestatic 40, 3) := by decide +kernel
theorem d_M_is_21 : decode c_M_is 21 = .ok (.iload_n 2, 1) := by decide +kernel
theorem d_M_is_22 : decode c_M_is 22 = .ok (.if_icmp .ne 20, 3) := by decide +kernel
theorem d_M_is_25 : decode c_M_is 25 = .ok (.aload_n 0, 1) := by decide +kernel
theorem d_M_is_26 : decode c_M_is 26 = .ok (.getfield 34, 3) := by decide +kernel
theorem d_M_is_29 : decode c_M_is 29 = .ok (.iload_n 1, 1) := by decide +kernel
theorem d_M_is_30 : decode c_M_is 30 = .ok (.laload, 1) := by decide +kernel
theorem d_M_is_31 : decode c_M_is 31 = .ok (.invokestatic 44, 3) := by decide +kernel
theorem d_M_is_34 : decode c_M_is 34 = .ok (.iload_n 3, 1) := by decide +kernel
theorem d_M_is_35 : decode c_M_is 35 = .ok (.if_icmp .ne 7, 3) := by decide +kernel
theorem d_M_is_38 : decode c_M_is 38 = .ok (.iconst 1, 1) := by decide +kernel
theorem d_M_is_39 : decode c_M_is 39 = .ok (.goto 4, 3) := by decide +kernel
theorem d_M_is_42 : decode c_M_is 42 = .ok (.iconst 0, 1) := by decide +kernel
theorem d_M_is_43 : decode c_M_is 43 = .ok (.ireturn, 1) := by decide +kernel
abbrev c_M_end : ByteArray := prog_10_method_7_code
abbrev y_M_end : MethodName := ⟨"FingerSpansModel", "end", "(II)I"⟩
theorem k_M_end : Cond.code y_M_end c_M_end 3 (some FieldType.int) ∈ lw_tbl := List.mem_of_getElem? (i := 588) (by decide +kernel)
theorem b_M_end : x_ce y_M_end c_M_end 3 (some FieldType.int) 2 := ⟨k_M_end, i_M, by decide +kernel⟩
theorem s_M_end : Cond.instanceMethod y_M_end ∈ lw_tbl := List.mem_of_getElem? (i := 587) (by decide +kernel)
theorem v_M_end : Cond.selects "FingerSpansModel" y_M_end y_M_end ∈ lw_tbl := List.mem_of_getElem? (i := 36) (by decide +kernel)
theorem d_M_end_0 : decode c_M_end 0 = .ok (.iload_n 2, 1) := by decide +kernel
theorem d_M_end_1 : decode c_M_end 1 = .ok (.ifCond .ne 9, 3) := by decide +kernel
theorem d_M_end_4 : decode c_M_end 4 = .ok (.iload_n 1, 1) := by decide +kernel
theorem d_M_end_5 : decode c_M_end 5 = .ok (.iconst 1, 1) := by decide +kernel
theorem d_M_end_6 : decode c_M_end 6 = .ok (.iadd, 1) := by decide +kernel
theorem d_M_end_7 : decode c_M_end 7 = .ok (.goto 20, 3) := by decide +kernel
theorem d_M_end_10 : decode c_M_end 10 = .ok (.iload_n 1, 1) := by decide +kernel
theorem d_M_end_11 : decode c_M_end 11 = .ok (.aload_n 0, 1) := by decide +kernel
theorem d_M_end_12 : decode c_M_end 12 = .ok (.getfield 16, 3) := by decide +kernel
theorem d_M_end_15 : decode c_M_end 15 = .ok (.aload_n 0, 1) := by decide +kernel
theorem d_M_end_16 : decode c_M_end 16 = .ok (.getfield 34, 3) := by decide +kernel
theorem d_M_end_19 : decode c_M_end 19 = .ok (.iload_n 1, 1) := by decide +kernel
theorem d_M_end_20 : decode c_M_end 20 = .ok (.laload, 1) := by decide +kernel
theorem d_M_end_21 : decode c_M_end 21 = .ok (.iload_n 2, 1) := by decide +kernel
theorem d_M_end_22 : decode c_M_end 22 = .ok (.invokestatic 47, 3) := by decide +kernel
theorem d_M_end_25 : decode c_M_end 25 = .ok (.baload, 1) := by decide +kernel
theorem d_M_end_26 : decode c_M_end 26 = .ok (.iadd, 1) := by decide +kernel
theorem d_M_end_27 : decode c_M_end 27 = .ok (.ireturn, 1) := by decide +kernel
abbrev c_M_begin : ByteArray := prog_10_method_8_code
abbrev y_M_begin : MethodName := ⟨"FingerSpansModel", "begin", "(II)I"⟩
theorem k_M_begin : Cond.code y_M_begin c_M_begin 3 (some FieldType.int) ∈ lw_tbl := List.mem_of_getElem? (i := 626) (by decide +kernel)
theorem b_M_begin : x_ce y_M_begin c_M_begin 3 (some FieldType.int) 2 := ⟨k_M_begin, i_M, by decide +kernel⟩
theorem s_M_begin : Cond.instanceMethod y_M_begin ∈ lw_tbl := List.mem_of_getElem? (i := 625) (by decide +kernel)
theorem v_M_begin : Cond.selects "FingerSpansModel" y_M_begin y_M_begin ∈ lw_tbl := List.mem_of_getElem? (i := 42) (by decide +kernel)
theorem d_M_begin_0 : decode c_M_begin 0 = .ok (.iload_n 2, 1) := by decide +kernel
theorem d_M_begin_1 : decode c_M_begin 1 = .ok (.ifCond .ne 9, 3) := by decide +kernel
theorem d_M_begin_4 : decode c_M_begin 4 = .ok (.iload_n 1, 1) := by decide +kernel
theorem d_M_begin_5 : decode c_M_begin 5 = .ok (.iconst 1, 1) := by decide +kernel
theorem d_M_begin_6 : decode c_M_begin 6 = .ok (.isub, 1) := by decide +kernel
theorem d_M_begin_7 : decode c_M_begin 7 = .ok (.goto 22, 3) := by decide +kernel
theorem d_M_begin_10 : decode c_M_begin 10 = .ok (.iload_n 1, 1) := by decide +kernel
theorem d_M_begin_11 : decode c_M_begin 11 = .ok (.aload_n 0, 1) := by decide +kernel
theorem d_M_begin_12 : decode c_M_begin 12 = .ok (.getfield 16, 3) := by decide +kernel
theorem d_M_begin_15 : decode c_M_begin 15 = .ok (.aload_n 0, 1) := by decide +kernel
theorem d_M_begin_16 : decode c_M_begin 16 = .ok (.getfield 34, 3) := by decide +kernel
theorem d_M_begin_19 : decode c_M_begin 19 = .ok (.iload_n 1, 1) := by decide +kernel
theorem d_M_begin_20 : decode c_M_begin 20 = .ok (.iconst 1, 1) := by decide +kernel
theorem d_M_begin_21 : decode c_M_begin 21 = .ok (.isub, 1) := by decide +kernel
theorem d_M_begin_22 : decode c_M_begin 22 = .ok (.laload, 1) := by decide +kernel
theorem d_M_begin_23 : decode c_M_begin 23 = .ok (.iload_n 2, 1) := by decide +kernel
theorem d_M_begin_24 : decode c_M_begin 24 = .ok (.invokestatic 47, 3) := by decide +kernel
theorem d_M_begin_27 : decode c_M_begin 27 = .ok (.baload, 1) := by decide +kernel
theorem d_M_begin_28 : decode c_M_begin 28 = .ok (.isub, 1) := by decide +kernel
theorem d_M_begin_29 : decode c_M_begin 29 = .ok (.ireturn, 1) := by decide +kernel
abbrev c_M_settle : ByteArray := prog_10_method_9_code
abbrev y_M_settle : MethodName := ⟨"FingerSpansModel", "settle", "(IIII)V"⟩
theorem k_M_settle : Cond.code y_M_settle c_M_settle 8 (none : Option FieldType) ∈ lw_tbl := List.mem_of_getElem? (i := 598) (by decide +kernel)
theorem b_M_settle : x_ce y_M_settle c_M_settle 8 (none : Option FieldType) 4 := ⟨k_M_settle, i_M, by decide +kernel⟩
theorem s_M_settle : Cond.instanceMethod y_M_settle ∈ lw_tbl := List.mem_of_getElem? (i := 597) (by decide +kernel)
theorem v_M_settle : Cond.selects "FingerSpansModel" y_M_settle y_M_settle ∈ lw_tbl := List.mem_of_getElem? (i := 37) (by decide +kernel)
theorem d_M_settle_0 : decode c_M_settle 0 = .ok (.lconst 1, 1) := by decide +kernel
theorem d_M_settle_1 : decode c_M_settle 1 = .ok (.bipush 12, 2) := by decide +kernel
theorem d_M_settle_3 : decode c_M_settle 3 = .ok (.bipush 13, 2) := by decide +kernel
theorem d_M_settle_5 : decode c_M_settle 5 = .ok (.iload_n 3, 1) := by decide +kernel
theorem d_M_settle_6 : decode c_M_settle 6 = .ok (.imul, 1) := by decide +kernel
theorem d_M_settle_7 : decode c_M_settle 7 = .ok (.iadd, 1) := by decide +kernel
theorem d_M_settle_8 : decode c_M_settle 8 = .ok (.lshl, 1) := by decide +kernel
theorem d_M_settle_9 : decode c_M_settle 9 = .ok (.lconst 1, 1) := by decide +kernel
theorem d_M_settle_10 : decode c_M_settle 10 = .ok (.lsub, 1) := by decide +kernel
theorem d_M_settle_11 : decode c_M_settle 11 = .ok (.ldc2_w 51, 3) := by decide +kernel
theorem d_M_settle_14 : decode c_M_settle 14 = .ok (.land, 1) := by decide +kernel
theorem d_M_settle_15 : decode c_M_settle 15 = .ok (.lstore 5, 2) := by decide +kernel
theorem d_M_settle_17 : decode c_M_settle 17 = .ok (.iload_n 1, 1) := by decide +kernel
theorem d_M_settle_18 : decode c_M_settle 18 = .ok (.istore 7, 2) := by decide +kernel
theorem d_M_settle_20 : decode c_M_settle 20 = .ok (.iload 7, 2) := by decide +kernel
theorem d_M_settle_22 : decode c_M_settle 22 = .ok (.iload_n 2, 1) := by decide +kernel
theorem d_M_settle_23 : decode c_M_settle 23 = .ok (.if_icmp .ge 39, 3) := by decide +kernel
theorem d_M_settle_26 : decode c_M_settle 26 = .ok (.aload_n 0, 1) := by decide +kernel
theorem d_M_settle_27 : decode c_M_settle 27 = .ok (.getfield 34, 3) := by decide +kernel
theorem d_M_settle_30 : decode c_M_settle 30 = .ok (.iload 7, 2) := by decide +kernel
theorem d_M_settle_32 : decode c_M_settle 32 = .ok (.aload_n 0, 1) := by decide +kernel
theorem d_M_settle_33 : decode c_M_settle 33 = .ok (.getfield 34, 3) := by decide +kernel
theorem d_M_settle_36 : decode c_M_settle 36 = .ok (.iload 7, 2) := by decide +kernel
theorem d_M_settle_38 : decode c_M_settle 38 = .ok (.laload, 1) := by decide +kernel
theorem d_M_settle_39 : decode c_M_settle 39 = .ok (.lload 5, 2) := by decide +kernel
theorem d_M_settle_41 : decode c_M_settle 41 = .ok (.land, 1) := by decide +kernel
theorem d_M_settle_42 : decode c_M_settle 42 = .ok (.iload 4, 2) := by decide +kernel
theorem d_M_settle_44 : decode c_M_settle 44 = .ok (.i2l, 1) := by decide +kernel
theorem d_M_settle_45 : decode c_M_settle 45 = .ok (.bipush 7, 2) := by decide +kernel
theorem d_M_settle_47 : decode c_M_settle 47 = .ok (.lshl, 1) := by decide +kernel
theorem d_M_settle_48 : decode c_M_settle 48 = .ok (.lor, 1) := by decide +kernel
theorem d_M_settle_49 : decode c_M_settle 49 = .ok (.iload_n 3, 1) := by decide +kernel
theorem d_M_settle_50 : decode c_M_settle 50 = .ok (.i2l, 1) := by decide +kernel
theorem d_M_settle_51 : decode c_M_settle 51 = .ok (.bipush 9, 2) := by decide +kernel
theorem d_M_settle_53 : decode c_M_settle 53 = .ok (.lshl, 1) := by decide +kernel
theorem d_M_settle_54 : decode c_M_settle 54 = .ok (.lor, 1) := by decide +kernel
theorem d_M_settle_55 : decode c_M_settle 55 = .ok (.lastore, 1) := by decide +kernel
theorem d_M_settle_56 : decode c_M_settle 56 = .ok (.iinc 7 1, 3) := by decide +kernel
theorem d_M_settle_59 : decode c_M_settle 59 = .ok (.goto (-39), 3) := by decide +kernel
theorem d_M_settle_62 : decode c_M_settle 62 = .ok (.return_, 1) := by decide +kernel
abbrev c_M_wrap : ByteArray := prog_10_method_10_code
abbrev y_M_wrap : MethodName := ⟨"FingerSpansModel", "wrap", "(III)V"⟩
theorem k_M_wrap : Cond.code y_M_wrap c_M_wrap 5 (none : Option FieldType) ∈ lw_tbl := List.mem_of_getElem? (i := 610) (by decide +kernel)
theorem b_M_wrap : x_ce y_M_wrap c_M_wrap 5 (none : Option FieldType) 3 := ⟨k_M_wrap, i_M, by decide +kernel⟩
theorem s_M_wrap : Cond.instanceMethod y_M_wrap ∈ lw_tbl := List.mem_of_getElem? (i := 609) (by decide +kernel)
theorem v_M_wrap : Cond.selects "FingerSpansModel" y_M_wrap y_M_wrap ∈ lw_tbl := List.mem_of_getElem? (i := 39) (by decide +kernel)
theorem d_M_wrap_0 : decode c_M_wrap 0 = .ok (.aload_n 0, 1) := by decide +kernel
theorem d_M_wrap_1 : decode c_M_wrap 1 = .ok (.dup, 1) := by decide +kernel
theorem d_M_wrap_2 : decode c_M_wrap 2 = .ok (.getfield 53, 3) := by decide +kernel
theorem d_M_wrap_5 : decode c_M_wrap 5 = .ok (.iconst 1, 1) := by decide +kernel
theorem d_M_wrap_6 : decode c_M_wrap 6 = .ok (.iadd, 1) := by decide +kernel
theorem d_M_wrap_7 : decode c_M_wrap 7 = .ok (.putfield 53, 3) := by decide +kernel
theorem d_M_wrap_10 : decode c_M_wrap 10 = .ok (.aload_n 0, 1) := by decide +kernel
theorem d_M_wrap_11 : decode c_M_wrap 11 = .ok (.getfield 16, 3) := by decide +kernel
theorem d_M_wrap_14 : decode c_M_wrap 14 = .ok (.aload_n 0, 1) := by decide +kernel
theorem d_M_wrap_15 : decode c_M_wrap 15 = .ok (.getfield 53, 3) := by decide +kernel
theorem d_M_wrap_18 : decode c_M_wrap 18 = .ok (.iload_n 2, 1) := by decide +kernel
theorem d_M_wrap_19 : decode c_M_wrap 19 = .ok (.iload_n 1, 1) := by decide +kernel
theorem d_M_wrap_20 : decode c_M_wrap 20 = .ok (.isub, 1) := by decide +kernel
theorem d_M_wrap_21 : decode c_M_wrap 21 = .ok (.i2b, 1) := by decide +kernel
theorem d_M_wrap_22 : decode c_M_wrap 22 = .ok (.bastore, 1) := by decide +kernel
theorem d_M_wrap_23 : decode c_M_wrap 23 = .ok (.iload_n 1, 1) := by decide +kernel
theorem d_M_wrap_24 : decode c_M_wrap 24 = .ok (.istore 4, 2) := by decide +kernel
theorem d_M_wrap_26 : decode c_M_wrap 26 = .ok (.iload 4, 2) := by decide +kernel
theorem d_M_wrap_28 : decode c_M_wrap 28 = .ok (.iload_n 2, 1) := by decide +kernel
theorem d_M_wrap_29 : decode c_M_wrap 29 = .ok (.if_icmp .ge 47, 3) := by decide +kernel
theorem d_M_wrap_32 : decode c_M_wrap 32 = .ok (.aload_n 0, 1) := by decide +kernel
theorem d_M_wrap_33 : decode c_M_wrap 33 = .ok (.getfield 34, 3) := by decide +kernel
theorem d_M_wrap_36 : decode c_M_wrap 36 = .ok (.iload 4, 2) := by decide +kernel
theorem d_M_wrap_38 : decode c_M_wrap 38 = .ok (.aload_n 0, 1) := by decide +kernel
theorem d_M_wrap_39 : decode c_M_wrap 39 = .ok (.getfield 34, 3) := by decide +kernel
theorem d_M_wrap_42 : decode c_M_wrap 42 = .ok (.iload 4, 2) := by decide +kernel
theorem d_M_wrap_44 : decode c_M_wrap 44 = .ok (.laload, 1) := by decide +kernel
theorem d_M_wrap_45 : decode c_M_wrap 45 = .ok (.lconst 1, 1) := by decide +kernel
theorem d_M_wrap_46 : decode c_M_wrap 46 = .ok (.bipush 13, 2) := by decide +kernel
theorem d_M_wrap_48 : decode c_M_wrap 48 = .ok (.iload_n 3, 1) := by decide +kernel
theorem d_M_wrap_49 : decode c_M_wrap 49 = .ok (.imul, 1) := by decide +kernel
theorem d_M_wrap_50 : decode c_M_wrap 50 = .ok (.iconst 1, 1) := by decide +kernel
theorem d_M_wrap_51 : decode c_M_wrap 51 = .ok (.isub, 1) := by decide +kernel
theorem d_M_wrap_52 : decode c_M_wrap 52 = .ok (.lshl, 1) := by decide +kernel
theorem d_M_wrap_53 : decode c_M_wrap 53 = .ok (.lconst 1, 1) := by decide +kernel
theorem d_M_wrap_54 : decode c_M_wrap 54 = .ok (.lsub, 1) := by decide +kernel
theorem d_M_wrap_55 : decode c_M_wrap 55 = .ok (.land, 1) := by decide +kernel
theorem d_M_wrap_56 : decode c_M_wrap 56 = .ok (.aload_n 0, 1) := by decide +kernel
theorem d_M_wrap_57 : decode c_M_wrap 57 = .ok (.getfield 53, 3) := by decide +kernel
theorem d_M_wrap_60 : decode c_M_wrap 60 = .ok (.i2l, 1) := by decide +kernel
theorem d_M_wrap_61 : decode c_M_wrap 61 = .ok (.bipush 13, 2) := by decide +kernel
theorem d_M_wrap_63 : decode c_M_wrap 63 = .ok (.iload_n 3, 1) := by decide +kernel
theorem d_M_wrap_64 : decode c_M_wrap 64 = .ok (.imul, 1) := by decide +kernel
theorem d_M_wrap_65 : decode c_M_wrap 65 = .ok (.iconst 1, 1) := by decide +kernel
theorem d_M_wrap_66 : decode c_M_wrap 66 = .ok (.isub, 1) := by decide +kernel
theorem d_M_wrap_67 : decode c_M_wrap 67 = .ok (.lshl, 1) := by decide +kernel
theorem d_M_wrap_68 : decode c_M_wrap 68 = .ok (.lor, 1) := by decide +kernel
theorem d_M_wrap_69 : decode c_M_wrap 69 = .ok (.lastore, 1) := by decide +kernel
theorem d_M_wrap_70 : decode c_M_wrap 70 = .ok (.iinc 4 1, 3) := by decide +kernel
theorem d_M_wrap_73 : decode c_M_wrap 73 = .ok (.goto (-47), 3) := by decide +kernel
theorem d_M_wrap_76 : decode c_M_wrap 76 = .ok (.aload_n 0, 1) := by decide +kernel
theorem d_M_wrap_77 : decode c_M_wrap 77 = .ok (.iload_n 1, 1) := by decide +kernel
theorem d_M_wrap_78 : decode c_M_wrap 78 = .ok (.iload_n 2, 1) := by decide +kernel
theorem d_M_wrap_79 : decode c_M_wrap 79 = .ok (.iload_n 3, 1) := by decide +kernel
theorem d_M_wrap_80 : decode c_M_wrap 80 = .ok (.iconst 3, 1) := by decide +kernel
theorem d_M_wrap_81 : decode c_M_wrap 81 = .ok (.invokevirtual 56, 3) := by decide +kernel
theorem d_M_wrap_84 : decode c_M_wrap 84 = .ok (.return_, 1) := by decide +kernel
abbrev c_M_line : ByteArray := prog_10_method_11_code
abbrev y_M_line : MethodName := ⟨"FingerSpansModel", "line", "(III)V"⟩
theorem k_M_line : Cond.code y_M_line c_M_line 8 (none : Option FieldType) ∈ lw_tbl := List.mem_of_getElem? (i := 642) (by decide +kernel)
theorem b_M_line : x_ce y_M_line c_M_line 8 (none : Option FieldType) 3 := ⟨k_M_line, i_M, by decide +kernel⟩
theorem s_M_line : Cond.instanceMethod y_M_line ∈ lw_tbl := List.mem_of_getElem? (i := 641) (by decide +kernel)
theorem v_M_line : Cond.selects "FingerSpansModel" y_M_line y_M_line ∈ lw_tbl := List.mem_of_getElem? (i := 45) (by decide +kernel)
theorem d_M_line_0 : decode c_M_line 0 = .ok (.iconst 0, 1) := by decide +kernel
theorem d_M_line_1 : decode c_M_line 1 = .ok (.istore 4, 2) := by decide +kernel
theorem d_M_line_3 : decode c_M_line 3 = .ok (.iload_n 1, 1) := by decide +kernel
theorem d_M_line_4 : decode c_M_line 4 = .ok (.istore 5, 2) := by decide +kernel
theorem d_M_line_6 : decode c_M_line 6 = .ok (.iload 5, 2) := by decide +kernel
theorem d_M_line_8 : decode c_M_line 8 = .ok (.iload_n 2, 1) := by decide +kernel
theorem d_M_line_9 : decode c_M_line 9 = .ok (.if_icmp .ge 18, 3) := by decide +kernel
theorem d_M_line_12 : decode c_M_line 12 = .ok (.iinc 4 1, 3) := by decide +kernel
theorem d_M_line_15 : decode c_M_line 15 = .ok (.aload_n 0, 1) := by decide +kernel
theorem d_M_line_16 : decode c_M_line 16 = .ok (.iload 5, 2) := by decide +kernel
theorem d_M_line_18 : decode c_M_line 18 = .ok (.iload_n 3, 1) := by decide +kernel
theorem d_M_line_19 : decode c_M_line 19 = .ok (.invokevirtual 60, 3) := by decide +kernel
theorem d_M_line_22 : decode c_M_line 22 = .ok (.istore 5, 2) := by decide +kernel
theorem d_M_line_24 : decode c_M_line 24 = .ok (.goto (-18), 3) := by decide +kernel
theorem d_M_line_27 : decode c_M_line 27 = .ok (.iconst 0, 1) := by decide +kernel
theorem d_M_line_28 : decode c_M_line 28 = .ok (.istore 5, 2) := by decide +kernel
theorem d_M_line_30 : decode c_M_line 30 = .ok (.iload_n 1, 1) := by decide +kernel
theorem d_M_line_31 : decode c_M_line 31 = .ok (.istore 6, 2) := by decide +kernel
theorem d_M_line_33 : decode c_M_line 33 = .ok (.iload 6, 2) := by decide +kernel
theorem d_M_line_35 : decode c_M_line 35 = .ok (.iload_n 2, 1) := by decide +kernel
theorem d_M_line_36 : decode c_M_line 36 = .ok (.if_icmp .ge 57, 3) := by decide +kernel
theorem d_M_line_39 : decode c_M_line 39 = .ok (.aload_n 0, 1) := by decide +kernel
theorem d_M_line_40 : decode c_M_line 40 = .ok (.iload 6, 2) := by decide +kernel
theorem d_M_line_42 : decode c_M_line 42 = .ok (.iload_n 3, 1) := by decide +kernel
theorem d_M_line_43 : decode c_M_line 43 = .ok (.invokevirtual 60, 3) := by decide +kernel
theorem d_M_line_46 : decode c_M_line 46 = .ok (.istore 7, 2) := by decide +kernel
theorem d_M_line_48 : decode c_M_line 48 = .ok (.aload_n 0, 1) := by decide +kernel
theorem d_M_line_49 : decode c_M_line 49 = .ok (.iload 6, 2) := by decide +kernel
theorem d_M_line_51 : decode c_M_line 51 = .ok (.iload 7, 2) := by decide +kernel
theorem d_M_line_53 : decode c_M_line 53 = .ok (.iload_n 3, 1) := by decide +kernel
theorem d_M_line_54 : decode c_M_line 54 = .ok (.iload 4, 2) := by decide +kernel
theorem d_M_line_56 : decode c_M_line 56 = .ok (.iconst 1, 1) := by decide +kernel
theorem d_M_line_57 : decode c_M_line 57 = .ok (.if_icmp .ne 7, 3) := by decide +kernel
theorem d_M_line_60 : decode c_M_line 60 = .ok (.iconst 2, 1) := by decide +kernel
theorem d_M_line_61 : decode c_M_line 61 = .ok (.goto 19, 3) := by decide +kernel
theorem d_M_line_64 : decode c_M_line 64 = .ok (.iload 5, 2) := by decide +kernel
theorem d_M_line_66 : decode c_M_line 66 = .ok (.iload 4, 2) := by decide +kernel
theorem d_M_line_68 : decode c_M_line 68 = .ok (.iconst 1, 1) := by decide +kernel
theorem d_M_line_69 : decode c_M_line 69 = .ok (.iadd, 1) := by decide +kernel
theorem d_M_line_70 : decode c_M_line 70 = .ok (.iconst 2, 1) := by decide +kernel
theorem d_M_line_71 : decode c_M_line 71 = .ok (.idiv, 1) := by decide +kernel
theorem d_M_line_72 : decode c_M_line 72 = .ok (.if_icmp .ge 7, 3) := by decide +kernel
theorem d_M_line_75 : decode c_M_line 75 = .ok (.iconst 0, 1) := by decide +kernel
theorem d_M_line_76 : decode c_M_line 76 = .ok (.goto 4, 3) := by decide +kernel
theorem d_M_line_79 : decode c_M_line 79 = .ok (.iconst 1, 1) := by decide +kernel
theorem d_M_line_80 : decode c_M_line 80 = .ok (.invokevirtual 56, 3) := by decide +kernel
theorem d_M_line_83 : decode c_M_line 83 = .ok (.iinc 5 1, 3) := by decide +kernel
theorem d_M_line_86 : decode c_M_line 86 = .ok (.iload 7, 2) := by decide +kernel
theorem d_M_line_88 : decode c_M_line 88 = .ok (.istore 6, 2) := by decide +kernel
theorem d_M_line_90 : decode c_M_line 90 = .ok (.goto (-57), 3) := by decide +kernel
theorem d_M_line_93 : decode c_M_line 93 = .ok (.return_, 1) := by decide +kernel
abbrev c_M_front : ByteArray := prog_10_method_12_code
abbrev y_M_front : MethodName := ⟨"FingerSpansModel", "front", "(II)V"⟩
theorem k_M_front : Cond.code y_M_front c_M_front 10 (none : Option FieldType) ∈ lw_tbl := List.mem_of_getElem? (i := 584) (by decide +kernel)
theorem b_M_front : x_ce y_M_front c_M_front 10 (none : Option FieldType) 2 := ⟨k_M_front, i_M, by decide +kernel⟩
theorem s_M_front : Cond.instanceMethod y_M_front ∈ lw_tbl := List.mem_of_getElem? (i := 583) (by decide +kernel)
theorem v_M_front : Cond.selects "FingerSpansModel" y_M_front y_M_front ∈ lw_tbl := List.mem_of_getElem? (i := 35) (by decide +kernel)
theorem d_M_front_0 : decode c_M_front 0 = .ok (.iload_n 1, 1) := by decide +kernel
theorem d_M_front_1 : decode c_M_front 1 = .ok (.istore_n 3, 1) := by decide +kernel
theorem d_M_front_2 : decode c_M_front 2 = .ok (.iload_n 2, 1) := by decide +kernel
theorem d_M_front_3 : decode c_M_front 3 = .ok (.istore 4, 2) := by decide +kernel
theorem d_M_front_5 : decode c_M_front 5 = .ok (.iconst 1, 1) := by decide +kernel
theorem d_M_front_6 : decode c_M_front 6 = .ok (.istore 5, 2) := by decide +kernel
theorem d_M_front_8 : decode c_M_front 8 = .ok (.iload 5, 2) := by decide +kernel
theorem d_M_front_10 : decode c_M_front 10 = .ok (.ifCond .eq 181, 3) := by decide +kernel
theorem d_M_front_13 : decode c_M_front 13 = .ok (.aload_n 0, 1) := by decide +kernel
theorem d_M_front_14 : decode c_M_front 14 = .ok (.iload_n 3, 1) := by decide +kernel
theorem d_M_front_15 : decode c_M_front 15 = .ok (.iload 4, 2) := by decide +kernel
theorem d_M_front_17 : decode c_M_front 17 = .ok (.invokevirtual 60, 3) := by decide +kernel
theorem d_M_front_20 : decode c_M_front 20 = .ok (.istore 6, 2) := by decide +kernel
theorem d_M_front_22 : decode c_M_front 22 = .ok (.iconst 0, 1) := by decide +kernel
theorem d_M_front_23 : decode c_M_front 23 = .ok (.istore 5, 2) := by decide +kernel
theorem d_M_front_25 : decode c_M_front 25 = .ok (.iload 6, 2) := by decide +kernel
theorem d_M_front_27 : decode c_M_front 27 = .ok (.aload_n 0, 1) := by decide +kernel
theorem d_M_front_28 : decode c_M_front 28 = .ok (.getfield 37, 3) := by decide +kernel
theorem d_M_front_31 : decode c_M_front 31 = .ok (.if_icmp .ge 18, 3) := by decide +kernel
theorem d_M_front_34 : decode c_M_front 34 = .ok (.aload_n 0, 1) := by decide +kernel
theorem d_M_front_35 : decode c_M_front 35 = .ok (.getfield 34, 3) := by decide +kernel
theorem d_M_front_38 : decode c_M_front 38 = .ok (.iload 6, 2) := by decide +kernel
theorem d_M_front_40 : decode c_M_front 40 = .ok (.laload, 1) := by decide +kernel
theorem d_M_front_41 : decode c_M_front 41 = .ok (.invokestatic 40, 3) := by decide +kernel
theorem d_M_front_44 : decode c_M_front 44 = .ok (.iload 4, 2) := by decide +kernel
theorem d_M_front_46 : decode c_M_front 46 = .ok (.if_icmp .ge 16, 3) := by decide +kernel
theorem d_M_front_49 : decode c_M_front 49 = .ok (.aload_n 0, 1) := by decide +kernel
theorem d_M_front_50 : decode c_M_front 50 = .ok (.iload_n 3, 1) := by decide +kernel
theorem d_M_front_51 : decode c_M_front 51 = .ok (.iload 6, 2) := by decide +kernel
theorem d_M_front_53 : decode c_M_front 53 = .ok (.iload 4, 2) := by decide +kernel
theorem d_M_front_55 : decode c_M_front 55 = .ok (.iconst 2, 1) := by decide +kernel
theorem d_M_front_56 : decode c_M_front 56 = .ok (.invokevirtual 56, 3) := by decide +kernel
theorem d_M_front_59 : decode c_M_front 59 = .ok (.goto 129, 3) := by decide +kernel
theorem d_M_front_62 : decode c_M_front 62 = .ok (.aload_n 0, 1) := by decide +kernel
theorem d_M_front_63 : decode c_M_front 63 = .ok (.getfield 34, 3) := by decide +kernel
theorem d_M_front_66 : decode c_M_front 66 = .ok (.iload 6, 2) := by decide +kernel
theorem d_M_front_68 : decode c_M_front 68 = .ok (.laload, 1) := by decide +kernel
theorem d_M_front_69 : decode c_M_front 69 = .ok (.invokestatic 44, 3) := by decide +kernel
theorem d_M_front_72 : decode c_M_front 72 = .ok (.iconst 2, 1) := by decide +kernel
theorem d_M_front_73 : decode c_M_front 73 = .ok (.if_icmp .ne 33, 3) := by decide +kernel
theorem d_M_front_76 : decode c_M_front 76 = .ok (.aload_n 0, 1) := by decide +kernel
theorem d_M_front_77 : decode c_M_front 77 = .ok (.iload_n 3, 1) := by decide +kernel
theorem d_M_front_78 : decode c_M_front 78 = .ok (.iload 6, 2) := by decide +kernel
theorem d_M_front_80 : decode c_M_front 80 = .ok (.iload 4, 2) := by decide +kernel
theorem d_M_front_82 : decode c_M_front 82 = .ok (.iconst 0, 1) := by decide +kernel
theorem d_M_front_83 : decode c_M_front 83 = .ok (.invokevirtual 56, 3) := by decide +kernel
theorem d_M_front_86 : decode c_M_front 86 = .ok (.aload_n 0, 1) := by decide +kernel
theorem d_M_front_87 : decode c_M_front 87 = .ok (.iload 6, 2) := by decide +kernel
theorem d_M_front_89 : decode c_M_front 89 = .ok (.aload_n 0, 1) := by decide +kernel
theorem d_M_front_90 : decode c_M_front 90 = .ok (.iload 6, 2) := by decide +kernel
theorem d_M_front_92 : decode c_M_front 92 = .ok (.iload 4, 2) := by decide +kernel
theorem d_M_front_94 : decode c_M_front 94 = .ok (.invokevirtual 60, 3) := by decide +kernel
theorem d_M_front_97 : decode c_M_front 97 = .ok (.iload 4, 2) := by decide +kernel
theorem d_M_front_99 : decode c_M_front 99 = .ok (.iconst 1, 1) := by decide +kernel
theorem d_M_front_100 : decode c_M_front 100 = .ok (.invokevirtual 56, 3) := by decide +kernel
theorem d_M_front_103 : decode c_M_front 103 = .ok (.goto 85, 3) := by decide +kernel
theorem d_M_front_106 : decode c_M_front 106 = .ok (.aload_n 0, 1) := by decide +kernel
theorem d_M_front_107 : decode c_M_front 107 = .ok (.iload_n 3, 1) := by decide +kernel
theorem d_M_front_108 : decode c_M_front 108 = .ok (.iload 6, 2) := by decide +kernel
theorem d_M_front_110 : decode c_M_front 110 = .ok (.iload 4, 2) := by decide +kernel
theorem d_M_front_112 : decode c_M_front 112 = .ok (.iconst 0, 1) := by decide +kernel
theorem d_M_front_113 : decode c_M_front 113 = .ok (.invokevirtual 56, 3) := by decide +kernel
theorem d_M_front_116 : decode c_M_front 116 = .ok (.aload_n 0, 1) := by decide +kernel
theorem d_M_front_117 : decode c_M_front 117 = .ok (.iload 6, 2) := by decide +kernel
theorem d_M_front_119 : decode c_M_front 119 = .ok (.iload 4, 2) := by decide +kernel
theorem d_M_front_121 : decode c_M_front 121 = .ok (.invokevirtual 60, 3) := by decide +kernel
theorem d_M_front_124 : decode c_M_front 124 = .ok (.istore 7, 2) := by decide +kernel
theorem d_M_front_126 : decode c_M_front 126 = .ok (.iload 7, 2) := by decide +kernel
theorem d_M_front_128 : decode c_M_front 128 = .ok (.istore 8, 2) := by decide +kernel
theorem d_M_front_130 : decode c_M_front 130 = .ok (.iconst 1, 1) := by decide +kernel
theorem d_M_front_131 : decode c_M_front 131 = .ok (.istore 9, 2) := by decide +kernel
theorem d_M_front_133 : decode c_M_front 133 = .ok (.aload_n 0, 1) := by decide +kernel
theorem d_M_front_134 : decode c_M_front 134 = .ok (.iload 8, 2) := by decide +kernel
theorem d_M_front_136 : decode c_M_front 136 = .ok (.iload 4, 2) := by decide +kernel
theorem d_M_front_138 : decode c_M_front 138 = .ok (.iconst 0, 1) := by decide +kernel
theorem d_M_front_139 : decode c_M_front 139 = .ok (.invokevirtual 64, 3) := by decide +kernel
theorem d_M_front_142 : decode c_M_front 142 = .ok (.ifCond .eq 19, 3) := by decide +kernel
theorem d_M_front_145 : decode c_M_front 145 = .ok (.aload_n 0, 1) := by decide +kernel
theorem d_M_front_146 : decode c_M_front 146 = .ok (.iload 8, 2) := by decide +kernel
theorem d_M_front_148 : decode c_M_front 148 = .ok (.iload 4, 2) := by decide +kernel
theorem d_M_front_150 : decode c_M_front 150 = .ok (.invokevirtual 60, 3) := by decide +kernel
theorem d_M_front_153 : decode c_M_front 153 = .ok (.istore 8, 2) := by decide +kernel
theorem d_M_front_155 : decode c_M_front 155 = .ok (.iinc 9 1, 3) := by decide +kernel
theorem d_M_front_158 : decode c_M_front 158 = .ok (.goto (-25), 3) := by decide +kernel
theorem d_M_front_161 : decode c_M_front 161 = .ok (.iload 9, 2) := by decide +kernel
theorem d_M_front_163 : decode c_M_front 163 = .ok (.iconst 4, 1) := by decide +kernel
theorem d_M_front_164 : decode c_M_front 164 = .ok (.if_icmp .ne 24, 3) := by decide +kernel
theorem d_M_front_167 : decode c_M_front 167 = .ok (.aload_n 0, 1) := by decide +kernel
theorem d_M_front_168 : decode c_M_front 168 = .ok (.iload 7, 2) := by decide +kernel
theorem d_M_front_170 : decode c_M_front 170 = .ok (.iload 8, 2) := by decide +kernel
theorem d_M_front_172 : decode c_M_front 172 = .ok (.iload 4, 2) := by decide +kernel
theorem d_M_front_174 : decode c_M_front 174 = .ok (.iconst 1, 1) := by decide +kernel
theorem d_M_front_175 : decode c_M_front 175 = .ok (.iadd, 1) := by decide +kernel
theorem d_M_front_176 : decode c_M_front 176 = .ok (.invokevirtual 68, 3) := by decide +kernel
theorem d_M_front_179 : decode c_M_front 179 = .ok (.iload 7, 2) := by decide +kernel
theorem d_M_front_181 : decode c_M_front 181 = .ok (.istore_n 3, 1) := by decide +kernel
theorem d_M_front_182 : decode c_M_front 182 = .ok (.iinc 4 1, 3) := by decide +kernel
theorem d_M_front_185 : decode c_M_front 185 = .ok (.iconst 1, 1) := by decide +kernel
theorem d_M_front_186 : decode c_M_front 186 = .ok (.istore 5, 2) := by decide +kernel
theorem d_M_front_188 : decode c_M_front 188 = .ok (.goto (-180), 3) := by decide +kernel
theorem d_M_front_191 : decode c_M_front 191 = .ok (.return_, 1) := by decide +kernel
abbrev c_M_back : ByteArray := prog_10_method_13_code
abbrev y_M_back : MethodName := ⟨"FingerSpansModel", "back", "(II)V"⟩
theorem k_M_back : Cond.code y_M_back c_M_back 10 (none : Option FieldType) ∈ lw_tbl := List.mem_of_getElem? (i := 622) (by decide +kernel)
theorem b_M_back : x_ce y_M_back c_M_back 10 (none : Option FieldType) 2 := ⟨k_M_back, i_M, by decide +kernel⟩
theorem s_M_back : Cond.instanceMethod y_M_back ∈ lw_tbl := List.mem_of_getElem? (i := 621) (by decide +kernel)
theorem v_M_back : Cond.selects "FingerSpansModel" y_M_back y_M_back ∈ lw_tbl := List.mem_of_getElem? (i := 41) (by decide +kernel)
theorem d_M_back_0 : decode c_M_back 0 = .ok (.iload_n 1, 1) := by decide +kernel
theorem d_M_back_1 : decode c_M_back 1 = .ok (.istore_n 3, 1) := by decide +kernel
theorem d_M_back_2 : decode c_M_back 2 = .ok (.iload_n 2, 1) := by decide +kernel
theorem d_M_back_3 : decode c_M_back 3 = .ok (.istore 4, 2) := by decide +kernel
theorem d_M_back_5 : decode c_M_back 5 = .ok (.iconst 1, 1) := by decide +kernel
theorem d_M_back_6 : decode c_M_back 6 = .ok (.istore 5, 2) := by decide +kernel
theorem d_M_back_8 : decode c_M_back 8 = .ok (.iload 5, 2) := by decide +kernel
theorem d_M_back_10 : decode c_M_back 10 = .ok (.ifCond .eq 183, 3) := by decide +kernel
theorem d_M_back_13 : decode c_M_back 13 = .ok (.aload_n 0, 1) := by decide +kernel
theorem d_M_back_14 : decode c_M_back 14 = .ok (.iload_n 3, 1) := by decide +kernel
theorem d_M_back_15 : decode c_M_back 15 = .ok (.iload 4, 2) := by decide +kernel
theorem d_M_back_17 : decode c_M_back 17 = .ok (.invokevirtual 72, 3) := by decide +kernel
theorem d_M_back_20 : decode c_M_back 20 = .ok (.istore 6, 2) := by decide +kernel
theorem d_M_back_22 : decode c_M_back 22 = .ok (.iconst 0, 1) := by decide +kernel
theorem d_M_back_23 : decode c_M_back 23 = .ok (.istore 5, 2) := by decide +kernel
theorem d_M_back_25 : decode c_M_back 25 = .ok (.iload 6, 2) := by decide +kernel
theorem d_M_back_27 : decode c_M_back 27 = .ok (.ifCond .le 20, 3) := by decide +kernel
theorem d_M_back_30 : decode c_M_back 30 = .ok (.aload_n 0, 1) := by decide +kernel
theorem d_M_back_31 : decode c_M_back 31 = .ok (.getfield 34, 3) := by decide +kernel
theorem d_M_back_34 : decode c_M_back 34 = .ok (.iload 6, 2) := by decide +kernel
theorem d_M_back_36 : decode c_M_back 36 = .ok (.iconst 1, 1) := by decide +kernel
theorem d_M_back_37 : decode c_M_back 37 = .ok (.isub, 1) := by decide +kernel
theorem d_M_back_38 : decode c_M_back 38 = .ok (.laload, 1) := by decide +kernel
theorem d_M_back_39 : decode c_M_back 39 = .ok (.invokestatic 40, 3) := by decide +kernel
theorem d_M_back_42 : decode c_M_back 42 = .ok (.iload 4, 2) := by decide +kernel
theorem d_M_back_44 : decode c_M_back 44 = .ok (.if_icmp .ge 16, 3) := by decide +kernel
theorem d_M_back_47 : decode c_M_back 47 = .ok (.aload_n 0, 1) := by decide +kernel
theorem d_M_back_48 : decode c_M_back 48 = .ok (.iload 6, 2) := by decide +kernel
theorem d_M_back_50 : decode c_M_back 50 = .ok (.iload_n 3, 1) := by decide +kernel
theorem d_M_back_51 : decode c_M_back 51 = .ok (.iload 4, 2) := by decide +kernel
theorem d_M_back_53 : decode c_M_back 53 = .ok (.iconst 2, 1) := by decide +kernel
theorem d_M_back_54 : decode c_M_back 54 = .ok (.invokevirtual 56, 3) := by decide +kernel
theorem d_M_back_57 : decode c_M_back 57 = .ok (.goto 133, 3) := by decide +kernel
theorem d_M_back_60 : decode c_M_back 60 = .ok (.aload_n 0, 1) := by decide +kernel
theorem d_M_back_61 : decode c_M_back 61 = .ok (.getfield 34, 3) := by decide +kernel
theorem d_M_back_64 : decode c_M_back 64 = .ok (.iload 6, 2) := by decide +kernel
theorem d_M_back_66 : decode c_M_back 66 = .ok (.iconst 1, 1) := by decide +kernel
theorem d_M_back_67 : decode c_M_back 67 = .ok (.isub, 1) := by decide +kernel
theorem d_M_back_68 : decode c_M_back 68 = .ok (.laload, 1) := by decide +kernel
theorem d_M_back_69 : decode c_M_back 69 = .ok (.invokestatic 44, 3) := by decide +kernel
theorem d_M_back_72 : decode c_M_back 72 = .ok (.iconst 2, 1) := by decide +kernel
theorem d_M_back_73 : decode c_M_back 73 = .ok (.if_icmp .ne 33, 3) := by decide +kernel
theorem d_M_back_76 : decode c_M_back 76 = .ok (.aload_n 0, 1) := by decide +kernel
theorem d_M_back_77 : decode c_M_back 77 = .ok (.aload_n 0, 1) := by decide +kernel
theorem d_M_back_78 : decode c_M_back 78 = .ok (.iload 6, 2) := by decide +kernel
theorem d_M_back_80 : decode c_M_back 80 = .ok (.iload 4, 2) := by decide +kernel
theorem d_M_back_82 : decode c_M_back 82 = .ok (.invokevirtual 72, 3) := by decide +kernel
theorem d_M_back_85 : decode c_M_back 85 = .ok (.iload 6, 2) := by decide +kernel
theorem d_M_back_87 : decode c_M_back 87 = .ok (.iload 4, 2) := by decide +kernel
theorem d_M_back_89 : decode c_M_back 89 = .ok (.iconst 0, 1) := by decide +kernel
theorem d_M_back_90 : decode c_M_back 90 = .ok (.invokevirtual 56, 3) := by decide +kernel
theorem d_M_back_93 : decode c_M_back 93 = .ok (.aload_n 0, 1) := by decide +kernel
theorem d_M_back_94 : decode c_M_back 94 = .ok (.iload 6, 2) := by decide +kernel
theorem d_M_back_96 : decode c_M_back 96 = .ok (.iload_n 3, 1) := by decide +kernel
theorem d_M_back_97 : decode c_M_back 97 = .ok (.iload 4, 2) := by decide +kernel
theorem d_M_back_99 : decode c_M_back 99 = .ok (.iconst 1, 1) := by decide +kernel
theorem d_M_back_100 : decode c_M_back 100 = .ok (.invokevirtual 56, 3) := by decide +kernel
theorem d_M_back_103 : decode c_M_back 103 = .ok (.goto 87, 3) := by decide +kernel
theorem d_M_back_106 : decode c_M_back 106 = .ok (.aload_n 0, 1) := by decide +kernel
theorem d_M_back_107 : decode c_M_back 107 = .ok (.iload 6, 2) := by decide +kernel
theorem d_M_back_109 : decode c_M_back 109 = .ok (.iload_n 3, 1) := by decide +kernel
theorem d_M_back_110 : decode c_M_back 110 = .ok (.iload 4, 2) := by decide +kernel
theorem d_M_back_112 : decode c_M_back 112 = .ok (.iconst 1, 1) := by decide +kernel
theorem d_M_back_113 : decode c_M_back 113 = .ok (.invokevirtual 56, 3) := by decide +kernel
theorem d_M_back_116 : decode c_M_back 116 = .ok (.aload_n 0, 1) := by decide +kernel
theorem d_M_back_117 : decode c_M_back 117 = .ok (.iload 6, 2) := by decide +kernel
theorem d_M_back_119 : decode c_M_back 119 = .ok (.iload 4, 2) := by decide +kernel
theorem d_M_back_121 : decode c_M_back 121 = .ok (.invokevirtual 72, 3) := by decide +kernel
theorem d_M_back_124 : decode c_M_back 124 = .ok (.istore 7, 2) := by decide +kernel
theorem d_M_back_126 : decode c_M_back 126 = .ok (.iload 7, 2) := by decide +kernel
theorem d_M_back_128 : decode c_M_back 128 = .ok (.istore 8, 2) := by decide +kernel
theorem d_M_back_130 : decode c_M_back 130 = .ok (.iconst 1, 1) := by decide +kernel
theorem d_M_back_131 : decode c_M_back 131 = .ok (.istore 9, 2) := by decide +kernel
theorem d_M_back_133 : decode c_M_back 133 = .ok (.aload_n 0, 1) := by decide +kernel
theorem d_M_back_134 : decode c_M_back 134 = .ok (.iload 8, 2) := by decide +kernel
theorem d_M_back_136 : decode c_M_back 136 = .ok (.iconst 1, 1) := by decide +kernel
theorem d_M_back_137 : decode c_M_back 137 = .ok (.isub, 1) := by decide +kernel
theorem d_M_back_138 : decode c_M_back 138 = .ok (.iload 4, 2) := by decide +kernel
theorem d_M_back_140 : decode c_M_back 140 = .ok (.iconst 1, 1) := by decide +kernel
theorem d_M_back_141 : decode c_M_back 141 = .ok (.invokevirtual 64, 3) := by decide +kernel
theorem d_M_back_144 : decode c_M_back 144 = .ok (.ifCond .eq 19, 3) := by decide +kernel
theorem d_M_back_147 : decode c_M_back 147 = .ok (.aload_n 0, 1) := by decide +kernel
theorem d_M_back_148 : decode c_M_back 148 = .ok (.iload 8, 2) := by decide +kernel
theorem d_M_back_150 : decode c_M_back 150 = .ok (.iload 4, 2) := by decide +kernel
theorem d_M_back_152 : decode c_M_back 152 = .ok (.invokevirtual 72, 3) := by decide +kernel
theorem d_M_back_155 : decode c_M_back 155 = .ok (.istore 8, 2) := by decide +kernel
theorem d_M_back_157 : decode c_M_back 157 = .ok (.iinc 9 1, 3) := by decide +kernel
theorem d_M_back_160 : decode c_M_back 160 = .ok (.goto (-27), 3) := by decide +kernel
theorem d_M_back_163 : decode c_M_back 163 = .ok (.iload 9, 2) := by decide +kernel
theorem d_M_back_165 : decode c_M_back 165 = .ok (.iconst 4, 1) := by decide +kernel
theorem d_M_back_166 : decode c_M_back 166 = .ok (.if_icmp .ne 24, 3) := by decide +kernel
theorem d_M_back_169 : decode c_M_back 169 = .ok (.aload_n 0, 1) := by decide +kernel
theorem d_M_back_170 : decode c_M_back 170 = .ok (.iload 8, 2) := by decide +kernel
theorem d_M_back_172 : decode c_M_back 172 = .ok (.iload 7, 2) := by decide +kernel
theorem d_M_back_174 : decode c_M_back 174 = .ok (.iload 4, 2) := by decide +kernel
theorem d_M_back_176 : decode c_M_back 176 = .ok (.iconst 1, 1) := by decide +kernel
theorem d_M_back_177 : decode c_M_back 177 = .ok (.iadd, 1) := by decide +kernel
theorem d_M_back_178 : decode c_M_back 178 = .ok (.invokevirtual 68, 3) := by decide +kernel
theorem d_M_back_181 : decode c_M_back 181 = .ok (.iload 7, 2) := by decide +kernel
theorem d_M_back_183 : decode c_M_back 183 = .ok (.istore_n 3, 1) := by decide +kernel
theorem d_M_back_184 : decode c_M_back 184 = .ok (.iinc 4 1, 3) := by decide +kernel
theorem d_M_back_187 : decode c_M_back 187 = .ok (.iconst 1, 1) := by decide +kernel
theorem d_M_back_188 : decode c_M_back 188 = .ok (.istore 5, 2) := by decide +kernel
theorem d_M_back_190 : decode c_M_back 190 = .ok (.goto (-182), 3) := by decide +kernel
theorem d_M_back_193 : decode c_M_back 193 = .ok (.return_, 1) := by decide +kernel
abbrev c_M_closeLeft : ByteArray := prog_10_method_14_code
abbrev y_M_closeLeft : MethodName := ⟨"FingerSpansModel", "closeLeft", "(II)V"⟩
theorem k_M_closeLeft : Cond.code y_M_closeLeft c_M_closeLeft 7 (none : Option FieldType) ∈ lw_tbl := List.mem_of_getElem? (i := 638) (by decide +kernel)
theorem b_M_closeLeft : x_ce y_M_closeLeft c_M_closeLeft 7 (none : Option FieldType) 2 := ⟨k_M_closeLeft, i_M, by decide +kernel⟩
theorem s_M_closeLeft : Cond.instanceMethod y_M_closeLeft ∈ lw_tbl := List.mem_of_getElem? (i := 637) (by decide +kernel)
theorem v_M_closeLeft : Cond.selects "FingerSpansModel" y_M_closeLeft y_M_closeLeft ∈ lw_tbl := List.mem_of_getElem? (i := 44) (by decide +kernel)
theorem d_M_closeLeft_0 : decode c_M_closeLeft 0 = .ok (.iload_n 1, 1) := by decide +kernel
theorem d_M_closeLeft_1 : decode c_M_closeLeft 1 = .ok (.istore_n 3, 1) := by decide +kernel
theorem d_M_closeLeft_2 : decode c_M_closeLeft 2 = .ok (.iload_n 2, 1) := by decide +kernel
theorem d_M_closeLeft_3 : decode c_M_closeLeft 3 = .ok (.istore 4, 2) := by decide +kernel
theorem d_M_closeLeft_5 : decode c_M_closeLeft 5 = .ok (.aload_n 0, 1) := by decide +kernel
theorem d_M_closeLeft_6 : decode c_M_closeLeft 6 = .ok (.iload_n 3, 1) := by decide +kernel
theorem d_M_closeLeft_7 : decode c_M_closeLeft 7 = .ok (.iload 4, 2) := by decide +kernel
theorem d_M_closeLeft_9 : decode c_M_closeLeft 9 = .ok (.iconst 0, 1) := by decide +kernel
theorem d_M_closeLeft_10 : decode c_M_closeLeft 10 = .ok (.invokevirtual 64, 3) := by decide +kernel
theorem d_M_closeLeft_13 : decode c_M_closeLeft 13 = .ok (.ifCond .ne 112, 3) := by decide +kernel
theorem d_M_closeLeft_16 : decode c_M_closeLeft 16 = .ok (.iload_n 3, 1) := by decide +kernel
theorem d_M_closeLeft_17 : decode c_M_closeLeft 17 = .ok (.aload_n 0, 1) := by decide +kernel
theorem d_M_closeLeft_18 : decode c_M_closeLeft 18 = .ok (.getfield 37, 3) := by decide +kernel
theorem d_M_closeLeft_21 : decode c_M_closeLeft 21 = .ok (.if_icmp .ge 17, 3) := by decide +kernel
theorem d_M_closeLeft_24 : decode c_M_closeLeft 24 = .ok (.aload_n 0, 1) := by decide +kernel
theorem d_M_closeLeft_25 : decode c_M_closeLeft 25 = .ok (.getfield 34, 3) := by decide +kernel
theorem d_M_closeLeft_28 : decode c_M_closeLeft 28 = .ok (.iload_n 3, 1) := by decide +kernel
theorem d_M_closeLeft_29 : decode c_M_closeLeft 29 = .ok (.laload, 1) := by decide +kernel
theorem d_M_closeLeft_30 : decode c_M_closeLeft 30 = .ok (.invokestatic 40, 3) := by decide +kernel
theorem d_M_closeLeft_33 : decode c_M_closeLeft 33 = .ok (.iload 4, 2) := by decide +kernel
theorem d_M_closeLeft_35 : decode c_M_closeLeft 35 = .ok (.if_icmp .gt 34, 3) := by decide +kernel
theorem d_M_closeLeft_38 : decode c_M_closeLeft 38 = .ok (.iload_n 3, 1) := by decide +kernel
theorem d_M_closeLeft_39 : decode c_M_closeLeft 39 = .ok (.istore 5, 2) := by decide +kernel
theorem d_M_closeLeft_41 : decode c_M_closeLeft 41 = .ok (.aload_n 0, 1) := by decide +kernel
theorem d_M_closeLeft_42 : decode c_M_closeLeft 42 = .ok (.iload 5, 2) := by decide +kernel
theorem d_M_closeLeft_44 : decode c_M_closeLeft 44 = .ok (.iload 4, 2) := by decide +kernel
theorem d_M_closeLeft_46 : decode c_M_closeLeft 46 = .ok (.iconst 1, 1) := by decide +kernel
theorem d_M_closeLeft_47 : decode c_M_closeLeft 47 = .ok (.invokevirtual 64, 3) := by decide +kernel
theorem d_M_closeLeft_50 : decode c_M_closeLeft 50 = .ok (.ifCond .eq 9, 3) := by decide +kernel
theorem d_M_closeLeft_53 : decode c_M_closeLeft 53 = .ok (.iinc 5 1, 3) := by decide +kernel
theorem d_M_closeLeft_56 : decode c_M_closeLeft 56 = .ok (.goto (-15), 3) := by decide +kernel
theorem d_M_closeLeft_59 : decode c_M_closeLeft 59 = .ok (.aload_n 0, 1) := by decide +kernel
theorem d_M_closeLeft_60 : decode c_M_closeLeft 60 = .ok (.iload_n 3, 1) := by decide +kernel
theorem d_M_closeLeft_61 : decode c_M_closeLeft 61 = .ok (.iload 5, 2) := by decide +kernel
theorem d_M_closeLeft_63 : decode c_M_closeLeft 63 = .ok (.iload 4, 2) := by decide +kernel
theorem d_M_closeLeft_65 : decode c_M_closeLeft 65 = .ok (.invokevirtual 75, 3) := by decide +kernel
theorem d_M_closeLeft_68 : decode c_M_closeLeft 68 = .ok (.return_, 1) := by decide +kernel
theorem d_M_closeLeft_69 : decode c_M_closeLeft 69 = .ok (.aload_n 0, 1) := by decide +kernel
theorem d_M_closeLeft_70 : decode c_M_closeLeft 70 = .ok (.getfield 34, 3) := by decide +kernel
theorem d_M_closeLeft_73 : decode c_M_closeLeft 73 = .ok (.iload_n 3, 1) := by decide +kernel
theorem d_M_closeLeft_74 : decode c_M_closeLeft 74 = .ok (.laload, 1) := by decide +kernel
theorem d_M_closeLeft_75 : decode c_M_closeLeft 75 = .ok (.invokestatic 44, 3) := by decide +kernel
theorem d_M_closeLeft_78 : decode c_M_closeLeft 78 = .ok (.iconst 2, 1) := by decide +kernel
theorem d_M_closeLeft_79 : decode c_M_closeLeft 79 = .ok (.if_icmp .ne 7, 3) := by decide +kernel
theorem d_M_closeLeft_82 : decode c_M_closeLeft 82 = .ok (.iconst 1, 1) := by decide +kernel
theorem d_M_closeLeft_83 : decode c_M_closeLeft 83 = .ok (.goto 4, 3) := by decide +kernel
theorem d_M_closeLeft_86 : decode c_M_closeLeft 86 = .ok (.iconst 0, 1) := by decide +kernel
theorem d_M_closeLeft_87 : decode c_M_closeLeft 87 = .ok (.istore 5, 2) := by decide +kernel
theorem d_M_closeLeft_89 : decode c_M_closeLeft 89 = .ok (.aload_n 0, 1) := by decide +kernel
theorem d_M_closeLeft_90 : decode c_M_closeLeft 90 = .ok (.iload_n 3, 1) := by decide +kernel
theorem d_M_closeLeft_91 : decode c_M_closeLeft 91 = .ok (.iload 4, 2) := by decide +kernel
theorem d_M_closeLeft_93 : decode c_M_closeLeft 93 = .ok (.iconst 1, 1) := by decide +kernel
theorem d_M_closeLeft_94 : decode c_M_closeLeft 94 = .ok (.iadd, 1) := by decide +kernel
theorem d_M_closeLeft_95 : decode c_M_closeLeft 95 = .ok (.invokevirtual 60, 3) := by decide +kernel
theorem d_M_closeLeft_98 : decode c_M_closeLeft 98 = .ok (.istore 6, 2) := by decide +kernel
theorem d_M_closeLeft_100 : decode c_M_closeLeft 100 = .ok (.aload_n 0, 1) := by decide +kernel
theorem d_M_closeLeft_101 : decode c_M_closeLeft 101 = .ok (.iload_n 3, 1) := by decide +kernel
theorem d_M_closeLeft_102 : decode c_M_closeLeft 102 = .ok (.iload 6, 2) := by decide +kernel
theorem d_M_closeLeft_104 : decode c_M_closeLeft 104 = .ok (.iload 4, 2) := by decide +kernel
theorem d_M_closeLeft_106 : decode c_M_closeLeft 106 = .ok (.iconst 0, 1) := by decide +kernel
theorem d_M_closeLeft_107 : decode c_M_closeLeft 107 = .ok (.invokevirtual 56, 3) := by decide +kernel
theorem d_M_closeLeft_110 : decode c_M_closeLeft 110 = .ok (.iload 5, 2) := by decide +kernel
theorem d_M_closeLeft_112 : decode c_M_closeLeft 112 = .ok (.ifCond .eq 4, 3) := by decide +kernel
theorem d_M_closeLeft_115 : decode c_M_closeLeft 115 = .ok (.return_, 1) := by decide +kernel
theorem d_M_closeLeft_116 : decode c_M_closeLeft 116 = .ok (.iload 6, 2) := by decide +kernel
theorem d_M_closeLeft_118 : decode c_M_closeLeft 118 = .ok (.istore_n 3, 1) := by decide +kernel
theorem d_M_closeLeft_119 : decode c_M_closeLeft 119 = .ok (.iinc 4 1, 3) := by decide +kernel
theorem d_M_closeLeft_122 : decode c_M_closeLeft 122 = .ok (.goto (-117), 3) := by decide +kernel
theorem d_M_closeLeft_125 : decode c_M_closeLeft 125 = .ok (.return_, 1) := by decide +kernel
abbrev c_M_closeRight : ByteArray := prog_10_method_15_code
abbrev y_M_closeRight : MethodName := ⟨"FingerSpansModel", "closeRight", "(II)V"⟩
theorem k_M_closeRight : Cond.code y_M_closeRight c_M_closeRight 7 (none : Option FieldType) ∈ lw_tbl := List.mem_of_getElem? (i := 650) (by decide +kernel)
theorem b_M_closeRight : x_ce y_M_closeRight c_M_closeRight 7 (none : Option FieldType) 2 := ⟨k_M_closeRight, i_M, by decide +kernel⟩
theorem s_M_closeRight : Cond.instanceMethod y_M_closeRight ∈ lw_tbl := List.mem_of_getElem? (i := 649) (by decide +kernel)
theorem v_M_closeRight : Cond.selects "FingerSpansModel" y_M_closeRight y_M_closeRight ∈ lw_tbl := List.mem_of_getElem? (i := 46) (by decide +kernel)
theorem d_M_closeRight_0 : decode c_M_closeRight 0 = .ok (.iload_n 1, 1) := by decide +kernel
theorem d_M_closeRight_1 : decode c_M_closeRight 1 = .ok (.istore_n 3, 1) := by decide +kernel
theorem d_M_closeRight_2 : decode c_M_closeRight 2 = .ok (.iload_n 2, 1) := by decide +kernel
theorem d_M_closeRight_3 : decode c_M_closeRight 3 = .ok (.istore 4, 2) := by decide +kernel
theorem d_M_closeRight_5 : decode c_M_closeRight 5 = .ok (.aload_n 0, 1) := by decide +kernel
theorem d_M_closeRight_6 : decode c_M_closeRight 6 = .ok (.iload_n 3, 1) := by decide +kernel
theorem d_M_closeRight_7 : decode c_M_closeRight 7 = .ok (.iconst 1, 1) := by decide +kernel
theorem d_M_closeRight_8 : decode c_M_closeRight 8 = .ok (.isub, 1) := by decide +kernel
theorem d_M_closeRight_9 : decode c_M_closeRight 9 = .ok (.iload 4, 2) := by decide +kernel
theorem d_M_closeRight_11 : decode c_M_closeRight 11 = .ok (.iconst 1, 1) := by decide +kernel
theorem d_M_closeRight_12 : decode c_M_closeRight 12 = .ok (.invokevirtual 64, 3) := by decide +kernel
theorem d_M_closeRight_15 : decode c_M_closeRight 15 = .ok (.ifCond .ne 114, 3) := by decide +kernel
theorem d_M_closeRight_18 : decode c_M_closeRight 18 = .ok (.iload_n 3, 1) := by decide +kernel
theorem d_M_closeRight_19 : decode c_M_closeRight 19 = .ok (.ifCond .le 19, 3) := by decide +kernel
theorem d_M_closeRight_22 : decode c_M_closeRight 22 = .ok (.aload_n 0, 1) := by decide +kernel
theorem d_M_closeRight_23 : decode c_M_closeRight 23 = .ok (.getfield 34, 3) := by decide +kernel
theorem d_M_closeRight_26 : decode c_M_closeRight 26 = .ok (.iload_n 3, 1) := by decide +kernel
theorem d_M_closeRight_27 : decode c_M_closeRight 27 = .ok (.iconst 1, 1) := by decide +kernel
theorem d_M_closeRight_28 : decode c_M_closeRight 28 = .ok (.isub, 1) := by decide +kernel
theorem d_M_closeRight_29 : decode c_M_closeRight 29 = .ok (.laload, 1) := by decide +kernel
theorem d_M_closeRight_30 : decode c_M_closeRight 30 = .ok (.invokestatic 40, 3) := by decide +kernel
theorem d_M_closeRight_33 : decode c_M_closeRight 33 = .ok (.iload 4, 2) := by decide +kernel
theorem d_M_closeRight_35 : decode c_M_closeRight 35 = .ok (.if_icmp .gt 36, 3) := by decide +kernel
theorem d_M_closeRight_38 : decode c_M_closeRight 38 = .ok (.iload_n 3, 1) := by decide +kernel
theorem d_M_closeRight_39 : decode c_M_closeRight 39 = .ok (.istore 5, 2) := by decide +kernel
theorem d_M_closeRight_41 : decode c_M_closeRight 41 = .ok (.aload_n 0, 1) := by decide +kernel
theorem d_M_closeRight_42 : decode c_M_closeRight 42 = .ok (.iload 5, 2) := by decide +kernel
theorem d_M_closeRight_44 : decode c_M_closeRight 44 = .ok (.iconst 1, 1) := by decide +kernel
theorem d_M_closeRight_45 : decode c_M_closeRight 45 = .ok (.isub, 1) := by decide +kernel
theorem d_M_closeRight_46 : decode c_M_closeRight 46 = .ok (.iload 4, 2) := by decide +kernel
theorem d_M_closeRight_48 : decode c_M_closeRight 48 = .ok (.iconst 0, 1) := by decide +kernel
theorem d_M_closeRight_49 : decode c_M_closeRight 49 = .ok (.invokevirtual 64, 3) := by decide +kernel
theorem d_M_closeRight_52 : decode c_M_closeRight 52 = .ok (.ifCond .eq 9, 3) := by decide +kernel
theorem d_M_closeRight_55 : decode c_M_closeRight 55 = .ok (.iinc 5 (-1), 3) := by decide +kernel
theorem d_M_closeRight_58 : decode c_M_closeRight 58 = .ok (.goto (-17), 3) := by decide +kernel
theorem d_M_closeRight_61 : decode c_M_closeRight 61 = .ok (.aload_n 0, 1) := by decide +kernel
theorem d_M_closeRight_62 : decode c_M_closeRight 62 = .ok (.iload 5, 2) := by decide +kernel
theorem d_M_closeRight_64 : decode c_M_closeRight 64 = .ok (.iload_n 3, 1) := by decide +kernel
theorem d_M_closeRight_65 : decode c_M_closeRight 65 = .ok (.iload 4, 2) := by decide +kernel
theorem d_M_closeRight_67 : decode c_M_closeRight 67 = .ok (.invokevirtual 75, 3) := by decide +kernel
theorem d_M_closeRight_70 : decode c_M_closeRight 70 = .ok (.return_, 1) := by decide +kernel
theorem d_M_closeRight_71 : decode c_M_closeRight 71 = .ok (.aload_n 0, 1) := by decide +kernel
theorem d_M_closeRight_72 : decode c_M_closeRight 72 = .ok (.getfield 34, 3) := by decide +kernel
theorem d_M_closeRight_75 : decode c_M_closeRight 75 = .ok (.iload_n 3, 1) := by decide +kernel
theorem d_M_closeRight_76 : decode c_M_closeRight 76 = .ok (.iconst 1, 1) := by decide +kernel
theorem d_M_closeRight_77 : decode c_M_closeRight 77 = .ok (.isub, 1) := by decide +kernel
theorem d_M_closeRight_78 : decode c_M_closeRight 78 = .ok (.laload, 1) := by decide +kernel
theorem d_M_closeRight_79 : decode c_M_closeRight 79 = .ok (.invokestatic 44, 3) := by decide +kernel
theorem d_M_closeRight_82 : decode c_M_closeRight 82 = .ok (.iconst 2, 1) := by decide +kernel
theorem d_M_closeRight_83 : decode c_M_closeRight 83 = .ok (.if_icmp .ne 7, 3) := by decide +kernel
theorem d_M_closeRight_86 : decode c_M_closeRight 86 = .ok (.iconst 1, 1) := by decide +kernel
theorem d_M_closeRight_87 : decode c_M_closeRight 87 = .ok (.goto 4, 3) := by decide +kernel
theorem d_M_closeRight_90 : decode c_M_closeRight 90 = .ok (.iconst 0, 1) := by decide +kernel
theorem d_M_closeRight_91 : decode c_M_closeRight 91 = .ok (.istore 5, 2) := by decide +kernel
theorem d_M_closeRight_93 : decode c_M_closeRight 93 = .ok (.aload_n 0, 1) := by decide +kernel
theorem d_M_closeRight_94 : decode c_M_closeRight 94 = .ok (.iload_n 3, 1) := by decide +kernel
theorem d_M_closeRight_95 : decode c_M_closeRight 95 = .ok (.iload 4, 2) := by decide +kernel
theorem d_M_closeRight_97 : decode c_M_closeRight 97 = .ok (.iconst 1, 1) := by decide +kernel
theorem d_M_closeRight_98 : decode c_M_closeRight 98 = .ok (.iadd, 1) := by decide +kernel
theorem d_M_closeRight_99 : decode c_M_closeRight 99 = .ok (.invokevirtual 72, 3) := by decide +kernel
theorem d_M_closeRight_102 : decode c_M_closeRight 102 = .ok (.istore 6, 2) := by decide +kernel
theorem d_M_closeRight_104 : decode c_M_closeRight 104 = .ok (.aload_n 0, 1) := by decide +kernel
theorem d_M_closeRight_105 : decode c_M_closeRight 105 = .ok (.iload 6, 2) := by decide +kernel
theorem d_M_closeRight_107 : decode c_M_closeRight 107 = .ok (.iload_n 3, 1) := by decide +kernel
theorem d_M_closeRight_108 : decode c_M_closeRight 108 = .ok (.iload 4, 2) := by decide +kernel
theorem d_M_closeRight_110 : decode c_M_closeRight 110 = .ok (.iconst 1, 1) := by decide +kernel
theorem d_M_closeRight_111 : decode c_M_closeRight 111 = .ok (.invokevirtual 56, 3) := by decide +kernel
theorem d_M_closeRight_114 : decode c_M_closeRight 114 = .ok (.iload 5, 2) := by decide +kernel
theorem d_M_closeRight_116 : decode c_M_closeRight 116 = .ok (.ifCond .eq 4, 3) := by decide +kernel
theorem d_M_closeRight_119 : decode c_M_closeRight 119 = .ok (.return_, 1) := by decide +kernel
theorem d_M_closeRight_120 : decode c_M_closeRight 120 = .ok (.iload 6, 2) := by decide +kernel
theorem d_M_closeRight_122 : decode c_M_closeRight 122 = .ok (.istore_n 3, 1) := by decide +kernel
theorem d_M_closeRight_123 : decode c_M_closeRight 123 = .ok (.iinc 4 1, 3) := by decide +kernel
theorem d_M_closeRight_126 : decode c_M_closeRight 126 = .ok (.goto (-121), 3) := by decide +kernel
theorem d_M_closeRight_129 : decode c_M_closeRight 129 = .ok (.return_, 1) := by decide +kernel
abbrev c_M_cut : ByteArray := prog_10_method_16_code
abbrev y_M_cut : MethodName := ⟨"FingerSpansModel", "cut", "(I)V"⟩
theorem k_M_cut : Cond.code y_M_cut c_M_cut 9 (none : Option FieldType) ∈ lw_tbl := List.mem_of_getElem? (i := 686) (by decide +kernel)
theorem b_M_cut : x_ce y_M_cut c_M_cut 9 (none : Option FieldType) 1 := ⟨k_M_cut, i_M, by decide +kernel⟩
theorem s_M_cut : Cond.instanceMethod y_M_cut ∈ lw_tbl := List.mem_of_getElem? (i := 685) (by decide +kernel)
theorem v_M_cut : Cond.selects "FingerSpansModel" y_M_cut y_M_cut ∈ lw_tbl := List.mem_of_getElem? (i := 53) (by decide +kernel)
theorem d_M_cut_0 : decode c_M_cut 0 = .ok (.aload_n 0, 1) := by decide +kernel
theorem d_M_cut_1 : decode c_M_cut 1 = .ok (.getfield 34, 3) := by decide +kernel
theorem d_M_cut_4 : decode c_M_cut 4 = .ok (.iload_n 1, 1) := by decide +kernel
theorem d_M_cut_5 : decode c_M_cut 5 = .ok (.laload, 1) := by decide +kernel
theorem d_M_cut_6 : decode c_M_cut 6 = .ok (.invokestatic 40, 3) := by decide +kernel
theorem d_M_cut_9 : decode c_M_cut 9 = .ok (.istore_n 2, 1) := by decide +kernel
theorem d_M_cut_10 : decode c_M_cut 10 = .ok (.aload_n 0, 1) := by decide +kernel
theorem d_M_cut_11 : decode c_M_cut 11 = .ok (.getfield 34, 3) := by decide +kernel
theorem d_M_cut_14 : decode c_M_cut 14 = .ok (.iload_n 1, 1) := by decide +kernel
theorem d_M_cut_15 : decode c_M_cut 15 = .ok (.laload, 1) := by decide +kernel
theorem d_M_cut_16 : decode c_M_cut 16 = .ok (.invokestatic 44, 3) := by decide +kernel
theorem d_M_cut_19 : decode c_M_cut 19 = .ok (.istore_n 3, 1) := by decide +kernel
theorem d_M_cut_20 : decode c_M_cut 20 = .ok (.iload_n 1, 1) := by decide +kernel
theorem d_M_cut_21 : decode c_M_cut 21 = .ok (.istore 4, 2) := by decide +kernel
theorem d_M_cut_23 : decode c_M_cut 23 = .ok (.iload_n 3, 1) := by decide +kernel
theorem d_M_cut_24 : decode c_M_cut 24 = .ok (.iconst 2, 1) := by decide +kernel
theorem d_M_cut_25 : decode c_M_cut 25 = .ok (.if_icmp .ge 22, 3) := by decide +kernel
theorem d_M_cut_28 : decode c_M_cut 28 = .ok (.aload_n 0, 1) := by decide +kernel
theorem d_M_cut_29 : decode c_M_cut 29 = .ok (.iload 4, 2) := by decide +kernel
theorem d_M_cut_31 : decode c_M_cut 31 = .ok (.iconst 1, 1) := by decide +kernel
theorem d_M_cut_32 : decode c_M_cut 32 = .ok (.isub, 1) := by decide +kernel
theorem d_M_cut_33 : decode c_M_cut 33 = .ok (.iload_n 2, 1) := by decide +kernel
theorem d_M_cut_34 : decode c_M_cut 34 = .ok (.iload_n 3, 1) := by decide +kernel
theorem d_M_cut_35 : decode c_M_cut 35 = .ok (.invokevirtual 64, 3) := by decide +kernel
theorem d_M_cut_38 : decode c_M_cut 38 = .ok (.ifCond .eq 9, 3) := by decide +kernel
theorem d_M_cut_41 : decode c_M_cut 41 = .ok (.iinc 4 (-1), 3) := by decide +kernel
theorem d_M_cut_44 : decode c_M_cut 44 = .ok (.goto (-21), 3) := by decide +kernel
theorem d_M_cut_47 : decode c_M_cut 47 = .ok (.iload 4, 2) := by decide +kernel
theorem d_M_cut_49 : decode c_M_cut 49 = .ok (.istore 5, 2) := by decide +kernel
theorem d_M_cut_51 : decode c_M_cut 51 = .ok (.iload_n 3, 1) := by decide +kernel
theorem d_M_cut_52 : decode c_M_cut 52 = .ok (.iconst 2, 1) := by decide +kernel
theorem d_M_cut_53 : decode c_M_cut 53 = .ok (.if_icmp .ne 22, 3) := by decide +kernel
theorem d_M_cut_56 : decode c_M_cut 56 = .ok (.aload_n 0, 1) := by decide +kernel
theorem d_M_cut_57 : decode c_M_cut 57 = .ok (.iload 5, 2) := by decide +kernel
theorem d_M_cut_59 : decode c_M_cut 59 = .ok (.iconst 1, 1) := by decide +kernel
theorem d_M_cut_60 : decode c_M_cut 60 = .ok (.isub, 1) := by decide +kernel
theorem d_M_cut_61 : decode c_M_cut 61 = .ok (.iload_n 2, 1) := by decide +kernel
theorem d_M_cut_62 : decode c_M_cut 62 = .ok (.iconst 2, 1) := by decide +kernel
theorem d_M_cut_63 : decode c_M_cut 63 = .ok (.invokevirtual 64, 3) := by decide +kernel
theorem d_M_cut_66 : decode c_M_cut 66 = .ok (.ifCond .eq 9, 3) := by decide +kernel
theorem d_M_cut_69 : decode c_M_cut 69 = .ok (.iinc 5 (-1), 3) := by decide +kernel
theorem d_M_cut_72 : decode c_M_cut 72 = .ok (.goto (-16), 3) := by decide +kernel
theorem d_M_cut_75 : decode c_M_cut 75 = .ok (.aload_n 0, 1) := by decide +kernel
theorem d_M_cut_76 : decode c_M_cut 76 = .ok (.iload 5, 2) := by decide +kernel
theorem d_M_cut_78 : decode c_M_cut 78 = .ok (.iload_n 2, 1) := by decide +kernel
theorem d_M_cut_79 : decode c_M_cut 79 = .ok (.invokevirtual 60, 3) := by decide +kernel
theorem d_M_cut_82 : decode c_M_cut 82 = .ok (.iload_n 1, 1) := by decide +kernel
theorem d_M_cut_83 : decode c_M_cut 83 = .ok (.if_icmp .gt 15, 3) := by decide +kernel
theorem d_M_cut_86 : decode c_M_cut 86 = .ok (.aload_n 0, 1) := by decide +kernel
theorem d_M_cut_87 : decode c_M_cut 87 = .ok (.iload 5, 2) := by decide +kernel
theorem d_M_cut_89 : decode c_M_cut 89 = .ok (.iload_n 2, 1) := by decide +kernel
theorem d_M_cut_90 : decode c_M_cut 90 = .ok (.invokevirtual 60, 3) := by decide +kernel
theorem d_M_cut_93 : decode c_M_cut 93 = .ok (.istore 5, 2) := by decide +kernel
theorem d_M_cut_95 : decode c_M_cut 95 = .ok (.goto (-20), 3) := by decide +kernel
theorem d_M_cut_98 : decode c_M_cut 98 = .ok (.aload_n 0, 1) := by decide +kernel
theorem d_M_cut_99 : decode c_M_cut 99 = .ok (.iload 5, 2) := by decide +kernel
theorem d_M_cut_101 : decode c_M_cut 101 = .ok (.iload_n 2, 1) := by decide +kernel
theorem d_M_cut_102 : decode c_M_cut 102 = .ok (.invokevirtual 60, 3) := by decide +kernel
theorem d_M_cut_105 : decode c_M_cut 105 = .ok (.istore 6, 2) := by decide +kernel
theorem d_M_cut_107 : decode c_M_cut 107 = .ok (.iload_n 3, 1) := by decide +kernel
theorem d_M_cut_108 : decode c_M_cut 108 = .ok (.ifCond .ne 19, 3) := by decide +kernel
theorem d_M_cut_111 : decode c_M_cut 111 = .ok (.aload_n 0, 1) := by decide +kernel
theorem d_M_cut_112 : decode c_M_cut 112 = .ok (.iload 4, 2) := by decide +kernel
theorem d_M_cut_114 : decode c_M_cut 114 = .ok (.iload 5, 2) := by decide +kernel
theorem d_M_cut_116 : decode c_M_cut 116 = .ok (.iload_n 2, 1) := by decide +kernel
theorem d_M_cut_117 : decode c_M_cut 117 = .ok (.invokevirtual 75, 3) := by decide +kernel
theorem d_M_cut_120 : decode c_M_cut 120 = .ok (.aload_n 0, 1) := by decide +kernel
theorem d_M_cut_121 : decode c_M_cut 121 = .ok (.iload 6, 2) := by decide +kernel
theorem d_M_cut_123 : decode c_M_cut 123 = .ok (.iload_n 2, 1) := by decide +kernel
theorem d_M_cut_124 : decode c_M_cut 124 = .ok (.invokevirtual 78, 3) := by decide +kernel
theorem d_M_cut_127 : decode c_M_cut 127 = .ok (.iload_n 3, 1) := by decide +kernel
theorem d_M_cut_128 : decode c_M_cut 128 = .ok (.iconst 1, 1) := by decide +kernel
theorem d_M_cut_129 : decode c_M_cut 129 = .ok (.if_icmp .ne 40, 3) := by decide +kernel
theorem d_M_cut_132 : decode c_M_cut 132 = .ok (.aload_n 0, 1) := by decide +kernel
theorem d_M_cut_133 : decode c_M_cut 133 = .ok (.iload 5, 2) := by decide +kernel
theorem d_M_cut_135 : decode c_M_cut 135 = .ok (.iload_n 2, 1) := by decide +kernel
theorem d_M_cut_136 : decode c_M_cut 136 = .ok (.invokevirtual 82, 3) := by decide +kernel
theorem d_M_cut_139 : decode c_M_cut 139 = .ok (.iload 6, 2) := by decide +kernel
theorem d_M_cut_141 : decode c_M_cut 141 = .ok (.istore 7, 2) := by decide +kernel
theorem d_M_cut_143 : decode c_M_cut 143 = .ok (.aload_n 0, 1) := by decide +kernel
theorem d_M_cut_144 : decode c_M_cut 144 = .ok (.iload 7, 2) := by decide +kernel
theorem d_M_cut_146 : decode c_M_cut 146 = .ok (.iload_n 2, 1) := by decide +kernel
theorem d_M_cut_147 : decode c_M_cut 147 = .ok (.iconst 1, 1) := by decide +kernel
theorem d_M_cut_148 : decode c_M_cut 148 = .ok (.invokevirtual 64, 3) := by decide +kernel
theorem d_M_cut_151 : decode c_M_cut 151 = .ok (.ifCond .eq 9, 3) := by decide +kernel
theorem d_M_cut_154 : decode c_M_cut 154 = .ok (.iinc 7 1, 3) := by decide +kernel
theorem d_M_cut_157 : decode c_M_cut 157 = .ok (.goto (-14), 3) := by decide +kernel
theorem d_M_cut_160 : decode c_M_cut 160 = .ok (.aload_n 0, 1) := by decide +kernel
theorem d_M_cut_161 : decode c_M_cut 161 = .ok (.iload 6, 2) := by decide +kernel
theorem d_M_cut_163 : decode c_M_cut 163 = .ok (.iload 7, 2) := by decide +kernel
theorem d_M_cut_165 : decode c_M_cut 165 = .ok (.iload_n 2, 1) := by decide +kernel
theorem d_M_cut_166 : decode c_M_cut 166 = .ok (.invokevirtual 75, 3) := by decide +kernel
theorem d_M_cut_169 : decode c_M_cut 169 = .ok (.iload_n 2, 1) := by decide +kernel
theorem d_M_cut_170 : decode c_M_cut 170 = .ok (.ifCond .le 87, 3) := by decide +kernel
theorem d_M_cut_173 : decode c_M_cut 173 = .ok (.iinc 2 (-1), 3) := by decide +kernel
theorem d_M_cut_176 : decode c_M_cut 176 = .ok (.iload 5, 2) := by decide +kernel
theorem d_M_cut_178 : decode c_M_cut 178 = .ok (.istore 7, 2) := by decide +kernel
theorem d_M_cut_180 : decode c_M_cut 180 = .ok (.aload_n 0, 1) := by decide +kernel
theorem d_M_cut_181 : decode c_M_cut 181 = .ok (.iload 7, 2) := by decide +kernel
theorem d_M_cut_183 : decode c_M_cut 183 = .ok (.iload_n 2, 1) := by decide +kernel
theorem d_M_cut_184 : decode c_M_cut 184 = .ok (.invokevirtual 60, 3) := by decide +kernel
theorem d_M_cut_187 : decode c_M_cut 187 = .ok (.iload_n 1, 1) := by decide +kernel
theorem d_M_cut_188 : decode c_M_cut 188 = .ok (.if_icmp .gt 15, 3) := by decide +kernel
theorem d_M_cut_191 : decode c_M_cut 191 = .ok (.aload_n 0, 1) := by decide +kernel
theorem d_M_cut_192 : decode c_M_cut 192 = .ok (.iload 7, 2) := by decide +kernel
theorem d_M_cut_194 : decode c_M_cut 194 = .ok (.iload_n 2, 1) := by decide +kernel
theorem d_M_cut_195 : decode c_M_cut 195 = .ok (.invokevirtual 60, 3) := by decide +kernel
theorem d_M_cut_198 : decode c_M_cut 198 = .ok (.istore 7, 2) := by decide +kernel
theorem d_M_cut_200 : decode c_M_cut 200 = .ok (.goto (-20), 3) := by decide +kernel
theorem d_M_cut_203 : decode c_M_cut 203 = .ok (.aload_n 0, 1) := by decide +kernel
theorem d_M_cut_204 : decode c_M_cut 204 = .ok (.iload 7, 2) := by decide +kernel
theorem d_M_cut_206 : decode c_M_cut 206 = .ok (.iload_n 2, 1) := by decide +kernel
theorem d_M_cut_207 : decode c_M_cut 207 = .ok (.invokevirtual 60, 3) := by decide +kernel
theorem d_M_cut_210 : decode c_M_cut 210 = .ok (.istore 8, 2) := by decide +kernel
theorem d_M_cut_212 : decode c_M_cut 212 = .ok (.aload_n 0, 1) := by decide +kernel
theorem d_M_cut_213 : decode c_M_cut 213 = .ok (.iload 5, 2) := by decide +kernel
theorem d_M_cut_215 : decode c_M_cut 215 = .ok (.iload 7, 2) := by decide +kernel
theorem d_M_cut_217 : decode c_M_cut 217 = .ok (.iload_n 2, 1) := by decide +kernel
theorem d_M_cut_218 : decode c_M_cut 218 = .ok (.iconst 1, 1) := by decide +kernel
theorem d_M_cut_219 : decode c_M_cut 219 = .ok (.invokevirtual 56, 3) := by decide +kernel
theorem d_M_cut_222 : decode c_M_cut 222 = .ok (.aload_n 0, 1) := by decide +kernel
theorem d_M_cut_223 : decode c_M_cut 223 = .ok (.iload 8, 2) := by decide +kernel
theorem d_M_cut_225 : decode c_M_cut 225 = .ok (.iload 6, 2) := by decide +kernel
theorem d_M_cut_227 : decode c_M_cut 227 = .ok (.iload_n 2, 1) := by decide +kernel
theorem d_M_cut_228 : decode c_M_cut 228 = .ok (.iconst 0, 1) := by decide +kernel
theorem d_M_cut_229 : decode c_M_cut 229 = .ok (.invokevirtual 56, 3) := by decide +kernel
theorem d_M_cut_232 : decode c_M_cut 232 = .ok (.aload_n 0, 1) := by decide +kernel
theorem d_M_cut_233 : decode c_M_cut 233 = .ok (.iload 7, 2) := by decide +kernel
theorem d_M_cut_235 : decode c_M_cut 235 = .ok (.iload_n 2, 1) := by decide +kernel
theorem d_M_cut_236 : decode c_M_cut 236 = .ok (.invokevirtual 82, 3) := by decide +kernel
theorem d_M_cut_239 : decode c_M_cut 239 = .ok (.aload_n 0, 1) := by decide +kernel
theorem d_M_cut_240 : decode c_M_cut 240 = .ok (.iload 8, 2) := by decide +kernel
theorem d_M_cut_242 : decode c_M_cut 242 = .ok (.iload_n 2, 1) := by decide +kernel
theorem d_M_cut_243 : decode c_M_cut 243 = .ok (.invokevirtual 78, 3) := by decide +kernel
theorem d_M_cut_246 : decode c_M_cut 246 = .ok (.iload 7, 2) := by decide +kernel
theorem d_M_cut_248 : decode c_M_cut 248 = .ok (.istore 5, 2) := by decide +kernel
theorem d_M_cut_250 : decode c_M_cut 250 = .ok (.iload 8, 2) := by decide +kernel
theorem d_M_cut_252 : decode c_M_cut 252 = .ok (.istore 6, 2) := by decide +kernel
theorem d_M_cut_254 : decode c_M_cut 254 = .ok (.goto (-85), 3) := by decide +kernel
theorem d_M_cut_257 : decode c_M_cut 257 = .ok (.aload_n 0, 1) := by decide +kernel
theorem d_M_cut_258 : decode c_M_cut 258 = .ok (.iload_n 1, 1) := by decide +kernel
theorem d_M_cut_259 : decode c_M_cut 259 = .ok (.iload_n 1, 1) := by decide +kernel
theorem d_M_cut_260 : decode c_M_cut 260 = .ok (.iconst 1, 1) := by decide +kernel
theorem d_M_cut_261 : decode c_M_cut 261 = .ok (.iadd, 1) := by decide +kernel
theorem d_M_cut_262 : decode c_M_cut 262 = .ok (.iconst 0, 1) := by decide +kernel
theorem d_M_cut_263 : decode c_M_cut 263 = .ok (.iconst 3, 1) := by decide +kernel
theorem d_M_cut_264 : decode c_M_cut 264 = .ok (.invokevirtual 56, 3) := by decide +kernel
theorem d_M_cut_267 : decode c_M_cut 267 = .ok (.return_, 1) := by decide +kernel
abbrev c_M_group : ByteArray := prog_10_method_17_code
abbrev y_M_group : MethodName := ⟨"FingerSpansModel", "group", "(III)V"⟩
theorem k_M_group : Cond.code y_M_group c_M_group 9 (none : Option FieldType) ∈ lw_tbl := List.mem_of_getElem? (i := 662) (by decide +kernel)
theorem b_M_group : x_ce y_M_group c_M_group 9 (none : Option FieldType) 3 := ⟨k_M_group, i_M, by decide +kernel⟩
theorem s_M_group : Cond.instanceMethod y_M_group ∈ lw_tbl := List.mem_of_getElem? (i := 661) (by decide +kernel)
theorem v_M_group : Cond.selects "FingerSpansModel" y_M_group y_M_group ∈ lw_tbl := List.mem_of_getElem? (i := 48) (by decide +kernel)
theorem d_M_group_0 : decode c_M_group 0 = .ok (.iconst 0, 1) := by decide +kernel
theorem d_M_group_1 : decode c_M_group 1 = .ok (.istore 4, 2) := by decide +kernel
theorem d_M_group_3 : decode c_M_group 3 = .ok (.iload_n 1, 1) := by decide +kernel
theorem d_M_group_4 : decode c_M_group 4 = .ok (.istore 5, 2) := by decide +kernel
theorem d_M_group_6 : decode c_M_group 6 = .ok (.iload 5, 2) := by decide +kernel
theorem d_M_group_8 : decode c_M_group 8 = .ok (.iload_n 2, 1) := by decide +kernel
theorem d_M_group_9 : decode c_M_group 9 = .ok (.if_icmp .ge 18, 3) := by decide +kernel
theorem d_M_group_12 : decode c_M_group 12 = .ok (.iinc 4 1, 3) := by decide +kernel
theorem d_M_group_15 : decode c_M_group 15 = .ok (.aload_n 0, 1) := by decide +kernel
theorem d_M_group_16 : decode c_M_group 16 = .ok (.iload 5, 2) := by decide +kernel
theorem d_M_group_18 : decode c_M_group 18 = .ok (.iload_n 3, 1) := by decide +kernel
theorem d_M_group_19 : decode c_M_group 19 = .ok (.invokevirtual 60, 3) := by decide +kernel
theorem d_M_group_22 : decode c_M_group 22 = .ok (.istore 5, 2) := by decide +kernel
theorem d_M_group_24 : decode c_M_group 24 = .ok (.goto (-18), 3) := by decide +kernel
theorem d_M_group_27 : decode c_M_group 27 = .ok (.iload_n 1, 1) := by decide +kernel
theorem d_M_group_28 : decode c_M_group 28 = .ok (.istore 5, 2) := by decide +kernel
theorem d_M_group_30 : decode c_M_group 30 = .ok (.iload 4, 2) := by decide +kernel
theorem d_M_group_32 : decode c_M_group 32 = .ok (.ifCond .le 76, 3) := by decide +kernel
theorem d_M_group_35 : decode c_M_group 35 = .ok (.iload 4, 2) := by decide +kernel
theorem d_M_group_37 : decode c_M_group 37 = .ok (.iconst 2, 1) := by decide +kernel
theorem d_M_group_38 : decode c_M_group 38 = .ok (.if_icmp .eq 9, 3) := by decide +kernel
theorem d_M_group_41 : decode c_M_group 41 = .ok (.iload 4, 2) := by decide +kernel
theorem d_M_group_43 : decode c_M_group 43 = .ok (.iconst 4, 1) := by decide +kernel
theorem d_M_group_44 : decode c_M_group 44 = .ok (.if_icmp .ne 7, 3) := by decide +kernel
theorem d_M_group_47 : decode c_M_group 47 = .ok (.iconst 2, 1) := by decide +kernel
theorem d_M_group_48 : decode c_M_group 48 = .ok (.goto 4, 3) := by decide +kernel
theorem d_M_group_51 : decode c_M_group 51 = .ok (.iconst 3, 1) := by decide +kernel
theorem d_M_group_52 : decode c_M_group 52 = .ok (.istore 6, 2) := by decide +kernel
theorem d_M_group_54 : decode c_M_group 54 = .ok (.iload 5, 2) := by decide +kernel
theorem d_M_group_56 : decode c_M_group 56 = .ok (.istore 7, 2) := by decide +kernel
theorem d_M_group_58 : decode c_M_group 58 = .ok (.iconst 0, 1) := by decide +kernel
theorem d_M_group_59 : decode c_M_group 59 = .ok (.istore 8, 2) := by decide +kernel
theorem d_M_group_61 : decode c_M_group 61 = .ok (.iload 8, 2) := by decide +kernel
theorem d_M_group_63 : decode c_M_group 63 = .ok (.iload 6, 2) := by decide +kernel
theorem d_M_group_65 : decode c_M_group 65 = .ok (.if_icmp .ge 18, 3) := by decide +kernel
theorem d_M_group_68 : decode c_M_group 68 = .ok (.aload_n 0, 1) := by decide +kernel
theorem d_M_group_69 : decode c_M_group 69 = .ok (.iload 7, 2) := by decide +kernel
theorem d_M_group_71 : decode c_M_group 71 = .ok (.iload_n 3, 1) := by decide +kernel
theorem d_M_group_72 : decode c_M_group 72 = .ok (.invokevirtual 60, 3) := by decide +kernel
theorem d_M_group_75 : decode c_M_group 75 = .ok (.istore 7, 2) := by decide +kernel
theorem d_M_group_77 : decode c_M_group 77 = .ok (.iinc 8 1, 3) := by decide +kernel
theorem d_M_group_80 : decode c_M_group 80 = .ok (.goto (-19), 3) := by decide +kernel
theorem d_M_group_83 : decode c_M_group 83 = .ok (.aload_n 0, 1) := by decide +kernel
theorem d_M_group_84 : decode c_M_group 84 = .ok (.iload 5, 2) := by decide +kernel
theorem d_M_group_86 : decode c_M_group 86 = .ok (.iload 7, 2) := by decide +kernel
theorem d_M_group_88 : decode c_M_group 88 = .ok (.iload_n 3, 1) := by decide +kernel
theorem d_M_group_89 : decode c_M_group 89 = .ok (.iconst 1, 1) := by decide +kernel
theorem d_M_group_90 : decode c_M_group 90 = .ok (.iadd, 1) := by decide +kernel
theorem d_M_group_91 : decode c_M_group 91 = .ok (.invokevirtual 68, 3) := by decide +kernel
theorem d_M_group_94 : decode c_M_group 94 = .ok (.iload 7, 2) := by decide +kernel
theorem d_M_group_96 : decode c_M_group 96 = .ok (.istore 5, 2) := by decide +kernel
theorem d_M_group_98 : decode c_M_group 98 = .ok (.iload 4, 2) := by decide +kernel
theorem d_M_group_100 : decode c_M_group 100 = .ok (.iload 6, 2) := by decide +kernel
theorem d_M_group_102 : decode c_M_group 102 = .ok (.isub, 1) := by decide +kernel
theorem d_M_group_103 : decode c_M_group 103 = .ok (.istore 4, 2) := by decide +kernel
theorem d_M_group_105 : decode c_M_group 105 = .ok (.goto (-75), 3) := by decide +kernel
theorem d_M_group_108 : decode c_M_group 108 = .ok (.return_, 1) := by decide +kernel
abbrev c_M_tree : ByteArray := prog_10_method_18_code
abbrev y_M_tree : MethodName := ⟨"FingerSpansModel", "tree", "(II)Z"⟩
theorem k_M_tree : Cond.code y_M_tree c_M_tree 3 (some FieldType.boolean) ∈ lw_tbl := List.mem_of_getElem? (i := 666) (by decide +kernel)
theorem b_M_tree : x_ce y_M_tree c_M_tree 3 (some FieldType.boolean) 2 := ⟨k_M_tree, i_M, by decide +kernel⟩
theorem s_M_tree : Cond.instanceMethod y_M_tree ∈ lw_tbl := List.mem_of_getElem? (i := 665) (by decide +kernel)
theorem v_M_tree : Cond.selects "FingerSpansModel" y_M_tree y_M_tree ∈ lw_tbl := List.mem_of_getElem? (i := 49) (by decide +kernel)
theorem d_M_tree_0 : decode c_M_tree 0 = .ok (.iload_n 1, 1) := by decide +kernel
theorem d_M_tree_1 : decode c_M_tree 1 = .ok (.ifCond .lt 28, 3) := by decide +kernel
theorem d_M_tree_4 : decode c_M_tree 4 = .ok (.iload_n 1, 1) := by decide +kernel
theorem d_M_tree_5 : decode c_M_tree 5 = .ok (.aload_n 0, 1) := by decide +kernel
theorem d_M_tree_6 : decode c_M_tree 6 = .ok (.getfield 37, 3) := by decide +kernel
theorem d_M_tree_9 : decode c_M_tree 9 = .ok (.if_icmp .ge 20, 3) := by decide +kernel
theorem d_M_tree_12 : decode c_M_tree 12 = .ok (.aload_n 0, 1) := by decide +kernel
theorem d_M_tree_13 : decode c_M_tree 13 = .ok (.getfield 34, 3) := by decide +kernel
theorem d_M_tree_16 : decode c_M_tree 16 = .ok (.iload_n 1, 1) := by decide +kernel
theorem d_M_tree_17 : decode c_M_tree 17 = .ok (.laload, 1) := by decide +kernel
theorem d_M_tree_18 : decode c_M_tree 18 = .ok (.invokestatic 40, 3) := by decide +kernel
theorem d_M_tree_21 : decode c_M_tree 21 = .ok (.iload_n 2, 1) := by decide +kernel
theorem d_M_tree_22 : decode c_M_tree 22 = .ok (.if_icmp .lt 7, 3) := by decide +kernel
theorem d_M_tree_25 : decode c_M_tree 25 = .ok (.iconst 1, 1) := by decide +kernel
theorem d_M_tree_26 : decode c_M_tree 26 = .ok (.goto 4, 3) := by decide +kernel
theorem d_M_tree_29 : decode c_M_tree 29 = .ok (.iconst 0, 1) := by decide +kernel
theorem d_M_tree_30 : decode c_M_tree 30 = .ok (.ireturn, 1) := by decide +kernel
abbrev c_M_join : ByteArray := prog_10_method_19_code
abbrev y_M_join : MethodName := ⟨"FingerSpansModel", "join", "(I)V"⟩
theorem k_M_join : Cond.code y_M_join c_M_join 7 (none : Option FieldType) ∈ lw_tbl := List.mem_of_getElem? (i := 658) (by decide +kernel)
theorem b_M_join : x_ce y_M_join c_M_join 7 (none : Option FieldType) 1 := ⟨k_M_join, i_M, by decide +kernel⟩
theorem s_M_join : Cond.instanceMethod y_M_join ∈ lw_tbl := List.mem_of_getElem? (i := 657) (by decide +kernel)
theorem v_M_join : Cond.selects "FingerSpansModel" y_M_join y_M_join ∈ lw_tbl := List.mem_of_getElem? (i := 47) (by decide +kernel)
theorem d_M_join_0 : decode c_M_join 0 = .ok (.iload_n 1, 1) := by decide +kernel
theorem d_M_join_1 : decode c_M_join 1 = .ok (.istore_n 2, 1) := by decide +kernel
theorem d_M_join_2 : decode c_M_join 2 = .ok (.iload_n 1, 1) := by decide +kernel
theorem d_M_join_3 : decode c_M_join 3 = .ok (.istore_n 3, 1) := by decide +kernel
theorem d_M_join_4 : decode c_M_join 4 = .ok (.iconst 0, 1) := by decide +kernel
theorem d_M_join_5 : decode c_M_join 5 = .ok (.istore 4, 2) := by decide +kernel
theorem d_M_join_7 : decode c_M_join 7 = .ok (.aload_n 0, 1) := by decide +kernel
theorem d_M_join_8 : decode c_M_join 8 = .ok (.iload_n 2, 1) := by decide +kernel
theorem d_M_join_9 : decode c_M_join 9 = .ok (.iconst 1, 1) := by decide +kernel
theorem d_M_join_10 : decode c_M_join 10 = .ok (.isub, 1) := by decide +kernel
theorem d_M_join_11 : decode c_M_join 11 = .ok (.iload 4, 2) := by decide +kernel
theorem d_M_join_13 : decode c_M_join 13 = .ok (.iconst 1, 1) := by decide +kernel
theorem d_M_join_14 : decode c_M_join 14 = .ok (.invokevirtual 64, 3) := by decide +kernel
theorem d_M_join_17 : decode c_M_join 17 = .ok (.ifCond .eq 80, 3) := by decide +kernel
theorem d_M_join_20 : decode c_M_join 20 = .ok (.aload_n 0, 1) := by decide +kernel
theorem d_M_join_21 : decode c_M_join 21 = .ok (.iload_n 3, 1) := by decide +kernel
theorem d_M_join_22 : decode c_M_join 22 = .ok (.iload 4, 2) := by decide +kernel
theorem d_M_join_24 : decode c_M_join 24 = .ok (.iconst 0, 1) := by decide +kernel
theorem d_M_join_25 : decode c_M_join 25 = .ok (.invokevirtual 64, 3) := by decide +kernel
theorem d_M_join_28 : decode c_M_join 28 = .ok (.ifCond .eq 69, 3) := by decide +kernel
theorem d_M_join_31 : decode c_M_join 31 = .ok (.iload_n 2, 1) := by decide +kernel
theorem d_M_join_32 : decode c_M_join 32 = .ok (.istore 5, 2) := by decide +kernel
theorem d_M_join_34 : decode c_M_join 34 = .ok (.aload_n 0, 1) := by decide +kernel
theorem d_M_join_35 : decode c_M_join 35 = .ok (.iload 5, 2) := by decide +kernel
theorem d_M_join_37 : decode c_M_join 37 = .ok (.iconst 1, 1) := by decide +kernel
theorem d_M_join_38 : decode c_M_join 38 = .ok (.isub, 1) := by decide +kernel
theorem d_M_join_39 : decode c_M_join 39 = .ok (.iload 4, 2) := by decide +kernel
theorem d_M_join_41 : decode c_M_join 41 = .ok (.iconst 1, 1) := by decide +kernel
theorem d_M_join_42 : decode c_M_join 42 = .ok (.invokevirtual 64, 3) := by decide +kernel
theorem d_M_join_45 : decode c_M_join 45 = .ok (.ifCond .eq 9, 3) := by decide +kernel
theorem d_M_join_48 : decode c_M_join 48 = .ok (.iinc 5 (-1), 3) := by decide +kernel
theorem d_M_join_51 : decode c_M_join 51 = .ok (.goto (-17), 3) := by decide +kernel
theorem d_M_join_54 : decode c_M_join 54 = .ok (.iload_n 3, 1) := by decide +kernel
theorem d_M_join_55 : decode c_M_join 55 = .ok (.istore 6, 2) := by decide +kernel
theorem d_M_join_57 : decode c_M_join 57 = .ok (.aload_n 0, 1) := by decide +kernel
theorem d_M_join_58 : decode c_M_join 58 = .ok (.iload 6, 2) := by decide +kernel
theorem d_M_join_60 : decode c_M_join 60 = .ok (.iload 4, 2) := by decide +kernel
theorem d_M_join_62 : decode c_M_join 62 = .ok (.iconst 0, 1) := by decide +kernel
theorem d_M_join_63 : decode c_M_join 63 = .ok (.invokevirtual 64, 3) := by decide +kernel
theorem d_M_join_66 : decode c_M_join 66 = .ok (.ifCond .eq 9, 3) := by decide +kernel
theorem d_M_join_69 : decode c_M_join 69 = .ok (.iinc 6 1, 3) := by decide +kernel
theorem d_M_join_72 : decode c_M_join 72 = .ok (.goto (-15), 3) := by decide +kernel
theorem d_M_join_75 : decode c_M_join 75 = .ok (.aload_n 0, 1) := by decide +kernel
theorem d_M_join_76 : decode c_M_join 76 = .ok (.iload 5, 2) := by decide +kernel
theorem d_M_join_78 : decode c_M_join 78 = .ok (.iload 6, 2) := by decide +kernel
theorem d_M_join_80 : decode c_M_join 80 = .ok (.iload 4, 2) := by decide +kernel
theorem d_M_join_82 : decode c_M_join 82 = .ok (.invokevirtual 85, 3) := by decide +kernel
theorem d_M_join_85 : decode c_M_join 85 = .ok (.iload 5, 2) := by decide +kernel
theorem d_M_join_87 : decode c_M_join 87 = .ok (.istore_n 2, 1) := by decide +kernel
theorem d_M_join_88 : decode c_M_join 88 = .ok (.iload 6, 2) := by decide +kernel
theorem d_M_join_90 : decode c_M_join 90 = .ok (.istore_n 3, 1) := by decide +kernel
theorem d_M_join_91 : decode c_M_join 91 = .ok (.iinc 4 1, 3) := by decide +kernel
theorem d_M_join_94 : decode c_M_join 94 = .ok (.goto (-87), 3) := by decide +kernel
theorem d_M_join_97 : decode c_M_join 97 = .ok (.aload_n 0, 1) := by decide +kernel
theorem d_M_join_98 : decode c_M_join 98 = .ok (.iload_n 2, 1) := by decide +kernel
theorem d_M_join_99 : decode c_M_join 99 = .ok (.iconst 1, 1) := by decide +kernel
theorem d_M_join_100 : decode c_M_join 100 = .ok (.isub, 1) := by decide +kernel
theorem d_M_join_101 : decode c_M_join 101 = .ok (.iload 4, 2) := by decide +kernel
theorem d_M_join_103 : decode c_M_join 103 = .ok (.invokevirtual 88, 3) := by decide +kernel
theorem d_M_join_106 : decode c_M_join 106 = .ok (.istore 5, 2) := by decide +kernel
theorem d_M_join_108 : decode c_M_join 108 = .ok (.iload 5, 2) := by decide +kernel
theorem d_M_join_110 : decode c_M_join 110 = .ok (.ifCond .eq 28, 3) := by decide +kernel
theorem d_M_join_113 : decode c_M_join 113 = .ok (.aload_n 0, 1) := by decide +kernel
theorem d_M_join_114 : decode c_M_join 114 = .ok (.iload_n 3, 1) := by decide +kernel
theorem d_M_join_115 : decode c_M_join 115 = .ok (.iload 4, 2) := by decide +kernel
theorem d_M_join_117 : decode c_M_join 117 = .ok (.invokevirtual 88, 3) := by decide +kernel
theorem d_M_join_120 : decode c_M_join 120 = .ok (.ifCond .eq 44, 3) := by decide +kernel
theorem d_M_join_123 : decode c_M_join 123 = .ok (.aload_n 0, 1) := by decide +kernel
theorem d_M_join_124 : decode c_M_join 124 = .ok (.getfield 34, 3) := by decide +kernel
theorem d_M_join_127 : decode c_M_join 127 = .ok (.iload_n 2, 1) := by decide +kernel
theorem d_M_join_128 : decode c_M_join 128 = .ok (.iconst 1, 1) := by decide +kernel
theorem d_M_join_129 : decode c_M_join 129 = .ok (.isub, 1) := by decide +kernel
theorem d_M_join_130 : decode c_M_join 130 = .ok (.laload, 1) := by decide +kernel
theorem d_M_join_131 : decode c_M_join 131 = .ok (.invokestatic 44, 3) := by decide +kernel
theorem d_M_join_134 : decode c_M_join 134 = .ok (.iconst 2, 1) := by decide +kernel
theorem d_M_join_135 : decode c_M_join 135 = .ok (.if_icmp .ne 29, 3) := by decide +kernel
theorem d_M_join_138 : decode c_M_join 138 = .ok (.aload_n 0, 1) := by decide +kernel
theorem d_M_join_139 : decode c_M_join 139 = .ok (.iload 5, 2) := by decide +kernel
theorem d_M_join_141 : decode c_M_join 141 = .ok (.ifCond .eq 13, 3) := by decide +kernel
theorem d_M_join_144 : decode c_M_join 144 = .ok (.aload_n 0, 1) := by decide +kernel
theorem d_M_join_145 : decode c_M_join 145 = .ok (.iload_n 2, 1) := by decide +kernel
theorem d_M_join_146 : decode c_M_join 146 = .ok (.iload 4, 2) := by decide +kernel
theorem d_M_join_148 : decode c_M_join 148 = .ok (.invokevirtual 72, 3) := by decide +kernel
theorem d_M_join_151 : decode c_M_join 151 = .ok (.goto 4, 3) := by decide +kernel
theorem d_M_join_154 : decode c_M_join 154 = .ok (.iload_n 2, 1) := by decide +kernel
theorem d_M_join_155 : decode c_M_join 155 = .ok (.iload_n 3, 1) := by decide +kernel
theorem d_M_join_156 : decode c_M_join 156 = .ok (.iload 4, 2) := by decide +kernel
theorem d_M_join_158 : decode c_M_join 158 = .ok (.invokevirtual 92, 3) := by decide +kernel
theorem d_M_join_161 : decode c_M_join 161 = .ok (.goto 31, 3) := by decide +kernel
theorem d_M_join_164 : decode c_M_join 164 = .ok (.aload_n 0, 1) := by decide +kernel
theorem d_M_join_165 : decode c_M_join 165 = .ok (.iload_n 2, 1) := by decide +kernel
theorem d_M_join_166 : decode c_M_join 166 = .ok (.aload_n 0, 1) := by decide +kernel
theorem d_M_join_167 : decode c_M_join 167 = .ok (.iload_n 3, 1) := by decide +kernel
theorem d_M_join_168 : decode c_M_join 168 = .ok (.iload 4, 2) := by decide +kernel
theorem d_M_join_170 : decode c_M_join 170 = .ok (.invokevirtual 88, 3) := by decide +kernel
theorem d_M_join_173 : decode c_M_join 173 = .ok (.ifCond .eq 13, 3) := by decide +kernel
theorem d_M_join_176 : decode c_M_join 176 = .ok (.aload_n 0, 1) := by decide +kernel
theorem d_M_join_177 : decode c_M_join 177 = .ok (.iload_n 3, 1) := by decide +kernel
theorem d_M_join_178 : decode c_M_join 178 = .ok (.iload 4, 2) := by decide +kernel
theorem d_M_join_180 : decode c_M_join 180 = .ok (.invokevirtual 60, 3) := by decide +kernel
theorem d_M_join_183 : decode c_M_join 183 = .ok (.goto 4, 3) := by decide +kernel
theorem d_M_join_186 : decode c_M_join 186 = .ok (.iload_n 3, 1) := by decide +kernel
theorem d_M_join_187 : decode c_M_join 187 = .ok (.iload 4, 2) := by decide +kernel
theorem d_M_join_189 : decode c_M_join 189 = .ok (.invokevirtual 95, 3) := by decide +kernel
theorem d_M_join_192 : decode c_M_join 192 = .ok (.return_, 1) := by decide +kernel
abbrev c_M_frontAll : ByteArray := prog_10_method_20_code
abbrev y_M_frontAll : MethodName := ⟨"FingerSpansModel", "frontAll", "(III)V"⟩
theorem k_M_frontAll : Cond.code y_M_frontAll c_M_frontAll 6 (none : Option FieldType) ∈ lw_tbl := List.mem_of_getElem? (i := 670) (by decide +kernel)
theorem b_M_frontAll : x_ce y_M_frontAll c_M_frontAll 6 (none : Option FieldType) 3 := ⟨k_M_frontAll, i_M, by decide +kernel⟩
theorem s_M_frontAll : Cond.instanceMethod y_M_frontAll ∈ lw_tbl := List.mem_of_getElem? (i := 669) (by decide +kernel)
theorem v_M_frontAll : Cond.selects "FingerSpansModel" y_M_frontAll y_M_frontAll ∈ lw_tbl := List.mem_of_getElem? (i := 50) (by decide +kernel)
theorem d_M_frontAll_0 : decode c_M_frontAll 0 = .ok (.iload_n 2, 1) := by decide +kernel
theorem d_M_frontAll_1 : decode c_M_frontAll 1 = .ok (.istore 4, 2) := by decide +kernel
theorem d_M_frontAll_3 : decode c_M_frontAll 3 = .ok (.iload 4, 2) := by decide +kernel
theorem d_M_frontAll_5 : decode c_M_frontAll 5 = .ok (.iload_n 1, 1) := by decide +kernel
theorem d_M_frontAll_6 : decode c_M_frontAll 6 = .ok (.if_icmp .le 26, 3) := by decide +kernel
theorem d_M_frontAll_9 : decode c_M_frontAll 9 = .ok (.aload_n 0, 1) := by decide +kernel
theorem d_M_frontAll_10 : decode c_M_frontAll 10 = .ok (.iload 4, 2) := by decide +kernel
theorem d_M_frontAll_12 : decode c_M_frontAll 12 = .ok (.iload_n 3, 1) := by decide +kernel
theorem d_M_frontAll_13 : decode c_M_frontAll 13 = .ok (.invokevirtual 72, 3) := by decide +kernel
theorem d_M_frontAll_16 : decode c_M_frontAll 16 = .ok (.istore 5, 2) := by decide +kernel
theorem d_M_frontAll_18 : decode c_M_frontAll 18 = .ok (.aload_n 0, 1) := by decide +kernel
theorem d_M_frontAll_19 : decode c_M_frontAll 19 = .ok (.iload 5, 2) := by decide +kernel
theorem d_M_frontAll_21 : decode c_M_frontAll 21 = .ok (.iload_n 3, 1) := by decide +kernel
theorem d_M_frontAll_22 : decode c_M_frontAll 22 = .ok (.invokevirtual 98, 3) := by decide +kernel
theorem d_M_frontAll_25 : decode c_M_frontAll 25 = .ok (.iload 5, 2) := by decide +kernel
theorem d_M_frontAll_27 : decode c_M_frontAll 27 = .ok (.istore 4, 2) := by decide +kernel
theorem d_M_frontAll_29 : decode c_M_frontAll 29 = .ok (.goto (-26), 3) := by decide +kernel
theorem d_M_frontAll_32 : decode c_M_frontAll 32 = .ok (.return_, 1) := by decide +kernel
abbrev c_M_backAll : ByteArray := prog_10_method_21_code
abbrev y_M_backAll : MethodName := ⟨"FingerSpansModel", "backAll", "(III)V"⟩
theorem k_M_backAll : Cond.code y_M_backAll c_M_backAll 6 (none : Option FieldType) ∈ lw_tbl := List.mem_of_getElem? (i := 674) (by decide +kernel)
theorem b_M_backAll : x_ce y_M_backAll c_M_backAll 6 (none : Option FieldType) 3 := ⟨k_M_backAll, i_M, by decide +kernel⟩
theorem s_M_backAll : Cond.instanceMethod y_M_backAll ∈ lw_tbl := List.mem_of_getElem? (i := 673) (by decide +kernel)
theorem v_M_backAll : Cond.selects "FingerSpansModel" y_M_backAll y_M_backAll ∈ lw_tbl := List.mem_of_getElem? (i := 51) (by decide +kernel)
theorem d_M_backAll_0 : decode c_M_backAll 0 = .ok (.iload_n 1, 1) := by decide +kernel
theorem d_M_backAll_1 : decode c_M_backAll 1 = .ok (.istore 4, 2) := by decide +kernel
theorem d_M_backAll_3 : decode c_M_backAll 3 = .ok (.iload 4, 2) := by decide +kernel
theorem d_M_backAll_5 : decode c_M_backAll 5 = .ok (.iload_n 2, 1) := by decide +kernel
theorem d_M_backAll_6 : decode c_M_backAll 6 = .ok (.if_icmp .ge 26, 3) := by decide +kernel
theorem d_M_backAll_9 : decode c_M_backAll 9 = .ok (.aload_n 0, 1) := by decide +kernel
theorem d_M_backAll_10 : decode c_M_backAll 10 = .ok (.iload 4, 2) := by decide +kernel
theorem d_M_backAll_12 : decode c_M_backAll 12 = .ok (.iload_n 3, 1) := by decide +kernel
theorem d_M_backAll_13 : decode c_M_backAll 13 = .ok (.invokevirtual 60, 3) := by decide +kernel
theorem d_M_backAll_16 : decode c_M_backAll 16 = .ok (.istore 5, 2) := by decide +kernel
theorem d_M_backAll_18 : decode c_M_backAll 18 = .ok (.aload_n 0, 1) := by decide +kernel
theorem d_M_backAll_19 : decode c_M_backAll 19 = .ok (.iload 5, 2) := by decide +kernel
theorem d_M_backAll_21 : decode c_M_backAll 21 = .ok (.iload_n 3, 1) := by decide +kernel
theorem d_M_backAll_22 : decode c_M_backAll 22 = .ok (.invokevirtual 101, 3) := by decide +kernel
theorem d_M_backAll_25 : decode c_M_backAll 25 = .ok (.iload 5, 2) := by decide +kernel
theorem d_M_backAll_27 : decode c_M_backAll 27 = .ok (.istore 4, 2) := by decide +kernel
theorem d_M_backAll_29 : decode c_M_backAll 29 = .ok (.goto (-26), 3) := by decide +kernel
theorem d_M_backAll_32 : decode c_M_backAll 32 = .ok (.return_, 1) := by decide +kernel
abbrev c_M_none : ByteArray := prog_10_method_22_code
abbrev y_M_none : MethodName := ⟨"FingerSpansModel", "none", "(I)Z"⟩
theorem k_M_none : Cond.code y_M_none c_M_none 2 (some FieldType.boolean) ∈ lw_tbl := List.mem_of_getElem? (i := 571) (by decide +kernel)
theorem b_M_none : x_ce y_M_none c_M_none 2 (some FieldType.boolean) 1 := ⟨k_M_none, i_M, by decide +kernel⟩
theorem s_M_none : Cond.instanceMethod y_M_none ∈ lw_tbl := List.mem_of_getElem? (i := 570) (by decide +kernel)
theorem v_M_none : Cond.selects "FingerSpansModel" y_M_none y_M_none ∈ lw_tbl := List.mem_of_getElem? (i := 32) (by decide +kernel)
theorem d_M_none_0 : decode c_M_none 0 = .ok (.iload_n 1, 1) := by decide +kernel
theorem d_M_none_1 : decode c_M_none 1 = .ok (.ifCond .lt 11, 3) := by decide +kernel
theorem d_M_none_4 : decode c_M_none 4 = .ok (.iload_n 1, 1) := by decide +kernel
theorem d_M_none_5 : decode c_M_none 5 = .ok (.aload_n 0, 1) := by decide +kernel
theorem d_M_none_6 : decode c_M_none 6 = .ok (.getfield 30, 3) := by decide +kernel
theorem d_M_none_9 : decode c_M_none 9 = .ok (.if_icmp .lt 7, 3) := by decide +kernel
theorem d_M_none_12 : decode c_M_none 12 = .ok (.iconst 1, 1) := by decide +kernel
theorem d_M_none_13 : decode c_M_none 13 = .ok (.goto 4, 3) := by decide +kernel
theorem d_M_none_16 : decode c_M_none 16 = .ok (.iconst 0, 1) := by decide +kernel
theorem d_M_none_17 : decode c_M_none 17 = .ok (.ireturn, 1) := by decide +kernel
abbrev c_M_load : ByteArray := prog_10_method_23_code
abbrev y_M_load : MethodName := ⟨"FingerSpansModel", "load", "(I)V"⟩
theorem k_M_load : Cond.code y_M_load c_M_load 3 (none : Option FieldType) ∈ lw_tbl := List.mem_of_getElem? (i := 575) (by decide +kernel)
theorem b_M_load : x_ce y_M_load c_M_load 3 (none : Option FieldType) 1 := ⟨k_M_load, i_M, by decide +kernel⟩
theorem s_M_load : Cond.instanceMethod y_M_load ∈ lw_tbl := List.mem_of_getElem? (i := 574) (by decide +kernel)
theorem v_M_load : Cond.selects "FingerSpansModel" y_M_load y_M_load ∈ lw_tbl := List.mem_of_getElem? (i := 33) (by decide +kernel)
theorem d_M_load_0 : decode c_M_load 0 = .ok (.aload_n 0, 1) := by decide +kernel
theorem d_M_load_1 : decode c_M_load 1 = .ok (.aload_n 0, 1) := by decide +kernel
theorem d_M_load_2 : decode c_M_load 2 = .ok (.getfield 27, 3) := by decide +kernel
theorem d_M_load_5 : decode c_M_load 5 = .ok (.iload_n 1, 1) := by decide +kernel
theorem d_M_load_6 : decode c_M_load 6 = .ok (.baload, 1) := by decide +kernel
theorem d_M_load_7 : decode c_M_load 7 = .ok (.putfield 37, 3) := by decide +kernel
theorem d_M_load_10 : decode c_M_load 10 = .ok (.iconst 0, 1) := by decide +kernel
theorem d_M_load_11 : decode c_M_load 11 = .ok (.istore_n 2, 1) := by decide +kernel
theorem d_M_load_12 : decode c_M_load 12 = .ok (.iload_n 2, 1) := by decide +kernel
theorem d_M_load_13 : decode c_M_load 13 = .ok (.aload_n 0, 1) := by decide +kernel
theorem d_M_load_14 : decode c_M_load 14 = .ok (.getfield 37, 3) := by decide +kernel
theorem d_M_load_17 : decode c_M_load 17 = .ok (.if_icmp .ge 26, 3) := by decide +kernel
theorem d_M_load_20 : decode c_M_load 20 = .ok (.aload_n 0, 1) := by decide +kernel
theorem d_M_load_21 : decode c_M_load 21 = .ok (.getfield 34, 3) := by decide +kernel
theorem d_M_load_24 : decode c_M_load 24 = .ok (.iload_n 2, 1) := by decide +kernel
theorem d_M_load_25 : decode c_M_load 25 = .ok (.aload_n 0, 1) := by decide +kernel
theorem d_M_load_26 : decode c_M_load 26 = .ok (.getfield 23, 3) := by decide +kernel
theorem d_M_load_29 : decode c_M_load 29 = .ok (.bipush 40, 2) := by decide +kernel
theorem d_M_load_31 : decode c_M_load 31 = .ok (.iload_n 1, 1) := by decide +kernel
theorem d_M_load_32 : decode c_M_load 32 = .ok (.imul, 1) := by decide +kernel
theorem d_M_load_33 : decode c_M_load 33 = .ok (.iload_n 2, 1) := by decide +kernel
theorem d_M_load_34 : decode c_M_load 34 = .ok (.iadd, 1) := by decide +kernel
theorem d_M_load_35 : decode c_M_load 35 = .ok (.laload, 1) := by decide +kernel
theorem d_M_load_36 : decode c_M_load 36 = .ok (.lastore, 1) := by decide +kernel
theorem d_M_load_37 : decode c_M_load 37 = .ok (.iinc 2 1, 3) := by decide +kernel
theorem d_M_load_40 : decode c_M_load 40 = .ok (.goto (-28), 3) := by decide +kernel
theorem d_M_load_43 : decode c_M_load 43 = .ok (.return_, 1) := by decide +kernel
abbrev c_M_store : ByteArray := prog_10_method_24_code
abbrev y_M_store : MethodName := ⟨"FingerSpansModel", "store", "(II)I"⟩
theorem k_M_store : Cond.code y_M_store c_M_store 4 (some FieldType.int) ∈ lw_tbl := List.mem_of_getElem? (i := 614) (by decide +kernel)
theorem b_M_store : x_ce y_M_store c_M_store 4 (some FieldType.int) 2 := ⟨k_M_store, i_M, by decide +kernel⟩
theorem s_M_store : Cond.instanceMethod y_M_store ∈ lw_tbl := List.mem_of_getElem? (i := 613) (by decide +kernel)
theorem v_M_store : Cond.selects "FingerSpansModel" y_M_store y_M_store ∈ lw_tbl := List.mem_of_getElem? (i := 40) (by decide +kernel)
theorem d_M_store_0 : decode c_M_store 0 = .ok (.iload_n 1, 1) := by decide +kernel
theorem d_M_store_1 : decode c_M_store 1 = .ok (.istore_n 3, 1) := by decide +kernel
theorem d_M_store_2 : decode c_M_store 2 = .ok (.iload_n 3, 1) := by decide +kernel
theorem d_M_store_3 : decode c_M_store 3 = .ok (.iload_n 2, 1) := by decide +kernel
theorem d_M_store_4 : decode c_M_store 4 = .ok (.if_icmp .ge 31, 3) := by decide +kernel
theorem d_M_store_7 : decode c_M_store 7 = .ok (.aload_n 0, 1) := by decide +kernel
theorem d_M_store_8 : decode c_M_store 8 = .ok (.getfield 23, 3) := by decide +kernel
theorem d_M_store_11 : decode c_M_store 11 = .ok (.bipush 40, 2) := by decide +kernel
theorem d_M_store_13 : decode c_M_store 13 = .ok (.aload_n 0, 1) := by decide +kernel
theorem d_M_store_14 : decode c_M_store 14 = .ok (.getfield 30, 3) := by decide +kernel
theorem d_M_store_17 : decode c_M_store 17 = .ok (.imul, 1) := by decide +kernel
theorem d_M_store_18 : decode c_M_store 18 = .ok (.iload_n 3, 1) := by decide +kernel
theorem d_M_store_19 : decode c_M_store 19 = .ok (.iadd, 1) := by decide +kernel
theorem d_M_store_20 : decode c_M_store 20 = .ok (.iload_n 1, 1) := by decide +kernel
theorem d_M_store_21 : decode c_M_store 21 = .ok (.isub, 1) := by decide +kernel
theorem d_M_store_22 : decode c_M_store 22 = .ok (.aload_n 0, 1) := by decide +kernel
theorem d_M_store_23 : decode c_M_store 23 = .ok (.getfield 34, 3) := by decide +kernel
theorem d_M_store_26 : decode c_M_store 26 = .ok (.iload_n 3, 1) := by decide +kernel
theorem d_M_store_27 : decode c_M_store 27 = .ok (.laload, 1) := by decide +kernel
theorem d_M_store_28 : decode c_M_store 28 = .ok (.lastore, 1) := by decide +kernel
theorem d_M_store_29 : decode c_M_store 29 = .ok (.iinc 3 1, 3) := by decide +kernel
theorem d_M_store_32 : decode c_M_store 32 = .ok (.goto (-30), 3) := by decide +kernel
theorem d_M_store_35 : decode c_M_store 35 = .ok (.aload_n 0, 1) := by decide +kernel
theorem d_M_store_36 : decode c_M_store 36 = .ok (.getfield 27, 3) := by decide +kernel
theorem d_M_store_39 : decode c_M_store 39 = .ok (.aload_n 0, 1) := by decide +kernel
theorem d_M_store_40 : decode c_M_store 40 = .ok (.getfield 30, 3) := by decide +kernel
theorem d_M_store_43 : decode c_M_store 43 = .ok (.iload_n 2, 1) := by decide +kernel
theorem d_M_store_44 : decode c_M_store 44 = .ok (.iload_n 1, 1) := by decide +kernel
theorem d_M_store_45 : decode c_M_store 45 = .ok (.isub, 1) := by decide +kernel
theorem d_M_store_46 : decode c_M_store 46 = .ok (.i2b, 1) := by decide +kernel
theorem d_M_store_47 : decode c_M_store 47 = .ok (.bastore, 1) := by decide +kernel
theorem d_M_store_48 : decode c_M_store 48 = .ok (.aload_n 0, 1) := by decide +kernel
theorem d_M_store_49 : decode c_M_store 49 = .ok (.dup, 1) := by decide +kernel
theorem d_M_store_50 : decode c_M_store 50 = .ok (.getfield 30, 3) := by decide +kernel
theorem d_M_store_53 : decode c_M_store 53 = .ok (.iconst 1, 1) := by decide +kernel
theorem d_M_store_54 : decode c_M_store 54 = .ok (.iadd, 1) := by decide +kernel
theorem d_M_store_55 : decode c_M_store 55 = .ok (.putfield 30, 3) := by decide +kernel
theorem d_M_store_58 : decode c_M_store 58 = .ok (.aload_n 0, 1) := by decide +kernel
theorem d_M_store_59 : decode c_M_store 59 = .ok (.getfield 30, 3) := by decide +kernel
theorem d_M_store_62 : decode c_M_store 62 = .ok (.iconst 1, 1) := by decide +kernel
theorem d_M_store_63 : decode c_M_store 63 = .ok (.isub, 1) := by decide +kernel
theorem d_M_store_64 : decode c_M_store 64 = .ok (.ireturn, 1) := by decide +kernel
abbrev c_M_put : ByteArray := prog_10_method_25_code
abbrev y_M_put : MethodName := ⟨"FingerSpansModel", "put", "(III)V"⟩
theorem k_M_put : Cond.code y_M_put c_M_put 5 (none : Option FieldType) ∈ lw_tbl := List.mem_of_getElem? (i := 579) (by decide +kernel)
theorem b_M_put : x_ce y_M_put c_M_put 5 (none : Option FieldType) 3 := ⟨k_M_put, i_M, by decide +kernel⟩
theorem s_M_put : Cond.instanceMethod y_M_put ∈ lw_tbl := List.mem_of_getElem? (i := 578) (by decide +kernel)
theorem v_M_put : Cond.selects "FingerSpansModel" y_M_put y_M_put ∈ lw_tbl := List.mem_of_getElem? (i := 34) (by decide +kernel)
theorem d_M_put_0 : decode c_M_put 0 = .ok (.aload_n 0, 1) := by decide +kernel
theorem d_M_put_1 : decode c_M_put 1 = .ok (.getfield 37, 3) := by decide +kernel
theorem d_M_put_4 : decode c_M_put 4 = .ok (.istore 4, 2) := by decide +kernel
theorem d_M_put_6 : decode c_M_put 6 = .ok (.iload 4, 2) := by decide +kernel
theorem d_M_put_8 : decode c_M_put 8 = .ok (.iload_n 1, 1) := by decide +kernel
theorem d_M_put_9 : decode c_M_put 9 = .ok (.if_icmp .le 25, 3) := by decide +kernel
theorem d_M_put_12 : decode c_M_put 12 = .ok (.aload_n 0, 1) := by decide +kernel
theorem d_M_put_13 : decode c_M_put 13 = .ok (.getfield 34, 3) := by decide +kernel
theorem d_M_put_16 : decode c_M_put 16 = .ok (.iload 4, 2) := by decide +kernel
theorem d_M_put_18 : decode c_M_put 18 = .ok (.aload_n 0, 1) := by decide +kernel
theorem d_M_put_19 : decode c_M_put 19 = .ok (.getfield 34, 3) := by decide +kernel
theorem d_M_put_22 : decode c_M_put 22 = .ok (.iload 4, 2) := by decide +kernel
theorem d_M_put_24 : decode c_M_put 24 = .ok (.iconst 1, 1) := by decide +kernel
theorem d_M_put_25 : decode c_M_put 25 = .ok (.isub, 1) := by decide +kernel
theorem d_M_put_26 : decode c_M_put 26 = .ok (.laload, 1) := by decide +kernel
theorem d_M_put_27 : decode c_M_put 27 = .ok (.lastore, 1) := by decide +kernel
theorem d_M_put_28 : decode c_M_put 28 = .ok (.iinc 4 (-1), 3) := by decide +kernel
theorem d_M_put_31 : decode c_M_put 31 = .ok (.goto (-25), 3) := by decide +kernel
theorem d_M_put_34 : decode c_M_put 34 = .ok (.aload_n 0, 1) := by decide +kernel
theorem d_M_put_35 : decode c_M_put 35 = .ok (.getfield 7, 3) := by decide +kernel
theorem d_M_put_38 : decode c_M_put 38 = .ok (.aload_n 0, 1) := by decide +kernel
theorem d_M_put_39 : decode c_M_put 39 = .ok (.getfield 104, 3) := by decide +kernel
theorem d_M_put_42 : decode c_M_put 42 = .ok (.iload_n 2, 1) := by decide +kernel
theorem d_M_put_43 : decode c_M_put 43 = .ok (.iastore, 1) := by decide +kernel
theorem d_M_put_44 : decode c_M_put 44 = .ok (.aload_n 0, 1) := by decide +kernel
theorem d_M_put_45 : decode c_M_put 45 = .ok (.getfield 13, 3) := by decide +kernel
theorem d_M_put_48 : decode c_M_put 48 = .ok (.aload_n 0, 1) := by decide +kernel
theorem d_M_put_49 : decode c_M_put 49 = .ok (.getfield 104, 3) := by decide +kernel
theorem d_M_put_52 : decode c_M_put 52 = .ok (.iload_n 3, 1) := by decide +kernel
theorem d_M_put_53 : decode c_M_put 53 = .ok (.iastore, 1) := by decide +kernel
theorem d_M_put_54 : decode c_M_put 54 = .ok (.aload_n 0, 1) := by decide +kernel
theorem d_M_put_55 : decode c_M_put 55 = .ok (.getfield 34, 3) := by decide +kernel
theorem d_M_put_58 : decode c_M_put 58 = .ok (.iload_n 1, 1) := by decide +kernel
theorem d_M_put_59 : decode c_M_put 59 = .ok (.aload_n 0, 1) := by decide +kernel
theorem d_M_put_60 : decode c_M_put 60 = .ok (.getfield 104, 3) := by decide +kernel
theorem d_M_put_63 : decode c_M_put 63 = .ok (.i2l, 1) := by decide +kernel
theorem d_M_put_64 : decode c_M_put 64 = .ok (.ldc2_w 107, 3) := by decide +kernel
theorem d_M_put_67 : decode c_M_put 67 = .ok (.lor, 1) := by decide +kernel
theorem d_M_put_68 : decode c_M_put 68 = .ok (.lastore, 1) := by decide +kernel
theorem d_M_put_69 : decode c_M_put 69 = .ok (.aload_n 0, 1) := by decide +kernel
theorem d_M_put_70 : decode c_M_put 70 = .ok (.dup, 1) := by decide +kernel
theorem d_M_put_71 : decode c_M_put 71 = .ok (.getfield 104, 3) := by decide +kernel
theorem d_M_put_74 : decode c_M_put 74 = .ok (.iconst 1, 1) := by decide +kernel
theorem d_M_put_75 : decode c_M_put 75 = .ok (.iadd, 1) := by decide +kernel
theorem d_M_put_76 : decode c_M_put 76 = .ok (.putfield 104, 3) := by decide +kernel
theorem d_M_put_79 : decode c_M_put 79 = .ok (.aload_n 0, 1) := by decide +kernel
theorem d_M_put_80 : decode c_M_put 80 = .ok (.dup, 1) := by decide +kernel
theorem d_M_put_81 : decode c_M_put 81 = .ok (.getfield 37, 3) := by decide +kernel
theorem d_M_put_84 : decode c_M_put 84 = .ok (.iconst 1, 1) := by decide +kernel
theorem d_M_put_85 : decode c_M_put 85 = .ok (.iadd, 1) := by decide +kernel
theorem d_M_put_86 : decode c_M_put 86 = .ok (.putfield 37, 3) := by decide +kernel
theorem d_M_put_89 : decode c_M_put 89 = .ok (.return_, 1) := by decide +kernel
abbrev c_M_drop : ByteArray := prog_10_method_26_code
abbrev y_M_drop : MethodName := ⟨"FingerSpansModel", "drop", "(I)V"⟩
theorem k_M_drop : Cond.code y_M_drop c_M_drop 3 (none : Option FieldType) ∈ lw_tbl := List.mem_of_getElem? (i := 634) (by decide +kernel)
theorem b_M_drop : x_ce y_M_drop c_M_drop 3 (none : Option FieldType) 1 := ⟨k_M_drop, i_M, by decide +kernel⟩
theorem s_M_drop : Cond.instanceMethod y_M_drop ∈ lw_tbl := List.mem_of_getElem? (i := 633) (by decide +kernel)
theorem v_M_drop : Cond.selects "FingerSpansModel" y_M_drop y_M_drop ∈ lw_tbl := List.mem_of_getElem? (i := 43) (by decide +kernel)
theorem d_M_drop_0 : decode c_M_drop 0 = .ok (.aload_n 0, 1) := by decide +kernel
theorem d_M_drop_1 : decode c_M_drop 1 = .ok (.dup, 1) := by decide +kernel
theorem d_M_drop_2 : decode c_M_drop 2 = .ok (.getfield 37, 3) := by decide +kernel
theorem d_M_drop_5 : decode c_M_drop 5 = .ok (.iconst 1, 1) := by decide +kernel
theorem d_M_drop_6 : decode c_M_drop 6 = .ok (.isub, 1) := by decide +kernel
theorem d_M_drop_7 : decode c_M_drop 7 = .ok (.putfield 37, 3) := by decide +kernel
theorem d_M_drop_10 : decode c_M_drop 10 = .ok (.iload_n 1, 1) := by decide +kernel
theorem d_M_drop_11 : decode c_M_drop 11 = .ok (.istore_n 2, 1) := by decide +kernel
theorem d_M_drop_12 : decode c_M_drop 12 = .ok (.iload_n 2, 1) := by decide +kernel
theorem d_M_drop_13 : decode c_M_drop 13 = .ok (.aload_n 0, 1) := by decide +kernel
theorem d_M_drop_14 : decode c_M_drop 14 = .ok (.getfield 37, 3) := by decide +kernel
theorem d_M_drop_17 : decode c_M_drop 17 = .ok (.if_icmp .ge 23, 3) := by decide +kernel
theorem d_M_drop_20 : decode c_M_drop 20 = .ok (.aload_n 0, 1) := by decide +kernel
theorem d_M_drop_21 : decode c_M_drop 21 = .ok (.getfield 34, 3) := by decide +kernel
theorem d_M_drop_24 : decode c_M_drop 24 = .ok (.iload_n 2, 1) := by decide +kernel
theorem d_M_drop_25 : decode c_M_drop 25 = .ok (.aload_n 0, 1) := by decide +kernel
theorem d_M_drop_26 : decode c_M_drop 26 = .ok (.getfield 34, 3) := by decide +kernel
theorem d_M_drop_29 : decode c_M_drop 29 = .ok (.iload_n 2, 1) := by decide +kernel
theorem d_M_drop_30 : decode c_M_drop 30 = .ok (.iconst 1, 1) := by decide +kernel
theorem d_M_drop_31 : decode c_M_drop 31 = .ok (.iadd, 1) := by decide +kernel
theorem d_M_drop_32 : decode c_M_drop 32 = .ok (.laload, 1) := by decide +kernel
theorem d_M_drop_33 : decode c_M_drop 33 = .ok (.lastore, 1) := by decide +kernel
theorem d_M_drop_34 : decode c_M_drop 34 = .ok (.iinc 2 1, 3) := by decide +kernel
theorem d_M_drop_37 : decode c_M_drop 37 = .ok (.goto (-25), 3) := by decide +kernel
theorem d_M_drop_40 : decode c_M_drop 40 = .ok (.return_, 1) := by decide +kernel
abbrev c_M_pushFront : ByteArray := prog_10_method_27_code
abbrev y_M_pushFront : MethodName := ⟨"FingerSpansModel", "pushFront", "(III)I"⟩
theorem k_M_pushFront : Cond.code y_M_pushFront c_M_pushFront 4 (some FieldType.int) ∈ lw_tbl := List.mem_of_getElem? (i := 567) (by decide +kernel)
theorem b_M_pushFront : x_ce y_M_pushFront c_M_pushFront 4 (some FieldType.int) 3 := ⟨k_M_pushFront, i_M, by decide +kernel⟩
theorem s_M_pushFront : Cond.instanceMethod y_M_pushFront ∈ lw_tbl := List.mem_of_getElem? (i := 565) (by decide +kernel)
theorem v_M_pushFront : Cond.selects "FingerSpansModel" y_M_pushFront y_M_pushFront ∈ lw_tbl := List.mem_of_getElem? (i := 566) (by decide +kernel)
theorem d_M_pushFront_0 : decode c_M_pushFront 0 = .ok (.aload_n 0, 1) := by decide +kernel
theorem d_M_pushFront_1 : decode c_M_pushFront 1 = .ok (.iload_n 1, 1) := by decide +kernel
theorem d_M_pushFront_2 : decode c_M_pushFront 2 = .ok (.invokevirtual 109, 3) := by decide +kernel
theorem d_M_pushFront_5 : decode c_M_pushFront 5 = .ok (.ifCond .ne 8, 3) := by decide +kernel
theorem d_M_pushFront_8 : decode c_M_pushFront 8 = .ok (.iload_n 2, 1) := by decide +kernel
theorem d_M_pushFront_9 : decode c_M_pushFront 9 = .ok (.iload_n 3, 1) := by decide +kernel
theorem d_M_pushFront_10 : decode c_M_pushFront 10 = .ok (.if_icmp .le 5, 3) := by decide +kernel
theorem d_M_pushFront_13 : decode c_M_pushFront 13 = .ok (.iconst (-1), 1) := by decide +kernel
theorem d_M_pushFront_14 : decode c_M_pushFront 14 = .ok (.ireturn, 1) := by decide +kernel
theorem d_M_pushFront_15 : decode c_M_pushFront 15 = .ok (.aload_n 0, 1) := by decide +kernel
theorem d_M_pushFront_16 : decode c_M_pushFront 16 = .ok (.getfield 30, 3) := by decide +kernel
theorem d_M_pushFront_19 : decode c_M_pushFront 19 = .ok (.bipush 120, 2) := by decide +kernel
theorem d_M_pushFront_21 : decode c_M_pushFront 21 = .ok (.if_icmp .ge 14, 3) := by decide +kernel
theorem d_M_pushFront_24 : decode c_M_pushFront 24 = .ok (.aload_n 0, 1) := by decide +kernel
theorem d_M_pushFront_25 : decode c_M_pushFront 25 = .ok (.getfield 27, 3) := by decide +kernel
theorem d_M_pushFront_28 : decode c_M_pushFront 28 = .ok (.iload_n 1, 1) := by decide +kernel
theorem d_M_pushFront_29 : decode c_M_pushFront 29 = .ok (.baload, 1) := by decide +kernel
theorem d_M_pushFront_30 : decode c_M_pushFront 30 = .ok (.bipush 40, 2) := by decide +kernel
theorem d_M_pushFront_32 : decode c_M_pushFront 32 = .ok (.if_icmp .lt 6, 3) := by decide +kernel
theorem d_M_pushFront_35 : decode c_M_pushFront 35 = .ok (.bipush (-2), 2) := by decide +kernel
theorem d_M_pushFront_37 : decode c_M_pushFront 37 = .ok (.ireturn, 1) := by decide +kernel
theorem d_M_pushFront_38 : decode c_M_pushFront 38 = .ok (.aload_n 0, 1) := by decide +kernel
theorem d_M_pushFront_39 : decode c_M_pushFront 39 = .ok (.iload_n 1, 1) := by decide +kernel
theorem d_M_pushFront_40 : decode c_M_pushFront 40 = .ok (.invokevirtual 113, 3) := by decide +kernel
theorem d_M_pushFront_43 : decode c_M_pushFront 43 = .ok (.aload_n 0, 1) := by decide +kernel
theorem d_M_pushFront_44 : decode c_M_pushFront 44 = .ok (.iconst 0, 1) := by decide +kernel
theorem d_M_pushFront_45 : decode c_M_pushFront 45 = .ok (.iload_n 2, 1) := by decide +kernel
theorem d_M_pushFront_46 : decode c_M_pushFront 46 = .ok (.iload_n 3, 1) := by decide +kernel
theorem d_M_pushFront_47 : decode c_M_pushFront 47 = .ok (.invokevirtual 117, 3) := by decide +kernel
theorem d_M_pushFront_50 : decode c_M_pushFront 50 = .ok (.aload_n 0, 1) := by decide +kernel
theorem d_M_pushFront_51 : decode c_M_pushFront 51 = .ok (.iconst 0, 1) := by decide +kernel
theorem d_M_pushFront_52 : decode c_M_pushFront 52 = .ok (.iconst 0, 1) := by decide +kernel
theorem d_M_pushFront_53 : decode c_M_pushFront 53 = .ok (.invokevirtual 98, 3) := by decide +kernel
theorem d_M_pushFront_56 : decode c_M_pushFront 56 = .ok (.aload_n 0, 1) := by decide +kernel
theorem d_M_pushFront_57 : decode c_M_pushFront 57 = .ok (.iconst 0, 1) := by decide +kernel
theorem d_M_pushFront_58 : decode c_M_pushFront 58 = .ok (.aload_n 0, 1) := by decide +kernel
theorem d_M_pushFront_59 : decode c_M_pushFront 59 = .ok (.getfield 37, 3) := by decide +kernel
theorem d_M_pushFront_62 : decode c_M_pushFront 62 = .ok (.invokevirtual 120, 3) := by decide +kernel
theorem d_M_pushFront_65 : decode c_M_pushFront 65 = .ok (.ireturn, 1) := by decide +kernel
abbrev c_M_pushBack : ByteArray := prog_10_method_28_code
abbrev y_M_pushBack : MethodName := ⟨"FingerSpansModel", "pushBack", "(III)I"⟩
theorem k_M_pushBack : Cond.code y_M_pushBack c_M_pushBack 4 (some FieldType.int) ∈ lw_tbl := List.mem_of_getElem? (i := 618) (by decide +kernel)
theorem b_M_pushBack : x_ce y_M_pushBack c_M_pushBack 4 (some FieldType.int) 3 := ⟨k_M_pushBack, i_M, by decide +kernel⟩
theorem s_M_pushBack : Cond.instanceMethod y_M_pushBack ∈ lw_tbl := List.mem_of_getElem? (i := 616) (by decide +kernel)
theorem v_M_pushBack : Cond.selects "FingerSpansModel" y_M_pushBack y_M_pushBack ∈ lw_tbl := List.mem_of_getElem? (i := 617) (by decide +kernel)
theorem d_M_pushBack_0 : decode c_M_pushBack 0 = .ok (.aload_n 0, 1) := by decide +kernel
theorem d_M_pushBack_1 : decode c_M_pushBack 1 = .ok (.iload_n 1, 1) := by decide +kernel
theorem d_M_pushBack_2 : decode c_M_pushBack 2 = .ok (.invokevirtual 109, 3) := by decide +kernel
theorem d_M_pushBack_5 : decode c_M_pushBack 5 = .ok (.ifCond .ne 8, 3) := by decide +kernel
theorem d_M_pushBack_8 : decode c_M_pushBack 8 = .ok (.iload_n 2, 1) := by decide +kernel
theorem d_M_pushBack_9 : decode c_M_pushBack 9 = .ok (.iload_n 3, 1) := by decide +kernel
theorem d_M_pushBack_10 : decode c_M_pushBack 10 = .ok (.if_icmp .le 5, 3) := by decide +kernel
theorem d_M_pushBack_13 : decode c_M_pushBack 13 = .ok (.iconst (-1), 1) := by decide +kernel
theorem d_M_pushBack_14 : decode c_M_pushBack 14 = .ok (.ireturn, 1) := by decide +kernel
theorem d_M_pushBack_15 : decode c_M_pushBack 15 = .ok (.aload_n 0, 1) := by decide +kernel
theorem d_M_pushBack_16 : decode c_M_pushBack 16 = .ok (.getfield 30, 3) := by decide +kernel
theorem d_M_pushBack_19 : decode c_M_pushBack 19 = .ok (.bipush 120, 2) := by decide +kernel
theorem d_M_pushBack_21 : decode c_M_pushBack 21 = .ok (.if_icmp .ge 14, 3) := by decide +kernel
theorem d_M_pushBack_24 : decode c_M_pushBack 24 = .ok (.aload_n 0, 1) := by decide +kernel
theorem d_M_pushBack_25 : decode c_M_pushBack 25 = .ok (.getfield 27, 3) := by decide +kernel
theorem d_M_pushBack_28 : decode c_M_pushBack 28 = .ok (.iload_n 1, 1) := by decide +kernel
theorem d_M_pushBack_29 : decode c_M_pushBack 29 = .ok (.baload, 1) := by decide +kernel
theorem d_M_pushBack_30 : decode c_M_pushBack 30 = .ok (.bipush 40, 2) := by decide +kernel
theorem d_M_pushBack_32 : decode c_M_pushBack 32 = .ok (.if_icmp .lt 6, 3) := by decide +kernel
theorem d_M_pushBack_35 : decode c_M_pushBack 35 = .ok (.bipush (-2), 2) := by decide +kernel
theorem d_M_pushBack_37 : decode c_M_pushBack 37 = .ok (.ireturn, 1) := by decide +kernel
theorem d_M_pushBack_38 : decode c_M_pushBack 38 = .ok (.aload_n 0, 1) := by decide +kernel
theorem d_M_pushBack_39 : decode c_M_pushBack 39 = .ok (.iload_n 1, 1) := by decide +kernel
theorem d_M_pushBack_40 : decode c_M_pushBack 40 = .ok (.invokevirtual 113, 3) := by decide +kernel
theorem d_M_pushBack_43 : decode c_M_pushBack 43 = .ok (.aload_n 0, 1) := by decide +kernel
theorem d_M_pushBack_44 : decode c_M_pushBack 44 = .ok (.aload_n 0, 1) := by decide +kernel
theorem d_M_pushBack_45 : decode c_M_pushBack 45 = .ok (.getfield 37, 3) := by decide +kernel
theorem d_M_pushBack_48 : decode c_M_pushBack 48 = .ok (.iload_n 2, 1) := by decide +kernel
theorem d_M_pushBack_49 : decode c_M_pushBack 49 = .ok (.iload_n 3, 1) := by decide +kernel
theorem d_M_pushBack_50 : decode c_M_pushBack 50 = .ok (.invokevirtual 117, 3) := by decide +kernel
theorem d_M_pushBack_53 : decode c_M_pushBack 53 = .ok (.aload_n 0, 1) := by decide +kernel
theorem d_M_pushBack_54 : decode c_M_pushBack 54 = .ok (.aload_n 0, 1) := by decide +kernel
theorem d_M_pushBack_55 : decode c_M_pushBack 55 = .ok (.getfield 37, 3) := by decide +kernel
theorem d_M_pushBack_58 : decode c_M_pushBack 58 = .ok (.iconst 0, 1) := by decide +kernel
theorem d_M_pushBack_59 : decode c_M_pushBack 59 = .ok (.invokevirtual 101, 3) := by decide +kernel
theorem d_M_pushBack_62 : decode c_M_pushBack 62 = .ok (.aload_n 0, 1) := by decide +kernel
theorem d_M_pushBack_63 : decode c_M_pushBack 63 = .ok (.iconst 0, 1) := by decide +kernel
theorem d_M_pushBack_64 : decode c_M_pushBack 64 = .ok (.aload_n 0, 1) := by decide +kernel
theorem d_M_pushBack_65 : decode c_M_pushBack 65 = .ok (.getfield 37, 3) := by decide +kernel
theorem d_M_pushBack_68 : decode c_M_pushBack 68 = .ok (.invokevirtual 120, 3) := by decide +kernel
theorem d_M_pushBack_71 : decode c_M_pushBack 71 = .ok (.ireturn, 1) := by decide +kernel
abbrev c_M_popFront : ByteArray := prog_10_method_29_code
abbrev y_M_popFront : MethodName := ⟨"FingerSpansModel", "popFront", "(I)I"⟩
theorem k_M_popFront : Cond.code y_M_popFront c_M_popFront 2 (some FieldType.int) ∈ lw_tbl := List.mem_of_getElem? (i := 630) (by decide +kernel)
theorem b_M_popFront : x_ce y_M_popFront c_M_popFront 2 (some FieldType.int) 1 := ⟨k_M_popFront, i_M, by decide +kernel⟩
theorem s_M_popFront : Cond.instanceMethod y_M_popFront ∈ lw_tbl := List.mem_of_getElem? (i := 628) (by decide +kernel)
theorem v_M_popFront : Cond.selects "FingerSpansModel" y_M_popFront y_M_popFront ∈ lw_tbl := List.mem_of_getElem? (i := 629) (by decide +kernel)
theorem d_M_popFront_0 : decode c_M_popFront 0 = .ok (.aload_n 0, 1) := by decide +kernel
theorem d_M_popFront_1 : decode c_M_popFront 1 = .ok (.iload_n 1, 1) := by decide +kernel
theorem d_M_popFront_2 : decode c_M_popFront 2 = .ok (.invokevirtual 109, 3) := by decide +kernel
theorem d_M_popFront_5 : decode c_M_popFront 5 = .ok (.ifCond .ne 12, 3) := by decide +kernel
theorem d_M_popFront_8 : decode c_M_popFront 8 = .ok (.aload_n 0, 1) := by decide +kernel
theorem d_M_popFront_9 : decode c_M_popFront 9 = .ok (.getfield 27, 3) := by decide +kernel
theorem d_M_popFront_12 : decode c_M_popFront 12 = .ok (.iload_n 1, 1) := by decide +kernel
theorem d_M_popFront_13 : decode c_M_popFront 13 = .ok (.baload, 1) := by decide +kernel
theorem d_M_popFront_14 : decode c_M_popFront 14 = .ok (.ifCond .ne 5, 3) := by decide +kernel
theorem d_M_popFront_17 : decode c_M_popFront 17 = .ok (.iconst (-1), 1) := by decide +kernel
theorem d_M_popFront_18 : decode c_M_popFront 18 = .ok (.ireturn, 1) := by decide +kernel
theorem d_M_popFront_19 : decode c_M_popFront 19 = .ok (.aload_n 0, 1) := by decide +kernel
theorem d_M_popFront_20 : decode c_M_popFront 20 = .ok (.getfield 30, 3) := by decide +kernel
theorem d_M_popFront_23 : decode c_M_popFront 23 = .ok (.bipush 120, 2) := by decide +kernel
theorem d_M_popFront_25 : decode c_M_popFront 25 = .ok (.if_icmp .lt 6, 3) := by decide +kernel
theorem d_M_popFront_28 : decode c_M_popFront 28 = .ok (.bipush (-2), 2) := by decide +kernel
theorem d_M_popFront_30 : decode c_M_popFront 30 = .ok (.ireturn, 1) := by decide +kernel
theorem d_M_popFront_31 : decode c_M_popFront 31 = .ok (.aload_n 0, 1) := by decide +kernel
theorem d_M_popFront_32 : decode c_M_popFront 32 = .ok (.iload_n 1, 1) := by decide +kernel
theorem d_M_popFront_33 : decode c_M_popFront 33 = .ok (.invokevirtual 113, 3) := by decide +kernel
theorem d_M_popFront_36 : decode c_M_popFront 36 = .ok (.aload_n 0, 1) := by decide +kernel
theorem d_M_popFront_37 : decode c_M_popFront 37 = .ok (.iconst 0, 1) := by decide +kernel
theorem d_M_popFront_38 : decode c_M_popFront 38 = .ok (.invokevirtual 123, 3) := by decide +kernel
theorem d_M_popFront_41 : decode c_M_popFront 41 = .ok (.aload_n 0, 1) := by decide +kernel
theorem d_M_popFront_42 : decode c_M_popFront 42 = .ok (.iconst 0, 1) := by decide +kernel
theorem d_M_popFront_43 : decode c_M_popFront 43 = .ok (.iconst 0, 1) := by decide +kernel
theorem d_M_popFront_44 : decode c_M_popFront 44 = .ok (.invokevirtual 78, 3) := by decide +kernel
theorem d_M_popFront_47 : decode c_M_popFront 47 = .ok (.aload_n 0, 1) := by decide +kernel
theorem d_M_popFront_48 : decode c_M_popFront 48 = .ok (.iconst 0, 1) := by decide +kernel
theorem d_M_popFront_49 : decode c_M_popFront 49 = .ok (.aload_n 0, 1) := by decide +kernel
theorem d_M_popFront_50 : decode c_M_popFront 50 = .ok (.getfield 37, 3) := by decide +kernel
theorem d_M_popFront_53 : decode c_M_popFront 53 = .ok (.invokevirtual 120, 3) := by decide +kernel
theorem d_M_popFront_56 : decode c_M_popFront 56 = .ok (.ireturn, 1) := by decide +kernel
abbrev c_M_popBack : ByteArray := prog_10_method_30_code
abbrev y_M_popBack : MethodName := ⟨"FingerSpansModel", "popBack", "(I)I"⟩
theorem k_M_popBack : Cond.code y_M_popBack c_M_popBack 2 (some FieldType.int) ∈ lw_tbl := List.mem_of_getElem? (i := 646) (by decide +kernel)
theorem b_M_popBack : x_ce y_M_popBack c_M_popBack 2 (some FieldType.int) 1 := ⟨k_M_popBack, i_M, by decide +kernel⟩
theorem s_M_popBack : Cond.instanceMethod y_M_popBack ∈ lw_tbl := List.mem_of_getElem? (i := 644) (by decide +kernel)
theorem v_M_popBack : Cond.selects "FingerSpansModel" y_M_popBack y_M_popBack ∈ lw_tbl := List.mem_of_getElem? (i := 645) (by decide +kernel)
theorem d_M_popBack_0 : decode c_M_popBack 0 = .ok (.aload_n 0, 1) := by decide +kernel
theorem d_M_popBack_1 : decode c_M_popBack 1 = .ok (.iload_n 1, 1) := by decide +kernel
theorem d_M_popBack_2 : decode c_M_popBack 2 = .ok (.invokevirtual 109, 3) := by decide +kernel
theorem d_M_popBack_5 : decode c_M_popBack 5 = .ok (.ifCond .ne 12, 3) := by decide +kernel
theorem d_M_popBack_8 : decode c_M_popBack 8 = .ok (.aload_n 0, 1) := by decide +kernel
theorem d_M_popBack_9 : decode c_M_popBack 9 = .ok (.getfield 27, 3) := by decide +kernel
theorem d_M_popBack_12 : decode c_M_popBack 12 = .ok (.iload_n 1, 1) := by decide +kernel
theorem d_M_popBack_13 : decode c_M_popBack 13 = .ok (.baload, 1) := by decide +kernel
theorem d_M_popBack_14 : decode c_M_popBack 14 = .ok (.ifCond .ne 5, 3) := by decide +kernel
theorem d_M_popBack_17 : decode c_M_popBack 17 = .ok (.iconst (-1), 1) := by decide +kernel
theorem d_M_popBack_18 : decode c_M_popBack 18 = .ok (.ireturn, 1) := by decide +kernel
theorem d_M_popBack_19 : decode c_M_popBack 19 = .ok (.aload_n 0, 1) := by decide +kernel
theorem d_M_popBack_20 : decode c_M_popBack 20 = .ok (.getfield 30, 3) := by decide +kernel
theorem d_M_popBack_23 : decode c_M_popBack 23 = .ok (.bipush 120, 2) := by decide +kernel
theorem d_M_popBack_25 : decode c_M_popBack 25 = .ok (.if_icmp .lt 6, 3) := by decide +kernel
theorem d_M_popBack_28 : decode c_M_popBack 28 = .ok (.bipush (-2), 2) := by decide +kernel
theorem d_M_popBack_30 : decode c_M_popBack 30 = .ok (.ireturn, 1) := by decide +kernel
theorem d_M_popBack_31 : decode c_M_popBack 31 = .ok (.aload_n 0, 1) := by decide +kernel
theorem d_M_popBack_32 : decode c_M_popBack 32 = .ok (.iload_n 1, 1) := by decide +kernel
theorem d_M_popBack_33 : decode c_M_popBack 33 = .ok (.invokevirtual 113, 3) := by decide +kernel
theorem d_M_popBack_36 : decode c_M_popBack 36 = .ok (.aload_n 0, 1) := by decide +kernel
theorem d_M_popBack_37 : decode c_M_popBack 37 = .ok (.aload_n 0, 1) := by decide +kernel
theorem d_M_popBack_38 : decode c_M_popBack 38 = .ok (.getfield 37, 3) := by decide +kernel
theorem d_M_popBack_41 : decode c_M_popBack 41 = .ok (.iconst 1, 1) := by decide +kernel
theorem d_M_popBack_42 : decode c_M_popBack 42 = .ok (.isub, 1) := by decide +kernel
theorem d_M_popBack_43 : decode c_M_popBack 43 = .ok (.invokevirtual 123, 3) := by decide +kernel
theorem d_M_popBack_46 : decode c_M_popBack 46 = .ok (.aload_n 0, 1) := by decide +kernel
theorem d_M_popBack_47 : decode c_M_popBack 47 = .ok (.aload_n 0, 1) := by decide +kernel
theorem d_M_popBack_48 : decode c_M_popBack 48 = .ok (.getfield 37, 3) := by decide +kernel
theorem d_M_popBack_51 : decode c_M_popBack 51 = .ok (.iconst 0, 1) := by decide +kernel
theorem d_M_popBack_52 : decode c_M_popBack 52 = .ok (.invokevirtual 82, 3) := by decide +kernel
theorem d_M_popBack_55 : decode c_M_popBack 55 = .ok (.aload_n 0, 1) := by decide +kernel
theorem d_M_popBack_56 : decode c_M_popBack 56 = .ok (.iconst 0, 1) := by decide +kernel
theorem d_M_popBack_57 : decode c_M_popBack 57 = .ok (.aload_n 0, 1) := by decide +kernel
theorem d_M_popBack_58 : decode c_M_popBack 58 = .ok (.getfield 37, 3) := by decide +kernel
theorem d_M_popBack_61 : decode c_M_popBack 61 = .ok (.invokevirtual 120, 3) := by decide +kernel
theorem d_M_popBack_64 : decode c_M_popBack 64 = .ok (.ireturn, 1) := by decide +kernel
abbrev c_M_concat : ByteArray := prog_10_method_31_code
abbrev y_M_concat : MethodName := ⟨"FingerSpansModel", "concat", "(II)I"⟩
theorem k_M_concat : Cond.code y_M_concat c_M_concat 5 (some FieldType.int) ∈ lw_tbl := List.mem_of_getElem? (i := 654) (by decide +kernel)
theorem b_M_concat : x_ce y_M_concat c_M_concat 5 (some FieldType.int) 2 := ⟨k_M_concat, i_M, by decide +kernel⟩
theorem s_M_concat : Cond.instanceMethod y_M_concat ∈ lw_tbl := List.mem_of_getElem? (i := 652) (by decide +kernel)
theorem v_M_concat : Cond.selects "FingerSpansModel" y_M_concat y_M_concat ∈ lw_tbl := List.mem_of_getElem? (i := 653) (by decide +kernel)
theorem d_M_concat_0 : decode c_M_concat 0 = .ok (.aload_n 0, 1) := by decide +kernel
theorem d_M_concat_1 : decode c_M_concat 1 = .ok (.iload_n 1, 1) := by decide +kernel
theorem d_M_concat_2 : decode c_M_concat 2 = .ok (.invokevirtual 109, 3) := by decide +kernel
theorem d_M_concat_5 : decode c_M_concat 5 = .ok (.ifCond .ne 11, 3) := by decide +kernel
theorem d_M_concat_8 : decode c_M_concat 8 = .ok (.aload_n 0, 1) := by decide +kernel
theorem d_M_concat_9 : decode c_M_concat 9 = .ok (.iload_n 2, 1) := by decide +kernel
theorem d_M_concat_10 : decode c_M_concat 10 = .ok (.invokevirtual 109, 3) := by decide +kernel
theorem d_M_concat_13 : decode c_M_concat 13 = .ok (.ifCond .eq 5, 3) := by decide +kernel
theorem d_M_concat_16 : decode c_M_concat 16 = .ok (.iconst (-1), 1) := by decide +kernel
theorem d_M_concat_17 : decode c_M_concat 17 = .ok (.ireturn, 1) := by decide +kernel
theorem d_M_concat_18 : decode c_M_concat 18 = .ok (.aload_n 0, 1) := by decide +kernel
theorem d_M_concat_19 : decode c_M_concat 19 = .ok (.getfield 30, 3) := by decide +kernel
theorem d_M_concat_22 : decode c_M_concat 22 = .ok (.bipush 120, 2) := by decide +kernel
theorem d_M_concat_24 : decode c_M_concat 24 = .ok (.if_icmp .ge 21, 3) := by decide +kernel
theorem d_M_concat_27 : decode c_M_concat 27 = .ok (.aload_n 0, 1) := by decide +kernel
theorem d_M_concat_28 : decode c_M_concat 28 = .ok (.getfield 27, 3) := by decide +kernel
theorem d_M_concat_31 : decode c_M_concat 31 = .ok (.iload_n 1, 1) := by decide +kernel
theorem d_M_concat_32 : decode c_M_concat 32 = .ok (.baload, 1) := by decide +kernel
theorem d_M_concat_33 : decode c_M_concat 33 = .ok (.aload_n 0, 1) := by decide +kernel
theorem d_M_concat_34 : decode c_M_concat 34 = .ok (.getfield 27, 3) := by decide +kernel
theorem d_M_concat_37 : decode c_M_concat 37 = .ok (.iload_n 2, 1) := by decide +kernel
theorem d_M_concat_38 : decode c_M_concat 38 = .ok (.baload, 1) := by decide +kernel
theorem d_M_concat_39 : decode c_M_concat 39 = .ok (.iadd, 1) := by decide +kernel
theorem d_M_concat_40 : decode c_M_concat 40 = .ok (.bipush 40, 2) := by decide +kernel
theorem d_M_concat_42 : decode c_M_concat 42 = .ok (.if_icmp .le 6, 3) := by decide +kernel
theorem d_M_concat_45 : decode c_M_concat 45 = .ok (.bipush (-2), 2) := by decide +kernel
theorem d_M_concat_47 : decode c_M_concat 47 = .ok (.ireturn, 1) := by decide +kernel
theorem d_M_concat_48 : decode c_M_concat 48 = .ok (.aload_n 0, 1) := by decide +kernel
theorem d_M_concat_49 : decode c_M_concat 49 = .ok (.iload_n 1, 1) := by decide +kernel
theorem d_M_concat_50 : decode c_M_concat 50 = .ok (.invokevirtual 113, 3) := by decide +kernel
theorem d_M_concat_53 : decode c_M_concat 53 = .ok (.aload_n 0, 1) := by decide +kernel
theorem d_M_concat_54 : decode c_M_concat 54 = .ok (.getfield 37, 3) := by decide +kernel
theorem d_M_concat_57 : decode c_M_concat 57 = .ok (.istore_n 3, 1) := by decide +kernel
theorem d_M_concat_58 : decode c_M_concat 58 = .ok (.iconst 0, 1) := by decide +kernel
theorem d_M_concat_59 : decode c_M_concat 59 = .ok (.istore 4, 2) := by decide +kernel
theorem d_M_concat_61 : decode c_M_concat 61 = .ok (.iload 4, 2) := by decide +kernel
theorem d_M_concat_63 : decode c_M_concat 63 = .ok (.aload_n 0, 1) := by decide +kernel
theorem d_M_concat_64 : decode c_M_concat 64 = .ok (.getfield 27, 3) := by decide +kernel
theorem d_M_concat_67 : decode c_M_concat 67 = .ok (.iload_n 2, 1) := by decide +kernel
theorem d_M_concat_68 : decode c_M_concat 68 = .ok (.baload, 1) := by decide +kernel
theorem d_M_concat_69 : decode c_M_concat 69 = .ok (.if_icmp .ge 30, 3) := by decide +kernel
theorem d_M_concat_72 : decode c_M_concat 72 = .ok (.aload_n 0, 1) := by decide +kernel
theorem d_M_concat_73 : decode c_M_concat 73 = .ok (.getfield 34, 3) := by decide +kernel
theorem d_M_concat_76 : decode c_M_concat 76 = .ok (.iload_n 3, 1) := by decide +kernel
theorem d_M_concat_77 : decode c_M_concat 77 = .ok (.iload 4, 2) := by decide +kernel
theorem d_M_concat_79 : decode c_M_concat 79 = .ok (.iadd, 1) := by decide +kernel
theorem d_M_concat_80 : decode c_M_concat 80 = .ok (.aload_n 0, 1) := by decide +kernel
theorem d_M_concat_81 : decode c_M_concat 81 = .ok (.getfield 23, 3) := by decide +kernel
theorem d_M_concat_84 : decode c_M_concat 84 = .ok (.bipush 40, 2) := by decide +kernel
theorem d_M_concat_86 : decode c_M_concat 86 = .ok (.iload_n 2, 1) := by decide +kernel
theorem d_M_concat_87 : decode c_M_concat 87 = .ok (.imul, 1) := by decide +kernel
theorem d_M_concat_88 : decode c_M_concat 88 = .ok (.iload 4, 2) := by decide +kernel
theorem d_M_concat_90 : decode c_M_concat 90 = .ok (.iadd, 1) := by decide +kernel
theorem d_M_concat_91 : decode c_M_concat 91 = .ok (.laload, 1) := by decide +kernel
theorem d_M_concat_92 : decode c_M_concat 92 = .ok (.lastore, 1) := by decide +kernel
theorem d_M_concat_93 : decode c_M_concat 93 = .ok (.iinc 4 1, 3) := by decide +kernel
theorem d_M_concat_96 : decode c_M_concat 96 = .ok (.goto (-35), 3) := by decide +kernel
theorem d_M_concat_99 : decode c_M_concat 99 = .ok (.aload_n 0, 1) := by decide +kernel
theorem d_M_concat_100 : decode c_M_concat 100 = .ok (.iload_n 3, 1) := by decide +kernel
theorem d_M_concat_101 : decode c_M_concat 101 = .ok (.aload_n 0, 1) := by decide +kernel
theorem d_M_concat_102 : decode c_M_concat 102 = .ok (.getfield 27, 3) := by decide +kernel
theorem d_M_concat_105 : decode c_M_concat 105 = .ok (.iload_n 2, 1) := by decide +kernel
theorem d_M_concat_106 : decode c_M_concat 106 = .ok (.baload, 1) := by decide +kernel
theorem d_M_concat_107 : decode c_M_concat 107 = .ok (.iadd, 1) := by decide +kernel
theorem d_M_concat_108 : decode c_M_concat 108 = .ok (.putfield 37, 3) := by decide +kernel
theorem d_M_concat_111 : decode c_M_concat 111 = .ok (.aload_n 0, 1) := by decide +kernel
theorem d_M_concat_112 : decode c_M_concat 112 = .ok (.iload_n 3, 1) := by decide +kernel
theorem d_M_concat_113 : decode c_M_concat 113 = .ok (.invokevirtual 126, 3) := by decide +kernel
theorem d_M_concat_116 : decode c_M_concat 116 = .ok (.aload_n 0, 1) := by decide +kernel
theorem d_M_concat_117 : decode c_M_concat 117 = .ok (.iconst 0, 1) := by decide +kernel
theorem d_M_concat_118 : decode c_M_concat 118 = .ok (.aload_n 0, 1) := by decide +kernel
theorem d_M_concat_119 : decode c_M_concat 119 = .ok (.getfield 37, 3) := by decide +kernel
theorem d_M_concat_122 : decode c_M_concat 122 = .ok (.invokevirtual 120, 3) := by decide +kernel
theorem d_M_concat_125 : decode c_M_concat 125 = .ok (.ireturn, 1) := by decide +kernel
abbrev c_M_halves : ByteArray := prog_10_method_32_code
abbrev y_M_halves : MethodName := ⟨"FingerSpansModel", "halves", "(I)V"⟩
theorem k_M_halves : Cond.code y_M_halves c_M_halves 2 (none : Option FieldType) ∈ lw_tbl := List.mem_of_getElem? (i := 682) (by decide +kernel)
theorem b_M_halves : x_ce y_M_halves c_M_halves 2 (none : Option FieldType) 1 := ⟨k_M_halves, i_M, by decide +kernel⟩
theorem s_M_halves : Cond.instanceMethod y_M_halves ∈ lw_tbl := List.mem_of_getElem? (i := 681) (by decide +kernel)
theorem v_M_halves : Cond.selects "FingerSpansModel" y_M_halves y_M_halves ∈ lw_tbl := List.mem_of_getElem? (i := 52) (by decide +kernel)
theorem d_M_halves_0 : decode c_M_halves 0 = .ok (.iload_n 1, 1) := by decide +kernel
theorem d_M_halves_1 : decode c_M_halves 1 = .ok (.aload_n 0, 1) := by decide +kernel
theorem d_M_halves_2 : decode c_M_halves 2 = .ok (.getfield 37, 3) := by decide +kernel
theorem d_M_halves_5 : decode c_M_halves 5 = .ok (.if_icmp .ge 14, 3) := by decide +kernel
theorem d_M_halves_8 : decode c_M_halves 8 = .ok (.aload_n 0, 1) := by decide +kernel
theorem d_M_halves_9 : decode c_M_halves 9 = .ok (.iload_n 1, 1) := by decide +kernel
theorem d_M_halves_10 : decode c_M_halves 10 = .ok (.invokevirtual 129, 3) := by decide +kernel
theorem d_M_halves_13 : decode c_M_halves 13 = .ok (.aload_n 0, 1) := by decide +kernel
theorem d_M_halves_14 : decode c_M_halves 14 = .ok (.iload_n 1, 1) := by decide +kernel
theorem d_M_halves_15 : decode c_M_halves 15 = .ok (.iconst 0, 1) := by decide +kernel
theorem d_M_halves_16 : decode c_M_halves 16 = .ok (.invokevirtual 98, 3) := by decide +kernel
theorem d_M_halves_19 : decode c_M_halves 19 = .ok (.return_, 1) := by decide +kernel
abbrev c_M_split : ByteArray := prog_10_method_33_code
abbrev y_M_split : MethodName := ⟨"FingerSpansModel", "split", "(II)I"⟩
theorem k_M_split : Cond.code y_M_split c_M_split 4 (some FieldType.int) ∈ lw_tbl := List.mem_of_getElem? (i := 678) (by decide +kernel)
theorem b_M_split : x_ce y_M_split c_M_split 4 (some FieldType.int) 2 := ⟨k_M_split, i_M, by decide +kernel⟩
theorem s_M_split : Cond.instanceMethod y_M_split ∈ lw_tbl := List.mem_of_getElem? (i := 676) (by decide +kernel)
theorem v_M_split : Cond.selects "FingerSpansModel" y_M_split y_M_split ∈ lw_tbl := List.mem_of_getElem? (i := 677) (by decide +kernel)
theorem d_M_split_0 : decode c_M_split 0 = .ok (.aload_n 0, 1) := by decide +kernel
theorem d_M_split_1 : decode c_M_split 1 = .ok (.iload_n 1, 1) := by decide +kernel
theorem d_M_split_2 : decode c_M_split 2 = .ok (.invokevirtual 109, 3) := by decide +kernel
theorem d_M_split_5 : decode c_M_split 5 = .ok (.ifCond .ne 17, 3) := by decide +kernel
theorem d_M_split_8 : decode c_M_split 8 = .ok (.iload_n 2, 1) := by decide +kernel
theorem d_M_split_9 : decode c_M_split 9 = .ok (.ifCond .lt 13, 3) := by decide +kernel
theorem d_M_split_12 : decode c_M_split 12 = .ok (.iload_n 2, 1) := by decide +kernel
theorem d_M_split_13 : decode c_M_split 13 = .ok (.aload_n 0, 1) := by decide +kernel
theorem d_M_split_14 : decode c_M_split 14 = .ok (.getfield 27, 3) := by decide +kernel
theorem d_M_split_17 : decode c_M_split 17 = .ok (.iload_n 1, 1) := by decide +kernel
theorem d_M_split_18 : decode c_M_split 18 = .ok (.baload, 1) := by decide +kernel
theorem d_M_split_19 : decode c_M_split 19 = .ok (.if_icmp .le 5, 3) := by decide +kernel
theorem d_M_split_22 : decode c_M_split 22 = .ok (.iconst (-1), 1) := by decide +kernel
theorem d_M_split_23 : decode c_M_split 23 = .ok (.ireturn, 1) := by decide +kernel
theorem d_M_split_24 : decode c_M_split 24 = .ok (.aload_n 0, 1) := by decide +kernel
theorem d_M_split_25 : decode c_M_split 25 = .ok (.getfield 30, 3) := by decide +kernel
theorem d_M_split_28 : decode c_M_split 28 = .ok (.bipush 118, 2) := by decide +kernel
theorem d_M_split_30 : decode c_M_split 30 = .ok (.if_icmp .le 6, 3) := by decide +kernel
theorem d_M_split_33 : decode c_M_split 33 = .ok (.bipush (-2), 2) := by decide +kernel
theorem d_M_split_35 : decode c_M_split 35 = .ok (.ireturn, 1) := by decide +kernel
theorem d_M_split_36 : decode c_M_split 36 = .ok (.aload_n 0, 1) := by decide +kernel
theorem d_M_split_37 : decode c_M_split 37 = .ok (.iload_n 1, 1) := by decide +kernel
theorem d_M_split_38 : decode c_M_split 38 = .ok (.invokevirtual 113, 3) := by decide +kernel
theorem d_M_split_41 : decode c_M_split 41 = .ok (.aload_n 0, 1) := by decide +kernel
theorem d_M_split_42 : decode c_M_split 42 = .ok (.iload_n 2, 1) := by decide +kernel
theorem d_M_split_43 : decode c_M_split 43 = .ok (.invokevirtual 132, 3) := by decide +kernel
theorem d_M_split_46 : decode c_M_split 46 = .ok (.aload_n 0, 1) := by decide +kernel
theorem d_M_split_47 : decode c_M_split 47 = .ok (.iconst 0, 1) := by decide +kernel
theorem d_M_split_48 : decode c_M_split 48 = .ok (.iload_n 2, 1) := by decide +kernel
theorem d_M_split_49 : decode c_M_split 49 = .ok (.invokevirtual 120, 3) := by decide +kernel
theorem d_M_split_52 : decode c_M_split 52 = .ok (.istore_n 3, 1) := by decide +kernel
theorem d_M_split_53 : decode c_M_split 53 = .ok (.aload_n 0, 1) := by decide +kernel
theorem d_M_split_54 : decode c_M_split 54 = .ok (.iload_n 2, 1) := by decide +kernel
theorem d_M_split_55 : decode c_M_split 55 = .ok (.aload_n 0, 1) := by decide +kernel
theorem d_M_split_56 : decode c_M_split 56 = .ok (.getfield 37, 3) := by decide +kernel
theorem d_M_split_59 : decode c_M_split 59 = .ok (.invokevirtual 120, 3) := by decide +kernel
theorem d_M_split_62 : decode c_M_split 62 = .ok (.pop, 1) := by decide +kernel
theorem d_M_split_63 : decode c_M_split 63 = .ok (.iload_n 3, 1) := by decide +kernel
theorem d_M_split_64 : decode c_M_split 64 = .ok (.ireturn, 1) := by decide +kernel
abbrev c_M_replace : ByteArray := prog_10_method_34_code
abbrev y_M_replace : MethodName := ⟨"FingerSpansModel", "replace", "(IIII)I"⟩
theorem k_M_replace : Cond.code y_M_replace c_M_replace 11 (some FieldType.int) ∈ lw_tbl := List.mem_of_getElem? (i := 690) (by decide +kernel)
theorem b_M_replace : x_ce y_M_replace c_M_replace 11 (some FieldType.int) 4 := ⟨k_M_replace, i_M, by decide +kernel⟩
theorem s_M_replace : Cond.instanceMethod y_M_replace ∈ lw_tbl := List.mem_of_getElem? (i := 688) (by decide +kernel)
theorem v_M_replace : Cond.selects "FingerSpansModel" y_M_replace y_M_replace ∈ lw_tbl := List.mem_of_getElem? (i := 689) (by decide +kernel)
theorem d_M_replace_0 : decode c_M_replace 0 = .ok (.aload_n 0, 1) := by decide +kernel
theorem d_M_replace_1 : decode c_M_replace 1 = .ok (.iload_n 1, 1) := by decide +kernel
theorem d_M_replace_2 : decode c_M_replace 2 = .ok (.invokevirtual 109, 3) := by decide +kernel
theorem d_M_replace_5 : decode c_M_replace 5 = .ok (.ifCond .ne 23, 3) := by decide +kernel
theorem d_M_replace_8 : decode c_M_replace 8 = .ok (.iload_n 2, 1) := by decide +kernel
theorem d_M_replace_9 : decode c_M_replace 9 = .ok (.ifCond .lt 19, 3) := by decide +kernel
theorem d_M_replace_12 : decode c_M_replace 12 = .ok (.iload_n 2, 1) := by decide +kernel
theorem d_M_replace_13 : decode c_M_replace 13 = .ok (.aload_n 0, 1) := by decide +kernel
theorem d_M_replace_14 : decode c_M_replace 14 = .ok (.getfield 27, 3) := by decide +kernel
theorem d_M_replace_17 : decode c_M_replace 17 = .ok (.iload_n 1, 1) := by decide +kernel
theorem d_M_replace_18 : decode c_M_replace 18 = .ok (.baload, 1) := by decide +kernel
theorem d_M_replace_19 : decode c_M_replace 19 = .ok (.if_icmp .ge 9, 3) := by decide +kernel
theorem d_M_replace_22 : decode c_M_replace 22 = .ok (.iload_n 3, 1) := by decide +kernel
theorem d_M_replace_23 : decode c_M_replace 23 = .ok (.iload 4, 2) := by decide +kernel
theorem d_M_replace_25 : decode c_M_replace 25 = .ok (.if_icmp .le 5, 3) := by decide +kernel
theorem d_M_replace_28 : decode c_M_replace 28 = .ok (.iconst (-1), 1) := by decide +kernel
theorem d_M_replace_29 : decode c_M_replace 29 = .ok (.ireturn, 1) := by decide +kernel
theorem d_M_replace_30 : decode c_M_replace 30 = .ok (.aload_n 0, 1) := by decide +kernel
theorem d_M_replace_31 : decode c_M_replace 31 = .ok (.getfield 30, 3) := by decide +kernel
theorem d_M_replace_34 : decode c_M_replace 34 = .ok (.bipush 120, 2) := by decide +kernel
theorem d_M_replace_36 : decode c_M_replace 36 = .ok (.if_icmp .lt 6, 3) := by decide +kernel
theorem d_M_replace_39 : decode c_M_replace 39 = .ok (.bipush (-2), 2) := by decide +kernel
theorem d_M_replace_41 : decode c_M_replace 41 = .ok (.ireturn, 1) := by decide +kernel
theorem d_M_replace_42 : decode c_M_replace 42 = .ok (.aload_n 0, 1) := by decide +kernel
theorem d_M_replace_43 : decode c_M_replace 43 = .ok (.iload_n 1, 1) := by decide +kernel
theorem d_M_replace_44 : decode c_M_replace 44 = .ok (.invokevirtual 113, 3) := by decide +kernel
theorem d_M_replace_47 : decode c_M_replace 47 = .ok (.aload_n 0, 1) := by decide +kernel
theorem d_M_replace_48 : decode c_M_replace 48 = .ok (.getfield 34, 3) := by decide +kernel
theorem d_M_replace_51 : decode c_M_replace 51 = .ok (.iload_n 2, 1) := by decide +kernel
theorem d_M_replace_52 : decode c_M_replace 52 = .ok (.laload, 1) := by decide +kernel
theorem d_M_replace_53 : decode c_M_replace 53 = .ok (.invokestatic 40, 3) := by decide +kernel
theorem d_M_replace_56 : decode c_M_replace 56 = .ok (.istore 5, 2) := by decide +kernel
theorem d_M_replace_58 : decode c_M_replace 58 = .ok (.iconst 0, 1) := by decide +kernel
theorem d_M_replace_59 : decode c_M_replace 59 = .ok (.istore 6, 2) := by decide +kernel
theorem d_M_replace_61 : decode c_M_replace 61 = .ok (.iconst 0, 1) := by decide +kernel
theorem d_M_replace_62 : decode c_M_replace 62 = .ok (.istore 7, 2) := by decide +kernel
theorem d_M_replace_64 : decode c_M_replace 64 = .ok (.aload_n 0, 1) := by decide +kernel
theorem d_M_replace_65 : decode c_M_replace 65 = .ok (.getfield 37, 3) := by decide +kernel
theorem d_M_replace_68 : decode c_M_replace 68 = .ok (.istore 8, 2) := by decide +kernel
theorem d_M_replace_70 : decode c_M_replace 70 = .ok (.iload 5, 2) := by decide +kernel
theorem d_M_replace_72 : decode c_M_replace 72 = .ok (.istore 9, 2) := by decide +kernel
theorem d_M_replace_74 : decode c_M_replace 74 = .ok (.iload 9, 2) := by decide +kernel
theorem d_M_replace_76 : decode c_M_replace 76 = .ok (.ifCond .le 155, 3) := by decide +kernel
theorem d_M_replace_79 : decode c_M_replace 79 = .ok (.iload 9, 2) := by decide +kernel
theorem d_M_replace_81 : decode c_M_replace 81 = .ok (.iload 5, 2) := by decide +kernel
theorem d_M_replace_83 : decode c_M_replace 83 = .ok (.if_icmp .ne 13, 3) := by decide +kernel
theorem d_M_replace_86 : decode c_M_replace 86 = .ok (.aload_n 0, 1) := by decide +kernel
theorem d_M_replace_87 : decode c_M_replace 87 = .ok (.iload_n 2, 1) := by decide +kernel
theorem d_M_replace_88 : decode c_M_replace 88 = .ok (.iload 9, 2) := by decide +kernel
theorem d_M_replace_90 : decode c_M_replace 90 = .ok (.invokevirtual 135, 3) := by decide +kernel
theorem d_M_replace_93 : decode c_M_replace 93 = .ok (.goto 5, 3) := by decide +kernel
theorem d_M_replace_96 : decode c_M_replace 96 = .ok (.iload 7, 2) := by decide +kernel
theorem d_M_replace_98 : decode c_M_replace 98 = .ok (.istore 6, 2) := by decide +kernel
theorem d_M_replace_100 : decode c_M_replace 100 = .ok (.aload_n 0, 1) := by decide +kernel
theorem d_M_replace_101 : decode c_M_replace 101 = .ok (.iload 6, 2) := by decide +kernel
theorem d_M_replace_103 : decode c_M_replace 103 = .ok (.iload 9, 2) := by decide +kernel
theorem d_M_replace_105 : decode c_M_replace 105 = .ok (.invokevirtual 60, 3) := by decide +kernel
theorem d_M_replace_108 : decode c_M_replace 108 = .ok (.iload_n 2, 1) := by decide +kernel
theorem d_M_replace_109 : decode c_M_replace 109 = .ok (.if_icmp .gt 16, 3) := by decide +kernel
theorem d_M_replace_112 : decode c_M_replace 112 = .ok (.aload_n 0, 1) := by decide +kernel
theorem d_M_replace_113 : decode c_M_replace 113 = .ok (.iload 6, 2) := by decide +kernel
theorem d_M_replace_115 : decode c_M_replace 115 = .ok (.iload 9, 2) := by decide +kernel
theorem d_M_replace_117 : decode c_M_replace 117 = .ok (.invokevirtual 60, 3) := by decide +kernel
theorem d_M_replace_120 : decode c_M_replace 120 = .ok (.istore 6, 2) := by decide +kernel
theorem d_M_replace_122 : decode c_M_replace 122 = .ok (.goto (-22), 3) := by decide +kernel
theorem d_M_replace_125 : decode c_M_replace 125 = .ok (.aload_n 0, 1) := by decide +kernel
theorem d_M_replace_126 : decode c_M_replace 126 = .ok (.iload 6, 2) := by decide +kernel
theorem d_M_replace_128 : decode c_M_replace 128 = .ok (.iload 9, 2) := by decide +kernel
theorem d_M_replace_130 : decode c_M_replace 130 = .ok (.invokevirtual 60, 3) := by decide +kernel
theorem d_M_replace_133 : decode c_M_replace 133 = .ok (.istore 8, 2) := by decide +kernel
theorem d_M_replace_135 : decode c_M_replace 135 = .ok (.iload 6, 2) := by decide +kernel
theorem d_M_replace_137 : decode c_M_replace 137 = .ok (.istore 7, 2) := by decide +kernel
theorem d_M_replace_139 : decode c_M_replace 139 = .ok (.aload_n 0, 1) := by decide +kernel
theorem d_M_replace_140 : decode c_M_replace 140 = .ok (.dup, 1) := by decide +kernel
theorem d_M_replace_141 : decode c_M_replace 141 = .ok (.getfield 53, 3) := by decide +kernel
theorem d_M_replace_144 : decode c_M_replace 144 = .ok (.iconst 1, 1) := by decide +kernel
theorem d_M_replace_145 : decode c_M_replace 145 = .ok (.iadd, 1) := by decide +kernel
theorem d_M_replace_146 : decode c_M_replace 146 = .ok (.putfield 53, 3) := by decide +kernel
theorem d_M_replace_149 : decode c_M_replace 149 = .ok (.aload_n 0, 1) := by decide +kernel
theorem d_M_replace_150 : decode c_M_replace 150 = .ok (.getfield 16, 3) := by decide +kernel
theorem d_M_replace_153 : decode c_M_replace 153 = .ok (.aload_n 0, 1) := by decide +kernel
theorem d_M_replace_154 : decode c_M_replace 154 = .ok (.getfield 53, 3) := by decide +kernel
theorem d_M_replace_157 : decode c_M_replace 157 = .ok (.iload 8, 2) := by decide +kernel
theorem d_M_replace_159 : decode c_M_replace 159 = .ok (.iload 7, 2) := by decide +kernel
theorem d_M_replace_161 : decode c_M_replace 161 = .ok (.isub, 1) := by decide +kernel
theorem d_M_replace_162 : decode c_M_replace 162 = .ok (.i2b, 1) := by decide +kernel
theorem d_M_replace_163 : decode c_M_replace 163 = .ok (.bastore, 1) := by decide +kernel
theorem d_M_replace_164 : decode c_M_replace 164 = .ok (.iload 7, 2) := by decide +kernel
theorem d_M_replace_166 : decode c_M_replace 166 = .ok (.istore 10, 2) := by decide +kernel
theorem d_M_replace_168 : decode c_M_replace 168 = .ok (.iload 10, 2) := by decide +kernel
theorem d_M_replace_170 : decode c_M_replace 170 = .ok (.iload 8, 2) := by decide +kernel
theorem d_M_replace_172 : decode c_M_replace 172 = .ok (.if_icmp .ge 53, 3) := by decide +kernel
theorem d_M_replace_175 : decode c_M_replace 175 = .ok (.aload_n 0, 1) := by decide +kernel
theorem d_M_replace_176 : decode c_M_replace 176 = .ok (.getfield 34, 3) := by decide +kernel
theorem d_M_replace_179 : decode c_M_replace 179 = .ok (.iload 10, 2) := by decide +kernel
theorem d_M_replace_181 : decode c_M_replace 181 = .ok (.aload_n 0, 1) := by decide +kernel
theorem d_M_replace_182 : decode c_M_replace 182 = .ok (.getfield 34, 3) := by decide +kernel
theorem d_M_replace_185 : decode c_M_replace 185 = .ok (.iload 10, 2) := by decide +kernel
theorem d_M_replace_187 : decode c_M_replace 187 = .ok (.laload, 1) := by decide +kernel
theorem d_M_replace_188 : decode c_M_replace 188 = .ok (.ldc2_w 138, 3) := by decide +kernel
theorem d_M_replace_191 : decode c_M_replace 191 = .ok (.bipush 13, 2) := by decide +kernel
theorem d_M_replace_193 : decode c_M_replace 193 = .ok (.iload 9, 2) := by decide +kernel
theorem d_M_replace_195 : decode c_M_replace 195 = .ok (.imul, 1) := by decide +kernel
theorem d_M_replace_196 : decode c_M_replace 196 = .ok (.iconst 1, 1) := by decide +kernel
theorem d_M_replace_197 : decode c_M_replace 197 = .ok (.isub, 1) := by decide +kernel
theorem d_M_replace_198 : decode c_M_replace 198 = .ok (.lshl, 1) := by decide +kernel
theorem d_M_replace_199 : decode c_M_replace 199 = .ok (.ldc2_w 140, 3) := by decide +kernel
theorem d_M_replace_202 : decode c_M_replace 202 = .ok (.lxor, 1) := by decide +kernel
theorem d_M_replace_203 : decode c_M_replace 203 = .ok (.land, 1) := by decide +kernel
theorem d_M_replace_204 : decode c_M_replace 204 = .ok (.aload_n 0, 1) := by decide +kernel
theorem d_M_replace_205 : decode c_M_replace 205 = .ok (.getfield 53, 3) := by decide +kernel
theorem d_M_replace_208 : decode c_M_replace 208 = .ok (.i2l, 1) := by decide +kernel
theorem d_M_replace_209 : decode c_M_replace 209 = .ok (.bipush 13, 2) := by decide +kernel
theorem d_M_replace_211 : decode c_M_replace 211 = .ok (.iload 9, 2) := by decide +kernel
theorem d_M_replace_213 : decode c_M_replace 213 = .ok (.imul, 1) := by decide +kernel
theorem d_M_replace_214 : decode c_M_replace 214 = .ok (.iconst 1, 1) := by decide +kernel
theorem d_M_replace_215 : decode c_M_replace 215 = .ok (.isub, 1) := by decide +kernel
theorem d_M_replace_216 : decode c_M_replace 216 = .ok (.lshl, 1) := by decide +kernel
theorem d_M_replace_217 : decode c_M_replace 217 = .ok (.lor, 1) := by decide +kernel
theorem d_M_replace_218 : decode c_M_replace 218 = .ok (.lastore, 1) := by decide +kernel
theorem d_M_replace_219 : decode c_M_replace 219 = .ok (.iinc 10 1, 3) := by decide +kernel
theorem d_M_replace_222 : decode c_M_replace 222 = .ok (.goto (-54), 3) := by decide +kernel
theorem d_M_replace_225 : decode c_M_replace 225 = .ok (.iinc 9 (-1), 3) := by decide +kernel
theorem d_M_replace_228 : decode c_M_replace 228 = .ok (.goto (-154), 3) := by decide +kernel
theorem d_M_replace_231 : decode c_M_replace 231 = .ok (.aload_n 0, 1) := by decide +kernel
theorem d_M_replace_232 : decode c_M_replace 232 = .ok (.getfield 7, 3) := by decide +kernel
theorem d_M_replace_235 : decode c_M_replace 235 = .ok (.aload_n 0, 1) := by decide +kernel
theorem d_M_replace_236 : decode c_M_replace 236 = .ok (.getfield 104, 3) := by decide +kernel
theorem d_M_replace_239 : decode c_M_replace 239 = .ok (.iload_n 3, 1) := by decide +kernel
theorem d_M_replace_240 : decode c_M_replace 240 = .ok (.iastore, 1) := by decide +kernel
theorem d_M_replace_241 : decode c_M_replace 241 = .ok (.aload_n 0, 1) := by decide +kernel
theorem d_M_replace_242 : decode c_M_replace 242 = .ok (.getfield 13, 3) := by decide +kernel
theorem d_M_replace_245 : decode c_M_replace 245 = .ok (.aload_n 0, 1) := by decide +kernel
theorem d_M_replace_246 : decode c_M_replace 246 = .ok (.getfield 104, 3) := by decide +kernel
theorem d_M_replace_249 : decode c_M_replace 249 = .ok (.iload 4, 2) := by decide +kernel
theorem d_M_replace_251 : decode c_M_replace 251 = .ok (.iastore, 1) := by decide +kernel
theorem d_M_replace_252 : decode c_M_replace 252 = .ok (.aload_n 0, 1) := by decide +kernel
theorem d_M_replace_253 : decode c_M_replace 253 = .ok (.getfield 34, 3) := by decide +kernel
theorem d_M_replace_256 : decode c_M_replace 256 = .ok (.iload_n 2, 1) := by decide +kernel
theorem d_M_replace_257 : decode c_M_replace 257 = .ok (.aload_n 0, 1) := by decide +kernel
theorem d_M_replace_258 : decode c_M_replace 258 = .ok (.getfield 34, 3) := by decide +kernel
theorem d_M_replace_261 : decode c_M_replace 261 = .ok (.iload_n 2, 1) := by decide +kernel
theorem d_M_replace_262 : decode c_M_replace 262 = .ok (.laload, 1) := by decide +kernel
theorem d_M_replace_263 : decode c_M_replace 263 = .ok (.ldc2_w 142, 3) := by decide +kernel
theorem d_M_replace_266 : decode c_M_replace 266 = .ok (.land, 1) := by decide +kernel
theorem d_M_replace_267 : decode c_M_replace 267 = .ok (.aload_n 0, 1) := by decide +kernel
theorem d_M_replace_268 : decode c_M_replace 268 = .ok (.getfield 104, 3) := by decide +kernel
theorem d_M_replace_271 : decode c_M_replace 271 = .ok (.i2l, 1) := by decide +kernel
theorem d_M_replace_272 : decode c_M_replace 272 = .ok (.lor, 1) := by decide +kernel
theorem d_M_replace_273 : decode c_M_replace 273 = .ok (.lastore, 1) := by decide +kernel
theorem d_M_replace_274 : decode c_M_replace 274 = .ok (.aload_n 0, 1) := by decide +kernel
theorem d_M_replace_275 : decode c_M_replace 275 = .ok (.dup, 1) := by decide +kernel
theorem d_M_replace_276 : decode c_M_replace 276 = .ok (.getfield 104, 3) := by decide +kernel
theorem d_M_replace_279 : decode c_M_replace 279 = .ok (.iconst 1, 1) := by decide +kernel
theorem d_M_replace_280 : decode c_M_replace 280 = .ok (.iadd, 1) := by decide +kernel
theorem d_M_replace_281 : decode c_M_replace 281 = .ok (.putfield 104, 3) := by decide +kernel
theorem d_M_replace_284 : decode c_M_replace 284 = .ok (.aload_n 0, 1) := by decide +kernel
theorem d_M_replace_285 : decode c_M_replace 285 = .ok (.iconst 0, 1) := by decide +kernel
theorem d_M_replace_286 : decode c_M_replace 286 = .ok (.aload_n 0, 1) := by decide +kernel
theorem d_M_replace_287 : decode c_M_replace 287 = .ok (.getfield 37, 3) := by decide +kernel
theorem d_M_replace_290 : decode c_M_replace 290 = .ok (.invokevirtual 120, 3) := by decide +kernel
theorem d_M_replace_293 : decode c_M_replace 293 = .ok (.ireturn, 1) := by decide +kernel
abbrev c_M_first : ByteArray := prog_10_method_35_code
abbrev y_M_first : MethodName := ⟨"FingerSpansModel", "first", "(II)I"⟩
theorem k_M_first : Cond.code y_M_first c_M_first 4 (some FieldType.int) ∈ lw_tbl := List.mem_of_getElem? (i := 694) (by decide +kernel)
theorem b_M_first : x_ce y_M_first c_M_first 4 (some FieldType.int) 2 := ⟨k_M_first, i_M, by decide +kernel⟩
theorem s_M_first : Cond.instanceMethod y_M_first ∈ lw_tbl := List.mem_of_getElem? (i := 693) (by decide +kernel)
theorem v_M_first : Cond.selects "FingerSpansModel" y_M_first y_M_first ∈ lw_tbl := List.mem_of_getElem? (i := 54) (by decide +kernel)
theorem d_M_first_0 : decode c_M_first 0 = .ok (.iload_n 1, 1) := by decide +kernel
theorem d_M_first_1 : decode c_M_first 1 = .ok (.istore_n 3, 1) := by decide +kernel
theorem d_M_first_2 : decode c_M_first 2 = .ok (.aload_n 0, 1) := by decide +kernel
theorem d_M_first_3 : decode c_M_first 3 = .ok (.iload_n 3, 1) := by decide +kernel
theorem d_M_first_4 : decode c_M_first 4 = .ok (.iconst 1, 1) := by decide +kernel
theorem d_M_first_5 : decode c_M_first 5 = .ok (.isub, 1) := by decide +kernel
theorem d_M_first_6 : decode c_M_first 6 = .ok (.iload_n 2, 1) := by decide +kernel
theorem d_M_first_7 : decode c_M_first 7 = .ok (.aload_n 0, 1) := by decide +kernel
theorem d_M_first_8 : decode c_M_first 8 = .ok (.getfield 34, 3) := by decide +kernel
theorem d_M_first_11 : decode c_M_first 11 = .ok (.iload_n 1, 1) := by decide +kernel
theorem d_M_first_12 : decode c_M_first 12 = .ok (.laload, 1) := by decide +kernel
theorem d_M_first_13 : decode c_M_first 13 = .ok (.invokestatic 44, 3) := by decide +kernel
theorem d_M_first_16 : decode c_M_first 16 = .ok (.invokevirtual 64, 3) := by decide +kernel
theorem d_M_first_19 : decode c_M_first 19 = .ok (.ifCond .eq 9, 3) := by decide +kernel
theorem d_M_first_22 : decode c_M_first 22 = .ok (.iinc 3 (-1), 3) := by decide +kernel
theorem d_M_first_25 : decode c_M_first 25 = .ok (.goto (-23), 3) := by decide +kernel
theorem d_M_first_28 : decode c_M_first 28 = .ok (.iload_n 3, 1) := by decide +kernel
theorem d_M_first_29 : decode c_M_first 29 = .ok (.ireturn, 1) := by decide +kernel
abbrev c_M_insert : ByteArray := prog_10_method_36_code
abbrev y_M_insert : MethodName := ⟨"FingerSpansModel", "insert", "(III)I"⟩
theorem k_M_insert : Cond.code y_M_insert c_M_insert 5 (some FieldType.int) ∈ lw_tbl := List.mem_of_getElem? (i := 701) (by decide +kernel)
theorem b_M_insert : x_ce y_M_insert c_M_insert 5 (some FieldType.int) 3 := ⟨k_M_insert, i_M, by decide +kernel⟩
theorem s_M_insert : Cond.instanceMethod y_M_insert ∈ lw_tbl := List.mem_of_getElem? (i := 699) (by decide +kernel)
theorem v_M_insert : Cond.selects "FingerSpansModel" y_M_insert y_M_insert ∈ lw_tbl := List.mem_of_getElem? (i := 700) (by decide +kernel)
theorem d_M_insert_0 : decode c_M_insert 0 = .ok (.aload_n 0, 1) := by decide +kernel
theorem d_M_insert_1 : decode c_M_insert 1 = .ok (.iload_n 1, 1) := by decide +kernel
theorem d_M_insert_2 : decode c_M_insert 2 = .ok (.invokevirtual 109, 3) := by decide +kernel
theorem d_M_insert_5 : decode c_M_insert 5 = .ok (.ifCond .ne 8, 3) := by decide +kernel
theorem d_M_insert_8 : decode c_M_insert 8 = .ok (.iload_n 2, 1) := by decide +kernel
theorem d_M_insert_9 : decode c_M_insert 9 = .ok (.iload_n 3, 1) := by decide +kernel
theorem d_M_insert_10 : decode c_M_insert 10 = .ok (.if_icmp .le 5, 3) := by decide +kernel
theorem d_M_insert_13 : decode c_M_insert 13 = .ok (.iconst (-1), 1) := by decide +kernel
theorem d_M_insert_14 : decode c_M_insert 14 = .ok (.ireturn, 1) := by decide +kernel
theorem d_M_insert_15 : decode c_M_insert 15 = .ok (.aload_n 0, 1) := by decide +kernel
theorem d_M_insert_16 : decode c_M_insert 16 = .ok (.getfield 30, 3) := by decide +kernel
theorem d_M_insert_19 : decode c_M_insert 19 = .ok (.bipush 120, 2) := by decide +kernel
theorem d_M_insert_21 : decode c_M_insert 21 = .ok (.if_icmp .ge 14, 3) := by decide +kernel
theorem d_M_insert_24 : decode c_M_insert 24 = .ok (.aload_n 0, 1) := by decide +kernel
theorem d_M_insert_25 : decode c_M_insert 25 = .ok (.getfield 27, 3) := by decide +kernel
theorem d_M_insert_28 : decode c_M_insert 28 = .ok (.iload_n 1, 1) := by decide +kernel
theorem d_M_insert_29 : decode c_M_insert 29 = .ok (.baload, 1) := by decide +kernel
theorem d_M_insert_30 : decode c_M_insert 30 = .ok (.bipush 40, 2) := by decide +kernel
theorem d_M_insert_32 : decode c_M_insert 32 = .ok (.if_icmp .lt 6, 3) := by decide +kernel
theorem d_M_insert_35 : decode c_M_insert 35 = .ok (.bipush (-2), 2) := by decide +kernel
theorem d_M_insert_37 : decode c_M_insert 37 = .ok (.ireturn, 1) := by decide +kernel
theorem d_M_insert_38 : decode c_M_insert 38 = .ok (.aload_n 0, 1) := by decide +kernel
theorem d_M_insert_39 : decode c_M_insert 39 = .ok (.iload_n 1, 1) := by decide +kernel
theorem d_M_insert_40 : decode c_M_insert 40 = .ok (.invokevirtual 113, 3) := by decide +kernel
theorem d_M_insert_43 : decode c_M_insert 43 = .ok (.iconst 0, 1) := by decide +kernel
theorem d_M_insert_44 : decode c_M_insert 44 = .ok (.istore 4, 2) := by decide +kernel
theorem d_M_insert_46 : decode c_M_insert 46 = .ok (.iload 4, 2) := by decide +kernel
theorem d_M_insert_48 : decode c_M_insert 48 = .ok (.aload_n 0, 1) := by decide +kernel
theorem d_M_insert_49 : decode c_M_insert 49 = .ok (.getfield 37, 3) := by decide +kernel
theorem d_M_insert_52 : decode c_M_insert 52 = .ok (.if_icmp .ge 28, 3) := by decide +kernel
theorem d_M_insert_55 : decode c_M_insert 55 = .ok (.aload_n 0, 1) := by decide +kernel
theorem d_M_insert_56 : decode c_M_insert 56 = .ok (.getfield 7, 3) := by decide +kernel
theorem d_M_insert_59 : decode c_M_insert 59 = .ok (.aload_n 0, 1) := by decide +kernel
theorem d_M_insert_60 : decode c_M_insert 60 = .ok (.getfield 34, 3) := by decide +kernel
theorem d_M_insert_63 : decode c_M_insert 63 = .ok (.iload 4, 2) := by decide +kernel
theorem d_M_insert_65 : decode c_M_insert 65 = .ok (.laload, 1) := by decide +kernel
theorem d_M_insert_66 : decode c_M_insert 66 = .ok (.invokestatic 144, 3) := by decide +kernel
theorem d_M_insert_69 : decode c_M_insert 69 = .ok (.iaload, 1) := by decide +kernel
theorem d_M_insert_70 : decode c_M_insert 70 = .ok (.iload_n 2, 1) := by decide +kernel
theorem d_M_insert_71 : decode c_M_insert 71 = .ok (.if_icmp .ge 9, 3) := by decide +kernel
theorem d_M_insert_74 : decode c_M_insert 74 = .ok (.iinc 4 1, 3) := by decide +kernel
theorem d_M_insert_77 : decode c_M_insert 77 = .ok (.goto (-31), 3) := by decide +kernel
theorem d_M_insert_80 : decode c_M_insert 80 = .ok (.aload_n 0, 1) := by decide +kernel
theorem d_M_insert_81 : decode c_M_insert 81 = .ok (.iload 4, 2) := by decide +kernel
theorem d_M_insert_83 : decode c_M_insert 83 = .ok (.invokevirtual 132, 3) := by decide +kernel
theorem d_M_insert_86 : decode c_M_insert 86 = .ok (.aload_n 0, 1) := by decide +kernel
theorem d_M_insert_87 : decode c_M_insert 87 = .ok (.iload 4, 2) := by decide +kernel
theorem d_M_insert_89 : decode c_M_insert 89 = .ok (.iload_n 2, 1) := by decide +kernel
theorem d_M_insert_90 : decode c_M_insert 90 = .ok (.iload_n 3, 1) := by decide +kernel
theorem d_M_insert_91 : decode c_M_insert 91 = .ok (.invokevirtual 117, 3) := by decide +kernel
theorem d_M_insert_94 : decode c_M_insert 94 = .ok (.aload_n 0, 1) := by decide +kernel
theorem d_M_insert_95 : decode c_M_insert 95 = .ok (.iload 4, 2) := by decide +kernel
theorem d_M_insert_97 : decode c_M_insert 97 = .ok (.iconst 0, 1) := by decide +kernel
theorem d_M_insert_98 : decode c_M_insert 98 = .ok (.invokevirtual 98, 3) := by decide +kernel
theorem d_M_insert_101 : decode c_M_insert 101 = .ok (.aload_n 0, 1) := by decide +kernel
theorem d_M_insert_102 : decode c_M_insert 102 = .ok (.iload 4, 2) := by decide +kernel
theorem d_M_insert_104 : decode c_M_insert 104 = .ok (.invokevirtual 126, 3) := by decide +kernel
theorem d_M_insert_107 : decode c_M_insert 107 = .ok (.aload_n 0, 1) := by decide +kernel
theorem d_M_insert_108 : decode c_M_insert 108 = .ok (.iconst 0, 1) := by decide +kernel
theorem d_M_insert_109 : decode c_M_insert 109 = .ok (.aload_n 0, 1) := by decide +kernel
theorem d_M_insert_110 : decode c_M_insert 110 = .ok (.getfield 37, 3) := by decide +kernel
theorem d_M_insert_113 : decode c_M_insert 113 = .ok (.invokevirtual 120, 3) := by decide +kernel
theorem d_M_insert_116 : decode c_M_insert 116 = .ok (.ireturn, 1) := by decide +kernel
abbrev c_M_removeTop : ByteArray := prog_10_method_37_code
abbrev y_M_removeTop : MethodName := ⟨"FingerSpansModel", "removeTop", "(I)I"⟩
theorem k_M_removeTop : Cond.code y_M_removeTop c_M_removeTop 4 (some FieldType.int) ∈ lw_tbl := List.mem_of_getElem? (i := 708) (by decide +kernel)
theorem b_M_removeTop : x_ce y_M_removeTop c_M_removeTop 4 (some FieldType.int) 1 := ⟨k_M_removeTop, i_M, by decide +kernel⟩
theorem s_M_removeTop : Cond.instanceMethod y_M_removeTop ∈ lw_tbl := List.mem_of_getElem? (i := 706) (by decide +kernel)
theorem v_M_removeTop : Cond.selects "FingerSpansModel" y_M_removeTop y_M_removeTop ∈ lw_tbl := List.mem_of_getElem? (i := 707) (by decide +kernel)
theorem d_M_removeTop_0 : decode c_M_removeTop 0 = .ok (.aload_n 0, 1) := by decide +kernel
theorem d_M_removeTop_1 : decode c_M_removeTop 1 = .ok (.iload_n 1, 1) := by decide +kernel
theorem d_M_removeTop_2 : decode c_M_removeTop 2 = .ok (.invokevirtual 109, 3) := by decide +kernel
theorem d_M_removeTop_5 : decode c_M_removeTop 5 = .ok (.ifCond .ne 12, 3) := by decide +kernel
theorem d_M_removeTop_8 : decode c_M_removeTop 8 = .ok (.aload_n 0, 1) := by decide +kernel
theorem d_M_removeTop_9 : decode c_M_removeTop 9 = .ok (.getfield 27, 3) := by decide +kernel
theorem d_M_removeTop_12 : decode c_M_removeTop 12 = .ok (.iload_n 1, 1) := by decide +kernel
theorem d_M_removeTop_13 : decode c_M_removeTop 13 = .ok (.baload, 1) := by decide +kernel
theorem d_M_removeTop_14 : decode c_M_removeTop 14 = .ok (.ifCond .ne 5, 3) := by decide +kernel
theorem d_M_removeTop_17 : decode c_M_removeTop 17 = .ok (.iconst (-1), 1) := by decide +kernel
theorem d_M_removeTop_18 : decode c_M_removeTop 18 = .ok (.ireturn, 1) := by decide +kernel
theorem d_M_removeTop_19 : decode c_M_removeTop 19 = .ok (.aload_n 0, 1) := by decide +kernel
theorem d_M_removeTop_20 : decode c_M_removeTop 20 = .ok (.getfield 30, 3) := by decide +kernel
theorem d_M_removeTop_23 : decode c_M_removeTop 23 = .ok (.bipush 120, 2) := by decide +kernel
theorem d_M_removeTop_25 : decode c_M_removeTop 25 = .ok (.if_icmp .lt 6, 3) := by decide +kernel
theorem d_M_removeTop_28 : decode c_M_removeTop 28 = .ok (.bipush (-2), 2) := by decide +kernel
theorem d_M_removeTop_30 : decode c_M_removeTop 30 = .ok (.ireturn, 1) := by decide +kernel
theorem d_M_removeTop_31 : decode c_M_removeTop 31 = .ok (.aload_n 0, 1) := by decide +kernel
theorem d_M_removeTop_32 : decode c_M_removeTop 32 = .ok (.iload_n 1, 1) := by decide +kernel
theorem d_M_removeTop_33 : decode c_M_removeTop 33 = .ok (.invokevirtual 113, 3) := by decide +kernel
theorem d_M_removeTop_36 : decode c_M_removeTop 36 = .ok (.iconst 0, 1) := by decide +kernel
theorem d_M_removeTop_37 : decode c_M_removeTop 37 = .ok (.istore_n 2, 1) := by decide +kernel
theorem d_M_removeTop_38 : decode c_M_removeTop 38 = .ok (.iconst 1, 1) := by decide +kernel
theorem d_M_removeTop_39 : decode c_M_removeTop 39 = .ok (.istore_n 3, 1) := by decide +kernel
theorem d_M_removeTop_40 : decode c_M_removeTop 40 = .ok (.iload_n 3, 1) := by decide +kernel
theorem d_M_removeTop_41 : decode c_M_removeTop 41 = .ok (.aload_n 0, 1) := by decide +kernel
theorem d_M_removeTop_42 : decode c_M_removeTop 42 = .ok (.getfield 37, 3) := by decide +kernel
theorem d_M_removeTop_45 : decode c_M_removeTop 45 = .ok (.if_icmp .ge 42, 3) := by decide +kernel
theorem d_M_removeTop_48 : decode c_M_removeTop 48 = .ok (.aload_n 0, 1) := by decide +kernel
theorem d_M_removeTop_49 : decode c_M_removeTop 49 = .ok (.getfield 13, 3) := by decide +kernel
theorem d_M_removeTop_52 : decode c_M_removeTop 52 = .ok (.aload_n 0, 1) := by decide +kernel
theorem d_M_removeTop_53 : decode c_M_removeTop 53 = .ok (.getfield 34, 3) := by decide +kernel
theorem d_M_removeTop_56 : decode c_M_removeTop 56 = .ok (.iload_n 3, 1) := by decide +kernel
theorem d_M_removeTop_57 : decode c_M_removeTop 57 = .ok (.laload, 1) := by decide +kernel
theorem d_M_removeTop_58 : decode c_M_removeTop 58 = .ok (.invokestatic 144, 3) := by decide +kernel
theorem d_M_removeTop_61 : decode c_M_removeTop 61 = .ok (.iaload, 1) := by decide +kernel
theorem d_M_removeTop_62 : decode c_M_removeTop 62 = .ok (.aload_n 0, 1) := by decide +kernel
theorem d_M_removeTop_63 : decode c_M_removeTop 63 = .ok (.getfield 13, 3) := by decide +kernel
theorem d_M_removeTop_66 : decode c_M_removeTop 66 = .ok (.aload_n 0, 1) := by decide +kernel
theorem d_M_removeTop_67 : decode c_M_removeTop 67 = .ok (.getfield 34, 3) := by decide +kernel
theorem d_M_removeTop_70 : decode c_M_removeTop 70 = .ok (.iload_n 2, 1) := by decide +kernel
theorem d_M_removeTop_71 : decode c_M_removeTop 71 = .ok (.laload, 1) := by decide +kernel
theorem d_M_removeTop_72 : decode c_M_removeTop 72 = .ok (.invokestatic 144, 3) := by decide +kernel
theorem d_M_removeTop_75 : decode c_M_removeTop 75 = .ok (.iaload, 1) := by decide +kernel
theorem d_M_removeTop_76 : decode c_M_removeTop 76 = .ok (.if_icmp .le 5, 3) := by decide +kernel
theorem d_M_removeTop_79 : decode c_M_removeTop 79 = .ok (.iload_n 3, 1) := by decide +kernel
theorem d_M_removeTop_80 : decode c_M_removeTop 80 = .ok (.istore_n 2, 1) := by decide +kernel
theorem d_M_removeTop_81 : decode c_M_removeTop 81 = .ok (.iinc 3 1, 3) := by decide +kernel
theorem d_M_removeTop_84 : decode c_M_removeTop 84 = .ok (.goto (-44), 3) := by decide +kernel
theorem d_M_removeTop_87 : decode c_M_removeTop 87 = .ok (.aload_n 0, 1) := by decide +kernel
theorem d_M_removeTop_88 : decode c_M_removeTop 88 = .ok (.iload_n 2, 1) := by decide +kernel
theorem d_M_removeTop_89 : decode c_M_removeTop 89 = .ok (.invokevirtual 129, 3) := by decide +kernel
theorem d_M_removeTop_92 : decode c_M_removeTop 92 = .ok (.aload_n 0, 1) := by decide +kernel
theorem d_M_removeTop_93 : decode c_M_removeTop 93 = .ok (.iload_n 2, 1) := by decide +kernel
theorem d_M_removeTop_94 : decode c_M_removeTop 94 = .ok (.invokevirtual 123, 3) := by decide +kernel
theorem d_M_removeTop_97 : decode c_M_removeTop 97 = .ok (.aload_n 0, 1) := by decide +kernel
theorem d_M_removeTop_98 : decode c_M_removeTop 98 = .ok (.iload_n 2, 1) := by decide +kernel
theorem d_M_removeTop_99 : decode c_M_removeTop 99 = .ok (.invokevirtual 126, 3) := by decide +kernel
theorem d_M_removeTop_102 : decode c_M_removeTop 102 = .ok (.aload_n 0, 1) := by decide +kernel
theorem d_M_removeTop_103 : decode c_M_removeTop 103 = .ok (.iconst 0, 1) := by decide +kernel
theorem d_M_removeTop_104 : decode c_M_removeTop 104 = .ok (.aload_n 0, 1) := by decide +kernel
theorem d_M_removeTop_105 : decode c_M_removeTop 105 = .ok (.getfield 37, 3) := by decide +kernel
theorem d_M_removeTop_108 : decode c_M_removeTop 108 = .ok (.invokevirtual 120, 3) := by decide +kernel
theorem d_M_removeTop_111 : decode c_M_removeTop 111 = .ok (.ireturn, 1) := by decide +kernel
abbrev c_M_outside : ByteArray := prog_10_method_38_code
abbrev y_M_outside : MethodName := ⟨"FingerSpansModel", "outside", "(II)Z"⟩
theorem k_M_outside : Cond.code y_M_outside c_M_outside 3 (some FieldType.boolean) ∈ lw_tbl := List.mem_of_getElem? (i := 720) (by decide +kernel)
theorem b_M_outside : x_ce y_M_outside c_M_outside 3 (some FieldType.boolean) 2 := ⟨k_M_outside, i_M, by decide +kernel⟩
theorem s_M_outside : Cond.instanceMethod y_M_outside ∈ lw_tbl := List.mem_of_getElem? (i := 719) (by decide +kernel)
theorem v_M_outside : Cond.selects "FingerSpansModel" y_M_outside y_M_outside ∈ lw_tbl := List.mem_of_getElem? (i := 55) (by decide +kernel)
theorem d_M_outside_0 : decode c_M_outside 0 = .ok (.aload_n 0, 1) := by decide +kernel
theorem d_M_outside_1 : decode c_M_outside 1 = .ok (.iload_n 1, 1) := by decide +kernel
theorem d_M_outside_2 : decode c_M_outside 2 = .ok (.invokevirtual 109, 3) := by decide +kernel
theorem d_M_outside_5 : decode c_M_outside 5 = .ok (.ifCond .ne 17, 3) := by decide +kernel
theorem d_M_outside_8 : decode c_M_outside 8 = .ok (.iload_n 2, 1) := by decide +kernel
theorem d_M_outside_9 : decode c_M_outside 9 = .ok (.ifCond .lt 13, 3) := by decide +kernel
theorem d_M_outside_12 : decode c_M_outside 12 = .ok (.iload_n 2, 1) := by decide +kernel
theorem d_M_outside_13 : decode c_M_outside 13 = .ok (.aload_n 0, 1) := by decide +kernel
theorem d_M_outside_14 : decode c_M_outside 14 = .ok (.getfield 27, 3) := by decide +kernel
theorem d_M_outside_17 : decode c_M_outside 17 = .ok (.iload_n 1, 1) := by decide +kernel
theorem d_M_outside_18 : decode c_M_outside 18 = .ok (.baload, 1) := by decide +kernel
theorem d_M_outside_19 : decode c_M_outside 19 = .ok (.if_icmp .lt 7, 3) := by decide +kernel
theorem d_M_outside_22 : decode c_M_outside 22 = .ok (.iconst 1, 1) := by decide +kernel
theorem d_M_outside_23 : decode c_M_outside 23 = .ok (.goto 4, 3) := by decide +kernel
theorem d_M_outside_26 : decode c_M_outside 26 = .ok (.iconst 0, 1) := by decide +kernel
theorem d_M_outside_27 : decode c_M_outside 27 = .ok (.ireturn, 1) := by decide +kernel
abbrev c_M_length : ByteArray := prog_10_method_39_code
abbrev y_M_length : MethodName := ⟨"FingerSpansModel", "length", "(I)I"⟩
theorem k_M_length : Cond.code y_M_length c_M_length 2 (some FieldType.int) ∈ lw_tbl := List.mem_of_getElem? (i := 712) (by decide +kernel)
theorem b_M_length : x_ce y_M_length c_M_length 2 (some FieldType.int) 1 := ⟨k_M_length, i_M, by decide +kernel⟩
theorem s_M_length : Cond.instanceMethod y_M_length ∈ lw_tbl := List.mem_of_getElem? (i := 710) (by decide +kernel)
theorem v_M_length : Cond.selects "FingerSpansModel" y_M_length y_M_length ∈ lw_tbl := List.mem_of_getElem? (i := 711) (by decide +kernel)
theorem d_M_length_0 : decode c_M_length 0 = .ok (.aload_n 0, 1) := by decide +kernel
theorem d_M_length_1 : decode c_M_length 1 = .ok (.iload_n 1, 1) := by decide +kernel
theorem d_M_length_2 : decode c_M_length 2 = .ok (.invokevirtual 109, 3) := by decide +kernel
theorem d_M_length_5 : decode c_M_length 5 = .ok (.ifCond .eq 7, 3) := by decide +kernel
theorem d_M_length_8 : decode c_M_length 8 = .ok (.iconst (-1), 1) := by decide +kernel
theorem d_M_length_9 : decode c_M_length 9 = .ok (.goto 9, 3) := by decide +kernel
theorem d_M_length_12 : decode c_M_length 12 = .ok (.aload_n 0, 1) := by decide +kernel
theorem d_M_length_13 : decode c_M_length 13 = .ok (.getfield 27, 3) := by decide +kernel
theorem d_M_length_16 : decode c_M_length 16 = .ok (.iload_n 1, 1) := by decide +kernel
theorem d_M_length_17 : decode c_M_length 17 = .ok (.baload, 1) := by decide +kernel
theorem d_M_length_18 : decode c_M_length 18 = .ok (.ireturn, 1) := by decide +kernel
abbrev c_M_low : ByteArray := prog_10_method_40_code
abbrev y_M_low : MethodName := ⟨"FingerSpansModel", "low", "(II)I"⟩
theorem k_M_low : Cond.code y_M_low c_M_low 3 (some FieldType.int) ∈ lw_tbl := List.mem_of_getElem? (i := 716) (by decide +kernel)
theorem b_M_low : x_ce y_M_low c_M_low 3 (some FieldType.int) 2 := ⟨k_M_low, i_M, by decide +kernel⟩
theorem s_M_low : Cond.instanceMethod y_M_low ∈ lw_tbl := List.mem_of_getElem? (i := 714) (by decide +kernel)
theorem v_M_low : Cond.selects "FingerSpansModel" y_M_low y_M_low ∈ lw_tbl := List.mem_of_getElem? (i := 715) (by decide +kernel)
theorem d_M_low_0 : decode c_M_low 0 = .ok (.aload_n 0, 1) := by decide +kernel
theorem d_M_low_1 : decode c_M_low 1 = .ok (.iload_n 1, 1) := by decide +kernel
theorem d_M_low_2 : decode c_M_low 2 = .ok (.iload_n 2, 1) := by decide +kernel
theorem d_M_low_3 : decode c_M_low 3 = .ok (.invokevirtual 147, 3) := by decide +kernel
theorem d_M_low_6 : decode c_M_low 6 = .ok (.ifCond .eq 7, 3) := by decide +kernel
theorem d_M_low_9 : decode c_M_low 9 = .ok (.iconst 0, 1) := by decide +kernel
theorem d_M_low_10 : decode c_M_low 10 = .ok (.goto 22, 3) := by decide +kernel
theorem d_M_low_13 : decode c_M_low 13 = .ok (.aload_n 0, 1) := by decide +kernel
theorem d_M_low_14 : decode c_M_low 14 = .ok (.getfield 7, 3) := by decide +kernel
theorem d_M_low_17 : decode c_M_low 17 = .ok (.aload_n 0, 1) := by decide +kernel
theorem d_M_low_18 : decode c_M_low 18 = .ok (.getfield 23, 3) := by decide +kernel
theorem d_M_low_21 : decode c_M_low 21 = .ok (.bipush 40, 2) := by decide +kernel
theorem d_M_low_23 : decode c_M_low 23 = .ok (.iload_n 1, 1) := by decide +kernel
theorem d_M_low_24 : decode c_M_low 24 = .ok (.imul, 1) := by decide +kernel
theorem d_M_low_25 : decode c_M_low 25 = .ok (.iload_n 2, 1) := by decide +kernel
theorem d_M_low_26 : decode c_M_low 26 = .ok (.iadd, 1) := by decide +kernel
theorem d_M_low_27 : decode c_M_low 27 = .ok (.laload, 1) := by decide +kernel
theorem d_M_low_28 : decode c_M_low 28 = .ok (.invokestatic 144, 3) := by decide +kernel
theorem d_M_low_31 : decode c_M_low 31 = .ok (.iaload, 1) := by decide +kernel
theorem d_M_low_32 : decode c_M_low 32 = .ok (.ireturn, 1) := by decide +kernel
abbrev c_M_high : ByteArray := prog_10_method_41_code
abbrev y_M_high : MethodName := ⟨"FingerSpansModel", "high", "(II)I"⟩
theorem k_M_high : Cond.code y_M_high c_M_high 3 (some FieldType.int) ∈ lw_tbl := List.mem_of_getElem? (i := 724) (by decide +kernel)
theorem b_M_high : x_ce y_M_high c_M_high 3 (some FieldType.int) 2 := ⟨k_M_high, i_M, by decide +kernel⟩
theorem s_M_high : Cond.instanceMethod y_M_high ∈ lw_tbl := List.mem_of_getElem? (i := 722) (by decide +kernel)
theorem v_M_high : Cond.selects "FingerSpansModel" y_M_high y_M_high ∈ lw_tbl := List.mem_of_getElem? (i := 723) (by decide +kernel)
theorem d_M_high_0 : decode c_M_high 0 = .ok (.aload_n 0, 1) := by decide +kernel
theorem d_M_high_1 : decode c_M_high 1 = .ok (.iload_n 1, 1) := by decide +kernel
theorem d_M_high_2 : decode c_M_high 2 = .ok (.iload_n 2, 1) := by decide +kernel
theorem d_M_high_3 : decode c_M_high 3 = .ok (.invokevirtual 147, 3) := by decide +kernel
theorem d_M_high_6 : decode c_M_high 6 = .ok (.ifCond .eq 7, 3) := by decide +kernel
theorem d_M_high_9 : decode c_M_high 9 = .ok (.iconst 0, 1) := by decide +kernel
theorem d_M_high_10 : decode c_M_high 10 = .ok (.goto 22, 3) := by decide +kernel
theorem d_M_high_13 : decode c_M_high 13 = .ok (.aload_n 0, 1) := by decide +kernel
theorem d_M_high_14 : decode c_M_high 14 = .ok (.getfield 13, 3) := by decide +kernel
theorem d_M_high_17 : decode c_M_high 17 = .ok (.aload_n 0, 1) := by decide +kernel
theorem d_M_high_18 : decode c_M_high 18 = .ok (.getfield 23, 3) := by decide +kernel
theorem d_M_high_21 : decode c_M_high 21 = .ok (.bipush 40, 2) := by decide +kernel
theorem d_M_high_23 : decode c_M_high 23 = .ok (.iload_n 1, 1) := by decide +kernel
theorem d_M_high_24 : decode c_M_high 24 = .ok (.imul, 1) := by decide +kernel
theorem d_M_high_25 : decode c_M_high 25 = .ok (.iload_n 2, 1) := by decide +kernel
theorem d_M_high_26 : decode c_M_high 26 = .ok (.iadd, 1) := by decide +kernel
theorem d_M_high_27 : decode c_M_high 27 = .ok (.laload, 1) := by decide +kernel
theorem d_M_high_28 : decode c_M_high 28 = .ok (.invokestatic 144, 3) := by decide +kernel
theorem d_M_high_31 : decode c_M_high 31 = .ok (.iaload, 1) := by decide +kernel
theorem d_M_high_32 : decode c_M_high 32 = .ok (.ireturn, 1) := by decide +kernel
abbrev c_M_upTo : ByteArray := prog_10_method_42_code
abbrev y_M_upTo : MethodName := ⟨"FingerSpansModel", "upTo", "(III)J"⟩
theorem k_M_upTo : Cond.code y_M_upTo c_M_upTo 12 (some FieldType.long) ∈ lw_tbl := List.mem_of_getElem? (i := 732) (by decide +kernel)
theorem b_M_upTo : x_ce y_M_upTo c_M_upTo 12 (some FieldType.long) 3 := ⟨k_M_upTo, i_M, by decide +kernel⟩
theorem s_M_upTo : Cond.instanceMethod y_M_upTo ∈ lw_tbl := List.mem_of_getElem? (i := 731) (by decide +kernel)
theorem v_M_upTo : Cond.selects "FingerSpansModel" y_M_upTo y_M_upTo ∈ lw_tbl := List.mem_of_getElem? (i := 56) (by decide +kernel)
theorem d_M_upTo_0 : decode c_M_upTo 0 = .ok (.lconst 0, 1) := by decide +kernel
theorem d_M_upTo_1 : decode c_M_upTo 1 = .ok (.lstore 4, 2) := by decide +kernel
theorem d_M_upTo_3 : decode c_M_upTo 3 = .ok (.ldc2_w 150, 3) := by decide +kernel
theorem d_M_upTo_6 : decode c_M_upTo 6 = .ok (.lstore 6, 2) := by decide +kernel
theorem d_M_upTo_8 : decode c_M_upTo 8 = .ok (.iconst 0, 1) := by decide +kernel
theorem d_M_upTo_9 : decode c_M_upTo 9 = .ok (.istore 8, 2) := by decide +kernel
theorem d_M_upTo_11 : decode c_M_upTo 11 = .ok (.iload 8, 2) := by decide +kernel
theorem d_M_upTo_13 : decode c_M_upTo 13 = .ok (.iload_n 2, 1) := by decide +kernel
theorem d_M_upTo_14 : decode c_M_upTo 14 = .ok (.if_icmp .ge 93, 3) := by decide +kernel
theorem d_M_upTo_17 : decode c_M_upTo 17 = .ok (.aload_n 0, 1) := by decide +kernel
theorem d_M_upTo_18 : decode c_M_upTo 18 = .ok (.getfield 23, 3) := by decide +kernel
theorem d_M_upTo_21 : decode c_M_upTo 21 = .ok (.bipush 40, 2) := by decide +kernel
theorem d_M_upTo_23 : decode c_M_upTo 23 = .ok (.iload_n 1, 1) := by decide +kernel
theorem d_M_upTo_24 : decode c_M_upTo 24 = .ok (.imul, 1) := by decide +kernel
theorem d_M_upTo_25 : decode c_M_upTo 25 = .ok (.iload 8, 2) := by decide +kernel
theorem d_M_upTo_27 : decode c_M_upTo 27 = .ok (.iadd, 1) := by decide +kernel
theorem d_M_upTo_28 : decode c_M_upTo 28 = .ok (.laload, 1) := by decide +kernel
theorem d_M_upTo_29 : decode c_M_upTo 29 = .ok (.invokestatic 144, 3) := by decide +kernel
theorem d_M_upTo_32 : decode c_M_upTo 32 = .ok (.istore 9, 2) := by decide +kernel
theorem d_M_upTo_34 : decode c_M_upTo 34 = .ok (.iload_n 3, 1) := by decide +kernel
theorem d_M_upTo_35 : decode c_M_upTo 35 = .ok (.iconst 1, 1) := by decide +kernel
theorem d_M_upTo_36 : decode c_M_upTo 36 = .ok (.if_icmp .ne 14, 3) := by decide +kernel
theorem d_M_upTo_39 : decode c_M_upTo 39 = .ok (.aload_n 0, 1) := by decide +kernel
theorem d_M_upTo_40 : decode c_M_upTo 40 = .ok (.getfield 7, 3) := by decide +kernel
theorem d_M_upTo_43 : decode c_M_upTo 43 = .ok (.iload 9, 2) := by decide +kernel
theorem d_M_upTo_45 : decode c_M_upTo 45 = .ok (.iaload, 1) := by decide +kernel
theorem d_M_upTo_46 : decode c_M_upTo 46 = .ok (.i2l, 1) := by decide +kernel
theorem d_M_upTo_47 : decode c_M_upTo 47 = .ok (.goto 11, 3) := by decide +kernel
theorem d_M_upTo_50 : decode c_M_upTo 50 = .ok (.aload_n 0, 1) := by decide +kernel
theorem d_M_upTo_51 : decode c_M_upTo 51 = .ok (.getfield 13, 3) := by decide +kernel
theorem d_M_upTo_54 : decode c_M_upTo 54 = .ok (.iload 9, 2) := by decide +kernel
theorem d_M_upTo_56 : decode c_M_upTo 56 = .ok (.iaload, 1) := by decide +kernel
theorem d_M_upTo_57 : decode c_M_upTo 57 = .ok (.i2l, 1) := by decide +kernel
theorem d_M_upTo_58 : decode c_M_upTo 58 = .ok (.lstore 10, 2) := by decide +kernel
theorem d_M_upTo_60 : decode c_M_upTo 60 = .ok (.lload 10, 2) := by decide +kernel
theorem d_M_upTo_62 : decode c_M_upTo 62 = .ok (.lload 6, 2) := by decide +kernel
theorem d_M_upTo_64 : decode c_M_upTo 64 = .ok (.lcmp, 1) := by decide +kernel
theorem d_M_upTo_65 : decode c_M_upTo 65 = .ok (.ifCond .le 8, 3) := by decide +kernel
theorem d_M_upTo_68 : decode c_M_upTo 68 = .ok (.lload 10, 2) := by decide +kernel
theorem d_M_upTo_70 : decode c_M_upTo 70 = .ok (.goto 5, 3) := by decide +kernel
theorem d_M_upTo_73 : decode c_M_upTo 73 = .ok (.lload 6, 2) := by decide +kernel
theorem d_M_upTo_75 : decode c_M_upTo 75 = .ok (.lstore 6, 2) := by decide +kernel
theorem d_M_upTo_77 : decode c_M_upTo 77 = .ok (.lload 4, 2) := by decide +kernel
theorem d_M_upTo_79 : decode c_M_upTo 79 = .ok (.aload_n 0, 1) := by decide +kernel
theorem d_M_upTo_80 : decode c_M_upTo 80 = .ok (.getfield 13, 3) := by decide +kernel
theorem d_M_upTo_83 : decode c_M_upTo 83 = .ok (.iload 9, 2) := by decide +kernel
theorem d_M_upTo_85 : decode c_M_upTo 85 = .ok (.iaload, 1) := by decide +kernel
theorem d_M_upTo_86 : decode c_M_upTo 86 = .ok (.i2l, 1) := by decide +kernel
theorem d_M_upTo_87 : decode c_M_upTo 87 = .ok (.ladd, 1) := by decide +kernel
theorem d_M_upTo_88 : decode c_M_upTo 88 = .ok (.aload_n 0, 1) := by decide +kernel
theorem d_M_upTo_89 : decode c_M_upTo 89 = .ok (.getfield 7, 3) := by decide +kernel
theorem d_M_upTo_92 : decode c_M_upTo 92 = .ok (.iload 9, 2) := by decide +kernel
theorem d_M_upTo_94 : decode c_M_upTo 94 = .ok (.iaload, 1) := by decide +kernel
theorem d_M_upTo_95 : decode c_M_upTo 95 = .ok (.i2l, 1) := by decide +kernel
theorem d_M_upTo_96 : decode c_M_upTo 96 = .ok (.lsub, 1) := by decide +kernel
theorem d_M_upTo_97 : decode c_M_upTo 97 = .ok (.lconst 1, 1) := by decide +kernel
theorem d_M_upTo_98 : decode c_M_upTo 98 = .ok (.ladd, 1) := by decide +kernel
theorem d_M_upTo_99 : decode c_M_upTo 99 = .ok (.lstore 4, 2) := by decide +kernel
theorem d_M_upTo_101 : decode c_M_upTo 101 = .ok (.iinc 8 1, 3) := by decide +kernel
theorem d_M_upTo_104 : decode c_M_upTo 104 = .ok (.goto (-93), 3) := by decide +kernel
theorem d_M_upTo_107 : decode c_M_upTo 107 = .ok (.iload_n 3, 1) := by decide +kernel
theorem d_M_upTo_108 : decode c_M_upTo 108 = .ok (.ifCond .ne 8, 3) := by decide +kernel
theorem d_M_upTo_111 : decode c_M_upTo 111 = .ok (.iload_n 2, 1) := by decide +kernel
theorem d_M_upTo_112 : decode c_M_upTo 112 = .ok (.i2l, 1) := by decide +kernel
theorem d_M_upTo_113 : decode c_M_upTo 113 = .ok (.goto 15, 3) := by decide +kernel
theorem d_M_upTo_116 : decode c_M_upTo 116 = .ok (.iload_n 3, 1) := by decide +kernel
theorem d_M_upTo_117 : decode c_M_upTo 117 = .ok (.iconst 3, 1) := by decide +kernel
theorem d_M_upTo_118 : decode c_M_upTo 118 = .ok (.if_icmp .ne 8, 3) := by decide +kernel
theorem d_M_upTo_121 : decode c_M_upTo 121 = .ok (.lload 4, 2) := by decide +kernel
theorem d_M_upTo_123 : decode c_M_upTo 123 = .ok (.goto 5, 3) := by decide +kernel
theorem d_M_upTo_126 : decode c_M_upTo 126 = .ok (.lload 6, 2) := by decide +kernel
theorem d_M_upTo_128 : decode c_M_upTo 128 = .ok (.lreturn, 1) := by decide +kernel
abbrev c_M_measure : ByteArray := prog_10_method_43_code
abbrev y_M_measure : MethodName := ⟨"FingerSpansModel", "measure", "(II)J"⟩
theorem k_M_measure : Cond.code y_M_measure c_M_measure 3 (some FieldType.long) ∈ lw_tbl := List.mem_of_getElem? (i := 728) (by decide +kernel)
theorem b_M_measure : x_ce y_M_measure c_M_measure 3 (some FieldType.long) 2 := ⟨k_M_measure, i_M, by decide +kernel⟩
theorem s_M_measure : Cond.instanceMethod y_M_measure ∈ lw_tbl := List.mem_of_getElem? (i := 726) (by decide +kernel)
theorem v_M_measure : Cond.selects "FingerSpansModel" y_M_measure y_M_measure ∈ lw_tbl := List.mem_of_getElem? (i := 727) (by decide +kernel)
theorem d_M_measure_0 : decode c_M_measure 0 = .ok (.aload_n 0, 1) := by decide +kernel
theorem d_M_measure_1 : decode c_M_measure 1 = .ok (.iload_n 1, 1) := by decide +kernel
theorem d_M_measure_2 : decode c_M_measure 2 = .ok (.invokevirtual 109, 3) := by decide +kernel
theorem d_M_measure_5 : decode c_M_measure 5 = .ok (.ifCond .ne 21, 3) := by decide +kernel
theorem d_M_measure_8 : decode c_M_measure 8 = .ok (.aload_n 0, 1) := by decide +kernel
theorem d_M_measure_9 : decode c_M_measure 9 = .ok (.getfield 27, 3) := by decide +kernel
theorem d_M_measure_12 : decode c_M_measure 12 = .ok (.iload_n 1, 1) := by decide +kernel
theorem d_M_measure_13 : decode c_M_measure 13 = .ok (.baload, 1) := by decide +kernel
theorem d_M_measure_14 : decode c_M_measure 14 = .ok (.ifCond .eq 12, 3) := by decide +kernel
theorem d_M_measure_17 : decode c_M_measure 17 = .ok (.iload_n 2, 1) := by decide +kernel
theorem d_M_measure_18 : decode c_M_measure 18 = .ok (.ifCond .lt 8, 3) := by decide +kernel
theorem d_M_measure_21 : decode c_M_measure 21 = .ok (.iload_n 2, 1) := by decide +kernel
theorem d_M_measure_22 : decode c_M_measure 22 = .ok (.iconst 3, 1) := by decide +kernel
theorem d_M_measure_23 : decode c_M_measure 23 = .ok (.if_icmp .le 7, 3) := by decide +kernel
theorem d_M_measure_26 : decode c_M_measure 26 = .ok (.lconst 0, 1) := by decide +kernel
theorem d_M_measure_27 : decode c_M_measure 27 = .ok (.goto 15, 3) := by decide +kernel
theorem d_M_measure_30 : decode c_M_measure 30 = .ok (.aload_n 0, 1) := by decide +kernel
theorem d_M_measure_31 : decode c_M_measure 31 = .ok (.iload_n 1, 1) := by decide +kernel
theorem d_M_measure_32 : decode c_M_measure 32 = .ok (.aload_n 0, 1) := by decide +kernel
theorem d_M_measure_33 : decode c_M_measure 33 = .ok (.getfield 27, 3) := by decide +kernel
theorem d_M_measure_36 : decode c_M_measure 36 = .ok (.iload_n 1, 1) := by decide +kernel
theorem d_M_measure_37 : decode c_M_measure 37 = .ok (.baload, 1) := by decide +kernel
theorem d_M_measure_38 : decode c_M_measure 38 = .ok (.iload_n 2, 1) := by decide +kernel
theorem d_M_measure_39 : decode c_M_measure 39 = .ok (.invokevirtual 152, 3) := by decide +kernel
theorem d_M_measure_42 : decode c_M_measure 42 = .ok (.lreturn, 1) := by decide +kernel
abbrev c_M_search : ByteArray := prog_10_method_44_code
abbrev y_M_search : MethodName := ⟨"FingerSpansModel", "search", "(IIJ)I"⟩
theorem k_M_search : Cond.code y_M_search c_M_search 8 (some FieldType.int) ∈ lw_tbl := List.mem_of_getElem? (i := 737) (by decide +kernel)
theorem b_M_search : x_ce y_M_search c_M_search 8 (some FieldType.int) 3 := ⟨k_M_search, i_M, by decide +kernel⟩
theorem s_M_search : Cond.instanceMethod y_M_search ∈ lw_tbl := List.mem_of_getElem? (i := 735) (by decide +kernel)
theorem v_M_search : Cond.selects "FingerSpansModel" y_M_search y_M_search ∈ lw_tbl := List.mem_of_getElem? (i := 736) (by decide +kernel)
theorem d_M_search_0 : decode c_M_search 0 = .ok (.aload_n 0, 1) := by decide +kernel
theorem d_M_search_1 : decode c_M_search 1 = .ok (.iload_n 1, 1) := by decide +kernel
theorem d_M_search_2 : decode c_M_search 2 = .ok (.invokevirtual 109, 3) := by decide +kernel
theorem d_M_search_5 : decode c_M_search 5 = .ok (.ifCond .ne 12, 3) := by decide +kernel
theorem d_M_search_8 : decode c_M_search 8 = .ok (.iload_n 2, 1) := by decide +kernel
theorem d_M_search_9 : decode c_M_search 9 = .ok (.ifCond .lt 8, 3) := by decide +kernel
theorem d_M_search_12 : decode c_M_search 12 = .ok (.iload_n 2, 1) := by decide +kernel
theorem d_M_search_13 : decode c_M_search 13 = .ok (.iconst 3, 1) := by decide +kernel
theorem d_M_search_14 : decode c_M_search 14 = .ok (.if_icmp .le 5, 3) := by decide +kernel
theorem d_M_search_17 : decode c_M_search 17 = .ok (.iconst (-1), 1) := by decide +kernel
theorem d_M_search_18 : decode c_M_search 18 = .ok (.ireturn, 1) := by decide +kernel
theorem d_M_search_19 : decode c_M_search 19 = .ok (.iconst 0, 1) := by decide +kernel
theorem d_M_search_20 : decode c_M_search 20 = .ok (.istore 5, 2) := by decide +kernel
theorem d_M_search_22 : decode c_M_search 22 = .ok (.iload 5, 2) := by decide +kernel
theorem d_M_search_24 : decode c_M_search 24 = .ok (.aload_n 0, 1) := by decide +kernel
theorem d_M_search_25 : decode c_M_search 25 = .ok (.getfield 27, 3) := by decide +kernel
theorem d_M_search_28 : decode c_M_search 28 = .ok (.iload_n 1, 1) := by decide +kernel
theorem d_M_search_29 : decode c_M_search 29 = .ok (.baload, 1) := by decide +kernel
theorem d_M_search_30 : decode c_M_search 30 = .ok (.if_icmp .ge 48, 3) := by decide +kernel
theorem d_M_search_33 : decode c_M_search 33 = .ok (.aload_n 0, 1) := by decide +kernel
theorem d_M_search_34 : decode c_M_search 34 = .ok (.iload_n 1, 1) := by decide +kernel
theorem d_M_search_35 : decode c_M_search 35 = .ok (.iload 5, 2) := by decide +kernel
theorem d_M_search_37 : decode c_M_search 37 = .ok (.iconst 1, 1) := by decide +kernel
theorem d_M_search_38 : decode c_M_search 38 = .ok (.iadd, 1) := by decide +kernel
theorem d_M_search_39 : decode c_M_search 39 = .ok (.iload_n 2, 1) := by decide +kernel
theorem d_M_search_40 : decode c_M_search 40 = .ok (.invokevirtual 152, 3) := by decide +kernel
theorem d_M_search_43 : decode c_M_search 43 = .ok (.lstore 6, 2) := by decide +kernel
theorem d_M_search_45 : decode c_M_search 45 = .ok (.lload 6, 2) := by decide +kernel
theorem d_M_search_47 : decode c_M_search 47 = .ok (.lload_n 3, 1) := by decide +kernel
theorem d_M_search_48 : decode c_M_search 48 = .ok (.lcmp, 1) := by decide +kernel
theorem d_M_search_49 : decode c_M_search 49 = .ok (.ifCond .gt 20, 3) := by decide +kernel
theorem d_M_search_52 : decode c_M_search 52 = .ok (.lload 6, 2) := by decide +kernel
theorem d_M_search_54 : decode c_M_search 54 = .ok (.lload_n 3, 1) := by decide +kernel
theorem d_M_search_55 : decode c_M_search 55 = .ok (.lcmp, 1) := by decide +kernel
theorem d_M_search_56 : decode c_M_search 56 = .ok (.ifCond .ne 16, 3) := by decide +kernel
theorem d_M_search_59 : decode c_M_search 59 = .ok (.iload_n 2, 1) := by decide +kernel
theorem d_M_search_60 : decode c_M_search 60 = .ok (.iconst 1, 1) := by decide +kernel
theorem d_M_search_61 : decode c_M_search 61 = .ok (.if_icmp .eq 8, 3) := by decide +kernel
theorem d_M_search_64 : decode c_M_search 64 = .ok (.iload_n 2, 1) := by decide +kernel
theorem d_M_search_65 : decode c_M_search 65 = .ok (.iconst 2, 1) := by decide +kernel
theorem d_M_search_66 : decode c_M_search 66 = .ok (.if_icmp .ne 6, 3) := by decide +kernel
theorem d_M_search_69 : decode c_M_search 69 = .ok (.iload 5, 2) := by decide +kernel
theorem d_M_search_71 : decode c_M_search 71 = .ok (.ireturn, 1) := by decide +kernel
theorem d_M_search_72 : decode c_M_search 72 = .ok (.iinc 5 1, 3) := by decide +kernel
theorem d_M_search_75 : decode c_M_search 75 = .ok (.goto (-53), 3) := by decide +kernel
theorem d_M_search_78 : decode c_M_search 78 = .ok (.aload_n 0, 1) := by decide +kernel
theorem d_M_search_79 : decode c_M_search 79 = .ok (.getfield 27, 3) := by decide +kernel
theorem d_M_search_82 : decode c_M_search 82 = .ok (.iload_n 1, 1) := by decide +kernel
theorem d_M_search_83 : decode c_M_search 83 = .ok (.baload, 1) := by decide +kernel
theorem d_M_search_84 : decode c_M_search 84 = .ok (.ireturn, 1) := by decide +kernel
abbrev c_M_meeting : ByteArray := prog_10_method_45_code
abbrev y_M_meeting : MethodName := ⟨"FingerSpansModel", "meeting", "(IIII)I"⟩
theorem k_M_meeting : Cond.code y_M_meeting c_M_meeting 7 (some FieldType.int) ∈ lw_tbl := List.mem_of_getElem? (i := 741) (by decide +kernel)
theorem b_M_meeting : x_ce y_M_meeting c_M_meeting 7 (some FieldType.int) 4 := ⟨k_M_meeting, i_M, by decide +kernel⟩
theorem s_M_meeting : Cond.instanceMethod y_M_meeting ∈ lw_tbl := List.mem_of_getElem? (i := 739) (by decide +kernel)
theorem v_M_meeting : Cond.selects "FingerSpansModel" y_M_meeting y_M_meeting ∈ lw_tbl := List.mem_of_getElem? (i := 740) (by decide +kernel)
theorem d_M_meeting_0 : decode c_M_meeting 0 = .ok (.aload_n 0, 1) := by decide +kernel
theorem d_M_meeting_1 : decode c_M_meeting 1 = .ok (.iload_n 1, 1) := by decide +kernel
theorem d_M_meeting_2 : decode c_M_meeting 2 = .ok (.invokevirtual 109, 3) := by decide +kernel
theorem d_M_meeting_5 : decode c_M_meeting 5 = .ok (.ifCond .eq 5, 3) := by decide +kernel
theorem d_M_meeting_8 : decode c_M_meeting 8 = .ok (.iconst (-1), 1) := by decide +kernel
theorem d_M_meeting_9 : decode c_M_meeting 9 = .ok (.ireturn, 1) := by decide +kernel
theorem d_M_meeting_10 : decode c_M_meeting 10 = .ok (.iload_n 2, 1) := by decide +kernel
theorem d_M_meeting_11 : decode c_M_meeting 11 = .ok (.ifCond .ge 7, 3) := by decide +kernel
theorem d_M_meeting_14 : decode c_M_meeting 14 = .ok (.iconst 0, 1) := by decide +kernel
theorem d_M_meeting_15 : decode c_M_meeting 15 = .ok (.goto 4, 3) := by decide +kernel
theorem d_M_meeting_18 : decode c_M_meeting 18 = .ok (.iload_n 2, 1) := by decide +kernel
theorem d_M_meeting_19 : decode c_M_meeting 19 = .ok (.istore 5, 2) := by decide +kernel
theorem d_M_meeting_21 : decode c_M_meeting 21 = .ok (.iload 5, 2) := by decide +kernel
theorem d_M_meeting_23 : decode c_M_meeting 23 = .ok (.aload_n 0, 1) := by decide +kernel
theorem d_M_meeting_24 : decode c_M_meeting 24 = .ok (.getfield 27, 3) := by decide +kernel
theorem d_M_meeting_27 : decode c_M_meeting 27 = .ok (.iload_n 1, 1) := by decide +kernel
theorem d_M_meeting_28 : decode c_M_meeting 28 = .ok (.baload, 1) := by decide +kernel
theorem d_M_meeting_29 : decode c_M_meeting 29 = .ok (.if_icmp .ge 52, 3) := by decide +kernel
theorem d_M_meeting_32 : decode c_M_meeting 32 = .ok (.aload_n 0, 1) := by decide +kernel
theorem d_M_meeting_33 : decode c_M_meeting 33 = .ok (.getfield 23, 3) := by decide +kernel
theorem d_M_meeting_36 : decode c_M_meeting 36 = .ok (.bipush 40, 2) := by decide +kernel
theorem d_M_meeting_38 : decode c_M_meeting 38 = .ok (.iload_n 1, 1) := by decide +kernel
theorem d_M_meeting_39 : decode c_M_meeting 39 = .ok (.imul, 1) := by decide +kernel
theorem d_M_meeting_40 : decode c_M_meeting 40 = .ok (.iload 5, 2) := by decide +kernel
theorem d_M_meeting_42 : decode c_M_meeting 42 = .ok (.iadd, 1) := by decide +kernel
theorem d_M_meeting_43 : decode c_M_meeting 43 = .ok (.laload, 1) := by decide +kernel
theorem d_M_meeting_44 : decode c_M_meeting 44 = .ok (.invokestatic 144, 3) := by decide +kernel
theorem d_M_meeting_47 : decode c_M_meeting 47 = .ok (.istore 6, 2) := by decide +kernel
theorem d_M_meeting_49 : decode c_M_meeting 49 = .ok (.aload_n 0, 1) := by decide +kernel
theorem d_M_meeting_50 : decode c_M_meeting 50 = .ok (.getfield 7, 3) := by decide +kernel
theorem d_M_meeting_53 : decode c_M_meeting 53 = .ok (.iload 6, 2) := by decide +kernel
theorem d_M_meeting_55 : decode c_M_meeting 55 = .ok (.iaload, 1) := by decide +kernel
theorem d_M_meeting_56 : decode c_M_meeting 56 = .ok (.iload 4, 2) := by decide +kernel
theorem d_M_meeting_58 : decode c_M_meeting 58 = .ok (.if_icmp .gt 17, 3) := by decide +kernel
theorem d_M_meeting_61 : decode c_M_meeting 61 = .ok (.aload_n 0, 1) := by decide +kernel
theorem d_M_meeting_62 : decode c_M_meeting 62 = .ok (.getfield 13, 3) := by decide +kernel
theorem d_M_meeting_65 : decode c_M_meeting 65 = .ok (.iload 6, 2) := by decide +kernel
theorem d_M_meeting_67 : decode c_M_meeting 67 = .ok (.iaload, 1) := by decide +kernel
theorem d_M_meeting_68 : decode c_M_meeting 68 = .ok (.iload_n 3, 1) := by decide +kernel
theorem d_M_meeting_69 : decode c_M_meeting 69 = .ok (.if_icmp .lt 6, 3) := by decide +kernel
theorem d_M_meeting_72 : decode c_M_meeting 72 = .ok (.iload 5, 2) := by decide +kernel
theorem d_M_meeting_74 : decode c_M_meeting 74 = .ok (.ireturn, 1) := by decide +kernel
theorem d_M_meeting_75 : decode c_M_meeting 75 = .ok (.iinc 5 1, 3) := by decide +kernel
theorem d_M_meeting_78 : decode c_M_meeting 78 = .ok (.goto (-57), 3) := by decide +kernel
theorem d_M_meeting_81 : decode c_M_meeting 81 = .ok (.iconst (-1), 1) := by decide +kernel
theorem d_M_meeting_82 : decode c_M_meeting 82 = .ok (.ireturn, 1) := by decide +kernel
abbrev c_M_spine : ByteArray := prog_10_method_46_code
abbrev y_M_spine : MethodName := ⟨"FingerSpansModel", "spine", "(I)I"⟩
theorem k_M_spine : Cond.code y_M_spine c_M_spine 7 (some FieldType.int) ∈ lw_tbl := List.mem_of_getElem? (i := 745) (by decide +kernel)
theorem b_M_spine : x_ce y_M_spine c_M_spine 7 (some FieldType.int) 1 := ⟨k_M_spine, i_M, by decide +kernel⟩
theorem s_M_spine : Cond.instanceMethod y_M_spine ∈ lw_tbl := List.mem_of_getElem? (i := 743) (by decide +kernel)
theorem v_M_spine : Cond.selects "FingerSpansModel" y_M_spine y_M_spine ∈ lw_tbl := List.mem_of_getElem? (i := 744) (by decide +kernel)
theorem d_M_spine_0 : decode c_M_spine 0 = .ok (.aload_n 0, 1) := by decide +kernel
theorem d_M_spine_1 : decode c_M_spine 1 = .ok (.iload_n 1, 1) := by decide +kernel
theorem d_M_spine_2 : decode c_M_spine 2 = .ok (.invokevirtual 109, 3) := by decide +kernel
theorem d_M_spine_5 : decode c_M_spine 5 = .ok (.ifCond .eq 5, 3) := by decide +kernel
theorem d_M_spine_8 : decode c_M_spine 8 = .ok (.iconst (-1), 1) := by decide +kernel
theorem d_M_spine_9 : decode c_M_spine 9 = .ok (.ireturn, 1) := by decide +kernel
theorem d_M_spine_10 : decode c_M_spine 10 = .ok (.iconst 0, 1) := by decide +kernel
theorem d_M_spine_11 : decode c_M_spine 11 = .ok (.istore_n 2, 1) := by decide +kernel
theorem d_M_spine_12 : decode c_M_spine 12 = .ok (.iconst 0, 1) := by decide +kernel
theorem d_M_spine_13 : decode c_M_spine 13 = .ok (.istore_n 3, 1) := by decide +kernel
theorem d_M_spine_14 : decode c_M_spine 14 = .ok (.iconst 0, 1) := by decide +kernel
theorem d_M_spine_15 : decode c_M_spine 15 = .ok (.istore 4, 2) := by decide +kernel
theorem d_M_spine_17 : decode c_M_spine 17 = .ok (.iload 4, 2) := by decide +kernel
theorem d_M_spine_19 : decode c_M_spine 19 = .ok (.aload_n 0, 1) := by decide +kernel
theorem d_M_spine_20 : decode c_M_spine 20 = .ok (.getfield 27, 3) := by decide +kernel
theorem d_M_spine_23 : decode c_M_spine 23 = .ok (.iload_n 1, 1) := by decide +kernel
theorem d_M_spine_24 : decode c_M_spine 24 = .ok (.baload, 1) := by decide +kernel
theorem d_M_spine_25 : decode c_M_spine 25 = .ok (.if_icmp .ge 67, 3) := by decide +kernel
theorem d_M_spine_28 : decode c_M_spine 28 = .ok (.aload_n 0, 1) := by decide +kernel
theorem d_M_spine_29 : decode c_M_spine 29 = .ok (.getfield 23, 3) := by decide +kernel
theorem d_M_spine_32 : decode c_M_spine 32 = .ok (.bipush 40, 2) := by decide +kernel
theorem d_M_spine_34 : decode c_M_spine 34 = .ok (.iload_n 1, 1) := by decide +kernel
theorem d_M_spine_35 : decode c_M_spine 35 = .ok (.imul, 1) := by decide +kernel
theorem d_M_spine_36 : decode c_M_spine 36 = .ok (.iload 4, 2) := by decide +kernel
theorem d_M_spine_38 : decode c_M_spine 38 = .ok (.iadd, 1) := by decide +kernel
theorem d_M_spine_39 : decode c_M_spine 39 = .ok (.laload, 1) := by decide +kernel
theorem d_M_spine_40 : decode c_M_spine 40 = .ok (.lstore 5, 2) := by decide +kernel
theorem d_M_spine_42 : decode c_M_spine 42 = .ok (.lload 5, 2) := by decide +kernel
theorem d_M_spine_44 : decode c_M_spine 44 = .ok (.invokestatic 44, 3) := by decide +kernel
theorem d_M_spine_47 : decode c_M_spine 47 = .ok (.ifCond .ne 22, 3) := by decide +kernel
theorem d_M_spine_50 : decode c_M_spine 50 = .ok (.lload 5, 2) := by decide +kernel
theorem d_M_spine_52 : decode c_M_spine 52 = .ok (.invokestatic 40, 3) := by decide +kernel
theorem d_M_spine_55 : decode c_M_spine 55 = .ok (.iload_n 2, 1) := by decide +kernel
theorem d_M_spine_56 : decode c_M_spine 56 = .ok (.if_icmp .lt 13, 3) := by decide +kernel
theorem d_M_spine_59 : decode c_M_spine 59 = .ok (.lload 5, 2) := by decide +kernel
theorem d_M_spine_61 : decode c_M_spine 61 = .ok (.invokestatic 40, 3) := by decide +kernel
theorem d_M_spine_64 : decode c_M_spine 64 = .ok (.iconst 1, 1) := by decide +kernel
theorem d_M_spine_65 : decode c_M_spine 65 = .ok (.iadd, 1) := by decide +kernel
theorem d_M_spine_66 : decode c_M_spine 66 = .ok (.goto 4, 3) := by decide +kernel
theorem d_M_spine_69 : decode c_M_spine 69 = .ok (.iload_n 2, 1) := by decide +kernel
theorem d_M_spine_70 : decode c_M_spine 70 = .ok (.istore_n 2, 1) := by decide +kernel
theorem d_M_spine_71 : decode c_M_spine 71 = .ok (.lload 5, 2) := by decide +kernel
theorem d_M_spine_73 : decode c_M_spine 73 = .ok (.invokestatic 44, 3) := by decide +kernel
theorem d_M_spine_76 : decode c_M_spine 76 = .ok (.iconst 2, 1) := by decide +kernel
theorem d_M_spine_77 : decode c_M_spine 77 = .ok (.if_icmp .ne 7, 3) := by decide +kernel
theorem d_M_spine_80 : decode c_M_spine 80 = .ok (.iconst 1, 1) := by decide +kernel
theorem d_M_spine_81 : decode c_M_spine 81 = .ok (.goto 4, 3) := by decide +kernel
theorem d_M_spine_84 : decode c_M_spine 84 = .ok (.iload_n 3, 1) := by decide +kernel
theorem d_M_spine_85 : decode c_M_spine 85 = .ok (.istore_n 3, 1) := by decide +kernel
theorem d_M_spine_86 : decode c_M_spine 86 = .ok (.iinc 4 1, 3) := by decide +kernel
theorem d_M_spine_89 : decode c_M_spine 89 = .ok (.goto (-72), 3) := by decide +kernel
theorem d_M_spine_92 : decode c_M_spine 92 = .ok (.iconst 2, 1) := by decide +kernel
theorem d_M_spine_93 : decode c_M_spine 93 = .ok (.iload_n 2, 1) := by decide +kernel
theorem d_M_spine_94 : decode c_M_spine 94 = .ok (.imul, 1) := by decide +kernel
theorem d_M_spine_95 : decode c_M_spine 95 = .ok (.iload_n 3, 1) := by decide +kernel
theorem d_M_spine_96 : decode c_M_spine 96 = .ok (.iadd, 1) := by decide +kernel
theorem d_M_spine_97 : decode c_M_spine 97 = .ok (.ireturn, 1) := by decide +kernel
abbrev c_M_digit : ByteArray := prog_10_method_47_code
abbrev y_M_digit : MethodName := ⟨"FingerSpansModel", "digit", "(IIZ)I"⟩
theorem k_M_digit : Cond.code y_M_digit c_M_digit 8 (some FieldType.int) ∈ lw_tbl := List.mem_of_getElem? (i := 749) (by decide +kernel)
theorem b_M_digit : x_ce y_M_digit c_M_digit 8 (some FieldType.int) 3 := ⟨k_M_digit, i_M, by decide +kernel⟩
theorem s_M_digit : Cond.instanceMethod y_M_digit ∈ lw_tbl := List.mem_of_getElem? (i := 747) (by decide +kernel)
theorem v_M_digit : Cond.selects "FingerSpansModel" y_M_digit y_M_digit ∈ lw_tbl := List.mem_of_getElem? (i := 748) (by decide +kernel)
theorem d_M_digit_0 : decode c_M_digit 0 = .ok (.aload_n 0, 1) := by decide +kernel
theorem d_M_digit_1 : decode c_M_digit 1 = .ok (.iload_n 1, 1) := by decide +kernel
theorem d_M_digit_2 : decode c_M_digit 2 = .ok (.invokevirtual 109, 3) := by decide +kernel
theorem d_M_digit_5 : decode c_M_digit 5 = .ok (.ifCond .eq 5, 3) := by decide +kernel
theorem d_M_digit_8 : decode c_M_digit 8 = .ok (.iconst (-1), 1) := by decide +kernel
theorem d_M_digit_9 : decode c_M_digit 9 = .ok (.ireturn, 1) := by decide +kernel
theorem d_M_digit_10 : decode c_M_digit 10 = .ok (.aload_n 0, 1) := by decide +kernel
theorem d_M_digit_11 : decode c_M_digit 11 = .ok (.iload_n 1, 1) := by decide +kernel
theorem d_M_digit_12 : decode c_M_digit 12 = .ok (.invokevirtual 113, 3) := by decide +kernel
theorem d_M_digit_15 : decode c_M_digit 15 = .ok (.iconst 0, 1) := by decide +kernel
theorem d_M_digit_16 : decode c_M_digit 16 = .ok (.istore 4, 2) := by decide +kernel
theorem d_M_digit_18 : decode c_M_digit 18 = .ok (.iconst 0, 1) := by decide +kernel
theorem d_M_digit_19 : decode c_M_digit 19 = .ok (.istore 5, 2) := by decide +kernel
theorem d_M_digit_21 : decode c_M_digit 21 = .ok (.iload 5, 2) := by decide +kernel
theorem d_M_digit_23 : decode c_M_digit 23 = .ok (.aload_n 0, 1) := by decide +kernel
theorem d_M_digit_24 : decode c_M_digit 24 = .ok (.getfield 37, 3) := by decide +kernel
theorem d_M_digit_27 : decode c_M_digit 27 = .ok (.if_icmp .ge 79, 3) := by decide +kernel
theorem d_M_digit_30 : decode c_M_digit 30 = .ok (.aload_n 0, 1) := by decide +kernel
theorem d_M_digit_31 : decode c_M_digit 31 = .ok (.getfield 34, 3) := by decide +kernel
theorem d_M_digit_34 : decode c_M_digit 34 = .ok (.iload 5, 2) := by decide +kernel
theorem d_M_digit_36 : decode c_M_digit 36 = .ok (.laload, 1) := by decide +kernel
theorem d_M_digit_37 : decode c_M_digit 37 = .ok (.invokestatic 40, 3) := by decide +kernel
theorem d_M_digit_40 : decode c_M_digit 40 = .ok (.istore 6, 2) := by decide +kernel
theorem d_M_digit_42 : decode c_M_digit 42 = .ok (.iload 6, 2) := by decide +kernel
theorem d_M_digit_44 : decode c_M_digit 44 = .ok (.iload_n 2, 1) := by decide +kernel
theorem d_M_digit_45 : decode c_M_digit 45 = .ok (.if_icmp .ne 29, 3) := by decide +kernel
theorem d_M_digit_48 : decode c_M_digit 48 = .ok (.aload_n 0, 1) := by decide +kernel
theorem d_M_digit_49 : decode c_M_digit 49 = .ok (.getfield 34, 3) := by decide +kernel
theorem d_M_digit_52 : decode c_M_digit 52 = .ok (.iload 5, 2) := by decide +kernel
theorem d_M_digit_54 : decode c_M_digit 54 = .ok (.laload, 1) := by decide +kernel
theorem d_M_digit_55 : decode c_M_digit 55 = .ok (.invokestatic 44, 3) := by decide +kernel
theorem d_M_digit_58 : decode c_M_digit 58 = .ok (.iload_n 3, 1) := by decide +kernel
theorem d_M_digit_59 : decode c_M_digit 59 = .ok (.ifCond .eq 7, 3) := by decide +kernel
theorem d_M_digit_62 : decode c_M_digit 62 = .ok (.iconst 1, 1) := by decide +kernel
theorem d_M_digit_63 : decode c_M_digit 63 = .ok (.goto 4, 3) := by decide +kernel
theorem d_M_digit_66 : decode c_M_digit 66 = .ok (.iconst 0, 1) := by decide +kernel
theorem d_M_digit_67 : decode c_M_digit 67 = .ok (.if_icmp .ne 7, 3) := by decide +kernel
theorem d_M_digit_70 : decode c_M_digit 70 = .ok (.iconst 1, 1) := by decide +kernel
theorem d_M_digit_71 : decode c_M_digit 71 = .ok (.goto 4, 3) := by decide +kernel
theorem d_M_digit_74 : decode c_M_digit 74 = .ok (.iconst 0, 1) := by decide +kernel
theorem d_M_digit_75 : decode c_M_digit 75 = .ok (.istore 7, 2) := by decide +kernel
theorem d_M_digit_77 : decode c_M_digit 77 = .ok (.iload 7, 2) := by decide +kernel
theorem d_M_digit_79 : decode c_M_digit 79 = .ok (.ifCond .eq 10, 3) := by decide +kernel
theorem d_M_digit_82 : decode c_M_digit 82 = .ok (.iload 4, 2) := by decide +kernel
theorem d_M_digit_84 : decode c_M_digit 84 = .ok (.iconst 1, 1) := by decide +kernel
theorem d_M_digit_85 : decode c_M_digit 85 = .ok (.iadd, 1) := by decide +kernel
theorem d_M_digit_86 : decode c_M_digit 86 = .ok (.goto 5, 3) := by decide +kernel
theorem d_M_digit_89 : decode c_M_digit 89 = .ok (.iload 4, 2) := by decide +kernel
theorem d_M_digit_91 : decode c_M_digit 91 = .ok (.istore 4, 2) := by decide +kernel
theorem d_M_digit_93 : decode c_M_digit 93 = .ok (.aload_n 0, 1) := by decide +kernel
theorem d_M_digit_94 : decode c_M_digit 94 = .ok (.iload 5, 2) := by decide +kernel
theorem d_M_digit_96 : decode c_M_digit 96 = .ok (.iload 6, 2) := by decide +kernel
theorem d_M_digit_98 : decode c_M_digit 98 = .ok (.invokevirtual 60, 3) := by decide +kernel
theorem d_M_digit_101 : decode c_M_digit 101 = .ok (.istore 5, 2) := by decide +kernel
theorem d_M_digit_103 : decode c_M_digit 103 = .ok (.goto (-82), 3) := by decide +kernel
theorem d_M_digit_106 : decode c_M_digit 106 = .ok (.iload 4, 2) := by decide +kernel
theorem d_M_digit_108 : decode c_M_digit 108 = .ok (.ireturn, 1) := by decide +kernel
abbrev c_M_rank : ByteArray := prog_10_method_48_code
abbrev y_M_rank : MethodName := ⟨"FingerSpansModel", "rank", "(II)I"⟩
theorem k_M_rank : Cond.code y_M_rank c_M_rank 3 (some FieldType.int) ∈ lw_tbl := List.mem_of_getElem? (i := 753) (by decide +kernel)
theorem b_M_rank : x_ce y_M_rank c_M_rank 3 (some FieldType.int) 2 := ⟨k_M_rank, i_M, by decide +kernel⟩
theorem s_M_rank : Cond.instanceMethod y_M_rank ∈ lw_tbl := List.mem_of_getElem? (i := 751) (by decide +kernel)
theorem v_M_rank : Cond.selects "FingerSpansModel" y_M_rank y_M_rank ∈ lw_tbl := List.mem_of_getElem? (i := 752) (by decide +kernel)
theorem d_M_rank_0 : decode c_M_rank 0 = .ok (.aload_n 0, 1) := by decide +kernel
theorem d_M_rank_1 : decode c_M_rank 1 = .ok (.iload_n 1, 1) := by decide +kernel
theorem d_M_rank_2 : decode c_M_rank 2 = .ok (.iload_n 2, 1) := by decide +kernel
theorem d_M_rank_3 : decode c_M_rank 3 = .ok (.invokevirtual 147, 3) := by decide +kernel
theorem d_M_rank_6 : decode c_M_rank 6 = .ok (.ifCond .eq 7, 3) := by decide +kernel
theorem d_M_rank_9 : decode c_M_rank 9 = .ok (.iconst (-1), 1) := by decide +kernel
theorem d_M_rank_10 : decode c_M_rank 10 = .ok (.goto 17, 3) := by decide +kernel
theorem d_M_rank_13 : decode c_M_rank 13 = .ok (.aload_n 0, 1) := by decide +kernel
theorem d_M_rank_14 : decode c_M_rank 14 = .ok (.getfield 23, 3) := by decide +kernel
theorem d_M_rank_17 : decode c_M_rank 17 = .ok (.bipush 40, 2) := by decide +kernel
theorem d_M_rank_19 : decode c_M_rank 19 = .ok (.iload_n 1, 1) := by decide +kernel
theorem d_M_rank_20 : decode c_M_rank 20 = .ok (.imul, 1) := by decide +kernel
theorem d_M_rank_21 : decode c_M_rank 21 = .ok (.iload_n 2, 1) := by decide +kernel
theorem d_M_rank_22 : decode c_M_rank 22 = .ok (.iadd, 1) := by decide +kernel
theorem d_M_rank_23 : decode c_M_rank 23 = .ok (.laload, 1) := by decide +kernel
theorem d_M_rank_24 : decode c_M_rank 24 = .ok (.invokestatic 40, 3) := by decide +kernel
theorem d_M_rank_27 : decode c_M_rank 27 = .ok (.ireturn, 1) := by decide +kernel
abbrev c_M_paint : ByteArray := prog_10_method_49_code
abbrev y_M_paint : MethodName := ⟨"FingerSpansModel", "paint", "(III)I"⟩
theorem k_M_paint : Cond.code y_M_paint c_M_paint 10 (some FieldType.int) ∈ lw_tbl := List.mem_of_getElem? (i := 761) (by decide +kernel)
theorem b_M_paint : x_ce y_M_paint c_M_paint 10 (some FieldType.int) 3 := ⟨k_M_paint, i_M, by decide +kernel⟩
theorem s_M_paint : Cond.instanceMethod y_M_paint ∈ lw_tbl := List.mem_of_getElem? (i := 760) (by decide +kernel)
theorem v_M_paint : Cond.selects "FingerSpansModel" y_M_paint y_M_paint ∈ lw_tbl := List.mem_of_getElem? (i := 57) (by decide +kernel)
theorem d_M_paint_0 : decode c_M_paint 0 = .ok (.iconst 0, 1) := by decide +kernel
theorem d_M_paint_1 : decode c_M_paint 1 = .ok (.istore 4, 2) := by decide +kernel
theorem d_M_paint_3 : decode c_M_paint 3 = .ok (.iconst 0, 1) := by decide +kernel
theorem d_M_paint_4 : decode c_M_paint 4 = .ok (.istore 5, 2) := by decide +kernel
theorem d_M_paint_6 : decode c_M_paint 6 = .ok (.iload 5, 2) := by decide +kernel
theorem d_M_paint_8 : decode c_M_paint 8 = .ok (.aload_n 0, 1) := by decide +kernel
theorem d_M_paint_9 : decode c_M_paint 9 = .ok (.getfield 27, 3) := by decide +kernel
theorem d_M_paint_12 : decode c_M_paint 12 = .ok (.iload_n 1, 1) := by decide +kernel
theorem d_M_paint_13 : decode c_M_paint 13 = .ok (.baload, 1) := by decide +kernel
theorem d_M_paint_14 : decode c_M_paint 14 = .ok (.if_icmp .ge 74, 3) := by decide +kernel
theorem d_M_paint_17 : decode c_M_paint 17 = .ok (.aload_n 0, 1) := by decide +kernel
theorem d_M_paint_18 : decode c_M_paint 18 = .ok (.getfield 23, 3) := by decide +kernel
theorem d_M_paint_21 : decode c_M_paint 21 = .ok (.bipush 40, 2) := by decide +kernel
theorem d_M_paint_23 : decode c_M_paint 23 = .ok (.iload_n 1, 1) := by decide +kernel
theorem d_M_paint_24 : decode c_M_paint 24 = .ok (.imul, 1) := by decide +kernel
theorem d_M_paint_25 : decode c_M_paint 25 = .ok (.iload 5, 2) := by decide +kernel
theorem d_M_paint_27 : decode c_M_paint 27 = .ok (.iadd, 1) := by decide +kernel
theorem d_M_paint_28 : decode c_M_paint 28 = .ok (.laload, 1) := by decide +kernel
theorem d_M_paint_29 : decode c_M_paint 29 = .ok (.lstore 6, 2) := by decide +kernel
theorem d_M_paint_31 : decode c_M_paint 31 = .ok (.iconst 1, 1) := by decide +kernel
theorem d_M_paint_32 : decode c_M_paint 32 = .ok (.istore 8, 2) := by decide +kernel
theorem d_M_paint_34 : decode c_M_paint 34 = .ok (.iload 8, 2) := by decide +kernel
theorem d_M_paint_36 : decode c_M_paint 36 = .ok (.lload 6, 2) := by decide +kernel
theorem d_M_paint_38 : decode c_M_paint 38 = .ok (.invokestatic 40, 3) := by decide +kernel
theorem d_M_paint_41 : decode c_M_paint 41 = .ok (.if_icmp .gt 41, 3) := by decide +kernel
theorem d_M_paint_44 : decode c_M_paint 44 = .ok (.lload 6, 2) := by decide +kernel
theorem d_M_paint_46 : decode c_M_paint 46 = .ok (.iload 8, 2) := by decide +kernel
theorem d_M_paint_48 : decode c_M_paint 48 = .ok (.invokestatic 47, 3) := by decide +kernel
theorem d_M_paint_51 : decode c_M_paint 51 = .ok (.istore 9, 2) := by decide +kernel
theorem d_M_paint_53 : decode c_M_paint 53 = .ok (.aload_n 0, 1) := by decide +kernel
theorem d_M_paint_54 : decode c_M_paint 54 = .ok (.getfield 20, 3) := by decide +kernel
theorem d_M_paint_57 : decode c_M_paint 57 = .ok (.iload 9, 2) := by decide +kernel
theorem d_M_paint_59 : decode c_M_paint 59 = .ok (.baload, 1) := by decide +kernel
theorem d_M_paint_60 : decode c_M_paint 60 = .ok (.iload_n 2, 1) := by decide +kernel
theorem d_M_paint_61 : decode c_M_paint 61 = .ok (.if_icmp .ne 15, 3) := by decide +kernel
theorem d_M_paint_64 : decode c_M_paint 64 = .ok (.aload_n 0, 1) := by decide +kernel
theorem d_M_paint_65 : decode c_M_paint 65 = .ok (.getfield 20, 3) := by decide +kernel
theorem d_M_paint_68 : decode c_M_paint 68 = .ok (.iload 9, 2) := by decide +kernel
theorem d_M_paint_70 : decode c_M_paint 70 = .ok (.iload_n 3, 1) := by decide +kernel
theorem d_M_paint_71 : decode c_M_paint 71 = .ok (.i2b, 1) := by decide +kernel
theorem d_M_paint_72 : decode c_M_paint 72 = .ok (.bastore, 1) := by decide +kernel
theorem d_M_paint_73 : decode c_M_paint 73 = .ok (.iinc 4 1, 3) := by decide +kernel
theorem d_M_paint_76 : decode c_M_paint 76 = .ok (.iinc 8 1, 3) := by decide +kernel
theorem d_M_paint_79 : decode c_M_paint 79 = .ok (.goto (-45), 3) := by decide +kernel
theorem d_M_paint_82 : decode c_M_paint 82 = .ok (.iinc 5 1, 3) := by decide +kernel
theorem d_M_paint_85 : decode c_M_paint 85 = .ok (.goto (-79), 3) := by decide +kernel
theorem d_M_paint_88 : decode c_M_paint 88 = .ok (.iload 4, 2) := by decide +kernel
theorem d_M_paint_90 : decode c_M_paint 90 = .ok (.ireturn, 1) := by decide +kernel
abbrev c_M_shared : ByteArray := prog_10_method_50_code
abbrev y_M_shared : MethodName := ⟨"FingerSpansModel", "shared", "(II)I"⟩
theorem k_M_shared : Cond.code y_M_shared c_M_shared 4 (some FieldType.int) ∈ lw_tbl := List.mem_of_getElem? (i := 757) (by decide +kernel)
theorem b_M_shared : x_ce y_M_shared c_M_shared 4 (some FieldType.int) 2 := ⟨k_M_shared, i_M, by decide +kernel⟩
theorem s_M_shared : Cond.instanceMethod y_M_shared ∈ lw_tbl := List.mem_of_getElem? (i := 755) (by decide +kernel)
theorem v_M_shared : Cond.selects "FingerSpansModel" y_M_shared y_M_shared ∈ lw_tbl := List.mem_of_getElem? (i := 756) (by decide +kernel)
theorem d_M_shared_0 : decode c_M_shared 0 = .ok (.aload_n 0, 1) := by decide +kernel
theorem d_M_shared_1 : decode c_M_shared 1 = .ok (.iload_n 1, 1) := by decide +kernel
theorem d_M_shared_2 : decode c_M_shared 2 = .ok (.invokevirtual 109, 3) := by decide +kernel
theorem d_M_shared_5 : decode c_M_shared 5 = .ok (.ifCond .ne 11, 3) := by decide +kernel
theorem d_M_shared_8 : decode c_M_shared 8 = .ok (.aload_n 0, 1) := by decide +kernel
theorem d_M_shared_9 : decode c_M_shared 9 = .ok (.iload_n 2, 1) := by decide +kernel
theorem d_M_shared_10 : decode c_M_shared 10 = .ok (.invokevirtual 109, 3) := by decide +kernel
theorem d_M_shared_13 : decode c_M_shared 13 = .ok (.ifCond .eq 5, 3) := by decide +kernel
theorem d_M_shared_16 : decode c_M_shared 16 = .ok (.iconst (-1), 1) := by decide +kernel
theorem d_M_shared_17 : decode c_M_shared 17 = .ok (.ireturn, 1) := by decide +kernel
theorem d_M_shared_18 : decode c_M_shared 18 = .ok (.aload_n 0, 1) := by decide +kernel
theorem d_M_shared_19 : decode c_M_shared 19 = .ok (.iload_n 1, 1) := by decide +kernel
theorem d_M_shared_20 : decode c_M_shared 20 = .ok (.iconst 0, 1) := by decide +kernel
theorem d_M_shared_21 : decode c_M_shared 21 = .ok (.iconst 1, 1) := by decide +kernel
theorem d_M_shared_22 : decode c_M_shared 22 = .ok (.invokevirtual 156, 3) := by decide +kernel
theorem d_M_shared_25 : decode c_M_shared 25 = .ok (.pop, 1) := by decide +kernel
theorem d_M_shared_26 : decode c_M_shared 26 = .ok (.aload_n 0, 1) := by decide +kernel
theorem d_M_shared_27 : decode c_M_shared 27 = .ok (.iload_n 2, 1) := by decide +kernel
theorem d_M_shared_28 : decode c_M_shared 28 = .ok (.iconst 1, 1) := by decide +kernel
theorem d_M_shared_29 : decode c_M_shared 29 = .ok (.iconst 2, 1) := by decide +kernel
theorem d_M_shared_30 : decode c_M_shared 30 = .ok (.invokevirtual 156, 3) := by decide +kernel
theorem d_M_shared_33 : decode c_M_shared 33 = .ok (.istore_n 3, 1) := by decide +kernel
theorem d_M_shared_34 : decode c_M_shared 34 = .ok (.aload_n 0, 1) := by decide +kernel
theorem d_M_shared_35 : decode c_M_shared 35 = .ok (.iload_n 1, 1) := by decide +kernel
theorem d_M_shared_36 : decode c_M_shared 36 = .ok (.iconst 1, 1) := by decide +kernel
theorem d_M_shared_37 : decode c_M_shared 37 = .ok (.iconst 0, 1) := by decide +kernel
theorem d_M_shared_38 : decode c_M_shared 38 = .ok (.invokevirtual 156, 3) := by decide +kernel
theorem d_M_shared_41 : decode c_M_shared 41 = .ok (.pop, 1) := by decide +kernel
theorem d_M_shared_42 : decode c_M_shared 42 = .ok (.aload_n 0, 1) := by decide +kernel
theorem d_M_shared_43 : decode c_M_shared 43 = .ok (.iload_n 1, 1) := by decide +kernel
theorem d_M_shared_44 : decode c_M_shared 44 = .ok (.iconst 2, 1) := by decide +kernel
theorem d_M_shared_45 : decode c_M_shared 45 = .ok (.iconst 0, 1) := by decide +kernel
theorem d_M_shared_46 : decode c_M_shared 46 = .ok (.invokevirtual 156, 3) := by decide +kernel
theorem d_M_shared_49 : decode c_M_shared 49 = .ok (.pop, 1) := by decide +kernel
theorem d_M_shared_50 : decode c_M_shared 50 = .ok (.iload_n 3, 1) := by decide +kernel
theorem d_M_shared_51 : decode c_M_shared 51 = .ok (.ireturn, 1) := by decide +kernel
abbrev c_M_made : ByteArray := prog_10_method_51_code
abbrev y_M_made : MethodName := ⟨"FingerSpansModel", "made", "()I"⟩
theorem k_M_made : Cond.code y_M_made c_M_made 1 (some FieldType.int) ∈ lw_tbl := List.mem_of_getElem? (i := 765) (by decide +kernel)
theorem b_M_made : x_ce y_M_made c_M_made 1 (some FieldType.int) 0 := ⟨k_M_made, i_M, by decide +kernel⟩
theorem s_M_made : Cond.instanceMethod y_M_made ∈ lw_tbl := List.mem_of_getElem? (i := 763) (by decide +kernel)
theorem v_M_made : Cond.selects "FingerSpansModel" y_M_made y_M_made ∈ lw_tbl := List.mem_of_getElem? (i := 764) (by decide +kernel)
theorem d_M_made_0 : decode c_M_made 0 = .ok (.aload_n 0, 1) := by decide +kernel
theorem d_M_made_1 : decode c_M_made 1 = .ok (.getfield 53, 3) := by decide +kernel
theorem d_M_made_4 : decode c_M_made 4 = .ok (.ireturn, 1) := by decide +kernel
