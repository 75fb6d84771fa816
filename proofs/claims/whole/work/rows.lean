section
-- ===== PART A: goes FIRST, ahead of the names: the tables' words, and 'selects' of the private methods out of them =====
/-- a private method of a class that the tables say can be made, by its rows of tables_1 -/
def lw_okq (q : MethodName × Nat) : Prop := (q.1.cls ≠ "java/lang/invoke/MethodHandle" ∧ q.1.cls ≠ "java/lang/invoke/VarHandle") ∧ Cond.instantiable q.1.cls q.2 ∈ tables_1 ∧ Cond.privateMethod q.1 ∈ tables_1 ∧ Cond.instanceMethod q.1 ∈ tables_1
theorem lw_p0 : lw_okq (⟨"FingerSpans", "isVersion", "(I)Z"⟩, 4) := ⟨⟨by decide +kernel, by decide +kernel⟩, List.mem_of_getElem? (i := 12) (by decide +kernel), List.mem_of_getElem? (i := 111) (by decide +kernel), List.mem_of_getElem? (i := 112) (by decide +kernel)⟩
theorem lw_p1 : lw_okq (⟨"FingerSpans", "hasRoomFor", "(I)Z"⟩, 4) := ⟨⟨by decide +kernel, by decide +kernel⟩, List.mem_of_getElem? (i := 12) (by decide +kernel), List.mem_of_getElem? (i := 115) (by decide +kernel), List.mem_of_getElem? (i := 116) (by decide +kernel)⟩
theorem lw_p2 : lw_okq (⟨"FingerSpans$Rules", "front", "(LFingerSpans$Item;LFingerSpans$Tree;)LFingerSpans$Tree;"⟩, 3) := ⟨⟨by decide +kernel, by decide +kernel⟩, List.mem_of_getElem? (i := 20) (by decide +kernel), List.mem_of_getElem? (i := 149) (by decide +kernel), List.mem_of_getElem? (i := 150) (by decide +kernel)⟩
theorem lw_p3 : lw_okq (⟨"FingerSpans$Tree", "isEmpty", "()Z"⟩, 5) := ⟨⟨by decide +kernel, by decide +kernel⟩, List.mem_of_getElem? (i := 28) (by decide +kernel), List.mem_of_getElem? (i := 153) (by decide +kernel), List.mem_of_getElem? (i := 154) (by decide +kernel)⟩
theorem lw_p4 : lw_okq (⟨"FingerSpans$Rules", "single", "(LFingerSpans$Item;)LFingerSpans$Tree;"⟩, 3) := ⟨⟨by decide +kernel, by decide +kernel⟩, List.mem_of_getElem? (i := 20) (by decide +kernel), List.mem_of_getElem? (i := 157) (by decide +kernel), List.mem_of_getElem? (i := 158) (by decide +kernel)⟩
theorem lw_p5 : lw_okq (⟨"FingerSpans$Tree", "isDeep", "()Z"⟩, 5) := ⟨⟨by decide +kernel, by decide +kernel⟩, List.mem_of_getElem? (i := 28) (by decide +kernel), List.mem_of_getElem? (i := 164) (by decide +kernel), List.mem_of_getElem? (i := 165) (by decide +kernel)⟩
theorem lw_p6 : lw_okq (⟨"FingerSpans$Rules", "node", "([LFingerSpans$Item;)LFingerSpans$Item;"⟩, 3) := ⟨⟨by decide +kernel, by decide +kernel⟩, List.mem_of_getElem? (i := 20) (by decide +kernel), List.mem_of_getElem? (i := 178) (by decide +kernel), List.mem_of_getElem? (i := 179) (by decide +kernel)⟩
theorem lw_p7 : lw_okq (⟨"FingerSpans", "keep", "(LFingerSpans$Tree;)I"⟩, 4) := ⟨⟨by decide +kernel, by decide +kernel⟩, List.mem_of_getElem? (i := 12) (by decide +kernel), List.mem_of_getElem? (i := 187) (by decide +kernel), List.mem_of_getElem? (i := 188) (by decide +kernel)⟩
theorem lw_p8 : lw_okq (⟨"FingerSpans$Rules", "back", "(LFingerSpans$Tree;LFingerSpans$Item;)LFingerSpans$Tree;"⟩, 3) := ⟨⟨by decide +kernel, by decide +kernel⟩, List.mem_of_getElem? (i := 20) (by decide +kernel), List.mem_of_getElem? (i := 195) (by decide +kernel), List.mem_of_getElem? (i := 196) (by decide +kernel)⟩
theorem lw_p9 : lw_okq (⟨"FingerSpans$Tree", "last", "()LFingerSpans$Item;"⟩, 5) := ⟨⟨by decide +kernel, by decide +kernel⟩, List.mem_of_getElem? (i := 28) (by decide +kernel), List.mem_of_getElem? (i := 203) (by decide +kernel), List.mem_of_getElem? (i := 204) (by decide +kernel)⟩
theorem lw_p10 : lw_okq (⟨"FingerSpans$Rules", "rest", "(LFingerSpans$Tree;)LFingerSpans$Tree;"⟩, 3) := ⟨⟨by decide +kernel, by decide +kernel⟩, List.mem_of_getElem? (i := 20) (by decide +kernel), List.mem_of_getElem? (i := 213) (by decide +kernel), List.mem_of_getElem? (i := 214) (by decide +kernel)⟩
theorem lw_p11 : lw_okq (⟨"FingerSpans$Rules", "open", "([LFingerSpans$Item;LFingerSpans$Tree;[LFingerSpans$Item;)LFingerSpans$Tree;"⟩, 3) := ⟨⟨by decide +kernel, by decide +kernel⟩, List.mem_of_getElem? (i := 20) (by decide +kernel), List.mem_of_getElem? (i := 217) (by decide +kernel), List.mem_of_getElem? (i := 218) (by decide +kernel)⟩
theorem lw_p12 : lw_okq (⟨"FingerSpans$Rules", "line", "([LFingerSpans$Item;)LFingerSpans$Tree;"⟩, 3) := ⟨⟨by decide +kernel, by decide +kernel⟩, List.mem_of_getElem? (i := 20) (by decide +kernel), List.mem_of_getElem? (i := 221) (by decide +kernel), List.mem_of_getElem? (i := 222) (by decide +kernel)⟩
theorem lw_p13 : lw_okq (⟨"FingerSpans$Tree", "first", "()LFingerSpans$Item;"⟩, 5) := ⟨⟨by decide +kernel, by decide +kernel⟩, List.mem_of_getElem? (i := 28) (by decide +kernel), List.mem_of_getElem? (i := 226) (by decide +kernel), List.mem_of_getElem? (i := 227) (by decide +kernel)⟩
theorem lw_p14 : lw_okq (⟨"FingerSpans$Rules", "lead", "(LFingerSpans$Tree;)LFingerSpans$Tree;"⟩, 3) := ⟨⟨by decide +kernel, by decide +kernel⟩, List.mem_of_getElem? (i := 20) (by decide +kernel), List.mem_of_getElem? (i := 231) (by decide +kernel), List.mem_of_getElem? (i := 232) (by decide +kernel)⟩
theorem lw_p15 : lw_okq (⟨"FingerSpans$Rules", "join", "(LFingerSpans$Tree;[LFingerSpans$Item;LFingerSpans$Tree;)LFingerSpans$Tree;"⟩, 3) := ⟨⟨by decide +kernel, by decide +kernel⟩, List.mem_of_getElem? (i := 20) (by decide +kernel), List.mem_of_getElem? (i := 244) (by decide +kernel), List.mem_of_getElem? (i := 245) (by decide +kernel)⟩
def lw_privs_1 : List (MethodName × Nat) := [(⟨"FingerSpans", "isVersion", "(I)Z"⟩, 4), (⟨"FingerSpans", "hasRoomFor", "(I)Z"⟩, 4), (⟨"FingerSpans$Rules", "front", "(LFingerSpans$Item;LFingerSpans$Tree;)LFingerSpans$Tree;"⟩, 3), (⟨"FingerSpans$Tree", "isEmpty", "()Z"⟩, 5), (⟨"FingerSpans$Rules", "single", "(LFingerSpans$Item;)LFingerSpans$Tree;"⟩, 3), (⟨"FingerSpans$Tree", "isDeep", "()Z"⟩, 5), (⟨"FingerSpans$Rules", "node", "([LFingerSpans$Item;)LFingerSpans$Item;"⟩, 3), (⟨"FingerSpans", "keep", "(LFingerSpans$Tree;)I"⟩, 4), (⟨"FingerSpans$Rules", "back", "(LFingerSpans$Tree;LFingerSpans$Item;)LFingerSpans$Tree;"⟩, 3), (⟨"FingerSpans$Tree", "last", "()LFingerSpans$Item;"⟩, 5), (⟨"FingerSpans$Rules", "rest", "(LFingerSpans$Tree;)LFingerSpans$Tree;"⟩, 3), (⟨"FingerSpans$Rules", "open", "([LFingerSpans$Item;LFingerSpans$Tree;[LFingerSpans$Item;)LFingerSpans$Tree;"⟩, 3), (⟨"FingerSpans$Rules", "line", "([LFingerSpans$Item;)LFingerSpans$Tree;"⟩, 3), (⟨"FingerSpans$Tree", "first", "()LFingerSpans$Item;"⟩, 5), (⟨"FingerSpans$Rules", "lead", "(LFingerSpans$Tree;)LFingerSpans$Tree;"⟩, 3), (⟨"FingerSpans$Rules", "join", "(LFingerSpans$Tree;[LFingerSpans$Item;LFingerSpans$Tree;)LFingerSpans$Tree;"⟩, 3)]
theorem lw_r1 : ∀ q ∈ lw_privs_1, lw_okq q := List.forall_mem_cons.mpr ⟨lw_p0, List.forall_mem_cons.mpr ⟨lw_p1, List.forall_mem_cons.mpr ⟨lw_p2, List.forall_mem_cons.mpr ⟨lw_p3, List.forall_mem_cons.mpr ⟨lw_p4, List.forall_mem_cons.mpr ⟨lw_p5, List.forall_mem_cons.mpr ⟨lw_p6, List.forall_mem_cons.mpr ⟨lw_p7, List.forall_mem_cons.mpr ⟨lw_p8, List.forall_mem_cons.mpr ⟨lw_p9, List.forall_mem_cons.mpr ⟨lw_p10, List.forall_mem_cons.mpr ⟨lw_p11, List.forall_mem_cons.mpr ⟨lw_p12, List.forall_mem_cons.mpr ⟨lw_p13, List.forall_mem_cons.mpr ⟨lw_p14, List.forall_mem_cons.mpr ⟨lw_p15, fun _ h => absurd h List.not_mem_nil⟩⟩⟩⟩⟩⟩⟩⟩⟩⟩⟩⟩⟩⟩⟩⟩
theorem lw_p16 : lw_okq (⟨"FingerSpans$Rules", "allFront", "([LFingerSpans$Item;LFingerSpans$Tree;)LFingerSpans$Tree;"⟩, 3) := ⟨⟨by decide +kernel, by decide +kernel⟩, List.mem_of_getElem? (i := 20) (by decide +kernel), List.mem_of_getElem? (i := 248) (by decide +kernel), List.mem_of_getElem? (i := 249) (by decide +kernel)⟩
theorem lw_p17 : lw_okq (⟨"FingerSpans$Rules", "allBack", "(LFingerSpans$Tree;[LFingerSpans$Item;)LFingerSpans$Tree;"⟩, 3) := ⟨⟨by decide +kernel, by decide +kernel⟩, List.mem_of_getElem? (i := 20) (by decide +kernel), List.mem_of_getElem? (i := 252) (by decide +kernel), List.mem_of_getElem? (i := 253) (by decide +kernel)⟩
theorem lw_p18 : lw_okq (⟨"FingerSpans$Rules", "groups", "([LFingerSpans$Item;)[LFingerSpans$Item;"⟩, 3) := ⟨⟨by decide +kernel, by decide +kernel⟩, List.mem_of_getElem? (i := 20) (by decide +kernel), List.mem_of_getElem? (i := 256) (by decide +kernel), List.mem_of_getElem? (i := 257) (by decide +kernel)⟩
theorem lw_p19 : lw_okq (⟨"FingerSpans$Rules", "halves", "(LFingerSpans$Tree;I)LFingerSpans$Halves;"⟩, 3) := ⟨⟨by decide +kernel, by decide +kernel⟩, List.mem_of_getElem? (i := 20) (by decide +kernel), List.mem_of_getElem? (i := 265) (by decide +kernel), List.mem_of_getElem? (i := 266) (by decide +kernel)⟩
theorem lw_p20 : lw_okq (⟨"FingerSpans$Rules", "cut", "(LFingerSpans$Tree;I)LFingerSpans$Cut;"⟩, 3) := ⟨⟨by decide +kernel, by decide +kernel⟩, List.mem_of_getElem? (i := 20) (by decide +kernel), List.mem_of_getElem? (i := 284) (by decide +kernel), List.mem_of_getElem? (i := 285) (by decide +kernel)⟩
theorem lw_p21 : lw_okq (⟨"FingerSpans$Tree", "holdsInMiddle", "(I)Z"⟩, 5) := ⟨⟨by decide +kernel, by decide +kernel⟩, List.mem_of_getElem? (i := 28) (by decide +kernel), List.mem_of_getElem? (i := 312) (by decide +kernel), List.mem_of_getElem? (i := 313) (by decide +kernel)⟩
theorem lw_p22 : lw_okq (⟨"FingerSpans$Tree", "middleStart", "()I"⟩, 5) := ⟨⟨by decide +kernel, by decide +kernel⟩, List.mem_of_getElem? (i := 28) (by decide +kernel), List.mem_of_getElem? (i := 316) (by decide +kernel), List.mem_of_getElem? (i := 317) (by decide +kernel)⟩
theorem lw_p23 : lw_okq (⟨"FingerSpans", "isPlace", "(II)Z"⟩, 4) := ⟨⟨by decide +kernel, by decide +kernel⟩, List.mem_of_getElem? (i := 12) (by decide +kernel), List.mem_of_getElem? (i := 325) (by decide +kernel), List.mem_of_getElem? (i := 326) (by decide +kernel)⟩
theorem lw_p24 : lw_okq (⟨"FingerSpans$Rules", "withEntry", "(LFingerSpans$Tree;ILFingerSpans$Item;)LFingerSpans$Tree;"⟩, 3) := ⟨⟨by decide +kernel, by decide +kernel⟩, List.mem_of_getElem? (i := 20) (by decide +kernel), List.mem_of_getElem? (i := 329) (by decide +kernel), List.mem_of_getElem? (i := 330) (by decide +kernel)⟩
theorem lw_p25 : lw_okq (⟨"FingerSpans$Rules", "rowWithEntry", "([LFingerSpans$Item;ILFingerSpans$Item;)[LFingerSpans$Item;"⟩, 3) := ⟨⟨by decide +kernel, by decide +kernel⟩, List.mem_of_getElem? (i := 20) (by decide +kernel), List.mem_of_getElem? (i := 333) (by decide +kernel), List.mem_of_getElem? (i := 334) (by decide +kernel)⟩
theorem lw_p26 : lw_okq (⟨"FingerSpans$Item", "isNode", "()Z"⟩, 5) := ⟨⟨by decide +kernel, by decide +kernel⟩, List.mem_of_getElem? (i := 119) (by decide +kernel), List.mem_of_getElem? (i := 344) (by decide +kernel), List.mem_of_getElem? (i := 345) (by decide +kernel)⟩
theorem lw_p27 : lw_okq (⟨"FingerSpans$Tree", "entryAt", "(I)LFingerSpans$Item;"⟩, 5) := ⟨⟨by decide +kernel, by decide +kernel⟩, List.mem_of_getElem? (i := 28) (by decide +kernel), List.mem_of_getElem? (i := 366) (by decide +kernel), List.mem_of_getElem? (i := 367) (by decide +kernel)⟩
theorem lw_p28 : lw_okq (⟨"FingerSpans$Tree", "levelOf", "(I)I"⟩, 5) := ⟨⟨by decide +kernel, by decide +kernel⟩, List.mem_of_getElem? (i := 28) (by decide +kernel), List.mem_of_getElem? (i := 439) (by decide +kernel), List.mem_of_getElem? (i := 440) (by decide +kernel)⟩
theorem lw_p29 : lw_okq (⟨"FingerSpans$Marks", "common", "(LFingerSpans$Tree;LFingerSpans$Tree;)I"⟩, 2) := ⟨⟨by decide +kernel, by decide +kernel⟩, List.mem_of_getElem? (i := 78) (by decide +kernel), List.mem_of_getElem? (i := 448) (by decide +kernel), List.mem_of_getElem? (i := 449) (by decide +kernel)⟩
theorem lw_p30 : lw_okq (⟨"FingerSpans$Marks", "markAll", "([LFingerSpans$Item;I)V"⟩, 2) := ⟨⟨by decide +kernel, by decide +kernel⟩, List.mem_of_getElem? (i := 78) (by decide +kernel), List.mem_of_getElem? (i := 452) (by decide +kernel), List.mem_of_getElem? (i := 453) (by decide +kernel)⟩
theorem lw_p31 : lw_okq (⟨"FingerSpans$Marks", "countMarked", "([LFingerSpans$Item;II)I"⟩, 2) := ⟨⟨by decide +kernel, by decide +kernel⟩, List.mem_of_getElem? (i := 78) (by decide +kernel), List.mem_of_getElem? (i := 457) (by decide +kernel), List.mem_of_getElem? (i := 458) (by decide +kernel)⟩
def lw_privs_2 : List (MethodName × Nat) := [(⟨"FingerSpans$Rules", "allFront", "([LFingerSpans$Item;LFingerSpans$Tree;)LFingerSpans$Tree;"⟩, 3), (⟨"FingerSpans$Rules", "allBack", "(LFingerSpans$Tree;[LFingerSpans$Item;)LFingerSpans$Tree;"⟩, 3), (⟨"FingerSpans$Rules", "groups", "([LFingerSpans$Item;)[LFingerSpans$Item;"⟩, 3), (⟨"FingerSpans$Rules", "halves", "(LFingerSpans$Tree;I)LFingerSpans$Halves;"⟩, 3), (⟨"FingerSpans$Rules", "cut", "(LFingerSpans$Tree;I)LFingerSpans$Cut;"⟩, 3), (⟨"FingerSpans$Tree", "holdsInMiddle", "(I)Z"⟩, 5), (⟨"FingerSpans$Tree", "middleStart", "()I"⟩, 5), (⟨"FingerSpans", "isPlace", "(II)Z"⟩, 4), (⟨"FingerSpans$Rules", "withEntry", "(LFingerSpans$Tree;ILFingerSpans$Item;)LFingerSpans$Tree;"⟩, 3), (⟨"FingerSpans$Rules", "rowWithEntry", "([LFingerSpans$Item;ILFingerSpans$Item;)[LFingerSpans$Item;"⟩, 3), (⟨"FingerSpans$Item", "isNode", "()Z"⟩, 5), (⟨"FingerSpans$Tree", "entryAt", "(I)LFingerSpans$Item;"⟩, 5), (⟨"FingerSpans$Tree", "levelOf", "(I)I"⟩, 5), (⟨"FingerSpans$Marks", "common", "(LFingerSpans$Tree;LFingerSpans$Tree;)I"⟩, 2), (⟨"FingerSpans$Marks", "markAll", "([LFingerSpans$Item;I)V"⟩, 2), (⟨"FingerSpans$Marks", "countMarked", "([LFingerSpans$Item;II)I"⟩, 2)]
theorem lw_r2 : ∀ q ∈ lw_privs_2, lw_okq q := List.forall_mem_cons.mpr ⟨lw_p16, List.forall_mem_cons.mpr ⟨lw_p17, List.forall_mem_cons.mpr ⟨lw_p18, List.forall_mem_cons.mpr ⟨lw_p19, List.forall_mem_cons.mpr ⟨lw_p20, List.forall_mem_cons.mpr ⟨lw_p21, List.forall_mem_cons.mpr ⟨lw_p22, List.forall_mem_cons.mpr ⟨lw_p23, List.forall_mem_cons.mpr ⟨lw_p24, List.forall_mem_cons.mpr ⟨lw_p25, List.forall_mem_cons.mpr ⟨lw_p26, List.forall_mem_cons.mpr ⟨lw_p27, List.forall_mem_cons.mpr ⟨lw_p28, List.forall_mem_cons.mpr ⟨lw_p29, List.forall_mem_cons.mpr ⟨lw_p30, List.forall_mem_cons.mpr ⟨lw_p31, fun _ h => absurd h List.not_mem_nil⟩⟩⟩⟩⟩⟩⟩⟩⟩⟩⟩⟩⟩⟩⟩⟩
theorem lw_p32 : lw_okq (⟨"FingerSpansModel", "none", "(I)Z"⟩, 11) := ⟨⟨by decide +kernel, by decide +kernel⟩, List.mem_of_getElem? (i := 465) (by decide +kernel), List.mem_of_getElem? (i := 511) (by decide +kernel), List.mem_of_getElem? (i := 512) (by decide +kernel)⟩
theorem lw_p33 : lw_okq (⟨"FingerSpansModel", "load", "(I)V"⟩, 11) := ⟨⟨by decide +kernel, by decide +kernel⟩, List.mem_of_getElem? (i := 465) (by decide +kernel), List.mem_of_getElem? (i := 515) (by decide +kernel), List.mem_of_getElem? (i := 516) (by decide +kernel)⟩
theorem lw_p34 : lw_okq (⟨"FingerSpansModel", "put", "(III)V"⟩, 11) := ⟨⟨by decide +kernel, by decide +kernel⟩, List.mem_of_getElem? (i := 465) (by decide +kernel), List.mem_of_getElem? (i := 519) (by decide +kernel), List.mem_of_getElem? (i := 520) (by decide +kernel)⟩
theorem lw_p35 : lw_okq (⟨"FingerSpansModel", "front", "(II)V"⟩, 11) := ⟨⟨by decide +kernel, by decide +kernel⟩, List.mem_of_getElem? (i := 465) (by decide +kernel), List.mem_of_getElem? (i := 524) (by decide +kernel), List.mem_of_getElem? (i := 525) (by decide +kernel)⟩
theorem lw_p36 : lw_okq (⟨"FingerSpansModel", "end", "(II)I"⟩, 11) := ⟨⟨by decide +kernel, by decide +kernel⟩, List.mem_of_getElem? (i := 465) (by decide +kernel), List.mem_of_getElem? (i := 528) (by decide +kernel), List.mem_of_getElem? (i := 529) (by decide +kernel)⟩
theorem lw_p37 : lw_okq (⟨"FingerSpansModel", "settle", "(IIII)V"⟩, 11) := ⟨⟨by decide +kernel, by decide +kernel⟩, List.mem_of_getElem? (i := 465) (by decide +kernel), List.mem_of_getElem? (i := 538) (by decide +kernel), List.mem_of_getElem? (i := 539) (by decide +kernel)⟩
theorem lw_p38 : lw_okq (⟨"FingerSpansModel", "is", "(III)Z"⟩, 11) := ⟨⟨by decide +kernel, by decide +kernel⟩, List.mem_of_getElem? (i := 465) (by decide +kernel), List.mem_of_getElem? (i := 546) (by decide +kernel), List.mem_of_getElem? (i := 547) (by decide +kernel)⟩
theorem lw_p39 : lw_okq (⟨"FingerSpansModel", "wrap", "(III)V"⟩, 11) := ⟨⟨by decide +kernel, by decide +kernel⟩, List.mem_of_getElem? (i := 465) (by decide +kernel), List.mem_of_getElem? (i := 550) (by decide +kernel), List.mem_of_getElem? (i := 551) (by decide +kernel)⟩
theorem lw_p40 : lw_okq (⟨"FingerSpansModel", "store", "(II)I"⟩, 11) := ⟨⟨by decide +kernel, by decide +kernel⟩, List.mem_of_getElem? (i := 465) (by decide +kernel), List.mem_of_getElem? (i := 554) (by decide +kernel), List.mem_of_getElem? (i := 555) (by decide +kernel)⟩
theorem lw_p41 : lw_okq (⟨"FingerSpansModel", "back", "(II)V"⟩, 11) := ⟨⟨by decide +kernel, by decide +kernel⟩, List.mem_of_getElem? (i := 465) (by decide +kernel), List.mem_of_getElem? (i := 562) (by decide +kernel), List.mem_of_getElem? (i := 563) (by decide +kernel)⟩
theorem lw_p42 : lw_okq (⟨"FingerSpansModel", "begin", "(II)I"⟩, 11) := ⟨⟨by decide +kernel, by decide +kernel⟩, List.mem_of_getElem? (i := 465) (by decide +kernel), List.mem_of_getElem? (i := 566) (by decide +kernel), List.mem_of_getElem? (i := 567) (by decide +kernel)⟩
theorem lw_p43 : lw_okq (⟨"FingerSpansModel", "drop", "(I)V"⟩, 11) := ⟨⟨by decide +kernel, by decide +kernel⟩, List.mem_of_getElem? (i := 465) (by decide +kernel), List.mem_of_getElem? (i := 574) (by decide +kernel), List.mem_of_getElem? (i := 575) (by decide +kernel)⟩
theorem lw_p44 : lw_okq (⟨"FingerSpansModel", "closeLeft", "(II)V"⟩, 11) := ⟨⟨by decide +kernel, by decide +kernel⟩, List.mem_of_getElem? (i := 465) (by decide +kernel), List.mem_of_getElem? (i := 578) (by decide +kernel), List.mem_of_getElem? (i := 579) (by decide +kernel)⟩
theorem lw_p45 : lw_okq (⟨"FingerSpansModel", "line", "(III)V"⟩, 11) := ⟨⟨by decide +kernel, by decide +kernel⟩, List.mem_of_getElem? (i := 465) (by decide +kernel), List.mem_of_getElem? (i := 582) (by decide +kernel), List.mem_of_getElem? (i := 583) (by decide +kernel)⟩
theorem lw_p46 : lw_okq (⟨"FingerSpansModel", "closeRight", "(II)V"⟩, 11) := ⟨⟨by decide +kernel, by decide +kernel⟩, List.mem_of_getElem? (i := 465) (by decide +kernel), List.mem_of_getElem? (i := 590) (by decide +kernel), List.mem_of_getElem? (i := 591) (by decide +kernel)⟩
theorem lw_p47 : lw_okq (⟨"FingerSpansModel", "join", "(I)V"⟩, 11) := ⟨⟨by decide +kernel, by decide +kernel⟩, List.mem_of_getElem? (i := 465) (by decide +kernel), List.mem_of_getElem? (i := 598) (by decide +kernel), List.mem_of_getElem? (i := 599) (by decide +kernel)⟩
def lw_privs_3 : List (MethodName × Nat) := [(⟨"FingerSpansModel", "none", "(I)Z"⟩, 11), (⟨"FingerSpansModel", "load", "(I)V"⟩, 11), (⟨"FingerSpansModel", "put", "(III)V"⟩, 11), (⟨"FingerSpansModel", "front", "(II)V"⟩, 11), (⟨"FingerSpansModel", "end", "(II)I"⟩, 11), (⟨"FingerSpansModel", "settle", "(IIII)V"⟩, 11), (⟨"FingerSpansModel", "is", "(III)Z"⟩, 11), (⟨"FingerSpansModel", "wrap", "(III)V"⟩, 11), (⟨"FingerSpansModel", "store", "(II)I"⟩, 11), (⟨"FingerSpansModel", "back", "(II)V"⟩, 11), (⟨"FingerSpansModel", "begin", "(II)I"⟩, 11), (⟨"FingerSpansModel", "drop", "(I)V"⟩, 11), (⟨"FingerSpansModel", "closeLeft", "(II)V"⟩, 11), (⟨"FingerSpansModel", "line", "(III)V"⟩, 11), (⟨"FingerSpansModel", "closeRight", "(II)V"⟩, 11), (⟨"FingerSpansModel", "join", "(I)V"⟩, 11)]
theorem lw_r3 : ∀ q ∈ lw_privs_3, lw_okq q := List.forall_mem_cons.mpr ⟨lw_p32, List.forall_mem_cons.mpr ⟨lw_p33, List.forall_mem_cons.mpr ⟨lw_p34, List.forall_mem_cons.mpr ⟨lw_p35, List.forall_mem_cons.mpr ⟨lw_p36, List.forall_mem_cons.mpr ⟨lw_p37, List.forall_mem_cons.mpr ⟨lw_p38, List.forall_mem_cons.mpr ⟨lw_p39, List.forall_mem_cons.mpr ⟨lw_p40, List.forall_mem_cons.mpr ⟨lw_p41, List.forall_mem_cons.mpr ⟨lw_p42, List.forall_mem_cons.mpr ⟨lw_p43, List.forall_mem_cons.mpr ⟨lw_p44, List.forall_mem_cons.mpr ⟨lw_p45, List.forall_mem_cons.mpr ⟨lw_p46, List.forall_mem_cons.mpr ⟨lw_p47, fun _ h => absurd h List.not_mem_nil⟩⟩⟩⟩⟩⟩⟩⟩⟩⟩⟩⟩⟩⟩⟩⟩
theorem lw_p48 : lw_okq (⟨"FingerSpansModel", "group", "(III)V"⟩, 11) := ⟨⟨by decide +kernel, by decide +kernel⟩, List.mem_of_getElem? (i := 465) (by decide +kernel), List.mem_of_getElem? (i := 602) (by decide +kernel), List.mem_of_getElem? (i := 603) (by decide +kernel)⟩
theorem lw_p49 : lw_okq (⟨"FingerSpansModel", "tree", "(II)Z"⟩, 11) := ⟨⟨by decide +kernel, by decide +kernel⟩, List.mem_of_getElem? (i := 465) (by decide +kernel), List.mem_of_getElem? (i := 606) (by decide +kernel), List.mem_of_getElem? (i := 607) (by decide +kernel)⟩
theorem lw_p50 : lw_okq (⟨"FingerSpansModel", "frontAll", "(III)V"⟩, 11) := ⟨⟨by decide +kernel, by decide +kernel⟩, List.mem_of_getElem? (i := 465) (by decide +kernel), List.mem_of_getElem? (i := 610) (by decide +kernel), List.mem_of_getElem? (i := 611) (by decide +kernel)⟩
theorem lw_p51 : lw_okq (⟨"FingerSpansModel", "backAll", "(III)V"⟩, 11) := ⟨⟨by decide +kernel, by decide +kernel⟩, List.mem_of_getElem? (i := 465) (by decide +kernel), List.mem_of_getElem? (i := 614) (by decide +kernel), List.mem_of_getElem? (i := 615) (by decide +kernel)⟩
theorem lw_p52 : lw_okq (⟨"FingerSpansModel", "halves", "(I)V"⟩, 11) := ⟨⟨by decide +kernel, by decide +kernel⟩, List.mem_of_getElem? (i := 465) (by decide +kernel), List.mem_of_getElem? (i := 622) (by decide +kernel), List.mem_of_getElem? (i := 623) (by decide +kernel)⟩
theorem lw_p53 : lw_okq (⟨"FingerSpansModel", "cut", "(I)V"⟩, 11) := ⟨⟨by decide +kernel, by decide +kernel⟩, List.mem_of_getElem? (i := 465) (by decide +kernel), List.mem_of_getElem? (i := 626) (by decide +kernel), List.mem_of_getElem? (i := 627) (by decide +kernel)⟩
theorem lw_p54 : lw_okq (⟨"FingerSpansModel", "first", "(II)I"⟩, 11) := ⟨⟨by decide +kernel, by decide +kernel⟩, List.mem_of_getElem? (i := 465) (by decide +kernel), List.mem_of_getElem? (i := 634) (by decide +kernel), List.mem_of_getElem? (i := 635) (by decide +kernel)⟩
theorem lw_p55 : lw_okq (⟨"FingerSpansModel", "outside", "(II)Z"⟩, 11) := ⟨⟨by decide +kernel, by decide +kernel⟩, List.mem_of_getElem? (i := 465) (by decide +kernel), List.mem_of_getElem? (i := 660) (by decide +kernel), List.mem_of_getElem? (i := 661) (by decide +kernel)⟩
theorem lw_p56 : lw_okq (⟨"FingerSpansModel", "upTo", "(III)J"⟩, 11) := ⟨⟨by decide +kernel, by decide +kernel⟩, List.mem_of_getElem? (i := 465) (by decide +kernel), List.mem_of_getElem? (i := 672) (by decide +kernel), List.mem_of_getElem? (i := 673) (by decide +kernel)⟩
theorem lw_p57 : lw_okq (⟨"FingerSpansModel", "paint", "(III)I"⟩, 11) := ⟨⟨by decide +kernel, by decide +kernel⟩, List.mem_of_getElem? (i := 465) (by decide +kernel), List.mem_of_getElem? (i := 701) (by decide +kernel), List.mem_of_getElem? (i := 702) (by decide +kernel)⟩
def lw_privs_4 : List (MethodName × Nat) := [(⟨"FingerSpansModel", "group", "(III)V"⟩, 11), (⟨"FingerSpansModel", "tree", "(II)Z"⟩, 11), (⟨"FingerSpansModel", "frontAll", "(III)V"⟩, 11), (⟨"FingerSpansModel", "backAll", "(III)V"⟩, 11), (⟨"FingerSpansModel", "halves", "(I)V"⟩, 11), (⟨"FingerSpansModel", "cut", "(I)V"⟩, 11), (⟨"FingerSpansModel", "first", "(II)I"⟩, 11), (⟨"FingerSpansModel", "outside", "(II)Z"⟩, 11), (⟨"FingerSpansModel", "upTo", "(III)J"⟩, 11), (⟨"FingerSpansModel", "paint", "(III)I"⟩, 11)]
theorem lw_r4 : ∀ q ∈ lw_privs_4, lw_okq q := List.forall_mem_cons.mpr ⟨lw_p48, List.forall_mem_cons.mpr ⟨lw_p49, List.forall_mem_cons.mpr ⟨lw_p50, List.forall_mem_cons.mpr ⟨lw_p51, List.forall_mem_cons.mpr ⟨lw_p52, List.forall_mem_cons.mpr ⟨lw_p53, List.forall_mem_cons.mpr ⟨lw_p54, List.forall_mem_cons.mpr ⟨lw_p55, List.forall_mem_cons.mpr ⟨lw_p56, List.forall_mem_cons.mpr ⟨lw_p57, fun _ h => absurd h List.not_mem_nil⟩⟩⟩⟩⟩⟩⟩⟩⟩⟩
def lw_privs : List (MethodName × Nat) := lw_privs_1 ++ (lw_privs_2 ++ (lw_privs_3 ++ (lw_privs_4)))
def lw_tbl : List Cond := k2_sels lw_privs ++ tables_1
theorem lw_privs_ok : ∀ q ∈ lw_privs, lw_okq q := by
  show ∀ q ∈ lw_privs_1 ++ (lw_privs_2 ++ (lw_privs_3 ++ (lw_privs_4))), lw_okq q
  exact List.forall_mem_append.mpr ⟨lw_r1, List.forall_mem_append.mpr ⟨lw_r2, List.forall_mem_append.mpr ⟨lw_r3, lw_r4⟩⟩⟩
end
section
/-! Links, classes, fields: written by wip/whole/tools/names.py out of the claim. -/
abbrev R_I : String := "FingerSpans$Item"
def F_I : u_T := fun k => match k with
  | 0 => ("FingerSpans$Item", "number", "I", true)
  | 1 => ("FingerSpans$Item", "low", "I", true)
  | 2 => ("FingerSpans$Item", "high", "I", true)
  | 3 => ("FingerSpans$Item", "parts", "[LFingerSpans$Item;", true)
  | _ => ("FingerSpans$Item", "entries", "I", true)
def ty_I : Nat → FieldType := fun k => match k with
  | 0 => .int
  | 1 => .int
  | 2 => .int
  | 3 => .array (.object "FingerSpans$Item")
  | _ => .int
theorem ty_I_ok : ∀ k, k < 5 → parseFieldDescriptor (F_I k).2.2.1 = some (ty_I k) := by decide +kernel
theorem f_I_ne : ∀ a, a < 5 → ∀ b, b < 5 → a ≠ b → (F_I a).2.1 ≠ (F_I b).2.1 := by decide +kernel
theorem uw_I : ∀ w ∈ u_ws R_I F_I 5, w ∈ lw_tbl := by decide +kernel
abbrev R_K : String := "FingerSpans$Marks"
def F_K : u_T := fun k => match k with
  | 0 => ("FingerSpans$Marks", "markOf", "[I", true)
  | _ => ("FingerSpans$Marks", "latest", "I", false)
def ty_K : Nat → FieldType := fun k => match k with
  | 0 => .array (.int)
  | _ => .int
theorem ty_K_ok : ∀ k, k < 2 → parseFieldDescriptor (F_K k).2.2.1 = some (ty_K k) := by decide +kernel
theorem f_K_ne : ∀ a, a < 2 → ∀ b, b < 2 → a ≠ b → (F_K a).2.1 ≠ (F_K b).2.1 := by decide +kernel
theorem uw_K : ∀ w ∈ u_ws R_K F_K 2, w ∈ lw_tbl := by decide +kernel
abbrev R_U : String := "FingerSpans$Rules"
def F_U : u_T := fun k => match k with
  | 0 => ("FingerSpans$Rules", "none", "[LFingerSpans$Item;", true)
  | 1 => ("FingerSpans$Rules", "empty", "LFingerSpans$Tree;", true)
  | _ => ("FingerSpans$Rules", "nodesMade", "I", false)
def ty_U : Nat → FieldType := fun k => match k with
  | 0 => .array (.object "FingerSpans$Item")
  | 1 => .object "FingerSpans$Tree"
  | _ => .int
theorem ty_U_ok : ∀ k, k < 3 → parseFieldDescriptor (F_U k).2.2.1 = some (ty_U k) := by decide +kernel
theorem f_U_ne : ∀ a, a < 3 → ∀ b, b < 3 → a ≠ b → (F_U a).2.1 ≠ (F_U b).2.1 := by decide +kernel
theorem uw_U : ∀ w ∈ u_ws R_U F_U 3, w ∈ lw_tbl := by decide +kernel
abbrev R_T : String := "FingerSpans$Tree"
def F_T : u_T := fun k => match k with
  | 0 => ("FingerSpans$Tree", "left", "[LFingerSpans$Item;", true)
  | 1 => ("FingerSpans$Tree", "middle", "LFingerSpans$Tree;", true)
  | 2 => ("FingerSpans$Tree", "right", "[LFingerSpans$Item;", true)
  | 3 => ("FingerSpans$Tree", "rightStart", "I", true)
  | _ => ("FingerSpans$Tree", "entries", "I", true)
def ty_T : Nat → FieldType := fun k => match k with
  | 0 => .array (.object "FingerSpans$Item")
  | 1 => .object "FingerSpans$Tree"
  | 2 => .array (.object "FingerSpans$Item")
  | 3 => .int
  | _ => .int
theorem ty_T_ok : ∀ k, k < 5 → parseFieldDescriptor (F_T k).2.2.1 = some (ty_T k) := by decide +kernel
theorem f_T_ne : ∀ a, a < 5 → ∀ b, b < 5 → a ≠ b → (F_T a).2.1 ≠ (F_T b).2.1 := by decide +kernel
theorem uw_T : ∀ w ∈ u_ws R_T F_T 5, w ∈ lw_tbl := by decide +kernel
abbrev R_F : String := "FingerSpans"
def F_F : u_T := fun k => match k with
  | 0 => ("FingerSpans", "rules", "LFingerSpans$Rules;", true)
  | 1 => ("FingerSpans", "marks", "LFingerSpans$Marks;", true)
  | 2 => ("FingerSpans", "versions", "[LFingerSpans$Tree;", true)
  | _ => ("FingerSpans", "versionCount", "I", false)
def ty_F : Nat → FieldType := fun k => match k with
  | 0 => .object "FingerSpans$Rules"
  | 1 => .object "FingerSpans$Marks"
  | 2 => .array (.object "FingerSpans$Tree")
  | _ => .int
theorem ty_F_ok : ∀ k, k < 4 → parseFieldDescriptor (F_F k).2.2.1 = some (ty_F k) := by decide +kernel
theorem f_F_ne : ∀ a, a < 4 → ∀ b, b < 4 → a ≠ b → (F_F a).2.1 ≠ (F_F b).2.1 := by decide +kernel
theorem uw_F : ∀ w ∈ u_ws R_F F_F 4, w ∈ lw_tbl := by decide +kernel
abbrev R_H : String := "FingerSpans$Halves"
def F_H : u_T := fun k => match k with
  | 0 => ("FingerSpans$Halves", "before", "LFingerSpans$Tree;", true)
  | _ => ("FingerSpans$Halves", "after", "LFingerSpans$Tree;", true)
def ty_H : Nat → FieldType := fun k => match k with
  | 0 => .object "FingerSpans$Tree"
  | _ => .object "FingerSpans$Tree"
theorem ty_H_ok : ∀ k, k < 2 → parseFieldDescriptor (F_H k).2.2.1 = some (ty_H k) := by decide +kernel
theorem f_H_ne : ∀ a, a < 2 → ∀ b, b < 2 → a ≠ b → (F_H a).2.1 ≠ (F_H b).2.1 := by decide +kernel
theorem uw_H : ∀ w ∈ u_ws R_H F_H 2, w ∈ lw_tbl := by decide +kernel
abbrev R_C : String := "FingerSpans$Cut"
def F_C : u_T := fun k => match k with
  | 0 => ("FingerSpans$Cut", "before", "LFingerSpans$Tree;", true)
  | 1 => ("FingerSpans$Cut", "item", "LFingerSpans$Item;", true)
  | _ => ("FingerSpans$Cut", "after", "LFingerSpans$Tree;", true)
def ty_C : Nat → FieldType := fun k => match k with
  | 0 => .object "FingerSpans$Tree"
  | 1 => .object "FingerSpans$Item"
  | _ => .object "FingerSpans$Tree"
theorem ty_C_ok : ∀ k, k < 3 → parseFieldDescriptor (F_C k).2.2.1 = some (ty_C k) := by decide +kernel
theorem f_C_ne : ∀ a, a < 3 → ∀ b, b < 3 → a ≠ b → (F_C a).2.1 ≠ (F_C b).2.1 := by decide +kernel
theorem uw_C : ∀ w ∈ u_ws R_C F_C 3, w ∈ lw_tbl := by decide +kernel
abbrev R_M : String := "FingerSpansModel"
def F_M : u_T := fun k => match k with
  | 0 => ("FingerSpansModel", "lows", "[I", true)
  | 1 => ("FingerSpansModel", "highs", "[I", true)
  | 2 => ("FingerSpansModel", "entries", "I", false)
  | 3 => ("FingerSpansModel", "size", "[B", true)
  | 4 => ("FingerSpansModel", "mark", "[B", true)
  | 5 => ("FingerSpansModel", "made", "I", false)
  | 6 => ("FingerSpansModel", "place", "[J", true)
  | 7 => ("FingerSpansModel", "count", "[B", true)
  | 8 => ("FingerSpansModel", "versions", "I", false)
  | 9 => ("FingerSpansModel", "w", "[J", true)
  | _ => ("FingerSpansModel", "n", "I", false)
def ty_M : Nat → FieldType := fun k => match k with
  | 0 => .array (.int)
  | 1 => .array (.int)
  | 2 => .int
  | 3 => .array (.byte)
  | 4 => .array (.byte)
  | 5 => .int
  | 6 => .array (.long)
  | 7 => .array (.byte)
  | 8 => .int
  | 9 => .array (.long)
  | _ => .int
theorem ty_M_ok : ∀ k, k < 11 → parseFieldDescriptor (F_M k).2.2.1 = some (ty_M k) := by decide +kernel
theorem f_M_ne : ∀ a, a < 11 → ∀ b, b < 11 → a ≠ b → (F_M a).2.1 ≠ (F_M b).2.1 := by decide +kernel
theorem uw_M : ∀ w ∈ u_ws R_M F_M 11, w ∈ lw_tbl := by decide +kernel
/-- what a caller needs of a method: its code, its class, how many arguments -/
def x_ce (y : MethodName) (cc : ByteArray) (nL : Nat) (ret : Option FieldType) (n : Nat) : Prop := Cond.code y cc nL ret ∈ lw_tbl ∧ Cond.initialized y.cls ∈ lw_tbl ∧ (y.cls ≠ "java/lang/invoke/MethodHandle" ∧ y.cls ≠ "java/lang/invoke/VarHandle" ∧ (parseMethodDescriptor y.desc).map (fun d => d.parameters.length) = some n)
abbrev vwCl : List vw_C := [(R_I, F_I, 5), (R_K, F_K, 2), (R_U, F_U, 3), (R_T, F_T, 5), (R_F, F_F, 4), (R_H, F_H, 2), (R_C, F_C, 3), (R_M, F_M, 11)]
theorem z_arrayOver_Item : Cond.arrayOver (FieldType.object "FingerSpans$Item") ∈ lw_tbl := List.mem_of_getElem? (i := 84) (by decide +kernel)
theorem z_arrayClass_int : Cond.arrayClass FieldType.int ∈ lw_tbl := List.mem_of_getElem? (i := 148) (by decide +kernel)
theorem z_arrayOver_Tree : Cond.arrayOver (FieldType.object "FingerSpans$Tree") ∈ lw_tbl := List.mem_of_getElem? (i := 150) (by decide +kernel)
theorem z_sameMethod : Cond.sameMethod "[LFingerSpans$Item;" "java/lang/Object" "clone" "()Ljava/lang/Object;" ∈ lw_tbl := List.mem_of_getElem? (i := 395) (by decide +kernel)
theorem z_native : Cond.native ⟨"java/lang/Object", "clone", "()Ljava/lang/Object;"⟩ ∈ lw_tbl := List.mem_of_getElem? (i := 396) (by decide +kernel)
theorem z_castable : Cond.castable "[LFingerSpans$Item;" "java/lang/Cloneable" ∈ lw_tbl := List.mem_of_getElem? (i := 399) (by decide +kernel)
theorem z_arrayClass_byte : Cond.arrayClass FieldType.byte ∈ lw_tbl := List.mem_of_getElem? (i := 562) (by decide +kernel)
theorem z_arrayClass_long : Cond.arrayClass FieldType.long ∈ lw_tbl := List.mem_of_getElem? (i := 563) (by decide +kernel)
theorem e_M_7 : Cond.fieldLink "FingerSpansModel" 7 "FingerSpansModel" "lows" "[I" ∈ lw_tbl := List.mem_of_getElem? (i := 528) (by decide +kernel)
theorem e_M_13 : Cond.fieldLink "FingerSpansModel" 13 "FingerSpansModel" "highs" "[I" ∈ lw_tbl := List.mem_of_getElem? (i := 529) (by decide +kernel)
theorem e_M_16 : Cond.fieldLink "FingerSpansModel" 16 "FingerSpansModel" "size" "[B" ∈ lw_tbl := List.mem_of_getElem? (i := 531) (by decide +kernel)
theorem e_M_20 : Cond.fieldLink "FingerSpansModel" 20 "FingerSpansModel" "mark" "[B" ∈ lw_tbl := List.mem_of_getElem? (i := 532) (by decide +kernel)
theorem e_M_23 : Cond.fieldLink "FingerSpansModel" 23 "FingerSpansModel" "place" "[J" ∈ lw_tbl := List.mem_of_getElem? (i := 534) (by decide +kernel)
theorem e_M_27 : Cond.fieldLink "FingerSpansModel" 27 "FingerSpansModel" "count" "[B" ∈ lw_tbl := List.mem_of_getElem? (i := 535) (by decide +kernel)
theorem e_M_30 : Cond.fieldLink "FingerSpansModel" 30 "FingerSpansModel" "versions" "I" ∈ lw_tbl := List.mem_of_getElem? (i := 536) (by decide +kernel)
theorem e_M_34 : Cond.fieldLink "FingerSpansModel" 34 "FingerSpansModel" "w" "[J" ∈ lw_tbl := List.mem_of_getElem? (i := 537) (by decide +kernel)
theorem e_M_37 : Cond.fieldLink "FingerSpansModel" 37 "FingerSpansModel" "n" "I" ∈ lw_tbl := List.mem_of_getElem? (i := 538) (by decide +kernel)
theorem e_M_53 : Cond.fieldLink "FingerSpansModel" 53 "FingerSpansModel" "made" "I" ∈ lw_tbl := List.mem_of_getElem? (i := 533) (by decide +kernel)
theorem e_M_104 : Cond.fieldLink "FingerSpansModel" 104 "FingerSpansModel" "entries" "I" ∈ lw_tbl := List.mem_of_getElem? (i := 530) (by decide +kernel)
theorem e_M_1 : Cond.methodLink "FingerSpansModel" 1 ⟨"java/lang/Object", "<init>", "()V"⟩ ∈ lw_tbl := List.mem_of_getElem? (i := 527) (by decide +kernel)
theorem e_M_40 : Cond.methodLink "FingerSpansModel" 40 ⟨"FingerSpansModel", "level", "(J)I"⟩ ∈ lw_tbl := List.mem_of_getElem? (i := 592) (by decide +kernel)
theorem e_M_44 : Cond.methodLink "FingerSpansModel" 44 ⟨"FingerSpansModel", "side", "(J)I"⟩ ∈ lw_tbl := List.mem_of_getElem? (i := 600) (by decide +kernel)
theorem e_M_47 : Cond.methodLink "FingerSpansModel" 47 ⟨"FingerSpansModel", "node", "(JI)I"⟩ ∈ lw_tbl := List.mem_of_getElem? (i := 589) (by decide +kernel)
theorem e_M_56 : Cond.methodLink "FingerSpansModel" 56 ⟨"FingerSpansModel", "settle", "(IIII)V"⟩ ∈ lw_tbl := List.mem_of_getElem? (i := 595) (by decide +kernel)
theorem e_M_60 : Cond.methodLink "FingerSpansModel" 60 ⟨"FingerSpansModel", "end", "(II)I"⟩ ∈ lw_tbl := List.mem_of_getElem? (i := 585) (by decide +kernel)
theorem e_M_64 : Cond.methodLink "FingerSpansModel" 64 ⟨"FingerSpansModel", "is", "(III)Z"⟩ ∈ lw_tbl := List.mem_of_getElem? (i := 603) (by decide +kernel)
theorem e_M_68 : Cond.methodLink "FingerSpansModel" 68 ⟨"FingerSpansModel", "wrap", "(III)V"⟩ ∈ lw_tbl := List.mem_of_getElem? (i := 607) (by decide +kernel)
theorem e_M_72 : Cond.methodLink "FingerSpansModel" 72 ⟨"FingerSpansModel", "begin", "(II)I"⟩ ∈ lw_tbl := List.mem_of_getElem? (i := 623) (by decide +kernel)
theorem e_M_75 : Cond.methodLink "FingerSpansModel" 75 ⟨"FingerSpansModel", "line", "(III)V"⟩ ∈ lw_tbl := List.mem_of_getElem? (i := 639) (by decide +kernel)
theorem e_M_78 : Cond.methodLink "FingerSpansModel" 78 ⟨"FingerSpansModel", "closeLeft", "(II)V"⟩ ∈ lw_tbl := List.mem_of_getElem? (i := 635) (by decide +kernel)
theorem e_M_82 : Cond.methodLink "FingerSpansModel" 82 ⟨"FingerSpansModel", "closeRight", "(II)V"⟩ ∈ lw_tbl := List.mem_of_getElem? (i := 647) (by decide +kernel)
theorem e_M_85 : Cond.methodLink "FingerSpansModel" 85 ⟨"FingerSpansModel", "group", "(III)V"⟩ ∈ lw_tbl := List.mem_of_getElem? (i := 659) (by decide +kernel)
theorem e_M_88 : Cond.methodLink "FingerSpansModel" 88 ⟨"FingerSpansModel", "tree", "(II)Z"⟩ ∈ lw_tbl := List.mem_of_getElem? (i := 663) (by decide +kernel)
theorem e_M_92 : Cond.methodLink "FingerSpansModel" 92 ⟨"FingerSpansModel", "frontAll", "(III)V"⟩ ∈ lw_tbl := List.mem_of_getElem? (i := 667) (by decide +kernel)
theorem e_M_95 : Cond.methodLink "FingerSpansModel" 95 ⟨"FingerSpansModel", "backAll", "(III)V"⟩ ∈ lw_tbl := List.mem_of_getElem? (i := 671) (by decide +kernel)
theorem e_M_98 : Cond.methodLink "FingerSpansModel" 98 ⟨"FingerSpansModel", "front", "(II)V"⟩ ∈ lw_tbl := List.mem_of_getElem? (i := 581) (by decide +kernel)
theorem e_M_101 : Cond.methodLink "FingerSpansModel" 101 ⟨"FingerSpansModel", "back", "(II)V"⟩ ∈ lw_tbl := List.mem_of_getElem? (i := 619) (by decide +kernel)
theorem e_M_109 : Cond.methodLink "FingerSpansModel" 109 ⟨"FingerSpansModel", "none", "(I)Z"⟩ ∈ lw_tbl := List.mem_of_getElem? (i := 568) (by decide +kernel)
theorem e_M_113 : Cond.methodLink "FingerSpansModel" 113 ⟨"FingerSpansModel", "load", "(I)V"⟩ ∈ lw_tbl := List.mem_of_getElem? (i := 572) (by decide +kernel)
theorem e_M_117 : Cond.methodLink "FingerSpansModel" 117 ⟨"FingerSpansModel", "put", "(III)V"⟩ ∈ lw_tbl := List.mem_of_getElem? (i := 576) (by decide +kernel)
theorem e_M_120 : Cond.methodLink "FingerSpansModel" 120 ⟨"FingerSpansModel", "store", "(II)I"⟩ ∈ lw_tbl := List.mem_of_getElem? (i := 611) (by decide +kernel)
theorem e_M_123 : Cond.methodLink "FingerSpansModel" 123 ⟨"FingerSpansModel", "drop", "(I)V"⟩ ∈ lw_tbl := List.mem_of_getElem? (i := 631) (by decide +kernel)
theorem e_M_126 : Cond.methodLink "FingerSpansModel" 126 ⟨"FingerSpansModel", "join", "(I)V"⟩ ∈ lw_tbl := List.mem_of_getElem? (i := 655) (by decide +kernel)
theorem e_M_129 : Cond.methodLink "FingerSpansModel" 129 ⟨"FingerSpansModel", "cut", "(I)V"⟩ ∈ lw_tbl := List.mem_of_getElem? (i := 683) (by decide +kernel)
theorem e_M_132 : Cond.methodLink "FingerSpansModel" 132 ⟨"FingerSpansModel", "halves", "(I)V"⟩ ∈ lw_tbl := List.mem_of_getElem? (i := 679) (by decide +kernel)
theorem e_M_135 : Cond.methodLink "FingerSpansModel" 135 ⟨"FingerSpansModel", "first", "(II)I"⟩ ∈ lw_tbl := List.mem_of_getElem? (i := 691) (by decide +kernel)
theorem e_M_144 : Cond.methodLink "FingerSpansModel" 144 ⟨"FingerSpansModel", "entry", "(J)I"⟩ ∈ lw_tbl := List.mem_of_getElem? (i := 702) (by decide +kernel)
theorem e_M_147 : Cond.methodLink "FingerSpansModel" 147 ⟨"FingerSpansModel", "outside", "(II)Z"⟩ ∈ lw_tbl := List.mem_of_getElem? (i := 717) (by decide +kernel)
theorem e_M_152 : Cond.methodLink "FingerSpansModel" 152 ⟨"FingerSpansModel", "upTo", "(III)J"⟩ ∈ lw_tbl := List.mem_of_getElem? (i := 729) (by decide +kernel)
theorem e_M_156 : Cond.methodLink "FingerSpansModel" 156 ⟨"FingerSpansModel", "paint", "(III)I"⟩ ∈ lw_tbl := List.mem_of_getElem? (i := 758) (by decide +kernel)
theorem e_M_51 : Cond.constantLong "FingerSpansModel" 51 (-3969 : Int64) ∈ lw_tbl := List.mem_of_getElem? (i := 599) (by decide +kernel)
theorem e_M_107 : Cond.constantLong "FingerSpansModel" 107 (384 : Int64) ∈ lw_tbl := List.mem_of_getElem? (i := 580) (by decide +kernel)
theorem e_M_138 : Cond.constantLong "FingerSpansModel" 138 (8191 : Int64) ∈ lw_tbl := List.mem_of_getElem? (i := 695) (by decide +kernel)
theorem e_M_140 : Cond.constantLong "FingerSpansModel" 140 (-1 : Int64) ∈ lw_tbl := List.mem_of_getElem? (i := 696) (by decide +kernel)
theorem e_M_142 : Cond.constantLong "FingerSpansModel" 142 (-128 : Int64) ∈ lw_tbl := List.mem_of_getElem? (i := 697) (by decide +kernel)
theorem e_M_150 : Cond.constantLong "FingerSpansModel" 150 (-2147483648 : Int64) ∈ lw_tbl := List.mem_of_getElem? (i := 733) (by decide +kernel)
theorem e_L_9 : Cond.methodLink "FingerSpansLaw" 9 ⟨"FingerSpans", "<init>", "()V"⟩ ∈ lw_tbl := List.mem_of_getElem? (i := 71) (by decide +kernel)
theorem e_L_12 : Cond.methodLink "FingerSpansLaw" 12 ⟨"FingerSpansModel", "<init>", "()V"⟩ ∈ lw_tbl := List.mem_of_getElem? (i := 524) (by decide +kernel)
theorem e_L_13 : Cond.methodLink "FingerSpansLaw" 13 ⟨"FingerSpans", "pushFront", "(III)I"⟩ ∈ lw_tbl := List.mem_of_getElem? (i := 164) (by decide +kernel)
theorem e_L_17 : Cond.methodLink "FingerSpansLaw" 17 ⟨"FingerSpansModel", "pushFront", "(III)I"⟩ ∈ lw_tbl := List.mem_of_getElem? (i := 564) (by decide +kernel)
theorem e_L_18 : Cond.methodLink "FingerSpansLaw" 18 ⟨"FingerSpans", "pushBack", "(III)I"⟩ ∈ lw_tbl := List.mem_of_getElem? (i := 248) (by decide +kernel)
theorem e_L_21 : Cond.methodLink "FingerSpansLaw" 21 ⟨"FingerSpansModel", "pushBack", "(III)I"⟩ ∈ lw_tbl := List.mem_of_getElem? (i := 615) (by decide +kernel)
theorem e_L_22 : Cond.methodLink "FingerSpansLaw" 22 ⟨"FingerSpans", "popFront", "(I)I"⟩ ∈ lw_tbl := List.mem_of_getElem? (i := 265) (by decide +kernel)
theorem e_L_26 : Cond.methodLink "FingerSpansLaw" 26 ⟨"FingerSpansModel", "popFront", "(I)I"⟩ ∈ lw_tbl := List.mem_of_getElem? (i := 627) (by decide +kernel)
theorem e_L_27 : Cond.methodLink "FingerSpansLaw" 27 ⟨"FingerSpans", "popBack", "(I)I"⟩ ∈ lw_tbl := List.mem_of_getElem? (i := 292) (by decide +kernel)
theorem e_L_30 : Cond.methodLink "FingerSpansLaw" 30 ⟨"FingerSpansModel", "popBack", "(I)I"⟩ ∈ lw_tbl := List.mem_of_getElem? (i := 643) (by decide +kernel)
theorem e_L_31 : Cond.methodLink "FingerSpansLaw" 31 ⟨"FingerSpans", "concat", "(II)I"⟩ ∈ lw_tbl := List.mem_of_getElem? (i := 297) (by decide +kernel)
theorem e_L_35 : Cond.methodLink "FingerSpansLaw" 35 ⟨"FingerSpansModel", "concat", "(II)I"⟩ ∈ lw_tbl := List.mem_of_getElem? (i := 651) (by decide +kernel)
theorem e_L_36 : Cond.methodLink "FingerSpansLaw" 36 ⟨"FingerSpans", "split", "(II)I"⟩ ∈ lw_tbl := List.mem_of_getElem? (i := 318) (by decide +kernel)
theorem e_L_39 : Cond.methodLink "FingerSpansLaw" 39 ⟨"FingerSpansModel", "split", "(II)I"⟩ ∈ lw_tbl := List.mem_of_getElem? (i := 675) (by decide +kernel)
theorem e_L_40 : Cond.methodLink "FingerSpansLaw" 40 ⟨"FingerSpans", "replace", "(IIII)I"⟩ ∈ lw_tbl := List.mem_of_getElem? (i := 378) (by decide +kernel)
theorem e_L_44 : Cond.methodLink "FingerSpansLaw" 44 ⟨"FingerSpansModel", "replace", "(IIII)I"⟩ ∈ lw_tbl := List.mem_of_getElem? (i := 687) (by decide +kernel)
theorem e_L_45 : Cond.methodLink "FingerSpansLaw" 45 ⟨"FingerSpans", "insert", "(III)I"⟩ ∈ lw_tbl := List.mem_of_getElem? (i := 409) (by decide +kernel)
theorem e_L_48 : Cond.methodLink "FingerSpansLaw" 48 ⟨"FingerSpansModel", "insert", "(III)I"⟩ ∈ lw_tbl := List.mem_of_getElem? (i := 698) (by decide +kernel)
theorem e_L_49 : Cond.methodLink "FingerSpansLaw" 49 ⟨"FingerSpans", "removeTop", "(I)I"⟩ ∈ lw_tbl := List.mem_of_getElem? (i := 445) (by decide +kernel)
theorem e_L_52 : Cond.methodLink "FingerSpansLaw" 52 ⟨"FingerSpansModel", "removeTop", "(I)I"⟩ ∈ lw_tbl := List.mem_of_getElem? (i := 705) (by decide +kernel)
theorem e_L_53 : Cond.methodLink "FingerSpansLaw" 53 ⟨"FingerSpans", "length", "(I)I"⟩ ∈ lw_tbl := List.mem_of_getElem? (i := 453) (by decide +kernel)
theorem e_L_56 : Cond.methodLink "FingerSpansLaw" 56 ⟨"FingerSpansModel", "length", "(I)I"⟩ ∈ lw_tbl := List.mem_of_getElem? (i := 709) (by decide +kernel)
theorem e_L_57 : Cond.methodLink "FingerSpansLaw" 57 ⟨"FingerSpans", "low", "(II)I"⟩ ∈ lw_tbl := List.mem_of_getElem? (i := 457) (by decide +kernel)
theorem e_L_60 : Cond.methodLink "FingerSpansLaw" 60 ⟨"FingerSpansModel", "low", "(II)I"⟩ ∈ lw_tbl := List.mem_of_getElem? (i := 713) (by decide +kernel)
theorem e_L_61 : Cond.methodLink "FingerSpansLaw" 61 ⟨"FingerSpans", "high", "(II)I"⟩ ∈ lw_tbl := List.mem_of_getElem? (i := 461) (by decide +kernel)
theorem e_L_64 : Cond.methodLink "FingerSpansLaw" 64 ⟨"FingerSpansModel", "high", "(II)I"⟩ ∈ lw_tbl := List.mem_of_getElem? (i := 721) (by decide +kernel)
theorem e_L_65 : Cond.methodLink "FingerSpansLaw" 65 ⟨"FingerSpans", "measure", "(II)J"⟩ ∈ lw_tbl := List.mem_of_getElem? (i := 465) (by decide +kernel)
theorem e_L_69 : Cond.methodLink "FingerSpansLaw" 69 ⟨"FingerSpansModel", "measure", "(II)J"⟩ ∈ lw_tbl := List.mem_of_getElem? (i := 725) (by decide +kernel)
theorem e_L_72 : Cond.methodLink "FingerSpansLaw" 72 ⟨"FingerSpans", "search", "(IIJ)I"⟩ ∈ lw_tbl := List.mem_of_getElem? (i := 472) (by decide +kernel)
theorem e_L_76 : Cond.methodLink "FingerSpansLaw" 76 ⟨"FingerSpansModel", "search", "(IIJ)I"⟩ ∈ lw_tbl := List.mem_of_getElem? (i := 734) (by decide +kernel)
theorem e_L_77 : Cond.methodLink "FingerSpansLaw" 77 ⟨"FingerSpans", "meeting", "(IIII)I"⟩ ∈ lw_tbl := List.mem_of_getElem? (i := 476) (by decide +kernel)
theorem e_L_80 : Cond.methodLink "FingerSpansLaw" 80 ⟨"FingerSpansModel", "meeting", "(IIII)I"⟩ ∈ lw_tbl := List.mem_of_getElem? (i := 738) (by decide +kernel)
theorem e_L_81 : Cond.methodLink "FingerSpansLaw" 81 ⟨"FingerSpans", "spine", "(I)I"⟩ ∈ lw_tbl := List.mem_of_getElem? (i := 483) (by decide +kernel)
theorem e_L_84 : Cond.methodLink "FingerSpansLaw" 84 ⟨"FingerSpansModel", "spine", "(I)I"⟩ ∈ lw_tbl := List.mem_of_getElem? (i := 742) (by decide +kernel)
theorem e_L_85 : Cond.methodLink "FingerSpansLaw" 85 ⟨"FingerSpans", "digit", "(IIZ)I"⟩ ∈ lw_tbl := List.mem_of_getElem? (i := 488) (by decide +kernel)
theorem e_L_89 : Cond.methodLink "FingerSpansLaw" 89 ⟨"FingerSpansModel", "digit", "(IIZ)I"⟩ ∈ lw_tbl := List.mem_of_getElem? (i := 746) (by decide +kernel)
theorem e_L_90 : Cond.methodLink "FingerSpansLaw" 90 ⟨"FingerSpans", "rank", "(II)I"⟩ ∈ lw_tbl := List.mem_of_getElem? (i := 492) (by decide +kernel)
theorem e_L_93 : Cond.methodLink "FingerSpansLaw" 93 ⟨"FingerSpansModel", "rank", "(II)I"⟩ ∈ lw_tbl := List.mem_of_getElem? (i := 750) (by decide +kernel)
theorem e_L_94 : Cond.methodLink "FingerSpansLaw" 94 ⟨"FingerSpans", "shared", "(II)I"⟩ ∈ lw_tbl := List.mem_of_getElem? (i := 501) (by decide +kernel)
theorem e_L_97 : Cond.methodLink "FingerSpansLaw" 97 ⟨"FingerSpansModel", "shared", "(II)I"⟩ ∈ lw_tbl := List.mem_of_getElem? (i := 754) (by decide +kernel)
theorem e_L_98 : Cond.methodLink "FingerSpansLaw" 98 ⟨"FingerSpans", "made", "()I"⟩ ∈ lw_tbl := List.mem_of_getElem? (i := 518) (by decide +kernel)
theorem e_L_102 : Cond.methodLink "FingerSpansLaw" 102 ⟨"FingerSpansModel", "made", "()I"⟩ ∈ lw_tbl := List.mem_of_getElem? (i := 762) (by decide +kernel)
theorem e_L_7 : Cond.classLink "FingerSpansLaw" 7 "FingerSpans" ∈ lw_tbl := List.mem_of_getElem? (i := 69) (by decide +kernel)
theorem e_L_10 : Cond.classLink "FingerSpansLaw" 10 "FingerSpansModel" ∈ lw_tbl := List.mem_of_getElem? (i := 522) (by decide +kernel)
theorem e_L_70 : Cond.constantLong "FingerSpansLaw" 70 (4294967295 : Int64) ∈ lw_tbl := List.mem_of_getElem? (i := 766) (by decide +kernel)
theorem e_F_12 : Cond.fieldLink "FingerSpans" 12 "FingerSpans" "rules" "LFingerSpans$Rules;" ∈ lw_tbl := List.mem_of_getElem? (i := 151) (by decide +kernel)
theorem e_F_19 : Cond.fieldLink "FingerSpans" 19 "FingerSpans" "marks" "LFingerSpans$Marks;" ∈ lw_tbl := List.mem_of_getElem? (i := 152) (by decide +kernel)
theorem e_F_25 : Cond.fieldLink "FingerSpans" 25 "FingerSpans" "versions" "[LFingerSpans$Tree;" ∈ lw_tbl := List.mem_of_getElem? (i := 153) (by decide +kernel)
theorem e_F_29 : Cond.fieldLinkNest "FingerSpans" 29 "FingerSpans$Rules" "empty" "LFingerSpans$Tree;" "FingerSpans" ∈ lw_tbl := List.mem_of_getElem? (i := 125) (by decide +kernel)
theorem e_F_33 : Cond.fieldLink "FingerSpans" 33 "FingerSpans" "versionCount" "I" ∈ lw_tbl := List.mem_of_getElem? (i := 154) (by decide +kernel)
theorem e_F_44 : Cond.fieldLinkNest "FingerSpans" 44 "FingerSpans$Tree" "entries" "I" "FingerSpans" ∈ lw_tbl := List.mem_of_getElem? (i := 109) (by decide +kernel)
theorem e_F_75 : Cond.fieldLinkNest "FingerSpans" 75 "FingerSpans$Rules" "none" "[LFingerSpans$Item;" "FingerSpans" ∈ lw_tbl := List.mem_of_getElem? (i := 123) (by decide +kernel)
theorem e_F_87 : Cond.fieldLinkNest "FingerSpans" 87 "FingerSpans$Halves" "before" "LFingerSpans$Tree;" "FingerSpans" ∈ lw_tbl := List.mem_of_getElem? (i := 333) (by decide +kernel)
theorem e_F_92 : Cond.fieldLinkNest "FingerSpans" 92 "FingerSpans$Halves" "after" "LFingerSpans$Tree;" "FingerSpans" ∈ lw_tbl := List.mem_of_getElem? (i := 335) (by decide +kernel)
theorem e_F_115 : Cond.fieldLinkNest "FingerSpans" 115 "FingerSpans$Cut" "before" "LFingerSpans$Tree;" "FingerSpans" ∈ lw_tbl := List.mem_of_getElem? (i := 352) (by decide +kernel)
theorem e_F_118 : Cond.fieldLinkNest "FingerSpans" 118 "FingerSpans$Cut" "after" "LFingerSpans$Tree;" "FingerSpans" ∈ lw_tbl := List.mem_of_getElem? (i := 357) (by decide +kernel)
theorem e_F_123 : Cond.fieldLinkNest "FingerSpans" 123 "FingerSpans$Item" "low" "I" "FingerSpans" ∈ lw_tbl := List.mem_of_getElem? (i := 186) (by decide +kernel)
theorem e_F_126 : Cond.fieldLinkNest "FingerSpans" 126 "FingerSpans$Item" "high" "I" "FingerSpans" ∈ lw_tbl := List.mem_of_getElem? (i := 188) (by decide +kernel)
theorem e_F_141 : Cond.fieldLinkNest "FingerSpans" 141 "FingerSpans$Tree" "middle" "LFingerSpans$Tree;" "FingerSpans" ∈ lw_tbl := List.mem_of_getElem? (i := 101) (by decide +kernel)
theorem e_F_144 : Cond.fieldLinkNest "FingerSpans" 144 "FingerSpans$Tree" "right" "[LFingerSpans$Item;" "FingerSpans" ∈ lw_tbl := List.mem_of_getElem? (i := 105) (by decide +kernel)
theorem e_F_147 : Cond.fieldLinkNest "FingerSpans" 147 "FingerSpans$Tree" "left" "[LFingerSpans$Item;" "FingerSpans" ∈ lw_tbl := List.mem_of_getElem? (i := 97) (by decide +kernel)
theorem e_F_158 : Cond.fieldLinkNest "FingerSpans" 158 "FingerSpans$Rules" "nodesMade" "I" "FingerSpans" ∈ lw_tbl := List.mem_of_getElem? (i := 127) (by decide +kernel)
theorem e_F_3 : Cond.methodLink "FingerSpans" 3 ⟨"java/lang/Object", "<init>", "()V"⟩ ∈ lw_tbl := List.mem_of_getElem? (i := 74) (by decide +kernel)
theorem e_F_11 : Cond.methodLinkNest "FingerSpans" 11 ⟨"FingerSpans$Rules", "<init>", "()V"⟩ "FingerSpans" ∈ lw_tbl := List.mem_of_getElem? (i := 79) (by decide +kernel)
theorem e_F_18 : Cond.methodLinkNest "FingerSpans" 18 ⟨"FingerSpans$Marks", "<init>", "()V"⟩ "FingerSpans" ∈ lw_tbl := List.mem_of_getElem? (i := 137) (by decide +kernel)
theorem e_F_37 : Cond.methodLink "FingerSpans" 37 ⟨"FingerSpans", "isVersion", "(I)Z"⟩ ∈ lw_tbl := List.mem_of_getElem? (i := 168) (by decide +kernel)
theorem e_F_41 : Cond.methodLink "FingerSpans" 41 ⟨"FingerSpans", "hasRoomFor", "(I)Z"⟩ ∈ lw_tbl := List.mem_of_getElem? (i := 172) (by decide +kernel)
theorem e_F_49 : Cond.methodLinkNest "FingerSpans" 49 ⟨"FingerSpans$Item", "<init>", "(II)V"⟩ "FingerSpans" ∈ lw_tbl := List.mem_of_getElem? (i := 178) (by decide +kernel)
theorem e_F_52 : Cond.methodLinkNest "FingerSpans" 52 ⟨"FingerSpans$Rules", "front", "(LFingerSpans$Item;LFingerSpans$Tree;)LFingerSpans$Tree;"⟩ "FingerSpans" ∈ lw_tbl := List.mem_of_getElem? (i := 206) (by decide +kernel)
theorem e_F_56 : Cond.methodLink "FingerSpans" 56 ⟨"FingerSpans", "keep", "(LFingerSpans$Tree;)I"⟩ ∈ lw_tbl := List.mem_of_getElem? (i := 244) (by decide +kernel)
theorem e_F_60 : Cond.methodLinkNest "FingerSpans" 60 ⟨"FingerSpans$Rules", "back", "(LFingerSpans$Tree;LFingerSpans$Item;)LFingerSpans$Tree;"⟩ "FingerSpans" ∈ lw_tbl := List.mem_of_getElem? (i := 252) (by decide +kernel)
theorem e_F_64 : Cond.methodLinkNest "FingerSpans" 64 ⟨"FingerSpans$Tree", "isEmpty", "()Z"⟩ "FingerSpans" ∈ lw_tbl := List.mem_of_getElem? (i := 269) (by decide +kernel)
theorem e_F_68 : Cond.methodLinkNest "FingerSpans" 68 ⟨"FingerSpans$Rules", "rest", "(LFingerSpans$Tree;)LFingerSpans$Tree;"⟩ "FingerSpans" ∈ lw_tbl := List.mem_of_getElem? (i := 270) (by decide +kernel)
theorem e_F_72 : Cond.methodLinkNest "FingerSpans" 72 ⟨"FingerSpans$Rules", "lead", "(LFingerSpans$Tree;)LFingerSpans$Tree;"⟩ "FingerSpans" ∈ lw_tbl := List.mem_of_getElem? (i := 296) (by decide +kernel)
theorem e_F_79 : Cond.methodLinkNest "FingerSpans" 79 ⟨"FingerSpans$Rules", "join", "(LFingerSpans$Tree;[LFingerSpans$Item;LFingerSpans$Tree;)LFingerSpans$Tree;"⟩ "FingerSpans" ∈ lw_tbl := List.mem_of_getElem? (i := 301) (by decide +kernel)
theorem e_F_83 : Cond.methodLinkNest "FingerSpans" 83 ⟨"FingerSpans$Rules", "halves", "(LFingerSpans$Tree;I)LFingerSpans$Halves;"⟩ "FingerSpans" ∈ lw_tbl := List.mem_of_getElem? (i := 322) (by decide +kernel)
theorem e_F_95 : Cond.methodLink "FingerSpans" 95 ⟨"FingerSpans", "isPlace", "(II)Z"⟩ ∈ lw_tbl := List.mem_of_getElem? (i := 382) (by decide +kernel)
theorem e_F_99 : Cond.methodLinkNest "FingerSpans" 99 ⟨"FingerSpans$Rules", "withEntry", "(LFingerSpans$Tree;ILFingerSpans$Item;)LFingerSpans$Tree;"⟩ "FingerSpans" ∈ lw_tbl := List.mem_of_getElem? (i := 386) (by decide +kernel)
theorem e_F_103 : Cond.methodLink "FingerSpans" 103 ⟨"FingerSpans", "firstPlace", "(LFingerSpans$Tree;IJ)I"⟩ ∈ lw_tbl := List.mem_of_getElem? (i := 413) (by decide +kernel)
theorem e_F_107 : Cond.methodLink "FingerSpans" 107 ⟨"FingerSpans", "total", "(LFingerSpans$Tree;I)J"⟩ ∈ lw_tbl := List.mem_of_getElem? (i := 449) (by decide +kernel)
theorem e_F_111 : Cond.methodLinkNest "FingerSpans" 111 ⟨"FingerSpans$Rules", "cut", "(LFingerSpans$Tree;I)LFingerSpans$Cut;"⟩ "FingerSpans" ∈ lw_tbl := List.mem_of_getElem? (i := 452) (by decide +kernel)
theorem e_F_119 : Cond.methodLinkNest "FingerSpans" 119 ⟨"FingerSpans$Tree", "entryAt", "(I)LFingerSpans$Item;"⟩ "FingerSpans" ∈ lw_tbl := List.mem_of_getElem? (i := 423) (by decide +kernel)
theorem e_F_129 : Cond.methodLink "FingerSpans" 129 ⟨"FingerSpans", "isKind", "(I)Z"⟩ ∈ lw_tbl := List.mem_of_getElem? (i := 469) (by decide +kernel)
theorem e_F_132 : Cond.methodLink "FingerSpans" 132 ⟨"java/lang/Math", "max", "(II)I"⟩ ∈ lw_tbl := List.mem_of_getElem? (i := 480) (by decide +kernel)
theorem e_F_138 : Cond.methodLinkNest "FingerSpans" 138 ⟨"FingerSpans$Tree", "isDeep", "()Z"⟩ "FingerSpans" ∈ lw_tbl := List.mem_of_getElem? (i := 487) (by decide +kernel)
theorem e_F_150 : Cond.methodLinkNest "FingerSpans" 150 ⟨"FingerSpans$Tree", "levelOf", "(I)I"⟩ "FingerSpans" ∈ lw_tbl := List.mem_of_getElem? (i := 496) (by decide +kernel)
theorem e_F_154 : Cond.methodLinkNest "FingerSpans" 154 ⟨"FingerSpans$Marks", "common", "(LFingerSpans$Tree;LFingerSpans$Tree;)I"⟩ "FingerSpans" ∈ lw_tbl := List.mem_of_getElem? (i := 505) (by decide +kernel)
theorem e_F_161 : Cond.methodLink "FingerSpans" 161 ⟨"FingerSpans", "totalOfNone", "(I)J"⟩ ∈ lw_tbl := List.mem_of_getElem? (i := 416) (by decide +kernel)
theorem e_F_165 : Cond.methodLink "FingerSpans" 165 ⟨"FingerSpans", "totalWith", "(JLFingerSpans$Item;I)J"⟩ ∈ lw_tbl := List.mem_of_getElem? (i := 436) (by decide +kernel)
theorem e_F_169 : Cond.methodLink "FingerSpans" 169 ⟨"FingerSpans", "isBeyond", "(JIJ)Z"⟩ ∈ lw_tbl := List.mem_of_getElem? (i := 442) (by decide +kernel)
theorem e_F_173 : Cond.methodLink "FingerSpans" 173 ⟨"FingerSpans", "isGreatest", "(I)Z"⟩ ∈ lw_tbl := List.mem_of_getElem? (i := 419) (by decide +kernel)
theorem e_F_178 : Cond.methodLink "FingerSpans" 178 ⟨"java/lang/Math", "max", "(JJ)J"⟩ ∈ lw_tbl := List.mem_of_getElem? (i := 439) (by decide +kernel)
theorem e_F_9 : Cond.classLink "FingerSpans" 9 "FingerSpans$Rules" ∈ lw_tbl := List.mem_of_getElem? (i := 77) (by decide +kernel)
theorem e_F_16 : Cond.classLink "FingerSpans" 16 "FingerSpans$Marks" ∈ lw_tbl := List.mem_of_getElem? (i := 135) (by decide +kernel)
theorem e_F_23 : Cond.classLink "FingerSpans" 23 "FingerSpans$Tree" ∈ lw_tbl := List.mem_of_getElem? (i := 149) (by decide +kernel)
theorem e_F_47 : Cond.classLink "FingerSpans" 47 "FingerSpans$Item" ∈ lw_tbl := List.mem_of_getElem? (i := 176) (by decide +kernel)
theorem e_F_176 : Cond.constantLong "FingerSpans" 176 (-2147483648 : Int64) ∈ lw_tbl := List.mem_of_getElem? (i := 422) (by decide +kernel)
theorem e_I_7 : Cond.fieldLink "FingerSpans$Item" 7 "FingerSpans$Item" "number" "I" ∈ lw_tbl := List.mem_of_getElem? (i := 183) (by decide +kernel)
theorem e_I_13 : Cond.fieldLink "FingerSpans$Item" 13 "FingerSpans$Item" "low" "I" ∈ lw_tbl := List.mem_of_getElem? (i := 185) (by decide +kernel)
theorem e_I_16 : Cond.fieldLink "FingerSpans$Item" 16 "FingerSpans$Item" "high" "I" ∈ lw_tbl := List.mem_of_getElem? (i := 187) (by decide +kernel)
theorem e_I_19 : Cond.fieldLink "FingerSpans$Item" 19 "FingerSpans$Item" "parts" "[LFingerSpans$Item;" ∈ lw_tbl := List.mem_of_getElem? (i := 189) (by decide +kernel)
theorem e_I_23 : Cond.fieldLink "FingerSpans$Item" 23 "FingerSpans$Item" "entries" "I" ∈ lw_tbl := List.mem_of_getElem? (i := 193) (by decide +kernel)
theorem e_I_1 : Cond.methodLink "FingerSpans$Item" 1 ⟨"java/lang/Object", "<init>", "()V"⟩ ∈ lw_tbl := List.mem_of_getElem? (i := 181) (by decide +kernel)
theorem e_I_26 : Cond.methodLinkNest "FingerSpans$Item" 26 ⟨"FingerSpans$Rows", "entriesIn", "([LFingerSpans$Item;)I"⟩ "FingerSpans" ∈ lw_tbl := List.mem_of_getElem? (i := 242) (by decide +kernel)
theorem e_I_8 : Cond.classLink "FingerSpans$Item" 8 "FingerSpans$Item" ∈ lw_tbl := List.mem_of_getElem? (i := 182) (by decide +kernel)
theorem e_R_7 : Cond.fieldLinkNest "FingerSpans$Rows" 7 "FingerSpans$Item" "entries" "I" "FingerSpans" ∈ lw_tbl := List.mem_of_getElem? (i := 194) (by decide +kernel)
theorem e_R_23 : Cond.fieldLinkNest "FingerSpans$Rows" 23 "FingerSpans$Item" "parts" "[LFingerSpans$Item;" "FingerSpans" ∈ lw_tbl := List.mem_of_getElem? (i := 191) (by decide +kernel)
theorem e_R_13 : Cond.methodLink "FingerSpans$Rows" 13 ⟨"FingerSpans$Rows", "indexOf", "([LFingerSpans$Item;I)I"⟩ ∈ lw_tbl := List.mem_of_getElem? (i := 430) (by decide +kernel)
theorem e_R_19 : Cond.methodLinkNest "FingerSpans$Rows" 19 ⟨"FingerSpans$Item", "isNode", "()Z"⟩ "FingerSpans" ∈ lw_tbl := List.mem_of_getElem? (i := 431) (by decide +kernel)
theorem e_R_27 : Cond.methodLink "FingerSpans$Rows" 27 ⟨"FingerSpans$Rows", "entriesBefore", "([LFingerSpans$Item;I)I"⟩ ∈ lw_tbl := List.mem_of_getElem? (i := 432) (by decide +kernel)
theorem e_R_30 : Cond.methodLink "FingerSpans$Rows" 30 ⟨"FingerSpans$Rows", "entryAt", "([LFingerSpans$Item;I)LFingerSpans$Item;"⟩ ∈ lw_tbl := List.mem_of_getElem? (i := 433) (by decide +kernel)
theorem e_R_34 : Cond.methodLink "FingerSpans$Rows" 34 ⟨"FingerSpans$Rows", "slice", "([LFingerSpans$Item;II)[LFingerSpans$Item;"⟩ ∈ lw_tbl := List.mem_of_getElem? (i := 232) (by decide +kernel)
theorem e_R_8 : Cond.classLink "FingerSpans$Rows" 8 "FingerSpans$Item" ∈ lw_tbl := List.mem_of_getElem? (i := 228) (by decide +kernel)
theorem e_T_7 : Cond.fieldLink "FingerSpans$Tree" 7 "FingerSpans$Tree" "left" "[LFingerSpans$Item;" ∈ lw_tbl := List.mem_of_getElem? (i := 94) (by decide +kernel)
theorem e_T_13 : Cond.fieldLink "FingerSpans$Tree" 13 "FingerSpans$Tree" "middle" "LFingerSpans$Tree;" ∈ lw_tbl := List.mem_of_getElem? (i := 98) (by decide +kernel)
theorem e_T_17 : Cond.fieldLink "FingerSpans$Tree" 17 "FingerSpans$Tree" "right" "[LFingerSpans$Item;" ∈ lw_tbl := List.mem_of_getElem? (i := 102) (by decide +kernel)
theorem e_T_26 : Cond.fieldLink "FingerSpans$Tree" 26 "FingerSpans$Tree" "entries" "I" ∈ lw_tbl := List.mem_of_getElem? (i := 108) (by decide +kernel)
theorem e_T_30 : Cond.fieldLink "FingerSpans$Tree" 30 "FingerSpans$Tree" "rightStart" "I" ∈ lw_tbl := List.mem_of_getElem? (i := 106) (by decide +kernel)
theorem e_T_1 : Cond.methodLink "FingerSpans$Tree" 1 ⟨"java/lang/Object", "<init>", "()V"⟩ ∈ lw_tbl := List.mem_of_getElem? (i := 90) (by decide +kernel)
theorem e_T_20 : Cond.methodLinkNest "FingerSpans$Tree" 20 ⟨"FingerSpans$Rows", "entriesIn", "([LFingerSpans$Item;)I"⟩ "FingerSpans" ∈ lw_tbl := List.mem_of_getElem? (i := 91) (by decide +kernel)
theorem e_T_33 : Cond.methodLink "FingerSpans$Tree" 33 ⟨"FingerSpans$Tree", "isDeep", "()Z"⟩ ∈ lw_tbl := List.mem_of_getElem? (i := 264) (by decide +kernel)
theorem e_T_37 : Cond.methodLink "FingerSpans$Tree" 37 ⟨"FingerSpans$Tree", "middleStart", "()I"⟩ ∈ lw_tbl := List.mem_of_getElem? (i := 373) (by decide +kernel)
theorem e_T_41 : Cond.methodLinkNest "FingerSpans$Tree" 41 ⟨"FingerSpans$Rows", "entryAt", "([LFingerSpans$Item;I)LFingerSpans$Item;"⟩ "FingerSpans" ∈ lw_tbl := List.mem_of_getElem? (i := 427) (by decide +kernel)
theorem e_T_45 : Cond.methodLink "FingerSpans$Tree" 45 ⟨"FingerSpans$Tree", "holdsInMiddle", "(I)Z"⟩ ∈ lw_tbl := List.mem_of_getElem? (i := 434) (by decide +kernel)
theorem e_T_49 : Cond.methodLink "FingerSpans$Tree" 49 ⟨"FingerSpans$Tree", "entryAt", "(I)LFingerSpans$Item;"⟩ ∈ lw_tbl := List.mem_of_getElem? (i := 435) (by decide +kernel)
theorem e_T_52 : Cond.methodLink "FingerSpans$Tree" 52 ⟨"FingerSpans$Tree", "levelOf", "(I)I"⟩ ∈ lw_tbl := List.mem_of_getElem? (i := 500) (by decide +kernel)
theorem e_U_11 : Cond.fieldLink "FingerSpans$Rules" 11 "FingerSpans$Rules" "none" "[LFingerSpans$Item;" ∈ lw_tbl := List.mem_of_getElem? (i := 122) (by decide +kernel)
theorem e_U_22 : Cond.fieldLink "FingerSpans$Rules" 22 "FingerSpans$Rules" "empty" "LFingerSpans$Tree;" ∈ lw_tbl := List.mem_of_getElem? (i := 124) (by decide +kernel)
theorem e_U_26 : Cond.fieldLink "FingerSpans$Rules" 26 "FingerSpans$Rules" "nodesMade" "I" ∈ lw_tbl := List.mem_of_getElem? (i := 126) (by decide +kernel)
theorem e_U_48 : Cond.fieldLinkNest "FingerSpans$Rules" 48 "FingerSpans$Tree" "left" "[LFingerSpans$Item;" "FingerSpans" ∈ lw_tbl := List.mem_of_getElem? (i := 96) (by decide +kernel)
theorem e_U_57 : Cond.fieldLinkNest "FingerSpans$Rules" 57 "FingerSpans$Tree" "middle" "LFingerSpans$Tree;" "FingerSpans" ∈ lw_tbl := List.mem_of_getElem? (i := 100) (by decide +kernel)
theorem e_U_60 : Cond.fieldLinkNest "FingerSpans$Rules" 60 "FingerSpans$Tree" "right" "[LFingerSpans$Item;" "FingerSpans" ∈ lw_tbl := List.mem_of_getElem? (i := 104) (by decide +kernel)
theorem e_U_97 : Cond.fieldLinkNest "FingerSpans$Rules" 97 "FingerSpans$Item" "parts" "[LFingerSpans$Item;" "FingerSpans" ∈ lw_tbl := List.mem_of_getElem? (i := 192) (by decide +kernel)
theorem e_U_132 : Cond.fieldLinkNest "FingerSpans$Rules" 132 "FingerSpans$Tree" "rightStart" "I" "FingerSpans" ∈ lw_tbl := List.mem_of_getElem? (i := 107) (by decide +kernel)
theorem e_U_151 : Cond.fieldLinkNest "FingerSpans$Rules" 151 "FingerSpans$Cut" "item" "LFingerSpans$Item;" "FingerSpans" ∈ lw_tbl := List.mem_of_getElem? (i := 355) (by decide +kernel)
theorem e_U_155 : Cond.fieldLinkNest "FingerSpans$Rules" 155 "FingerSpans$Cut" "before" "LFingerSpans$Tree;" "FingerSpans" ∈ lw_tbl := List.mem_of_getElem? (i := 353) (by decide +kernel)
theorem e_U_157 : Cond.fieldLinkNest "FingerSpans$Rules" 157 "FingerSpans$Tree" "entries" "I" "FingerSpans" ∈ lw_tbl := List.mem_of_getElem? (i := 110) (by decide +kernel)
theorem e_U_160 : Cond.fieldLinkNest "FingerSpans$Rules" 160 "FingerSpans$Cut" "after" "LFingerSpans$Tree;" "FingerSpans" ∈ lw_tbl := List.mem_of_getElem? (i := 358) (by decide +kernel)
theorem e_U_3 : Cond.methodLink "FingerSpans$Rules" 3 ⟨"java/lang/Object", "<init>", "()V"⟩ ∈ lw_tbl := List.mem_of_getElem? (i := 82) (by decide +kernel)
theorem e_U_19 : Cond.methodLinkNest "FingerSpans$Rules" 19 ⟨"FingerSpans$Tree", "<init>", "([LFingerSpans$Item;LFingerSpans$Tree;[LFingerSpans$Item;)V"⟩ "FingerSpans" ∈ lw_tbl := List.mem_of_getElem? (i := 87) (by decide +kernel)
theorem e_U_30 : Cond.methodLinkNest "FingerSpans$Rules" 30 ⟨"FingerSpans$Item", "<init>", "(I[LFingerSpans$Item;)V"⟩ "FingerSpans" ∈ lw_tbl := List.mem_of_getElem? (i := 239) (by decide +kernel)
theorem e_U_33 : Cond.methodLink "FingerSpans$Rules" 33 ⟨"FingerSpans$Rules", "rowOf", "(LFingerSpans$Item;)[LFingerSpans$Item;"⟩ ∈ lw_tbl := List.mem_of_getElem? (i := 218) (by decide +kernel)
theorem e_U_37 : Cond.methodLinkNest "FingerSpans$Rules" 37 ⟨"FingerSpans$Tree", "isEmpty", "()Z"⟩ "FingerSpans" ∈ lw_tbl := List.mem_of_getElem? (i := 210) (by decide +kernel)
theorem e_U_41 : Cond.methodLink "FingerSpans$Rules" 41 ⟨"FingerSpans$Rules", "single", "(LFingerSpans$Item;)LFingerSpans$Tree;"⟩ ∈ lw_tbl := List.mem_of_getElem? (i := 214) (by decide +kernel)
theorem e_U_45 : Cond.methodLinkNest "FingerSpans$Rules" 45 ⟨"FingerSpans$Tree", "isDeep", "()Z"⟩ "FingerSpans" ∈ lw_tbl := List.mem_of_getElem? (i := 221) (by decide +kernel)
theorem e_U_51 : Cond.methodLinkNest "FingerSpans$Rules" 51 ⟨"FingerSpans$Rows", "joined", "([LFingerSpans$Item;[LFingerSpans$Item;)[LFingerSpans$Item;"⟩ "FingerSpans" ∈ lw_tbl := List.mem_of_getElem? (i := 225) (by decide +kernel)
theorem e_U_63 : Cond.methodLinkNest "FingerSpans$Rules" 63 ⟨"FingerSpans$Rows", "after", "([LFingerSpans$Item;I)[LFingerSpans$Item;"⟩ "FingerSpans" ∈ lw_tbl := List.mem_of_getElem? (i := 229) (by decide +kernel)
theorem e_U_67 : Cond.methodLink "FingerSpans$Rules" 67 ⟨"FingerSpans$Rules", "node", "([LFingerSpans$Item;)LFingerSpans$Item;"⟩ ∈ lw_tbl := List.mem_of_getElem? (i := 235) (by decide +kernel)
theorem e_U_71 : Cond.methodLink "FingerSpans$Rules" 71 ⟨"FingerSpans$Rules", "front", "(LFingerSpans$Item;LFingerSpans$Tree;)LFingerSpans$Tree;"⟩ ∈ lw_tbl := List.mem_of_getElem? (i := 243) (by decide +kernel)
theorem e_U_75 : Cond.methodLinkNest "FingerSpans$Rules" 75 ⟨"FingerSpans$Rows", "before", "([LFingerSpans$Item;I)[LFingerSpans$Item;"⟩ "FingerSpans" ∈ lw_tbl := List.mem_of_getElem? (i := 256) (by decide +kernel)
theorem e_U_78 : Cond.methodLink "FingerSpans$Rules" 78 ⟨"FingerSpans$Rules", "back", "(LFingerSpans$Tree;LFingerSpans$Item;)LFingerSpans$Tree;"⟩ ∈ lw_tbl := List.mem_of_getElem? (i := 259) (by decide +kernel)
theorem e_U_82 : Cond.methodLinkNest "FingerSpans$Rules" 82 ⟨"FingerSpans$Tree", "last", "()LFingerSpans$Item;"⟩ "FingerSpans" ∈ lw_tbl := List.mem_of_getElem? (i := 260) (by decide +kernel)
theorem e_U_86 : Cond.methodLinkNest "FingerSpans$Rules" 86 ⟨"FingerSpans$Rows", "slice", "([LFingerSpans$Item;II)[LFingerSpans$Item;"⟩ "FingerSpans" ∈ lw_tbl := List.mem_of_getElem? (i := 282) (by decide +kernel)
theorem e_U_90 : Cond.methodLink "FingerSpans$Rules" 90 ⟨"FingerSpans$Rules", "line", "([LFingerSpans$Item;)LFingerSpans$Tree;"⟩ ∈ lw_tbl := List.mem_of_getElem? (i := 278) (by decide +kernel)
theorem e_U_94 : Cond.methodLinkNest "FingerSpans$Rules" 94 ⟨"FingerSpans$Tree", "first", "()LFingerSpans$Item;"⟩ "FingerSpans" ∈ lw_tbl := List.mem_of_getElem? (i := 283) (by decide +kernel)
theorem e_U_100 : Cond.methodLink "FingerSpans$Rules" 100 ⟨"FingerSpans$Rules", "rest", "(LFingerSpans$Tree;)LFingerSpans$Tree;"⟩ ∈ lw_tbl := List.mem_of_getElem? (i := 287) (by decide +kernel)
theorem e_U_104 : Cond.methodLink "FingerSpans$Rules" 104 ⟨"FingerSpans$Rules", "lead", "(LFingerSpans$Tree;)LFingerSpans$Tree;"⟩ ∈ lw_tbl := List.mem_of_getElem? (i := 288) (by decide +kernel)
theorem e_U_107 : Cond.methodLink "FingerSpans$Rules" 107 ⟨"FingerSpans$Rules", "open", "([LFingerSpans$Item;LFingerSpans$Tree;[LFingerSpans$Item;)LFingerSpans$Tree;"⟩ ∈ lw_tbl := List.mem_of_getElem? (i := 274) (by decide +kernel)
theorem e_U_111 : Cond.methodLink "FingerSpans$Rules" 111 ⟨"FingerSpans$Rules", "allFront", "([LFingerSpans$Item;LFingerSpans$Tree;)LFingerSpans$Tree;"⟩ ∈ lw_tbl := List.mem_of_getElem? (i := 305) (by decide +kernel)
theorem e_U_115 : Cond.methodLink "FingerSpans$Rules" 115 ⟨"FingerSpans$Rules", "allBack", "(LFingerSpans$Tree;[LFingerSpans$Item;)LFingerSpans$Tree;"⟩ ∈ lw_tbl := List.mem_of_getElem? (i := 309) (by decide +kernel)
theorem e_U_119 : Cond.methodLink "FingerSpans$Rules" 119 ⟨"FingerSpans$Rules", "groups", "([LFingerSpans$Item;)[LFingerSpans$Item;"⟩ ∈ lw_tbl := List.mem_of_getElem? (i := 313) (by decide +kernel)
theorem e_U_123 : Cond.methodLink "FingerSpans$Rules" 123 ⟨"FingerSpans$Rules", "join", "(LFingerSpans$Tree;[LFingerSpans$Item;LFingerSpans$Tree;)LFingerSpans$Tree;"⟩ ∈ lw_tbl := List.mem_of_getElem? (i := 317) (by decide +kernel)
theorem e_U_129 : Cond.methodLinkNest "FingerSpans$Rules" 129 ⟨"FingerSpans$Cut", "<init>", "(LFingerSpans$Tree;LFingerSpans$Item;LFingerSpans$Tree;)V"⟩ "FingerSpans" ∈ lw_tbl := List.mem_of_getElem? (i := 347) (by decide +kernel)
theorem e_U_135 : Cond.methodLinkNest "FingerSpans$Rules" 135 ⟨"FingerSpans$Rows", "indexOf", "([LFingerSpans$Item;I)I"⟩ "FingerSpans" ∈ lw_tbl := List.mem_of_getElem? (i := 366) (by decide +kernel)
theorem e_U_139 : Cond.methodLinkNest "FingerSpans$Rules" 139 ⟨"FingerSpans$Tree", "holdsInMiddle", "(I)Z"⟩ "FingerSpans" ∈ lw_tbl := List.mem_of_getElem? (i := 369) (by decide +kernel)
theorem e_U_143 : Cond.methodLinkNest "FingerSpans$Rules" 143 ⟨"FingerSpans$Tree", "middleStart", "()I"⟩ "FingerSpans" ∈ lw_tbl := List.mem_of_getElem? (i := 377) (by decide +kernel)
theorem e_U_147 : Cond.methodLink "FingerSpans$Rules" 147 ⟨"FingerSpans$Rules", "cut", "(LFingerSpans$Tree;I)LFingerSpans$Cut;"⟩ ∈ lw_tbl := List.mem_of_getElem? (i := 341) (by decide +kernel)
theorem e_U_164 : Cond.methodLinkNest "FingerSpans$Rules" 164 ⟨"FingerSpans$Halves", "<init>", "(LFingerSpans$Tree;LFingerSpans$Tree;)V"⟩ "FingerSpans" ∈ lw_tbl := List.mem_of_getElem? (i := 328) (by decide +kernel)
theorem e_U_167 : Cond.methodLink "FingerSpans$Rules" 167 ⟨"FingerSpans$Rules", "rowWithEntry", "([LFingerSpans$Item;ILFingerSpans$Item;)[LFingerSpans$Item;"⟩ ∈ lw_tbl := List.mem_of_getElem? (i := 390) (by decide +kernel)
theorem e_U_171 : Cond.methodLink "FingerSpans$Rules" 171 ⟨"FingerSpans$Rules", "withEntry", "(LFingerSpans$Tree;ILFingerSpans$Item;)LFingerSpans$Tree;"⟩ ∈ lw_tbl := List.mem_of_getElem? (i := 408) (by decide +kernel)
theorem e_U_175 : Cond.methodLink "FingerSpans$Rules" 175 ⟨"[LFingerSpans$Item;", "clone", "()Ljava/lang/Object;"⟩ ∈ lw_tbl := List.mem_of_getElem? (i := 394) (by decide +kernel)
theorem e_U_180 : Cond.methodLinkNest "FingerSpans$Rules" 180 ⟨"FingerSpans$Item", "isNode", "()Z"⟩ "FingerSpans" ∈ lw_tbl := List.mem_of_getElem? (i := 401) (by decide +kernel)
theorem e_U_183 : Cond.methodLinkNest "FingerSpans$Rules" 183 ⟨"FingerSpans$Rows", "entriesBefore", "([LFingerSpans$Item;I)I"⟩ "FingerSpans" ∈ lw_tbl := List.mem_of_getElem? (i := 405) (by decide +kernel)
theorem e_U_9 : Cond.classLink "FingerSpans$Rules" 9 "FingerSpans$Item" ∈ lw_tbl := List.mem_of_getElem? (i := 83) (by decide +kernel)
theorem e_U_17 : Cond.classLink "FingerSpans$Rules" 17 "FingerSpans$Tree" ∈ lw_tbl := List.mem_of_getElem? (i := 85) (by decide +kernel)
theorem e_U_127 : Cond.classLink "FingerSpans$Rules" 127 "FingerSpans$Cut" ∈ lw_tbl := List.mem_of_getElem? (i := 345) (by decide +kernel)
theorem e_U_162 : Cond.classLink "FingerSpans$Rules" 162 "FingerSpans$Halves" ∈ lw_tbl := List.mem_of_getElem? (i := 326) (by decide +kernel)
theorem e_U_176 : Cond.classLink "FingerSpans$Rules" 176 "[LFingerSpans$Item;" ∈ lw_tbl := List.mem_of_getElem? (i := 400) (by decide +kernel)
theorem e_K_9 : Cond.fieldLink "FingerSpans$Marks" 9 "FingerSpans$Marks" "markOf" "[I" ∈ lw_tbl := List.mem_of_getElem? (i := 141) (by decide +kernel)
theorem e_K_15 : Cond.fieldLink "FingerSpans$Marks" 15 "FingerSpans$Marks" "latest" "I" ∈ lw_tbl := List.mem_of_getElem? (i := 142) (by decide +kernel)
theorem e_K_19 : Cond.fieldLinkNest "FingerSpans$Marks" 19 "FingerSpans$Tree" "left" "[LFingerSpans$Item;" "FingerSpans" ∈ lw_tbl := List.mem_of_getElem? (i := 95) (by decide +kernel)
theorem e_K_29 : Cond.fieldLinkNest "FingerSpans$Marks" 29 "FingerSpans$Tree" "right" "[LFingerSpans$Item;" "FingerSpans" ∈ lw_tbl := List.mem_of_getElem? (i := 103) (by decide +kernel)
theorem e_K_32 : Cond.fieldLinkNest "FingerSpans$Marks" 32 "FingerSpans$Tree" "middle" "LFingerSpans$Tree;" "FingerSpans" ∈ lw_tbl := List.mem_of_getElem? (i := 99) (by decide +kernel)
theorem e_K_46 : Cond.fieldLinkNest "FingerSpans$Marks" 46 "FingerSpans$Item" "number" "I" "FingerSpans" ∈ lw_tbl := List.mem_of_getElem? (i := 184) (by decide +kernel)
theorem e_K_49 : Cond.fieldLinkNest "FingerSpans$Marks" 49 "FingerSpans$Item" "parts" "[LFingerSpans$Item;" "FingerSpans" ∈ lw_tbl := List.mem_of_getElem? (i := 190) (by decide +kernel)
theorem e_K_3 : Cond.methodLink "FingerSpans$Marks" 3 ⟨"java/lang/Object", "<init>", "()V"⟩ ∈ lw_tbl := List.mem_of_getElem? (i := 140) (by decide +kernel)
theorem e_K_25 : Cond.methodLink "FingerSpans$Marks" 25 ⟨"FingerSpans$Marks", "markAll", "([LFingerSpans$Item;I)V"⟩ ∈ lw_tbl := List.mem_of_getElem? (i := 509) (by decide +kernel)
theorem e_K_36 : Cond.methodLink "FingerSpans$Marks" 36 ⟨"FingerSpans$Marks", "countMarked", "([LFingerSpans$Item;II)I"⟩ ∈ lw_tbl := List.mem_of_getElem? (i := 514) (by decide +kernel)
theorem e_K_40 : Cond.methodLinkNest "FingerSpans$Marks" 40 ⟨"FingerSpans$Item", "isNode", "()Z"⟩ "FingerSpans" ∈ lw_tbl := List.mem_of_getElem? (i := 513) (by decide +kernel)
theorem e_H_7 : Cond.fieldLink "FingerSpans$Halves" 7 "FingerSpans$Halves" "before" "LFingerSpans$Tree;" ∈ lw_tbl := List.mem_of_getElem? (i := 332) (by decide +kernel)
theorem e_H_13 : Cond.fieldLink "FingerSpans$Halves" 13 "FingerSpans$Halves" "after" "LFingerSpans$Tree;" ∈ lw_tbl := List.mem_of_getElem? (i := 334) (by decide +kernel)
theorem e_H_1 : Cond.methodLink "FingerSpans$Halves" 1 ⟨"java/lang/Object", "<init>", "()V"⟩ ∈ lw_tbl := List.mem_of_getElem? (i := 331) (by decide +kernel)
theorem e_C_7 : Cond.fieldLink "FingerSpans$Cut" 7 "FingerSpans$Cut" "before" "LFingerSpans$Tree;" ∈ lw_tbl := List.mem_of_getElem? (i := 351) (by decide +kernel)
theorem e_C_13 : Cond.fieldLink "FingerSpans$Cut" 13 "FingerSpans$Cut" "item" "LFingerSpans$Item;" ∈ lw_tbl := List.mem_of_getElem? (i := 354) (by decide +kernel)
theorem e_C_17 : Cond.fieldLink "FingerSpans$Cut" 17 "FingerSpans$Cut" "after" "LFingerSpans$Tree;" ∈ lw_tbl := List.mem_of_getElem? (i := 356) (by decide +kernel)
theorem e_C_1 : Cond.methodLink "FingerSpans$Cut" 1 ⟨"java/lang/Object", "<init>", "()V"⟩ ∈ lw_tbl := List.mem_of_getElem? (i := 350) (by decide +kernel)
theorem i_M : Cond.initialized "FingerSpansModel" ∈ lw_tbl := List.mem_of_getElem? (i := 64) (by decide +kernel)
theorem n_M : Cond.instantiable "FingerSpansModel" 11 ∈ lw_tbl := List.mem_of_getElem? (i := 523) (by decide +kernel)
theorem i_L : Cond.initialized "FingerSpansLaw" ∈ lw_tbl := List.mem_of_getElem? (i := 58) (by decide +kernel)
theorem i_F : Cond.initialized "FingerSpans" ∈ lw_tbl := List.mem_of_getElem? (i := 59) (by decide +kernel)
theorem n_F : Cond.instantiable "FingerSpans" 4 ∈ lw_tbl := List.mem_of_getElem? (i := 70) (by decide +kernel)
theorem i_I : Cond.initialized "FingerSpans$Item" ∈ lw_tbl := List.mem_of_getElem? (i := 65) (by decide +kernel)
theorem n_I : Cond.instantiable "FingerSpans$Item" 5 ∈ lw_tbl := List.mem_of_getElem? (i := 177) (by decide +kernel)
theorem i_R : Cond.initialized "FingerSpans$Rows" ∈ lw_tbl := List.mem_of_getElem? (i := 62) (by decide +kernel)
theorem i_T : Cond.initialized "FingerSpans$Tree" ∈ lw_tbl := List.mem_of_getElem? (i := 61) (by decide +kernel)
theorem n_T : Cond.instantiable "FingerSpans$Tree" 5 ∈ lw_tbl := List.mem_of_getElem? (i := 86) (by decide +kernel)
theorem i_U : Cond.initialized "FingerSpans$Rules" ∈ lw_tbl := List.mem_of_getElem? (i := 60) (by decide +kernel)
theorem n_U : Cond.instantiable "FingerSpans$Rules" 3 ∈ lw_tbl := List.mem_of_getElem? (i := 78) (by decide +kernel)
theorem i_K : Cond.initialized "FingerSpans$Marks" ∈ lw_tbl := List.mem_of_getElem? (i := 63) (by decide +kernel)
theorem n_K : Cond.instantiable "FingerSpans$Marks" 2 ∈ lw_tbl := List.mem_of_getElem? (i := 136) (by decide +kernel)
theorem i_H : Cond.initialized "FingerSpans$Halves" ∈ lw_tbl := List.mem_of_getElem? (i := 66) (by decide +kernel)
theorem n_H : Cond.instantiable "FingerSpans$Halves" 2 ∈ lw_tbl := List.mem_of_getElem? (i := 327) (by decide +kernel)
theorem i_C : Cond.initialized "FingerSpans$Cut" ∈ lw_tbl := List.mem_of_getElem? (i := 67) (by decide +kernel)
theorem n_C : Cond.instantiable "FingerSpans$Cut" 3 ∈ lw_tbl := List.mem_of_getElem? (i := 346) (by decide +kernel)
end
section
/-! Methods: codes, names, decoded instructions: written by wip/whole/tools/names.py out of the claim. -/
abbrev c_M_init : ByteArray := prog_10_method_1_code
abbrev y_M_init : MethodName := ⟨"FingerSpansModel", "<init>", "()V"⟩
theorem k_M_init : Cond.code y_M_init c_M_init 1 (none : Option FieldType) ∈ lw_tbl := List.mem_of_getElem? (i := 526) (by decide +kernel)
theorem b_M_init : x_ce y_M_init c_M_init 1 (none : Option FieldType) 0 := ⟨k_M_init, i_M, by decide +kernel⟩
theorem s_M_init : Cond.instanceMethod y_M_init ∈ lw_tbl := List.mem_of_getElem? (i := 525) (by decide +kernel)
theorem d_M_init_0 : decode c_M_init 0 = .ok (.aload_n 0, 1) := by decide +kernel
theorem d_M_init_1 : decode c_M_init 1 = .ok (.invokespecial 1, 3) := by decide +kernel
theorem d_M_init_4 : decode c_M_init 4 = .ok (.aload_n 0, 1) := by decide +kernel
theorem d_M_init_5 : decode c_M_init 5 = .ok (.bipush 120, 2) := by decide +kernel
theorem d_M_init_7 : decode c_M_init 7 = .ok (.newarray .int, 2) := by decide +kernel
theorem d_M_init_9 : decode c_M_init 9 = .ok (.putfield 7, 3) := by decide +kernel
theorem d_M_init_12 : decode c_M_init 12 = .ok (.aload_n 0, 1) := by decide +kernel
theorem d_M_init_13 : decode c_M_init 13 = .ok (.bipush 120, 2) := by decide +kernel
theorem d_M_init_15 : decode c_M_init 15 = .ok (.newarray .int, 2) := by decide +kernel
theorem d_M_init_17 : decode c_M_init 17 = .ok (.putfield 13, 3) := by decide +kernel
theorem d_M_init_20 : decode c_M_init 20 = .ok (.aload_n 0, 1) := by decide +kernel
theorem d_M_init_21 : decode c_M_init 21 = .ok (.sipush 4200, 3) := by decide +kernel
theorem d_M_init_24 : decode c_M_init 24 = .ok (.newarray .byte, 2) := by decide +kernel
theorem d_M_init_26 : decode c_M_init 26 = .ok (.putfield 16, 3) := by decide +kernel
theorem d_M_init_29 : decode c_M_init 29 = .ok (.aload_n 0, 1) := by decide +kernel
theorem d_M_init_30 : decode c_M_init 30 = .ok (.sipush 4200, 3) := by decide +kernel
theorem d_M_init_33 : decode c_M_init 33 = .ok (.newarray .byte, 2) := by decide +kernel
theorem d_M_init_35 : decode c_M_init 35 = .ok (.putfield 20, 3) := by decide +kernel
theorem d_M_init_38 : decode c_M_init 38 = .ok (.aload_n 0, 1) := by decide +kernel
theorem d_M_init_39 : decode c_M_init 39 = .ok (.sipush 4800, 3) := by decide +kernel
theorem d_M_init_42 : decode c_M_init 42 = .ok (.newarray .long, 2) := by decide +kernel
theorem d_M_init_44 : decode c_M_init 44 = .ok (.putfield 23, 3) := by decide +kernel
theorem d_M_init_47 : decode c_M_init 47 = .ok (.aload_n 0, 1) := by decide +kernel
theorem d_M_init_48 : decode c_M_init 48 = .ok (.bipush 120, 2) := by decide +kernel
theorem d_M_init_50 : decode c_M_init 50 = .ok (.newarray .byte, 2) := by decide +kernel
theorem d_M_init_52 : decode c_M_init 52 = .ok (.putfield 27, 3) := by decide +kernel
theorem d_M_init_55 : decode c_M_init 55 = .ok (.aload_n 0, 1) := by decide +kernel
theorem d_M_init_56 : decode c_M_init 56 = .ok (.iconst 1, 1) := by decide +kernel
theorem d_M_init_57 : decode c_M_init 57 = .ok (.putfield 30, 3) := by decide +kernel
theorem d_M_init_60 : decode c_M_init 60 = .ok (.aload_n 0, 1) := by decide +kernel
theorem d_M_init_61 : decode c_M_init 61 = .ok (.bipush 48, 2) := by decide +kernel
theorem d_M_init_63 : decode c_M_init 63 = .ok (.newarray .long, 2) := by decide +kernel
theorem d_M_init_65 : decode c_M_init 65 = .ok (.putfield 34, 3) := by decide +kernel
theorem d_M_init_68 : decode c_M_init 68 = .ok (.return_, 1) := by decide +kernel
abbrev c_M_level : ByteArray := prog_10_method_2_code
abbrev y_M_level : MethodName := ⟨"FingerSpansModel", "level", "(J)I"⟩
theorem k_M_level : Cond.code y_M_level c_M_level 2 (some FieldType.int) ∈ lw_tbl := List.mem_of_getElem? (i := 594) (by decide +kernel)
theorem b_M_level : x_ce y_M_level c_M_level 2 (some FieldType.int) 1 := ⟨k_M_level, i_M, by decide +kernel⟩
theorem s_M_level : Cond.static y_M_level ∈ lw_tbl := List.mem_of_getElem? (i := 593) (by decide +kernel)
theorem d_M_level_0 : decode c_M_level 0 = .ok (.lload_n 0, 1) := by decide +kernel
theorem d_M_level_1 : decode c_M_level 1 = .ok (.bipush 9, 2) := by decide +kernel
theorem d_M_level_3 : decode c_M_level 3 = .ok (.lushr, 1) := by decide +kernel
theorem d_M_level_4 : decode c_M_level 4 = .ok (.l2i, 1) := by decide +kernel
theorem d_M_level_5 : decode c_M_level 5 = .ok (.bipush 7, 2) := by decide +kernel
theorem d_M_level_7 : decode c_M_level 7 = .ok (.iand, 1) := by decide +kernel
theorem d_M_level_8 : decode c_M_level 8 = .ok (.ireturn, 1) := by decide +kernel
abbrev c_M_side : ByteArray := prog_10_method_3_code
abbrev y_M_side : MethodName := ⟨"FingerSpansModel", "side", "(J)I"⟩
theorem k_M_side : Cond.code y_M_side c_M_side 2 (some FieldType.int) ∈ lw_tbl := List.mem_of_getElem? (i := 602) (by decide +kernel)
theorem b_M_side : x_ce y_M_side c_M_side 2 (some FieldType.int) 1 := ⟨k_M_side, i_M, by decide +kernel⟩
theorem s_M_side : Cond.static y_M_side ∈ lw_tbl := List.mem_of_getElem? (i := 601) (by decide +kernel)
theorem d_M_side_0 : decode c_M_side 0 = .ok (.lload_n 0, 1) := by decide +kernel
theorem d_M_side_1 : decode c_M_side 1 = .ok (.bipush 7, 2) := by decide +kernel
theorem d_M_side_3 : decode c_M_side 3 = .ok (.lushr, 1) := by decide +kernel
theorem d_M_side_4 : decode c_M_side 4 = .ok (.l2i, 1) := by decide +kernel
theorem d_M_side_5 : decode c_M_side 5 = .ok (.iconst 3, 1) := by decide +kernel
theorem d_M_side_6 : decode c_M_side 6 = .ok (.iand, 1) := by decide +kernel
theorem d_M_side_7 : decode c_M_side 7 = .ok (.ireturn, 1) := by decide +kernel
abbrev c_M_node : ByteArray := prog_10_method_4_code
abbrev y_M_node : MethodName := ⟨"FingerSpansModel", "node", "(JI)I"⟩
theorem k_M_node : Cond.code y_M_node c_M_node 3 (some FieldType.int) ∈ lw_tbl := List.mem_of_getElem? (i := 591) (by decide +kernel)
theorem b_M_node : x_ce y_M_node c_M_node 3 (some FieldType.int) 2 := ⟨k_M_node, i_M, by decide +kernel⟩
theorem s_M_node : Cond.static y_M_node ∈ lw_tbl := List.mem_of_getElem? (i := 590) (by decide +kernel)
theorem d_M_node_0 : decode c_M_node 0 = .ok (.lload_n 0, 1) := by decide +kernel
theorem d_M_node_1 : decode c_M_node 1 = .ok (.bipush 13, 2) := by decide +kernel
theorem d_M_node_3 : decode c_M_node 3 = .ok (.iload_n 2, 1) := by decide +kernel
theorem d_M_node_4 : decode c_M_node 4 = .ok (.imul, 1) := by decide +kernel
theorem d_M_node_5 : decode c_M_node 5 = .ok (.iconst 1, 1) := by decide +kernel
theorem d_M_node_6 : decode c_M_node 6 = .ok (.isub, 1) := by decide +kernel
theorem d_M_node_7 : decode c_M_node 7 = .ok (.lushr, 1) := by decide +kernel
theorem d_M_node_8 : decode c_M_node 8 = .ok (.l2i, 1) := by decide +kernel
theorem d_M_node_9 : decode c_M_node 9 = .ok (.sipush 8191, 3) := by decide +kernel
theorem d_M_node_12 : decode c_M_node 12 = .ok (.iand, 1) := by decide +kernel
theorem d_M_node_13 : decode c_M_node 13 = .ok (.ireturn, 1) := by decide +kernel
abbrev c_M_entry : ByteArray := prog_10_method_5_code
abbrev y_M_entry : MethodName := ⟨"FingerSpansModel", "entry", "(J)I"⟩
theorem k_M_entry : Cond.code y_M_entry c_M_entry 2 (some FieldType.int) ∈ lw_tbl := List.mem_of_getElem? (i := 704) (by decide +kernel)
theorem b_M_entry : x_ce y_M_entry c_M_entry 2 (some FieldType.int) 1 := ⟨k_M_entry, i_M, by decide +kernel⟩
theorem s_M_entry : Cond.static y_M_entry ∈ lw_tbl := List.mem_of_getElem? (i := 703) (by decide +kernel)
theorem d_M_entry_0 : decode c_M_entry 0 = .ok (.lload_n 0, 1) := by decide +kernel
theorem d_M_entry_1 : decode c_M_entry 1 = .ok (.l2i, 1) := by decide +kernel
theorem d_M_entry_2 : decode c_M_entry 2 = .ok (.bipush 127, 2) := by decide +kernel
theorem d_M_entry_4 : decode c_M_entry 4 = .ok (.iand, 1) := by decide +kernel
theorem d_M_entry_5 : decode c_M_entry 5 = .ok (.ireturn, 1) := by decide +kernel
abbrev c_M_is : ByteArray := prog_10_method_6_code
abbrev y_M_is : MethodName := ⟨"FingerSpansModel", "is", "(III)Z"⟩
theorem k_M_is : Cond.code y_M_is c_M_is 4 (some FieldType.boolean) ∈ lw_tbl := List.mem_of_getElem? (i := 606) (by decide +kernel)
theorem b_M_is : x_ce y_M_is c_M_is 4 (some FieldType.boolean) 3 := ⟨k_M_is, i_M, by decide +kernel⟩
theorem s_M_is : Cond.instanceMethod y_M_is ∈ lw_tbl := List.mem_of_getElem? (i := 605) (by decide +kernel)
theorem v_M_is : Cond.selects "FingerSpansModel" y_M_is y_M_is ∈ lw_tbl := List.mem_of_getElem? (i := 38) (by decide +kernel)
theorem d_M_is_0 : decode c_M_is 0 = .ok (.iload_n 1, 1) := by decide +kernel
theorem d_M_is_1 : decode c_M_is 1 = .ok (.ifCond .lt 41, 3) := by decide +kernel
theorem d_M_is_4 : decode c_M_is 4 = .ok (.iload_n 1, 1) := by decide +kernel
theorem d_M_is_5 : decode c_M_is 5 = .ok (.aload_n 0, 1) := by decide +kernel
theorem d_M_is_6 : decode c_M_is 6 = .ok (.getfield 37, 3) := by decide +kernel
theorem d_M_is_9 : decode c_M_is 9 = .ok (.if_icmp .ge 33, 3) := by decide +kernel
theorem d_M_is_12 : decode c_M_is 12 = .ok (.aload_n 0, 1) := by decide +kernel
theorem d_M_is_13 : decode c_M_is 13 = .ok (.getfield 34, 3) := by decide +kernel
theorem d_M_is_16 : decode c_M_is 16 = .ok (.iload_n 1, 1) := by decide +kernel
theorem d_M_is_17 : decode c_M_is 17 = .ok (.laload, 1) := by decide +kernel
theorem d_M_is_18 : decode c_M_is 18 = .ok (.invokestatic 40, 3) := by decide +kernel
theorem d_M_is_21 : decode c_M_is 21 = .ok (.iload_n 2, 1) := by decide +kernel
theorem d_M_is_22 : decode c_M_is 22 = .ok (.if_icmp .ne 20, 3) := by decide +kernel
theorem d_M_is_25 : decode c_M_is 25 = .ok (.aload_n 0, 1) := by decide +kernel
theorem d_M_is_26 : decode c_M_is 26 = .ok (.getfield 34, 3) := by decide +kernel
theorem d_M_is_29 : decode c_M_is 29 = .ok (.iload_n 1, 1) := by decide +kernel
theorem d_M_is_30 : decode c_M_is 30 = .ok (.laload, 1) := by decide +kernel
theorem d_M_is_31 : decode c_M_is 31 = .ok (.invokestatic 44, 3) := by decide +kernel
theorem d_M_is_34 : decode c_M_is 34 = .ok (.iload_n 3, 1) := by decide +kernel
theorem d_M_is_35 : decode c_M_is 35 = .ok (.if_icmp .ne 7, 3) := by decide +kernel
theorem d_M_is_38 : decode c_M_is 38 = .ok (.iconst 1, 1) := by decide +kernel
theorem d_M_is_39 : decode c_M_is 39 = .ok (.goto 4, 3) := by decide +kernel
theorem d_M_is_42 : decode c_M_is 42 = .ok (.iconst 0, 1) := by decide +kernel
theorem d_M_is_43 : decode c_M_is 43 = .ok (.ireturn, 1) := by decide +kernel
abbrev c_M_end : ByteArray := prog_10_method_7_code
abbrev y_M_end : MethodName := ⟨"FingerSpansModel", "end", "(II)I"⟩
theorem k_M_end : Cond.code y_M_end c_M_end 3 (some FieldType.int) ∈ lw_tbl := List.mem_of_getElem? (i := 588) (by decide +kernel)
theorem b_M_end : x_ce y_M_end c_M_end 3 (some FieldType.int) 2 := ⟨k_M_end, i_M, by decide +kernel⟩
theorem s_M_end : Cond.instanceMethod y_M_end ∈ lw_tbl := List.mem_of_getElem? (i := 587) (by decide +kernel)
theorem v_M_end : Cond.selects "FingerSpansModel" y_M_end y_M_end ∈ lw_tbl := List.mem_of_getElem? (i := 36) (by decide +kernel)
theorem d_M_end_0 : decode c_M_end 0 = .ok (.iload_n 2, 1) := by decide +kernel
theorem d_M_end_1 : decode c_M_end 1 = .ok (.ifCond .ne 9, 3) := by decide +kernel
theorem d_M_end_4 : decode c_M_end 4 = .ok (.iload_n 1, 1) := by decide +kernel
theorem d_M_end_5 : decode c_M_end 5 = .ok (.iconst 1, 1) := by decide +kernel
theorem d_M_end_6 : decode c_M_end 6 = .ok (.iadd, 1) := by decide +kernel
theorem d_M_end_7 : decode c_M_end 7 = .ok (.goto 20, 3) := by decide +kernel
theorem d_M_end_10 : decode c_M_end 10 = .ok (.iload_n 1, 1) := by decide +kernel
theorem d_M_end_11 : decode c_M_end 11 = .ok (.aload_n 0, 1) := by decide +kernel
theorem d_M_end_12 : decode c_M_end 12 = .ok (.getfield 16, 3) := by decide +kernel
theorem d_M_end_15 : decode c_M_end 15 = .ok (.aload_n 0, 1) := by decide +kernel
theorem d_M_end_16 : decode c_M_end 16 = .ok (.getfield 34, 3) := by decide +kernel
theorem d_M_end_19 : decode c_M_end 19 = .ok (.iload_n 1, 1) := by decide +kernel
theorem d_M_end_20 : decode c_M_end 20 = .ok (.laload, 1) := by decide +kernel
theorem d_M_end_21 : decode c_M_end 21 = .ok (.iload_n 2, 1) := by decide +kernel
theorem d_M_end_22 : decode c_M_end 22 = .ok (.invokestatic 47, 3) := by decide +kernel
theorem d_M_end_25 : decode c_M_end 25 = .ok (.baload, 1) := by decide +kernel
theorem d_M_end_26 : decode c_M_end 26 = .ok (.iadd, 1) := by decide +kernel
theorem d_M_end_27 : decode c_M_end 27 = .ok (.ireturn, 1) := by decide +kernel
abbrev c_M_begin : ByteArray := prog_10_method_8_code
abbrev y_M_begin : MethodName := ⟨"FingerSpansModel", "begin", "(II)I"⟩
theorem k_M_begin : Cond.code y_M_begin c_M_begin 3 (some FieldType.int) ∈ lw_tbl := List.mem_of_getElem? (i := 626) (by decide +kernel)
theorem b_M_begin : x_ce y_M_begin c_M_begin 3 (some FieldType.int) 2 := ⟨k_M_begin, i_M, by decide +kernel⟩
theorem s_M_begin : Cond.instanceMethod y_M_begin ∈ lw_tbl := List.mem_of_getElem? (i := 625) (by decide +kernel)
theorem v_M_begin : Cond.selects "FingerSpansModel" y_M_begin y_M_begin ∈ lw_tbl := List.mem_of_getElem? (i := 42) (by decide +kernel)
theorem d_M_begin_0 : decode c_M_begin 0 = .ok (.iload_n 2, 1) := by decide +kernel
theorem d_M_begin_1 : decode c_M_begin 1 = .ok (.ifCond .ne 9, 3) := by decide +kernel
theorem d_M_begin_4 : decode c_M_begin 4 = .ok (.iload_n 1, 1) := by decide +kernel
theorem d_M_begin_5 : decode c_M_begin 5 = .ok (.iconst 1, 1) := by decide +kernel
theorem d_M_begin_6 : decode c_M_begin 6 = .ok (.isub, 1) := by decide +kernel
theorem d_M_begin_7 : decode c_M_begin 7 = .ok (.goto 22, 3) := by decide +kernel
theorem d_M_begin_10 : decode c_M_begin 10 = .ok (.iload_n 1, 1) := by decide +kernel
theorem d_M_begin_11 : decode c_M_begin 11 = .ok (.aload_n 0, 1) := by decide +kernel
theorem d_M_begin_12 : decode c_M_begin 12 = .ok (.getfield 16, 3) := by decide +kernel
theorem d_M_begin_15 : decode c_M_begin 15 = .ok (.aload_n 0, 1) := by decide +kernel
theorem d_M_begin_16 : decode c_M_begin 16 = .ok (.getfield 34, 3) := by decide +kernel
theorem d_M_begin_19 : decode c_M_begin 19 = .ok (.iload_n 1, 1) := by decide +kernel
theorem d_M_begin_20 : decode c_M_begin 20 = .ok (.iconst 1, 1) := by decide +kernel
theorem d_M_begin_21 : decode c_M_begin 21 = .ok (.isub, 1) := by decide +kernel
theorem d_M_begin_22 : decode c_M_begin 22 = .ok (.laload, 1) := by decide +kernel
theorem d_M_begin_23 : decode c_M_begin 23 = .ok (.iload_n 2, 1) := by decide +kernel
theorem d_M_begin_24 : decode c_M_begin 24 = .ok (.invokestatic 47, 3) := by decide +kernel
theorem d_M_begin_27 : decode c_M_begin 27 = .ok (.baload, 1) := by decide +kernel
theorem d_M_begin_28 : decode c_M_begin 28 = .ok (.isub, 1) := by decide +kernel
theorem d_M_begin_29 : decode c_M_begin 29 = .ok (.ireturn, 1) := by decide +kernel
abbrev c_M_settle : ByteArray := prog_10_method_9_code
abbrev y_M_settle : MethodName := ⟨"FingerSpansModel", "settle", "(IIII)V"⟩
theorem k_M_settle : Cond.code y_M_settle c_M_settle 8 (none : Option FieldType) ∈ lw_tbl := List.mem_of_getElem? (i := 598) (by decide +kernel)
theorem b_M_settle : x_ce y_M_settle c_M_settle 8 (none : Option FieldType) 4 := ⟨k_M_settle, i_M, by decide +kernel⟩
theorem s_M_settle : Cond.instanceMethod y_M_settle ∈ lw_tbl := List.mem_of_getElem? (i := 597) (by decide +kernel)
theorem v_M_settle : Cond.selects "FingerSpansModel" y_M_settle y_M_settle ∈ lw_tbl := List.mem_of_getElem? (i := 37) (by decide +kernel)
theorem d_M_settle_0 : decode c_M_settle 0 = .ok (.lconst 1, 1) := by decide +kernel
theorem d_M_settle_1 : decode c_M_settle 1 = .ok (.bipush 12, 2) := by decide +kernel
theorem d_M_settle_3 : decode c_M_settle 3 = .ok (.bipush 13, 2) := by decide +kernel
theorem d_M_settle_5 : decode c_M_settle 5 = .ok (.iload_n 3, 1) := by decide +kernel
theorem d_M_settle_6 : decode c_M_settle 6 = .ok (.imul, 1) := by decide +kernel
theorem d_M_settle_7 : decode c_M_settle 7 = .ok (.iadd, 1) := by decide +kernel
theorem d_M_settle_8 : decode c_M_settle 8 = .ok (.lshl, 1) := by decide +kernel
theorem d_M_settle_9 : decode c_M_settle 9 = .ok (.lconst 1, 1) := by decide +kernel
theorem d_M_settle_10 : decode c_M_settle 10 = .ok (.lsub, 1) := by decide +kernel
theorem d_M_settle_11 : decode c_M_settle 11 = .ok (.ldc2_w 51, 3) := by decide +kernel
theorem d_M_settle_14 : decode c_M_settle 14 = .ok (.land, 1) := by decide +kernel
theorem d_M_settle_15 : decode c_M_settle 15 = .ok (.lstore 5, 2) := by decide +kernel
theorem d_M_settle_17 : decode c_M_settle 17 = .ok (.iload_n 1, 1) := by decide +kernel
theorem d_M_settle_18 : decode c_M_settle 18 = .ok (.istore 7, 2) := by decide +kernel
theorem d_M_settle_20 : decode c_M_settle 20 = .ok (.iload 7, 2) := by decide +kernel
theorem d_M_settle_22 : decode c_M_settle 22 = .ok (.iload_n 2, 1) := by decide +kernel
theorem d_M_settle_23 : decode c_M_settle 23 = .ok (.if_icmp .ge 39, 3) := by decide +kernel
theorem d_M_settle_26 : decode c_M_settle 26 = .ok (.aload_n 0, 1) := by decide +kernel
theorem d_M_settle_27 : decode c_M_settle 27 = .ok (.getfield 34, 3) := by decide +kernel
theorem d_M_settle_30 : decode c_M_settle 30 = .ok (.iload 7, 2) := by decide +kernel
theorem d_M_settle_32 : decode c_M_settle 32 = .ok (.aload_n 0, 1) := by decide +kernel
theorem d_M_settle_33 : decode c_M_settle 33 = .ok (.getfield 34, 3) := by decide +kernel
theorem d_M_settle_36 : decode c_M_settle 36 = .ok (.iload 7, 2) := by decide +kernel
theorem d_M_settle_38 : decode c_M_settle 38 = .ok (.laload, 1) := by decide +kernel
theorem d_M_settle_39 : decode c_M_settle 39 = .ok (.lload 5, 2) := by decide +kernel
theorem d_M_settle_41 : decode c_M_settle 41 = .ok (.land, 1) := by decide +kernel
theorem d_M_settle_42 : decode c_M_settle 42 = .ok (.iload 4, 2) := by decide +kernel
theorem d_M_settle_44 : decode c_M_settle 44 = .ok (.i2l, 1) := by decide +kernel
theorem d_M_settle_45 : decode c_M_settle 45 = .ok (.bipush 7, 2) := by decide +kernel
theorem d_M_settle_47 : decode c_M_settle 47 = .ok (.lshl, 1) := by decide +kernel
theorem d_M_settle_48 : decode c_M_settle 48 = .ok (.lor, 1) := by decide +kernel
theorem d_M_settle_49 : decode c_M_settle 49 = .ok (.iload_n 3, 1) := by decide +kernel
theorem d_M_settle_50 : decode c_M_settle 50 = .ok (.i2l, 1) := by decide +kernel
theorem d_M_settle_51 : decode c_M_settle 51 = .ok (.bipush 9, 2) := by decide +kernel
theorem d_M_settle_53 : decode c_M_settle 53 = .ok (.lshl, 1) := by decide +kernel
theorem d_M_settle_54 : decode c_M_settle 54 = .ok (.lor, 1) := by decide +kernel
theorem d_M_settle_55 : decode c_M_settle 55 = .ok (.lastore, 1) := by decide +kernel
theorem d_M_settle_56 : decode c_M_settle 56 = .ok (.iinc 7 1, 3) := by decide +kernel
theorem d_M_settle_59 : decode c_M_settle 59 = .ok (.goto (-39), 3) := by decide +kernel
theorem d_M_settle_62 : decode c_M_settle 62 = .ok (.return_, 1) := by decide +kernel
abbrev c_M_wrap : ByteArray := prog_10_method_10_code
abbrev y_M_wrap : MethodName := ⟨"FingerSpansModel", "wrap", "(III)V"⟩
theorem k_M_wrap : Cond.code y_M_wrap c_M_wrap 5 (none : Option FieldType) ∈ lw_tbl := List.mem_of_getElem? (i := 610) (by decide +kernel)
theorem b_M_wrap : x_ce y_M_wrap c_M_wrap 5 (none : Option FieldType) 3 := ⟨k_M_wrap, i_M, by decide +kernel⟩
theorem s_M_wrap : Cond.instanceMethod y_M_wrap ∈ lw_tbl := List.mem_of_getElem? (i := 609) (by decide +kernel)
theorem v_M_wrap : Cond.selects "FingerSpansModel" y_M_wrap y_M_wrap ∈ lw_tbl := List.mem_of_getElem? (i := 39) (by decide +kernel)
theorem d_M_wrap_0 : decode c_M_wrap 0 = .ok (.aload_n 0, 1) := by decide +kernel
theorem d_M_wrap_1 : decode c_M_wrap 1 = .ok (.dup, 1) := by decide +kernel
theorem d_M_wrap_2 : decode c_M_wrap 2 = .ok (.getfield 53, 3) := by decide +kernel
theorem d_M_wrap_5 : decode c_M_wrap 5 = .ok (.iconst 1, 1) := by decide +kernel
theorem d_M_wrap_6 : decode c_M_wrap 6 = .ok (.iadd, 1) := by decide +kernel
theorem d_M_wrap_7 : decode c_M_wrap 7 = .ok (.putfield 53, 3) := by decide +kernel
theorem d_M_wrap_10 : decode c_M_wrap 10 = .ok (.aload_n 0, 1) := by decide +kernel
theorem d_M_wrap_11 : decode c_M_wrap 11 = .ok (.getfield 16, 3) := by decide +kernel
theorem d_M_wrap_14 : decode c_M_wrap 14 = .ok (.aload_n 0, 1) := by decide +kernel
theorem d_M_wrap_15 : decode c_M_wrap 15 = .ok (.getfield 53, 3) := by decide +kernel
theorem d_M_wrap_18 : decode c_M_wrap 18 = .ok (.iload_n 2, 1) := by decide +kernel
theorem d_M_wrap_19 : decode c_M_wrap 19 = .ok (.iload_n 1, 1) := by decide +kernel
theorem d_M_wrap_20 : decode c_M_wrap 20 = .ok (.isub, 1) := by decide +kernel
theorem d_M_wrap_21 : decode c_M_wrap 21 = .ok (.i2b, 1) := by decide +kernel
theorem d_M_wrap_22 : decode c_M_wrap 22 = .ok (.bastore, 1) := by decide +kernel
theorem d_M_wrap_23 : decode c_M_wrap 23 = .ok (.iload_n 1, 1) := by decide +kernel
theorem d_M_wrap_24 : decode c_M_wrap 24 = .ok (.istore 4, 2) := by decide +kernel
theorem d_M_wrap_26 : decode c_M_wrap 26 = .ok (.iload 4, 2) := by decide +kernel
theorem d_M_wrap_28 : decode c_M_wrap 28 = .ok (.iload_n 2, 1) := by decide +kernel
theorem d_M_wrap_29 : decode c_M_wrap 29 = .ok (.if_icmp .ge 47, 3) := by decide +kernel
theorem d_M_wrap_32 : decode c_M_wrap 32 = .ok (.aload_n 0, 1) := by decide +kernel
theorem d_M_wrap_33 : decode c_M_wrap 33 = .ok (.getfield 34, 3) := by decide +kernel
theorem d_M_wrap_36 : decode c_M_wrap 36 = .ok (.iload 4, 2) := by decide +kernel
theorem d_M_wrap_38 : decode c_M_wrap 38 = .ok (.aload_n 0, 1) := by decide +kernel
theorem d_M_wrap_39 : decode c_M_wrap 39 = .ok (.getfield 34, 3) := by decide +kernel
theorem d_M_wrap_42 : decode c_M_wrap 42 = .ok (.iload 4, 2) := by decide +kernel
theorem d_M_wrap_44 : decode c_M_wrap 44 = .ok (.laload, 1) := by decide +kernel
theorem d_M_wrap_45 : decode c_M_wrap 45 = .ok (.lconst 1, 1) := by decide +kernel
theorem d_M_wrap_46 : decode c_M_wrap 46 = .ok (.bipush 13, 2) := by decide +kernel
theorem d_M_wrap_48 : decode c_M_wrap 48 = .ok (.iload_n 3, 1) := by decide +kernel
theorem d_M_wrap_49 : decode c_M_wrap 49 = .ok (.imul, 1) := by decide +kernel
theorem d_M_wrap_50 : decode c_M_wrap 50 = .ok (.iconst 1, 1) := by decide +kernel
theorem d_M_wrap_51 : decode c_M_wrap 51 = .ok (.isub, 1) := by decide +kernel
theorem d_M_wrap_52 : decode c_M_wrap 52 = .ok (.lshl, 1) := by decide +kernel
theorem d_M_wrap_53 : decode c_M_wrap 53 = .ok (.lconst 1, 1) := by decide +kernel
theorem d_M_wrap_54 : decode c_M_wrap 54 = .ok (.lsub, 1) := by decide +kernel
theorem d_M_wrap_55 : decode c_M_wrap 55 = .ok (.land, 1) := by decide +kernel
theorem d_M_wrap_56 : decode c_M_wrap 56 = .ok (.aload_n 0, 1) := by decide +kernel
theorem d_M_wrap_57 : decode c_M_wrap 57 = .ok (.getfield 53, 3) := by decide +kernel
theorem d_M_wrap_60 : decode c_M_wrap 60 = .ok (.i2l, 1) := by decide +kernel
theorem d_M_wrap_61 : decode c_M_wrap 61 = .ok (.bipush 13, 2) := by decide +kernel
theorem d_M_wrap_63 : decode c_M_wrap 63 = .ok (.iload_n 3, 1) := by decide +kernel
theorem d_M_wrap_64 : decode c_M_wrap 64 = .ok (.imul, 1) := by decide +kernel
theorem d_M_wrap_65 : decode c_M_wrap 65 = .ok (.iconst 1, 1) := by decide +kernel
theorem d_M_wrap_66 : decode c_M_wrap 66 = .ok (.isub, 1) := by decide +kernel
theorem d_M_wrap_67 : decode c_M_wrap 67 = .ok (.lshl, 1) := by decide +kernel
theorem d_M_wrap_68 : decode c_M_wrap 68 = .ok (.lor, 1) := by decide +kernel
theorem d_M_wrap_69 : decode c_M_wrap 69 = .ok (.lastore, 1) := by decide +kernel
theorem d_M_wrap_70 : decode c_M_wrap 70 = .ok (.iinc 4 1, 3) := by decide +kernel
theorem d_M_wrap_73 : decode c_M_wrap 73 = .ok (.goto (-47), 3) := by decide +kernel
theorem d_M_wrap_76 : decode c_M_wrap 76 = .ok (.aload_n 0, 1) := by decide +kernel
theorem d_M_wrap_77 : decode c_M_wrap 77 = .ok (.iload_n 1, 1) := by decide +kernel
theorem d_M_wrap_78 : decode c_M_wrap 78 = .ok (.iload_n 2, 1) := by decide +kernel
theorem d_M_wrap_79 : decode c_M_wrap 79 = .ok (.iload_n 3, 1) := by decide +kernel
theorem d_M_wrap_80 : decode c_M_wrap 80 = .ok (.iconst 3, 1) := by decide +kernel
theorem d_M_wrap_81 : decode c_M_wrap 81 = .ok (.invokevirtual 56, 3) := by decide +kernel
theorem d_M_wrap_84 : decode c_M_wrap 84 = .ok (.return_, 1) := by decide +kernel
abbrev c_M_line : ByteArray := prog_10_method_11_code
abbrev y_M_line : MethodName := ⟨"FingerSpansModel", "line", "(III)V"⟩
theorem k_M_line : Cond.code y_M_line c_M_line 8 (none : Option FieldType) ∈ lw_tbl := List.mem_of_getElem? (i := 642) (by decide +kernel)
theorem b_M_line : x_ce y_M_line c_M_line 8 (none : Option FieldType) 3 := ⟨k_M_line, i_M, by decide +kernel⟩
theorem s_M_line : Cond.instanceMethod y_M_line ∈ lw_tbl := List.mem_of_getElem? (i := 641) (by decide +kernel)
theorem v_M_line : Cond.selects "FingerSpansModel" y_M_line y_M_line ∈ lw_tbl := List.mem_of_getElem? (i := 45) (by decide +kernel)
theorem d_M_line_0 : decode c_M_line 0 = .ok (.iconst 0, 1) := by decide +kernel
theorem d_M_line_1 : decode c_M_line 1 = .ok (.istore 4, 2) := by decide +kernel
theorem d_M_line_3 : decode c_M_line 3 = .ok (.iload_n 1, 1) := by decide +kernel
theorem d_M_line_4 : decode c_M_line 4 = .ok (.istore 5, 2) := by decide +kernel
theorem d_M_line_6 : decode c_M_line 6 = .ok (.iload 5, 2) := by decide +kernel
theorem d_M_line_8 : decode c_M_line 8 = .ok (.iload_n 2, 1) := by decide +kernel
theorem d_M_line_9 : decode c_M_line 9 = .ok (.if_icmp .ge 18, 3) := by decide +kernel
theorem d_M_line_12 : decode c_M_line 12 = .ok (.iinc 4 1, 3) := by decide +kernel
theorem d_M_line_15 : decode c_M_line 15 = .ok (.aload_n 0, 1) := by decide +kernel
theorem d_M_line_16 : decode c_M_line 16 = .ok (.iload 5, 2) := by decide +kernel
theorem d_M_line_18 : decode c_M_line 18 = .ok (.iload_n 3, 1) := by decide +kernel
theorem d_M_line_19 : decode c_M_line 19 = .ok (.invokevirtual 60, 3) := by decide +kernel
theorem d_M_line_22 : decode c_M_line 22 = .ok (.istore 5, 2) := by decide +kernel
theorem d_M_line_24 : decode c_M_line 24 = .ok (.goto (-18), 3) := by decide +kernel
theorem d_M_line_27 : decode c_M_line 27 = .ok (.iconst 0, 1) := by decide +kernel
theorem d_M_line_28 : decode c_M_line 28 = .ok (.istore 5, 2) := by decide +kernel
theorem d_M_line_30 : decode c_M_line 30 = .ok (.iload_n 1, 1) := by decide +kernel
theorem d_M_line_31 : decode c_M_line 31 = .ok (.istore 6, 2) := by decide +kernel
theorem d_M_line_33 : decode c_M_line 33 = .ok (.iload 6, 2) := by decide +kernel
theorem d_M_line_35 : decode c_M_line 35 = .ok (.iload_n 2, 1) := by decide +kernel
theorem d_M_line_36 : decode c_M_line 36 = .ok (.if_icmp .ge 57, 3) := by decide +kernel
theorem d_M_line_39 : decode c_M_line 39 = .ok (.aload_n 0, 1) := by decide +kernel
theorem d_M_line_40 : decode c_M_line 40 = .ok (.iload 6, 2) := by decide +kernel
theorem d_M_line_42 : decode c_M_line 42 = .ok (.iload_n 3, 1) := by decide +kernel
theorem d_M_line_43 : decode c_M_line 43 = .ok (.invokevirtual 60, 3) := by decide +kernel
theorem d_M_line_46 : decode c_M_line 46 = .ok (.istore 7, 2) := by decide +kernel
theorem d_M_line_48 : decode c_M_line 48 = .ok (.aload_n 0, 1) := by decide +kernel
theorem d_M_line_49 : decode c_M_line 49 = .ok (.iload 6, 2) := by decide +kernel
theorem d_M_line_51 : decode c_M_line 51 = .ok (.iload 7, 2) := by decide +kernel
theorem d_M_line_53 : decode c_M_line 53 = .ok (.iload_n 3, 1) := by decide +kernel
theorem d_M_line_54 : decode c_M_line 54 = .ok (.iload 4, 2) := by decide +kernel
theorem d_M_line_56 : decode c_M_line 56 = .ok (.iconst 1, 1) := by decide +kernel
theorem d_M_line_57 : decode c_M_line 57 = .ok (.if_icmp .ne 7, 3) := by decide +kernel
theorem d_M_line_60 : decode c_M_line 60 = .ok (.iconst 2, 1) := by decide +kernel
theorem d_M_line_61 : decode c_M_line 61 = .ok (.goto 19, 3) := by decide +kernel
theorem d_M_line_64 : decode c_M_line 64 = .ok (.iload 5, 2) := by decide +kernel
theorem d_M_line_66 : decode c_M_line 66 = .ok (.iload 4, 2) := by decide +kernel
theorem d_M_line_68 : decode c_M_line 68 = .ok (.iconst 1, 1) := by decide +kernel
theorem d_M_line_69 : decode c_M_line 69 = .ok (.iadd, 1) := by decide +kernel
theorem d_M_line_70 : decode c_M_line 70 = .ok (.iconst 2, 1) := by decide +kernel
theorem d_M_line_71 : decode c_M_line 71 = .ok (.idiv, 1) := by decide +kernel
theorem d_M_line_72 : decode c_M_line 72 = .ok (.if_icmp .ge 7, 3) := by decide +kernel
theorem d_M_line_75 : decode c_M_line 75 = .ok (.iconst 0, 1) := by decide +kernel
theorem d_M_line_76 : decode c_M_line 76 = .ok (.goto 4, 3) := by decide +kernel
theorem d_M_line_79 : decode c_M_line 79 = .ok (.iconst 1, 1) := by decide +kernel
theorem d_M_line_80 : decode c_M_line 80 = .ok (.invokevirtual 56, 3) := by decide +kernel
theorem d_M_line_83 : decode c_M_line 83 = .ok (.iinc 5 1, 3) := by decide +kernel
theorem d_M_line_86 : decode c_M_line 86 = .ok (.iload 7, 2) := by decide +kernel
theorem d_M_line_88 : decode c_M_line 88 = .ok (.istore 6, 2) := by decide +kernel
theorem d_M_line_90 : decode c_M_line 90 = .ok (.goto (-57), 3) := by decide +kernel
theorem d_M_line_93 : decode c_M_line 93 = .ok (.return_, 1) := by decide +kernel
abbrev c_M_front : ByteArray := prog_10_method_12_code
abbrev y_M_front : MethodName := ⟨"FingerSpansModel", "front", "(II)V"⟩
theorem k_M_front : Cond.code y_M_front c_M_front 10 (none : Option FieldType) ∈ lw_tbl := List.mem_of_getElem? (i := 584) (by decide +kernel)
theorem b_M_front : x_ce y_M_front c_M_front 10 (none : Option FieldType) 2 := ⟨k_M_front, i_M, by decide +kernel⟩
theorem s_M_front : Cond.instanceMethod y_M_front ∈ lw_tbl := List.mem_of_getElem? (i := 583) (by decide +kernel)
theorem v_M_front : Cond.selects "FingerSpansModel" y_M_front y_M_front ∈ lw_tbl := List.mem_of_getElem? (i := 35) (by decide +kernel)
theorem d_M_front_0 : decode c_M_front 0 = .ok (.iload_n 1, 1) := by decide +kernel
theorem d_M_front_1 : decode c_M_front 1 = .ok (.istore_n 3, 1) := by decide +kernel
theorem d_M_front_2 : decode c_M_front 2 = .ok (.iload_n 2, 1) := by decide +kernel
theorem d_M_front_3 : decode c_M_front 3 = .ok (.istore 4, 2) := by decide +kernel
theorem d_M_front_5 : decode c_M_front 5 = .ok (.iconst 1, 1) := by decide +kernel
theorem d_M_front_6 : decode c_M_front 6 = .ok (.istore 5, 2) := by decide +kernel
theorem d_M_front_8 : decode c_M_front 8 = .ok (.iload 5, 2) := by decide +kernel
theorem d_M_front_10 : decode c_M_front 10 = .ok (.ifCond .eq 181, 3) := by decide +kernel
theorem d_M_front_13 : decode c_M_front 13 = .ok (.aload_n 0, 1) := by decide +kernel
theorem d_M_front_14 : decode c_M_front 14 = .ok (.iload_n 3, 1) := by decide +kernel
theorem d_M_front_15 : decode c_M_front 15 = .ok (.iload 4, 2) := by decide +kernel
theorem d_M_front_17 : decode c_M_front 17 = .ok (.invokevirtual 60, 3) := by decide +kernel
theorem d_M_front_20 : decode c_M_front 20 = .ok (.istore 6, 2) := by decide +kernel
theorem d_M_front_22 : decode c_M_front 22 = .ok (.iconst 0, 1) := by decide +kernel
theorem d_M_front_23 : decode c_M_front 23 = .ok (.istore 5, 2) := by decide +kernel
theorem d_M_front_25 : decode c_M_front 25 = .ok (.iload 6, 2) := by decide +kernel
theorem d_M_front_27 : decode c_M_front 27 = .ok (.aload_n 0, 1) := by decide +kernel
theorem d_M_front_28 : decode c_M_front 28 = .ok (.getfield 37, 3) := by decide +kernel
theorem d_M_front_31 : decode c_M_front 31 = .ok (.if_icmp .ge 18, 3) := by decide +kernel
theorem d_M_front_34 : decode c_M_front 34 = .ok (.aload_n 0, 1) := by decide +kernel
theorem d_M_front_35 : decode c_M_front 35 = .ok (.getfield 34, 3) := by decide +kernel
theorem d_M_front_38 : decode c_M_front 38 = .ok (.iload 6, 2) := by decide +kernel
theorem d_M_front_40 : decode c_M_front 40 = .ok (.laload, 1) := by decide +kernel
theorem d_M_front_41 : decode c_M_front 41 = .ok (.invokestatic 40, 3) := by decide +kernel
theorem d_M_front_44 : decode c_M_front 44 = .ok (.iload 4, 2) := by decide +kernel
theorem d_M_front_46 : decode c_M_front 46 = .ok (.if_icmp .ge 16, 3) := by decide +kernel
theorem d_M_front_49 : decode c_M_front 49 = .ok (.aload_n 0, 1) := by decide +kernel
theorem d_M_front_50 : decode c_M_front 50 = .ok (.iload_n 3, 1) := by decide +kernel
theorem d_M_front_51 : decode c_M_front 51 = .ok (.iload 6, 2) := by decide +kernel
theorem d_M_front_53 : decode c_M_front 53 = .ok (.iload 4, 2) := by decide +kernel
theorem d_M_front_55 : decode c_M_front 55 = .ok (.iconst 2, 1) := by decide +kernel
theorem d_M_front_56 : decode c_M_front 56 = .ok (.invokevirtual 56, 3) := by decide +kernel
theorem d_M_front_59 : decode c_M_front 59 = .ok (.goto 129, 3) := by decide +kernel
theorem d_M_front_62 : decode c_M_front 62 = .ok (.aload_n 0, 1) := by decide +kernel
theorem d_M_front_63 : decode c_M_front 63 = .ok (.getfield 34, 3) := by decide +kernel
theorem d_M_front_66 : decode c_M_front 66 = .ok (.iload 6, 2) := by decide +kernel
theorem d_M_front_68 : decode c_M_front 68 = .ok (.laload, 1) := by decide +kernel
theorem d_M_front_69 : decode c_M_front 69 = .ok (.invokestatic 44, 3) := by decide +kernel
theorem d_M_front_72 : decode c_M_front 72 = .ok (.iconst 2, 1) := by decide +kernel
theorem d_M_front_73 : decode c_M_front 73 = .ok (.if_icmp .ne 33, 3) := by decide +kernel
theorem d_M_front_76 : decode c_M_front 76 = .ok (.aload_n 0, 1) := by decide +kernel
theorem d_M_front_77 : decode c_M_front 77 = .ok (.iload_n 3, 1) := by decide +kernel
theorem d_M_front_78 : decode c_M_front 78 = .ok (.iload 6, 2) := by decide +kernel
theorem d_M_front_80 : decode c_M_front 80 = .ok (.iload 4, 2) := by decide +kernel
theorem d_M_front_82 : decode c_M_front 82 = .ok (.iconst 0, 1) := by decide +kernel
theorem d_M_front_83 : decode c_M_front 83 = .ok (.invokevirtual 56, 3) := by decide +kernel
theorem d_M_front_86 : decode c_M_front 86 = .ok (.aload_n 0, 1) := by decide +kernel
theorem d_M_front_87 : decode c_M_front 87 = .ok (.iload 6, 2) := by decide +kernel
theorem d_M_front_89 : decode c_M_front 89 = .ok (.aload_n 0, 1) := by decide +kernel
theorem d_M_front_90 : decode c_M_front 90 = .ok (.iload 6, 2) := by decide +kernel
theorem d_M_front_92 : decode c_M_front 92 = .ok (.iload 4, 2) := by decide +kernel
theorem d_M_front_94 : decode c_M_front 94 = .ok (.invokevirtual 60, 3) := by decide +kernel
theorem d_M_front_97 : decode c_M_front 97 = .ok (.iload 4, 2) := by decide +kernel
theorem d_M_front_99 : decode c_M_front 99 = .ok (.iconst 1, 1) := by decide +kernel
theorem d_M_front_100 : decode c_M_front 100 = .ok (.invokevirtual 56, 3) := by decide +kernel
theorem d_M_front_103 : decode c_M_front 103 = .ok (.goto 85, 3) := by decide +kernel
theorem d_M_front_106 : decode c_M_front 106 = .ok (.aload_n 0, 1) := by decide +kernel
theorem d_M_front_107 : decode c_M_front 107 = .ok (.iload_n 3, 1) := by decide +kernel
theorem d_M_front_108 : decode c_M_front 108 = .ok (.iload 6, 2) := by decide +kernel
theorem d_M_front_110 : decode c_M_front 110 = .ok (.iload 4, 2) := by decide +kernel
theorem d_M_front_112 : decode c_M_front 112 = .ok (.iconst 0, 1) := by decide +kernel
theorem d_M_front_113 : decode c_M_front 113 = .ok (.invokevirtual 56, 3) := by decide +kernel
theorem d_M_front_116 : decode c_M_front 116 = .ok (.aload_n 0, 1) := by decide +kernel
theorem d_M_front_117 : decode c_M_front 117 = .ok (.iload 6, 2) := by decide +kernel
theorem d_M_front_119 : decode c_M_front 119 = .ok (.iload 4, 2) := by decide +kernel
theorem d_M_front_121 : decode c_M_front 121 = .ok (.invokevirtual 60, 3) := by decide +kernel
theorem d_M_front_124 : decode c_M_front 124 = .ok (.istore 7, 2) := by decide +kernel
theorem d_M_front_126 : decode c_M_front 126 = .ok (.iload 7, 2) := by decide +kernel
theorem d_M_front_128 : decode c_M_front 128 = .ok (.istore 8, 2) := by decide +kernel
theorem d_M_front_130 : decode c_M_front 130 = .ok (.iconst 1, 1) := by decide +kernel
theorem d_M_front_131 : decode c_M_front 131 = .ok (.istore 9, 2) := by decide +kernel
theorem d_M_front_133 : decode c_M_front 133 = .ok (.aload_n 0, 1) := by decide +kernel
theorem d_M_front_134 : decode c_M_front 134 = .ok (.iload 8, 2) := by decide +kernel
theorem d_M_front_136 : decode c_M_front 136 = .ok (.iload 4, 2) := by decide +kernel
theorem d_M_front_138 : decode c_M_front 138 = .ok (.iconst 0, 1) := by decide +kernel
theorem d_M_front_139 : decode c_M_front 139 = .ok (.invokevirtual 64, 3) := by decide +kernel
theorem d_M_front_142 : decode c_M_front 142 = .ok (.ifCond .eq 19, 3) := by decide +kernel
theorem d_M_front_145 : decode c_M_front 145 = .ok (.aload_n 0, 1) := by decide +kernel
theorem d_M_front_146 : decode c_M_front 146 = .ok (.iload 8, 2) := by decide +kernel
theorem d_M_front_148 : decode c_M_front 148 = .ok (.iload 4, 2) := by decide +kernel
theorem d_M_front_150 : decode c_M_front 150 = .ok (.invokevirtual 60, 3) := by decide +kernel
theorem d_M_front_153 : decode c_M_front 153 = .ok (.istore 8, 2) := by decide +kernel
theorem d_M_front_155 : decode c_M_front 155 = .ok (.iinc 9 1, 3) := by decide +kernel
theorem d_M_front_158 : decode c_M_front 158 = .ok (.goto (-25), 3) := by decide +kernel
theorem d_M_front_161 : decode c_M_front 161 = .ok (.iload 9, 2) := by decide +kernel
theorem d_M_front_163 : decode c_M_front 163 = .ok (.iconst 4, 1) := by decide +kernel
theorem d_M_front_164 : decode c_M_front 164 = .ok (.if_icmp .ne 24, 3) := by decide +kernel
theorem d_M_front_167 : decode c_M_front 167 = .ok (.aload_n 0, 1) := by decide +kernel
theorem d_M_front_168 : decode c_M_front 168 = .ok (.iload 7, 2) := by decide +kernel
theorem d_M_front_170 : decode c_M_front 170 = .ok (.iload 8, 2) := by decide +kernel
theorem d_M_front_172 : decode c_M_front 172 = .ok (.iload 4, 2) := by decide +kernel
theorem d_M_front_174 : decode c_M_front 174 = .ok (.iconst 1, 1) := by decide +kernel
theorem d_M_front_175 : decode c_M_front 175 = .ok (.iadd, 1) := by decide +kernel
theorem d_M_front_176 : decode c_M_front 176 = .ok (.invokevirtual 68, 3) := by decide +kernel
theorem d_M_front_179 : decode c_M_front 179 = .ok (.iload 7, 2) := by decide +kernel
theorem d_M_front_181 : decode c_M_front 181 = .ok (.istore_n 3, 1) := by decide +kernel
theorem d_M_front_182 : decode c_M_front 182 = .ok (.iinc 4 1, 3) := by decide +kernel
theorem d_M_front_185 : decode c_M_front 185 = .ok (.iconst 1, 1) := by decide +kernel
theorem d_M_front_186 : decode c_M_front 186 = .ok (.istore 5, 2) := by decide +kernel
theorem d_M_front_188 : decode c_M_front 188 = .ok (.goto (-180), 3) := by decide +kernel
theorem d_M_front_191 : decode c_M_front 191 = .ok (.return_, 1) := by decide +kernel
abbrev c_M_back : ByteArray := prog_10_method_13_code
abbrev y_M_back : MethodName := ⟨"FingerSpansModel", "back", "(II)V"⟩
theorem k_M_back : Cond.code y_M_back c_M_back 10 (none : Option FieldType) ∈ lw_tbl := List.mem_of_getElem? (i := 622) (by decide +kernel)
theorem b_M_back : x_ce y_M_back c_M_back 10 (none : Option FieldType) 2 := ⟨k_M_back, i_M, by decide +kernel⟩
theorem s_M_back : Cond.instanceMethod y_M_back ∈ lw_tbl := List.mem_of_getElem? (i := 621) (by decide +kernel)
theorem v_M_back : Cond.selects "FingerSpansModel" y_M_back y_M_back ∈ lw_tbl := List.mem_of_getElem? (i := 41) (by decide +kernel)
theorem d_M_back_0 : decode c_M_back 0 = .ok (.iload_n 1, 1) := by decide +kernel
theorem d_M_back_1 : decode c_M_back 1 = .ok (.istore_n 3, 1) := by decide +kernel
theorem d_M_back_2 : decode c_M_back 2 = .ok (.iload_n 2, 1) := by decide +kernel
theorem d_M_back_3 : decode c_M_back 3 = .ok (.istore 4, 2) := by decide +kernel
theorem d_M_back_5 : decode c_M_back 5 = .ok (.iconst 1, 1) := by decide +kernel
theorem d_M_back_6 : decode c_M_back 6 = .ok (.istore 5, 2) := by decide +kernel
theorem d_M_back_8 : decode c_M_back 8 = .ok (.iload 5, 2) := by decide +kernel
theorem d_M_back_10 : decode c_M_back 10 = .ok (.ifCond .eq 183, 3) := by decide +kernel
theorem d_M_back_13 : decode c_M_back 13 = .ok (.aload_n 0, 1) := by decide +kernel
theorem d_M_back_14 : decode c_M_back 14 = .ok (.iload_n 3, 1) := by decide +kernel
theorem d_M_back_15 : decode c_M_back 15 = .ok (.iload 4, 2) := by decide +kernel
theorem d_M_back_17 : decode c_M_back 17 = .ok (.invokevirtual 72, 3) := by decide +kernel
theorem d_M_back_20 : decode c_M_back 20 = .ok (.istore 6, 2) := by decide +kernel
theorem d_M_back_22 : decode c_M_back 22 = .ok (.iconst 0, 1) := by decide +kernel
theorem d_M_back_23 : decode c_M_back 23 = .ok (.istore 5, 2) := by decide +kernel
theorem d_M_back_25 : decode c_M_back 25 = .ok (.iload 6, 2) := by decide +kernel
theorem d_M_back_27 : decode c_M_back 27 = .ok (.ifCond .le 20, 3) := by decide +kernel
theorem d_M_back_30 : decode c_M_back 30 = .ok (.aload_n 0, 1) := by decide +kernel
theorem d_M_back_31 : decode c_M_back 31 = .ok (.getfield 34, 3) := by decide +kernel
theorem d_M_back_34 : decode c_M_back 34 = .ok (.iload 6, 2) := by decide +kernel
theorem d_M_back_36 : decode c_M_back 36 = .ok (.iconst 1, 1) := by decide +kernel
theorem d_M_back_37 : decode c_M_back 37 = .ok (.isub, 1) := by decide +kernel
theorem d_M_back_38 : decode c_M_back 38 = .ok (.laload, 1) := by decide +kernel
theorem d_M_back_39 : decode c_M_back 39 = .ok (.invokestatic 40, 3) := by decide +kernel
theorem d_M_back_42 : decode c_M_back 42 = .ok (.iload 4, 2) := by decide +kernel
theorem d_M_back_44 : decode c_M_back 44 = .ok (.if_icmp .ge 16, 3) := by decide +kernel
theorem d_M_back_47 : decode c_M_back 47 = .ok (.aload_n 0, 1) := by decide +kernel
theorem d_M_back_48 : decode c_M_back 48 = .ok (.iload 6, 2) := by decide +kernel
theorem d_M_back_50 : decode c_M_back 50 = .ok (.iload_n 3, 1) := by decide +kernel
theorem d_M_back_51 : decode c_M_back 51 = .ok (.iload 4, 2) := by decide +kernel
theorem d_M_back_53 : decode c_M_back 53 = .ok (.iconst 2, 1) := by decide +kernel
theorem d_M_back_54 : decode c_M_back 54 = .ok (.invokevirtual 56, 3) := by decide +kernel
theorem d_M_back_57 : decode c_M_back 57 = .ok (.goto 133, 3) := by decide +kernel
theorem d_M_back_60 : decode c_M_back 60 = .ok (.aload_n 0, 1) := by decide +kernel
theorem d_M_back_61 : decode c_M_back 61 = .ok (.getfield 34, 3) := by decide +kernel
theorem d_M_back_64 : decode c_M_back 64 = .ok (.iload 6, 2) := by decide +kernel
theorem d_M_back_66 : decode c_M_back 66 = .ok (.iconst 1, 1) := by decide +kernel
theorem d_M_back_67 : decode c_M_back 67 = .ok (.isub, 1) := by decide +kernel
theorem d_M_back_68 : decode c_M_back 68 = .ok (.laload, 1) := by decide +kernel
theorem d_M_back_69 : decode c_M_back 69 = .ok (.invokestatic 44, 3) := by decide +kernel
theorem d_M_back_72 : decode c_M_back 72 = .ok (.iconst 2, 1) := by decide +kernel
theorem d_M_back_73 : decode c_M_back 73 = .ok (.if_icmp .ne 33, 3) := by decide +kernel
theorem d_M_back_76 : decode c_M_back 76 = .ok (.aload_n 0, 1) := by decide +kernel
theorem d_M_back_77 : decode c_M_back 77 = .ok (.aload_n 0, 1) := by decide +kernel
theorem d_M_back_78 : decode c_M_back 78 = .ok (.iload 6, 2) := by decide +kernel
theorem d_M_back_80 : decode c_M_back 80 = .ok (.iload 4, 2) := by decide +kernel
theorem d_M_back_82 : decode c_M_back 82 = .ok (.invokevirtual 72, 3) := by decide +kernel
theorem d_M_back_85 : decode c_M_back 85 = .ok (.iload 6, 2) := by decide +kernel
theorem d_M_back_87 : decode c_M_back 87 = .ok (.iload 4, 2) := by decide +kernel
theorem d_M_back_89 : decode c_M_back 89 = .ok (.iconst 0, 1) := by decide +kernel
theorem d_M_back_90 : decode c_M_back 90 = .ok (.invokevirtual 56, 3) := by decide +kernel
theorem d_M_back_93 : decode c_M_back 93 = .ok (.aload_n 0, 1) := by decide +kernel
theorem d_M_back_94 : decode c_M_back 94 = .ok (.iload 6, 2) := by decide +kernel
theorem d_M_back_96 : decode c_M_back 96 = .ok (.iload_n 3, 1) := by decide +kernel
theorem d_M_back_97 : decode c_M_back 97 = .ok (.iload 4, 2) := by decide +kernel
theorem d_M_back_99 : decode c_M_back 99 = .ok (.iconst 1, 1) := by decide +kernel
theorem d_M_back_100 : decode c_M_back 100 = .ok (.invokevirtual 56, 3) := by decide +kernel
theorem d_M_back_103 : decode c_M_back 103 = .ok (.goto 87, 3) := by decide +kernel
theorem d_M_back_106 : decode c_M_back 106 = .ok (.aload_n 0, 1) := by decide +kernel
theorem d_M_back_107 : decode c_M_back 107 = .ok (.iload 6, 2) := by decide +kernel
theorem d_M_back_109 : decode c_M_back 109 = .ok (.iload_n 3, 1) := by decide +kernel
theorem d_M_back_110 : decode c_M_back 110 = .ok (.iload 4, 2) := by decide +kernel
theorem d_M_back_112 : decode c_M_back 112 = .ok (.iconst 1, 1) := by decide +kernel
theorem d_M_back_113 : decode c_M_back 113 = .ok (.invokevirtual 56, 3) := by decide +kernel
theorem d_M_back_116 : decode c_M_back 116 = .ok (.aload_n 0, 1) := by decide +kernel
theorem d_M_back_117 : decode c_M_back 117 = .ok (.iload 6, 2) := by decide +kernel
theorem d_M_back_119 : decode c_M_back 119 = .ok (.iload 4, 2) := by decide +kernel
theorem d_M_back_121 : decode c_M_back 121 = .ok (.invokevirtual 72, 3) := by decide +kernel
theorem d_M_back_124 : decode c_M_back 124 = .ok (.istore 7, 2) := by decide +kernel
theorem d_M_back_126 : decode c_M_back 126 = .ok (.iload 7, 2) := by decide +kernel
theorem d_M_back_128 : decode c_M_back 128 = .ok (.istore 8, 2) := by decide +kernel
theorem d_M_back_130 : decode c_M_back 130 = .ok (.iconst 1, 1) := by decide +kernel
theorem d_M_back_131 : decode c_M_back 131 = .ok (.istore 9, 2) := by decide +kernel
theorem d_M_back_133 : decode c_M_back 133 = .ok (.aload_n 0, 1) := by decide +kernel
theorem d_M_back_134 : decode c_M_back 134 = .ok (.iload 8, 2) := by decide +kernel
theorem d_M_back_136 : decode c_M_back 136 = .ok (.iconst 1, 1) := by decide +kernel
theorem d_M_back_137 : decode c_M_back 137 = .ok (.isub, 1) := by decide +kernel
theorem d_M_back_138 : decode c_M_back 138 = .ok (.iload 4, 2) := by decide +kernel
theorem d_M_back_140 : decode c_M_back 140 = .ok (.iconst 1, 1) := by decide +kernel
theorem d_M_back_141 : decode c_M_back 141 = .ok (.invokevirtual 64, 3) := by decide +kernel
theorem d_M_back_144 : decode c_M_back 144 = .ok (.ifCond .eq 19, 3) := by decide +kernel
theorem d_M_back_147 : decode c_M_back 147 = .ok (.aload_n 0, 1) := by decide +kernel
theorem d_M_back_148 : decode c_M_back 148 = .ok (.iload 8, 2) := by decide +kernel
theorem d_M_back_150 : decode c_M_back 150 = .ok (.iload 4, 2) := by decide +kernel
theorem d_M_back_152 : decode c_M_back 152 = .ok (.invokevirtual 72, 3) := by decide +kernel
theorem d_M_back_155 : decode c_M_back 155 = .ok (.istore 8, 2) := by decide +kernel
theorem d_M_back_157 : decode c_M_back 157 = .ok (.iinc 9 1, 3) := by decide +kernel
theorem d_M_back_160 : decode c_M_back 160 = .ok (.goto (-27), 3) := by decide +kernel
theorem d_M_back_163 : decode c_M_back 163 = .ok (.iload 9, 2) := by decide +kernel
theorem d_M_back_165 : decode c_M_back 165 = .ok (.iconst 4, 1) := by decide +kernel
theorem d_M_back_166 : decode c_M_back 166 = .ok (.if_icmp .ne 24, 3) := by decide +kernel
theorem d_M_back_169 : decode c_M_back 169 = .ok (.aload_n 0, 1) := by decide +kernel
theorem d_M_back_170 : decode c_M_back 170 = .ok (.iload 8, 2) := by decide +kernel
theorem d_M_back_172 : decode c_M_back 172 = .ok (.iload 7, 2) := by decide +kernel
theorem d_M_back_174 : decode c_M_back 174 = .ok (.iload 4, 2) := by decide +kernel
theorem d_M_back_176 : decode c_M_back 176 = .ok (.iconst 1, 1) := by decide +kernel
theorem d_M_back_177 : decode c_M_back 177 = .ok (.iadd, 1) := by decide +kernel
theorem d_M_back_178 : decode c_M_back 178 = .ok (.invokevirtual 68, 3) := by decide +kernel
theorem d_M_back_181 : decode c_M_back 181 = .ok (.iload 7, 2) := by decide +kernel
theorem d_M_back_183 : decode c_M_back 183 = .ok (.istore_n 3, 1) := by decide +kernel
theorem d_M_back_184 : decode c_M_back 184 = .ok (.iinc 4 1, 3) := by decide +kernel
theorem d_M_back_187 : decode c_M_back 187 = .ok (.iconst 1, 1) := by decide +kernel
theorem d_M_back_188 : decode c_M_back 188 = .ok (.istore 5, 2) := by decide +kernel
theorem d_M_back_190 : decode c_M_back 190 = .ok (.goto (-182), 3) := by decide +kernel
theorem d_M_back_193 : decode c_M_back 193 = .ok (.return_, 1) := by decide +kernel
abbrev c_M_closeLeft : ByteArray := prog_10_method_14_code
abbrev y_M_closeLeft : MethodName := ⟨"FingerSpansModel", "closeLeft", "(II)V"⟩
theorem k_M_closeLeft : Cond.code y_M_closeLeft c_M_closeLeft 7 (none : Option FieldType) ∈ lw_tbl := List.mem_of_getElem? (i := 638) (by decide +kernel)
theorem b_M_closeLeft : x_ce y_M_closeLeft c_M_closeLeft 7 (none : Option FieldType) 2 := ⟨k_M_closeLeft, i_M, by decide +kernel⟩
theorem s_M_closeLeft : Cond.instanceMethod y_M_closeLeft ∈ lw_tbl := List.mem_of_getElem? (i := 637) (by decide +kernel)
theorem v_M_closeLeft : Cond.selects "FingerSpansModel" y_M_closeLeft y_M_closeLeft ∈ lw_tbl := List.mem_of_getElem? (i := 44) (by decide +kernel)
theorem d_M_closeLeft_0 : decode c_M_closeLeft 0 = .ok (.iload_n 1, 1) := by decide +kernel
theorem d_M_closeLeft_1 : decode c_M_closeLeft 1 = .ok (.istore_n 3, 1) := by decide +kernel
theorem d_M_closeLeft_2 : decode c_M_closeLeft 2 = .ok (.iload_n 2, 1) := by decide +kernel
theorem d_M_closeLeft_3 : decode c_M_closeLeft 3 = .ok (.istore 4, 2) := by decide +kernel
theorem d_M_closeLeft_5 : decode c_M_closeLeft 5 = .ok (.aload_n 0, 1) := by decide +kernel
theorem d_M_closeLeft_6 : decode c_M_closeLeft 6 = .ok (.iload_n 3, 1) := by decide +kernel
theorem d_M_closeLeft_7 : decode c_M_closeLeft 7 = .ok (.iload 4, 2) := by decide +kernel
theorem d_M_closeLeft_9 : decode c_M_closeLeft 9 = .ok (.iconst 0, 1) := by decide +kernel
theorem d_M_closeLeft_10 : decode c_M_closeLeft 10 = .ok (.invokevirtual 64, 3) := by decide +kernel
theorem d_M_closeLeft_13 : decode c_M_closeLeft 13 = .ok (.ifCond .ne 112, 3) := by decide +kernel
theorem d_M_closeLeft_16 : decode c_M_closeLeft 16 = .ok (.iload_n 3, 1) := by decide +kernel
theorem d_M_closeLeft_17 : decode c_M_closeLeft 17 = .ok (.aload_n 0, 1) := by decide +kernel
theorem d_M_closeLeft_18 : decode c_M_closeLeft 18 = .ok (.getfield 37, 3) := by decide +kernel
theorem d_M_closeLeft_21 : decode c_M_closeLeft 21 = .ok (.if_icmp .ge 17, 3) := by decide +kernel
theorem d_M_closeLeft_24 : decode c_M_closeLeft 24 = .ok (.aload_n 0, 1) := by decide +kernel
theorem d_M_closeLeft_25 : decode c_M_closeLeft 25 = .ok (.getfield 34, 3) := by decide +kernel
theorem d_M_closeLeft_28 : decode c_M_closeLeft 28 = .ok (.iload_n 3, 1) := by decide +kernel
theorem d_M_closeLeft_29 : decode c_M_closeLeft 29 = .ok (.laload, 1) := by decide +kernel
theorem d_M_closeLeft_30 : decode c_M_closeLeft 30 = .ok (.invokestatic 40, 3) := by decide +kernel
theorem d_M_closeLeft_33 : decode c_M_closeLeft 33 = .ok (.iload 4, 2) := by decide +kernel
theorem d_M_closeLeft_35 : decode c_M_closeLeft 35 = .ok (.if_icmp .gt 34, 3) := by decide +kernel
theorem d_M_closeLeft_38 : decode c_M_closeLeft 38 = .ok (.iload_n 3, 1) := by decide +kernel
theorem d_M_closeLeft_39 : decode c_M_closeLeft 39 = .ok (.istore 5, 2) := by decide +kernel
theorem d_M_closeLeft_41 : decode c_M_closeLeft 41 = .ok (.aload_n 0, 1) := by decide +kernel
theorem d_M_closeLeft_42 : decode c_M_closeLeft 42 = .ok (.iload 5, 2) := by decide +kernel
theorem d_M_closeLeft_44 : decode c_M_closeLeft 44 = .ok (.iload 4, 2) := by decide +kernel
theorem d_M_closeLeft_46 : decode c_M_closeLeft 46 = .ok (.iconst 1, 1) := by decide +kernel
theorem d_M_closeLeft_47 : decode c_M_closeLeft 47 = .ok (.invokevirtual 64, 3) := by decide +kernel
theorem d_M_closeLeft_50 : decode c_M_closeLeft 50 = .ok (.ifCond .eq 9, 3) := by decide +kernel
theorem d_M_closeLeft_53 : decode c_M_closeLeft 53 = .ok (.iinc 5 1, 3) := by decide +kernel
theorem d_M_closeLeft_56 : decode c_M_closeLeft 56 = .ok (.goto (-15), 3) := by decide +kernel
theorem d_M_closeLeft_59 : decode c_M_closeLeft 59 = .ok (.aload_n 0, 1) := by decide +kernel
theorem d_M_closeLeft_60 : decode c_M_closeLeft 60 = .ok (.iload_n 3, 1) := by decide +kernel
theorem d_M_closeLeft_61 : decode c_M_closeLeft 61 = .ok (.iload 5, 2) := by decide +kernel
theorem d_M_closeLeft_63 : decode c_M_closeLeft 63 = .ok (.iload 4, 2) := by decide +kernel
theorem d_M_closeLeft_65 : decode c_M_closeLeft 65 = .ok (.invokevirtual 75, 3) := by decide +kernel
theorem d_M_closeLeft_68 : decode c_M_closeLeft 68 = .ok (.return_, 1) := by decide +kernel
theorem d_M_closeLeft_69 : decode c_M_closeLeft 69 = .ok (.aload_n 0, 1) := by decide +kernel
theorem d_M_closeLeft_70 : decode c_M_closeLeft 70 = .ok (.getfield 34, 3) := by decide +kernel
theorem d_M_closeLeft_73 : decode c_M_closeLeft 73 = .ok (.iload_n 3, 1) := by decide +kernel
theorem d_M_closeLeft_74 : decode c_M_closeLeft 74 = .ok (.laload, 1) := by decide +kernel
theorem d_M_closeLeft_75 : decode c_M_closeLeft 75 = .ok (.invokestatic 44, 3) := by decide +kernel
theorem d_M_closeLeft_78 : decode c_M_closeLeft 78 = .ok (.iconst 2, 1) := by decide +kernel
theorem d_M_closeLeft_79 : decode c_M_closeLeft 79 = .ok (.if_icmp .ne 7, 3) := by decide +kernel
theorem d_M_closeLeft_82 : decode c_M_closeLeft 82 = .ok (.iconst 1, 1) := by decide +kernel
theorem d_M_closeLeft_83 : decode c_M_closeLeft 83 = .ok (.goto 4, 3) := by decide +kernel
theorem d_M_closeLeft_86 : decode c_M_closeLeft 86 = .ok (.iconst 0, 1) := by decide +kernel
theorem d_M_closeLeft_87 : decode c_M_closeLeft 87 = .ok (.istore 5, 2) := by decide +kernel
theorem d_M_closeLeft_89 : decode c_M_closeLeft 89 = .ok (.aload_n 0, 1) := by decide +kernel
theorem d_M_closeLeft_90 : decode c_M_closeLeft 90 = .ok (.iload_n 3, 1) := by decide +kernel
theorem d_M_closeLeft_91 : decode c_M_closeLeft 91 = .ok (.iload 4, 2) := by decide +kernel
theorem d_M_closeLeft_93 : decode c_M_closeLeft 93 = .ok (.iconst 1, 1) := by decide +kernel
theorem d_M_closeLeft_94 : decode c_M_closeLeft 94 = .ok (.iadd, 1) := by decide +kernel
theorem d_M_closeLeft_95 : decode c_M_closeLeft 95 = .ok (.invokevirtual 60, 3) := by decide +kernel
theorem d_M_closeLeft_98 : decode c_M_closeLeft 98 = .ok (.istore 6, 2) := by decide +kernel
theorem d_M_closeLeft_100 : decode c_M_closeLeft 100 = .ok (.aload_n 0, 1) := by decide +kernel
theorem d_M_closeLeft_101 : decode c_M_closeLeft 101 = .ok (.iload_n 3, 1) := by decide +kernel
theorem d_M_closeLeft_102 : decode c_M_closeLeft 102 = .ok (.iload 6, 2) := by decide +kernel
theorem d_M_closeLeft_104 : decode c_M_closeLeft 104 = .ok (.iload 4, 2) := by decide +kernel
theorem d_M_closeLeft_106 : decode c_M_closeLeft 106 = .ok (.iconst 0, 1) := by decide +kernel
theorem d_M_closeLeft_107 : decode c_M_closeLeft 107 = .ok (.invokevirtual 56, 3) := by decide +kernel
theorem d_M_closeLeft_110 : decode c_M_closeLeft 110 = .ok (.iload 5, 2) := by decide +kernel
theorem d_M_closeLeft_112 : decode c_M_closeLeft 112 = .ok (.ifCond .eq 4, 3) := by decide +kernel
theorem d_M_closeLeft_115 : decode c_M_closeLeft 115 = .ok (.return_, 1) := by decide +kernel
theorem d_M_closeLeft_116 : decode c_M_closeLeft 116 = .ok (.iload 6, 2) := by decide +kernel
theorem d_M_closeLeft_118 : decode c_M_closeLeft 118 = .ok (.istore_n 3, 1) := by decide +kernel
theorem d_M_closeLeft_119 : decode c_M_closeLeft 119 = .ok (.iinc 4 1, 3) := by decide +kernel
theorem d_M_closeLeft_122 : decode c_M_closeLeft 122 = .ok (.goto (-117), 3) := by decide +kernel
theorem d_M_closeLeft_125 : decode c_M_closeLeft 125 = .ok (.return_, 1) := by decide +kernel
abbrev c_M_closeRight : ByteArray := prog_10_method_15_code
abbrev y_M_closeRight : MethodName := ⟨"FingerSpansModel", "closeRight", "(II)V"⟩
theorem k_M_closeRight : Cond.code y_M_closeRight c_M_closeRight 7 (none : Option FieldType) ∈ lw_tbl := List.mem_of_getElem? (i := 650) (by decide +kernel)
theorem b_M_closeRight : x_ce y_M_closeRight c_M_closeRight 7 (none : Option FieldType) 2 := ⟨k_M_closeRight, i_M, by decide +kernel⟩
theorem s_M_closeRight : Cond.instanceMethod y_M_closeRight ∈ lw_tbl := List.mem_of_getElem? (i := 649) (by decide +kernel)
theorem v_M_closeRight : Cond.selects "FingerSpansModel" y_M_closeRight y_M_closeRight ∈ lw_tbl := List.mem_of_getElem? (i := 46) (by decide +kernel)
theorem d_M_closeRight_0 : decode c_M_closeRight 0 = .ok (.iload_n 1, 1) := by decide +kernel
theorem d_M_closeRight_1 : decode c_M_closeRight 1 = .ok (.istore_n 3, 1) := by decide +kernel
theorem d_M_closeRight_2 : decode c_M_closeRight 2 = .ok (.iload_n 2, 1) := by decide +kernel
theorem d_M_closeRight_3 : decode c_M_closeRight 3 = .ok (.istore 4, 2) := by decide +kernel
theorem d_M_closeRight_5 : decode c_M_closeRight 5 = .ok (.aload_n 0, 1) := by decide +kernel
theorem d_M_closeRight_6 : decode c_M_closeRight 6 = .ok (.iload_n 3, 1) := by decide +kernel
theorem d_M_closeRight_7 : decode c_M_closeRight 7 = .ok (.iconst 1, 1) := by decide +kernel
theorem d_M_closeRight_8 : decode c_M_closeRight 8 = .ok (.isub, 1) := by decide +kernel
theorem d_M_closeRight_9 : decode c_M_closeRight 9 = .ok (.iload 4, 2) := by decide +kernel
theorem d_M_closeRight_11 : decode c_M_closeRight 11 = .ok (.iconst 1, 1) := by decide +kernel
theorem d_M_closeRight_12 : decode c_M_closeRight 12 = .ok (.invokevirtual 64, 3) := by decide +kernel
theorem d_M_closeRight_15 : decode c_M_closeRight 15 = .ok (.ifCond .ne 114, 3) := by decide +kernel
theorem d_M_closeRight_18 : decode c_M_closeRight 18 = .ok (.iload_n 3, 1) := by decide +kernel
theorem d_M_closeRight_19 : decode c_M_closeRight 19 = .ok (.ifCond .le 19, 3) := by decide +kernel
theorem d_M_closeRight_22 : decode c_M_closeRight 22 = .ok (.aload_n 0, 1) := by decide +kernel
theorem d_M_closeRight_23 : decode c_M_closeRight 23 = .ok (.getfield 34, 3) := by decide +kernel
theorem d_M_closeRight_26 : decode c_M_closeRight 26 = .ok (.iload_n 3, 1) := by decide +kernel
theorem d_M_closeRight_27 : decode c_M_closeRight 27 = .ok (.iconst 1, 1) := by decide +kernel
theorem d_M_closeRight_28 : decode c_M_closeRight 28 = .ok (.isub, 1) := by decide +kernel
theorem d_M_closeRight_29 : decode c_M_closeRight 29 = .ok (.laload, 1) := by decide +kernel
theorem d_M_closeRight_30 : decode c_M_closeRight 30 = .ok (.invokestatic 40, 3) := by decide +kernel
theorem d_M_closeRight_33 : decode c_M_closeRight 33 = .ok (.iload 4, 2) := by decide +kernel
theorem d_M_closeRight_35 : decode c_M_closeRight 35 = .ok (.if_icmp .gt 36, 3) := by decide +kernel
theorem d_M_closeRight_38 : decode c_M_closeRight 38 = .ok (.iload_n 3, 1) := by decide +kernel
theorem d_M_closeRight_39 : decode c_M_closeRight 39 = .ok (.istore 5, 2) := by decide +kernel
theorem d_M_closeRight_41 : decode c_M_closeRight 41 = .ok (.aload_n 0, 1) := by decide +kernel
theorem d_M_closeRight_42 : decode c_M_closeRight 42 = .ok (.iload 5, 2) := by decide +kernel
theorem d_M_closeRight_44 : decode c_M_closeRight 44 = .ok (.iconst 1, 1) := by decide +kernel
theorem d_M_closeRight_45 : decode c_M_closeRight 45 = .ok (.isub, 1) := by decide +kernel
theorem d_M_closeRight_46 : decode c_M_closeRight 46 = .ok (.iload 4, 2) := by decide +kernel
theorem d_M_closeRight_48 : decode c_M_closeRight 48 = .ok (.iconst 0, 1) := by decide +kernel
theorem d_M_closeRight_49 : decode c_M_closeRight 49 = .ok (.invokevirtual 64, 3) := by decide +kernel
theorem d_M_closeRight_52 : decode c_M_closeRight 52 = .ok (.ifCond .eq 9, 3) := by decide +kernel
theorem d_M_closeRight_55 : decode c_M_closeRight 55 = .ok (.iinc 5 (-1), 3) := by decide +kernel
theorem d_M_closeRight_58 : decode c_M_closeRight 58 = .ok (.goto (-17), 3) := by decide +kernel
theorem d_M_closeRight_61 : decode c_M_closeRight 61 = .ok (.aload_n 0, 1) := by decide +kernel
theorem d_M_closeRight_62 : decode c_M_closeRight 62 = .ok (.iload 5, 2) := by decide +kernel
theorem d_M_closeRight_64 : decode c_M_closeRight 64 = .ok (.iload_n 3, 1) := by decide +kernel
theorem d_M_closeRight_65 : decode c_M_closeRight 65 = .ok (.iload 4, 2) := by decide +kernel
theorem d_M_closeRight_67 : decode c_M_closeRight 67 = .ok (.invokevirtual 75, 3) := by decide +kernel
theorem d_M_closeRight_70 : decode c_M_closeRight 70 = .ok (.return_, 1) := by decide +kernel
theorem d_M_closeRight_71 : decode c_M_closeRight 71 = .ok (.aload_n 0, 1) := by decide +kernel
theorem d_M_closeRight_72 : decode c_M_closeRight 72 = .ok (.getfield 34, 3) := by decide +kernel
theorem d_M_closeRight_75 : decode c_M_closeRight 75 = .ok (.iload_n 3, 1) := by decide +kernel
theorem d_M_closeRight_76 : decode c_M_closeRight 76 = .ok (.iconst 1, 1) := by decide +kernel
theorem d_M_closeRight_77 : decode c_M_closeRight 77 = .ok (.isub, 1) := by decide +kernel
theorem d_M_closeRight_78 : decode c_M_closeRight 78 = .ok (.laload, 1) := by decide +kernel
theorem d_M_closeRight_79 : decode c_M_closeRight 79 = .ok (.invokestatic 44, 3) := by decide +kernel
theorem d_M_closeRight_82 : decode c_M_closeRight 82 = .ok (.iconst 2, 1) := by decide +kernel
theorem d_M_closeRight_83 : decode c_M_closeRight 83 = .ok (.if_icmp .ne 7, 3) := by decide +kernel
theorem d_M_closeRight_86 : decode c_M_closeRight 86 = .ok (.iconst 1, 1) := by decide +kernel
theorem d_M_closeRight_87 : decode c_M_closeRight 87 = .ok (.goto 4, 3) := by decide +kernel
theorem d_M_closeRight_90 : decode c_M_closeRight 90 = .ok (.iconst 0, 1) := by decide +kernel
theorem d_M_closeRight_91 : decode c_M_closeRight 91 = .ok (.istore 5, 2) := by decide +kernel
theorem d_M_closeRight_93 : decode c_M_closeRight 93 = .ok (.aload_n 0, 1) := by decide +kernel
theorem d_M_closeRight_94 : decode c_M_closeRight 94 = .ok (.iload_n 3, 1) := by decide +kernel
theorem d_M_closeRight_95 : decode c_M_closeRight 95 = .ok (.iload 4, 2) := by decide +kernel
theorem d_M_closeRight_97 : decode c_M_closeRight 97 = .ok (.iconst 1, 1) := by decide +kernel
theorem d_M_closeRight_98 : decode c_M_closeRight 98 = .ok (.iadd, 1) := by decide +kernel
theorem d_M_closeRight_99 : decode c_M_closeRight 99 = .ok (.invokevirtual 72, 3) := by decide +kernel
theorem d_M_closeRight_102 : decode c_M_closeRight 102 = .ok (.istore 6, 2) := by decide +kernel
theorem d_M_closeRight_104 : decode c_M_closeRight 104 = .ok (.aload_n 0, 1) := by decide +kernel
theorem d_M_closeRight_105 : decode c_M_closeRight 105 = .ok (.iload 6, 2) := by decide +kernel
theorem d_M_closeRight_107 : decode c_M_closeRight 107 = .ok (.iload_n 3, 1) := by decide +kernel
theorem d_M_closeRight_108 : decode c_M_closeRight 108 = .ok (.iload 4, 2) := by decide +kernel
theorem d_M_closeRight_110 : decode c_M_closeRight 110 = .ok (.iconst 1, 1) := by decide +kernel
theorem d_M_closeRight_111 : decode c_M_closeRight 111 = .ok (.invokevirtual 56, 3) := by decide +kernel
theorem d_M_closeRight_114 : decode c_M_closeRight 114 = .ok (.iload 5, 2) := by decide +kernel
theorem d_M_closeRight_116 : decode c_M_closeRight 116 = .ok (.ifCond .eq 4, 3) := by decide +kernel
theorem d_M_closeRight_119 : decode c_M_closeRight 119 = .ok (.return_, 1) := by decide +kernel
theorem d_M_closeRight_120 : decode c_M_closeRight 120 = .ok (.iload 6, 2) := by decide +kernel
theorem d_M_closeRight_122 : decode c_M_closeRight 122 = .ok (.istore_n 3, 1) := by decide +kernel
theorem d_M_closeRight_123 : decode c_M_closeRight 123 = .ok (.iinc 4 1, 3) := by decide +kernel
theorem d_M_closeRight_126 : decode c_M_closeRight 126 = .ok (.goto (-121), 3) := by decide +kernel
theorem d_M_closeRight_129 : decode c_M_closeRight 129 = .ok (.return_, 1) := by decide +kernel
abbrev c_M_cut : ByteArray := prog_10_method_16_code
abbrev y_M_cut : MethodName := ⟨"FingerSpansModel", "cut", "(I)V"⟩
theorem k_M_cut : Cond.code y_M_cut c_M_cut 9 (none : Option FieldType) ∈ lw_tbl := List.mem_of_getElem? (i := 686) (by decide +kernel)
theorem b_M_cut : x_ce y_M_cut c_M_cut 9 (none : Option FieldType) 1 := ⟨k_M_cut, i_M, by decide +kernel⟩
theorem s_M_cut : Cond.instanceMethod y_M_cut ∈ lw_tbl := List.mem_of_getElem? (i := 685) (by decide +kernel)
theorem v_M_cut : Cond.selects "FingerSpansModel" y_M_cut y_M_cut ∈ lw_tbl := List.mem_of_getElem? (i := 53) (by decide +kernel)
theorem d_M_cut_0 : decode c_M_cut 0 = .ok (.aload_n 0, 1) := by decide +kernel
theorem d_M_cut_1 : decode c_M_cut 1 = .ok (.getfield 34, 3) := by decide +kernel
theorem d_M_cut_4 : decode c_M_cut 4 = .ok (.iload_n 1, 1) := by decide +kernel
theorem d_M_cut_5 : decode c_M_cut 5 = .ok (.laload, 1) := by decide +kernel
theorem d_M_cut_6 : decode c_M_cut 6 = .ok (.invokestatic 40, 3) := by decide +kernel
theorem d_M_cut_9 : decode c_M_cut 9 = .ok (.istore_n 2, 1) := by decide +kernel
theorem d_M_cut_10 : decode c_M_cut 10 = .ok (.aload_n 0, 1) := by decide +kernel
theorem d_M_cut_11 : decode c_M_cut 11 = .ok (.getfield 34, 3) := by decide +kernel
theorem d_M_cut_14 : decode c_M_cut 14 = .ok (.iload_n 1, 1) := by decide +kernel
theorem d_M_cut_15 : decode c_M_cut 15 = .ok (.laload, 1) := by decide +kernel
theorem d_M_cut_16 : decode c_M_cut 16 = .ok (.invokestatic 44, 3) := by decide +kernel
theorem d_M_cut_19 : decode c_M_cut 19 = .ok (.istore_n 3, 1) := by decide +kernel
theorem d_M_cut_20 : decode c_M_cut 20 = .ok (.iload_n 1, 1) := by decide +kernel
theorem d_M_cut_21 : decode c_M_cut 21 = .ok (.istore 4, 2) := by decide +kernel
theorem d_M_cut_23 : decode c_M_cut 23 = .ok (.iload_n 3, 1) := by decide +kernel
theorem d_M_cut_24 : decode c_M_cut 24 = .ok (.iconst 2, 1) := by decide +kernel
theorem d_M_cut_25 : decode c_M_cut 25 = .ok (.if_icmp .ge 22, 3) := by decide +kernel
theorem d_M_cut_28 : decode c_M_cut 28 = .ok (.aload_n 0, 1) := by decide +kernel
theorem d_M_cut_29 : decode c_M_cut 29 = .ok (.iload 4, 2) := by decide +kernel
theorem d_M_cut_31 : decode c_M_cut 31 = .ok (.iconst 1, 1) := by decide +kernel
theorem d_M_cut_32 : decode c_M_cut 32 = .ok (.isub, 1) := by decide +kernel
theorem d_M_cut_33 : decode c_M_cut 33 = .ok (.iload_n 2, 1) := by decide +kernel
theorem d_M_cut_34 : decode c_M_cut 34 = .ok (.iload_n 3, 1) := by decide +kernel
theorem d_M_cut_35 : decode c_M_cut 35 = .ok (.invokevirtual 64, 3) := by decide +kernel
theorem d_M_cut_38 : decode c_M_cut 38 = .ok (.ifCond .eq 9, 3) := by decide +kernel
theorem d_M_cut_41 : decode c_M_cut 41 = .ok (.iinc 4 (-1), 3) := by decide +kernel
theorem d_M_cut_44 : decode c_M_cut 44 = .ok (.goto (-21), 3) := by decide +kernel
theorem d_M_cut_47 : decode c_M_cut 47 = .ok (.iload 4, 2) := by decide +kernel
theorem d_M_cut_49 : decode c_M_cut 49 = .ok (.istore 5, 2) := by decide +kernel
theorem d_M_cut_51 : decode c_M_cut 51 = .ok (.iload_n 3, 1) := by decide +kernel
theorem d_M_cut_52 : decode c_M_cut 52 = .ok (.iconst 2, 1) := by decide +kernel
theorem d_M_cut_53 : decode c_M_cut 53 = .ok (.if_icmp .ne 22, 3) := by decide +kernel
theorem d_M_cut_56 : decode c_M_cut 56 = .ok (.aload_n 0, 1) := by decide +kernel
theorem d_M_cut_57 : decode c_M_cut 57 = .ok (.iload 5, 2) := by decide +kernel
theorem d_M_cut_59 : decode c_M_cut 59 = .ok (.iconst 1, 1) := by decide +kernel
theorem d_M_cut_60 : decode c_M_cut 60 = .ok (.isub, 1) := by decide +kernel
theorem d_M_cut_61 : decode c_M_cut 61 = .ok (.iload_n 2, 1) := by decide +kernel
theorem d_M_cut_62 : decode c_M_cut 62 = .ok (.iconst 2, 1) := by decide +kernel
theorem d_M_cut_63 : decode c_M_cut 63 = .ok (.invokevirtual 64, 3) := by decide +kernel
theorem d_M_cut_66 : decode c_M_cut 66 = .ok (.ifCond .eq 9, 3) := by decide +kernel
theorem d_M_cut_69 : decode c_M_cut 69 = .ok (.iinc 5 (-1), 3) := by decide +kernel
theorem d_M_cut_72 : decode c_M_cut 72 = .ok (.goto (-16), 3) := by decide +kernel
theorem d_M_cut_75 : decode c_M_cut 75 = .ok (.aload_n 0, 1) := by decide +kernel
theorem d_M_cut_76 : decode c_M_cut 76 = .ok (.iload 5, 2) := by decide +kernel
theorem d_M_cut_78 : decode c_M_cut 78 = .ok (.iload_n 2, 1) := by decide +kernel
theorem d_M_cut_79 : decode c_M_cut 79 = .ok (.invokevirtual 60, 3) := by decide +kernel
theorem d_M_cut_82 : decode c_M_cut 82 = .ok (.iload_n 1, 1) := by decide +kernel
theorem d_M_cut_83 : decode c_M_cut 83 = .ok (.if_icmp .gt 15, 3) := by decide +kernel
theorem d_M_cut_86 : decode c_M_cut 86 = .ok (.aload_n 0, 1) := by decide +kernel
theorem d_M_cut_87 : decode c_M_cut 87 = .ok (.iload 5, 2) := by decide +kernel
theorem d_M_cut_89 : decode c_M_cut 89 = .ok (.iload_n 2, 1) := by decide +kernel
theorem d_M_cut_90 : decode c_M_cut 90 = .ok (.invokevirtual 60, 3) := by decide +kernel
theorem d_M_cut_93 : decode c_M_cut 93 = .ok (.istore 5, 2) := by decide +kernel
theorem d_M_cut_95 : decode c_M_cut 95 = .ok (.goto (-20), 3) := by decide +kernel
theorem d_M_cut_98 : decode c_M_cut 98 = .ok (.aload_n 0, 1) := by decide +kernel
theorem d_M_cut_99 : decode c_M_cut 99 = .ok (.iload 5, 2) := by decide +kernel
theorem d_M_cut_101 : decode c_M_cut 101 = .ok (.iload_n 2, 1) := by decide +kernel
theorem d_M_cut_102 : decode c_M_cut 102 = .ok (.invokevirtual 60, 3) := by decide +kernel
theorem d_M_cut_105 : decode c_M_cut 105 = .ok (.istore 6, 2) := by decide +kernel
theorem d_M_cut_107 : decode c_M_cut 107 = .ok (.iload_n 3, 1) := by decide +kernel
theorem d_M_cut_108 : decode c_M_cut 108 = .ok (.ifCond .ne 19, 3) := by decide +kernel
theorem d_M_cut_111 : decode c_M_cut 111 = .ok (.aload_n 0, 1) := by decide +kernel
theorem d_M_cut_112 : decode c_M_cut 112 = .ok (.iload 4, 2) := by decide +kernel
theorem d_M_cut_114 : decode c_M_cut 114 = .ok (.iload 5, 2) := by decide +kernel
theorem d_M_cut_116 : decode c_M_cut 116 = .ok (.iload_n 2, 1) := by decide +kernel
theorem d_M_cut_117 : decode c_M_cut 117 = .ok (.invokevirtual 75, 3) := by decide +kernel
theorem d_M_cut_120 : decode c_M_cut 120 = .ok (.aload_n 0, 1) := by decide +kernel
theorem d_M_cut_121 : decode c_M_cut 121 = .ok (.iload 6, 2) := by decide +kernel
theorem d_M_cut_123 : decode c_M_cut 123 = .ok (.iload_n 2, 1) := by decide +kernel
theorem d_M_cut_124 : decode c_M_cut 124 = .ok (.invokevirtual 78, 3) := by decide +kernel
theorem d_M_cut_127 : decode c_M_cut 127 = .ok (.iload_n 3, 1) := by decide +kernel
theorem d_M_cut_128 : decode c_M_cut 128 = .ok (.iconst 1, 1) := by decide +kernel
theorem d_M_cut_129 : decode c_M_cut 129 = .ok (.if_icmp .ne 40, 3) := by decide +kernel
theorem d_M_cut_132 : decode c_M_cut 132 = .ok (.aload_n 0, 1) := by decide +kernel
theorem d_M_cut_133 : decode c_M_cut 133 = .ok (.iload 5, 2) := by decide +kernel
theorem d_M_cut_135 : decode c_M_cut 135 = .ok (.iload_n 2, 1) := by decide +kernel
theorem d_M_cut_136 : decode c_M_cut 136 = .ok (.invokevirtual 82, 3) := by decide +kernel
theorem d_M_cut_139 : decode c_M_cut 139 = .ok (.iload 6, 2) := by decide +kernel
theorem d_M_cut_141 : decode c_M_cut 141 = .ok (.istore 7, 2) := by decide +kernel
theorem d_M_cut_143 : decode c_M_cut 143 = .ok (.aload_n 0, 1) := by decide +kernel
theorem d_M_cut_144 : decode c_M_cut 144 = .ok (.iload 7, 2) := by decide +kernel
theorem d_M_cut_146 : decode c_M_cut 146 = .ok (.iload_n 2, 1) := by decide +kernel
theorem d_M_cut_147 : decode c_M_cut 147 = .ok (.iconst 1, 1) := by decide +kernel
theorem d_M_cut_148 : decode c_M_cut 148 = .ok (.invokevirtual 64, 3) := by decide +kernel
theorem d_M_cut_151 : decode c_M_cut 151 = .ok (.ifCond .eq 9, 3) := by decide +kernel
theorem d_M_cut_154 : decode c_M_cut 154 = .ok (.iinc 7 1, 3) := by decide +kernel
theorem d_M_cut_157 : decode c_M_cut 157 = .ok (.goto (-14), 3) := by decide +kernel
theorem d_M_cut_160 : decode c_M_cut 160 = .ok (.aload_n 0, 1) := by decide +kernel
theorem d_M_cut_161 : decode c_M_cut 161 = .ok (.iload 6, 2) := by decide +kernel
theorem d_M_cut_163 : decode c_M_cut 163 = .ok (.iload 7, 2) := by decide +kernel
theorem d_M_cut_165 : decode c_M_cut 165 = .ok (.iload_n 2, 1) := by decide +kernel
theorem d_M_cut_166 : decode c_M_cut 166 = .ok (.invokevirtual 75, 3) := by decide +kernel
theorem d_M_cut_169 : decode c_M_cut 169 = .ok (.iload_n 2, 1) := by decide +kernel
theorem d_M_cut_170 : decode c_M_cut 170 = .ok (.ifCond .le 87, 3) := by decide +kernel
theorem d_M_cut_173 : decode c_M_cut 173 = .ok (.iinc 2 (-1), 3) := by decide +kernel
theorem d_M_cut_176 : decode c_M_cut 176 = .ok (.iload 5, 2) := by decide +kernel
theorem d_M_cut_178 : decode c_M_cut 178 = .ok (.istore 7, 2) := by decide +kernel
theorem d_M_cut_180 : decode c_M_cut 180 = .ok (.aload_n 0, 1) := by decide +kernel
theorem d_M_cut_181 : decode c_M_cut 181 = .ok (.iload 7, 2) := by decide +kernel
theorem d_M_cut_183 : decode c_M_cut 183 = .ok (.iload_n 2, 1) := by decide +kernel
theorem d_M_cut_184 : decode c_M_cut 184 = .ok (.invokevirtual 60, 3) := by decide +kernel
theorem d_M_cut_187 : decode c_M_cut 187 = .ok (.iload_n 1, 1) := by decide +kernel
theorem d_M_cut_188 : decode c_M_cut 188 = .ok (.if_icmp .gt 15, 3) := by decide +kernel
theorem d_M_cut_191 : decode c_M_cut 191 = .ok (.aload_n 0, 1) := by decide +kernel
theorem d_M_cut_192 : decode c_M_cut 192 = .ok (.iload 7, 2) := by decide +kernel
theorem d_M_cut_194 : decode c_M_cut 194 = .ok (.iload_n 2, 1) := by decide +kernel
theorem d_M_cut_195 : decode c_M_cut 195 = .ok (.invokevirtual 60, 3) := by decide +kernel
theorem d_M_cut_198 : decode c_M_cut 198 = .ok (.istore 7, 2) := by decide +kernel
theorem d_M_cut_200 : decode c_M_cut 200 = .ok (.goto (-20), 3) := by decide +kernel
theorem d_M_cut_203 : decode c_M_cut 203 = .ok (.aload_n 0, 1) := by decide +kernel
theorem d_M_cut_204 : decode c_M_cut 204 = .ok (.iload 7, 2) := by decide +kernel
theorem d_M_cut_206 : decode c_M_cut 206 = .ok (.iload_n 2, 1) := by decide +kernel
theorem d_M_cut_207 : decode c_M_cut 207 = .ok (.invokevirtual 60, 3) := by decide +kernel
theorem d_M_cut_210 : decode c_M_cut 210 = .ok (.istore 8, 2) := by decide +kernel
theorem d_M_cut_212 : decode c_M_cut 212 = .ok (.aload_n 0, 1) := by decide +kernel
theorem d_M_cut_213 : decode c_M_cut 213 = .ok (.iload 5, 2) := by decide +kernel
theorem d_M_cut_215 : decode c_M_cut 215 = .ok (.iload 7, 2) := by decide +kernel
theorem d_M_cut_217 : decode c_M_cut 217 = .ok (.iload_n 2, 1) := by decide +kernel
theorem d_M_cut_218 : decode c_M_cut 218 = .ok (.iconst 1, 1) := by decide +kernel
theorem d_M_cut_219 : decode c_M_cut 219 = .ok (.invokevirtual 56, 3) := by decide +kernel
theorem d_M_cut_222 : decode c_M_cut 222 = .ok (.aload_n 0, 1) := by decide +kernel
theorem d_M_cut_223 : decode c_M_cut 223 = .ok (.iload 8, 2) := by decide +kernel
theorem d_M_cut_225 : decode c_M_cut 225 = .ok (.iload 6, 2) := by decide +kernel
theorem d_M_cut_227 : decode c_M_cut 227 = .ok (.iload_n 2, 1) := by decide +kernel
theorem d_M_cut_228 : decode c_M_cut 228 = .ok (.iconst 0, 1) := by decide +kernel
theorem d_M_cut_229 : decode c_M_cut 229 = .ok (.invokevirtual 56, 3) := by decide +kernel
theorem d_M_cut_232 : decode c_M_cut 232 = .ok (.aload_n 0, 1) := by decide +kernel
theorem d_M_cut_233 : decode c_M_cut 233 = .ok (.iload 7, 2) := by decide +kernel
theorem d_M_cut_235 : decode c_M_cut 235 = .ok (.iload_n 2, 1) := by decide +kernel
theorem d_M_cut_236 : decode c_M_cut 236 = .ok (.invokevirtual 82, 3) := by decide +kernel
theorem d_M_cut_239 : decode c_M_cut 239 = .ok (.aload_n 0, 1) := by decide +kernel
theorem d_M_cut_240 : decode c_M_cut 240 = .ok (.iload 8, 2) := by decide +kernel
theorem d_M_cut_242 : decode c_M_cut 242 = .ok (.iload_n 2, 1) := by decide +kernel
theorem d_M_cut_243 : decode c_M_cut 243 = .ok (.invokevirtual 78, 3) := by decide +kernel
theorem d_M_cut_246 : decode c_M_cut 246 = .ok (.iload 7, 2) := by decide +kernel
theorem d_M_cut_248 : decode c_M_cut 248 = .ok (.istore 5, 2) := by decide +kernel
theorem d_M_cut_250 : decode c_M_cut 250 = .ok (.iload 8, 2) := by decide +kernel
theorem d_M_cut_252 : decode c_M_cut 252 = .ok (.istore 6, 2) := by decide +kernel
theorem d_M_cut_254 : decode c_M_cut 254 = .ok (.goto (-85), 3) := by decide +kernel
theorem d_M_cut_257 : decode c_M_cut 257 = .ok (.aload_n 0, 1) := by decide +kernel
theorem d_M_cut_258 : decode c_M_cut 258 = .ok (.iload_n 1, 1) := by decide +kernel
theorem d_M_cut_259 : decode c_M_cut 259 = .ok (.iload_n 1, 1) := by decide +kernel
theorem d_M_cut_260 : decode c_M_cut 260 = .ok (.iconst 1, 1) := by decide +kernel
theorem d_M_cut_261 : decode c_M_cut 261 = .ok (.iadd, 1) := by decide +kernel
theorem d_M_cut_262 : decode c_M_cut 262 = .ok (.iconst 0, 1) := by decide +kernel
theorem d_M_cut_263 : decode c_M_cut 263 = .ok (.iconst 3, 1) := by decide +kernel
theorem d_M_cut_264 : decode c_M_cut 264 = .ok (.invokevirtual 56, 3) := by decide +kernel
theorem d_M_cut_267 : decode c_M_cut 267 = .ok (.return_, 1) := by decide +kernel
abbrev c_M_group : ByteArray := prog_10_method_17_code
abbrev y_M_group : MethodName := ⟨"FingerSpansModel", "group", "(III)V"⟩
theorem k_M_group : Cond.code y_M_group c_M_group 9 (none : Option FieldType) ∈ lw_tbl := List.mem_of_getElem? (i := 662) (by decide +kernel)
theorem b_M_group : x_ce y_M_group c_M_group 9 (none : Option FieldType) 3 := ⟨k_M_group, i_M, by decide +kernel⟩
theorem s_M_group : Cond.instanceMethod y_M_group ∈ lw_tbl := List.mem_of_getElem? (i := 661) (by decide +kernel)
theorem v_M_group : Cond.selects "FingerSpansModel" y_M_group y_M_group ∈ lw_tbl := List.mem_of_getElem? (i := 48) (by decide +kernel)
theorem d_M_group_0 : decode c_M_group 0 = .ok (.iconst 0, 1) := by decide +kernel
theorem d_M_group_1 : decode c_M_group 1 = .ok (.istore 4, 2) := by decide +kernel
theorem d_M_group_3 : decode c_M_group 3 = .ok (.iload_n 1, 1) := by decide +kernel
theorem d_M_group_4 : decode c_M_group 4 = .ok (.istore 5, 2) := by decide +kernel
theorem d_M_group_6 : decode c_M_group 6 = .ok (.iload 5, 2) := by decide +kernel
theorem d_M_group_8 : decode c_M_group 8 = .ok (.iload_n 2, 1) := by decide +kernel
theorem d_M_group_9 : decode c_M_group 9 = .ok (.if_icmp .ge 18, 3) := by decide +kernel
theorem d_M_group_12 : decode c_M_group 12 = .ok (.iinc 4 1, 3) := by decide +kernel
theorem d_M_group_15 : decode c_M_group 15 = .ok (.aload_n 0, 1) := by decide +kernel
theorem d_M_group_16 : decode c_M_group 16 = .ok (.iload 5, 2) := by decide +kernel
theorem d_M_group_18 : decode c_M_group 18 = .ok (.iload_n 3, 1) := by decide +kernel
theorem d_M_group_19 : decode c_M_group 19 = .ok (.invokevirtual 60, 3) := by decide +kernel
theorem d_M_group_22 : decode c_M_group 22 = .ok (.istore 5, 2) := by decide +kernel
theorem d_M_group_24 : decode c_M_group 24 = .ok (.goto (-18), 3) := by decide +kernel
theorem d_M_group_27 : decode c_M_group 27 = .ok (.iload_n 1, 1) := by decide +kernel
theorem d_M_group_28 : decode c_M_group 28 = .ok (.istore 5, 2) := by decide +kernel
theorem d_M_group_30 : decode c_M_group 30 = .ok (.iload 4, 2) := by decide +kernel
theorem d_M_group_32 : decode c_M_group 32 = .ok (.ifCond .le 76, 3) := by decide +kernel
theorem d_M_group_35 : decode c_M_group 35 = .ok (.iload 4, 2) := by decide +kernel
theorem d_M_group_37 : decode c_M_group 37 = .ok (.iconst 2, 1) := by decide +kernel
theorem d_M_group_38 : decode c_M_group 38 = .ok (.if_icmp .eq 9, 3) := by decide +kernel
theorem d_M_group_41 : decode c_M_group 41 = .ok (.iload 4, 2) := by decide +kernel
theorem d_M_group_43 : decode c_M_group 43 = .ok (.iconst 4, 1) := by decide +kernel
theorem d_M_group_44 : decode c_M_group 44 = .ok (.if_icmp .ne 7, 3) := by decide +kernel
theorem d_M_group_47 : decode c_M_group 47 = .ok (.iconst 2, 1) := by decide +kernel
theorem d_M_group_48 : decode c_M_group 48 = .ok (.goto 4, 3) := by decide +kernel
theorem d_M_group_51 : decode c_M_group 51 = .ok (.iconst 3, 1) := by decide +kernel
theorem d_M_group_52 : decode c_M_group 52 = .ok (.istore 6, 2) := by decide +kernel
theorem d_M_group_54 : decode c_M_group 54 = .ok (.iload 5, 2) := by decide +kernel
theorem d_M_group_56 : decode c_M_group 56 = .ok (.istore 7, 2) := by decide +kernel
theorem d_M_group_58 : decode c_M_group 58 = .ok (.iconst 0, 1) := by decide +kernel
theorem d_M_group_59 : decode c_M_group 59 = .ok (.istore 8, 2) := by decide +kernel
theorem d_M_group_61 : decode c_M_group 61 = .ok (.iload 8, 2) := by decide +kernel
theorem d_M_group_63 : decode c_M_group 63 = .ok (.iload 6, 2) := by decide +kernel
theorem d_M_group_65 : decode c_M_group 65 = .ok (.if_icmp .ge 18, 3) := by decide +kernel
theorem d_M_group_68 : decode c_M_group 68 = .ok (.aload_n 0, 1) := by decide +kernel
theorem d_M_group_69 : decode c_M_group 69 = .ok (.iload 7, 2) := by decide +kernel
theorem d_M_group_71 : decode c_M_group 71 = .ok (.iload_n 3, 1) := by decide +kernel
theorem d_M_group_72 : decode c_M_group 72 = .ok (.invokevirtual 60, 3) := by decide +kernel
theorem d_M_group_75 : decode c_M_group 75 = .ok (.istore 7, 2) := by decide +kernel
theorem d_M_group_77 : decode c_M_group 77 = .ok (.iinc 8 1, 3) := by decide +kernel
theorem d_M_group_80 : decode c_M_group 80 = .ok (.goto (-19), 3) := by decide +kernel
theorem d_M_group_83 : decode c_M_group 83 = .ok (.aload_n 0, 1) := by decide +kernel
theorem d_M_group_84 : decode c_M_group 84 = .ok (.iload 5, 2) := by decide +kernel
theorem d_M_group_86 : decode c_M_group 86 = .ok (.iload 7, 2) := by decide +kernel
theorem d_M_group_88 : decode c_M_group 88 = .ok (.iload_n 3, 1) := by decide +kernel
theorem d_M_group_89 : decode c_M_group 89 = .ok (.iconst 1, 1) := by decide +kernel
theorem d_M_group_90 : decode c_M_group 90 = .ok (.iadd, 1) := by decide +kernel
theorem d_M_group_91 : decode c_M_group 91 = .ok (.invokevirtual 68, 3) := by decide +kernel
theorem d_M_group_94 : decode c_M_group 94 = .ok (.iload 7, 2) := by decide +kernel
theorem d_M_group_96 : decode c_M_group 96 = .ok (.istore 5, 2) := by decide +kernel
theorem d_M_group_98 : decode c_M_group 98 = .ok (.iload 4, 2) := by decide +kernel
theorem d_M_group_100 : decode c_M_group 100 = .ok (.iload 6, 2) := by decide +kernel
theorem d_M_group_102 : decode c_M_group 102 = .ok (.isub, 1) := by decide +kernel
theorem d_M_group_103 : decode c_M_group 103 = .ok (.istore 4, 2) := by decide +kernel
theorem d_M_group_105 : decode c_M_group 105 = .ok (.goto (-75), 3) := by decide +kernel
theorem d_M_group_108 : decode c_M_group 108 = .ok (.return_, 1) := by decide +kernel
abbrev c_M_tree : ByteArray := prog_10_method_18_code
abbrev y_M_tree : MethodName := ⟨"FingerSpansModel", "tree", "(II)Z"⟩
theorem k_M_tree : Cond.code y_M_tree c_M_tree 3 (some FieldType.boolean) ∈ lw_tbl := List.mem_of_getElem? (i := 666) (by decide +kernel)
theorem b_M_tree : x_ce y_M_tree c_M_tree 3 (some FieldType.boolean) 2 := ⟨k_M_tree, i_M, by decide +kernel⟩
theorem s_M_tree : Cond.instanceMethod y_M_tree ∈ lw_tbl := List.mem_of_getElem? (i := 665) (by decide +kernel)
theorem v_M_tree : Cond.selects "FingerSpansModel" y_M_tree y_M_tree ∈ lw_tbl := List.mem_of_getElem? (i := 49) (by decide +kernel)
theorem d_M_tree_0 : decode c_M_tree 0 = .ok (.iload_n 1, 1) := by decide +kernel
theorem d_M_tree_1 : decode c_M_tree 1 = .ok (.ifCond .lt 28, 3) := by decide +kernel
theorem d_M_tree_4 : decode c_M_tree 4 = .ok (.iload_n 1, 1) := by decide +kernel
theorem d_M_tree_5 : decode c_M_tree 5 = .ok (.aload_n 0, 1) := by decide +kernel
theorem d_M_tree_6 : decode c_M_tree 6 = .ok (.getfield 37, 3) := by decide +kernel
theorem d_M_tree_9 : decode c_M_tree 9 = .ok (.if_icmp .ge 20, 3) := by decide +kernel
theorem d_M_tree_12 : decode c_M_tree 12 = .ok (.aload_n 0, 1) := by decide +kernel
theorem d_M_tree_13 : decode c_M_tree 13 = .ok (.getfield 34, 3) := by decide +kernel
theorem d_M_tree_16 : decode c_M_tree 16 = .ok (.iload_n 1, 1) := by decide +kernel
theorem d_M_tree_17 : decode c_M_tree 17 = .ok (.laload, 1) := by decide +kernel
theorem d_M_tree_18 : decode c_M_tree 18 = .ok (.invokestatic 40, 3) := by decide +kernel
theorem d_M_tree_21 : decode c_M_tree 21 = .ok (.iload_n 2, 1) := by decide +kernel
theorem d_M_tree_22 : decode c_M_tree 22 = .ok (.if_icmp .lt 7, 3) := by decide +kernel
theorem d_M_tree_25 : decode c_M_tree 25 = .ok (.iconst 1, 1) := by decide +kernel
theorem d_M_tree_26 : decode c_M_tree 26 = .ok (.goto 4, 3) := by decide +kernel
theorem d_M_tree_29 : decode c_M_tree 29 = .ok (.iconst 0, 1) := by decide +kernel
theorem d_M_tree_30 : decode c_M_tree 30 = .ok (.ireturn, 1) := by decide +kernel
abbrev c_M_join : ByteArray := prog_10_method_19_code
abbrev y_M_join : MethodName := ⟨"FingerSpansModel", "join", "(I)V"⟩
theorem k_M_join : Cond.code y_M_join c_M_join 7 (none : Option FieldType) ∈ lw_tbl := List.mem_of_getElem? (i := 658) (by decide +kernel)
theorem b_M_join : x_ce y_M_join c_M_join 7 (none : Option FieldType) 1 := ⟨k_M_join, i_M, by decide +kernel⟩
theorem s_M_join : Cond.instanceMethod y_M_join ∈ lw_tbl := List.mem_of_getElem? (i := 657) (by decide +kernel)
theorem v_M_join : Cond.selects "FingerSpansModel" y_M_join y_M_join ∈ lw_tbl := List.mem_of_getElem? (i := 47) (by decide +kernel)
theorem d_M_join_0 : decode c_M_join 0 = .ok (.iload_n 1, 1) := by decide +kernel
theorem d_M_join_1 : decode c_M_join 1 = .ok (.istore_n 2, 1) := by decide +kernel
theorem d_M_join_2 : decode c_M_join 2 = .ok (.iload_n 1, 1) := by decide +kernel
theorem d_M_join_3 : decode c_M_join 3 = .ok (.istore_n 3, 1) := by decide +kernel
theorem d_M_join_4 : decode c_M_join 4 = .ok (.iconst 0, 1) := by decide +kernel
theorem d_M_join_5 : decode c_M_join 5 = .ok (.istore 4, 2) := by decide +kernel
theorem d_M_join_7 : decode c_M_join 7 = .ok (.aload_n 0, 1) := by decide +kernel
theorem d_M_join_8 : decode c_M_join 8 = .ok (.iload_n 2, 1) := by decide +kernel
theorem d_M_join_9 : decode c_M_join 9 = .ok (.iconst 1, 1) := by decide +kernel
theorem d_M_join_10 : decode c_M_join 10 = .ok (.isub, 1) := by decide +kernel
theorem d_M_join_11 : decode c_M_join 11 = .ok (.iload 4, 2) := by decide +kernel
theorem d_M_join_13 : decode c_M_join 13 = .ok (.iconst 1, 1) := by decide +kernel
theorem d_M_join_14 : decode c_M_join 14 = .ok (.invokevirtual 64, 3) := by decide +kernel
theorem d_M_join_17 : decode c_M_join 17 = .ok (.ifCond .eq 80, 3) := by decide +kernel
theorem d_M_join_20 : decode c_M_join 20 = .ok (.aload_n 0, 1) := by decide +kernel
theorem d_M_join_21 : decode c_M_join 21 = .ok (.iload_n 3, 1) := by decide +kernel
theorem d_M_join_22 : decode c_M_join 22 = .ok (.iload 4, 2) := by decide +kernel
theorem d_M_join_24 : decode c_M_join 24 = .ok (.iconst 0, 1) := by decide +kernel
theorem d_M_join_25 : decode c_M_join 25 = .ok (.invokevirtual 64, 3) := by decide +kernel
theorem d_M_join_28 : decode c_M_join 28 = .ok (.ifCond .eq 69, 3) := by decide +kernel
theorem d_M_join_31 : decode c_M_join 31 = .ok (.iload_n 2, 1) := by decide +kernel
theorem d_M_join_32 : decode c_M_join 32 = .ok (.istore 5, 2) := by decide +kernel
theorem d_M_join_34 : decode c_M_join 34 = .ok (.aload_n 0, 1) := by decide +kernel
theorem d_M_join_35 : decode c_M_join 35 = .ok (.iload 5, 2) := by decide +kernel
theorem d_M_join_37 : decode c_M_join 37 = .ok (.iconst 1, 1) := by decide +kernel
theorem d_M_join_38 : decode c_M_join 38 = .ok (.isub, 1) := by decide +kernel
theorem d_M_join_39 : decode c_M_join 39 = .ok (.iload 4, 2) := by decide +kernel
theorem d_M_join_41 : decode c_M_join 41 = .ok (.iconst 1, 1) := by decide +kernel
theorem d_M_join_42 : decode c_M_join 42 = .ok (.invokevirtual 64, 3) := by decide +kernel
theorem d_M_join_45 : decode c_M_join 45 = .ok (.ifCond .eq 9, 3) := by decide +kernel
theorem d_M_join_48 : decode c_M_join 48 = .ok (.iinc 5 (-1), 3) := by decide +kernel
theorem d_M_join_51 : decode c_M_join 51 = .ok (.goto (-17), 3) := by decide +kernel
theorem d_M_join_54 : decode c_M_join 54 = .ok (.iload_n 3, 1) := by decide +kernel
theorem d_M_join_55 : decode c_M_join 55 = .ok (.istore 6, 2) := by decide +kernel
theorem d_M_join_57 : decode c_M_join 57 = .ok (.aload_n 0, 1) := by decide +kernel
theorem d_M_join_58 : decode c_M_join 58 = .ok (.iload 6, 2) := by decide +kernel
theorem d_M_join_60 : decode c_M_join 60 = .ok (.iload 4, 2) := by decide +kernel
theorem d_M_join_62 : decode c_M_join 62 = .ok (.iconst 0, 1) := by decide +kernel
theorem d_M_join_63 : decode c_M_join 63 = .ok (.invokevirtual 64, 3) := by decide +kernel
theorem d_M_join_66 : decode c_M_join 66 = .ok (.ifCond .eq 9, 3) := by decide +kernel
theorem d_M_join_69 : decode c_M_join 69 = .ok (.iinc 6 1, 3) := by decide +kernel
theorem d_M_join_72 : decode c_M_join 72 = .ok (.goto (-15), 3) := by decide +kernel
theorem d_M_join_75 : decode c_M_join 75 = .ok (.aload_n 0, 1) := by decide +kernel
theorem d_M_join_76 : decode c_M_join 76 = .ok (.iload 5, 2) := by decide +kernel
theorem d_M_join_78 : decode c_M_join 78 = .ok (.iload 6, 2) := by decide +kernel
theorem d_M_join_80 : decode c_M_join 80 = .ok (.iload 4, 2) := by decide +kernel
theorem d_M_join_82 : decode c_M_join 82 = .ok (.invokevirtual 85, 3) := by decide +kernel
theorem d_M_join_85 : decode c_M_join 85 = .ok (.iload 5, 2) := by decide +kernel
theorem d_M_join_87 : decode c_M_join 87 = .ok (.istore_n 2, 1) := by decide +kernel
theorem d_M_join_88 : decode c_M_join 88 = .ok (.iload 6, 2) := by decide +kernel
theorem d_M_join_90 : decode c_M_join 90 = .ok (.istore_n 3, 1) := by decide +kernel
theorem d_M_join_91 : decode c_M_join 91 = .ok (.iinc 4 1, 3) := by decide +kernel
theorem d_M_join_94 : decode c_M_join 94 = .ok (.goto (-87), 3) := by decide +kernel
theorem d_M_join_97 : decode c_M_join 97 = .ok (.aload_n 0, 1) := by decide +kernel
theorem d_M_join_98 : decode c_M_join 98 = .ok (.iload_n 2, 1) := by decide +kernel
theorem d_M_join_99 : decode c_M_join 99 = .ok (.iconst 1, 1) := by decide +kernel
theorem d_M_join_100 : decode c_M_join 100 = .ok (.isub, 1) := by decide +kernel
theorem d_M_join_101 : decode c_M_join 101 = .ok (.iload 4, 2) := by decide +kernel
theorem d_M_join_103 : decode c_M_join 103 = .ok (.invokevirtual 88, 3) := by decide +kernel
theorem d_M_join_106 : decode c_M_join 106 = .ok (.istore 5, 2) := by decide +kernel
theorem d_M_join_108 : decode c_M_join 108 = .ok (.iload 5, 2) := by decide +kernel
theorem d_M_join_110 : decode c_M_join 110 = .ok (.ifCond .eq 28, 3) := by decide +kernel
theorem d_M_join_113 : decode c_M_join 113 = .ok (.aload_n 0, 1) := by decide +kernel
theorem d_M_join_114 : decode c_M_join 114 = .ok (.iload_n 3, 1) := by decide +kernel
theorem d_M_join_115 : decode c_M_join 115 = .ok (.iload 4, 2) := by decide +kernel
theorem d_M_join_117 : decode c_M_join 117 = .ok (.invokevirtual 88, 3) := by decide +kernel
theorem d_M_join_120 : decode c_M_join 120 = .ok (.ifCond .eq 44, 3) := by decide +kernel
theorem d_M_join_123 : decode c_M_join 123 = .ok (.aload_n 0, 1) := by decide +kernel
theorem d_M_join_124 : decode c_M_join 124 = .ok (.getfield 34, 3) := by decide +kernel
theorem d_M_join_127 : decode c_M_join 127 = .ok (.iload_n 2, 1) := by decide +kernel
theorem d_M_join_128 : decode c_M_join 128 = .ok (.iconst 1, 1) := by decide +kernel
theorem d_M_join_129 : decode c_M_join 129 = .ok (.isub, 1) := by decide +kernel
theorem d_M_join_130 : decode c_M_join 130 = .ok (.laload, 1) := by decide +kernel
theorem d_M_join_131 : decode c_M_join 131 = .ok (.invokestatic 44, 3) := by decide +kernel
theorem d_M_join_134 : decode c_M_join 134 = .ok (.iconst 2, 1) := by decide +kernel
theorem d_M_join_135 : decode c_M_join 135 = .ok (.if_icmp .ne 29, 3) := by decide +kernel
theorem d_M_join_138 : decode c_M_join 138 = .ok (.aload_n 0, 1) := by decide +kernel
theorem d_M_join_139 : decode c_M_join 139 = .ok (.iload 5, 2) := by decide +kernel
theorem d_M_join_141 : decode c_M_join 141 = .ok (.ifCond .eq 13, 3) := by decide +kernel
theorem d_M_join_144 : decode c_M_join 144 = .ok (.aload_n 0, 1) := by decide +kernel
theorem d_M_join_145 : decode c_M_join 145 = .ok (.iload_n 2, 1) := by decide +kernel
theorem d_M_join_146 : decode c_M_join 146 = .ok (.iload 4, 2) := by decide +kernel
theorem d_M_join_148 : decode c_M_join 148 = .ok (.invokevirtual 72, 3) := by decide +kernel
theorem d_M_join_151 : decode c_M_join 151 = .ok (.goto 4, 3) := by decide +kernel
theorem d_M_join_154 : decode c_M_join 154 = .ok (.iload_n 2, 1) := by decide +kernel
theorem d_M_join_155 : decode c_M_join 155 = .ok (.iload_n 3, 1) := by decide +kernel
theorem d_M_join_156 : decode c_M_join 156 = .ok (.iload 4, 2) := by decide +kernel
theorem d_M_join_158 : decode c_M_join 158 = .ok (.invokevirtual 92, 3) := by decide +kernel
theorem d_M_join_161 : decode c_M_join 161 = .ok (.goto 31, 3) := by decide +kernel
theorem d_M_join_164 : decode c_M_join 164 = .ok (.aload_n 0, 1) := by decide +kernel
theorem d_M_join_165 : decode c_M_join 165 = .ok (.iload_n 2, 1) := by decide +kernel
theorem d_M_join_166 : decode c_M_join 166 = .ok (.aload_n 0, 1) := by decide +kernel
theorem d_M_join_167 : decode c_M_join 167 = .ok (.iload_n 3, 1) := by decide +kernel
theorem d_M_join_168 : decode c_M_join 168 = .ok (.iload 4, 2) := by decide +kernel
theorem d_M_join_170 : decode c_M_join 170 = .ok (.invokevirtual 88, 3) := by decide +kernel
theorem d_M_join_173 : decode c_M_join 173 = .ok (.ifCond .eq 13, 3) := by decide +kernel
theorem d_M_join_176 : decode c_M_join 176 = .ok (.aload_n 0, 1) := by decide +kernel
theorem d_M_join_177 : decode c_M_join 177 = .ok (.iload_n 3, 1) := by decide +kernel
theorem d_M_join_178 : decode c_M_join 178 = .ok (.iload 4, 2) := by decide +kernel
theorem d_M_join_180 : decode c_M_join 180 = .ok (.invokevirtual 60, 3) := by decide +kernel
theorem d_M_join_183 : decode c_M_join 183 = .ok (.goto 4, 3) := by decide +kernel
theorem d_M_join_186 : decode c_M_join 186 = .ok (.iload_n 3, 1) := by decide +kernel
theorem d_M_join_187 : decode c_M_join 187 = .ok (.iload 4, 2) := by decide +kernel
theorem d_M_join_189 : decode c_M_join 189 = .ok (.invokevirtual 95, 3) := by decide +kernel
theorem d_M_join_192 : decode c_M_join 192 = .ok (.return_, 1) := by decide +kernel
abbrev c_M_frontAll : ByteArray := prog_10_method_20_code
abbrev y_M_frontAll : MethodName := ⟨"FingerSpansModel", "frontAll", "(III)V"⟩
theorem k_M_frontAll : Cond.code y_M_frontAll c_M_frontAll 6 (none : Option FieldType) ∈ lw_tbl := List.mem_of_getElem? (i := 670) (by decide +kernel)
theorem b_M_frontAll : x_ce y_M_frontAll c_M_frontAll 6 (none : Option FieldType) 3 := ⟨k_M_frontAll, i_M, by decide +kernel⟩
theorem s_M_frontAll : Cond.instanceMethod y_M_frontAll ∈ lw_tbl := List.mem_of_getElem? (i := 669) (by decide +kernel)
theorem v_M_frontAll : Cond.selects "FingerSpansModel" y_M_frontAll y_M_frontAll ∈ lw_tbl := List.mem_of_getElem? (i := 50) (by decide +kernel)
theorem d_M_frontAll_0 : decode c_M_frontAll 0 = .ok (.iload_n 2, 1) := by decide +kernel
theorem d_M_frontAll_1 : decode c_M_frontAll 1 = .ok (.istore 4, 2) := by decide +kernel
theorem d_M_frontAll_3 : decode c_M_frontAll 3 = .ok (.iload 4, 2) := by decide +kernel
theorem d_M_frontAll_5 : decode c_M_frontAll 5 = .ok (.iload_n 1, 1) := by decide +kernel
theorem d_M_frontAll_6 : decode c_M_frontAll 6 = .ok (.if_icmp .le 26, 3) := by decide +kernel
theorem d_M_frontAll_9 : decode c_M_frontAll 9 = .ok (.aload_n 0, 1) := by decide +kernel
theorem d_M_frontAll_10 : decode c_M_frontAll 10 = .ok (.iload 4, 2) := by decide +kernel
theorem d_M_frontAll_12 : decode c_M_frontAll 12 = .ok (.iload_n 3, 1) := by decide +kernel
theorem d_M_frontAll_13 : decode c_M_frontAll 13 = .ok (.invokevirtual 72, 3) := by decide +kernel
theorem d_M_frontAll_16 : decode c_M_frontAll 16 = .ok (.istore 5, 2) := by decide +kernel
theorem d_M_frontAll_18 : decode c_M_frontAll 18 = .ok (.aload_n 0, 1) := by decide +kernel
theorem d_M_frontAll_19 : decode c_M_frontAll 19 = .ok (.iload 5, 2) := by decide +kernel
theorem d_M_frontAll_21 : decode c_M_frontAll 21 = .ok (.iload_n 3, 1) := by decide +kernel
theorem d_M_frontAll_22 : decode c_M_frontAll 22 = .ok (.invokevirtual 98, 3) := by decide +kernel
theorem d_M_frontAll_25 : decode c_M_frontAll 25 = .ok (.iload 5, 2) := by decide +kernel
theorem d_M_frontAll_27 : decode c_M_frontAll 27 = .ok (.istore 4, 2) := by decide +kernel
theorem d_M_frontAll_29 : decode c_M_frontAll 29 = .ok (.goto (-26), 3) := by decide +kernel
theorem d_M_frontAll_32 : decode c_M_frontAll 32 = .ok (.return_, 1) := by decide +kernel
abbrev c_M_backAll : ByteArray := prog_10_method_21_code
abbrev y_M_backAll : MethodName := ⟨"FingerSpansModel", "backAll", "(III)V"⟩
theorem k_M_backAll : Cond.code y_M_backAll c_M_backAll 6 (none : Option FieldType) ∈ lw_tbl := List.mem_of_getElem? (i := 674) (by decide +kernel)
theorem b_M_backAll : x_ce y_M_backAll c_M_backAll 6 (none : Option FieldType) 3 := ⟨k_M_backAll, i_M, by decide +kernel⟩
theorem s_M_backAll : Cond.instanceMethod y_M_backAll ∈ lw_tbl := List.mem_of_getElem? (i := 673) (by decide +kernel)
theorem v_M_backAll : Cond.selects "FingerSpansModel" y_M_backAll y_M_backAll ∈ lw_tbl := List.mem_of_getElem? (i := 51) (by decide +kernel)
theorem d_M_backAll_0 : decode c_M_backAll 0 = .ok (.iload_n 1, 1) := by decide +kernel
theorem d_M_backAll_1 : decode c_M_backAll 1 = .ok (.istore 4, 2) := by decide +kernel
theorem d_M_backAll_3 : decode c_M_backAll 3 = .ok (.iload 4, 2) := by decide +kernel
theorem d_M_backAll_5 : decode c_M_backAll 5 = .ok (.iload_n 2, 1) := by decide +kernel
theorem d_M_backAll_6 : decode c_M_backAll 6 = .ok (.if_icmp .ge 26, 3) := by decide +kernel
theorem d_M_backAll_9 : decode c_M_backAll 9 = .ok (.aload_n 0, 1) := by decide +kernel
theorem d_M_backAll_10 : decode c_M_backAll 10 = .ok (.iload 4, 2) := by decide +kernel
theorem d_M_backAll_12 : decode c_M_backAll 12 = .ok (.iload_n 3, 1) := by decide +kernel
theorem d_M_backAll_13 : decode c_M_backAll 13 = .ok (.invokevirtual 60, 3) := by decide +kernel
theorem d_M_backAll_16 : decode c_M_backAll 16 = .ok (.istore 5, 2) := by decide +kernel
theorem d_M_backAll_18 : decode c_M_backAll 18 = .ok (.aload_n 0, 1) := by decide +kernel
theorem d_M_backAll_19 : decode c_M_backAll 19 = .ok (.iload 5, 2) := by decide +kernel
theorem d_M_backAll_21 : decode c_M_backAll 21 = .ok (.iload_n 3, 1) := by decide +kernel
theorem d_M_backAll_22 : decode c_M_backAll 22 = .ok (.invokevirtual 101, 3) := by decide +kernel
theorem d_M_backAll_25 : decode c_M_backAll 25 = .ok (.iload 5, 2) := by decide +kernel
theorem d_M_backAll_27 : decode c_M_backAll 27 = .ok (.istore 4, 2) := by decide +kernel
theorem d_M_backAll_29 : decode c_M_backAll 29 = .ok (.goto (-26), 3) := by decide +kernel
theorem d_M_backAll_32 : decode c_M_backAll 32 = .ok (.return_, 1) := by decide +kernel
abbrev c_M_none : ByteArray := prog_10_method_22_code
abbrev y_M_none : MethodName := ⟨"FingerSpansModel", "none", "(I)Z"⟩
theorem k_M_none : Cond.code y_M_none c_M_none 2 (some FieldType.boolean) ∈ lw_tbl := List.mem_of_getElem? (i := 571) (by decide +kernel)
theorem b_M_none : x_ce y_M_none c_M_none 2 (some FieldType.boolean) 1 := ⟨k_M_none, i_M, by decide +kernel⟩
theorem s_M_none : Cond.instanceMethod y_M_none ∈ lw_tbl := List.mem_of_getElem? (i := 570) (by decide +kernel)
theorem v_M_none : Cond.selects "FingerSpansModel" y_M_none y_M_none ∈ lw_tbl := List.mem_of_getElem? (i := 32) (by decide +kernel)
theorem d_M_none_0 : decode c_M_none 0 = .ok (.iload_n 1, 1) := by decide +kernel
theorem d_M_none_1 : decode c_M_none 1 = .ok (.ifCond .lt 11, 3) := by decide +kernel
theorem d_M_none_4 : decode c_M_none 4 = .ok (.iload_n 1, 1) := by decide +kernel
theorem d_M_none_5 : decode c_M_none 5 = .ok (.aload_n 0, 1) := by decide +kernel
theorem d_M_none_6 : decode c_M_none 6 = .ok (.getfield 30, 3) := by decide +kernel
theorem d_M_none_9 : decode c_M_none 9 = .ok (.if_icmp .lt 7, 3) := by decide +kernel
theorem d_M_none_12 : decode c_M_none 12 = .ok (.iconst 1, 1) := by decide +kernel
theorem d_M_none_13 : decode c_M_none 13 = .ok (.goto 4, 3) := by decide +kernel
theorem d_M_none_16 : decode c_M_none 16 = .ok (.iconst 0, 1) := by decide +kernel
theorem d_M_none_17 : decode c_M_none 17 = .ok (.ireturn, 1) := by decide +kernel
abbrev c_M_load : ByteArray := prog_10_method_23_code
abbrev y_M_load : MethodName := ⟨"FingerSpansModel", "load", "(I)V"⟩
theorem k_M_load : Cond.code y_M_load c_M_load 3 (none : Option FieldType) ∈ lw_tbl := List.mem_of_getElem? (i := 575) (by decide +kernel)
theorem b_M_load : x_ce y_M_load c_M_load 3 (none : Option FieldType) 1 := ⟨k_M_load, i_M, by decide +kernel⟩
theorem s_M_load : Cond.instanceMethod y_M_load ∈ lw_tbl := List.mem_of_getElem? (i := 574) (by decide +kernel)
theorem v_M_load : Cond.selects "FingerSpansModel" y_M_load y_M_load ∈ lw_tbl := List.mem_of_getElem? (i := 33) (by decide +kernel)
theorem d_M_load_0 : decode c_M_load 0 = .ok (.aload_n 0, 1) := by decide +kernel
theorem d_M_load_1 : decode c_M_load 1 = .ok (.aload_n 0, 1) := by decide +kernel
theorem d_M_load_2 : decode c_M_load 2 = .ok (.getfield 27, 3) := by decide +kernel
theorem d_M_load_5 : decode c_M_load 5 = .ok (.iload_n 1, 1) := by decide +kernel
theorem d_M_load_6 : decode c_M_load 6 = .ok (.baload, 1) := by decide +kernel
theorem d_M_load_7 : decode c_M_load 7 = .ok (.putfield 37, 3) := by decide +kernel
theorem d_M_load_10 : decode c_M_load 10 = .ok (.iconst 0, 1) := by decide +kernel
theorem d_M_load_11 : decode c_M_load 11 = .ok (.istore_n 2, 1) := by decide +kernel
theorem d_M_load_12 : decode c_M_load 12 = .ok (.iload_n 2, 1) := by decide +kernel
theorem d_M_load_13 : decode c_M_load 13 = .ok (.aload_n 0, 1) := by decide +kernel
theorem d_M_load_14 : decode c_M_load 14 = .ok (.getfield 37, 3) := by decide +kernel
theorem d_M_load_17 : decode c_M_load 17 = .ok (.if_icmp .ge 26, 3) := by decide +kernel
theorem d_M_load_20 : decode c_M_load 20 = .ok (.aload_n 0, 1) := by decide +kernel
theorem d_M_load_21 : decode c_M_load 21 = .ok (.getfield 34, 3) := by decide +kernel
theorem d_M_load_24 : decode c_M_load 24 = .ok (.iload_n 2, 1) := by decide +kernel
theorem d_M_load_25 : decode c_M_load 25 = .ok (.aload_n 0, 1) := by decide +kernel
theorem d_M_load_26 : decode c_M_load 26 = .ok (.getfield 23, 3) := by decide +kernel
theorem d_M_load_29 : decode c_M_load 29 = .ok (.bipush 40, 2) := by decide +kernel
theorem d_M_load_31 : decode c_M_load 31 = .ok (.iload_n 1, 1) := by decide +kernel
theorem d_M_load_32 : decode c_M_load 32 = .ok (.imul, 1) := by decide +kernel
theorem d_M_load_33 : decode c_M_load 33 = .ok (.iload_n 2, 1) := by decide +kernel
theorem d_M_load_34 : decode c_M_load 34 = .ok (.iadd, 1) := by decide +kernel
theorem d_M_load_35 : decode c_M_load 35 = .ok (.laload, 1) := by decide +kernel
theorem d_M_load_36 : decode c_M_load 36 = .ok (.lastore, 1) := by decide +kernel
theorem d_M_load_37 : decode c_M_load 37 = .ok (.iinc 2 1, 3) := by decide +kernel
theorem d_M_load_40 : decode c_M_load 40 = .ok (.goto (-28), 3) := by decide +kernel
theorem d_M_load_43 : decode c_M_load 43 = .ok (.return_, 1) := by decide +kernel
abbrev c_M_store : ByteArray := prog_10_method_24_code
abbrev y_M_store : MethodName := ⟨"FingerSpansModel", "store", "(II)I"⟩
theorem k_M_store : Cond.code y_M_store c_M_store 4 (some FieldType.int) ∈ lw_tbl := List.mem_of_getElem? (i := 614) (by decide +kernel)
theorem b_M_store : x_ce y_M_store c_M_store 4 (some FieldType.int) 2 := ⟨k_M_store, i_M, by decide +kernel⟩
theorem s_M_store : Cond.instanceMethod y_M_store ∈ lw_tbl := List.mem_of_getElem? (i := 613) (by decide +kernel)
theorem v_M_store : Cond.selects "FingerSpansModel" y_M_store y_M_store ∈ lw_tbl := List.mem_of_getElem? (i := 40) (by decide +kernel)
theorem d_M_store_0 : decode c_M_store 0 = .ok (.iload_n 1, 1) := by decide +kernel
theorem d_M_store_1 : decode c_M_store 1 = .ok (.istore_n 3, 1) := by decide +kernel
theorem d_M_store_2 : decode c_M_store 2 = .ok (.iload_n 3, 1) := by decide +kernel
theorem d_M_store_3 : decode c_M_store 3 = .ok (.iload_n 2, 1) := by decide +kernel
theorem d_M_store_4 : decode c_M_store 4 = .ok (.if_icmp .ge 31, 3) := by decide +kernel
theorem d_M_store_7 : decode c_M_store 7 = .ok (.aload_n 0, 1) := by decide +kernel
theorem d_M_store_8 : decode c_M_store 8 = .ok (.getfield 23, 3) := by decide +kernel
theorem d_M_store_11 : decode c_M_store 11 = .ok (.bipush 40, 2) := by decide +kernel
theorem d_M_store_13 : decode c_M_store 13 = .ok (.aload_n 0, 1) := by decide +kernel
theorem d_M_store_14 : decode c_M_store 14 = .ok (.getfield 30, 3) := by decide +kernel
theorem d_M_store_17 : decode c_M_store 17 = .ok (.imul, 1) := by decide +kernel
theorem d_M_store_18 : decode c_M_store 18 = .ok (.iload_n 3, 1) := by decide +kernel
theorem d_M_store_19 : decode c_M_store 19 = .ok (.iadd, 1) := by decide +kernel
theorem d_M_store_20 : decode c_M_store 20 = .ok (.iload_n 1, 1) := by decide +kernel
theorem d_M_store_21 : decode c_M_store 21 = .ok (.isub, 1) := by decide +kernel
theorem d_M_store_22 : decode c_M_store 22 = .ok (.aload_n 0, 1) := by decide +kernel
theorem d_M_store_23 : decode c_M_store 23 = .ok (.getfield 34, 3) := by decide +kernel
theorem d_M_store_26 : decode c_M_store 26 = .ok (.iload_n 3, 1) := by decide +kernel
theorem d_M_store_27 : decode c_M_store 27 = .ok (.laload, 1) := by decide +kernel
theorem d_M_store_28 : decode c_M_store 28 = .ok (.lastore, 1) := by decide +kernel
theorem d_M_store_29 : decode c_M_store 29 = .ok (.iinc 3 1, 3) := by decide +kernel
theorem d_M_store_32 : decode c_M_store 32 = .ok (.goto (-30), 3) := by decide +kernel
theorem d_M_store_35 : decode c_M_store 35 = .ok (.aload_n 0, 1) := by decide +kernel
theorem d_M_store_36 : decode c_M_store 36 = .ok (.getfield 27, 3) := by decide +kernel
theorem d_M_store_39 : decode c_M_store 39 = .ok (.aload_n 0, 1) := by decide +kernel
theorem d_M_store_40 : decode c_M_store 40 = .ok (.getfield 30, 3) := by decide +kernel
theorem d_M_store_43 : decode c_M_store 43 = .ok (.iload_n 2, 1) := by decide +kernel
theorem d_M_store_44 : decode c_M_store 44 = .ok (.iload_n 1, 1) := by decide +kernel
theorem d_M_store_45 : decode c_M_store 45 = .ok (.isub, 1) := by decide +kernel
theorem d_M_store_46 : decode c_M_store 46 = .ok (.i2b, 1) := by decide +kernel
theorem d_M_store_47 : decode c_M_store 47 = .ok (.bastore, 1) := by decide +kernel
theorem d_M_store_48 : decode c_M_store 48 = .ok (.aload_n 0, 1) := by decide +kernel
theorem d_M_store_49 : decode c_M_store 49 = .ok (.dup, 1) := by decide +kernel
theorem d_M_store_50 : decode c_M_store 50 = .ok (.getfield 30, 3) := by decide +kernel
theorem d_M_store_53 : decode c_M_store 53 = .ok (.iconst 1, 1) := by decide +kernel
theorem d_M_store_54 : decode c_M_store 54 = .ok (.iadd, 1) := by decide +kernel
theorem d_M_store_55 : decode c_M_store 55 = .ok (.putfield 30, 3) := by decide +kernel
theorem d_M_store_58 : decode c_M_store 58 = .ok (.aload_n 0, 1) := by decide +kernel
theorem d_M_store_59 : decode c_M_store 59 = .ok (.getfield 30, 3) := by decide +kernel
theorem d_M_store_62 : decode c_M_store 62 = .ok (.iconst 1, 1) := by decide +kernel
theorem d_M_store_63 : decode c_M_store 63 = .ok (.isub, 1) := by decide +kernel
theorem d_M_store_64 : decode c_M_store 64 = .ok (.ireturn, 1) := by decide +kernel
abbrev c_M_put : ByteArray := prog_10_method_25_code
abbrev y_M_put : MethodName := ⟨"FingerSpansModel", "put", "(III)V"⟩
theorem k_M_put : Cond.code y_M_put c_M_put 5 (none : Option FieldType) ∈ lw_tbl := List.mem_of_getElem? (i := 579) (by decide +kernel)
theorem b_M_put : x_ce y_M_put c_M_put 5 (none : Option FieldType) 3 := ⟨k_M_put, i_M, by decide +kernel⟩
theorem s_M_put : Cond.instanceMethod y_M_put ∈ lw_tbl := List.mem_of_getElem? (i := 578) (by decide +kernel)
theorem v_M_put : Cond.selects "FingerSpansModel" y_M_put y_M_put ∈ lw_tbl := List.mem_of_getElem? (i := 34) (by decide +kernel)
theorem d_M_put_0 : decode c_M_put 0 = .ok (.aload_n 0, 1) := by decide +kernel
theorem d_M_put_1 : decode c_M_put 1 = .ok (.getfield 37, 3) := by decide +kernel
theorem d_M_put_4 : decode c_M_put 4 = .ok (.istore 4, 2) := by decide +kernel
theorem d_M_put_6 : decode c_M_put 6 = .ok (.iload 4, 2) := by decide +kernel
theorem d_M_put_8 : decode c_M_put 8 = .ok (.iload_n 1, 1) := by decide +kernel
theorem d_M_put_9 : decode c_M_put 9 = .ok (.if_icmp .le 25, 3) := by decide +kernel
theorem d_M_put_12 : decode c_M_put 12 = .ok (.aload_n 0, 1) := by decide +kernel
theorem d_M_put_13 : decode c_M_put 13 = .ok (.getfield 34, 3) := by decide +kernel
theorem d_M_put_16 : decode c_M_put 16 = .ok (.iload 4, 2) := by decide +kernel
theorem d_M_put_18 : decode c_M_put 18 = .ok (.aload_n 0, 1) := by decide +kernel
theorem d_M_put_19 : decode c_M_put 19 = .ok (.getfield 34, 3) := by decide +kernel
theorem d_M_put_22 : decode c_M_put 22 = .ok (.iload 4, 2) := by decide +kernel
theorem d_M_put_24 : decode c_M_put 24 = .ok (.iconst 1, 1) := by decide +kernel
theorem d_M_put_25 : decode c_M_put 25 = .ok (.isub, 1) := by decide +kernel
theorem d_M_put_26 : decode c_M_put 26 = .ok (.laload, 1) := by decide +kernel
theorem d_M_put_27 : decode c_M_put 27 = .ok (.lastore, 1) := by decide +kernel
theorem d_M_put_28 : decode c_M_put 28 = .ok (.iinc 4 (-1), 3) := by decide +kernel
theorem d_M_put_31 : decode c_M_put 31 = .ok (.goto (-25), 3) := by decide +kernel
theorem d_M_put_34 : decode c_M_put 34 = .ok (.aload_n 0, 1) := by decide +kernel
theorem d_M_put_35 : decode c_M_put 35 = .ok (.getfield 7, 3) := by decide +kernel
theorem d_M_put_38 : decode c_M_put 38 = .ok (.aload_n 0, 1) := by decide +kernel
theorem d_M_put_39 : decode c_M_put 39 = .ok (.getfield 104, 3) := by decide +kernel
theorem d_M_put_42 : decode c_M_put 42 = .ok (.iload_n 2, 1) := by decide +kernel
theorem d_M_put_43 : decode c_M_put 43 = .ok (.iastore, 1) := by decide +kernel
theorem d_M_put_44 : decode c_M_put 44 = .ok (.aload_n 0, 1) := by decide +kernel
theorem d_M_put_45 : decode c_M_put 45 = .ok (.getfield 13, 3) := by decide +kernel
theorem d_M_put_48 : decode c_M_put 48 = .ok (.aload_n 0, 1) := by decide +kernel
theorem d_M_put_49 : decode c_M_put 49 = .ok (.getfield 104, 3) := by decide +kernel
theorem d_M_put_52 : decode c_M_put 52 = .ok (.iload_n 3, 1) := by decide +kernel
theorem d_M_put_53 : decode c_M_put 53 = .ok (.iastore, 1) := by decide +kernel
theorem d_M_put_54 : decode c_M_put 54 = .ok (.aload_n 0, 1) := by decide +kernel
theorem d_M_put_55 : decode c_M_put 55 = .ok (.getfield 34, 3) := by decide +kernel
theorem d_M_put_58 : decode c_M_put 58 = .ok (.iload_n 1, 1) := by decide +kernel
theorem d_M_put_59 : decode c_M_put 59 = .ok (.aload_n 0, 1) := by decide +kernel
theorem d_M_put_60 : decode c_M_put 60 = .ok (.getfield 104, 3) := by decide +kernel
theorem d_M_put_63 : decode c_M_put 63 = .ok (.i2l, 1) := by decide +kernel
theorem d_M_put_64 : decode c_M_put 64 = .ok (.ldc2_w 107, 3) := by decide +kernel
theorem d_M_put_67 : decode c_M_put 67 = .ok (.lor, 1) := by decide +kernel
theorem d_M_put_68 : decode c_M_put 68 = .ok (.lastore, 1) := by decide +kernel
theorem d_M_put_69 : decode c_M_put 69 = .ok (.aload_n 0, 1) := by decide +kernel
theorem d_M_put_70 : decode c_M_put 70 = .ok (.dup, 1) := by decide +kernel
theorem d_M_put_71 : decode c_M_put 71 = .ok (.getfield 104, 3) := by decide +kernel
theorem d_M_put_74 : decode c_M_put 74 = .ok (.iconst 1, 1) := by decide +kernel
theorem d_M_put_75 : decode c_M_put 75 = .ok (.iadd, 1) := by decide +kernel
theorem d_M_put_76 : decode c_M_put 76 = .ok (.putfield 104, 3) := by decide +kernel
theorem d_M_put_79 : decode c_M_put 79 = .ok (.aload_n 0, 1) := by decide +kernel
theorem d_M_put_80 : decode c_M_put 80 = .ok (.dup, 1) := by decide +kernel
theorem d_M_put_81 : decode c_M_put 81 = .ok (.getfield 37, 3) := by decide +kernel
theorem d_M_put_84 : decode c_M_put 84 = .ok (.iconst 1, 1) := by decide +kernel
theorem d_M_put_85 : decode c_M_put 85 = .ok (.iadd, 1) := by decide +kernel
theorem d_M_put_86 : decode c_M_put 86 = .ok (.putfield 37, 3) := by decide +kernel
theorem d_M_put_89 : decode c_M_put 89 = .ok (.return_, 1) := by decide +kernel
abbrev c_M_drop : ByteArray := prog_10_method_26_code
abbrev y_M_drop : MethodName := ⟨"FingerSpansModel", "drop", "(I)V"⟩
theorem k_M_drop : Cond.code y_M_drop c_M_drop 3 (none : Option FieldType) ∈ lw_tbl := List.mem_of_getElem? (i := 634) (by decide +kernel)
theorem b_M_drop : x_ce y_M_drop c_M_drop 3 (none : Option FieldType) 1 := ⟨k_M_drop, i_M, by decide +kernel⟩
theorem s_M_drop : Cond.instanceMethod y_M_drop ∈ lw_tbl := List.mem_of_getElem? (i := 633) (by decide +kernel)
theorem v_M_drop : Cond.selects "FingerSpansModel" y_M_drop y_M_drop ∈ lw_tbl := List.mem_of_getElem? (i := 43) (by decide +kernel)
theorem d_M_drop_0 : decode c_M_drop 0 = .ok (.aload_n 0, 1) := by decide +kernel
theorem d_M_drop_1 : decode c_M_drop 1 = .ok (.dup, 1) := by decide +kernel
theorem d_M_drop_2 : decode c_M_drop 2 = .ok (.getfield 37, 3) := by decide +kernel
theorem d_M_drop_5 : decode c_M_drop 5 = .ok (.iconst 1, 1) := by decide +kernel
theorem d_M_drop_6 : decode c_M_drop 6 = .ok (.isub, 1) := by decide +kernel
theorem d_M_drop_7 : decode c_M_drop 7 = .ok (.putfield 37, 3) := by decide +kernel
theorem d_M_drop_10 : decode c_M_drop 10 = .ok (.iload_n 1, 1) := by decide +kernel
theorem d_M_drop_11 : decode c_M_drop 11 = .ok (.istore_n 2, 1) := by decide +kernel
theorem d_M_drop_12 : decode c_M_drop 12 = .ok (.iload_n 2, 1) := by decide +kernel
theorem d_M_drop_13 : decode c_M_drop 13 = .ok (.aload_n 0, 1) := by decide +kernel
theorem d_M_drop_14 : decode c_M_drop 14 = .ok (.getfield 37, 3) := by decide +kernel
theorem d_M_drop_17 : decode c_M_drop 17 = .ok (.if_icmp .ge 23, 3) := by decide +kernel
theorem d_M_drop_20 : decode c_M_drop 20 = .ok (.aload_n 0, 1) := by decide +kernel
theorem d_M_drop_21 : decode c_M_drop 21 = .ok (.getfield 34, 3) := by decide +kernel
theorem d_M_drop_24 : decode c_M_drop 24 = .ok (.iload_n 2, 1) := by decide +kernel
theorem d_M_drop_25 : decode c_M_drop 25 = .ok (.aload_n 0, 1) := by decide +kernel
theorem d_M_drop_26 : decode c_M_drop 26 = .ok (.getfield 34, 3) := by decide +kernel
theorem d_M_drop_29 : decode c_M_drop 29 = .ok (.iload_n 2, 1) := by decide +kernel
theorem d_M_drop_30 : decode c_M_drop 30 = .ok (.iconst 1, 1) := by decide +kernel
theorem d_M_drop_31 : decode c_M_drop 31 = .ok (.iadd, 1) := by decide +kernel
theorem d_M_drop_32 : decode c_M_drop 32 = .ok (.laload, 1) := by decide +kernel
theorem d_M_drop_33 : decode c_M_drop 33 = .ok (.lastore, 1) := by decide +kernel
theorem d_M_drop_34 : decode c_M_drop 34 = .ok (.iinc 2 1, 3) := by decide +kernel
theorem d_M_drop_37 : decode c_M_drop 37 = .ok (.goto (-25), 3) := by decide +kernel
theorem d_M_drop_40 : decode c_M_drop 40 = .ok (.return_, 1) := by decide +kernel
abbrev c_M_pushFront : ByteArray := prog_10_method_27_code
abbrev y_M_pushFront : MethodName := ⟨"FingerSpansModel", "pushFront", "(III)I"⟩
theorem k_M_pushFront : Cond.code y_M_pushFront c_M_pushFront 4 (some FieldType.int) ∈ lw_tbl := List.mem_of_getElem? (i := 567) (by decide +kernel)
theorem b_M_pushFront : x_ce y_M_pushFront c_M_pushFront 4 (some FieldType.int) 3 := ⟨k_M_pushFront, i_M, by decide +kernel⟩
theorem s_M_pushFront : Cond.instanceMethod y_M_pushFront ∈ lw_tbl := List.mem_of_getElem? (i := 565) (by decide +kernel)
theorem v_M_pushFront : Cond.selects "FingerSpansModel" y_M_pushFront y_M_pushFront ∈ lw_tbl := List.mem_of_getElem? (i := 566) (by decide +kernel)
theorem d_M_pushFront_0 : decode c_M_pushFront 0 = .ok (.aload_n 0, 1) := by decide +kernel
theorem d_M_pushFront_1 : decode c_M_pushFront 1 = .ok (.iload_n 1, 1) := by decide +kernel
theorem d_M_pushFront_2 : decode c_M_pushFront 2 = .ok (.invokevirtual 109, 3) := by decide +kernel
theorem d_M_pushFront_5 : decode c_M_pushFront 5 = .ok (.ifCond .ne 8, 3) := by decide +kernel
theorem d_M_pushFront_8 : decode c_M_pushFront 8 = .ok (.iload_n 2, 1) := by decide +kernel
theorem d_M_pushFront_9 : decode c_M_pushFront 9 = .ok (.iload_n 3, 1) := by decide +kernel
theorem d_M_pushFront_10 : decode c_M_pushFront 10 = .ok (.if_icmp .le 5, 3) := by decide +kernel
theorem d_M_pushFront_13 : decode c_M_pushFront 13 = .ok (.iconst (-1), 1) := by decide +kernel
theorem d_M_pushFront_14 : decode c_M_pushFront 14 = .ok (.ireturn, 1) := by decide +kernel
theorem d_M_pushFront_15 : decode c_M_pushFront 15 = .ok (.aload_n 0, 1) := by decide +kernel
theorem d_M_pushFront_16 : decode c_M_pushFront 16 = .ok (.getfield 30, 3) := by decide +kernel
theorem d_M_pushFront_19 : decode c_M_pushFront 19 = .ok (.bipush 120, 2) := by decide +kernel
theorem d_M_pushFront_21 : decode c_M_pushFront 21 = .ok (.if_icmp .ge 14, 3) := by decide +kernel
theorem d_M_pushFront_24 : decode c_M_pushFront 24 = .ok (.aload_n 0, 1) := by decide +kernel
theorem d_M_pushFront_25 : decode c_M_pushFront 25 = .ok (.getfield 27, 3) := by decide +kernel
theorem d_M_pushFront_28 : decode c_M_pushFront 28 = .ok (.iload_n 1, 1) := by decide +kernel
theorem d_M_pushFront_29 : decode c_M_pushFront 29 = .ok (.baload, 1) := by decide +kernel
theorem d_M_pushFront_30 : decode c_M_pushFront 30 = .ok (.bipush 40, 2) := by decide +kernel
theorem d_M_pushFront_32 : decode c_M_pushFront 32 = .ok (.if_icmp .lt 6, 3) := by decide +kernel
theorem d_M_pushFront_35 : decode c_M_pushFront 35 = .ok (.bipush (-2), 2) := by decide +kernel
theorem d_M_pushFront_37 : decode c_M_pushFront 37 = .ok (.ireturn, 1) := by decide +kernel
theorem d_M_pushFront_38 : decode c_M_pushFront 38 = .ok (.aload_n 0, 1) := by decide +kernel
theorem d_M_pushFront_39 : decode c_M_pushFront 39 = .ok (.iload_n 1, 1) := by decide +kernel
theorem d_M_pushFront_40 : decode c_M_pushFront 40 = .ok (.invokevirtual 113, 3) := by decide +kernel
theorem d_M_pushFront_43 : decode c_M_pushFront 43 = .ok (.aload_n 0, 1) := by decide +kernel
theorem d_M_pushFront_44 : decode c_M_pushFront 44 = .ok (.iconst 0, 1) := by decide +kernel
theorem d_M_pushFront_45 : decode c_M_pushFront 45 = .ok (.iload_n 2, 1) := by decide +kernel
theorem d_M_pushFront_46 : decode c_M_pushFront 46 = .ok (.iload_n 3, 1) := by decide +kernel
theorem d_M_pushFront_47 : decode c_M_pushFront 47 = .ok (.invokevirtual 117, 3) := by decide +kernel
theorem d_M_pushFront_50 : decode c_M_pushFront 50 = .ok (.aload_n 0, 1) := by decide +kernel
theorem d_M_pushFront_51 : decode c_M_pushFront 51 = .ok (.iconst 0, 1) := by decide +kernel
theorem d_M_pushFront_52 : decode c_M_pushFront 52 = .ok (.iconst 0, 1) := by decide +kernel
theorem d_M_pushFront_53 : decode c_M_pushFront 53 = .ok (.invokevirtual 98, 3) := by decide +kernel
theorem d_M_pushFront_56 : decode c_M_pushFront 56 = .ok (.aload_n 0, 1) := by decide +kernel
theorem d_M_pushFront_57 : decode c_M_pushFront 57 = .ok (.iconst 0, 1) := by decide +kernel
theorem d_M_pushFront_58 : decode c_M_pushFront 58 = .ok (.aload_n 0, 1) := by decide +kernel
theorem d_M_pushFront_59 : decode c_M_pushFront 59 = .ok (.getfield 37, 3) := by decide +kernel
theorem d_M_pushFront_62 : decode c_M_pushFront 62 = .ok (.invokevirtual 120, 3) := by decide +kernel
theorem d_M_pushFront_65 : decode c_M_pushFront 65 = .ok (.ireturn, 1) := by decide +kernel
abbrev c_M_pushBack : ByteArray := prog_10_method_28_code
abbrev y_M_pushBack : MethodName := ⟨"FingerSpansModel", "pushBack", "(III)I"⟩
theorem k_M_pushBack : Cond.code y_M_pushBack c_M_pushBack 4 (some FieldType.int) ∈ lw_tbl := List.mem_of_getElem? (i := 618) (by decide +kernel)
theorem b_M_pushBack : x_ce y_M_pushBack c_M_pushBack 4 (some FieldType.int) 3 := ⟨k_M_pushBack, i_M, by decide +kernel⟩
theorem s_M_pushBack : Cond.instanceMethod y_M_pushBack ∈ lw_tbl := List.mem_of_getElem? (i := 616) (by decide +kernel)
theorem v_M_pushBack : Cond.selects "FingerSpansModel" y_M_pushBack y_M_pushBack ∈ lw_tbl := List.mem_of_getElem? (i := 617) (by decide +kernel)
theorem d_M_pushBack_0 : decode c_M_pushBack 0 = .ok (.aload_n 0, 1) := by decide +kernel
theorem d_M_pushBack_1 : decode c_M_pushBack 1 = .ok (.iload_n 1, 1) := by decide +kernel
theorem d_M_pushBack_2 : decode c_M_pushBack 2 = .ok (.invokevirtual 109, 3) := by decide +kernel
theorem d_M_pushBack_5 : decode c_M_pushBack 5 = .ok (.ifCond .ne 8, 3) := by decide +kernel
theorem d_M_pushBack_8 : decode c_M_pushBack 8 = .ok (.iload_n 2, 1) := by decide +kernel
theorem d_M_pushBack_9 : decode c_M_pushBack 9 = .ok (.iload_n 3, 1) := by decide +kernel
theorem d_M_pushBack_10 : decode c_M_pushBack 10 = .ok (.if_icmp .le 5, 3) := by decide +kernel
theorem d_M_pushBack_13 : decode c_M_pushBack 13 = .ok (.iconst (-1), 1) := by decide +kernel
theorem d_M_pushBack_14 : decode c_M_pushBack 14 = .ok (.ireturn, 1) := by decide +kernel
theorem d_M_pushBack_15 : decode c_M_pushBack 15 = .ok (.aload_n 0, 1) := by decide +kernel
theorem d_M_pushBack_16 : decode c_M_pushBack 16 = .ok (.getfield 30, 3) := by decide +kernel
theorem d_M_pushBack_19 : decode c_M_pushBack 19 = .ok (.bipush 120, 2) := by decide +kernel
theorem d_M_pushBack_21 : decode c_M_pushBack 21 = .ok (.if_icmp .ge 14, 3) := by decide +kernel
theorem d_M_pushBack_24 : decode c_M_pushBack 24 = .ok (.aload_n 0, 1) := by decide +kernel
theorem d_M_pushBack_25 : decode c_M_pushBack 25 = .ok (.getfield 27, 3) := by decide +kernel
theorem d_M_pushBack_28 : decode c_M_pushBack 28 = .ok (.iload_n 1, 1) := by decide +kernel
theorem d_M_pushBack_29 : decode c_M_pushBack 29 = .ok (.baload, 1) := by decide +kernel
theorem d_M_pushBack_30 : decode c_M_pushBack 30 = .ok (.bipush 40, 2) := by decide +kernel
theorem d_M_pushBack_32 : decode c_M_pushBack 32 = .ok (.if_icmp .lt 6, 3) := by decide +kernel
theorem d_M_pushBack_35 : decode c_M_pushBack 35 = .ok (.bipush (-2), 2) := by decide +kernel
theorem d_M_pushBack_37 : decode c_M_pushBack 37 = .ok (.ireturn, 1) := by decide +kernel
theorem d_M_pushBack_38 : decode c_M_pushBack 38 = .ok (.aload_n 0, 1) := by decide +kernel
theorem d_M_pushBack_39 : decode c_M_pushBack 39 = .ok (.iload_n 1, 1) := by decide +kernel
theorem d_M_pushBack_40 : decode c_M_pushBack 40 = .ok (.invokevirtual 113, 3) := by decide +kernel
theorem d_M_pushBack_43 : decode c_M_pushBack 43 = .ok (.aload_n 0, 1) := by decide +kernel
theorem d_M_pushBack_44 : decode c_M_pushBack 44 = .ok (.aload_n 0, 1) := by decide +kernel
theorem d_M_pushBack_45 : decode c_M_pushBack 45 = .ok (.getfield 37, 3) := by decide +kernel
theorem d_M_pushBack_48 : decode c_M_pushBack 48 = .ok (.iload_n 2, 1) := by decide +kernel
theorem d_M_pushBack_49 : decode c_M_pushBack 49 = .ok (.iload_n 3, 1) := by decide +kernel
theorem d_M_pushBack_50 : decode c_M_pushBack 50 = .ok (.invokevirtual 117, 3) := by decide +kernel
theorem d_M_pushBack_53 : decode c_M_pushBack 53 = .ok (.aload_n 0, 1) := by decide +kernel
theorem d_M_pushBack_54 : decode c_M_pushBack 54 = .ok (.aload_n 0, 1) := by decide +kernel
theorem d_M_pushBack_55 : decode c_M_pushBack 55 = .ok (.getfield 37, 3) := by decide +kernel
theorem d_M_pushBack_58 : decode c_M_pushBack 58 = .ok (.iconst 0, 1) := by decide +kernel
theorem d_M_pushBack_59 : decode c_M_pushBack 59 = .ok (.invokevirtual 101, 3) := by decide +kernel
theorem d_M_pushBack_62 : decode c_M_pushBack 62 = .ok (.aload_n 0, 1) := by decide +kernel
theorem d_M_pushBack_63 : decode c_M_pushBack 63 = .ok (.iconst 0, 1) := by decide +kernel
theorem d_M_pushBack_64 : decode c_M_pushBack 64 = .ok (.aload_n 0, 1) := by decide +kernel
theorem d_M_pushBack_65 : decode c_M_pushBack 65 = .ok (.getfield 37, 3) := by decide +kernel
theorem d_M_pushBack_68 : decode c_M_pushBack 68 = .ok (.invokevirtual 120, 3) := by decide +kernel
theorem d_M_pushBack_71 : decode c_M_pushBack 71 = .ok (.ireturn, 1) := by decide +kernel
abbrev c_M_popFront : ByteArray := prog_10_method_29_code
abbrev y_M_popFront : MethodName := ⟨"FingerSpansModel", "popFront", "(I)I"⟩
theorem k_M_popFront : Cond.code y_M_popFront c_M_popFront 2 (some FieldType.int) ∈ lw_tbl := List.mem_of_getElem? (i := 630) (by decide +kernel)
theorem b_M_popFront : x_ce y_M_popFront c_M_popFront 2 (some FieldType.int) 1 := ⟨k_M_popFront, i_M, by decide +kernel⟩
theorem s_M_popFront : Cond.instanceMethod y_M_popFront ∈ lw_tbl := List.mem_of_getElem? (i := 628) (by decide +kernel)
theorem v_M_popFront : Cond.selects "FingerSpansModel" y_M_popFront y_M_popFront ∈ lw_tbl := List.mem_of_getElem? (i := 629) (by decide +kernel)
theorem d_M_popFront_0 : decode c_M_popFront 0 = .ok (.aload_n 0, 1) := by decide +kernel
theorem d_M_popFront_1 : decode c_M_popFront 1 = .ok (.iload_n 1, 1) := by decide +kernel
theorem d_M_popFront_2 : decode c_M_popFront 2 = .ok (.invokevirtual 109, 3) := by decide +kernel
theorem d_M_popFront_5 : decode c_M_popFront 5 = .ok (.ifCond .ne 12, 3) := by decide +kernel
theorem d_M_popFront_8 : decode c_M_popFront 8 = .ok (.aload_n 0, 1) := by decide +kernel
theorem d_M_popFront_9 : decode c_M_popFront 9 = .ok (.getfield 27, 3) := by decide +kernel
theorem d_M_popFront_12 : decode c_M_popFront 12 = .ok (.iload_n 1, 1) := by decide +kernel
theorem d_M_popFront_13 : decode c_M_popFront 13 = .ok (.baload, 1) := by decide +kernel
theorem d_M_popFront_14 : decode c_M_popFront 14 = .ok (.ifCond .ne 5, 3) := by decide +kernel
theorem d_M_popFront_17 : decode c_M_popFront 17 = .ok (.iconst (-1), 1) := by decide +kernel
theorem d_M_popFront_18 : decode c_M_popFront 18 = .ok (.ireturn, 1) := by decide +kernel
theorem d_M_popFront_19 : decode c_M_popFront 19 = .ok (.aload_n 0, 1) := by decide +kernel
theorem d_M_popFront_20 : decode c_M_popFront 20 = .ok (.getfield 30, 3) := by decide +kernel
theorem d_M_popFront_23 : decode c_M_popFront 23 = .ok (.bipush 120, 2) := by decide +kernel
theorem d_M_popFront_25 : decode c_M_popFront 25 = .ok (.if_icmp .lt 6, 3) := by decide +kernel
theorem d_M_popFront_28 : decode c_M_popFront 28 = .ok (.bipush (-2), 2) := by decide +kernel
theorem d_M_popFront_30 : decode c_M_popFront 30 = .ok (.ireturn, 1) := by decide +kernel
theorem d_M_popFront_31 : decode c_M_popFront 31 = .ok (.aload_n 0, 1) := by decide +kernel
theorem d_M_popFront_32 : decode c_M_popFront 32 = .ok (.iload_n 1, 1) := by decide +kernel
theorem d_M_popFront_33 : decode c_M_popFront 33 = .ok (.invokevirtual 113, 3) := by decide +kernel
theorem d_M_popFront_36 : decode c_M_popFront 36 = .ok (.aload_n 0, 1) := by decide +kernel
theorem d_M_popFront_37 : decode c_M_popFront 37 = .ok (.iconst 0, 1) := by decide +kernel
theorem d_M_popFront_38 : decode c_M_popFront 38 = .ok (.invokevirtual 123, 3) := by decide +kernel
theorem d_M_popFront_41 : decode c_M_popFront 41 = .ok (.aload_n 0, 1) := by decide +kernel
theorem d_M_popFront_42 : decode c_M_popFront 42 = .ok (.iconst 0, 1) := by decide +kernel
theorem d_M_popFront_43 : decode c_M_popFront 43 = .ok (.iconst 0, 1) := by decide +kernel
theorem d_M_popFront_44 : decode c_M_popFront 44 = .ok (.invokevirtual 78, 3) := by decide +kernel
theorem d_M_popFront_47 : decode c_M_popFront 47 = .ok (.aload_n 0, 1) := by decide +kernel
theorem d_M_popFront_48 : decode c_M_popFront 48 = .ok (.iconst 0, 1) := by decide +kernel
theorem d_M_popFront_49 : decode c_M_popFront 49 = .ok (.aload_n 0, 1) := by decide +kernel
theorem d_M_popFront_50 : decode c_M_popFront 50 = .ok (.getfield 37, 3) := by decide +kernel
theorem d_M_popFront_53 : decode c_M_popFront 53 = .ok (.invokevirtual 120, 3) := by decide +kernel
theorem d_M_popFront_56 : decode c_M_popFront 56 = .ok (.ireturn, 1) := by decide +kernel
abbrev c_M_popBack : ByteArray := prog_10_method_30_code
abbrev y_M_popBack : MethodName := ⟨"FingerSpansModel", "popBack", "(I)I"⟩
theorem k_M_popBack : Cond.code y_M_popBack c_M_popBack 2 (some FieldType.int) ∈ lw_tbl := List.mem_of_getElem? (i := 646) (by decide +kernel)
theorem b_M_popBack : x_ce y_M_popBack c_M_popBack 2 (some FieldType.int) 1 := ⟨k_M_popBack, i_M, by decide +kernel⟩
theorem s_M_popBack : Cond.instanceMethod y_M_popBack ∈ lw_tbl := List.mem_of_getElem? (i := 644) (by decide +kernel)
theorem v_M_popBack : Cond.selects "FingerSpansModel" y_M_popBack y_M_popBack ∈ lw_tbl := List.mem_of_getElem? (i := 645) (by decide +kernel)
theorem d_M_popBack_0 : decode c_M_popBack 0 = .ok (.aload_n 0, 1) := by decide +kernel
theorem d_M_popBack_1 : decode c_M_popBack 1 = .ok (.iload_n 1, 1) := by decide +kernel
theorem d_M_popBack_2 : decode c_M_popBack 2 = .ok (.invokevirtual 109, 3) := by decide +kernel
theorem d_M_popBack_5 : decode c_M_popBack 5 = .ok (.ifCond .ne 12, 3) := by decide +kernel
theorem d_M_popBack_8 : decode c_M_popBack 8 = .ok (.aload_n 0, 1) := by decide +kernel
theorem d_M_popBack_9 : decode c_M_popBack 9 = .ok (.getfield 27, 3) := by decide +kernel
theorem d_M_popBack_12 : decode c_M_popBack 12 = .ok (.iload_n 1, 1) := by decide +kernel
theorem d_M_popBack_13 : decode c_M_popBack 13 = .ok (.baload, 1) := by decide +kernel
theorem d_M_popBack_14 : decode c_M_popBack 14 = .ok (.ifCond .ne 5, 3) := by decide +kernel
theorem d_M_popBack_17 : decode c_M_popBack 17 = .ok (.iconst (-1), 1) := by decide +kernel
theorem d_M_popBack_18 : decode c_M_popBack 18 = .ok (.ireturn, 1) := by decide +kernel
theorem d_M_popBack_19 : decode c_M_popBack 19 = .ok (.aload_n 0, 1) := by decide +kernel
theorem d_M_popBack_20 : decode c_M_popBack 20 = .ok (.getfield 30, 3) := by decide +kernel
theorem d_M_popBack_23 : decode c_M_popBack 23 = .ok (.bipush 120, 2) := by decide +kernel
theorem d_M_popBack_25 : decode c_M_popBack 25 = .ok (.if_icmp .lt 6, 3) := by decide +kernel
theorem d_M_popBack_28 : decode c_M_popBack 28 = .ok (.bipush (-2), 2) := by decide +kernel
theorem d_M_popBack_30 : decode c_M_popBack 30 = .ok (.ireturn, 1) := by decide +kernel
theorem d_M_popBack_31 : decode c_M_popBack 31 = .ok (.aload_n 0, 1) := by decide +kernel
theorem d_M_popBack_32 : decode c_M_popBack 32 = .ok (.iload_n 1, 1) := by decide +kernel
theorem d_M_popBack_33 : decode c_M_popBack 33 = .ok (.invokevirtual 113, 3) := by decide +kernel
theorem d_M_popBack_36 : decode c_M_popBack 36 = .ok (.aload_n 0, 1) := by decide +kernel
theorem d_M_popBack_37 : decode c_M_popBack 37 = .ok (.aload_n 0, 1) := by decide +kernel
theorem d_M_popBack_38 : decode c_M_popBack 38 = .ok (.getfield 37, 3) := by decide +kernel
theorem d_M_popBack_41 : decode c_M_popBack 41 = .ok (.iconst 1, 1) := by decide +kernel
theorem d_M_popBack_42 : decode c_M_popBack 42 = .ok (.isub, 1) := by decide +kernel
theorem d_M_popBack_43 : decode c_M_popBack 43 = .ok (.invokevirtual 123, 3) := by decide +kernel
theorem d_M_popBack_46 : decode c_M_popBack 46 = .ok (.aload_n 0, 1) := by decide +kernel
theorem d_M_popBack_47 : decode c_M_popBack 47 = .ok (.aload_n 0, 1) := by decide +kernel
theorem d_M_popBack_48 : decode c_M_popBack 48 = .ok (.getfield 37, 3) := by decide +kernel
theorem d_M_popBack_51 : decode c_M_popBack 51 = .ok (.iconst 0, 1) := by decide +kernel
theorem d_M_popBack_52 : decode c_M_popBack 52 = .ok (.invokevirtual 82, 3) := by decide +kernel
theorem d_M_popBack_55 : decode c_M_popBack 55 = .ok (.aload_n 0, 1) := by decide +kernel
theorem d_M_popBack_56 : decode c_M_popBack 56 = .ok (.iconst 0, 1) := by decide +kernel
theorem d_M_popBack_57 : decode c_M_popBack 57 = .ok (.aload_n 0, 1) := by decide +kernel
theorem d_M_popBack_58 : decode c_M_popBack 58 = .ok (.getfield 37, 3) := by decide +kernel
theorem d_M_popBack_61 : decode c_M_popBack 61 = .ok (.invokevirtual 120, 3) := by decide +kernel
theorem d_M_popBack_64 : decode c_M_popBack 64 = .ok (.ireturn, 1) := by decide +kernel
abbrev c_M_concat : ByteArray := prog_10_method_31_code
abbrev y_M_concat : MethodName := ⟨"FingerSpansModel", "concat", "(II)I"⟩
theorem k_M_concat : Cond.code y_M_concat c_M_concat 5 (some FieldType.int) ∈ lw_tbl := List.mem_of_getElem? (i := 654) (by decide +kernel)
theorem b_M_concat : x_ce y_M_concat c_M_concat 5 (some FieldType.int) 2 := ⟨k_M_concat, i_M, by decide +kernel⟩
theorem s_M_concat : Cond.instanceMethod y_M_concat ∈ lw_tbl := List.mem_of_getElem? (i := 652) (by decide +kernel)
theorem v_M_concat : Cond.selects "FingerSpansModel" y_M_concat y_M_concat ∈ lw_tbl := List.mem_of_getElem? (i := 653) (by decide +kernel)
theorem d_M_concat_0 : decode c_M_concat 0 = .ok (.aload_n 0, 1) := by decide +kernel
theorem d_M_concat_1 : decode c_M_concat 1 = .ok (.iload_n 1, 1) := by decide +kernel
theorem d_M_concat_2 : decode c_M_concat 2 = .ok (.invokevirtual 109, 3) := by decide +kernel
theorem d_M_concat_5 : decode c_M_concat 5 = .ok (.ifCond .ne 11, 3) := by decide +kernel
theorem d_M_concat_8 : decode c_M_concat 8 = .ok (.aload_n 0, 1) := by decide +kernel
theorem d_M_concat_9 : decode c_M_concat 9 = .ok (.iload_n 2, 1) := by decide +kernel
theorem d_M_concat_10 : decode c_M_concat 10 = .ok (.invokevirtual 109, 3) := by decide +kernel
theorem d_M_concat_13 : decode c_M_concat 13 = .ok (.ifCond .eq 5, 3) := by decide +kernel
theorem d_M_concat_16 : decode c_M_concat 16 = .ok (.iconst (-1), 1) := by decide +kernel
theorem d_M_concat_17 : decode c_M_concat 17 = .ok (.ireturn, 1) := by decide +kernel
theorem d_M_concat_18 : decode c_M_concat 18 = .ok (.aload_n 0, 1) := by decide +kernel
theorem d_M_concat_19 : decode c_M_concat 19 = .ok (.getfield 30, 3) := by decide +kernel
theorem d_M_concat_22 : decode c_M_concat 22 = .ok (.bipush 120, 2) := by decide +kernel
theorem d_M_concat_24 : decode c_M_concat 24 = .ok (.if_icmp .ge 21, 3) := by decide +kernel
theorem d_M_concat_27 : decode c_M_concat 27 = .ok (.aload_n 0, 1) := by decide +kernel
theorem d_M_concat_28 : decode c_M_concat 28 = .ok (.getfield 27, 3) := by decide +kernel
theorem d_M_concat_31 : decode c_M_concat 31 = .ok (.iload_n 1, 1) := by decide +kernel
theorem d_M_concat_32 : decode c_M_concat 32 = .ok (.baload, 1) := by decide +kernel
theorem d_M_concat_33 : decode c_M_concat 33 = .ok (.aload_n 0, 1) := by decide +kernel
theorem d_M_concat_34 : decode c_M_concat 34 = .ok (.getfield 27, 3) := by decide +kernel
theorem d_M_concat_37 : decode c_M_concat 37 = .ok (.iload_n 2, 1) := by decide +kernel
theorem d_M_concat_38 : decode c_M_concat 38 = .ok (.baload, 1) := by decide +kernel
theorem d_M_concat_39 : decode c_M_concat 39 = .ok (.iadd, 1) := by decide +kernel
theorem d_M_concat_40 : decode c_M_concat 40 = .ok (.bipush 40, 2) := by decide +kernel
theorem d_M_concat_42 : decode c_M_concat 42 = .ok (.if_icmp .le 6, 3) := by decide +kernel
theorem d_M_concat_45 : decode c_M_concat 45 = .ok (.bipush (-2), 2) := by decide +kernel
theorem d_M_concat_47 : decode c_M_concat 47 = .ok (.ireturn, 1) := by decide +kernel
theorem d_M_concat_48 : decode c_M_concat 48 = .ok (.aload_n 0, 1) := by decide +kernel
theorem d_M_concat_49 : decode c_M_concat 49 = .ok (.iload_n 1, 1) := by decide +kernel
theorem d_M_concat_50 : decode c_M_concat 50 = .ok (.invokevirtual 113, 3) := by decide +kernel
theorem d_M_concat_53 : decode c_M_concat 53 = .ok (.aload_n 0, 1) := by decide +kernel
theorem d_M_concat_54 : decode c_M_concat 54 = .ok (.getfield 37, 3) := by decide +kernel
theorem d_M_concat_57 : decode c_M_concat 57 = .ok (.istore_n 3, 1) := by decide +kernel
theorem d_M_concat_58 : decode c_M_concat 58 = .ok (.iconst 0, 1) := by decide +kernel
theorem d_M_concat_59 : decode c_M_concat 59 = .ok (.istore 4, 2) := by decide +kernel
theorem d_M_concat_61 : decode c_M_concat 61 = .ok (.iload 4, 2) := by decide +kernel
theorem d_M_concat_63 : decode c_M_concat 63 = .ok (.aload_n 0, 1) := by decide +kernel
theorem d_M_concat_64 : decode c_M_concat 64 = .ok (.getfield 27, 3) := by decide +kernel
theorem d_M_concat_67 : decode c_M_concat 67 = .ok (.iload_n 2, 1) := by decide +kernel
theorem d_M_concat_68 : decode c_M_concat 68 = .ok (.baload, 1) := by decide +kernel
theorem d_M_concat_69 : decode c_M_concat 69 = .ok (.if_icmp .ge 30, 3) := by decide +kernel
theorem d_M_concat_72 : decode c_M_concat 72 = .ok (.aload_n 0, 1) := by decide +kernel
theorem d_M_concat_73 : decode c_M_concat 73 = .ok (.getfield 34, 3) := by decide +kernel
theorem d_M_concat_76 : decode c_M_concat 76 = .ok (.iload_n 3, 1) := by decide +kernel
theorem d_M_concat_77 : decode c_M_concat 77 = .ok (.iload 4, 2) := by decide +kernel
theorem d_M_concat_79 : decode c_M_concat 79 = .ok (.iadd, 1) := by decide +kernel
theorem d_M_concat_80 : decode c_M_concat 80 = .ok (.aload_n 0, 1) := by decide +kernel
theorem d_M_concat_81 : decode c_M_concat 81 = .ok (.getfield 23, 3) := by decide +kernel
theorem d_M_concat_84 : decode c_M_concat 84 = .ok (.bipush 40, 2) := by decide +kernel
theorem d_M_concat_86 : decode c_M_concat 86 = .ok (.iload_n 2, 1) := by decide +kernel
theorem d_M_concat_87 : decode c_M_concat 87 = .ok (.imul, 1) := by decide +kernel
theorem d_M_concat_88 : decode c_M_concat 88 = .ok (.iload 4, 2) := by decide +kernel
theorem d_M_concat_90 : decode c_M_concat 90 = .ok (.iadd, 1) := by decide +kernel
theorem d_M_concat_91 : decode c_M_concat 91 = .ok (.laload, 1) := by decide +kernel
theorem d_M_concat_92 : decode c_M_concat 92 = .ok (.lastore, 1) := by decide +kernel
theorem d_M_concat_93 : decode c_M_concat 93 = .ok (.iinc 4 1, 3) := by decide +kernel
theorem d_M_concat_96 : decode c_M_concat 96 = .ok (.goto (-35), 3) := by decide +kernel
theorem d_M_concat_99 : decode c_M_concat 99 = .ok (.aload_n 0, 1) := by decide +kernel
theorem d_M_concat_100 : decode c_M_concat 100 = .ok (.iload_n 3, 1) := by decide +kernel
theorem d_M_concat_101 : decode c_M_concat 101 = .ok (.aload_n 0, 1) := by decide +kernel
theorem d_M_concat_102 : decode c_M_concat 102 = .ok (.getfield 27, 3) := by decide +kernel
theorem d_M_concat_105 : decode c_M_concat 105 = .ok (.iload_n 2, 1) := by decide +kernel
theorem d_M_concat_106 : decode c_M_concat 106 = .ok (.baload, 1) := by decide +kernel
theorem d_M_concat_107 : decode c_M_concat 107 = .ok (.iadd, 1) := by decide +kernel
theorem d_M_concat_108 : decode c_M_concat 108 = .ok (.putfield 37, 3) := by decide +kernel
theorem d_M_concat_111 : decode c_M_concat 111 = .ok (.aload_n 0, 1) := by decide +kernel
theorem d_M_concat_112 : decode c_M_concat 112 = .ok (.iload_n 3, 1) := by decide +kernel
theorem d_M_concat_113 : decode c_M_concat 113 = .ok (.invokevirtual 126, 3) := by decide +kernel
theorem d_M_concat_116 : decode c_M_concat 116 = .ok (.aload_n 0, 1) := by decide +kernel
theorem d_M_concat_117 : decode c_M_concat 117 = .ok (.iconst 0, 1) := by decide +kernel
theorem d_M_concat_118 : decode c_M_concat 118 = .ok (.aload_n 0, 1) := by decide +kernel
theorem d_M_concat_119 : decode c_M_concat 119 = .ok (.getfield 37, 3) := by decide +kernel
theorem d_M_concat_122 : decode c_M_concat 122 = .ok (.invokevirtual 120, 3) := by decide +kernel
theorem d_M_concat_125 : decode c_M_concat 125 = .ok (.ireturn, 1) := by decide +kernel
abbrev c_M_halves : ByteArray := prog_10_method_32_code
abbrev y_M_halves : MethodName := ⟨"FingerSpansModel", "halves", "(I)V"⟩
theorem k_M_halves : Cond.code y_M_halves c_M_halves 2 (none : Option FieldType) ∈ lw_tbl := List.mem_of_getElem? (i := 682) (by decide +kernel)
theorem b_M_halves : x_ce y_M_halves c_M_halves 2 (none : Option FieldType) 1 := ⟨k_M_halves, i_M, by decide +kernel⟩
theorem s_M_halves : Cond.instanceMethod y_M_halves ∈ lw_tbl := List.mem_of_getElem? (i := 681) (by decide +kernel)
theorem v_M_halves : Cond.selects "FingerSpansModel" y_M_halves y_M_halves ∈ lw_tbl := List.mem_of_getElem? (i := 52) (by decide +kernel)
theorem d_M_halves_0 : decode c_M_halves 0 = .ok (.iload_n 1, 1) := by decide +kernel
theorem d_M_halves_1 : decode c_M_halves 1 = .ok (.aload_n 0, 1) := by decide +kernel
theorem d_M_halves_2 : decode c_M_halves 2 = .ok (.getfield 37, 3) := by decide +kernel
theorem d_M_halves_5 : decode c_M_halves 5 = .ok (.if_icmp .ge 14, 3) := by decide +kernel
theorem d_M_halves_8 : decode c_M_halves 8 = .ok (.aload_n 0, 1) := by decide +kernel
theorem d_M_halves_9 : decode c_M_halves 9 = .ok (.iload_n 1, 1) := by decide +kernel
theorem d_M_halves_10 : decode c_M_halves 10 = .ok (.invokevirtual 129, 3) := by decide +kernel
theorem d_M_halves_13 : decode c_M_halves 13 = .ok (.aload_n 0, 1) := by decide +kernel
theorem d_M_halves_14 : decode c_M_halves 14 = .ok (.iload_n 1, 1) := by decide +kernel
theorem d_M_halves_15 : decode c_M_halves 15 = .ok (.iconst 0, 1) := by decide +kernel
theorem d_M_halves_16 : decode c_M_halves 16 = .ok (.invokevirtual 98, 3) := by decide +kernel
theorem d_M_halves_19 : decode c_M_halves 19 = .ok (.return_, 1) := by decide +kernel
abbrev c_M_split : ByteArray := prog_10_method_33_code
abbrev y_M_split : MethodName := ⟨"FingerSpansModel", "split", "(II)I"⟩
theorem k_M_split : Cond.code y_M_split c_M_split 4 (some FieldType.int) ∈ lw_tbl := List.mem_of_getElem? (i := 678) (by decide +kernel)
theorem b_M_split : x_ce y_M_split c_M_split 4 (some FieldType.int) 2 := ⟨k_M_split, i_M, by decide +kernel⟩
theorem s_M_split : Cond.instanceMethod y_M_split ∈ lw_tbl := List.mem_of_getElem? (i := 676) (by decide +kernel)
theorem v_M_split : Cond.selects "FingerSpansModel" y_M_split y_M_split ∈ lw_tbl := List.mem_of_getElem? (i := 677) (by decide +kernel)
theorem d_M_split_0 : decode c_M_split 0 = .ok (.aload_n 0, 1) := by decide +kernel
theorem d_M_split_1 : decode c_M_split 1 = .ok (.iload_n 1, 1) := by decide +kernel
theorem d_M_split_2 : decode c_M_split 2 = .ok (.invokevirtual 109, 3) := by decide +kernel
theorem d_M_split_5 : decode c_M_split 5 = .ok (.ifCond .ne 17, 3) := by decide +kernel
theorem d_M_split_8 : decode c_M_split 8 = .ok (.iload_n 2, 1) := by decide +kernel
theorem d_M_split_9 : decode c_M_split 9 = .ok (.ifCond .lt 13, 3) := by decide +kernel
theorem d_M_split_12 : decode c_M_split 12 = .ok (.iload_n 2, 1) := by decide +kernel
theorem d_M_split_13 : decode c_M_split 13 = .ok (.aload_n 0, 1) := by decide +kernel
theorem d_M_split_14 : decode c_M_split 14 = .ok (.getfield 27, 3) := by decide +kernel
theorem d_M_split_17 : decode c_M_split 17 = .ok (.iload_n 1, 1) := by decide +kernel
theorem d_M_split_18 : decode c_M_split 18 = .ok (.baload, 1) := by decide +kernel
theorem d_M_split_19 : decode c_M_split 19 = .ok (.if_icmp .le 5, 3) := by decide +kernel
theorem d_M_split_22 : decode c_M_split 22 = .ok (.iconst (-1), 1) := by decide +kernel
theorem d_M_split_23 : decode c_M_split 23 = .ok (.ireturn, 1) := by decide +kernel
theorem d_M_split_24 : decode c_M_split 24 = .ok (.aload_n 0, 1) := by decide +kernel
theorem d_M_split_25 : decode c_M_split 25 = .ok (.getfield 30, 3) := by decide +kernel
theorem d_M_split_28 : decode c_M_split 28 = .ok (.bipush 118, 2) := by decide +kernel
theorem d_M_split_30 : decode c_M_split 30 = .ok (.if_icmp .le 6, 3) := by decide +kernel
theorem d_M_split_33 : decode c_M_split 33 = .ok (.bipush (-2), 2) := by decide +kernel
theorem d_M_split_35 : decode c_M_split 35 = .ok (.ireturn, 1) := by decide +kernel
theorem d_M_split_36 : decode c_M_split 36 = .ok (.aload_n 0, 1) := by decide +kernel
theorem d_M_split_37 : decode c_M_split 37 = .ok (.iload_n 1, 1) := by decide +kernel
theorem d_M_split_38 : decode c_M_split 38 = .ok (.invokevirtual 113, 3) := by decide +kernel
theorem d_M_split_41 : decode c_M_split 41 = .ok (.aload_n 0, 1) := by decide +kernel
theorem d_M_split_42 : decode c_M_split 42 = .ok (.iload_n 2, 1) := by decide +kernel
theorem d_M_split_43 : decode c_M_split 43 = .ok (.invokevirtual 132, 3) := by decide +kernel
theorem d_M_split_46 : decode c_M_split 46 = .ok (.aload_n 0, 1) := by decide +kernel
theorem d_M_split_47 : decode c_M_split 47 = .ok (.iconst 0, 1) := by decide +kernel
theorem d_M_split_48 : decode c_M_split 48 = .ok (.iload_n 2, 1) := by decide +kernel
theorem d_M_split_49 : decode c_M_split 49 = .ok (.invokevirtual 120, 3) := by decide +kernel
theorem d_M_split_52 : decode c_M_split 52 = .ok (.istore_n 3, 1) := by decide +kernel
theorem d_M_split_53 : decode c_M_split 53 = .ok (.aload_n 0, 1) := by decide +kernel
theorem d_M_split_54 : decode c_M_split 54 = .ok (.iload_n 2, 1) := by decide +kernel
theorem d_M_split_55 : decode c_M_split 55 = .ok (.aload_n 0, 1) := by decide +kernel
theorem d_M_split_56 : decode c_M_split 56 = .ok (.getfield 37, 3) := by decide +kernel
theorem d_M_split_59 : decode c_M_split 59 = .ok (.invokevirtual 120, 3) := by decide +kernel
theorem d_M_split_62 : decode c_M_split 62 = .ok (.pop, 1) := by decide +kernel
theorem d_M_split_63 : decode c_M_split 63 = .ok (.iload_n 3, 1) := by decide +kernel
theorem d_M_split_64 : decode c_M_split 64 = .ok (.ireturn, 1) := by decide +kernel
abbrev c_M_replace : ByteArray := prog_10_method_34_code
abbrev y_M_replace : MethodName := ⟨"FingerSpansModel", "replace", "(IIII)I"⟩
theorem k_M_replace : Cond.code y_M_replace c_M_replace 11 (some FieldType.int) ∈ lw_tbl := List.mem_of_getElem? (i := 690) (by decide +kernel)
theorem b_M_replace : x_ce y_M_replace c_M_replace 11 (some FieldType.int) 4 := ⟨k_M_replace, i_M, by decide +kernel⟩
theorem s_M_replace : Cond.instanceMethod y_M_replace ∈ lw_tbl := List.mem_of_getElem? (i := 688) (by decide +kernel)
theorem v_M_replace : Cond.selects "FingerSpansModel" y_M_replace y_M_replace ∈ lw_tbl := List.mem_of_getElem? (i := 689) (by decide +kernel)
theorem d_M_replace_0 : decode c_M_replace 0 = .ok (.aload_n 0, 1) := by decide +kernel
theorem d_M_replace_1 : decode c_M_replace 1 = .ok (.iload_n 1, 1) := by decide +kernel
theorem d_M_replace_2 : decode c_M_replace 2 = .ok (.invokevirtual 109, 3) := by decide +kernel
theorem d_M_replace_5 : decode c_M_replace 5 = .ok (.ifCond .ne 23, 3) := by decide +kernel
theorem d_M_replace_8 : decode c_M_replace 8 = .ok (.iload_n 2, 1) := by decide +kernel
theorem d_M_replace_9 : decode c_M_replace 9 = .ok (.ifCond .lt 19, 3) := by decide +kernel
theorem d_M_replace_12 : decode c_M_replace 12 = .ok (.iload_n 2, 1) := by decide +kernel
theorem d_M_replace_13 : decode c_M_replace 13 = .ok (.aload_n 0, 1) := by decide +kernel
theorem d_M_replace_14 : decode c_M_replace 14 = .ok (.getfield 27, 3) := by decide +kernel
theorem d_M_replace_17 : decode c_M_replace 17 = .ok (.iload_n 1, 1) := by decide +kernel
theorem d_M_replace_18 : decode c_M_replace 18 = .ok (.baload, 1) := by decide +kernel
theorem d_M_replace_19 : decode c_M_replace 19 = .ok (.if_icmp .ge 9, 3) := by decide +kernel
theorem d_M_replace_22 : decode c_M_replace 22 = .ok (.iload_n 3, 1) := by decide +kernel
theorem d_M_replace_23 : decode c_M_replace 23 = .ok (.iload 4, 2) := by decide +kernel
theorem d_M_replace_25 : decode c_M_replace 25 = .ok (.if_icmp .le 5, 3) := by decide +kernel
theorem d_M_replace_28 : decode c_M_replace 28 = .ok (.iconst (-1), 1) := by decide +kernel
theorem d_M_replace_29 : decode c_M_replace 29 = .ok (.ireturn, 1) := by decide +kernel
theorem d_M_replace_30 : decode c_M_replace 30 = .ok (.aload_n 0, 1) := by decide +kernel
theorem d_M_replace_31 : decode c_M_replace 31 = .ok (.getfield 30, 3) := by decide +kernel
theorem d_M_replace_34 : decode c_M_replace 34 = .ok (.bipush 120, 2) := by decide +kernel
theorem d_M_replace_36 : decode c_M_replace 36 = .ok (.if_icmp .lt 6, 3) := by decide +kernel
theorem d_M_replace_39 : decode c_M_replace 39 = .ok (.bipush (-2), 2) := by decide +kernel
theorem d_M_replace_41 : decode c_M_replace 41 = .ok (.ireturn, 1) := by decide +kernel
theorem d_M_replace_42 : decode c_M_replace 42 = .ok (.aload_n 0, 1) := by decide +kernel
theorem d_M_replace_43 : decode c_M_replace 43 = .ok (.iload_n 1, 1) := by decide +kernel
theorem d_M_replace_44 : decode c_M_replace 44 = .ok (.invokevirtual 113, 3) := by decide +kernel
theorem d_M_replace_47 : decode c_M_replace 47 = .ok (.aload_n 0, 1) := by decide +kernel
theorem d_M_replace_48 : decode c_M_replace 48 = .ok (.getfield 34, 3) := by decide +kernel
theorem d_M_replace_51 : decode c_M_replace 51 = .ok (.iload_n 2, 1) := by decide +kernel
theorem d_M_replace_52 : decode c_M_replace 52 = .ok (.laload, 1) := by decide +kernel
theorem d_M_replace_53 : decode c_M_replace 53 = .ok (.invokestatic 40, 3) := by decide +kernel
theorem d_M_replace_56 : decode c_M_replace 56 = .ok (.istore 5, 2) := by decide +kernel
theorem d_M_replace_58 : decode c_M_replace 58 = .ok (.iconst 0, 1) := by decide +kernel
theorem d_M_replace_59 : decode c_M_replace 59 = .ok (.istore 6, 2) := by decide +kernel
theorem d_M_replace_61 : decode c_M_replace 61 = .ok (.iconst 0, 1) := by decide +kernel
theorem d_M_replace_62 : decode c_M_replace 62 = .ok (.istore 7, 2) := by decide +kernel
theorem d_M_replace_64 : decode c_M_replace 64 = .ok (.aload_n 0, 1) := by decide +kernel
theorem d_M_replace_65 : decode c_M_replace 65 = .ok (.getfield 37, 3) := by decide +kernel
theorem d_M_replace_68 : decode c_M_replace 68 = .ok (.istore 8, 2) := by decide +kernel
theorem d_M_replace_70 : decode c_M_replace 70 = .ok (.iload 5, 2) := by decide +kernel
theorem d_M_replace_72 : decode c_M_replace 72 = .ok (.istore 9, 2) := by decide +kernel
theorem d_M_replace_74 : decode c_M_replace 74 = .ok (.iload 9, 2) := by decide +kernel
theorem d_M_replace_76 : decode c_M_replace 76 = .ok (.ifCond .le 155, 3) := by decide +kernel
theorem d_M_replace_79 : decode c_M_replace 79 = .ok (.iload 9, 2) := by decide +kernel
theorem d_M_replace_81 : decode c_M_replace 81 = .ok (.iload 5, 2) := by decide +kernel
theorem d_M_replace_83 : decode c_M_replace 83 = .ok (.if_icmp .ne 13, 3) := by decide +kernel
theorem d_M_replace_86 : decode c_M_replace 86 = .ok (.aload_n 0, 1) := by decide +kernel
theorem d_M_replace_87 : decode c_M_replace 87 = .ok (.iload_n 2, 1) := by decide +kernel
theorem d_M_replace_88 : decode c_M_replace 88 = .ok (.iload 9, 2) := by decide +kernel
theorem d_M_replace_90 : decode c_M_replace 90 = .ok (.invokevirtual 135, 3) := by decide +kernel
theorem d_M_replace_93 : decode c_M_replace 93 = .ok (.goto 5, 3) := by decide +kernel
theorem d_M_replace_96 : decode c_M_replace 96 = .ok (.iload 7, 2) := by decide +kernel
theorem d_M_replace_98 : decode c_M_replace 98 = .ok (.istore 6, 2) := by decide +kernel
theorem d_M_replace_100 : decode c_M_replace 100 = .ok (.aload_n 0, 1) := by decide +kernel
theorem d_M_replace_101 : decode c_M_replace 101 = .ok (.iload 6, 2) := by decide +kernel
theorem d_M_replace_103 : decode c_M_replace 103 = .ok (.iload 9, 2) := by decide +kernel
theorem d_M_replace_105 : decode c_M_replace 105 = .ok (.invokevirtual 60, 3) := by decide +kernel
theorem d_M_replace_108 : decode c_M_replace 108 = .ok (.iload_n 2, 1) := by decide +kernel
theorem d_M_replace_109 : decode c_M_replace 109 = .ok (.if_icmp .gt 16, 3) := by decide +kernel
theorem d_M_replace_112 : decode c_M_replace 112 = .ok (.aload_n 0, 1) := by decide +kernel
theorem d_M_replace_113 : decode c_M_replace 113 = .ok (.iload 6, 2) := by decide +kernel
theorem d_M_replace_115 : decode c_M_replace 115 = .ok (.iload 9, 2) := by decide +kernel
theorem d_M_replace_117 : decode c_M_replace 117 = .ok (.invokevirtual 60, 3) := by decide +kernel
theorem d_M_replace_120 : decode c_M_replace 120 = .ok (.istore 6, 2) := by decide +kernel
theorem d_M_replace_122 : decode c_M_replace 122 = .ok (.goto (-22), 3) := by decide +kernel
theorem d_M_replace_125 : decode c_M_replace 125 = .ok (.aload_n 0, 1) := by decide +kernel
theorem d_M_replace_126 : decode c_M_replace 126 = .ok (.iload 6, 2) := by decide +kernel
theorem d_M_replace_128 : decode c_M_replace 128 = .ok (.iload 9, 2) := by decide +kernel
theorem d_M_replace_130 : decode c_M_replace 130 = .ok (.invokevirtual 60, 3) := by decide +kernel
theorem d_M_replace_133 : decode c_M_replace 133 = .ok (.istore 8, 2) := by decide +kernel
theorem d_M_replace_135 : decode c_M_replace 135 = .ok (.iload 6, 2) := by decide +kernel
theorem d_M_replace_137 : decode c_M_replace 137 = .ok (.istore 7, 2) := by decide +kernel
theorem d_M_replace_139 : decode c_M_replace 139 = .ok (.aload_n 0, 1) := by decide +kernel
theorem d_M_replace_140 : decode c_M_replace 140 = .ok (.dup, 1) := by decide +kernel
theorem d_M_replace_141 : decode c_M_replace 141 = .ok (.getfield 53, 3) := by decide +kernel
theorem d_M_replace_144 : decode c_M_replace 144 = .ok (.iconst 1, 1) := by decide +kernel
theorem d_M_replace_145 : decode c_M_replace 145 = .ok (.iadd, 1) := by decide +kernel
theorem d_M_replace_146 : decode c_M_replace 146 = .ok (.putfield 53, 3) := by decide +kernel
theorem d_M_replace_149 : decode c_M_replace 149 = .ok (.aload_n 0, 1) := by decide +kernel
theorem d_M_replace_150 : decode c_M_replace 150 = .ok (.getfield 16, 3) := by decide +kernel
theorem d_M_replace_153 : decode c_M_replace 153 = .ok (.aload_n 0, 1) := by decide +kernel
theorem d_M_replace_154 : decode c_M_replace 154 = .ok (.getfield 53, 3) := by decide +kernel
theorem d_M_replace_157 : decode c_M_replace 157 = .ok (.iload 8, 2) := by decide +kernel
theorem d_M_replace_159 : decode c_M_replace 159 = .ok (.iload 7, 2) := by decide +kernel
theorem d_M_replace_161 : decode c_M_replace 161 = .ok (.isub, 1) := by decide +kernel
theorem d_M_replace_162 : decode c_M_replace 162 = .ok (.i2b, 1) := by decide +kernel
theorem d_M_replace_163 : decode c_M_replace 163 = .ok (.bastore, 1) := by decide +kernel
theorem d_M_replace_164 : decode c_M_replace 164 = .ok (.iload 7, 2) := by decide +kernel
theorem d_M_replace_166 : decode c_M_replace 166 = .ok (.istore 10, 2) := by decide +kernel
theorem d_M_replace_168 : decode c_M_replace 168 = .ok (.iload 10, 2) := by decide +kernel
theorem d_M_replace_170 : decode c_M_replace 170 = .ok (.iload 8, 2) := by decide +kernel
theorem d_M_replace_172 : decode c_M_replace 172 = .ok (.if_icmp .ge 53, 3) := by decide +kernel
theorem d_M_replace_175 : decode c_M_replace 175 = .ok (.aload_n 0, 1) := by decide +kernel
theorem d_M_replace_176 : decode c_M_replace 176 = .ok (.getfield 34, 3) := by decide +kernel
theorem d_M_replace_179 : decode c_M_replace 179 = .ok (.iload 10, 2) := by decide +kernel
theorem d_M_replace_181 : decode c_M_replace 181 = .ok (.aload_n 0, 1) := by decide +kernel
theorem d_M_replace_182 : decode c_M_replace 182 = .ok (.getfield 34, 3) := by decide +kernel
theorem d_M_replace_185 : decode c_M_replace 185 = .ok (.iload 10, 2) := by decide +kernel
theorem d_M_replace_187 : decode c_M_replace 187 = .ok (.laload, 1) := by decide +kernel
theorem d_M_replace_188 : decode c_M_replace 188 = .ok (.ldc2_w 138, 3) := by decide +kernel
theorem d_M_replace_191 : decode c_M_replace 191 = .ok (.bipush 13, 2) := by decide +kernel
theorem d_M_replace_193 : decode c_M_replace 193 = .ok (.iload 9, 2) := by decide +kernel
theorem d_M_replace_195 : decode c_M_replace 195 = .ok (.imul, 1) := by decide +kernel
theorem d_M_replace_196 : decode c_M_replace 196 = .ok (.iconst 1, 1) := by decide +kernel
theorem d_M_replace_197 : decode c_M_replace 197 = .ok (.isub, 1) := by decide +kernel
theorem d_M_replace_198 : decode c_M_replace 198 = .ok (.lshl, 1) := by decide +kernel
theorem d_M_replace_199 : decode c_M_replace 199 = .ok (.ldc2_w 140, 3) := by decide +kernel
theorem d_M_replace_202 : decode c_M_replace 202 = .ok (.lxor, 1) := by decide +kernel
theorem d_M_replace_203 : decode c_M_replace 203 = .ok (.land, 1) := by decide +kernel
theorem d_M_replace_204 : decode c_M_replace 204 = .ok (.aload_n 0, 1) := by decide +kernel
theorem d_M_replace_205 : decode c_M_replace 205 = .ok (.getfield 53, 3) := by decide +kernel
theorem d_M_replace_208 : decode c_M_replace 208 = .ok (.i2l, 1) := by decide +kernel
theorem d_M_replace_209 : decode c_M_replace 209 = .ok (.bipush 13, 2) := by decide +kernel
theorem d_M_replace_211 : decode c_M_replace 211 = .ok (.iload 9, 2) := by decide +kernel
theorem d_M_replace_213 : decode c_M_replace 213 = .ok (.imul, 1) := by decide +kernel
theorem d_M_replace_214 : decode c_M_replace 214 = .ok (.iconst 1, 1) := by decide +kernel
theorem d_M_replace_215 : decode c_M_replace 215 = .ok (.isub, 1) := by decide +kernel
theorem d_M_replace_216 : decode c_M_replace 216 = .ok (.lshl, 1) := by decide +kernel
theorem d_M_replace_217 : decode c_M_replace 217 = .ok (.lor, 1) := by decide +kernel
theorem d_M_replace_218 : decode c_M_replace 218 = .ok (.lastore, 1) := by decide +kernel
theorem d_M_replace_219 : decode c_M_replace 219 = .ok (.iinc 10 1, 3) := by decide +kernel
theorem d_M_replace_222 : decode c_M_replace 222 = .ok (.goto (-54), 3) := by decide +kernel
theorem d_M_replace_225 : decode c_M_replace 225 = .ok (.iinc 9 (-1), 3) := by decide +kernel
theorem d_M_replace_228 : decode c_M_replace 228 = .ok (.goto (-154), 3) := by decide +kernel
theorem d_M_replace_231 : decode c_M_replace 231 = .ok (.aload_n 0, 1) := by decide +kernel
theorem d_M_replace_232 : decode c_M_replace 232 = .ok (.getfield 7, 3) := by decide +kernel
theorem d_M_replace_235 : decode c_M_replace 235 = .ok (.aload_n 0, 1) := by decide +kernel
theorem d_M_replace_236 : decode c_M_replace 236 = .ok (.getfield 104, 3) := by decide +kernel
theorem d_M_replace_239 : decode c_M_replace 239 = .ok (.iload_n 3, 1) := by decide +kernel
theorem d_M_replace_240 : decode c_M_replace 240 = .ok (.iastore, 1) := by decide +kernel
theorem d_M_replace_241 : decode c_M_replace 241 = .ok (.aload_n 0, 1) := by decide +kernel
theorem d_M_replace_242 : decode c_M_replace 242 = .ok (.getfield 13, 3) := by decide +kernel
theorem d_M_replace_245 : decode c_M_replace 245 = .ok (.aload_n 0, 1) := by decide +kernel
theorem d_M_replace_246 : decode c_M_replace 246 = .ok (.getfield 104, 3) := by decide +kernel
theorem d_M_replace_249 : decode c_M_replace 249 = .ok (.iload 4, 2) := by decide +kernel
theorem d_M_replace_251 : decode c_M_replace 251 = .ok (.iastore, 1) := by decide +kernel
theorem d_M_replace_252 : decode c_M_replace 252 = .ok (.aload_n 0, 1) := by decide +kernel
theorem d_M_replace_253 : decode c_M_replace 253 = .ok (.getfield 34, 3) := by decide +kernel
theorem d_M_replace_256 : decode c_M_replace 256 = .ok (.iload_n 2, 1) := by decide +kernel
theorem d_M_replace_257 : decode c_M_replace 257 = .ok (.aload_n 0, 1) := by decide +kernel
theorem d_M_replace_258 : decode c_M_replace 258 = .ok (.getfield 34, 3) := by decide +kernel
theorem d_M_replace_261 : decode c_M_replace 261 = .ok (.iload_n 2, 1) := by decide +kernel
theorem d_M_replace_262 : decode c_M_replace 262 = .ok (.laload, 1) := by decide +kernel
theorem d_M_replace_263 : decode c_M_replace 263 = .ok (.ldc2_w 142, 3) := by decide +kernel
theorem d_M_replace_266 : decode c_M_replace 266 = .ok (.land, 1) := by decide +kernel
theorem d_M_replace_267 : decode c_M_replace 267 = .ok (.aload_n 0, 1) := by decide +kernel
theorem d_M_replace_268 : decode c_M_replace 268 = .ok (.getfield 104, 3) := by decide +kernel
theorem d_M_replace_271 : decode c_M_replace 271 = .ok (.i2l, 1) := by decide +kernel
theorem d_M_replace_272 : decode c_M_replace 272 = .ok (.lor, 1) := by decide +kernel
theorem d_M_replace_273 : decode c_M_replace 273 = .ok (.lastore, 1) := by decide +kernel
theorem d_M_replace_274 : decode c_M_replace 274 = .ok (.aload_n 0, 1) := by decide +kernel
theorem d_M_replace_275 : decode c_M_replace 275 = .ok (.dup, 1) := by decide +kernel
theorem d_M_replace_276 : decode c_M_replace 276 = .ok (.getfield 104, 3) := by decide +kernel
theorem d_M_replace_279 : decode c_M_replace 279 = .ok (.iconst 1, 1) := by decide +kernel
theorem d_M_replace_280 : decode c_M_replace 280 = .ok (.iadd, 1) := by decide +kernel
theorem d_M_replace_281 : decode c_M_replace 281 = .ok (.putfield 104, 3) := by decide +kernel
theorem d_M_replace_284 : decode c_M_replace 284 = .ok (.aload_n 0, 1) := by decide +kernel
theorem d_M_replace_285 : decode c_M_replace 285 = .ok (.iconst 0, 1) := by decide +kernel
theorem d_M_replace_286 : decode c_M_replace 286 = .ok (.aload_n 0, 1) := by decide +kernel
theorem d_M_replace_287 : decode c_M_replace 287 = .ok (.getfield 37, 3) := by decide +kernel
theorem d_M_replace_290 : decode c_M_replace 290 = .ok (.invokevirtual 120, 3) := by decide +kernel
theorem d_M_replace_293 : decode c_M_replace 293 = .ok (.ireturn, 1) := by decide +kernel
abbrev c_M_first : ByteArray := prog_10_method_35_code
abbrev y_M_first : MethodName := ⟨"FingerSpansModel", "first", "(II)I"⟩
theorem k_M_first : Cond.code y_M_first c_M_first 4 (some FieldType.int) ∈ lw_tbl := List.mem_of_getElem? (i := 694) (by decide +kernel)
theorem b_M_first : x_ce y_M_first c_M_first 4 (some FieldType.int) 2 := ⟨k_M_first, i_M, by decide +kernel⟩
theorem s_M_first : Cond.instanceMethod y_M_first ∈ lw_tbl := List.mem_of_getElem? (i := 693) (by decide +kernel)
theorem v_M_first : Cond.selects "FingerSpansModel" y_M_first y_M_first ∈ lw_tbl := List.mem_of_getElem? (i := 54) (by decide +kernel)
theorem d_M_first_0 : decode c_M_first 0 = .ok (.iload_n 1, 1) := by decide +kernel
theorem d_M_first_1 : decode c_M_first 1 = .ok (.istore_n 3, 1) := by decide +kernel
theorem d_M_first_2 : decode c_M_first 2 = .ok (.aload_n 0, 1) := by decide +kernel
theorem d_M_first_3 : decode c_M_first 3 = .ok (.iload_n 3, 1) := by decide +kernel
theorem d_M_first_4 : decode c_M_first 4 = .ok (.iconst 1, 1) := by decide +kernel
theorem d_M_first_5 : decode c_M_first 5 = .ok (.isub, 1) := by decide +kernel
theorem d_M_first_6 : decode c_M_first 6 = .ok (.iload_n 2, 1) := by decide +kernel
theorem d_M_first_7 : decode c_M_first 7 = .ok (.aload_n 0, 1) := by decide +kernel
theorem d_M_first_8 : decode c_M_first 8 = .ok (.getfield 34, 3) := by decide +kernel
theorem d_M_first_11 : decode c_M_first 11 = .ok (.iload_n 1, 1) := by decide +kernel
theorem d_M_first_12 : decode c_M_first 12 = .ok (.laload, 1) := by decide +kernel
theorem d_M_first_13 : decode c_M_first 13 = .ok (.invokestatic 44, 3) := by decide +kernel
theorem d_M_first_16 : decode c_M_first 16 = .ok (.invokevirtual 64, 3) := by decide +kernel
theorem d_M_first_19 : decode c_M_first 19 = .ok (.ifCond .eq 9, 3) := by decide +kernel
theorem d_M_first_22 : decode c_M_first 22 = .ok (.iinc 3 (-1), 3) := by decide +kernel
theorem d_M_first_25 : decode c_M_first 25 = .ok (.goto (-23), 3) := by decide +kernel
theorem d_M_first_28 : decode c_M_first 28 = .ok (.iload_n 3, 1) := by decide +kernel
theorem d_M_first_29 : decode c_M_first 29 = .ok (.ireturn, 1) := by decide +kernel
abbrev c_M_insert : ByteArray := prog_10_method_36_code
abbrev y_M_insert : MethodName := ⟨"FingerSpansModel", "insert", "(III)I"⟩
theorem k_M_insert : Cond.code y_M_insert c_M_insert 5 (some FieldType.int) ∈ lw_tbl := List.mem_of_getElem? (i := 701) (by decide +kernel)
theorem b_M_insert : x_ce y_M_insert c_M_insert 5 (some FieldType.int) 3 := ⟨k_M_insert, i_M, by decide +kernel⟩
theorem s_M_insert : Cond.instanceMethod y_M_insert ∈ lw_tbl := List.mem_of_getElem? (i := 699) (by decide +kernel)
theorem v_M_insert : Cond.selects "FingerSpansModel" y_M_insert y_M_insert ∈ lw_tbl := List.mem_of_getElem? (i := 700) (by decide +kernel)
theorem d_M_insert_0 : decode c_M_insert 0 = .ok (.aload_n 0, 1) := by decide +kernel
theorem d_M_insert_1 : decode c_M_insert 1 = .ok (.iload_n 1, 1) := by decide +kernel
theorem d_M_insert_2 : decode c_M_insert 2 = .ok (.invokevirtual 109, 3) := by decide +kernel
theorem d_M_insert_5 : decode c_M_insert 5 = .ok (.ifCond .ne 8, 3) := by decide +kernel
theorem d_M_insert_8 : decode c_M_insert 8 = .ok (.iload_n 2, 1) := by decide +kernel
theorem d_M_insert_9 : decode c_M_insert 9 = .ok (.iload_n 3, 1) := by decide +kernel
theorem d_M_insert_10 : decode c_M_insert 10 = .ok (.if_icmp .le 5, 3) := by decide +kernel
theorem d_M_insert_13 : decode c_M_insert 13 = .ok (.iconst (-1), 1) := by decide +kernel
theorem d_M_insert_14 : decode c_M_insert 14 = .ok (.ireturn, 1) := by decide +kernel
theorem d_M_insert_15 : decode c_M_insert 15 = .ok (.aload_n 0, 1) := by decide +kernel
theorem d_M_insert_16 : decode c_M_insert 16 = .ok (.getfield 30, 3) := by decide +kernel
theorem d_M_insert_19 : decode c_M_insert 19 = .ok (.bipush 120, 2) := by decide +kernel
theorem d_M_insert_21 : decode c_M_insert 21 = .ok (.if_icmp .ge 14, 3) := by decide +kernel
theorem d_M_insert_24 : decode c_M_insert 24 = .ok (.aload_n 0, 1) := by decide +kernel
theorem d_M_insert_25 : decode c_M_insert 25 = .ok (.getfield 27, 3) := by decide +kernel
theorem d_M_insert_28 : decode c_M_insert 28 = .ok (.iload_n 1, 1) := by decide +kernel
theorem d_M_insert_29 : decode c_M_insert 29 = .ok (.baload, 1) := by decide +kernel
theorem d_M_insert_30 : decode c_M_insert 30 = .ok (.bipush 40, 2) := by decide +kernel
theorem d_M_insert_32 : decode c_M_insert 32 = .ok (.if_icmp .lt 6, 3) := by decide +kernel
theorem d_M_insert_35 : decode c_M_insert 35 = .ok (.bipush (-2), 2) := by decide +kernel
theorem d_M_insert_37 : decode c_M_insert 37 = .ok (.ireturn, 1) := by decide +kernel
theorem d_M_insert_38 : decode c_M_insert 38 = .ok (.aload_n 0, 1) := by decide +kernel
theorem d_M_insert_39 : decode c_M_insert 39 = .ok (.iload_n 1, 1) := by decide +kernel
theorem d_M_insert_40 : decode c_M_insert 40 = .ok (.invokevirtual 113, 3) := by decide +kernel
theorem d_M_insert_43 : decode c_M_insert 43 = .ok (.iconst 0, 1) := by decide +kernel
theorem d_M_insert_44 : decode c_M_insert 44 = .ok (.istore 4, 2) := by decide +kernel
theorem d_M_insert_46 : decode c_M_insert 46 = .ok (.iload 4, 2) := by decide +kernel
theorem d_M_insert_48 : decode c_M_insert 48 = .ok (.aload_n 0, 1) := by decide +kernel
theorem d_M_insert_49 : decode c_M_insert 49 = .ok (.getfield 37, 3) := by decide +kernel
theorem d_M_insert_52 : decode c_M_insert 52 = .ok (.if_icmp .ge 28, 3) := by decide +kernel
theorem d_M_insert_55 : decode c_M_insert 55 = .ok (.aload_n 0, 1) := by decide +kernel
theorem d_M_insert_56 : decode c_M_insert 56 = .ok (.getfield 7, 3) := by decide +kernel
theorem d_M_insert_59 : decode c_M_insert 59 = .ok (.aload_n 0, 1) := by decide +kernel
theorem d_M_insert_60 : decode c_M_insert 60 = .ok (.getfield 34, 3) := by decide +kernel
theorem d_M_insert_63 : decode c_M_insert 63 = .ok (.iload 4, 2) := by decide +kernel
theorem d_M_insert_65 : decode c_M_insert 65 = .ok (.laload, 1) := by decide +kernel
theorem d_M_insert_66 : decode c_M_insert 66 = .ok (.invokestatic 144, 3) := by decide +kernel
theorem d_M_insert_69 : decode c_M_insert 69 = .ok (.iaload, 1) := by decide +kernel
theorem d_M_insert_70 : decode c_M_insert 70 = .ok (.iload_n 2, 1) := by decide +kernel
theorem d_M_insert_71 : decode c_M_insert 71 = .ok (.if_icmp .ge 9, 3) := by decide +kernel
theorem d_M_insert_74 : decode c_M_insert 74 = .ok (.iinc 4 1, 3) := by decide +kernel
theorem d_M_insert_77 : decode c_M_insert 77 = .ok (.goto (-31), 3) := by decide +kernel
theorem d_M_insert_80 : decode c_M_insert 80 = .ok (.aload_n 0, 1) := by decide +kernel
theorem d_M_insert_81 : decode c_M_insert 81 = .ok (.iload 4, 2) := by decide +kernel
theorem d_M_insert_83 : decode c_M_insert 83 = .ok (.invokevirtual 132, 3) := by decide +kernel
theorem d_M_insert_86 : decode c_M_insert 86 = .ok (.aload_n 0, 1) := by decide +kernel
theorem d_M_insert_87 : decode c_M_insert 87 = .ok (.iload 4, 2) := by decide +kernel
theorem d_M_insert_89 : decode c_M_insert 89 = .ok (.iload_n 2, 1) := by decide +kernel
theorem d_M_insert_90 : decode c_M_insert 90 = .ok (.iload_n 3, 1) := by decide +kernel
theorem d_M_insert_91 : decode c_M_insert 91 = .ok (.invokevirtual 117, 3) := by decide +kernel
theorem d_M_insert_94 : decode c_M_insert 94 = .ok (.aload_n 0, 1) := by decide +kernel
theorem d_M_insert_95 : decode c_M_insert 95 = .ok (.iload 4, 2) := by decide +kernel
theorem d_M_insert_97 : decode c_M_insert 97 = .ok (.iconst 0, 1) := by decide +kernel
theorem d_M_insert_98 : decode c_M_insert 98 = .ok (.invokevirtual 98, 3) := by decide +kernel
theorem d_M_insert_101 : decode c_M_insert 101 = .ok (.aload_n 0, 1) := by decide +kernel
theorem d_M_insert_102 : decode c_M_insert 102 = .ok (.iload 4, 2) := by decide +kernel
theorem d_M_insert_104 : decode c_M_insert 104 = .ok (.invokevirtual 126, 3) := by decide +kernel
theorem d_M_insert_107 : decode c_M_insert 107 = .ok (.aload_n 0, 1) := by decide +kernel
theorem d_M_insert_108 : decode c_M_insert 108 = .ok (.iconst 0, 1) := by decide +kernel
theorem d_M_insert_109 : decode c_M_insert 109 = .ok (.aload_n 0, 1) := by decide +kernel
theorem d_M_insert_110 : decode c_M_insert 110 = .ok (.getfield 37, 3) := by decide +kernel
theorem d_M_insert_113 : decode c_M_insert 113 = .ok (.invokevirtual 120, 3) := by decide +kernel
theorem d_M_insert_116 : decode c_M_insert 116 = .ok (.ireturn, 1) := by decide +kernel
abbrev c_M_removeTop : ByteArray := prog_10_method_37_code
abbrev y_M_removeTop : MethodName := ⟨"FingerSpansModel", "removeTop", "(I)I"⟩
theorem k_M_removeTop : Cond.code y_M_removeTop c_M_removeTop 4 (some FieldType.int) ∈ lw_tbl := List.mem_of_getElem? (i := 708) (by decide +kernel)
theorem b_M_removeTop : x_ce y_M_removeTop c_M_removeTop 4 (some FieldType.int) 1 := ⟨k_M_removeTop, i_M, by decide +kernel⟩
theorem s_M_removeTop : Cond.instanceMethod y_M_removeTop ∈ lw_tbl := List.mem_of_getElem? (i := 706) (by decide +kernel)
theorem v_M_removeTop : Cond.selects "FingerSpansModel" y_M_removeTop y_M_removeTop ∈ lw_tbl := List.mem_of_getElem? (i := 707) (by decide +kernel)
theorem d_M_removeTop_0 : decode c_M_removeTop 0 = .ok (.aload_n 0, 1) := by decide +kernel
theorem d_M_removeTop_1 : decode c_M_removeTop 1 = .ok (.iload_n 1, 1) := by decide +kernel
theorem d_M_removeTop_2 : decode c_M_removeTop 2 = .ok (.invokevirtual 109, 3) := by decide +kernel
theorem d_M_removeTop_5 : decode c_M_removeTop 5 = .ok (.ifCond .ne 12, 3) := by decide +kernel
theorem d_M_removeTop_8 : decode c_M_removeTop 8 = .ok (.aload_n 0, 1) := by decide +kernel
theorem d_M_removeTop_9 : decode c_M_removeTop 9 = .ok (.getfield 27, 3) := by decide +kernel
theorem d_M_removeTop_12 : decode c_M_removeTop 12 = .ok (.iload_n 1, 1) := by decide +kernel
theorem d_M_removeTop_13 : decode c_M_removeTop 13 = .ok (.baload, 1) := by decide +kernel
theorem d_M_removeTop_14 : decode c_M_removeTop 14 = .ok (.ifCond .ne 5, 3) := by decide +kernel
theorem d_M_removeTop_17 : decode c_M_removeTop 17 = .ok (.iconst (-1), 1) := by decide +kernel
theorem d_M_removeTop_18 : decode c_M_removeTop 18 = .ok (.ireturn, 1) := by decide +kernel
theorem d_M_removeTop_19 : decode c_M_removeTop 19 = .ok (.aload_n 0, 1) := by decide +kernel
theorem d_M_removeTop_20 : decode c_M_removeTop 20 = .ok (.getfield 30, 3) := by decide +kernel
theorem d_M_removeTop_23 : decode c_M_removeTop 23 = .ok (.bipush 120, 2) := by decide +kernel
theorem d_M_removeTop_25 : decode c_M_removeTop 25 = .ok (.if_icmp .lt 6, 3) := by decide +kernel
theorem d_M_removeTop_28 : decode c_M_removeTop 28 = .ok (.bipush (-2), 2) := by decide +kernel
theorem d_M_removeTop_30 : decode c_M_removeTop 30 = .ok (.ireturn, 1) := by decide +kernel
theorem d_M_removeTop_31 : decode c_M_removeTop 31 = .ok (.aload_n 0, 1) := by decide +kernel
theorem d_M_removeTop_32 : decode c_M_removeTop 32 = .ok (.iload_n 1, 1) := by decide +kernel
theorem d_M_removeTop_33 : decode c_M_removeTop 33 = .ok (.invokevirtual 113, 3) := by decide +kernel
theorem d_M_removeTop_36 : decode c_M_removeTop 36 = .ok (.iconst 0, 1) := by decide +kernel
theorem d_M_removeTop_37 : decode c_M_removeTop 37 = .ok (.istore_n 2, 1) := by decide +kernel
theorem d_M_removeTop_38 : decode c_M_removeTop 38 = .ok (.iconst 1, 1) := by decide +kernel
theorem d_M_removeTop_39 : decode c_M_removeTop 39 = .ok (.istore_n 3, 1) := by decide +kernel
theorem d_M_removeTop_40 : decode c_M_removeTop 40 = .ok (.iload_n 3, 1) := by decide +kernel
theorem d_M_removeTop_41 : decode c_M_removeTop 41 = .ok (.aload_n 0, 1) := by decide +kernel
theorem d_M_removeTop_42 : decode c_M_removeTop 42 = .ok (.getfield 37, 3) := by decide +kernel
theorem d_M_removeTop_45 : decode c_M_removeTop 45 = .ok (.if_icmp .ge 42, 3) := by decide +kernel
theorem d_M_removeTop_48 : decode c_M_removeTop 48 = .ok (.aload_n 0, 1) := by decide +kernel
theorem d_M_removeTop_49 : decode c_M_removeTop 49 = .ok (.getfield 13, 3) := by decide +kernel
theorem d_M_removeTop_52 : decode c_M_removeTop 52 = .ok (.aload_n 0, 1) := by decide +kernel
theorem d_M_removeTop_53 : decode c_M_removeTop 53 = .ok (.getfield 34, 3) := by decide +kernel
theorem d_M_removeTop_56 : decode c_M_removeTop 56 = .ok (.iload_n 3, 1) := by decide +kernel
theorem d_M_removeTop_57 : decode c_M_removeTop 57 = .ok (.laload, 1) := by decide +kernel
theorem d_M_removeTop_58 : decode c_M_removeTop 58 = .ok (.invokestatic 144, 3) := by decide +kernel
theorem d_M_removeTop_61 : decode c_M_removeTop 61 = .ok (.iaload, 1) := by decide +kernel
theorem d_M_removeTop_62 : decode c_M_removeTop 62 = .ok (.aload_n 0, 1) := by decide +kernel
theorem d_M_removeTop_63 : decode c_M_removeTop 63 = .ok (.getfield 13, 3) := by decide +kernel
theorem d_M_removeTop_66 : decode c_M_removeTop 66 = .ok (.aload_n 0, 1) := by decide +kernel
theorem d_M_removeTop_67 : decode c_M_removeTop 67 = .ok (.getfield 34, 3) := by decide +kernel
theorem d_M_removeTop_70 : decode c_M_removeTop 70 = .ok (.iload_n 2, 1) := by decide +kernel
theorem d_M_removeTop_71 : decode c_M_removeTop 71 = .ok (.laload, 1) := by decide +kernel
theorem d_M_removeTop_72 : decode c_M_removeTop 72 = .ok (.invokestatic 144, 3) := by decide +kernel
theorem d_M_removeTop_75 : decode c_M_removeTop 75 = .ok (.iaload, 1) := by decide +kernel
theorem d_M_removeTop_76 : decode c_M_removeTop 76 = .ok (.if_icmp .le 5, 3) := by decide +kernel
theorem d_M_removeTop_79 : decode c_M_removeTop 79 = .ok (.iload_n 3, 1) := by decide +kernel
theorem d_M_removeTop_80 : decode c_M_removeTop 80 = .ok (.istore_n 2, 1) := by decide +kernel
theorem d_M_removeTop_81 : decode c_M_removeTop 81 = .ok (.iinc 3 1, 3) := by decide +kernel
theorem d_M_removeTop_84 : decode c_M_removeTop 84 = .ok (.goto (-44), 3) := by decide +kernel
theorem d_M_removeTop_87 : decode c_M_removeTop 87 = .ok (.aload_n 0, 1) := by decide +kernel
theorem d_M_removeTop_88 : decode c_M_removeTop 88 = .ok (.iload_n 2, 1) := by decide +kernel
theorem d_M_removeTop_89 : decode c_M_removeTop 89 = .ok (.invokevirtual 129, 3) := by decide +kernel
theorem d_M_removeTop_92 : decode c_M_removeTop 92 = .ok (.aload_n 0, 1) := by decide +kernel
theorem d_M_removeTop_93 : decode c_M_removeTop 93 = .ok (.iload_n 2, 1) := by decide +kernel
theorem d_M_removeTop_94 : decode c_M_removeTop 94 = .ok (.invokevirtual 123, 3) := by decide +kernel
theorem d_M_removeTop_97 : decode c_M_removeTop 97 = .ok (.aload_n 0, 1) := by decide +kernel
theorem d_M_removeTop_98 : decode c_M_removeTop 98 = .ok (.iload_n 2, 1) := by decide +kernel
theorem d_M_removeTop_99 : decode c_M_removeTop 99 = .ok (.invokevirtual 126, 3) := by decide +kernel
theorem d_M_removeTop_102 : decode c_M_removeTop 102 = .ok (.aload_n 0, 1) := by decide +kernel
theorem d_M_removeTop_103 : decode c_M_removeTop 103 = .ok (.iconst 0, 1) := by decide +kernel
theorem d_M_removeTop_104 : decode c_M_removeTop 104 = .ok (.aload_n 0, 1) := by decide +kernel
theorem d_M_removeTop_105 : decode c_M_removeTop 105 = .ok (.getfield 37, 3) := by decide +kernel
theorem d_M_removeTop_108 : decode c_M_removeTop 108 = .ok (.invokevirtual 120, 3) := by decide +kernel
theorem d_M_removeTop_111 : decode c_M_removeTop 111 = .ok (.ireturn, 1) := by decide +kernel
abbrev c_M_outside : ByteArray := prog_10_method_38_code
abbrev y_M_outside : MethodName := ⟨"FingerSpansModel", "outside", "(II)Z"⟩
theorem k_M_outside : Cond.code y_M_outside c_M_outside 3 (some FieldType.boolean) ∈ lw_tbl := List.mem_of_getElem? (i := 720) (by decide +kernel)
theorem b_M_outside : x_ce y_M_outside c_M_outside 3 (some FieldType.boolean) 2 := ⟨k_M_outside, i_M, by decide +kernel⟩
theorem s_M_outside : Cond.instanceMethod y_M_outside ∈ lw_tbl := List.mem_of_getElem? (i := 719) (by decide +kernel)
theorem v_M_outside : Cond.selects "FingerSpansModel" y_M_outside y_M_outside ∈ lw_tbl := List.mem_of_getElem? (i := 55) (by decide +kernel)
theorem d_M_outside_0 : decode c_M_outside 0 = .ok (.aload_n 0, 1) := by decide +kernel
theorem d_M_outside_1 : decode c_M_outside 1 = .ok (.iload_n 1, 1) := by decide +kernel
theorem d_M_outside_2 : decode c_M_outside 2 = .ok (.invokevirtual 109, 3) := by decide +kernel
theorem d_M_outside_5 : decode c_M_outside 5 = .ok (.ifCond .ne 17, 3) := by decide +kernel
theorem d_M_outside_8 : decode c_M_outside 8 = .ok (.iload_n 2, 1) := by decide +kernel
theorem d_M_outside_9 : decode c_M_outside 9 = .ok (.ifCond .lt 13, 3) := by decide +kernel
theorem d_M_outside_12 : decode c_M_outside 12 = .ok (.iload_n 2, 1) := by decide +kernel
theorem d_M_outside_13 : decode c_M_outside 13 = .ok (.aload_n 0, 1) := by decide +kernel
theorem d_M_outside_14 : decode c_M_outside 14 = .ok (.getfield 27, 3) := by decide +kernel
theorem d_M_outside_17 : decode c_M_outside 17 = .ok (.iload_n 1, 1) := by decide +kernel
theorem d_M_outside_18 : decode c_M_outside 18 = .ok (.baload, 1) := by decide +kernel
theorem d_M_outside_19 : decode c_M_outside 19 = .ok (.if_icmp .lt 7, 3) := by decide +kernel
theorem d_M_outside_22 : decode c_M_outside 22 = .ok (.iconst 1, 1) := by decide +kernel
theorem d_M_outside_23 : decode c_M_outside 23 = .ok (.goto 4, 3) := by decide +kernel
theorem d_M_outside_26 : decode c_M_outside 26 = .ok (.iconst 0, 1) := by decide +kernel
theorem d_M_outside_27 : decode c_M_outside 27 = .ok (.ireturn, 1) := by decide +kernel
abbrev c_M_length : ByteArray := prog_10_method_39_code
abbrev y_M_length : MethodName := ⟨"FingerSpansModel", "length", "(I)I"⟩
theorem k_M_length : Cond.code y_M_length c_M_length 2 (some FieldType.int) ∈ lw_tbl := List.mem_of_getElem? (i := 712) (by decide +kernel)
theorem b_M_length : x_ce y_M_length c_M_length 2 (some FieldType.int) 1 := ⟨k_M_length, i_M, by decide +kernel⟩
theorem s_M_length : Cond.instanceMethod y_M_length ∈ lw_tbl := List.mem_of_getElem? (i := 710) (by decide +kernel)
theorem v_M_length : Cond.selects "FingerSpansModel" y_M_length y_M_length ∈ lw_tbl := List.mem_of_getElem? (i := 711) (by decide +kernel)
theorem d_M_length_0 : decode c_M_length 0 = .ok (.aload_n 0, 1) := by decide +kernel
theorem d_M_length_1 : decode c_M_length 1 = .ok (.iload_n 1, 1) := by decide +kernel
theorem d_M_length_2 : decode c_M_length 2 = .ok (.invokevirtual 109, 3) := by decide +kernel
theorem d_M_length_5 : decode c_M_length 5 = .ok (.ifCond .eq 7, 3) := by decide +kernel
theorem d_M_length_8 : decode c_M_length 8 = .ok (.iconst (-1), 1) := by decide +kernel
theorem d_M_length_9 : decode c_M_length 9 = .ok (.goto 9, 3) := by decide +kernel
theorem d_M_length_12 : decode c_M_length 12 = .ok (.aload_n 0, 1) := by decide +kernel
theorem d_M_length_13 : decode c_M_length 13 = .ok (.getfield 27, 3) := by decide +kernel
theorem d_M_length_16 : decode c_M_length 16 = .ok (.iload_n 1, 1) := by decide +kernel
theorem d_M_length_17 : decode c_M_length 17 = .ok (.baload, 1) := by decide +kernel
theorem d_M_length_18 : decode c_M_length 18 = .ok (.ireturn, 1) := by decide +kernel
abbrev c_M_low : ByteArray := prog_10_method_40_code
abbrev y_M_low : MethodName := ⟨"FingerSpansModel", "low", "(II)I"⟩
theorem k_M_low : Cond.code y_M_low c_M_low 3 (some FieldType.int) ∈ lw_tbl := List.mem_of_getElem? (i := 716) (by decide +kernel)
theorem b_M_low : x_ce y_M_low c_M_low 3 (some FieldType.int) 2 := ⟨k_M_low, i_M, by decide +kernel⟩
theorem s_M_low : Cond.instanceMethod y_M_low ∈ lw_tbl := List.mem_of_getElem? (i := 714) (by decide +kernel)
theorem v_M_low : Cond.selects "FingerSpansModel" y_M_low y_M_low ∈ lw_tbl := List.mem_of_getElem? (i := 715) (by decide +kernel)
theorem d_M_low_0 : decode c_M_low 0 = .ok (.aload_n 0, 1) := by decide +kernel
theorem d_M_low_1 : decode c_M_low 1 = .ok (.iload_n 1, 1) := by decide +kernel
theorem d_M_low_2 : decode c_M_low 2 = .ok (.iload_n 2, 1) := by decide +kernel
theorem d_M_low_3 : decode c_M_low 3 = .ok (.invokevirtual 147, 3) := by decide +kernel
theorem d_M_low_6 : decode c_M_low 6 = .ok (.ifCond .eq 7, 3) := by decide +kernel
theorem d_M_low_9 : decode c_M_low 9 = .ok (.iconst 0, 1) := by decide +kernel
theorem d_M_low_10 : decode c_M_low 10 = .ok (.goto 22, 3) := by decide +kernel
theorem d_M_low_13 : decode c_M_low 13 = .ok (.aload_n 0, 1) := by decide +kernel
theorem d_M_low_14 : decode c_M_low 14 = .ok (.getfield 7, 3) := by decide +kernel
theorem d_M_low_17 : decode c_M_low 17 = .ok (.aload_n 0, 1) := by decide +kernel
theorem d_M_low_18 : decode c_M_low 18 = .ok (.getfield 23, 3) := by decide +kernel
theorem d_M_low_21 : decode c_M_low 21 = .ok (.bipush 40, 2) := by decide +kernel
theorem d_M_low_23 : decode c_M_low 23 = .ok (.iload_n 1, 1) := by decide +kernel
theorem d_M_low_24 : decode c_M_low 24 = .ok (.imul, 1) := by decide +kernel
theorem d_M_low_25 : decode c_M_low 25 = .ok (.iload_n 2, 1) := by decide +kernel
theorem d_M_low_26 : decode c_M_low 26 = .ok (.iadd, 1) := by decide +kernel
theorem d_M_low_27 : decode c_M_low 27 = .ok (.laload, 1) := by decide +kernel
theorem d_M_low_28 : decode c_M_low 28 = .ok (.invokestatic 144, 3) := by decide +kernel
theorem d_M_low_31 : decode c_M_low 31 = .ok (.iaload, 1) := by decide +kernel
theorem d_M_low_32 : decode c_M_low 32 = .ok (.ireturn, 1) := by decide +kernel
abbrev c_M_high : ByteArray := prog_10_method_41_code
abbrev y_M_high : MethodName := ⟨"FingerSpansModel", "high", "(II)I"⟩
theorem k_M_high : Cond.code y_M_high c_M_high 3 (some FieldType.int) ∈ lw_tbl := List.mem_of_getElem? (i := 724) (by decide +kernel)
theorem b_M_high : x_ce y_M_high c_M_high 3 (some FieldType.int) 2 := ⟨k_M_high, i_M, by decide +kernel⟩
theorem s_M_high : Cond.instanceMethod y_M_high ∈ lw_tbl := List.mem_of_getElem? (i := 722) (by decide +kernel)
theorem v_M_high : Cond.selects "FingerSpansModel" y_M_high y_M_high ∈ lw_tbl := List.mem_of_getElem? (i := 723) (by decide +kernel)
theorem d_M_high_0 : decode c_M_high 0 = .ok (.aload_n 0, 1) := by decide +kernel
theorem d_M_high_1 : decode c_M_high 1 = .ok (.iload_n 1, 1) := by decide +kernel
theorem d_M_high_2 : decode c_M_high 2 = .ok (.iload_n 2, 1) := by decide +kernel
theorem d_M_high_3 : decode c_M_high 3 = .ok (.invokevirtual 147, 3) := by decide +kernel
theorem d_M_high_6 : decode c_M_high 6 = .ok (.ifCond .eq 7, 3) := by decide +kernel
theorem d_M_high_9 : decode c_M_high 9 = .ok (.iconst 0, 1) := by decide +kernel
theorem d_M_high_10 : decode c_M_high 10 = .ok (.goto 22, 3) := by decide +kernel
theorem d_M_high_13 : decode c_M_high 13 = .ok (.aload_n 0, 1) := by decide +kernel
theorem d_M_high_14 : decode c_M_high 14 = .ok (.getfield 13, 3) := by decide +kernel
theorem d_M_high_17 : decode c_M_high 17 = .ok (.aload_n 0, 1) := by decide +kernel
theorem d_M_high_18 : decode c_M_high 18 = .ok (.getfield 23, 3) := by decide +kernel
theorem d_M_high_21 : decode c_M_high 21 = .ok (.bipush 40, 2) := by decide +kernel
theorem d_M_high_23 : decode c_M_high 23 = .ok (.iload_n 1, 1) := by decide +kernel
theorem d_M_high_24 : decode c_M_high 24 = .ok (.imul, 1) := by decide +kernel
theorem d_M_high_25 : decode c_M_high 25 = .ok (.iload_n 2, 1) := by decide +kernel
theorem d_M_high_26 : decode c_M_high 26 = .ok (.iadd, 1) := by decide +kernel
theorem d_M_high_27 : decode c_M_high 27 = .ok (.laload, 1) := by decide +kernel
theorem d_M_high_28 : decode c_M_high 28 = .ok (.invokestatic 144, 3) := by decide +kernel
theorem d_M_high_31 : decode c_M_high 31 = .ok (.iaload, 1) := by decide +kernel
theorem d_M_high_32 : decode c_M_high 32 = .ok (.ireturn, 1) := by decide +kernel
abbrev c_M_upTo : ByteArray := prog_10_method_42_code
abbrev y_M_upTo : MethodName := ⟨"FingerSpansModel", "upTo", "(III)J"⟩
theorem k_M_upTo : Cond.code y_M_upTo c_M_upTo 12 (some FieldType.long) ∈ lw_tbl := List.mem_of_getElem? (i := 732) (by decide +kernel)
theorem b_M_upTo : x_ce y_M_upTo c_M_upTo 12 (some FieldType.long) 3 := ⟨k_M_upTo, i_M, by decide +kernel⟩
theorem s_M_upTo : Cond.instanceMethod y_M_upTo ∈ lw_tbl := List.mem_of_getElem? (i := 731) (by decide +kernel)
theorem v_M_upTo : Cond.selects "FingerSpansModel" y_M_upTo y_M_upTo ∈ lw_tbl := List.mem_of_getElem? (i := 56) (by decide +kernel)
theorem d_M_upTo_0 : decode c_M_upTo 0 = .ok (.lconst 0, 1) := by decide +kernel
theorem d_M_upTo_1 : decode c_M_upTo 1 = .ok (.lstore 4, 2) := by decide +kernel
theorem d_M_upTo_3 : decode c_M_upTo 3 = .ok (.ldc2_w 150, 3) := by decide +kernel
theorem d_M_upTo_6 : decode c_M_upTo 6 = .ok (.lstore 6, 2) := by decide +kernel
theorem d_M_upTo_8 : decode c_M_upTo 8 = .ok (.iconst 0, 1) := by decide +kernel
theorem d_M_upTo_9 : decode c_M_upTo 9 = .ok (.istore 8, 2) := by decide +kernel
theorem d_M_upTo_11 : decode c_M_upTo 11 = .ok (.iload 8, 2) := by decide +kernel
theorem d_M_upTo_13 : decode c_M_upTo 13 = .ok (.iload_n 2, 1) := by decide +kernel
theorem d_M_upTo_14 : decode c_M_upTo 14 = .ok (.if_icmp .ge 93, 3) := by decide +kernel
theorem d_M_upTo_17 : decode c_M_upTo 17 = .ok (.aload_n 0, 1) := by decide +kernel
theorem d_M_upTo_18 : decode c_M_upTo 18 = .ok (.getfield 23, 3) := by decide +kernel
theorem d_M_upTo_21 : decode c_M_upTo 21 = .ok (.bipush 40, 2) := by decide +kernel
theorem d_M_upTo_23 : decode c_M_upTo 23 = .ok (.iload_n 1, 1) := by decide +kernel
theorem d_M_upTo_24 : decode c_M_upTo 24 = .ok (.imul, 1) := by decide +kernel
theorem d_M_upTo_25 : decode c_M_upTo 25 = .ok (.iload 8, 2) := by decide +kernel
theorem d_M_upTo_27 : decode c_M_upTo 27 = .ok (.iadd, 1) := by decide +kernel
theorem d_M_upTo_28 : decode c_M_upTo 28 = .ok (.laload, 1) := by decide +kernel
theorem d_M_upTo_29 : decode c_M_upTo 29 = .ok (.invokestatic 144, 3) := by decide +kernel
theorem d_M_upTo_32 : decode c_M_upTo 32 = .ok (.istore 9, 2) := by decide +kernel
theorem d_M_upTo_34 : decode c_M_upTo 34 = .ok (.iload_n 3, 1) := by decide +kernel
theorem d_M_upTo_35 : decode c_M_upTo 35 = .ok (.iconst 1, 1) := by decide +kernel
theorem d_M_upTo_36 : decode c_M_upTo 36 = .ok (.if_icmp .ne 14, 3) := by decide +kernel
theorem d_M_upTo_39 : decode c_M_upTo 39 = .ok (.aload_n 0, 1) := by decide +kernel
theorem d_M_upTo_40 : decode c_M_upTo 40 = .ok (.getfield 7, 3) := by decide +kernel
theorem d_M_upTo_43 : decode c_M_upTo 43 = .ok (.iload 9, 2) := by decide +kernel
theorem d_M_upTo_45 : decode c_M_upTo 45 = .ok (.iaload, 1) := by decide +kernel
theorem d_M_upTo_46 : decode c_M_upTo 46 = .ok (.i2l, 1) := by decide +kernel
theorem d_M_upTo_47 : decode c_M_upTo 47 = .ok (.goto 11, 3) := by decide +kernel
theorem d_M_upTo_50 : decode c_M_upTo 50 = .ok (.aload_n 0, 1) := by decide +kernel
theorem d_M_upTo_51 : decode c_M_upTo 51 = .ok (.getfield 13, 3) := by decide +kernel
theorem d_M_upTo_54 : decode c_M_upTo 54 = .ok (.iload 9, 2) := by decide +kernel
theorem d_M_upTo_56 : decode c_M_upTo 56 = .ok (.iaload, 1) := by decide +kernel
theorem d_M_upTo_57 : decode c_M_upTo 57 = .ok (.i2l, 1) := by decide +kernel
theorem d_M_upTo_58 : decode c_M_upTo 58 = .ok (.lstore 10, 2) := by decide +kernel
theorem d_M_upTo_60 : decode c_M_upTo 60 = .ok (.lload 10, 2) := by decide +kernel
theorem d_M_upTo_62 : decode c_M_upTo 62 = .ok (.lload 6, 2) := by decide +kernel
theorem d_M_upTo_64 : decode c_M_upTo 64 = .ok (.lcmp, 1) := by decide +kernel
theorem d_M_upTo_65 : decode c_M_upTo 65 = .ok (.ifCond .le 8, 3) := by decide +kernel
theorem d_M_upTo_68 : decode c_M_upTo 68 = .ok (.lload 10, 2) := by decide +kernel
theorem d_M_upTo_70 : decode c_M_upTo 70 = .ok (.goto 5, 3) := by decide +kernel
theorem d_M_upTo_73 : decode c_M_upTo 73 = .ok (.lload 6, 2) := by decide +kernel
theorem d_M_upTo_75 : decode c_M_upTo 75 = .ok (.lstore 6, 2) := by decide +kernel
theorem d_M_upTo_77 : decode c_M_upTo 77 = .ok (.lload 4, 2) := by decide +kernel
theorem d_M_upTo_79 : decode c_M_upTo 79 = .ok (.aload_n 0, 1) := by decide +kernel
theorem d_M_upTo_80 : decode c_M_upTo 80 = .ok (.getfield 13, 3) := by decide +kernel
theorem d_M_upTo_83 : decode c_M_upTo 83 = .ok (.iload 9, 2) := by decide +kernel
theorem d_M_upTo_85 : decode c_M_upTo 85 = .ok (.iaload, 1) := by decide +kernel
theorem d_M_upTo_86 : decode c_M_upTo 86 = .ok (.i2l, 1) := by decide +kernel
theorem d_M_upTo_87 : decode c_M_upTo 87 = .ok (.ladd, 1) := by decide +kernel
theorem d_M_upTo_88 : decode c_M_upTo 88 = .ok (.aload_n 0, 1) := by decide +kernel
theorem d_M_upTo_89 : decode c_M_upTo 89 = .ok (.getfield 7, 3) := by decide +kernel
theorem d_M_upTo_92 : decode c_M_upTo 92 = .ok (.iload 9, 2) := by decide +kernel
theorem d_M_upTo_94 : decode c_M_upTo 94 = .ok (.iaload, 1) := by decide +kernel
theorem d_M_upTo_95 : decode c_M_upTo 95 = .ok (.i2l, 1) := by decide +kernel
theorem d_M_upTo_96 : decode c_M_upTo 96 = .ok (.lsub, 1) := by decide +kernel
theorem d_M_upTo_97 : decode c_M_upTo 97 = .ok (.lconst 1, 1) := by decide +kernel
theorem d_M_upTo_98 : decode c_M_upTo 98 = .ok (.ladd, 1) := by decide +kernel
theorem d_M_upTo_99 : decode c_M_upTo 99 = .ok (.lstore 4, 2) := by decide +kernel
theorem d_M_upTo_101 : decode c_M_upTo 101 = .ok (.iinc 8 1, 3) := by decide +kernel
theorem d_M_upTo_104 : decode c_M_upTo 104 = .ok (.goto (-93), 3) := by decide +kernel
theorem d_M_upTo_107 : decode c_M_upTo 107 = .ok (.iload_n 3, 1) := by decide +kernel
theorem d_M_upTo_108 : decode c_M_upTo 108 = .ok (.ifCond .ne 8, 3) := by decide +kernel
theorem d_M_upTo_111 : decode c_M_upTo 111 = .ok (.iload_n 2, 1) := by decide +kernel
theorem d_M_upTo_112 : decode c_M_upTo 112 = .ok (.i2l, 1) := by decide +kernel
theorem d_M_upTo_113 : decode c_M_upTo 113 = .ok (.goto 15, 3) := by decide +kernel
theorem d_M_upTo_116 : decode c_M_upTo 116 = .ok (.iload_n 3, 1) := by decide +kernel
theorem d_M_upTo_117 : decode c_M_upTo 117 = .ok (.iconst 3, 1) := by decide +kernel
theorem d_M_upTo_118 : decode c_M_upTo 118 = .ok (.if_icmp .ne 8, 3) := by decide +kernel
theorem d_M_upTo_121 : decode c_M_upTo 121 = .ok (.lload 4, 2) := by decide +kernel
theorem d_M_upTo_123 : decode c_M_upTo 123 = .ok (.goto 5, 3) := by decide +kernel
theorem d_M_upTo_126 : decode c_M_upTo 126 = .ok (.lload 6, 2) := by decide +kernel
theorem d_M_upTo_128 : decode c_M_upTo 128 = .ok (.lreturn, 1) := by decide +kernel
abbrev c_M_measure : ByteArray := prog_10_method_43_code
abbrev y_M_measure : MethodName := ⟨"FingerSpansModel", "measure", "(II)J"⟩
theorem k_M_measure : Cond.code y_M_measure c_M_measure 3 (some FieldType.long) ∈ lw_tbl := List.mem_of_getElem? (i := 728) (by decide +kernel)
theorem b_M_measure : x_ce y_M_measure c_M_measure 3 (some FieldType.long) 2 := ⟨k_M_measure, i_M, by decide +kernel⟩
theorem s_M_measure : Cond.instanceMethod y_M_measure ∈ lw_tbl := List.mem_of_getElem? (i := 726) (by decide +kernel)
theorem v_M_measure : Cond.selects "FingerSpansModel" y_M_measure y_M_measure ∈ lw_tbl := List.mem_of_getElem? (i := 727) (by decide +kernel)
theorem d_M_measure_0 : decode c_M_measure 0 = .ok (.aload_n 0, 1) := by decide +kernel
theorem d_M_measure_1 : decode c_M_measure 1 = .ok (.iload_n 1, 1) := by decide +kernel
theorem d_M_measure_2 : decode c_M_measure 2 = .ok (.invokevirtual 109, 3) := by decide +kernel
theorem d_M_measure_5 : decode c_M_measure 5 = .ok (.ifCond .ne 21, 3) := by decide +kernel
theorem d_M_measure_8 : decode c_M_measure 8 = .ok (.aload_n 0, 1) := by decide +kernel
theorem d_M_measure_9 : decode c_M_measure 9 = .ok (.getfield 27, 3) := by decide +kernel
theorem d_M_measure_12 : decode c_M_measure 12 = .ok (.iload_n 1, 1) := by decide +kernel
theorem d_M_measure_13 : decode c_M_measure 13 = .ok (.baload, 1) := by decide +kernel
theorem d_M_measure_14 : decode c_M_measure 14 = .ok (.ifCond .eq 12, 3) := by decide +kernel
theorem d_M_measure_17 : decode c_M_measure 17 = .ok (.iload_n 2, 1) := by decide +kernel
theorem d_M_measure_18 : decode c_M_measure 18 = .ok (.ifCond .lt 8, 3) := by decide +kernel
theorem d_M_measure_21 : decode c_M_measure 21 = .ok (.iload_n 2, 1) := by decide +kernel
theorem d_M_measure_22 : decode c_M_measure 22 = .ok (.iconst 3, 1) := by decide +kernel
theorem d_M_measure_23 : decode c_M_measure 23 = .ok (.if_icmp .le 7, 3) := by decide +kernel
theorem d_M_measure_26 : decode c_M_measure 26 = .ok (.lconst 0, 1) := by decide +kernel
theorem d_M_measure_27 : decode c_M_measure 27 = .ok (.goto 15, 3) := by decide +kernel
theorem d_M_measure_30 : decode c_M_measure 30 = .ok (.aload_n 0, 1) := by decide +kernel
theorem d_M_measure_31 : decode c_M_measure 31 = .ok (.iload_n 1, 1) := by decide +kernel
theorem d_M_measure_32 : decode c_M_measure 32 = .ok (.aload_n 0, 1) := by decide +kernel
theorem d_M_measure_33 : decode c_M_measure 33 = .ok (.getfield 27, 3) := by decide +kernel
theorem d_M_measure_36 : decode c_M_measure 36 = .ok (.iload_n 1, 1) := by decide +kernel
theorem d_M_measure_37 : decode c_M_measure 37 = .ok (.baload, 1) := by decide +kernel
theorem d_M_measure_38 : decode c_M_measure 38 = .ok (.iload_n 2, 1) := by decide +kernel
theorem d_M_measure_39 : decode c_M_measure 39 = .ok (.invokevirtual 152, 3) := by decide +kernel
theorem d_M_measure_42 : decode c_M_measure 42 = .ok (.lreturn, 1) := by decide +kernel
abbrev c_M_search : ByteArray := prog_10_method_44_code
abbrev y_M_search : MethodName := ⟨"FingerSpansModel", "search", "(IIJ)I"⟩
theorem k_M_search : Cond.code y_M_search c_M_search 8 (some FieldType.int) ∈ lw_tbl := List.mem_of_getElem? (i := 737) (by decide +kernel)
theorem b_M_search : x_ce y_M_search c_M_search 8 (some FieldType.int) 3 := ⟨k_M_search, i_M, by decide +kernel⟩
theorem s_M_search : Cond.instanceMethod y_M_search ∈ lw_tbl := List.mem_of_getElem? (i := 735) (by decide +kernel)
theorem v_M_search : Cond.selects "FingerSpansModel" y_M_search y_M_search ∈ lw_tbl := List.mem_of_getElem? (i := 736) (by decide +kernel)
theorem d_M_search_0 : decode c_M_search 0 = .ok (.aload_n 0, 1) := by decide +kernel
theorem d_M_search_1 : decode c_M_search 1 = .ok (.iload_n 1, 1) := by decide +kernel
theorem d_M_search_2 : decode c_M_search 2 = .ok (.invokevirtual 109, 3) := by decide +kernel
theorem d_M_search_5 : decode c_M_search 5 = .ok (.ifCond .ne 12, 3) := by decide +kernel
theorem d_M_search_8 : decode c_M_search 8 = .ok (.iload_n 2, 1) := by decide +kernel
theorem d_M_search_9 : decode c_M_search 9 = .ok (.ifCond .lt 8, 3) := by decide +kernel
theorem d_M_search_12 : decode c_M_search 12 = .ok (.iload_n 2, 1) := by decide +kernel
theorem d_M_search_13 : decode c_M_search 13 = .ok (.iconst 3, 1) := by decide +kernel
theorem d_M_search_14 : decode c_M_search 14 = .ok (.if_icmp .le 5, 3) := by decide +kernel
theorem d_M_search_17 : decode c_M_search 17 = .ok (.iconst (-1), 1) := by decide +kernel
theorem d_M_search_18 : decode c_M_search 18 = .ok (.ireturn, 1) := by decide +kernel
theorem d_M_search_19 : decode c_M_search 19 = .ok (.iconst 0, 1) := by decide +kernel
theorem d_M_search_20 : decode c_M_search 20 = .ok (.istore 5, 2) := by decide +kernel
theorem d_M_search_22 : decode c_M_search 22 = .ok (.iload 5, 2) := by decide +kernel
theorem d_M_search_24 : decode c_M_search 24 = .ok (.aload_n 0, 1) := by decide +kernel
theorem d_M_search_25 : decode c_M_search 25 = .ok (.getfield 27, 3) := by decide +kernel
theorem d_M_search_28 : decode c_M_search 28 = .ok (.iload_n 1, 1) := by decide +kernel
theorem d_M_search_29 : decode c_M_search 29 = .ok (.baload, 1) := by decide +kernel
theorem d_M_search_30 : decode c_M_search 30 = .ok (.if_icmp .ge 48, 3) := by decide +kernel
theorem d_M_search_33 : decode c_M_search 33 = .ok (.aload_n 0, 1) := by decide +kernel
theorem d_M_search_34 : decode c_M_search 34 = .ok (.iload_n 1, 1) := by decide +kernel
theorem d_M_search_35 : decode c_M_search 35 = .ok (.iload 5, 2) := by decide +kernel
theorem d_M_search_37 : decode c_M_search 37 = .ok (.iconst 1, 1) := by decide +kernel
theorem d_M_search_38 : decode c_M_search 38 = .ok (.iadd, 1) := by decide +kernel
theorem d_M_search_39 : decode c_M_search 39 = .ok (.iload_n 2, 1) := by decide +kernel
theorem d_M_search_40 : decode c_M_search 40 = .ok (.invokevirtual 152, 3) := by decide +kernel
theorem d_M_search_43 : decode c_M_search 43 = .ok (.lstore 6, 2) := by decide +kernel
theorem d_M_search_45 : decode c_M_search 45 = .ok (.lload 6, 2) := by decide +kernel
theorem d_M_search_47 : decode c_M_search 47 = .ok (.lload_n 3, 1) := by decide +kernel
theorem d_M_search_48 : decode c_M_search 48 = .ok (.lcmp, 1) := by decide +kernel
theorem d_M_search_49 : decode c_M_search 49 = .ok (.ifCond .gt 20, 3) := by decide +kernel
theorem d_M_search_52 : decode c_M_search 52 = .ok (.lload 6, 2) := by decide +kernel
theorem d_M_search_54 : decode c_M_search 54 = .ok (.lload_n 3, 1) := by decide +kernel
theorem d_M_search_55 : decode c_M_search 55 = .ok (.lcmp, 1) := by decide +kernel
theorem d_M_search_56 : decode c_M_search 56 = .ok (.ifCond .ne 16, 3) := by decide +kernel
theorem d_M_search_59 : decode c_M_search 59 = .ok (.iload_n 2, 1) := by decide +kernel
theorem d_M_search_60 : decode c_M_search 60 = .ok (.iconst 1, 1) := by decide +kernel
theorem d_M_search_61 : decode c_M_search 61 = .ok (.if_icmp .eq 8, 3) := by decide +kernel
theorem d_M_search_64 : decode c_M_search 64 = .ok (.iload_n 2, 1) := by decide +kernel
theorem d_M_search_65 : decode c_M_search 65 = .ok (.iconst 2, 1) := by decide +kernel
theorem d_M_search_66 : decode c_M_search 66 = .ok (.if_icmp .ne 6, 3) := by decide +kernel
theorem d_M_search_69 : decode c_M_search 69 = .ok (.iload 5, 2) := by decide +kernel
theorem d_M_search_71 : decode c_M_search 71 = .ok (.ireturn, 1) := by decide +kernel
theorem d_M_search_72 : decode c_M_search 72 = .ok (.iinc 5 1, 3) := by decide +kernel
theorem d_M_search_75 : decode c_M_search 75 = .ok (.goto (-53), 3) := by decide +kernel
theorem d_M_search_78 : decode c_M_search 78 = .ok (.aload_n 0, 1) := by decide +kernel
theorem d_M_search_79 : decode c_M_search 79 = .ok (.getfield 27, 3) := by decide +kernel
theorem d_M_search_82 : decode c_M_search 82 = .ok (.iload_n 1, 1) := by decide +kernel
theorem d_M_search_83 : decode c_M_search 83 = .ok (.baload, 1) := by decide +kernel
theorem d_M_search_84 : decode c_M_search 84 = .ok (.ireturn, 1) := by decide +kernel
abbrev c_M_meeting : ByteArray := prog_10_method_45_code
abbrev y_M_meeting : MethodName := ⟨"FingerSpansModel", "meeting", "(IIII)I"⟩
theorem k_M_meeting : Cond.code y_M_meeting c_M_meeting 7 (some FieldType.int) ∈ lw_tbl := List.mem_of_getElem? (i := 741) (by decide +kernel)
theorem b_M_meeting : x_ce y_M_meeting c_M_meeting 7 (some FieldType.int) 4 := ⟨k_M_meeting, i_M, by decide +kernel⟩
theorem s_M_meeting : Cond.instanceMethod y_M_meeting ∈ lw_tbl := List.mem_of_getElem? (i := 739) (by decide +kernel)
theorem v_M_meeting : Cond.selects "FingerSpansModel" y_M_meeting y_M_meeting ∈ lw_tbl := List.mem_of_getElem? (i := 740) (by decide +kernel)
theorem d_M_meeting_0 : decode c_M_meeting 0 = .ok (.aload_n 0, 1) := by decide +kernel
theorem d_M_meeting_1 : decode c_M_meeting 1 = .ok (.iload_n 1, 1) := by decide +kernel
theorem d_M_meeting_2 : decode c_M_meeting 2 = .ok (.invokevirtual 109, 3) := by decide +kernel
theorem d_M_meeting_5 : decode c_M_meeting 5 = .ok (.ifCond .eq 5, 3) := by decide +kernel
theorem d_M_meeting_8 : decode c_M_meeting 8 = .ok (.iconst (-1), 1) := by decide +kernel
theorem d_M_meeting_9 : decode c_M_meeting 9 = .ok (.ireturn, 1) := by decide +kernel
theorem d_M_meeting_10 : decode c_M_meeting 10 = .ok (.iload_n 2, 1) := by decide +kernel
theorem d_M_meeting_11 : decode c_M_meeting 11 = .ok (.ifCond .ge 7, 3) := by decide +kernel
theorem d_M_meeting_14 : decode c_M_meeting 14 = .ok (.iconst 0, 1) := by decide +kernel
theorem d_M_meeting_15 : decode c_M_meeting 15 = .ok (.goto 4, 3) := by decide +kernel
theorem d_M_meeting_18 : decode c_M_meeting 18 = .ok (.iload_n 2, 1) := by decide +kernel
theorem d_M_meeting_19 : decode c_M_meeting 19 = .ok (.istore 5, 2) := by decide +kernel
theorem d_M_meeting_21 : decode c_M_meeting 21 = .ok (.iload 5, 2) := by decide +kernel
theorem d_M_meeting_23 : decode c_M_meeting 23 = .ok (.aload_n 0, 1) := by decide +kernel
theorem d_M_meeting_24 : decode c_M_meeting 24 = .ok (.getfield 27, 3) := by decide +kernel
theorem d_M_meeting_27 : decode c_M_meeting 27 = .ok (.iload_n 1, 1) := by decide +kernel
theorem d_M_meeting_28 : decode c_M_meeting 28 = .ok (.baload, 1) := by decide +kernel
theorem d_M_meeting_29 : decode c_M_meeting 29 = .ok (.if_icmp .ge 52, 3) := by decide +kernel
theorem d_M_meeting_32 : decode c_M_meeting 32 = .ok (.aload_n 0, 1) := by decide +kernel
theorem d_M_meeting_33 : decode c_M_meeting 33 = .ok (.getfield 23, 3) := by decide +kernel
theorem d_M_meeting_36 : decode c_M_meeting 36 = .ok (.bipush 40, 2) := by decide +kernel
theorem d_M_meeting_38 : decode c_M_meeting 38 = .ok (.iload_n 1, 1) := by decide +kernel
theorem d_M_meeting_39 : decode c_M_meeting 39 = .ok (.imul, 1) := by decide +kernel
theorem d_M_meeting_40 : decode c_M_meeting 40 = .ok (.iload 5, 2) := by decide +kernel
theorem d_M_meeting_42 : decode c_M_meeting 42 = .ok (.iadd, 1) := by decide +kernel
theorem d_M_meeting_43 : decode c_M_meeting 43 = .ok (.laload, 1) := by decide +kernel
theorem d_M_meeting_44 : decode c_M_meeting 44 = .ok (.invokestatic 144, 3) := by decide +kernel
theorem d_M_meeting_47 : decode c_M_meeting 47 = .ok (.istore 6, 2) := by decide +kernel
theorem d_M_meeting_49 : decode c_M_meeting 49 = .ok (.aload_n 0, 1) := by decide +kernel
theorem d_M_meeting_50 : decode c_M_meeting 50 = .ok (.getfield 7, 3) := by decide +kernel
theorem d_M_meeting_53 : decode c_M_meeting 53 = .ok (.iload 6, 2) := by decide +kernel
theorem d_M_meeting_55 : decode c_M_meeting 55 = .ok (.iaload, 1) := by decide +kernel
theorem d_M_meeting_56 : decode c_M_meeting 56 = .ok (.iload 4, 2) := by decide +kernel
theorem d_M_meeting_58 : decode c_M_meeting 58 = .ok (.if_icmp .gt 17, 3) := by decide +kernel
theorem d_M_meeting_61 : decode c_M_meeting 61 = .ok (.aload_n 0, 1) := by decide +kernel
theorem d_M_meeting_62 : decode c_M_meeting 62 = .ok (.getfield 13, 3) := by decide +kernel
theorem d_M_meeting_65 : decode c_M_meeting 65 = .ok (.iload 6, 2) := by decide +kernel
theorem d_M_meeting_67 : decode c_M_meeting 67 = .ok (.iaload, 1) := by decide +kernel
theorem d_M_meeting_68 : decode c_M_meeting 68 = .ok (.iload_n 3, 1) := by decide +kernel
theorem d_M_meeting_69 : decode c_M_meeting 69 = .ok (.if_icmp .lt 6, 3) := by decide +kernel
theorem d_M_meeting_72 : decode c_M_meeting 72 = .ok (.iload 5, 2) := by decide +kernel
theorem d_M_meeting_74 : decode c_M_meeting 74 = .ok (.ireturn, 1) := by decide +kernel
theorem d_M_meeting_75 : decode c_M_meeting 75 = .ok (.iinc 5 1, 3) := by decide +kernel
theorem d_M_meeting_78 : decode c_M_meeting 78 = .ok (.goto (-57), 3) := by decide +kernel
theorem d_M_meeting_81 : decode c_M_meeting 81 = .ok (.iconst (-1), 1) := by decide +kernel
theorem d_M_meeting_82 : decode c_M_meeting 82 = .ok (.ireturn, 1) := by decide +kernel
abbrev c_M_spine : ByteArray := prog_10_method_46_code
abbrev y_M_spine : MethodName := ⟨"FingerSpansModel", "spine", "(I)I"⟩
theorem k_M_spine : Cond.code y_M_spine c_M_spine 7 (some FieldType.int) ∈ lw_tbl := List.mem_of_getElem? (i := 745) (by decide +kernel)
theorem b_M_spine : x_ce y_M_spine c_M_spine 7 (some FieldType.int) 1 := ⟨k_M_spine, i_M, by decide +kernel⟩
theorem s_M_spine : Cond.instanceMethod y_M_spine ∈ lw_tbl := List.mem_of_getElem? (i := 743) (by decide +kernel)
theorem v_M_spine : Cond.selects "FingerSpansModel" y_M_spine y_M_spine ∈ lw_tbl := List.mem_of_getElem? (i := 744) (by decide +kernel)
theorem d_M_spine_0 : decode c_M_spine 0 = .ok (.aload_n 0, 1) := by decide +kernel
theorem d_M_spine_1 : decode c_M_spine 1 = .ok (.iload_n 1, 1) := by decide +kernel
theorem d_M_spine_2 : decode c_M_spine 2 = .ok (.invokevirtual 109, 3) := by decide +kernel
theorem d_M_spine_5 : decode c_M_spine 5 = .ok (.ifCond .eq 5, 3) := by decide +kernel
theorem d_M_spine_8 : decode c_M_spine 8 = .ok (.iconst (-1), 1) := by decide +kernel
theorem d_M_spine_9 : decode c_M_spine 9 = .ok (.ireturn, 1) := by decide +kernel
theorem d_M_spine_10 : decode c_M_spine 10 = .ok (.iconst 0, 1) := by decide +kernel
theorem d_M_spine_11 : decode c_M_spine 11 = .ok (.istore_n 2, 1) := by decide +kernel
theorem d_M_spine_12 : decode c_M_spine 12 = .ok (.iconst 0, 1) := by decide +kernel
theorem d_M_spine_13 : decode c_M_spine 13 = .ok (.istore_n 3, 1) := by decide +kernel
theorem d_M_spine_14 : decode c_M_spine 14 = .ok (.iconst 0, 1) := by decide +kernel
theorem d_M_spine_15 : decode c_M_spine 15 = .ok (.istore 4, 2) := by decide +kernel
theorem d_M_spine_17 : decode c_M_spine 17 = .ok (.iload 4, 2) := by decide +kernel
theorem d_M_spine_19 : decode c_M_spine 19 = .ok (.aload_n 0, 1) := by decide +kernel
theorem d_M_spine_20 : decode c_M_spine 20 = .ok (.getfield 27, 3) := by decide +kernel
theorem d_M_spine_23 : decode c_M_spine 23 = .ok (.iload_n 1, 1) := by decide +kernel
theorem d_M_spine_24 : decode c_M_spine 24 = .ok (.baload, 1) := by decide +kernel
theorem d_M_spine_25 : decode c_M_spine 25 = .ok (.if_icmp .ge 67, 3) := by decide +kernel
theorem d_M_spine_28 : decode c_M_spine 28 = .ok (.aload_n 0, 1) := by decide +kernel
theorem d_M_spine_29 : decode c_M_spine 29 = .ok (.getfield 23, 3) := by decide +kernel
theorem d_M_spine_32 : decode c_M_spine 32 = .ok (.bipush 40, 2) := by decide +kernel
theorem d_M_spine_34 : decode c_M_spine 34 = .ok (.iload_n 1, 1) := by decide +kernel
theorem d_M_spine_35 : decode c_M_spine 35 = .ok (.imul, 1) := by decide +kernel
theorem d_M_spine_36 : decode c_M_spine 36 = .ok (.iload 4, 2) := by decide +kernel
theorem d_M_spine_38 : decode c_M_spine 38 = .ok (.iadd, 1) := by decide +kernel
theorem d_M_spine_39 : decode c_M_spine 39 = .ok (.laload, 1) := by decide +kernel
theorem d_M_spine_40 : decode c_M_spine 40 = .ok (.lstore 5, 2) := by decide +kernel
theorem d_M_spine_42 : decode c_M_spine 42 = .ok (.lload 5, 2) := by decide +kernel
theorem d_M_spine_44 : decode c_M_spine 44 = .ok (.invokestatic 44, 3) := by decide +kernel
theorem d_M_spine_47 : decode c_M_spine 47 = .ok (.ifCond .ne 22, 3) := by decide +kernel
theorem d_M_spine_50 : decode c_M_spine 50 = .ok (.lload 5, 2) := by decide +kernel
theorem d_M_spine_52 : decode c_M_spine 52 = .ok (.invokestatic 40, 3) := by decide +kernel
theorem d_M_spine_55 : decode c_M_spine 55 = .ok (.iload_n 2, 1) := by decide +kernel
theorem d_M_spine_56 : decode c_M_spine 56 = .ok (.if_icmp .lt 13, 3) := by decide +kernel
theorem d_M_spine_59 : decode c_M_spine 59 = .ok (.lload 5, 2) := by decide +kernel
theorem d_M_spine_61 : decode c_M_spine 61 = .ok (.invokestatic 40, 3) := by decide +kernel
theorem d_M_spine_64 : decode c_M_spine 64 = .ok (.iconst 1, 1) := by decide +kernel
theorem d_M_spine_65 : decode c_M_spine 65 = .ok (.iadd, 1) := by decide +kernel
theorem d_M_spine_66 : decode c_M_spine 66 = .ok (.goto 4, 3) := by decide +kernel
theorem d_M_spine_69 : decode c_M_spine 69 = .ok (.iload_n 2, 1) := by decide +kernel
theorem d_M_spine_70 : decode c_M_spine 70 = .ok (.istore_n 2, 1) := by decide +kernel
theorem d_M_spine_71 : decode c_M_spine 71 = .ok (.lload 5, 2) := by decide +kernel
theorem d_M_spine_73 : decode c_M_spine 73 = .ok (.invokestatic 44, 3) := by decide +kernel
theorem d_M_spine_76 : decode c_M_spine 76 = .ok (.iconst 2, 1) := by decide +kernel
theorem d_M_spine_77 : decode c_M_spine 77 = .ok (.if_icmp .ne 7, 3) := by decide +kernel
theorem d_M_spine_80 : decode c_M_spine 80 = .ok (.iconst 1, 1) := by decide +kernel
theorem d_M_spine_81 : decode c_M_spine 81 = .ok (.goto 4, 3) := by decide +kernel
theorem d_M_spine_84 : decode c_M_spine 84 = .ok (.iload_n 3, 1) := by decide +kernel
theorem d_M_spine_85 : decode c_M_spine 85 = .ok (.istore_n 3, 1) := by decide +kernel
theorem d_M_spine_86 : decode c_M_spine 86 = .ok (.iinc 4 1, 3) := by decide +kernel
theorem d_M_spine_89 : decode c_M_spine 89 = .ok (.goto (-72), 3) := by decide +kernel
theorem d_M_spine_92 : decode c_M_spine 92 = .ok (.iconst 2, 1) := by decide +kernel
theorem d_M_spine_93 : decode c_M_spine 93 = .ok (.iload_n 2, 1) := by decide +kernel
theorem d_M_spine_94 : decode c_M_spine 94 = .ok (.imul, 1) := by decide +kernel
theorem d_M_spine_95 : decode c_M_spine 95 = .ok (.iload_n 3, 1) := by decide +kernel
theorem d_M_spine_96 : decode c_M_spine 96 = .ok (.iadd, 1) := by decide +kernel
theorem d_M_spine_97 : decode c_M_spine 97 = .ok (.ireturn, 1) := by decide +kernel
abbrev c_M_digit : ByteArray := prog_10_method_47_code
abbrev y_M_digit : MethodName := ⟨"FingerSpansModel", "digit", "(IIZ)I"⟩
theorem k_M_digit : Cond.code y_M_digit c_M_digit 8 (some FieldType.int) ∈ lw_tbl := List.mem_of_getElem? (i := 749) (by decide +kernel)
theorem b_M_digit : x_ce y_M_digit c_M_digit 8 (some FieldType.int) 3 := ⟨k_M_digit, i_M, by decide +kernel⟩
theorem s_M_digit : Cond.instanceMethod y_M_digit ∈ lw_tbl := List.mem_of_getElem? (i := 747) (by decide +kernel)
theorem v_M_digit : Cond.selects "FingerSpansModel" y_M_digit y_M_digit ∈ lw_tbl := List.mem_of_getElem? (i := 748) (by decide +kernel)
theorem d_M_digit_0 : decode c_M_digit 0 = .ok (.aload_n 0, 1) := by decide +kernel
theorem d_M_digit_1 : decode c_M_digit 1 = .ok (.iload_n 1, 1) := by decide +kernel
theorem d_M_digit_2 : decode c_M_digit 2 = .ok (.invokevirtual 109, 3) := by decide +kernel
theorem d_M_digit_5 : decode c_M_digit 5 = .ok (.ifCond .eq 5, 3) := by decide +kernel
theorem d_M_digit_8 : decode c_M_digit 8 = .ok (.iconst (-1), 1) := by decide +kernel
theorem d_M_digit_9 : decode c_M_digit 9 = .ok (.ireturn, 1) := by decide +kernel
theorem d_M_digit_10 : decode c_M_digit 10 = .ok (.aload_n 0, 1) := by decide +kernel
theorem d_M_digit_11 : decode c_M_digit 11 = .ok (.iload_n 1, 1) := by decide +kernel
theorem d_M_digit_12 : decode c_M_digit 12 = .ok (.invokevirtual 113, 3) := by decide +kernel
theorem d_M_digit_15 : decode c_M_digit 15 = .ok (.iconst 0, 1) := by decide +kernel
theorem d_M_digit_16 : decode c_M_digit 16 = .ok (.istore 4, 2) := by decide +kernel
theorem d_M_digit_18 : decode c_M_digit 18 = .ok (.iconst 0, 1) := by decide +kernel
theorem d_M_digit_19 : decode c_M_digit 19 = .ok (.istore 5, 2) := by decide +kernel
theorem d_M_digit_21 : decode c_M_digit 21 = .ok (.iload 5, 2) := by decide +kernel
theorem d_M_digit_23 : decode c_M_digit 23 = .ok (.aload_n 0, 1) := by decide +kernel
theorem d_M_digit_24 : decode c_M_digit 24 = .ok (.getfield 37, 3) := by decide +kernel
theorem d_M_digit_27 : decode c_M_digit 27 = .ok (.if_icmp .ge 79, 3) := by decide +kernel
theorem d_M_digit_30 : decode c_M_digit 30 = .ok (.aload_n 0, 1) := by decide +kernel
theorem d_M_digit_31 : decode c_M_digit 31 = .ok (.getfield 34, 3) := by decide +kernel
theorem d_M_digit_34 : decode c_M_digit 34 = .ok (.iload 5, 2) := by decide +kernel
theorem d_M_digit_36 : decode c_M_digit 36 = .ok (.laload, 1) := by decide +kernel
theorem d_M_digit_37 : decode c_M_digit 37 = .ok (.invokestatic 40, 3) := by decide +kernel
theorem d_M_digit_40 : decode c_M_digit 40 = .ok (.istore 6, 2) := by decide +kernel
theorem d_M_digit_42 : decode c_M_digit 42 = .ok (.iload 6, 2) := by decide +kernel
theorem d_M_digit_44 : decode c_M_digit 44 = .ok (.iload_n 2, 1) := by decide +kernel
theorem d_M_digit_45 : decode c_M_digit 45 = .ok (.if_icmp .ne 29, 3) := by decide +kernel
theorem d_M_digit_48 : decode c_M_digit 48 = .ok (.aload_n 0, 1) := by decide +kernel
theorem d_M_digit_49 : decode c_M_digit 49 = .ok (.getfield 34, 3) := by decide +kernel
theorem d_M_digit_52 : decode c_M_digit 52 = .ok (.iload 5, 2) := by decide +kernel
theorem d_M_digit_54 : decode c_M_digit 54 = .ok (.laload, 1) := by decide +kernel
theorem d_M_digit_55 : decode c_M_digit 55 = .ok (.invokestatic 44, 3) := by decide +kernel
theorem d_M_digit_58 : decode c_M_digit 58 = .ok (.iload_n 3, 1) := by decide +kernel
theorem d_M_digit_59 : decode c_M_digit 59 = .ok (.ifCond .eq 7, 3) := by decide +kernel
theorem d_M_digit_62 : decode c_M_digit 62 = .ok (.iconst 1, 1) := by decide +kernel
theorem d_M_digit_63 : decode c_M_digit 63 = .ok (.goto 4, 3) := by decide +kernel
theorem d_M_digit_66 : decode c_M_digit 66 = .ok (.iconst 0, 1) := by decide +kernel
theorem d_M_digit_67 : decode c_M_digit 67 = .ok (.if_icmp .ne 7, 3) := by decide +kernel
theorem d_M_digit_70 : decode c_M_digit 70 = .ok (.iconst 1, 1) := by decide +kernel
theorem d_M_digit_71 : decode c_M_digit 71 = .ok (.goto 4, 3) := by decide +kernel
theorem d_M_digit_74 : decode c_M_digit 74 = .ok (.iconst 0, 1) := by decide +kernel
theorem d_M_digit_75 : decode c_M_digit 75 = .ok (.istore 7, 2) := by decide +kernel
theorem d_M_digit_77 : decode c_M_digit 77 = .ok (.iload 7, 2) := by decide +kernel
theorem d_M_digit_79 : decode c_M_digit 79 = .ok (.ifCond .eq 10, 3) := by decide +kernel
theorem d_M_digit_82 : decode c_M_digit 82 = .ok (.iload 4, 2) := by decide +kernel
theorem d_M_digit_84 : decode c_M_digit 84 = .ok (.iconst 1, 1) := by decide +kernel
theorem d_M_digit_85 : decode c_M_digit 85 = .ok (.iadd, 1) := by decide +kernel
theorem d_M_digit_86 : decode c_M_digit 86 = .ok (.goto 5, 3) := by decide +kernel
theorem d_M_digit_89 : decode c_M_digit 89 = .ok (.iload 4, 2) := by decide +kernel
theorem d_M_digit_91 : decode c_M_digit 91 = .ok (.istore 4, 2) := by decide +kernel
theorem d_M_digit_93 : decode c_M_digit 93 = .ok (.aload_n 0, 1) := by decide +kernel
theorem d_M_digit_94 : decode c_M_digit 94 = .ok (.iload 5, 2) := by decide +kernel
theorem d_M_digit_96 : decode c_M_digit 96 = .ok (.iload 6, 2) := by decide +kernel
theorem d_M_digit_98 : decode c_M_digit 98 = .ok (.invokevirtual 60, 3) := by decide +kernel
theorem d_M_digit_101 : decode c_M_digit 101 = .ok (.istore 5, 2) := by decide +kernel
theorem d_M_digit_103 : decode c_M_digit 103 = .ok (.goto (-82), 3) := by decide +kernel
theorem d_M_digit_106 : decode c_M_digit 106 = .ok (.iload 4, 2) := by decide +kernel
theorem d_M_digit_108 : decode c_M_digit 108 = .ok (.ireturn, 1) := by decide +kernel
abbrev c_M_rank : ByteArray := prog_10_method_48_code
abbrev y_M_rank : MethodName := ⟨"FingerSpansModel", "rank", "(II)I"⟩
theorem k_M_rank : Cond.code y_M_rank c_M_rank 3 (some FieldType.int) ∈ lw_tbl := List.mem_of_getElem? (i := 753) (by decide +kernel)
theorem b_M_rank : x_ce y_M_rank c_M_rank 3 (some FieldType.int) 2 := ⟨k_M_rank, i_M, by decide +kernel⟩
theorem s_M_rank : Cond.instanceMethod y_M_rank ∈ lw_tbl := List.mem_of_getElem? (i := 751) (by decide +kernel)
theorem v_M_rank : Cond.selects "FingerSpansModel" y_M_rank y_M_rank ∈ lw_tbl := List.mem_of_getElem? (i := 752) (by decide +kernel)
theorem d_M_rank_0 : decode c_M_rank 0 = .ok (.aload_n 0, 1) := by decide +kernel
theorem d_M_rank_1 : decode c_M_rank 1 = .ok (.iload_n 1, 1) := by decide +kernel
theorem d_M_rank_2 : decode c_M_rank 2 = .ok (.iload_n 2, 1) := by decide +kernel
theorem d_M_rank_3 : decode c_M_rank 3 = .ok (.invokevirtual 147, 3) := by decide +kernel
theorem d_M_rank_6 : decode c_M_rank 6 = .ok (.ifCond .eq 7, 3) := by decide +kernel
theorem d_M_rank_9 : decode c_M_rank 9 = .ok (.iconst (-1), 1) := by decide +kernel
theorem d_M_rank_10 : decode c_M_rank 10 = .ok (.goto 17, 3) := by decide +kernel
theorem d_M_rank_13 : decode c_M_rank 13 = .ok (.aload_n 0, 1) := by decide +kernel
theorem d_M_rank_14 : decode c_M_rank 14 = .ok (.getfield 23, 3) := by decide +kernel
theorem d_M_rank_17 : decode c_M_rank 17 = .ok (.bipush 40, 2) := by decide +kernel
theorem d_M_rank_19 : decode c_M_rank 19 = .ok (.iload_n 1, 1) := by decide +kernel
theorem d_M_rank_20 : decode c_M_rank 20 = .ok (.imul, 1) := by decide +kernel
theorem d_M_rank_21 : decode c_M_rank 21 = .ok (.iload_n 2, 1) := by decide +kernel
theorem d_M_rank_22 : decode c_M_rank 22 = .ok (.iadd, 1) := by decide +kernel
theorem d_M_rank_23 : decode c_M_rank 23 = .ok (.laload, 1) := by decide +kernel
theorem d_M_rank_24 : decode c_M_rank 24 = .ok (.invokestatic 40, 3) := by decide +kernel
theorem d_M_rank_27 : decode c_M_rank 27 = .ok (.ireturn, 1) := by decide +kernel
abbrev c_M_paint : ByteArray := prog_10_method_49_code
abbrev y_M_paint : MethodName := ⟨"FingerSpansModel", "paint", "(III)I"⟩
theorem k_M_paint : Cond.code y_M_paint c_M_paint 10 (some FieldType.int) ∈ lw_tbl := List.mem_of_getElem? (i := 761) (by decide +kernel)
theorem b_M_paint : x_ce y_M_paint c_M_paint 10 (some FieldType.int) 3 := ⟨k_M_paint, i_M, by decide +kernel⟩
theorem s_M_paint : Cond.instanceMethod y_M_paint ∈ lw_tbl := List.mem_of_getElem? (i := 760) (by decide +kernel)
theorem v_M_paint : Cond.selects "FingerSpansModel" y_M_paint y_M_paint ∈ lw_tbl := List.mem_of_getElem? (i := 57) (by decide +kernel)
theorem d_M_paint_0 : decode c_M_paint 0 = .ok (.iconst 0, 1) := by decide +kernel
theorem d_M_paint_1 : decode c_M_paint 1 = .ok (.istore 4, 2) := by decide +kernel
theorem d_M_paint_3 : decode c_M_paint 3 = .ok (.iconst 0, 1) := by decide +kernel
theorem d_M_paint_4 : decode c_M_paint 4 = .ok (.istore 5, 2) := by decide +kernel
theorem d_M_paint_6 : decode c_M_paint 6 = .ok (.iload 5, 2) := by decide +kernel
theorem d_M_paint_8 : decode c_M_paint 8 = .ok (.aload_n 0, 1) := by decide +kernel
theorem d_M_paint_9 : decode c_M_paint 9 = .ok (.getfield 27, 3) := by decide +kernel
theorem d_M_paint_12 : decode c_M_paint 12 = .ok (.iload_n 1, 1) := by decide +kernel
theorem d_M_paint_13 : decode c_M_paint 13 = .ok (.baload, 1) := by decide +kernel
theorem d_M_paint_14 : decode c_M_paint 14 = .ok (.if_icmp .ge 74, 3) := by decide +kernel
theorem d_M_paint_17 : decode c_M_paint 17 = .ok (.aload_n 0, 1) := by decide +kernel
theorem d_M_paint_18 : decode c_M_paint 18 = .ok (.getfield 23, 3) := by decide +kernel
theorem d_M_paint_21 : decode c_M_paint 21 = .ok (.bipush 40, 2) := by decide +kernel
theorem d_M_paint_23 : decode c_M_paint 23 = .ok (.iload_n 1, 1) := by decide +kernel
theorem d_M_paint_24 : decode c_M_paint 24 = .ok (.imul, 1) := by decide +kernel
theorem d_M_paint_25 : decode c_M_paint 25 = .ok (.iload 5, 2) := by decide +kernel
theorem d_M_paint_27 : decode c_M_paint 27 = .ok (.iadd, 1) := by decide +kernel
theorem d_M_paint_28 : decode c_M_paint 28 = .ok (.laload, 1) := by decide +kernel
theorem d_M_paint_29 : decode c_M_paint 29 = .ok (.lstore 6, 2) := by decide +kernel
theorem d_M_paint_31 : decode c_M_paint 31 = .ok (.iconst 1, 1) := by decide +kernel
theorem d_M_paint_32 : decode c_M_paint 32 = .ok (.istore 8, 2) := by decide +kernel
theorem d_M_paint_34 : decode c_M_paint 34 = .ok (.iload 8, 2) := by decide +kernel
theorem d_M_paint_36 : decode c_M_paint 36 = .ok (.lload 6, 2) := by decide +kernel
theorem d_M_paint_38 : decode c_M_paint 38 = .ok (.invokestatic 40, 3) := by decide +kernel
theorem d_M_paint_41 : decode c_M_paint 41 = .ok (.if_icmp .gt 41, 3) := by decide +kernel
theorem d_M_paint_44 : decode c_M_paint 44 = .ok (.lload 6, 2) := by decide +kernel
theorem d_M_paint_46 : decode c_M_paint 46 = .ok (.iload 8, 2) := by decide +kernel
theorem d_M_paint_48 : decode c_M_paint 48 = .ok (.invokestatic 47, 3) := by decide +kernel
theorem d_M_paint_51 : decode c_M_paint 51 = .ok (.istore 9, 2) := by decide +kernel
theorem d_M_paint_53 : decode c_M_paint 53 = .ok (.aload_n 0, 1) := by decide +kernel
theorem d_M_paint_54 : decode c_M_paint 54 = .ok (.getfield 20, 3) := by decide +kernel
theorem d_M_paint_57 : decode c_M_paint 57 = .ok (.iload 9, 2) := by decide +kernel
theorem d_M_paint_59 : decode c_M_paint 59 = .ok (.baload, 1) := by decide +kernel
theorem d_M_paint_60 : decode c_M_paint 60 = .ok (.iload_n 2, 1) := by decide +kernel
theorem d_M_paint_61 : decode c_M_paint 61 = .ok (.if_icmp .ne 15, 3) := by decide +kernel
theorem d_M_paint_64 : decode c_M_paint 64 = .ok (.aload_n 0, 1) := by decide +kernel
theorem d_M_paint_65 : decode c_M_paint 65 = .ok (.getfield 20, 3) := by decide +kernel
theorem d_M_paint_68 : decode c_M_paint 68 = .ok (.iload 9, 2) := by decide +kernel
theorem d_M_paint_70 : decode c_M_paint 70 = .ok (.iload_n 3, 1) := by decide +kernel
theorem d_M_paint_71 : decode c_M_paint 71 = .ok (.i2b, 1) := by decide +kernel
theorem d_M_paint_72 : decode c_M_paint 72 = .ok (.bastore, 1) := by decide +kernel
theorem d_M_paint_73 : decode c_M_paint 73 = .ok (.iinc 4 1, 3) := by decide +kernel
theorem d_M_paint_76 : decode c_M_paint 76 = .ok (.iinc 8 1, 3) := by decide +kernel
theorem d_M_paint_79 : decode c_M_paint 79 = .ok (.goto (-45), 3) := by decide +kernel
theorem d_M_paint_82 : decode c_M_paint 82 = .ok (.iinc 5 1, 3) := by decide +kernel
theorem d_M_paint_85 : decode c_M_paint 85 = .ok (.goto (-79), 3) := by decide +kernel
theorem d_M_paint_88 : decode c_M_paint 88 = .ok (.iload 4, 2) := by decide +kernel
theorem d_M_paint_90 : decode c_M_paint 90 = .ok (.ireturn, 1) := by decide +kernel
abbrev c_M_shared : ByteArray := prog_10_method_50_code
abbrev y_M_shared : MethodName := ⟨"FingerSpansModel", "shared", "(II)I"⟩
theorem k_M_shared : Cond.code y_M_shared c_M_shared 4 (some FieldType.int) ∈ lw_tbl := List.mem_of_getElem? (i := 757) (by decide +kernel)
theorem b_M_shared : x_ce y_M_shared c_M_shared 4 (some FieldType.int) 2 := ⟨k_M_shared, i_M, by decide +kernel⟩
theorem s_M_shared : Cond.instanceMethod y_M_shared ∈ lw_tbl := List.mem_of_getElem? (i := 755) (by decide +kernel)
theorem v_M_shared : Cond.selects "FingerSpansModel" y_M_shared y_M_shared ∈ lw_tbl := List.mem_of_getElem? (i := 756) (by decide +kernel)
theorem d_M_shared_0 : decode c_M_shared 0 = .ok (.aload_n 0, 1) := by decide +kernel
theorem d_M_shared_1 : decode c_M_shared 1 = .ok (.iload_n 1, 1) := by decide +kernel
theorem d_M_shared_2 : decode c_M_shared 2 = .ok (.invokevirtual 109, 3) := by decide +kernel
theorem d_M_shared_5 : decode c_M_shared 5 = .ok (.ifCond .ne 11, 3) := by decide +kernel
theorem d_M_shared_8 : decode c_M_shared 8 = .ok (.aload_n 0, 1) := by decide +kernel
theorem d_M_shared_9 : decode c_M_shared 9 = .ok (.iload_n 2, 1) := by decide +kernel
theorem d_M_shared_10 : decode c_M_shared 10 = .ok (.invokevirtual 109, 3) := by decide +kernel
theorem d_M_shared_13 : decode c_M_shared 13 = .ok (.ifCond .eq 5, 3) := by decide +kernel
theorem d_M_shared_16 : decode c_M_shared 16 = .ok (.iconst (-1), 1) := by decide +kernel
theorem d_M_shared_17 : decode c_M_shared 17 = .ok (.ireturn, 1) := by decide +kernel
theorem d_M_shared_18 : decode c_M_shared 18 = .ok (.aload_n 0, 1) := by decide +kernel
theorem d_M_shared_19 : decode c_M_shared 19 = .ok (.iload_n 1, 1) := by decide +kernel
theorem d_M_shared_20 : decode c_M_shared 20 = .ok (.iconst 0, 1) := by decide +kernel
theorem d_M_shared_21 : decode c_M_shared 21 = .ok (.iconst 1, 1) := by decide +kernel
theorem d_M_shared_22 : decode c_M_shared 22 = .ok (.invokevirtual 156, 3) := by decide +kernel
theorem d_M_shared_25 : decode c_M_shared 25 = .ok (.pop, 1) := by decide +kernel
theorem d_M_shared_26 : decode c_M_shared 26 = .ok (.aload_n 0, 1) := by decide +kernel
theorem d_M_shared_27 : decode c_M_shared 27 = .ok (.iload_n 2, 1) := by decide +kernel
theorem d_M_shared_28 : decode c_M_shared 28 = .ok (.iconst 1, 1) := by decide +kernel
theorem d_M_shared_29 : decode c_M_shared 29 = .ok (.iconst 2, 1) := by decide +kernel
theorem d_M_shared_30 : decode c_M_shared 30 = .ok (.invokevirtual 156, 3) := by decide +kernel
theorem d_M_shared_33 : decode c_M_shared 33 = .ok (.istore_n 3, 1) := by decide +kernel
theorem d_M_shared_34 : decode c_M_shared 34 = .ok (.aload_n 0, 1) := by decide +kernel
theorem d_M_shared_35 : decode c_M_shared 35 = .ok (.iload_n 1, 1) := by decide +kernel
theorem d_M_shared_36 : decode c_M_shared 36 = .ok (.iconst 1, 1) := by decide +kernel
theorem d_M_shared_37 : decode c_M_shared 37 = .ok (.iconst 0, 1) := by decide +kernel
theorem d_M_shared_38 : decode c_M_shared 38 = .ok (.invokevirtual 156, 3) := by decide +kernel
theorem d_M_shared_41 : decode c_M_shared 41 = .ok (.pop, 1) := by decide +kernel
theorem d_M_shared_42 : decode c_M_shared 42 = .ok (.aload_n 0, 1) := by decide +kernel
theorem d_M_shared_43 : decode c_M_shared 43 = .ok (.iload_n 1, 1) := by decide +kernel
theorem d_M_shared_44 : decode c_M_shared 44 = .ok (.iconst 2, 1) := by decide +kernel
theorem d_M_shared_45 : decode c_M_shared 45 = .ok (.iconst 0, 1) := by decide +kernel
theorem d_M_shared_46 : decode c_M_shared 46 = .ok (.invokevirtual 156, 3) := by decide +kernel
theorem d_M_shared_49 : decode c_M_shared 49 = .ok (.pop, 1) := by decide +kernel
theorem d_M_shared_50 : decode c_M_shared 50 = .ok (.iload_n 3, 1) := by decide +kernel
theorem d_M_shared_51 : decode c_M_shared 51 = .ok (.ireturn, 1) := by decide +kernel
abbrev c_M_made : ByteArray := prog_10_method_51_code
abbrev y_M_made : MethodName := ⟨"FingerSpansModel", "made", "()I"⟩
theorem k_M_made : Cond.code y_M_made c_M_made 1 (some FieldType.int) ∈ lw_tbl := List.mem_of_getElem? (i := 765) (by decide +kernel)
theorem b_M_made : x_ce y_M_made c_M_made 1 (some FieldType.int) 0 := ⟨k_M_made, i_M, by decide +kernel⟩
theorem s_M_made : Cond.instanceMethod y_M_made ∈ lw_tbl := List.mem_of_getElem? (i := 763) (by decide +kernel)
theorem v_M_made : Cond.selects "FingerSpansModel" y_M_made y_M_made ∈ lw_tbl := List.mem_of_getElem? (i := 764) (by decide +kernel)
theorem d_M_made_0 : decode c_M_made 0 = .ok (.aload_n 0, 1) := by decide +kernel
theorem d_M_made_1 : decode c_M_made 1 = .ok (.getfield 53, 3) := by decide +kernel
theorem d_M_made_4 : decode c_M_made 4 = .ok (.ireturn, 1) := by decide +kernel
end
section
/-! Methods: codes, names, decoded instructions: written by wip/whole/tools/names.py out of the claim. -/
abbrev c_F_init : ByteArray := prog_1_method_1_code
abbrev y_F_init : MethodName := ⟨"FingerSpans", "<init>", "()V"⟩
theorem k_F_init : Cond.code y_F_init c_F_init 1 (none : Option FieldType) ∈ lw_tbl := List.mem_of_getElem? (i := 73) (by decide +kernel)
theorem b_F_init : x_ce y_F_init c_F_init 1 (none : Option FieldType) 0 := ⟨k_F_init, i_F, by decide +kernel⟩
theorem s_F_init : Cond.instanceMethod y_F_init ∈ lw_tbl := List.mem_of_getElem? (i := 72) (by decide +kernel)
theorem d_F_init_0 : decode c_F_init 0 = .ok (.aload_n 0, 1) := by decide +kernel
theorem d_F_init_1 : decode c_F_init 1 = .ok (.invokespecial 3, 3) := by decide +kernel
theorem d_F_init_4 : decode c_F_init 4 = .ok (.aload_n 0, 1) := by decide +kernel
theorem d_F_init_5 : decode c_F_init 5 = .ok (.new 9, 3) := by decide +kernel
theorem d_F_init_8 : decode c_F_init 8 = .ok (.dup, 1) := by decide +kernel
theorem d_F_init_9 : decode c_F_init 9 = .ok (.invokespecial 11, 3) := by decide +kernel
theorem d_F_init_12 : decode c_F_init 12 = .ok (.putfield 12, 3) := by decide +kernel
theorem d_F_init_15 : decode c_F_init 15 = .ok (.aload_n 0, 1) := by decide +kernel
theorem d_F_init_16 : decode c_F_init 16 = .ok (.new 16, 3) := by decide +kernel
theorem d_F_init_19 : decode c_F_init 19 = .ok (.dup, 1) := by decide +kernel
theorem d_F_init_20 : decode c_F_init 20 = .ok (.invokespecial 18, 3) := by decide +kernel
theorem d_F_init_23 : decode c_F_init 23 = .ok (.putfield 19, 3) := by decide +kernel
theorem d_F_init_26 : decode c_F_init 26 = .ok (.aload_n 0, 1) := by decide +kernel
theorem d_F_init_27 : decode c_F_init 27 = .ok (.bipush 120, 2) := by decide +kernel
theorem d_F_init_29 : decode c_F_init 29 = .ok (.anewarray 23, 3) := by decide +kernel
theorem d_F_init_32 : decode c_F_init 32 = .ok (.putfield 25, 3) := by decide +kernel
theorem d_F_init_35 : decode c_F_init 35 = .ok (.aload_n 0, 1) := by decide +kernel
theorem d_F_init_36 : decode c_F_init 36 = .ok (.getfield 25, 3) := by decide +kernel
theorem d_F_init_39 : decode c_F_init 39 = .ok (.iconst 0, 1) := by decide +kernel
theorem d_F_init_40 : decode c_F_init 40 = .ok (.aload_n 0, 1) := by decide +kernel
theorem d_F_init_41 : decode c_F_init 41 = .ok (.getfield 12, 3) := by decide +kernel
theorem d_F_init_44 : decode c_F_init 44 = .ok (.getfield 29, 3) := by decide +kernel
theorem d_F_init_47 : decode c_F_init 47 = .ok (.aastore, 1) := by decide +kernel
theorem d_F_init_48 : decode c_F_init 48 = .ok (.aload_n 0, 1) := by decide +kernel
theorem d_F_init_49 : decode c_F_init 49 = .ok (.iconst 1, 1) := by decide +kernel
theorem d_F_init_50 : decode c_F_init 50 = .ok (.putfield 33, 3) := by decide +kernel
theorem d_F_init_53 : decode c_F_init 53 = .ok (.return_, 1) := by decide +kernel
abbrev c_F_pushFront : ByteArray := prog_1_method_2_code
abbrev y_F_pushFront : MethodName := ⟨"FingerSpans", "pushFront", "(III)I"⟩
theorem k_F_pushFront : Cond.code y_F_pushFront c_F_pushFront 4 (some FieldType.int) ∈ lw_tbl := List.mem_of_getElem? (i := 167) (by decide +kernel)
theorem b_F_pushFront : x_ce y_F_pushFront c_F_pushFront 4 (some FieldType.int) 3 := ⟨k_F_pushFront, i_F, by decide +kernel⟩
theorem s_F_pushFront : Cond.instanceMethod y_F_pushFront ∈ lw_tbl := List.mem_of_getElem? (i := 165) (by decide +kernel)
theorem v_F_pushFront : Cond.selects "FingerSpans" y_F_pushFront y_F_pushFront ∈ lw_tbl := List.mem_of_getElem? (i := 166) (by decide +kernel)
theorem d_F_pushFront_0 : decode c_F_pushFront 0 = .ok (.aload_n 0, 1) := by decide +kernel
theorem d_F_pushFront_1 : decode c_F_pushFront 1 = .ok (.iload_n 1, 1) := by decide +kernel
theorem d_F_pushFront_2 : decode c_F_pushFront 2 = .ok (.invokevirtual 37, 3) := by decide +kernel
theorem d_F_pushFront_5 : decode c_F_pushFront 5 = .ok (.ifCond .eq 8, 3) := by decide +kernel
theorem d_F_pushFront_8 : decode c_F_pushFront 8 = .ok (.iload_n 2, 1) := by decide +kernel
theorem d_F_pushFront_9 : decode c_F_pushFront 9 = .ok (.iload_n 3, 1) := by decide +kernel
theorem d_F_pushFront_10 : decode c_F_pushFront 10 = .ok (.if_icmp .le 5, 3) := by decide +kernel
theorem d_F_pushFront_13 : decode c_F_pushFront 13 = .ok (.iconst (-1), 1) := by decide +kernel
theorem d_F_pushFront_14 : decode c_F_pushFront 14 = .ok (.ireturn, 1) := by decide +kernel
theorem d_F_pushFront_15 : decode c_F_pushFront 15 = .ok (.aload_n 0, 1) := by decide +kernel
theorem d_F_pushFront_16 : decode c_F_pushFront 16 = .ok (.iconst 1, 1) := by decide +kernel
theorem d_F_pushFront_17 : decode c_F_pushFront 17 = .ok (.invokevirtual 41, 3) := by decide +kernel
theorem d_F_pushFront_20 : decode c_F_pushFront 20 = .ok (.ifCond .eq 17, 3) := by decide +kernel
theorem d_F_pushFront_23 : decode c_F_pushFront 23 = .ok (.aload_n 0, 1) := by decide +kernel
theorem d_F_pushFront_24 : decode c_F_pushFront 24 = .ok (.getfield 25, 3) := by decide +kernel
theorem d_F_pushFront_27 : decode c_F_pushFront 27 = .ok (.iload_n 1, 1) := by decide +kernel
theorem d_F_pushFront_28 : decode c_F_pushFront 28 = .ok (.aaload, 1) := by decide +kernel
theorem d_F_pushFront_29 : decode c_F_pushFront 29 = .ok (.getfield 44, 3) := by decide +kernel
theorem d_F_pushFront_32 : decode c_F_pushFront 32 = .ok (.bipush 40, 2) := by decide +kernel
theorem d_F_pushFront_34 : decode c_F_pushFront 34 = .ok (.if_icmp .lt 6, 3) := by decide +kernel
theorem d_F_pushFront_37 : decode c_F_pushFront 37 = .ok (.bipush (-2), 2) := by decide +kernel
theorem d_F_pushFront_39 : decode c_F_pushFront 39 = .ok (.ireturn, 1) := by decide +kernel
theorem d_F_pushFront_40 : decode c_F_pushFront 40 = .ok (.aload_n 0, 1) := by decide +kernel
theorem d_F_pushFront_41 : decode c_F_pushFront 41 = .ok (.aload_n 0, 1) := by decide +kernel
theorem d_F_pushFront_42 : decode c_F_pushFront 42 = .ok (.getfield 12, 3) := by decide +kernel
theorem d_F_pushFront_45 : decode c_F_pushFront 45 = .ok (.new 47, 3) := by decide +kernel
theorem d_F_pushFront_48 : decode c_F_pushFront 48 = .ok (.dup, 1) := by decide +kernel
theorem d_F_pushFront_49 : decode c_F_pushFront 49 = .ok (.iload_n 2, 1) := by decide +kernel
theorem d_F_pushFront_50 : decode c_F_pushFront 50 = .ok (.iload_n 3, 1) := by decide +kernel
theorem d_F_pushFront_51 : decode c_F_pushFront 51 = .ok (.invokespecial 49, 3) := by decide +kernel
theorem d_F_pushFront_54 : decode c_F_pushFront 54 = .ok (.aload_n 0, 1) := by decide +kernel
theorem d_F_pushFront_55 : decode c_F_pushFront 55 = .ok (.getfield 25, 3) := by decide +kernel
theorem d_F_pushFront_58 : decode c_F_pushFront 58 = .ok (.iload_n 1, 1) := by decide +kernel
theorem d_F_pushFront_59 : decode c_F_pushFront 59 = .ok (.aaload, 1) := by decide +kernel
theorem d_F_pushFront_60 : decode c_F_pushFront 60 = .ok (.invokevirtual 52, 3) := by decide +kernel
theorem d_F_pushFront_63 : decode c_F_pushFront 63 = .ok (.invokevirtual 56, 3) := by decide +kernel
theorem d_F_pushFront_66 : decode c_F_pushFront 66 = .ok (.ireturn, 1) := by decide +kernel
abbrev c_F_pushBack : ByteArray := prog_1_method_3_code
abbrev y_F_pushBack : MethodName := ⟨"FingerSpans", "pushBack", "(III)I"⟩
theorem k_F_pushBack : Cond.code y_F_pushBack c_F_pushBack 4 (some FieldType.int) ∈ lw_tbl := List.mem_of_getElem? (i := 251) (by decide +kernel)
theorem b_F_pushBack : x_ce y_F_pushBack c_F_pushBack 4 (some FieldType.int) 3 := ⟨k_F_pushBack, i_F, by decide +kernel⟩
theorem s_F_pushBack : Cond.instanceMethod y_F_pushBack ∈ lw_tbl := List.mem_of_getElem? (i := 249) (by decide +kernel)
theorem v_F_pushBack : Cond.selects "FingerSpans" y_F_pushBack y_F_pushBack ∈ lw_tbl := List.mem_of_getElem? (i := 250) (by decide +kernel)
theorem d_F_pushBack_0 : decode c_F_pushBack 0 = .ok (.aload_n 0, 1) := by decide +kernel
theorem d_F_pushBack_1 : decode c_F_pushBack 1 = .ok (.iload_n 1, 1) := by decide +kernel
theorem d_F_pushBack_2 : decode c_F_pushBack 2 = .ok (.invokevirtual 37, 3) := by decide +kernel
theorem d_F_pushBack_5 : decode c_F_pushBack 5 = .ok (.ifCond .eq 8, 3) := by decide +kernel
theorem d_F_pushBack_8 : decode c_F_pushBack 8 = .ok (.iload_n 2, 1) := by decide +kernel
theorem d_F_pushBack_9 : decode c_F_pushBack 9 = .ok (.iload_n 3, 1) := by decide +kernel
theorem d_F_pushBack_10 : decode c_F_pushBack 10 = .ok (.if_icmp .le 5, 3) := by decide +kernel
theorem d_F_pushBack_13 : decode c_F_pushBack 13 = .ok (.iconst (-1), 1) := by decide +kernel
theorem d_F_pushBack_14 : decode c_F_pushBack 14 = .ok (.ireturn, 1) := by decide +kernel
theorem d_F_pushBack_15 : decode c_F_pushBack 15 = .ok (.aload_n 0, 1) := by decide +kernel
theorem d_F_pushBack_16 : decode c_F_pushBack 16 = .ok (.iconst 1, 1) := by decide +kernel
theorem d_F_pushBack_17 : decode c_F_pushBack 17 = .ok (.invokevirtual 41, 3) := by decide +kernel
theorem d_F_pushBack_20 : decode c_F_pushBack 20 = .ok (.ifCond .eq 17, 3) := by decide +kernel
theorem d_F_pushBack_23 : decode c_F_pushBack 23 = .ok (.aload_n 0, 1) := by decide +kernel
theorem d_F_pushBack_24 : decode c_F_pushBack 24 = .ok (.getfield 25, 3) := by decide +kernel
theorem d_F_pushBack_27 : decode c_F_pushBack 27 = .ok (.iload_n 1, 1) := by decide +kernel
theorem d_F_pushBack_28 : decode c_F_pushBack 28 = .ok (.aaload, 1) := by decide +kernel
theorem d_F_pushBack_29 : decode c_F_pushBack 29 = .ok (.getfield 44, 3) := by decide +kernel
theorem d_F_pushBack_32 : decode c_F_pushBack 32 = .ok (.bipush 40, 2) := by decide +kernel
theorem d_F_pushBack_34 : decode c_F_pushBack 34 = .ok (.if_icmp .lt 6, 3) := by decide +kernel
theorem d_F_pushBack_37 : decode c_F_pushBack 37 = .ok (.bipush (-2), 2) := by decide +kernel
theorem d_F_pushBack_39 : decode c_F_pushBack 39 = .ok (.ireturn, 1) := by decide +kernel
theorem d_F_pushBack_40 : decode c_F_pushBack 40 = .ok (.aload_n 0, 1) := by decide +kernel
theorem d_F_pushBack_41 : decode c_F_pushBack 41 = .ok (.aload_n 0, 1) := by decide +kernel
theorem d_F_pushBack_42 : decode c_F_pushBack 42 = .ok (.getfield 12, 3) := by decide +kernel
theorem d_F_pushBack_45 : decode c_F_pushBack 45 = .ok (.aload_n 0, 1) := by decide +kernel
theorem d_F_pushBack_46 : decode c_F_pushBack 46 = .ok (.getfield 25, 3) := by decide +kernel
theorem d_F_pushBack_49 : decode c_F_pushBack 49 = .ok (.iload_n 1, 1) := by decide +kernel
theorem d_F_pushBack_50 : decode c_F_pushBack 50 = .ok (.aaload, 1) := by decide +kernel
theorem d_F_pushBack_51 : decode c_F_pushBack 51 = .ok (.new 47, 3) := by decide +kernel
theorem d_F_pushBack_54 : decode c_F_pushBack 54 = .ok (.dup, 1) := by decide +kernel
theorem d_F_pushBack_55 : decode c_F_pushBack 55 = .ok (.iload_n 2, 1) := by decide +kernel
theorem d_F_pushBack_56 : decode c_F_pushBack 56 = .ok (.iload_n 3, 1) := by decide +kernel
theorem d_F_pushBack_57 : decode c_F_pushBack 57 = .ok (.invokespecial 49, 3) := by decide +kernel
theorem d_F_pushBack_60 : decode c_F_pushBack 60 = .ok (.invokevirtual 60, 3) := by decide +kernel
theorem d_F_pushBack_63 : decode c_F_pushBack 63 = .ok (.invokevirtual 56, 3) := by decide +kernel
theorem d_F_pushBack_66 : decode c_F_pushBack 66 = .ok (.ireturn, 1) := by decide +kernel
abbrev c_F_popFront : ByteArray := prog_1_method_4_code
abbrev y_F_popFront : MethodName := ⟨"FingerSpans", "popFront", "(I)I"⟩
theorem k_F_popFront : Cond.code y_F_popFront c_F_popFront 2 (some FieldType.int) ∈ lw_tbl := List.mem_of_getElem? (i := 268) (by decide +kernel)
theorem b_F_popFront : x_ce y_F_popFront c_F_popFront 2 (some FieldType.int) 1 := ⟨k_F_popFront, i_F, by decide +kernel⟩
theorem s_F_popFront : Cond.instanceMethod y_F_popFront ∈ lw_tbl := List.mem_of_getElem? (i := 266) (by decide +kernel)
theorem v_F_popFront : Cond.selects "FingerSpans" y_F_popFront y_F_popFront ∈ lw_tbl := List.mem_of_getElem? (i := 267) (by decide +kernel)
theorem d_F_popFront_0 : decode c_F_popFront 0 = .ok (.aload_n 0, 1) := by decide +kernel
theorem d_F_popFront_1 : decode c_F_popFront 1 = .ok (.iload_n 1, 1) := by decide +kernel
theorem d_F_popFront_2 : decode c_F_popFront 2 = .ok (.invokevirtual 37, 3) := by decide +kernel
theorem d_F_popFront_5 : decode c_F_popFront 5 = .ok (.ifCond .eq 15, 3) := by decide +kernel
theorem d_F_popFront_8 : decode c_F_popFront 8 = .ok (.aload_n 0, 1) := by decide +kernel
theorem d_F_popFront_9 : decode c_F_popFront 9 = .ok (.getfield 25, 3) := by decide +kernel
theorem d_F_popFront_12 : decode c_F_popFront 12 = .ok (.iload_n 1, 1) := by decide +kernel
theorem d_F_popFront_13 : decode c_F_popFront 13 = .ok (.aaload, 1) := by decide +kernel
theorem d_F_popFront_14 : decode c_F_popFront 14 = .ok (.invokevirtual 64, 3) := by decide +kernel
theorem d_F_popFront_17 : decode c_F_popFront 17 = .ok (.ifCond .eq 5, 3) := by decide +kernel
theorem d_F_popFront_20 : decode c_F_popFront 20 = .ok (.iconst (-1), 1) := by decide +kernel
theorem d_F_popFront_21 : decode c_F_popFront 21 = .ok (.ireturn, 1) := by decide +kernel
theorem d_F_popFront_22 : decode c_F_popFront 22 = .ok (.aload_n 0, 1) := by decide +kernel
theorem d_F_popFront_23 : decode c_F_popFront 23 = .ok (.iconst 1, 1) := by decide +kernel
theorem d_F_popFront_24 : decode c_F_popFront 24 = .ok (.invokevirtual 41, 3) := by decide +kernel
theorem d_F_popFront_27 : decode c_F_popFront 27 = .ok (.ifCond .ne 6, 3) := by decide +kernel
theorem d_F_popFront_30 : decode c_F_popFront 30 = .ok (.bipush (-2), 2) := by decide +kernel
theorem d_F_popFront_32 : decode c_F_popFront 32 = .ok (.ireturn, 1) := by decide +kernel
theorem d_F_popFront_33 : decode c_F_popFront 33 = .ok (.aload_n 0, 1) := by decide +kernel
theorem d_F_popFront_34 : decode c_F_popFront 34 = .ok (.aload_n 0, 1) := by decide +kernel
theorem d_F_popFront_35 : decode c_F_popFront 35 = .ok (.getfield 12, 3) := by decide +kernel
theorem d_F_popFront_38 : decode c_F_popFront 38 = .ok (.aload_n 0, 1) := by decide +kernel
theorem d_F_popFront_39 : decode c_F_popFront 39 = .ok (.getfield 25, 3) := by decide +kernel
theorem d_F_popFront_42 : decode c_F_popFront 42 = .ok (.iload_n 1, 1) := by decide +kernel
theorem d_F_popFront_43 : decode c_F_popFront 43 = .ok (.aaload, 1) := by decide +kernel
theorem d_F_popFront_44 : decode c_F_popFront 44 = .ok (.invokevirtual 68, 3) := by decide +kernel
theorem d_F_popFront_47 : decode c_F_popFront 47 = .ok (.invokevirtual 56, 3) := by decide +kernel
theorem d_F_popFront_50 : decode c_F_popFront 50 = .ok (.ireturn, 1) := by decide +kernel
abbrev c_F_popBack : ByteArray := prog_1_method_5_code
abbrev y_F_popBack : MethodName := ⟨"FingerSpans", "popBack", "(I)I"⟩
theorem k_F_popBack : Cond.code y_F_popBack c_F_popBack 2 (some FieldType.int) ∈ lw_tbl := List.mem_of_getElem? (i := 295) (by decide +kernel)
theorem b_F_popBack : x_ce y_F_popBack c_F_popBack 2 (some FieldType.int) 1 := ⟨k_F_popBack, i_F, by decide +kernel⟩
theorem s_F_popBack : Cond.instanceMethod y_F_popBack ∈ lw_tbl := List.mem_of_getElem? (i := 293) (by decide +kernel)
theorem v_F_popBack : Cond.selects "FingerSpans" y_F_popBack y_F_popBack ∈ lw_tbl := List.mem_of_getElem? (i := 294) (by decide +kernel)
theorem d_F_popBack_0 : decode c_F_popBack 0 = .ok (.aload_n 0, 1) := by decide +kernel
theorem d_F_popBack_1 : decode c_F_popBack 1 = .ok (.iload_n 1, 1) := by decide +kernel
theorem d_F_popBack_2 : decode c_F_popBack 2 = .ok (.invokevirtual 37, 3) := by decide +kernel
theorem d_F_popBack_5 : decode c_F_popBack 5 = .ok (.ifCond .eq 15, 3) := by decide +kernel
theorem d_F_popBack_8 : decode c_F_popBack 8 = .ok (.aload_n 0, 1) := by decide +kernel
theorem d_F_popBack_9 : decode c_F_popBack 9 = .ok (.getfield 25, 3) := by decide +kernel
theorem d_F_popBack_12 : decode c_F_popBack 12 = .ok (.iload_n 1, 1) := by decide +kernel
theorem d_F_popBack_13 : decode c_F_popBack 13 = .ok (.aaload, 1) := by decide +kernel
theorem d_F_popBack_14 : decode c_F_popBack 14 = .ok (.invokevirtual 64, 3) := by decide +kernel
theorem d_F_popBack_17 : decode c_F_popBack 17 = .ok (.ifCond .eq 5, 3) := by decide +kernel
theorem d_F_popBack_20 : decode c_F_popBack 20 = .ok (.iconst (-1), 1) := by decide +kernel
theorem d_F_popBack_21 : decode c_F_popBack 21 = .ok (.ireturn, 1) := by decide +kernel
theorem d_F_popBack_22 : decode c_F_popBack 22 = .ok (.aload_n 0, 1) := by decide +kernel
theorem d_F_popBack_23 : decode c_F_popBack 23 = .ok (.iconst 1, 1) := by decide +kernel
theorem d_F_popBack_24 : decode c_F_popBack 24 = .ok (.invokevirtual 41, 3) := by decide +kernel
theorem d_F_popBack_27 : decode c_F_popBack 27 = .ok (.ifCond .ne 6, 3) := by decide +kernel
theorem d_F_popBack_30 : decode c_F_popBack 30 = .ok (.bipush (-2), 2) := by decide +kernel
theorem d_F_popBack_32 : decode c_F_popBack 32 = .ok (.ireturn, 1) := by decide +kernel
theorem d_F_popBack_33 : decode c_F_popBack 33 = .ok (.aload_n 0, 1) := by decide +kernel
theorem d_F_popBack_34 : decode c_F_popBack 34 = .ok (.aload_n 0, 1) := by decide +kernel
theorem d_F_popBack_35 : decode c_F_popBack 35 = .ok (.getfield 12, 3) := by decide +kernel
theorem d_F_popBack_38 : decode c_F_popBack 38 = .ok (.aload_n 0, 1) := by decide +kernel
theorem d_F_popBack_39 : decode c_F_popBack 39 = .ok (.getfield 25, 3) := by decide +kernel
theorem d_F_popBack_42 : decode c_F_popBack 42 = .ok (.iload_n 1, 1) := by decide +kernel
theorem d_F_popBack_43 : decode c_F_popBack 43 = .ok (.aaload, 1) := by decide +kernel
theorem d_F_popBack_44 : decode c_F_popBack 44 = .ok (.invokevirtual 72, 3) := by decide +kernel
theorem d_F_popBack_47 : decode c_F_popBack 47 = .ok (.invokevirtual 56, 3) := by decide +kernel
theorem d_F_popBack_50 : decode c_F_popBack 50 = .ok (.ireturn, 1) := by decide +kernel
abbrev c_F_concat : ByteArray := prog_1_method_6_code
abbrev y_F_concat : MethodName := ⟨"FingerSpans", "concat", "(II)I"⟩
theorem k_F_concat : Cond.code y_F_concat c_F_concat 3 (some FieldType.int) ∈ lw_tbl := List.mem_of_getElem? (i := 300) (by decide +kernel)
theorem b_F_concat : x_ce y_F_concat c_F_concat 3 (some FieldType.int) 2 := ⟨k_F_concat, i_F, by decide +kernel⟩
theorem s_F_concat : Cond.instanceMethod y_F_concat ∈ lw_tbl := List.mem_of_getElem? (i := 298) (by decide +kernel)
theorem v_F_concat : Cond.selects "FingerSpans" y_F_concat y_F_concat ∈ lw_tbl := List.mem_of_getElem? (i := 299) (by decide +kernel)
theorem d_F_concat_0 : decode c_F_concat 0 = .ok (.aload_n 0, 1) := by decide +kernel
theorem d_F_concat_1 : decode c_F_concat 1 = .ok (.iload_n 1, 1) := by decide +kernel
theorem d_F_concat_2 : decode c_F_concat 2 = .ok (.invokevirtual 37, 3) := by decide +kernel
theorem d_F_concat_5 : decode c_F_concat 5 = .ok (.ifCond .eq 11, 3) := by decide +kernel
theorem d_F_concat_8 : decode c_F_concat 8 = .ok (.aload_n 0, 1) := by decide +kernel
theorem d_F_concat_9 : decode c_F_concat 9 = .ok (.iload_n 2, 1) := by decide +kernel
theorem d_F_concat_10 : decode c_F_concat 10 = .ok (.invokevirtual 37, 3) := by decide +kernel
theorem d_F_concat_13 : decode c_F_concat 13 = .ok (.ifCond .ne 5, 3) := by decide +kernel
theorem d_F_concat_16 : decode c_F_concat 16 = .ok (.iconst (-1), 1) := by decide +kernel
theorem d_F_concat_17 : decode c_F_concat 17 = .ok (.ireturn, 1) := by decide +kernel
theorem d_F_concat_18 : decode c_F_concat 18 = .ok (.aload_n 0, 1) := by decide +kernel
theorem d_F_concat_19 : decode c_F_concat 19 = .ok (.iconst 1, 1) := by decide +kernel
theorem d_F_concat_20 : decode c_F_concat 20 = .ok (.invokevirtual 41, 3) := by decide +kernel
theorem d_F_concat_23 : decode c_F_concat 23 = .ok (.ifCond .eq 27, 3) := by decide +kernel
theorem d_F_concat_26 : decode c_F_concat 26 = .ok (.aload_n 0, 1) := by decide +kernel
theorem d_F_concat_27 : decode c_F_concat 27 = .ok (.getfield 25, 3) := by decide +kernel
theorem d_F_concat_30 : decode c_F_concat 30 = .ok (.iload_n 1, 1) := by decide +kernel
theorem d_F_concat_31 : decode c_F_concat 31 = .ok (.aaload, 1) := by decide +kernel
theorem d_F_concat_32 : decode c_F_concat 32 = .ok (.getfield 44, 3) := by decide +kernel
theorem d_F_concat_35 : decode c_F_concat 35 = .ok (.aload_n 0, 1) := by decide +kernel
theorem d_F_concat_36 : decode c_F_concat 36 = .ok (.getfield 25, 3) := by decide +kernel
theorem d_F_concat_39 : decode c_F_concat 39 = .ok (.iload_n 2, 1) := by decide +kernel
theorem d_F_concat_40 : decode c_F_concat 40 = .ok (.aaload, 1) := by decide +kernel
theorem d_F_concat_41 : decode c_F_concat 41 = .ok (.getfield 44, 3) := by decide +kernel
theorem d_F_concat_44 : decode c_F_concat 44 = .ok (.iadd, 1) := by decide +kernel
theorem d_F_concat_45 : decode c_F_concat 45 = .ok (.bipush 40, 2) := by decide +kernel
theorem d_F_concat_47 : decode c_F_concat 47 = .ok (.if_icmp .le 6, 3) := by decide +kernel
theorem d_F_concat_50 : decode c_F_concat 50 = .ok (.bipush (-2), 2) := by decide +kernel
theorem d_F_concat_52 : decode c_F_concat 52 = .ok (.ireturn, 1) := by decide +kernel
theorem d_F_concat_53 : decode c_F_concat 53 = .ok (.aload_n 0, 1) := by decide +kernel
theorem d_F_concat_54 : decode c_F_concat 54 = .ok (.aload_n 0, 1) := by decide +kernel
theorem d_F_concat_55 : decode c_F_concat 55 = .ok (.getfield 12, 3) := by decide +kernel
theorem d_F_concat_58 : decode c_F_concat 58 = .ok (.aload_n 0, 1) := by decide +kernel
theorem d_F_concat_59 : decode c_F_concat 59 = .ok (.getfield 25, 3) := by decide +kernel
theorem d_F_concat_62 : decode c_F_concat 62 = .ok (.iload_n 1, 1) := by decide +kernel
theorem d_F_concat_63 : decode c_F_concat 63 = .ok (.aaload, 1) := by decide +kernel
theorem d_F_concat_64 : decode c_F_concat 64 = .ok (.aload_n 0, 1) := by decide +kernel
theorem d_F_concat_65 : decode c_F_concat 65 = .ok (.getfield 12, 3) := by decide +kernel
theorem d_F_concat_68 : decode c_F_concat 68 = .ok (.getfield 75, 3) := by decide +kernel
theorem d_F_concat_71 : decode c_F_concat 71 = .ok (.aload_n 0, 1) := by decide +kernel
theorem d_F_concat_72 : decode c_F_concat 72 = .ok (.getfield 25, 3) := by decide +kernel
theorem d_F_concat_75 : decode c_F_concat 75 = .ok (.iload_n 2, 1) := by decide +kernel
theorem d_F_concat_76 : decode c_F_concat 76 = .ok (.aaload, 1) := by decide +kernel
theorem d_F_concat_77 : decode c_F_concat 77 = .ok (.invokevirtual 79, 3) := by decide +kernel
theorem d_F_concat_80 : decode c_F_concat 80 = .ok (.invokevirtual 56, 3) := by decide +kernel
theorem d_F_concat_83 : decode c_F_concat 83 = .ok (.ireturn, 1) := by decide +kernel
abbrev c_F_split : ByteArray := prog_1_method_7_code
abbrev y_F_split : MethodName := ⟨"FingerSpans", "split", "(II)I"⟩
theorem k_F_split : Cond.code y_F_split c_F_split 5 (some FieldType.int) ∈ lw_tbl := List.mem_of_getElem? (i := 321) (by decide +kernel)
theorem b_F_split : x_ce y_F_split c_F_split 5 (some FieldType.int) 2 := ⟨k_F_split, i_F, by decide +kernel⟩
theorem s_F_split : Cond.instanceMethod y_F_split ∈ lw_tbl := List.mem_of_getElem? (i := 319) (by decide +kernel)
theorem v_F_split : Cond.selects "FingerSpans" y_F_split y_F_split ∈ lw_tbl := List.mem_of_getElem? (i := 320) (by decide +kernel)
theorem d_F_split_0 : decode c_F_split 0 = .ok (.aload_n 0, 1) := by decide +kernel
theorem d_F_split_1 : decode c_F_split 1 = .ok (.iload_n 1, 1) := by decide +kernel
theorem d_F_split_2 : decode c_F_split 2 = .ok (.invokevirtual 37, 3) := by decide +kernel
theorem d_F_split_5 : decode c_F_split 5 = .ok (.ifCond .eq 20, 3) := by decide +kernel
theorem d_F_split_8 : decode c_F_split 8 = .ok (.iload_n 2, 1) := by decide +kernel
theorem d_F_split_9 : decode c_F_split 9 = .ok (.ifCond .lt 16, 3) := by decide +kernel
theorem d_F_split_12 : decode c_F_split 12 = .ok (.iload_n 2, 1) := by decide +kernel
theorem d_F_split_13 : decode c_F_split 13 = .ok (.aload_n 0, 1) := by decide +kernel
theorem d_F_split_14 : decode c_F_split 14 = .ok (.getfield 25, 3) := by decide +kernel
theorem d_F_split_17 : decode c_F_split 17 = .ok (.iload_n 1, 1) := by decide +kernel
theorem d_F_split_18 : decode c_F_split 18 = .ok (.aaload, 1) := by decide +kernel
theorem d_F_split_19 : decode c_F_split 19 = .ok (.getfield 44, 3) := by decide +kernel
theorem d_F_split_22 : decode c_F_split 22 = .ok (.if_icmp .le 5, 3) := by decide +kernel
theorem d_F_split_25 : decode c_F_split 25 = .ok (.iconst (-1), 1) := by decide +kernel
theorem d_F_split_26 : decode c_F_split 26 = .ok (.ireturn, 1) := by decide +kernel
theorem d_F_split_27 : decode c_F_split 27 = .ok (.aload_n 0, 1) := by decide +kernel
theorem d_F_split_28 : decode c_F_split 28 = .ok (.iconst 2, 1) := by decide +kernel
theorem d_F_split_29 : decode c_F_split 29 = .ok (.invokevirtual 41, 3) := by decide +kernel
theorem d_F_split_32 : decode c_F_split 32 = .ok (.ifCond .ne 6, 3) := by decide +kernel
theorem d_F_split_35 : decode c_F_split 35 = .ok (.bipush (-2), 2) := by decide +kernel
theorem d_F_split_37 : decode c_F_split 37 = .ok (.ireturn, 1) := by decide +kernel
theorem d_F_split_38 : decode c_F_split 38 = .ok (.aload_n 0, 1) := by decide +kernel
theorem d_F_split_39 : decode c_F_split 39 = .ok (.getfield 12, 3) := by decide +kernel
theorem d_F_split_42 : decode c_F_split 42 = .ok (.aload_n 0, 1) := by decide +kernel
theorem d_F_split_43 : decode c_F_split 43 = .ok (.getfield 25, 3) := by decide +kernel
theorem d_F_split_46 : decode c_F_split 46 = .ok (.iload_n 1, 1) := by decide +kernel
theorem d_F_split_47 : decode c_F_split 47 = .ok (.aaload, 1) := by decide +kernel
theorem d_F_split_48 : decode c_F_split 48 = .ok (.iload_n 2, 1) := by decide +kernel
theorem d_F_split_49 : decode c_F_split 49 = .ok (.invokevirtual 83, 3) := by decide +kernel
theorem d_F_split_52 : decode c_F_split 52 = .ok (.astore_n 3, 1) := by decide +kernel
theorem d_F_split_53 : decode c_F_split 53 = .ok (.aload_n 0, 1) := by decide +kernel
theorem d_F_split_54 : decode c_F_split 54 = .ok (.aload_n 3, 1) := by decide +kernel
theorem d_F_split_55 : decode c_F_split 55 = .ok (.getfield 87, 3) := by decide +kernel
theorem d_F_split_58 : decode c_F_split 58 = .ok (.invokevirtual 56, 3) := by decide +kernel
theorem d_F_split_61 : decode c_F_split 61 = .ok (.istore 4, 2) := by decide +kernel
theorem d_F_split_63 : decode c_F_split 63 = .ok (.aload_n 0, 1) := by decide +kernel
theorem d_F_split_64 : decode c_F_split 64 = .ok (.aload_n 3, 1) := by decide +kernel
theorem d_F_split_65 : decode c_F_split 65 = .ok (.getfield 92, 3) := by decide +kernel
theorem d_F_split_68 : decode c_F_split 68 = .ok (.invokevirtual 56, 3) := by decide +kernel
theorem d_F_split_71 : decode c_F_split 71 = .ok (.pop, 1) := by decide +kernel
theorem d_F_split_72 : decode c_F_split 72 = .ok (.iload 4, 2) := by decide +kernel
theorem d_F_split_74 : decode c_F_split 74 = .ok (.ireturn, 1) := by decide +kernel
abbrev c_F_replace : ByteArray := prog_1_method_8_code
abbrev y_F_replace : MethodName := ⟨"FingerSpans", "replace", "(IIII)I"⟩
theorem k_F_replace : Cond.code y_F_replace c_F_replace 5 (some FieldType.int) ∈ lw_tbl := List.mem_of_getElem? (i := 381) (by decide +kernel)
theorem b_F_replace : x_ce y_F_replace c_F_replace 5 (some FieldType.int) 4 := ⟨k_F_replace, i_F, by decide +kernel⟩
theorem s_F_replace : Cond.instanceMethod y_F_replace ∈ lw_tbl := List.mem_of_getElem? (i := 379) (by decide +kernel)
theorem v_F_replace : Cond.selects "FingerSpans" y_F_replace y_F_replace ∈ lw_tbl := List.mem_of_getElem? (i := 380) (by decide +kernel)
theorem d_F_replace_0 : decode c_F_replace 0 = .ok (.aload_n 0, 1) := by decide +kernel
theorem d_F_replace_1 : decode c_F_replace 1 = .ok (.iload_n 1, 1) := by decide +kernel
theorem d_F_replace_2 : decode c_F_replace 2 = .ok (.iload_n 2, 1) := by decide +kernel
theorem d_F_replace_3 : decode c_F_replace 3 = .ok (.invokevirtual 95, 3) := by decide +kernel
theorem d_F_replace_6 : decode c_F_replace 6 = .ok (.ifCond .eq 9, 3) := by decide +kernel
theorem d_F_replace_9 : decode c_F_replace 9 = .ok (.iload_n 3, 1) := by decide +kernel
theorem d_F_replace_10 : decode c_F_replace 10 = .ok (.iload 4, 2) := by decide +kernel
theorem d_F_replace_12 : decode c_F_replace 12 = .ok (.if_icmp .le 5, 3) := by decide +kernel
theorem d_F_replace_15 : decode c_F_replace 15 = .ok (.iconst (-1), 1) := by decide +kernel
theorem d_F_replace_16 : decode c_F_replace 16 = .ok (.ireturn, 1) := by decide +kernel
theorem d_F_replace_17 : decode c_F_replace 17 = .ok (.aload_n 0, 1) := by decide +kernel
theorem d_F_replace_18 : decode c_F_replace 18 = .ok (.iconst 1, 1) := by decide +kernel
theorem d_F_replace_19 : decode c_F_replace 19 = .ok (.invokevirtual 41, 3) := by decide +kernel
theorem d_F_replace_22 : decode c_F_replace 22 = .ok (.ifCond .ne 6, 3) := by decide +kernel
theorem d_F_replace_25 : decode c_F_replace 25 = .ok (.bipush (-2), 2) := by decide +kernel
theorem d_F_replace_27 : decode c_F_replace 27 = .ok (.ireturn, 1) := by decide +kernel
theorem d_F_replace_28 : decode c_F_replace 28 = .ok (.aload_n 0, 1) := by decide +kernel
theorem d_F_replace_29 : decode c_F_replace 29 = .ok (.aload_n 0, 1) := by decide +kernel
theorem d_F_replace_30 : decode c_F_replace 30 = .ok (.getfield 12, 3) := by decide +kernel
theorem d_F_replace_33 : decode c_F_replace 33 = .ok (.aload_n 0, 1) := by decide +kernel
theorem d_F_replace_34 : decode c_F_replace 34 = .ok (.getfield 25, 3) := by decide +kernel
theorem d_F_replace_37 : decode c_F_replace 37 = .ok (.iload_n 1, 1) := by decide +kernel
theorem d_F_replace_38 : decode c_F_replace 38 = .ok (.aaload, 1) := by decide +kernel
theorem d_F_replace_39 : decode c_F_replace 39 = .ok (.iload_n 2, 1) := by decide +kernel
theorem d_F_replace_40 : decode c_F_replace 40 = .ok (.new 47, 3) := by decide +kernel
theorem d_F_replace_43 : decode c_F_replace 43 = .ok (.dup, 1) := by decide +kernel
theorem d_F_replace_44 : decode c_F_replace 44 = .ok (.iload_n 3, 1) := by decide +kernel
theorem d_F_replace_45 : decode c_F_replace 45 = .ok (.iload 4, 2) := by decide +kernel
theorem d_F_replace_47 : decode c_F_replace 47 = .ok (.invokespecial 49, 3) := by decide +kernel
theorem d_F_replace_50 : decode c_F_replace 50 = .ok (.invokevirtual 99, 3) := by decide +kernel
theorem d_F_replace_53 : decode c_F_replace 53 = .ok (.invokevirtual 56, 3) := by decide +kernel
theorem d_F_replace_56 : decode c_F_replace 56 = .ok (.ireturn, 1) := by decide +kernel
abbrev c_F_insert : ByteArray := prog_1_method_9_code
abbrev y_F_insert : MethodName := ⟨"FingerSpans", "insert", "(III)I"⟩
theorem k_F_insert : Cond.code y_F_insert c_F_insert 7 (some FieldType.int) ∈ lw_tbl := List.mem_of_getElem? (i := 412) (by decide +kernel)
theorem b_F_insert : x_ce y_F_insert c_F_insert 7 (some FieldType.int) 3 := ⟨k_F_insert, i_F, by decide +kernel⟩
theorem s_F_insert : Cond.instanceMethod y_F_insert ∈ lw_tbl := List.mem_of_getElem? (i := 410) (by decide +kernel)
theorem v_F_insert : Cond.selects "FingerSpans" y_F_insert y_F_insert ∈ lw_tbl := List.mem_of_getElem? (i := 411) (by decide +kernel)
theorem d_F_insert_0 : decode c_F_insert 0 = .ok (.aload_n 0, 1) := by decide +kernel
theorem d_F_insert_1 : decode c_F_insert 1 = .ok (.iload_n 1, 1) := by decide +kernel
theorem d_F_insert_2 : decode c_F_insert 2 = .ok (.invokevirtual 37, 3) := by decide +kernel
theorem d_F_insert_5 : decode c_F_insert 5 = .ok (.ifCond .eq 8, 3) := by decide +kernel
theorem d_F_insert_8 : decode c_F_insert 8 = .ok (.iload_n 2, 1) := by decide +kernel
theorem d_F_insert_9 : decode c_F_insert 9 = .ok (.iload_n 3, 1) := by decide +kernel
theorem d_F_insert_10 : decode c_F_insert 10 = .ok (.if_icmp .le 5, 3) := by decide +kernel
theorem d_F_insert_13 : decode c_F_insert 13 = .ok (.iconst (-1), 1) := by decide +kernel
theorem d_F_insert_14 : decode c_F_insert 14 = .ok (.ireturn, 1) := by decide +kernel
theorem d_F_insert_15 : decode c_F_insert 15 = .ok (.aload_n 0, 1) := by decide +kernel
theorem d_F_insert_16 : decode c_F_insert 16 = .ok (.iconst 1, 1) := by decide +kernel
theorem d_F_insert_17 : decode c_F_insert 17 = .ok (.invokevirtual 41, 3) := by decide +kernel
theorem d_F_insert_20 : decode c_F_insert 20 = .ok (.ifCond .eq 17, 3) := by decide +kernel
theorem d_F_insert_23 : decode c_F_insert 23 = .ok (.aload_n 0, 1) := by decide +kernel
theorem d_F_insert_24 : decode c_F_insert 24 = .ok (.getfield 25, 3) := by decide +kernel
theorem d_F_insert_27 : decode c_F_insert 27 = .ok (.iload_n 1, 1) := by decide +kernel
theorem d_F_insert_28 : decode c_F_insert 28 = .ok (.aaload, 1) := by decide +kernel
theorem d_F_insert_29 : decode c_F_insert 29 = .ok (.getfield 44, 3) := by decide +kernel
theorem d_F_insert_32 : decode c_F_insert 32 = .ok (.bipush 40, 2) := by decide +kernel
theorem d_F_insert_34 : decode c_F_insert 34 = .ok (.if_icmp .lt 6, 3) := by decide +kernel
theorem d_F_insert_37 : decode c_F_insert 37 = .ok (.bipush (-2), 2) := by decide +kernel
theorem d_F_insert_39 : decode c_F_insert 39 = .ok (.ireturn, 1) := by decide +kernel
theorem d_F_insert_40 : decode c_F_insert 40 = .ok (.aload_n 0, 1) := by decide +kernel
theorem d_F_insert_41 : decode c_F_insert 41 = .ok (.getfield 25, 3) := by decide +kernel
theorem d_F_insert_44 : decode c_F_insert 44 = .ok (.iload_n 1, 1) := by decide +kernel
theorem d_F_insert_45 : decode c_F_insert 45 = .ok (.aaload, 1) := by decide +kernel
theorem d_F_insert_46 : decode c_F_insert 46 = .ok (.iconst 1, 1) := by decide +kernel
theorem d_F_insert_47 : decode c_F_insert 47 = .ok (.iload_n 2, 1) := by decide +kernel
theorem d_F_insert_48 : decode c_F_insert 48 = .ok (.i2l, 1) := by decide +kernel
theorem d_F_insert_49 : decode c_F_insert 49 = .ok (.invokestatic 103, 3) := by decide +kernel
theorem d_F_insert_52 : decode c_F_insert 52 = .ok (.istore 4, 2) := by decide +kernel
theorem d_F_insert_54 : decode c_F_insert 54 = .ok (.aload_n 0, 1) := by decide +kernel
theorem d_F_insert_55 : decode c_F_insert 55 = .ok (.getfield 12, 3) := by decide +kernel
theorem d_F_insert_58 : decode c_F_insert 58 = .ok (.aload_n 0, 1) := by decide +kernel
theorem d_F_insert_59 : decode c_F_insert 59 = .ok (.getfield 25, 3) := by decide +kernel
theorem d_F_insert_62 : decode c_F_insert 62 = .ok (.iload_n 1, 1) := by decide +kernel
theorem d_F_insert_63 : decode c_F_insert 63 = .ok (.aaload, 1) := by decide +kernel
theorem d_F_insert_64 : decode c_F_insert 64 = .ok (.iload 4, 2) := by decide +kernel
theorem d_F_insert_66 : decode c_F_insert 66 = .ok (.invokevirtual 83, 3) := by decide +kernel
theorem d_F_insert_69 : decode c_F_insert 69 = .ok (.astore 5, 2) := by decide +kernel
theorem d_F_insert_71 : decode c_F_insert 71 = .ok (.aload_n 0, 1) := by decide +kernel
theorem d_F_insert_72 : decode c_F_insert 72 = .ok (.getfield 12, 3) := by decide +kernel
theorem d_F_insert_75 : decode c_F_insert 75 = .ok (.new 47, 3) := by decide +kernel
theorem d_F_insert_78 : decode c_F_insert 78 = .ok (.dup, 1) := by decide +kernel
theorem d_F_insert_79 : decode c_F_insert 79 = .ok (.iload_n 2, 1) := by decide +kernel
theorem d_F_insert_80 : decode c_F_insert 80 = .ok (.iload_n 3, 1) := by decide +kernel
theorem d_F_insert_81 : decode c_F_insert 81 = .ok (.invokespecial 49, 3) := by decide +kernel
theorem d_F_insert_84 : decode c_F_insert 84 = .ok (.aload 5, 2) := by decide +kernel
theorem d_F_insert_86 : decode c_F_insert 86 = .ok (.getfield 92, 3) := by decide +kernel
theorem d_F_insert_89 : decode c_F_insert 89 = .ok (.invokevirtual 52, 3) := by decide +kernel
theorem d_F_insert_92 : decode c_F_insert 92 = .ok (.astore 6, 2) := by decide +kernel
theorem d_F_insert_94 : decode c_F_insert 94 = .ok (.aload_n 0, 1) := by decide +kernel
theorem d_F_insert_95 : decode c_F_insert 95 = .ok (.aload_n 0, 1) := by decide +kernel
theorem d_F_insert_96 : decode c_F_insert 96 = .ok (.getfield 12, 3) := by decide +kernel
theorem d_F_insert_99 : decode c_F_insert 99 = .ok (.aload 5, 2) := by decide +kernel
theorem d_F_insert_101 : decode c_F_insert 101 = .ok (.getfield 87, 3) := by decide +kernel
theorem d_F_insert_104 : decode c_F_insert 104 = .ok (.aload_n 0, 1) := by decide +kernel
theorem d_F_insert_105 : decode c_F_insert 105 = .ok (.getfield 12, 3) := by decide +kernel
theorem d_F_insert_108 : decode c_F_insert 108 = .ok (.getfield 75, 3) := by decide +kernel
theorem d_F_insert_111 : decode c_F_insert 111 = .ok (.aload 6, 2) := by decide +kernel
theorem d_F_insert_113 : decode c_F_insert 113 = .ok (.invokevirtual 79, 3) := by decide +kernel
theorem d_F_insert_116 : decode c_F_insert 116 = .ok (.invokevirtual 56, 3) := by decide +kernel
theorem d_F_insert_119 : decode c_F_insert 119 = .ok (.ireturn, 1) := by decide +kernel
abbrev c_F_removeTop : ByteArray := prog_1_method_10_code
abbrev y_F_removeTop : MethodName := ⟨"FingerSpans", "removeTop", "(I)I"⟩
theorem k_F_removeTop : Cond.code y_F_removeTop c_F_removeTop 5 (some FieldType.int) ∈ lw_tbl := List.mem_of_getElem? (i := 448) (by decide +kernel)
theorem b_F_removeTop : x_ce y_F_removeTop c_F_removeTop 5 (some FieldType.int) 1 := ⟨k_F_removeTop, i_F, by decide +kernel⟩
theorem s_F_removeTop : Cond.instanceMethod y_F_removeTop ∈ lw_tbl := List.mem_of_getElem? (i := 446) (by decide +kernel)
theorem v_F_removeTop : Cond.selects "FingerSpans" y_F_removeTop y_F_removeTop ∈ lw_tbl := List.mem_of_getElem? (i := 447) (by decide +kernel)
theorem d_F_removeTop_0 : decode c_F_removeTop 0 = .ok (.aload_n 0, 1) := by decide +kernel
theorem d_F_removeTop_1 : decode c_F_removeTop 1 = .ok (.iload_n 1, 1) := by decide +kernel
theorem d_F_removeTop_2 : decode c_F_removeTop 2 = .ok (.invokevirtual 37, 3) := by decide +kernel
theorem d_F_removeTop_5 : decode c_F_removeTop 5 = .ok (.ifCond .eq 15, 3) := by decide +kernel
theorem d_F_removeTop_8 : decode c_F_removeTop 8 = .ok (.aload_n 0, 1) := by decide +kernel
theorem d_F_removeTop_9 : decode c_F_removeTop 9 = .ok (.getfield 25, 3) := by decide +kernel
theorem d_F_removeTop_12 : decode c_F_removeTop 12 = .ok (.iload_n 1, 1) := by decide +kernel
theorem d_F_removeTop_13 : decode c_F_removeTop 13 = .ok (.aaload, 1) := by decide +kernel
theorem d_F_removeTop_14 : decode c_F_removeTop 14 = .ok (.invokevirtual 64, 3) := by decide +kernel
theorem d_F_removeTop_17 : decode c_F_removeTop 17 = .ok (.ifCond .eq 5, 3) := by decide +kernel
theorem d_F_removeTop_20 : decode c_F_removeTop 20 = .ok (.iconst (-1), 1) := by decide +kernel
theorem d_F_removeTop_21 : decode c_F_removeTop 21 = .ok (.ireturn, 1) := by decide +kernel
theorem d_F_removeTop_22 : decode c_F_removeTop 22 = .ok (.aload_n 0, 1) := by decide +kernel
theorem d_F_removeTop_23 : decode c_F_removeTop 23 = .ok (.iconst 1, 1) := by decide +kernel
theorem d_F_removeTop_24 : decode c_F_removeTop 24 = .ok (.invokevirtual 41, 3) := by decide +kernel
theorem d_F_removeTop_27 : decode c_F_removeTop 27 = .ok (.ifCond .ne 6, 3) := by decide +kernel
theorem d_F_removeTop_30 : decode c_F_removeTop 30 = .ok (.bipush (-2), 2) := by decide +kernel
theorem d_F_removeTop_32 : decode c_F_removeTop 32 = .ok (.ireturn, 1) := by decide +kernel
theorem d_F_removeTop_33 : decode c_F_removeTop 33 = .ok (.aload_n 0, 1) := by decide +kernel
theorem d_F_removeTop_34 : decode c_F_removeTop 34 = .ok (.getfield 25, 3) := by decide +kernel
theorem d_F_removeTop_37 : decode c_F_removeTop 37 = .ok (.iload_n 1, 1) := by decide +kernel
theorem d_F_removeTop_38 : decode c_F_removeTop 38 = .ok (.aaload, 1) := by decide +kernel
theorem d_F_removeTop_39 : decode c_F_removeTop 39 = .ok (.iconst 2, 1) := by decide +kernel
theorem d_F_removeTop_40 : decode c_F_removeTop 40 = .ok (.invokestatic 107, 3) := by decide +kernel
theorem d_F_removeTop_43 : decode c_F_removeTop 43 = .ok (.lstore_n 2, 1) := by decide +kernel
theorem d_F_removeTop_44 : decode c_F_removeTop 44 = .ok (.aload_n 0, 1) := by decide +kernel
theorem d_F_removeTop_45 : decode c_F_removeTop 45 = .ok (.getfield 12, 3) := by decide +kernel
theorem d_F_removeTop_48 : decode c_F_removeTop 48 = .ok (.aload_n 0, 1) := by decide +kernel
theorem d_F_removeTop_49 : decode c_F_removeTop 49 = .ok (.getfield 25, 3) := by decide +kernel
theorem d_F_removeTop_52 : decode c_F_removeTop 52 = .ok (.iload_n 1, 1) := by decide +kernel
theorem d_F_removeTop_53 : decode c_F_removeTop 53 = .ok (.aaload, 1) := by decide +kernel
theorem d_F_removeTop_54 : decode c_F_removeTop 54 = .ok (.aload_n 0, 1) := by decide +kernel
theorem d_F_removeTop_55 : decode c_F_removeTop 55 = .ok (.getfield 25, 3) := by decide +kernel
theorem d_F_removeTop_58 : decode c_F_removeTop 58 = .ok (.iload_n 1, 1) := by decide +kernel
theorem d_F_removeTop_59 : decode c_F_removeTop 59 = .ok (.aaload, 1) := by decide +kernel
theorem d_F_removeTop_60 : decode c_F_removeTop 60 = .ok (.iconst 2, 1) := by decide +kernel
theorem d_F_removeTop_61 : decode c_F_removeTop 61 = .ok (.lload_n 2, 1) := by decide +kernel
theorem d_F_removeTop_62 : decode c_F_removeTop 62 = .ok (.invokestatic 103, 3) := by decide +kernel
theorem d_F_removeTop_65 : decode c_F_removeTop 65 = .ok (.invokevirtual 111, 3) := by decide +kernel
theorem d_F_removeTop_68 : decode c_F_removeTop 68 = .ok (.astore 4, 2) := by decide +kernel
theorem d_F_removeTop_70 : decode c_F_removeTop 70 = .ok (.aload_n 0, 1) := by decide +kernel
theorem d_F_removeTop_71 : decode c_F_removeTop 71 = .ok (.aload_n 0, 1) := by decide +kernel
theorem d_F_removeTop_72 : decode c_F_removeTop 72 = .ok (.getfield 12, 3) := by decide +kernel
theorem d_F_removeTop_75 : decode c_F_removeTop 75 = .ok (.aload 4, 2) := by decide +kernel
theorem d_F_removeTop_77 : decode c_F_removeTop 77 = .ok (.getfield 115, 3) := by decide +kernel
theorem d_F_removeTop_80 : decode c_F_removeTop 80 = .ok (.aload_n 0, 1) := by decide +kernel
theorem d_F_removeTop_81 : decode c_F_removeTop 81 = .ok (.getfield 12, 3) := by decide +kernel
theorem d_F_removeTop_84 : decode c_F_removeTop 84 = .ok (.getfield 75, 3) := by decide +kernel
theorem d_F_removeTop_87 : decode c_F_removeTop 87 = .ok (.aload 4, 2) := by decide +kernel
theorem d_F_removeTop_89 : decode c_F_removeTop 89 = .ok (.getfield 118, 3) := by decide +kernel
theorem d_F_removeTop_92 : decode c_F_removeTop 92 = .ok (.invokevirtual 79, 3) := by decide +kernel
theorem d_F_removeTop_95 : decode c_F_removeTop 95 = .ok (.invokevirtual 56, 3) := by decide +kernel
theorem d_F_removeTop_98 : decode c_F_removeTop 98 = .ok (.ireturn, 1) := by decide +kernel
abbrev c_F_length : ByteArray := prog_1_method_11_code
abbrev y_F_length : MethodName := ⟨"FingerSpans", "length", "(I)I"⟩
theorem k_F_length : Cond.code y_F_length c_F_length 2 (some FieldType.int) ∈ lw_tbl := List.mem_of_getElem? (i := 456) (by decide +kernel)
theorem b_F_length : x_ce y_F_length c_F_length 2 (some FieldType.int) 1 := ⟨k_F_length, i_F, by decide +kernel⟩
theorem s_F_length : Cond.instanceMethod y_F_length ∈ lw_tbl := List.mem_of_getElem? (i := 454) (by decide +kernel)
theorem v_F_length : Cond.selects "FingerSpans" y_F_length y_F_length ∈ lw_tbl := List.mem_of_getElem? (i := 455) (by decide +kernel)
theorem d_F_length_0 : decode c_F_length 0 = .ok (.aload_n 0, 1) := by decide +kernel
theorem d_F_length_1 : decode c_F_length 1 = .ok (.iload_n 1, 1) := by decide +kernel
theorem d_F_length_2 : decode c_F_length 2 = .ok (.invokevirtual 37, 3) := by decide +kernel
theorem d_F_length_5 : decode c_F_length 5 = .ok (.ifCond .eq 15, 3) := by decide +kernel
theorem d_F_length_8 : decode c_F_length 8 = .ok (.aload_n 0, 1) := by decide +kernel
theorem d_F_length_9 : decode c_F_length 9 = .ok (.getfield 25, 3) := by decide +kernel
theorem d_F_length_12 : decode c_F_length 12 = .ok (.iload_n 1, 1) := by decide +kernel
theorem d_F_length_13 : decode c_F_length 13 = .ok (.aaload, 1) := by decide +kernel
theorem d_F_length_14 : decode c_F_length 14 = .ok (.getfield 44, 3) := by decide +kernel
theorem d_F_length_17 : decode c_F_length 17 = .ok (.goto 4, 3) := by decide +kernel
theorem d_F_length_20 : decode c_F_length 20 = .ok (.iconst (-1), 1) := by decide +kernel
theorem d_F_length_21 : decode c_F_length 21 = .ok (.ireturn, 1) := by decide +kernel
abbrev c_F_low : ByteArray := prog_1_method_12_code
abbrev y_F_low : MethodName := ⟨"FingerSpans", "low", "(II)I"⟩
theorem k_F_low : Cond.code y_F_low c_F_low 3 (some FieldType.int) ∈ lw_tbl := List.mem_of_getElem? (i := 460) (by decide +kernel)
theorem b_F_low : x_ce y_F_low c_F_low 3 (some FieldType.int) 2 := ⟨k_F_low, i_F, by decide +kernel⟩
theorem s_F_low : Cond.instanceMethod y_F_low ∈ lw_tbl := List.mem_of_getElem? (i := 458) (by decide +kernel)
theorem v_F_low : Cond.selects "FingerSpans" y_F_low y_F_low ∈ lw_tbl := List.mem_of_getElem? (i := 459) (by decide +kernel)
theorem d_F_low_0 : decode c_F_low 0 = .ok (.aload_n 0, 1) := by decide +kernel
theorem d_F_low_1 : decode c_F_low 1 = .ok (.iload_n 1, 1) := by decide +kernel
theorem d_F_low_2 : decode c_F_low 2 = .ok (.iload_n 2, 1) := by decide +kernel
theorem d_F_low_3 : decode c_F_low 3 = .ok (.invokevirtual 95, 3) := by decide +kernel
theorem d_F_low_6 : decode c_F_low 6 = .ok (.ifCond .eq 19, 3) := by decide +kernel
theorem d_F_low_9 : decode c_F_low 9 = .ok (.aload_n 0, 1) := by decide +kernel
theorem d_F_low_10 : decode c_F_low 10 = .ok (.getfield 25, 3) := by decide +kernel
theorem d_F_low_13 : decode c_F_low 13 = .ok (.iload_n 1, 1) := by decide +kernel
theorem d_F_low_14 : decode c_F_low 14 = .ok (.aaload, 1) := by decide +kernel
theorem d_F_low_15 : decode c_F_low 15 = .ok (.iload_n 2, 1) := by decide +kernel
theorem d_F_low_16 : decode c_F_low 16 = .ok (.invokevirtual 119, 3) := by decide +kernel
theorem d_F_low_19 : decode c_F_low 19 = .ok (.getfield 123, 3) := by decide +kernel
theorem d_F_low_22 : decode c_F_low 22 = .ok (.goto 4, 3) := by decide +kernel
theorem d_F_low_25 : decode c_F_low 25 = .ok (.iconst 0, 1) := by decide +kernel
theorem d_F_low_26 : decode c_F_low 26 = .ok (.ireturn, 1) := by decide +kernel
abbrev c_F_high : ByteArray := prog_1_method_13_code
abbrev y_F_high : MethodName := ⟨"FingerSpans", "high", "(II)I"⟩
theorem k_F_high : Cond.code y_F_high c_F_high 3 (some FieldType.int) ∈ lw_tbl := List.mem_of_getElem? (i := 464) (by decide +kernel)
theorem b_F_high : x_ce y_F_high c_F_high 3 (some FieldType.int) 2 := ⟨k_F_high, i_F, by decide +kernel⟩
theorem s_F_high : Cond.instanceMethod y_F_high ∈ lw_tbl := List.mem_of_getElem? (i := 462) (by decide +kernel)
theorem v_F_high : Cond.selects "FingerSpans" y_F_high y_F_high ∈ lw_tbl := List.mem_of_getElem? (i := 463) (by decide +kernel)
theorem d_F_high_0 : decode c_F_high 0 = .ok (.aload_n 0, 1) := by decide +kernel
theorem d_F_high_1 : decode c_F_high 1 = .ok (.iload_n 1, 1) := by decide +kernel
theorem d_F_high_2 : decode c_F_high 2 = .ok (.iload_n 2, 1) := by decide +kernel
theorem d_F_high_3 : decode c_F_high 3 = .ok (.invokevirtual 95, 3) := by decide +kernel
theorem d_F_high_6 : decode c_F_high 6 = .ok (.ifCond .eq 19, 3) := by decide +kernel
theorem d_F_high_9 : decode c_F_high 9 = .ok (.aload_n 0, 1) := by decide +kernel
theorem d_F_high_10 : decode c_F_high 10 = .ok (.getfield 25, 3) := by decide +kernel
theorem d_F_high_13 : decode c_F_high 13 = .ok (.iload_n 1, 1) := by decide +kernel
theorem d_F_high_14 : decode c_F_high 14 = .ok (.aaload, 1) := by decide +kernel
theorem d_F_high_15 : decode c_F_high 15 = .ok (.iload_n 2, 1) := by decide +kernel
theorem d_F_high_16 : decode c_F_high 16 = .ok (.invokevirtual 119, 3) := by decide +kernel
theorem d_F_high_19 : decode c_F_high 19 = .ok (.getfield 126, 3) := by decide +kernel
theorem d_F_high_22 : decode c_F_high 22 = .ok (.goto 4, 3) := by decide +kernel
theorem d_F_high_25 : decode c_F_high 25 = .ok (.iconst 0, 1) := by decide +kernel
theorem d_F_high_26 : decode c_F_high 26 = .ok (.ireturn, 1) := by decide +kernel
abbrev c_F_measure : ByteArray := prog_1_method_14_code
abbrev y_F_measure : MethodName := ⟨"FingerSpans", "measure", "(II)J"⟩
theorem k_F_measure : Cond.code y_F_measure c_F_measure 3 (some FieldType.long) ∈ lw_tbl := List.mem_of_getElem? (i := 468) (by decide +kernel)
theorem b_F_measure : x_ce y_F_measure c_F_measure 3 (some FieldType.long) 2 := ⟨k_F_measure, i_F, by decide +kernel⟩
theorem s_F_measure : Cond.instanceMethod y_F_measure ∈ lw_tbl := List.mem_of_getElem? (i := 466) (by decide +kernel)
theorem v_F_measure : Cond.selects "FingerSpans" y_F_measure y_F_measure ∈ lw_tbl := List.mem_of_getElem? (i := 467) (by decide +kernel)
theorem d_F_measure_0 : decode c_F_measure 0 = .ok (.aload_n 0, 1) := by decide +kernel
theorem d_F_measure_1 : decode c_F_measure 1 = .ok (.iload_n 1, 1) := by decide +kernel
theorem d_F_measure_2 : decode c_F_measure 2 = .ok (.invokevirtual 37, 3) := by decide +kernel
theorem d_F_measure_5 : decode c_F_measure 5 = .ok (.ifCond .eq 22, 3) := by decide +kernel
theorem d_F_measure_8 : decode c_F_measure 8 = .ok (.aload_n 0, 1) := by decide +kernel
theorem d_F_measure_9 : decode c_F_measure 9 = .ok (.getfield 25, 3) := by decide +kernel
theorem d_F_measure_12 : decode c_F_measure 12 = .ok (.iload_n 1, 1) := by decide +kernel
theorem d_F_measure_13 : decode c_F_measure 13 = .ok (.aaload, 1) := by decide +kernel
theorem d_F_measure_14 : decode c_F_measure 14 = .ok (.invokevirtual 64, 3) := by decide +kernel
theorem d_F_measure_17 : decode c_F_measure 17 = .ok (.ifCond .ne 10, 3) := by decide +kernel
theorem d_F_measure_20 : decode c_F_measure 20 = .ok (.iload_n 2, 1) := by decide +kernel
theorem d_F_measure_21 : decode c_F_measure 21 = .ok (.invokestatic 129, 3) := by decide +kernel
theorem d_F_measure_24 : decode c_F_measure 24 = .ok (.ifCond .ne 5, 3) := by decide +kernel
theorem d_F_measure_27 : decode c_F_measure 27 = .ok (.lconst 0, 1) := by decide +kernel
theorem d_F_measure_28 : decode c_F_measure 28 = .ok (.lreturn, 1) := by decide +kernel
theorem d_F_measure_29 : decode c_F_measure 29 = .ok (.aload_n 0, 1) := by decide +kernel
theorem d_F_measure_30 : decode c_F_measure 30 = .ok (.getfield 25, 3) := by decide +kernel
theorem d_F_measure_33 : decode c_F_measure 33 = .ok (.iload_n 1, 1) := by decide +kernel
theorem d_F_measure_34 : decode c_F_measure 34 = .ok (.aaload, 1) := by decide +kernel
theorem d_F_measure_35 : decode c_F_measure 35 = .ok (.iload_n 2, 1) := by decide +kernel
theorem d_F_measure_36 : decode c_F_measure 36 = .ok (.invokestatic 107, 3) := by decide +kernel
theorem d_F_measure_39 : decode c_F_measure 39 = .ok (.lreturn, 1) := by decide +kernel
abbrev c_F_search : ByteArray := prog_1_method_15_code
abbrev y_F_search : MethodName := ⟨"FingerSpans", "search", "(IIJ)I"⟩
theorem k_F_search : Cond.code y_F_search c_F_search 5 (some FieldType.int) ∈ lw_tbl := List.mem_of_getElem? (i := 475) (by decide +kernel)
theorem b_F_search : x_ce y_F_search c_F_search 5 (some FieldType.int) 3 := ⟨k_F_search, i_F, by decide +kernel⟩
theorem s_F_search : Cond.instanceMethod y_F_search ∈ lw_tbl := List.mem_of_getElem? (i := 473) (by decide +kernel)
theorem v_F_search : Cond.selects "FingerSpans" y_F_search y_F_search ∈ lw_tbl := List.mem_of_getElem? (i := 474) (by decide +kernel)
theorem d_F_search_0 : decode c_F_search 0 = .ok (.aload_n 0, 1) := by decide +kernel
theorem d_F_search_1 : decode c_F_search 1 = .ok (.iload_n 1, 1) := by decide +kernel
theorem d_F_search_2 : decode c_F_search 2 = .ok (.invokevirtual 37, 3) := by decide +kernel
theorem d_F_search_5 : decode c_F_search 5 = .ok (.ifCond .eq 10, 3) := by decide +kernel
theorem d_F_search_8 : decode c_F_search 8 = .ok (.iload_n 2, 1) := by decide +kernel
theorem d_F_search_9 : decode c_F_search 9 = .ok (.invokestatic 129, 3) := by decide +kernel
theorem d_F_search_12 : decode c_F_search 12 = .ok (.ifCond .ne 5, 3) := by decide +kernel
theorem d_F_search_15 : decode c_F_search 15 = .ok (.iconst (-1), 1) := by decide +kernel
theorem d_F_search_16 : decode c_F_search 16 = .ok (.ireturn, 1) := by decide +kernel
theorem d_F_search_17 : decode c_F_search 17 = .ok (.aload_n 0, 1) := by decide +kernel
theorem d_F_search_18 : decode c_F_search 18 = .ok (.getfield 25, 3) := by decide +kernel
theorem d_F_search_21 : decode c_F_search 21 = .ok (.iload_n 1, 1) := by decide +kernel
theorem d_F_search_22 : decode c_F_search 22 = .ok (.aaload, 1) := by decide +kernel
theorem d_F_search_23 : decode c_F_search 23 = .ok (.iload_n 2, 1) := by decide +kernel
theorem d_F_search_24 : decode c_F_search 24 = .ok (.lload_n 3, 1) := by decide +kernel
theorem d_F_search_25 : decode c_F_search 25 = .ok (.invokestatic 103, 3) := by decide +kernel
theorem d_F_search_28 : decode c_F_search 28 = .ok (.ireturn, 1) := by decide +kernel
abbrev c_F_meeting : ByteArray := prog_1_method_16_code
abbrev y_F_meeting : MethodName := ⟨"FingerSpans", "meeting", "(IIII)I"⟩
theorem k_F_meeting : Cond.code y_F_meeting c_F_meeting 8 (some FieldType.int) ∈ lw_tbl := List.mem_of_getElem? (i := 479) (by decide +kernel)
theorem b_F_meeting : x_ce y_F_meeting c_F_meeting 8 (some FieldType.int) 4 := ⟨k_F_meeting, i_F, by decide +kernel⟩
theorem s_F_meeting : Cond.instanceMethod y_F_meeting ∈ lw_tbl := List.mem_of_getElem? (i := 477) (by decide +kernel)
theorem v_F_meeting : Cond.selects "FingerSpans" y_F_meeting y_F_meeting ∈ lw_tbl := List.mem_of_getElem? (i := 478) (by decide +kernel)
theorem d_F_meeting_0 : decode c_F_meeting 0 = .ok (.aload_n 0, 1) := by decide +kernel
theorem d_F_meeting_1 : decode c_F_meeting 1 = .ok (.iload_n 1, 1) := by decide +kernel
theorem d_F_meeting_2 : decode c_F_meeting 2 = .ok (.invokevirtual 37, 3) := by decide +kernel
theorem d_F_meeting_5 : decode c_F_meeting 5 = .ok (.ifCond .ne 5, 3) := by decide +kernel
theorem d_F_meeting_8 : decode c_F_meeting 8 = .ok (.iconst (-1), 1) := by decide +kernel
theorem d_F_meeting_9 : decode c_F_meeting 9 = .ok (.ireturn, 1) := by decide +kernel
theorem d_F_meeting_10 : decode c_F_meeting 10 = .ok (.aload_n 0, 1) := by decide +kernel
theorem d_F_meeting_11 : decode c_F_meeting 11 = .ok (.getfield 25, 3) := by decide +kernel
theorem d_F_meeting_14 : decode c_F_meeting 14 = .ok (.iload_n 1, 1) := by decide +kernel
theorem d_F_meeting_15 : decode c_F_meeting 15 = .ok (.aaload, 1) := by decide +kernel
theorem d_F_meeting_16 : decode c_F_meeting 16 = .ok (.astore 5, 2) := by decide +kernel
theorem d_F_meeting_18 : decode c_F_meeting 18 = .ok (.iload_n 2, 1) := by decide +kernel
theorem d_F_meeting_19 : decode c_F_meeting 19 = .ok (.iconst 0, 1) := by decide +kernel
theorem d_F_meeting_20 : decode c_F_meeting 20 = .ok (.invokestatic 132, 3) := by decide +kernel
theorem d_F_meeting_23 : decode c_F_meeting 23 = .ok (.istore 6, 2) := by decide +kernel
theorem d_F_meeting_25 : decode c_F_meeting 25 = .ok (.iload 6, 2) := by decide +kernel
theorem d_F_meeting_27 : decode c_F_meeting 27 = .ok (.aload 5, 2) := by decide +kernel
theorem d_F_meeting_29 : decode c_F_meeting 29 = .ok (.getfield 44, 3) := by decide +kernel
theorem d_F_meeting_32 : decode c_F_meeting 32 = .ok (.if_icmp .ge 40, 3) := by decide +kernel
theorem d_F_meeting_35 : decode c_F_meeting 35 = .ok (.aload 5, 2) := by decide +kernel
theorem d_F_meeting_37 : decode c_F_meeting 37 = .ok (.iload 6, 2) := by decide +kernel
theorem d_F_meeting_39 : decode c_F_meeting 39 = .ok (.invokevirtual 119, 3) := by decide +kernel
theorem d_F_meeting_42 : decode c_F_meeting 42 = .ok (.astore 7, 2) := by decide +kernel
theorem d_F_meeting_44 : decode c_F_meeting 44 = .ok (.aload 7, 2) := by decide +kernel
theorem d_F_meeting_46 : decode c_F_meeting 46 = .ok (.getfield 123, 3) := by decide +kernel
theorem d_F_meeting_49 : decode c_F_meeting 49 = .ok (.iload 4, 2) := by decide +kernel
theorem d_F_meeting_51 : decode c_F_meeting 51 = .ok (.if_icmp .gt 15, 3) := by decide +kernel
theorem d_F_meeting_54 : decode c_F_meeting 54 = .ok (.aload 7, 2) := by decide +kernel
theorem d_F_meeting_56 : decode c_F_meeting 56 = .ok (.getfield 126, 3) := by decide +kernel
theorem d_F_meeting_59 : decode c_F_meeting 59 = .ok (.iload_n 3, 1) := by decide +kernel
theorem d_F_meeting_60 : decode c_F_meeting 60 = .ok (.if_icmp .lt 6, 3) := by decide +kernel
theorem d_F_meeting_63 : decode c_F_meeting 63 = .ok (.iload 6, 2) := by decide +kernel
theorem d_F_meeting_65 : decode c_F_meeting 65 = .ok (.ireturn, 1) := by decide +kernel
theorem d_F_meeting_66 : decode c_F_meeting 66 = .ok (.iinc 6 1, 3) := by decide +kernel
theorem d_F_meeting_69 : decode c_F_meeting 69 = .ok (.goto (-44), 3) := by decide +kernel
theorem d_F_meeting_72 : decode c_F_meeting 72 = .ok (.iconst (-1), 1) := by decide +kernel
theorem d_F_meeting_73 : decode c_F_meeting 73 = .ok (.ireturn, 1) := by decide +kernel
abbrev c_F_spine : ByteArray := prog_1_method_17_code
abbrev y_F_spine : MethodName := ⟨"FingerSpans", "spine", "(I)I"⟩
theorem k_F_spine : Cond.code y_F_spine c_F_spine 4 (some FieldType.int) ∈ lw_tbl := List.mem_of_getElem? (i := 486) (by decide +kernel)
theorem b_F_spine : x_ce y_F_spine c_F_spine 4 (some FieldType.int) 1 := ⟨k_F_spine, i_F, by decide +kernel⟩
theorem s_F_spine : Cond.instanceMethod y_F_spine ∈ lw_tbl := List.mem_of_getElem? (i := 484) (by decide +kernel)
theorem v_F_spine : Cond.selects "FingerSpans" y_F_spine y_F_spine ∈ lw_tbl := List.mem_of_getElem? (i := 485) (by decide +kernel)
theorem d_F_spine_0 : decode c_F_spine 0 = .ok (.aload_n 0, 1) := by decide +kernel
theorem d_F_spine_1 : decode c_F_spine 1 = .ok (.iload_n 1, 1) := by decide +kernel
theorem d_F_spine_2 : decode c_F_spine 2 = .ok (.invokevirtual 37, 3) := by decide +kernel
theorem d_F_spine_5 : decode c_F_spine 5 = .ok (.ifCond .ne 5, 3) := by decide +kernel
theorem d_F_spine_8 : decode c_F_spine 8 = .ok (.iconst (-1), 1) := by decide +kernel
theorem d_F_spine_9 : decode c_F_spine 9 = .ok (.ireturn, 1) := by decide +kernel
theorem d_F_spine_10 : decode c_F_spine 10 = .ok (.iconst 0, 1) := by decide +kernel
theorem d_F_spine_11 : decode c_F_spine 11 = .ok (.istore_n 2, 1) := by decide +kernel
theorem d_F_spine_12 : decode c_F_spine 12 = .ok (.aload_n 0, 1) := by decide +kernel
theorem d_F_spine_13 : decode c_F_spine 13 = .ok (.getfield 25, 3) := by decide +kernel
theorem d_F_spine_16 : decode c_F_spine 16 = .ok (.iload_n 1, 1) := by decide +kernel
theorem d_F_spine_17 : decode c_F_spine 17 = .ok (.aaload, 1) := by decide +kernel
theorem d_F_spine_18 : decode c_F_spine 18 = .ok (.astore_n 3, 1) := by decide +kernel
theorem d_F_spine_19 : decode c_F_spine 19 = .ok (.aload_n 3, 1) := by decide +kernel
theorem d_F_spine_20 : decode c_F_spine 20 = .ok (.invokevirtual 138, 3) := by decide +kernel
theorem d_F_spine_23 : decode c_F_spine 23 = .ok (.ifCond .eq 14, 3) := by decide +kernel
theorem d_F_spine_26 : decode c_F_spine 26 = .ok (.iinc 2 2, 3) := by decide +kernel
theorem d_F_spine_29 : decode c_F_spine 29 = .ok (.aload_n 3, 1) := by decide +kernel
theorem d_F_spine_30 : decode c_F_spine 30 = .ok (.getfield 141, 3) := by decide +kernel
theorem d_F_spine_33 : decode c_F_spine 33 = .ok (.astore_n 3, 1) := by decide +kernel
theorem d_F_spine_34 : decode c_F_spine 34 = .ok (.goto (-15), 3) := by decide +kernel
theorem d_F_spine_37 : decode c_F_spine 37 = .ok (.aload_n 3, 1) := by decide +kernel
theorem d_F_spine_38 : decode c_F_spine 38 = .ok (.invokevirtual 64, 3) := by decide +kernel
theorem d_F_spine_41 : decode c_F_spine 41 = .ok (.ifCond .eq 7, 3) := by decide +kernel
theorem d_F_spine_44 : decode c_F_spine 44 = .ok (.iload_n 2, 1) := by decide +kernel
theorem d_F_spine_45 : decode c_F_spine 45 = .ok (.goto 6, 3) := by decide +kernel
theorem d_F_spine_48 : decode c_F_spine 48 = .ok (.iload_n 2, 1) := by decide +kernel
theorem d_F_spine_49 : decode c_F_spine 49 = .ok (.iconst 1, 1) := by decide +kernel
theorem d_F_spine_50 : decode c_F_spine 50 = .ok (.iadd, 1) := by decide +kernel
theorem d_F_spine_51 : decode c_F_spine 51 = .ok (.ireturn, 1) := by decide +kernel
abbrev c_F_digit : ByteArray := prog_1_method_18_code
abbrev y_F_digit : MethodName := ⟨"FingerSpans", "digit", "(IIZ)I"⟩
theorem k_F_digit : Cond.code y_F_digit c_F_digit 6 (some FieldType.int) ∈ lw_tbl := List.mem_of_getElem? (i := 491) (by decide +kernel)
theorem b_F_digit : x_ce y_F_digit c_F_digit 6 (some FieldType.int) 3 := ⟨k_F_digit, i_F, by decide +kernel⟩
theorem s_F_digit : Cond.instanceMethod y_F_digit ∈ lw_tbl := List.mem_of_getElem? (i := 489) (by decide +kernel)
theorem v_F_digit : Cond.selects "FingerSpans" y_F_digit y_F_digit ∈ lw_tbl := List.mem_of_getElem? (i := 490) (by decide +kernel)
theorem d_F_digit_0 : decode c_F_digit 0 = .ok (.aload_n 0, 1) := by decide +kernel
theorem d_F_digit_1 : decode c_F_digit 1 = .ok (.iload_n 1, 1) := by decide +kernel
theorem d_F_digit_2 : decode c_F_digit 2 = .ok (.invokevirtual 37, 3) := by decide +kernel
theorem d_F_digit_5 : decode c_F_digit 5 = .ok (.ifCond .ne 5, 3) := by decide +kernel
theorem d_F_digit_8 : decode c_F_digit 8 = .ok (.iconst (-1), 1) := by decide +kernel
theorem d_F_digit_9 : decode c_F_digit 9 = .ok (.ireturn, 1) := by decide +kernel
theorem d_F_digit_10 : decode c_F_digit 10 = .ok (.aload_n 0, 1) := by decide +kernel
theorem d_F_digit_11 : decode c_F_digit 11 = .ok (.getfield 25, 3) := by decide +kernel
theorem d_F_digit_14 : decode c_F_digit 14 = .ok (.iload_n 1, 1) := by decide +kernel
theorem d_F_digit_15 : decode c_F_digit 15 = .ok (.aaload, 1) := by decide +kernel
theorem d_F_digit_16 : decode c_F_digit 16 = .ok (.astore 4, 2) := by decide +kernel
theorem d_F_digit_18 : decode c_F_digit 18 = .ok (.iconst 0, 1) := by decide +kernel
theorem d_F_digit_19 : decode c_F_digit 19 = .ok (.istore 5, 2) := by decide +kernel
theorem d_F_digit_21 : decode c_F_digit 21 = .ok (.iload 5, 2) := by decide +kernel
theorem d_F_digit_23 : decode c_F_digit 23 = .ok (.iload_n 2, 1) := by decide +kernel
theorem d_F_digit_24 : decode c_F_digit 24 = .ok (.if_icmp .ge 21, 3) := by decide +kernel
theorem d_F_digit_27 : decode c_F_digit 27 = .ok (.aload 4, 2) := by decide +kernel
theorem d_F_digit_29 : decode c_F_digit 29 = .ok (.ifnull 16, 3) := by decide +kernel
theorem d_F_digit_32 : decode c_F_digit 32 = .ok (.aload 4, 2) := by decide +kernel
theorem d_F_digit_34 : decode c_F_digit 34 = .ok (.getfield 141, 3) := by decide +kernel
theorem d_F_digit_37 : decode c_F_digit 37 = .ok (.astore 4, 2) := by decide +kernel
theorem d_F_digit_39 : decode c_F_digit 39 = .ok (.iinc 5 1, 3) := by decide +kernel
theorem d_F_digit_42 : decode c_F_digit 42 = .ok (.goto (-21), 3) := by decide +kernel
theorem d_F_digit_45 : decode c_F_digit 45 = .ok (.iload_n 2, 1) := by decide +kernel
theorem d_F_digit_46 : decode c_F_digit 46 = .ok (.ifCond .lt 16, 3) := by decide +kernel
theorem d_F_digit_49 : decode c_F_digit 49 = .ok (.aload 4, 2) := by decide +kernel
theorem d_F_digit_51 : decode c_F_digit 51 = .ok (.ifnull 11, 3) := by decide +kernel
theorem d_F_digit_54 : decode c_F_digit 54 = .ok (.aload 4, 2) := by decide +kernel
theorem d_F_digit_56 : decode c_F_digit 56 = .ok (.invokevirtual 138, 3) := by decide +kernel
theorem d_F_digit_59 : decode c_F_digit 59 = .ok (.ifCond .ne 5, 3) := by decide +kernel
theorem d_F_digit_62 : decode c_F_digit 62 = .ok (.iconst 0, 1) := by decide +kernel
theorem d_F_digit_63 : decode c_F_digit 63 = .ok (.ireturn, 1) := by decide +kernel
theorem d_F_digit_64 : decode c_F_digit 64 = .ok (.iload_n 3, 1) := by decide +kernel
theorem d_F_digit_65 : decode c_F_digit 65 = .ok (.ifCond .eq 12, 3) := by decide +kernel
theorem d_F_digit_68 : decode c_F_digit 68 = .ok (.aload 4, 2) := by decide +kernel
theorem d_F_digit_70 : decode c_F_digit 70 = .ok (.getfield 144, 3) := by decide +kernel
theorem d_F_digit_73 : decode c_F_digit 73 = .ok (.arraylength, 1) := by decide +kernel
theorem d_F_digit_74 : decode c_F_digit 74 = .ok (.goto 9, 3) := by decide +kernel
theorem d_F_digit_77 : decode c_F_digit 77 = .ok (.aload 4, 2) := by decide +kernel
theorem d_F_digit_79 : decode c_F_digit 79 = .ok (.getfield 147, 3) := by decide +kernel
theorem d_F_digit_82 : decode c_F_digit 82 = .ok (.arraylength, 1) := by decide +kernel
theorem d_F_digit_83 : decode c_F_digit 83 = .ok (.ireturn, 1) := by decide +kernel
abbrev c_F_rank : ByteArray := prog_1_method_19_code
abbrev y_F_rank : MethodName := ⟨"FingerSpans", "rank", "(II)I"⟩
theorem k_F_rank : Cond.code y_F_rank c_F_rank 3 (some FieldType.int) ∈ lw_tbl := List.mem_of_getElem? (i := 495) (by decide +kernel)
theorem b_F_rank : x_ce y_F_rank c_F_rank 3 (some FieldType.int) 2 := ⟨k_F_rank, i_F, by decide +kernel⟩
theorem s_F_rank : Cond.instanceMethod y_F_rank ∈ lw_tbl := List.mem_of_getElem? (i := 493) (by decide +kernel)
theorem v_F_rank : Cond.selects "FingerSpans" y_F_rank y_F_rank ∈ lw_tbl := List.mem_of_getElem? (i := 494) (by decide +kernel)
theorem d_F_rank_0 : decode c_F_rank 0 = .ok (.aload_n 0, 1) := by decide +kernel
theorem d_F_rank_1 : decode c_F_rank 1 = .ok (.iload_n 1, 1) := by decide +kernel
theorem d_F_rank_2 : decode c_F_rank 2 = .ok (.iload_n 2, 1) := by decide +kernel
theorem d_F_rank_3 : decode c_F_rank 3 = .ok (.invokevirtual 95, 3) := by decide +kernel
theorem d_F_rank_6 : decode c_F_rank 6 = .ok (.ifCond .eq 16, 3) := by decide +kernel
theorem d_F_rank_9 : decode c_F_rank 9 = .ok (.aload_n 0, 1) := by decide +kernel
theorem d_F_rank_10 : decode c_F_rank 10 = .ok (.getfield 25, 3) := by decide +kernel
theorem d_F_rank_13 : decode c_F_rank 13 = .ok (.iload_n 1, 1) := by decide +kernel
theorem d_F_rank_14 : decode c_F_rank 14 = .ok (.aaload, 1) := by decide +kernel
theorem d_F_rank_15 : decode c_F_rank 15 = .ok (.iload_n 2, 1) := by decide +kernel
theorem d_F_rank_16 : decode c_F_rank 16 = .ok (.invokevirtual 150, 3) := by decide +kernel
theorem d_F_rank_19 : decode c_F_rank 19 = .ok (.goto 4, 3) := by decide +kernel
theorem d_F_rank_22 : decode c_F_rank 22 = .ok (.iconst (-1), 1) := by decide +kernel
theorem d_F_rank_23 : decode c_F_rank 23 = .ok (.ireturn, 1) := by decide +kernel
abbrev c_F_shared : ByteArray := prog_1_method_20_code
abbrev y_F_shared : MethodName := ⟨"FingerSpans", "shared", "(II)I"⟩
theorem k_F_shared : Cond.code y_F_shared c_F_shared 3 (some FieldType.int) ∈ lw_tbl := List.mem_of_getElem? (i := 504) (by decide +kernel)
theorem b_F_shared : x_ce y_F_shared c_F_shared 3 (some FieldType.int) 2 := ⟨k_F_shared, i_F, by decide +kernel⟩
theorem s_F_shared : Cond.instanceMethod y_F_shared ∈ lw_tbl := List.mem_of_getElem? (i := 502) (by decide +kernel)
theorem v_F_shared : Cond.selects "FingerSpans" y_F_shared y_F_shared ∈ lw_tbl := List.mem_of_getElem? (i := 503) (by decide +kernel)
theorem d_F_shared_0 : decode c_F_shared 0 = .ok (.aload_n 0, 1) := by decide +kernel
theorem d_F_shared_1 : decode c_F_shared 1 = .ok (.iload_n 1, 1) := by decide +kernel
theorem d_F_shared_2 : decode c_F_shared 2 = .ok (.invokevirtual 37, 3) := by decide +kernel
theorem d_F_shared_5 : decode c_F_shared 5 = .ok (.ifCond .eq 11, 3) := by decide +kernel
theorem d_F_shared_8 : decode c_F_shared 8 = .ok (.aload_n 0, 1) := by decide +kernel
theorem d_F_shared_9 : decode c_F_shared 9 = .ok (.iload_n 2, 1) := by decide +kernel
theorem d_F_shared_10 : decode c_F_shared 10 = .ok (.invokevirtual 37, 3) := by decide +kernel
theorem d_F_shared_13 : decode c_F_shared 13 = .ok (.ifCond .ne 5, 3) := by decide +kernel
theorem d_F_shared_16 : decode c_F_shared 16 = .ok (.iconst (-1), 1) := by decide +kernel
theorem d_F_shared_17 : decode c_F_shared 17 = .ok (.ireturn, 1) := by decide +kernel
theorem d_F_shared_18 : decode c_F_shared 18 = .ok (.aload_n 0, 1) := by decide +kernel
theorem d_F_shared_19 : decode c_F_shared 19 = .ok (.getfield 19, 3) := by decide +kernel
theorem d_F_shared_22 : decode c_F_shared 22 = .ok (.aload_n 0, 1) := by decide +kernel
theorem d_F_shared_23 : decode c_F_shared 23 = .ok (.getfield 25, 3) := by decide +kernel
theorem d_F_shared_26 : decode c_F_shared 26 = .ok (.iload_n 1, 1) := by decide +kernel
theorem d_F_shared_27 : decode c_F_shared 27 = .ok (.aaload, 1) := by decide +kernel
theorem d_F_shared_28 : decode c_F_shared 28 = .ok (.aload_n 0, 1) := by decide +kernel
theorem d_F_shared_29 : decode c_F_shared 29 = .ok (.getfield 25, 3) := by decide +kernel
theorem d_F_shared_32 : decode c_F_shared 32 = .ok (.iload_n 2, 1) := by decide +kernel
theorem d_F_shared_33 : decode c_F_shared 33 = .ok (.aaload, 1) := by decide +kernel
theorem d_F_shared_34 : decode c_F_shared 34 = .ok (.invokevirtual 154, 3) := by decide +kernel
theorem d_F_shared_37 : decode c_F_shared 37 = .ok (.ireturn, 1) := by decide +kernel
abbrev c_F_made : ByteArray := prog_1_method_21_code
abbrev y_F_made : MethodName := ⟨"FingerSpans", "made", "()I"⟩
theorem k_F_made : Cond.code y_F_made c_F_made 1 (some FieldType.int) ∈ lw_tbl := List.mem_of_getElem? (i := 521) (by decide +kernel)
theorem b_F_made : x_ce y_F_made c_F_made 1 (some FieldType.int) 0 := ⟨k_F_made, i_F, by decide +kernel⟩
theorem s_F_made : Cond.instanceMethod y_F_made ∈ lw_tbl := List.mem_of_getElem? (i := 519) (by decide +kernel)
theorem v_F_made : Cond.selects "FingerSpans" y_F_made y_F_made ∈ lw_tbl := List.mem_of_getElem? (i := 520) (by decide +kernel)
theorem d_F_made_0 : decode c_F_made 0 = .ok (.aload_n 0, 1) := by decide +kernel
theorem d_F_made_1 : decode c_F_made 1 = .ok (.getfield 12, 3) := by decide +kernel
theorem d_F_made_4 : decode c_F_made 4 = .ok (.getfield 158, 3) := by decide +kernel
theorem d_F_made_7 : decode c_F_made 7 = .ok (.ireturn, 1) := by decide +kernel
abbrev c_F_isVersion : ByteArray := prog_1_method_22_code
abbrev y_F_isVersion : MethodName := ⟨"FingerSpans", "isVersion", "(I)Z"⟩
theorem k_F_isVersion : Cond.code y_F_isVersion c_F_isVersion 2 (some FieldType.boolean) ∈ lw_tbl := List.mem_of_getElem? (i := 171) (by decide +kernel)
theorem b_F_isVersion : x_ce y_F_isVersion c_F_isVersion 2 (some FieldType.boolean) 1 := ⟨k_F_isVersion, i_F, by decide +kernel⟩
theorem s_F_isVersion : Cond.instanceMethod y_F_isVersion ∈ lw_tbl := List.mem_of_getElem? (i := 170) (by decide +kernel)
theorem v_F_isVersion : Cond.selects "FingerSpans" y_F_isVersion y_F_isVersion ∈ lw_tbl := List.mem_of_getElem? (i := 0) (by decide +kernel)
theorem d_F_isVersion_0 : decode c_F_isVersion 0 = .ok (.iload_n 1, 1) := by decide +kernel
theorem d_F_isVersion_1 : decode c_F_isVersion 1 = .ok (.ifCond .lt 15, 3) := by decide +kernel
theorem d_F_isVersion_4 : decode c_F_isVersion 4 = .ok (.iload_n 1, 1) := by decide +kernel
theorem d_F_isVersion_5 : decode c_F_isVersion 5 = .ok (.aload_n 0, 1) := by decide +kernel
theorem d_F_isVersion_6 : decode c_F_isVersion 6 = .ok (.getfield 33, 3) := by decide +kernel
theorem d_F_isVersion_9 : decode c_F_isVersion 9 = .ok (.if_icmp .ge 7, 3) := by decide +kernel
theorem d_F_isVersion_12 : decode c_F_isVersion 12 = .ok (.iconst 1, 1) := by decide +kernel
theorem d_F_isVersion_13 : decode c_F_isVersion 13 = .ok (.goto 4, 3) := by decide +kernel
theorem d_F_isVersion_16 : decode c_F_isVersion 16 = .ok (.iconst 0, 1) := by decide +kernel
theorem d_F_isVersion_17 : decode c_F_isVersion 17 = .ok (.ireturn, 1) := by decide +kernel
abbrev c_F_isPlace : ByteArray := prog_1_method_23_code
abbrev y_F_isPlace : MethodName := ⟨"FingerSpans", "isPlace", "(II)Z"⟩
theorem k_F_isPlace : Cond.code y_F_isPlace c_F_isPlace 3 (some FieldType.boolean) ∈ lw_tbl := List.mem_of_getElem? (i := 385) (by decide +kernel)
theorem b_F_isPlace : x_ce y_F_isPlace c_F_isPlace 3 (some FieldType.boolean) 2 := ⟨k_F_isPlace, i_F, by decide +kernel⟩
theorem s_F_isPlace : Cond.instanceMethod y_F_isPlace ∈ lw_tbl := List.mem_of_getElem? (i := 384) (by decide +kernel)
theorem v_F_isPlace : Cond.selects "FingerSpans" y_F_isPlace y_F_isPlace ∈ lw_tbl := List.mem_of_getElem? (i := 23) (by decide +kernel)
theorem d_F_isPlace_0 : decode c_F_isPlace 0 = .ok (.aload_n 0, 1) := by decide +kernel
theorem d_F_isPlace_1 : decode c_F_isPlace 1 = .ok (.iload_n 1, 1) := by decide +kernel
theorem d_F_isPlace_2 : decode c_F_isPlace 2 = .ok (.invokevirtual 37, 3) := by decide +kernel
theorem d_F_isPlace_5 : decode c_F_isPlace 5 = .ok (.ifCond .eq 24, 3) := by decide +kernel
theorem d_F_isPlace_8 : decode c_F_isPlace 8 = .ok (.iload_n 2, 1) := by decide +kernel
theorem d_F_isPlace_9 : decode c_F_isPlace 9 = .ok (.ifCond .lt 20, 3) := by decide +kernel
theorem d_F_isPlace_12 : decode c_F_isPlace 12 = .ok (.iload_n 2, 1) := by decide +kernel
theorem d_F_isPlace_13 : decode c_F_isPlace 13 = .ok (.aload_n 0, 1) := by decide +kernel
theorem d_F_isPlace_14 : decode c_F_isPlace 14 = .ok (.getfield 25, 3) := by decide +kernel
theorem d_F_isPlace_17 : decode c_F_isPlace 17 = .ok (.iload_n 1, 1) := by decide +kernel
theorem d_F_isPlace_18 : decode c_F_isPlace 18 = .ok (.aaload, 1) := by decide +kernel
theorem d_F_isPlace_19 : decode c_F_isPlace 19 = .ok (.getfield 44, 3) := by decide +kernel
theorem d_F_isPlace_22 : decode c_F_isPlace 22 = .ok (.if_icmp .ge 7, 3) := by decide +kernel
theorem d_F_isPlace_25 : decode c_F_isPlace 25 = .ok (.iconst 1, 1) := by decide +kernel
theorem d_F_isPlace_26 : decode c_F_isPlace 26 = .ok (.goto 4, 3) := by decide +kernel
theorem d_F_isPlace_29 : decode c_F_isPlace 29 = .ok (.iconst 0, 1) := by decide +kernel
theorem d_F_isPlace_30 : decode c_F_isPlace 30 = .ok (.ireturn, 1) := by decide +kernel
abbrev c_F_isKind : ByteArray := prog_1_method_24_code
abbrev y_F_isKind : MethodName := ⟨"FingerSpans", "isKind", "(I)Z"⟩
theorem k_F_isKind : Cond.code y_F_isKind c_F_isKind 1 (some FieldType.boolean) ∈ lw_tbl := List.mem_of_getElem? (i := 471) (by decide +kernel)
theorem b_F_isKind : x_ce y_F_isKind c_F_isKind 1 (some FieldType.boolean) 1 := ⟨k_F_isKind, i_F, by decide +kernel⟩
theorem s_F_isKind : Cond.static y_F_isKind ∈ lw_tbl := List.mem_of_getElem? (i := 470) (by decide +kernel)
theorem d_F_isKind_0 : decode c_F_isKind 0 = .ok (.iload_n 0, 1) := by decide +kernel
theorem d_F_isKind_1 : decode c_F_isKind 1 = .ok (.ifCond .lt 12, 3) := by decide +kernel
theorem d_F_isKind_4 : decode c_F_isKind 4 = .ok (.iload_n 0, 1) := by decide +kernel
theorem d_F_isKind_5 : decode c_F_isKind 5 = .ok (.iconst 3, 1) := by decide +kernel
theorem d_F_isKind_6 : decode c_F_isKind 6 = .ok (.if_icmp .gt 7, 3) := by decide +kernel
theorem d_F_isKind_9 : decode c_F_isKind 9 = .ok (.iconst 1, 1) := by decide +kernel
theorem d_F_isKind_10 : decode c_F_isKind 10 = .ok (.goto 4, 3) := by decide +kernel
theorem d_F_isKind_13 : decode c_F_isKind 13 = .ok (.iconst 0, 1) := by decide +kernel
theorem d_F_isKind_14 : decode c_F_isKind 14 = .ok (.ireturn, 1) := by decide +kernel
abbrev c_F_hasRoomFor : ByteArray := prog_1_method_25_code
abbrev y_F_hasRoomFor : MethodName := ⟨"FingerSpans", "hasRoomFor", "(I)Z"⟩
theorem k_F_hasRoomFor : Cond.code y_F_hasRoomFor c_F_hasRoomFor 2 (some FieldType.boolean) ∈ lw_tbl := List.mem_of_getElem? (i := 175) (by decide +kernel)
theorem b_F_hasRoomFor : x_ce y_F_hasRoomFor c_F_hasRoomFor 2 (some FieldType.boolean) 1 := ⟨k_F_hasRoomFor, i_F, by decide +kernel⟩
theorem s_F_hasRoomFor : Cond.instanceMethod y_F_hasRoomFor ∈ lw_tbl := List.mem_of_getElem? (i := 174) (by decide +kernel)
theorem v_F_hasRoomFor : Cond.selects "FingerSpans" y_F_hasRoomFor y_F_hasRoomFor ∈ lw_tbl := List.mem_of_getElem? (i := 1) (by decide +kernel)
theorem d_F_hasRoomFor_0 : decode c_F_hasRoomFor 0 = .ok (.aload_n 0, 1) := by decide +kernel
theorem d_F_hasRoomFor_1 : decode c_F_hasRoomFor 1 = .ok (.getfield 33, 3) := by decide +kernel
theorem d_F_hasRoomFor_4 : decode c_F_hasRoomFor 4 = .ok (.iload_n 1, 1) := by decide +kernel
theorem d_F_hasRoomFor_5 : decode c_F_hasRoomFor 5 = .ok (.iadd, 1) := by decide +kernel
theorem d_F_hasRoomFor_6 : decode c_F_hasRoomFor 6 = .ok (.bipush 120, 2) := by decide +kernel
theorem d_F_hasRoomFor_8 : decode c_F_hasRoomFor 8 = .ok (.if_icmp .gt 7, 3) := by decide +kernel
theorem d_F_hasRoomFor_11 : decode c_F_hasRoomFor 11 = .ok (.iconst 1, 1) := by decide +kernel
theorem d_F_hasRoomFor_12 : decode c_F_hasRoomFor 12 = .ok (.goto 4, 3) := by decide +kernel
theorem d_F_hasRoomFor_15 : decode c_F_hasRoomFor 15 = .ok (.iconst 0, 1) := by decide +kernel
theorem d_F_hasRoomFor_16 : decode c_F_hasRoomFor 16 = .ok (.ireturn, 1) := by decide +kernel
abbrev c_F_keep : ByteArray := prog_1_method_26_code
abbrev y_F_keep : MethodName := ⟨"FingerSpans", "keep", "(LFingerSpans$Tree;)I"⟩
theorem k_F_keep : Cond.code y_F_keep c_F_keep 2 (some FieldType.int) ∈ lw_tbl := List.mem_of_getElem? (i := 247) (by decide +kernel)
theorem b_F_keep : x_ce y_F_keep c_F_keep 2 (some FieldType.int) 1 := ⟨k_F_keep, i_F, by decide +kernel⟩
theorem s_F_keep : Cond.instanceMethod y_F_keep ∈ lw_tbl := List.mem_of_getElem? (i := 246) (by decide +kernel)
theorem v_F_keep : Cond.selects "FingerSpans" y_F_keep y_F_keep ∈ lw_tbl := List.mem_of_getElem? (i := 7) (by decide +kernel)
theorem d_F_keep_0 : decode c_F_keep 0 = .ok (.aload_n 0, 1) := by decide +kernel
theorem d_F_keep_1 : decode c_F_keep 1 = .ok (.getfield 25, 3) := by decide +kernel
theorem d_F_keep_4 : decode c_F_keep 4 = .ok (.aload_n 0, 1) := by decide +kernel
theorem d_F_keep_5 : decode c_F_keep 5 = .ok (.getfield 33, 3) := by decide +kernel
theorem d_F_keep_8 : decode c_F_keep 8 = .ok (.aload_n 1, 1) := by decide +kernel
theorem d_F_keep_9 : decode c_F_keep 9 = .ok (.aastore, 1) := by decide +kernel
theorem d_F_keep_10 : decode c_F_keep 10 = .ok (.aload_n 0, 1) := by decide +kernel
theorem d_F_keep_11 : decode c_F_keep 11 = .ok (.dup, 1) := by decide +kernel
theorem d_F_keep_12 : decode c_F_keep 12 = .ok (.getfield 33, 3) := by decide +kernel
theorem d_F_keep_15 : decode c_F_keep 15 = .ok (.iconst 1, 1) := by decide +kernel
theorem d_F_keep_16 : decode c_F_keep 16 = .ok (.iadd, 1) := by decide +kernel
theorem d_F_keep_17 : decode c_F_keep 17 = .ok (.putfield 33, 3) := by decide +kernel
theorem d_F_keep_20 : decode c_F_keep 20 = .ok (.aload_n 0, 1) := by decide +kernel
theorem d_F_keep_21 : decode c_F_keep 21 = .ok (.getfield 33, 3) := by decide +kernel
theorem d_F_keep_24 : decode c_F_keep 24 = .ok (.iconst 1, 1) := by decide +kernel
theorem d_F_keep_25 : decode c_F_keep 25 = .ok (.isub, 1) := by decide +kernel
theorem d_F_keep_26 : decode c_F_keep 26 = .ok (.ireturn, 1) := by decide +kernel
abbrev c_F_total : ByteArray := prog_1_method_27_code
abbrev y_F_total : MethodName := ⟨"FingerSpans", "total", "(LFingerSpans$Tree;I)J"⟩
theorem k_F_total : Cond.code y_F_total c_F_total 5 (some FieldType.long) ∈ lw_tbl := List.mem_of_getElem? (i := 451) (by decide +kernel)
theorem b_F_total : x_ce y_F_total c_F_total 5 (some FieldType.long) 2 := ⟨k_F_total, i_F, by decide +kernel⟩
theorem s_F_total : Cond.static y_F_total ∈ lw_tbl := List.mem_of_getElem? (i := 450) (by decide +kernel)
theorem d_F_total_0 : decode c_F_total 0 = .ok (.iload_n 1, 1) := by decide +kernel
theorem d_F_total_1 : decode c_F_total 1 = .ok (.invokestatic 161, 3) := by decide +kernel
theorem d_F_total_4 : decode c_F_total 4 = .ok (.lstore_n 2, 1) := by decide +kernel
theorem d_F_total_5 : decode c_F_total 5 = .ok (.iconst 0, 1) := by decide +kernel
theorem d_F_total_6 : decode c_F_total 6 = .ok (.istore 4, 2) := by decide +kernel
theorem d_F_total_8 : decode c_F_total 8 = .ok (.iload 4, 2) := by decide +kernel
theorem d_F_total_10 : decode c_F_total 10 = .ok (.aload_n 0, 1) := by decide +kernel
theorem d_F_total_11 : decode c_F_total 11 = .ok (.getfield 44, 3) := by decide +kernel
theorem d_F_total_14 : decode c_F_total 14 = .ok (.if_icmp .ge 21, 3) := by decide +kernel
theorem d_F_total_17 : decode c_F_total 17 = .ok (.lload_n 2, 1) := by decide +kernel
theorem d_F_total_18 : decode c_F_total 18 = .ok (.aload_n 0, 1) := by decide +kernel
theorem d_F_total_19 : decode c_F_total 19 = .ok (.iload 4, 2) := by decide +kernel
theorem d_F_total_21 : decode c_F_total 21 = .ok (.invokevirtual 119, 3) := by decide +kernel
theorem d_F_total_24 : decode c_F_total 24 = .ok (.iload_n 1, 1) := by decide +kernel
theorem d_F_total_25 : decode c_F_total 25 = .ok (.invokestatic 165, 3) := by decide +kernel
theorem d_F_total_28 : decode c_F_total 28 = .ok (.lstore_n 2, 1) := by decide +kernel
theorem d_F_total_29 : decode c_F_total 29 = .ok (.iinc 4 1, 3) := by decide +kernel
theorem d_F_total_32 : decode c_F_total 32 = .ok (.goto (-24), 3) := by decide +kernel
theorem d_F_total_35 : decode c_F_total 35 = .ok (.lload_n 2, 1) := by decide +kernel
theorem d_F_total_36 : decode c_F_total 36 = .ok (.lreturn, 1) := by decide +kernel
abbrev c_F_firstPlace : ByteArray := prog_1_method_28_code
abbrev y_F_firstPlace : MethodName := ⟨"FingerSpans", "firstPlace", "(LFingerSpans$Tree;IJ)I"⟩
theorem k_F_firstPlace : Cond.code y_F_firstPlace c_F_firstPlace 7 (some FieldType.int) ∈ lw_tbl := List.mem_of_getElem? (i := 415) (by decide +kernel)
theorem b_F_firstPlace : x_ce y_F_firstPlace c_F_firstPlace 7 (some FieldType.int) 3 := ⟨k_F_firstPlace, i_F, by decide +kernel⟩
theorem s_F_firstPlace : Cond.static y_F_firstPlace ∈ lw_tbl := List.mem_of_getElem? (i := 414) (by decide +kernel)
theorem d_F_firstPlace_0 : decode c_F_firstPlace 0 = .ok (.iload_n 1, 1) := by decide +kernel
theorem d_F_firstPlace_1 : decode c_F_firstPlace 1 = .ok (.invokestatic 161, 3) := by decide +kernel
theorem d_F_firstPlace_4 : decode c_F_firstPlace 4 = .ok (.lstore 4, 2) := by decide +kernel
theorem d_F_firstPlace_6 : decode c_F_firstPlace 6 = .ok (.iconst 0, 1) := by decide +kernel
theorem d_F_firstPlace_7 : decode c_F_firstPlace 7 = .ok (.istore 6, 2) := by decide +kernel
theorem d_F_firstPlace_9 : decode c_F_firstPlace 9 = .ok (.iload 6, 2) := by decide +kernel
theorem d_F_firstPlace_11 : decode c_F_firstPlace 11 = .ok (.aload_n 0, 1) := by decide +kernel
theorem d_F_firstPlace_12 : decode c_F_firstPlace 12 = .ok (.getfield 44, 3) := by decide +kernel
theorem d_F_firstPlace_15 : decode c_F_firstPlace 15 = .ok (.if_icmp .ge 36, 3) := by decide +kernel
theorem d_F_firstPlace_18 : decode c_F_firstPlace 18 = .ok (.lload 4, 2) := by decide +kernel
theorem d_F_firstPlace_20 : decode c_F_firstPlace 20 = .ok (.aload_n 0, 1) := by decide +kernel
theorem d_F_firstPlace_21 : decode c_F_firstPlace 21 = .ok (.iload 6, 2) := by decide +kernel
theorem d_F_firstPlace_23 : decode c_F_firstPlace 23 = .ok (.invokevirtual 119, 3) := by decide +kernel
theorem d_F_firstPlace_26 : decode c_F_firstPlace 26 = .ok (.iload_n 1, 1) := by decide +kernel
theorem d_F_firstPlace_27 : decode c_F_firstPlace 27 = .ok (.invokestatic 165, 3) := by decide +kernel
theorem d_F_firstPlace_30 : decode c_F_firstPlace 30 = .ok (.lstore 4, 2) := by decide +kernel
theorem d_F_firstPlace_32 : decode c_F_firstPlace 32 = .ok (.lload 4, 2) := by decide +kernel
theorem d_F_firstPlace_34 : decode c_F_firstPlace 34 = .ok (.iload_n 1, 1) := by decide +kernel
theorem d_F_firstPlace_35 : decode c_F_firstPlace 35 = .ok (.lload_n 2, 1) := by decide +kernel
theorem d_F_firstPlace_36 : decode c_F_firstPlace 36 = .ok (.invokestatic 169, 3) := by decide +kernel
theorem d_F_firstPlace_39 : decode c_F_firstPlace 39 = .ok (.ifCond .eq 6, 3) := by decide +kernel
theorem d_F_firstPlace_42 : decode c_F_firstPlace 42 = .ok (.iload 6, 2) := by decide +kernel
theorem d_F_firstPlace_44 : decode c_F_firstPlace 44 = .ok (.ireturn, 1) := by decide +kernel
theorem d_F_firstPlace_45 : decode c_F_firstPlace 45 = .ok (.iinc 6 1, 3) := by decide +kernel
theorem d_F_firstPlace_48 : decode c_F_firstPlace 48 = .ok (.goto (-39), 3) := by decide +kernel
theorem d_F_firstPlace_51 : decode c_F_firstPlace 51 = .ok (.aload_n 0, 1) := by decide +kernel
theorem d_F_firstPlace_52 : decode c_F_firstPlace 52 = .ok (.getfield 44, 3) := by decide +kernel
theorem d_F_firstPlace_55 : decode c_F_firstPlace 55 = .ok (.ireturn, 1) := by decide +kernel
abbrev c_F_isGreatest : ByteArray := prog_1_method_29_code
abbrev y_F_isGreatest : MethodName := ⟨"FingerSpans", "isGreatest", "(I)Z"⟩
theorem k_F_isGreatest : Cond.code y_F_isGreatest c_F_isGreatest 1 (some FieldType.boolean) ∈ lw_tbl := List.mem_of_getElem? (i := 421) (by decide +kernel)
theorem b_F_isGreatest : x_ce y_F_isGreatest c_F_isGreatest 1 (some FieldType.boolean) 1 := ⟨k_F_isGreatest, i_F, by decide +kernel⟩
theorem s_F_isGreatest : Cond.static y_F_isGreatest ∈ lw_tbl := List.mem_of_getElem? (i := 420) (by decide +kernel)
theorem d_F_isGreatest_0 : decode c_F_isGreatest 0 = .ok (.iload_n 0, 1) := by decide +kernel
theorem d_F_isGreatest_1 : decode c_F_isGreatest 1 = .ok (.iconst 1, 1) := by decide +kernel
theorem d_F_isGreatest_2 : decode c_F_isGreatest 2 = .ok (.if_icmp .eq 8, 3) := by decide +kernel
theorem d_F_isGreatest_5 : decode c_F_isGreatest 5 = .ok (.iload_n 0, 1) := by decide +kernel
theorem d_F_isGreatest_6 : decode c_F_isGreatest 6 = .ok (.iconst 2, 1) := by decide +kernel
theorem d_F_isGreatest_7 : decode c_F_isGreatest 7 = .ok (.if_icmp .ne 7, 3) := by decide +kernel
theorem d_F_isGreatest_10 : decode c_F_isGreatest 10 = .ok (.iconst 1, 1) := by decide +kernel
theorem d_F_isGreatest_11 : decode c_F_isGreatest 11 = .ok (.goto 4, 3) := by decide +kernel
theorem d_F_isGreatest_14 : decode c_F_isGreatest 14 = .ok (.iconst 0, 1) := by decide +kernel
theorem d_F_isGreatest_15 : decode c_F_isGreatest 15 = .ok (.ireturn, 1) := by decide +kernel
abbrev c_F_totalOfNone : ByteArray := prog_1_method_30_code
abbrev y_F_totalOfNone : MethodName := ⟨"FingerSpans", "totalOfNone", "(I)J"⟩
theorem k_F_totalOfNone : Cond.code y_F_totalOfNone c_F_totalOfNone 1 (some FieldType.long) ∈ lw_tbl := List.mem_of_getElem? (i := 418) (by decide +kernel)
theorem b_F_totalOfNone : x_ce y_F_totalOfNone c_F_totalOfNone 1 (some FieldType.long) 1 := ⟨k_F_totalOfNone, i_F, by decide +kernel⟩
theorem s_F_totalOfNone : Cond.static y_F_totalOfNone ∈ lw_tbl := List.mem_of_getElem? (i := 417) (by decide +kernel)
theorem d_F_totalOfNone_0 : decode c_F_totalOfNone 0 = .ok (.iload_n 0, 1) := by decide +kernel
theorem d_F_totalOfNone_1 : decode c_F_totalOfNone 1 = .ok (.invokestatic 173, 3) := by decide +kernel
theorem d_F_totalOfNone_4 : decode c_F_totalOfNone 4 = .ok (.ifCond .eq 9, 3) := by decide +kernel
theorem d_F_totalOfNone_7 : decode c_F_totalOfNone 7 = .ok (.ldc2_w 176, 3) := by decide +kernel
theorem d_F_totalOfNone_10 : decode c_F_totalOfNone 10 = .ok (.goto 4, 3) := by decide +kernel
theorem d_F_totalOfNone_13 : decode c_F_totalOfNone 13 = .ok (.lconst 0, 1) := by decide +kernel
theorem d_F_totalOfNone_14 : decode c_F_totalOfNone 14 = .ok (.lreturn, 1) := by decide +kernel
abbrev c_F_totalWith : ByteArray := prog_1_method_31_code
abbrev y_F_totalWith : MethodName := ⟨"FingerSpans", "totalWith", "(JLFingerSpans$Item;I)J"⟩
theorem k_F_totalWith : Cond.code y_F_totalWith c_F_totalWith 4 (some FieldType.long) ∈ lw_tbl := List.mem_of_getElem? (i := 438) (by decide +kernel)
theorem b_F_totalWith : x_ce y_F_totalWith c_F_totalWith 4 (some FieldType.long) 3 := ⟨k_F_totalWith, i_F, by decide +kernel⟩
theorem s_F_totalWith : Cond.static y_F_totalWith ∈ lw_tbl := List.mem_of_getElem? (i := 437) (by decide +kernel)
theorem d_F_totalWith_0 : decode c_F_totalWith 0 = .ok (.iload_n 3, 1) := by decide +kernel
theorem d_F_totalWith_1 : decode c_F_totalWith 1 = .ok (.tableswitch 63 1 3 #[27, 37, 47], 27) := by decide +kernel
theorem d_F_totalWith_28 : decode c_F_totalWith 28 = .ok (.lload_n 0, 1) := by decide +kernel
theorem d_F_totalWith_29 : decode c_F_totalWith 29 = .ok (.aload_n 2, 1) := by decide +kernel
theorem d_F_totalWith_30 : decode c_F_totalWith 30 = .ok (.getfield 123, 3) := by decide +kernel
theorem d_F_totalWith_33 : decode c_F_totalWith 33 = .ok (.i2l, 1) := by decide +kernel
theorem d_F_totalWith_34 : decode c_F_totalWith 34 = .ok (.invokestatic 178, 3) := by decide +kernel
theorem d_F_totalWith_37 : decode c_F_totalWith 37 = .ok (.lreturn, 1) := by decide +kernel
theorem d_F_totalWith_38 : decode c_F_totalWith 38 = .ok (.lload_n 0, 1) := by decide +kernel
theorem d_F_totalWith_39 : decode c_F_totalWith 39 = .ok (.aload_n 2, 1) := by decide +kernel
theorem d_F_totalWith_40 : decode c_F_totalWith 40 = .ok (.getfield 126, 3) := by decide +kernel
theorem d_F_totalWith_43 : decode c_F_totalWith 43 = .ok (.i2l, 1) := by decide +kernel
theorem d_F_totalWith_44 : decode c_F_totalWith 44 = .ok (.invokestatic 178, 3) := by decide +kernel
theorem d_F_totalWith_47 : decode c_F_totalWith 47 = .ok (.lreturn, 1) := by decide +kernel
theorem d_F_totalWith_48 : decode c_F_totalWith 48 = .ok (.lload_n 0, 1) := by decide +kernel
theorem d_F_totalWith_49 : decode c_F_totalWith 49 = .ok (.aload_n 2, 1) := by decide +kernel
theorem d_F_totalWith_50 : decode c_F_totalWith 50 = .ok (.getfield 126, 3) := by decide +kernel
theorem d_F_totalWith_53 : decode c_F_totalWith 53 = .ok (.i2l, 1) := by decide +kernel
theorem d_F_totalWith_54 : decode c_F_totalWith 54 = .ok (.aload_n 2, 1) := by decide +kernel
theorem d_F_totalWith_55 : decode c_F_totalWith 55 = .ok (.getfield 123, 3) := by decide +kernel
theorem d_F_totalWith_58 : decode c_F_totalWith 58 = .ok (.i2l, 1) := by decide +kernel
theorem d_F_totalWith_59 : decode c_F_totalWith 59 = .ok (.lsub, 1) := by decide +kernel
theorem d_F_totalWith_60 : decode c_F_totalWith 60 = .ok (.lconst 1, 1) := by decide +kernel
theorem d_F_totalWith_61 : decode c_F_totalWith 61 = .ok (.ladd, 1) := by decide +kernel
theorem d_F_totalWith_62 : decode c_F_totalWith 62 = .ok (.ladd, 1) := by decide +kernel
theorem d_F_totalWith_63 : decode c_F_totalWith 63 = .ok (.lreturn, 1) := by decide +kernel
theorem d_F_totalWith_64 : decode c_F_totalWith 64 = .ok (.lload_n 0, 1) := by decide +kernel
theorem d_F_totalWith_65 : decode c_F_totalWith 65 = .ok (.lconst 1, 1) := by decide +kernel
theorem d_F_totalWith_66 : decode c_F_totalWith 66 = .ok (.ladd, 1) := by decide +kernel
theorem d_F_totalWith_67 : decode c_F_totalWith 67 = .ok (.lreturn, 1) := by decide +kernel
abbrev c_F_isBeyond : ByteArray := prog_1_method_32_code
abbrev y_F_isBeyond : MethodName := ⟨"FingerSpans", "isBeyond", "(JIJ)Z"⟩
theorem k_F_isBeyond : Cond.code y_F_isBeyond c_F_isBeyond 5 (some FieldType.boolean) ∈ lw_tbl := List.mem_of_getElem? (i := 444) (by decide +kernel)
theorem b_F_isBeyond : x_ce y_F_isBeyond c_F_isBeyond 5 (some FieldType.boolean) 3 := ⟨k_F_isBeyond, i_F, by decide +kernel⟩
theorem s_F_isBeyond : Cond.static y_F_isBeyond ∈ lw_tbl := List.mem_of_getElem? (i := 443) (by decide +kernel)
theorem d_F_isBeyond_0 : decode c_F_isBeyond 0 = .ok (.iload_n 2, 1) := by decide +kernel
theorem d_F_isBeyond_1 : decode c_F_isBeyond 1 = .ok (.invokestatic 173, 3) := by decide +kernel
theorem d_F_isBeyond_4 : decode c_F_isBeyond 4 = .ok (.ifCond .eq 17, 3) := by decide +kernel
theorem d_F_isBeyond_7 : decode c_F_isBeyond 7 = .ok (.lload_n 0, 1) := by decide +kernel
theorem d_F_isBeyond_8 : decode c_F_isBeyond 8 = .ok (.lload_n 3, 1) := by decide +kernel
theorem d_F_isBeyond_9 : decode c_F_isBeyond 9 = .ok (.lcmp, 1) := by decide +kernel
theorem d_F_isBeyond_10 : decode c_F_isBeyond 10 = .ok (.ifCond .lt 7, 3) := by decide +kernel
theorem d_F_isBeyond_13 : decode c_F_isBeyond 13 = .ok (.iconst 1, 1) := by decide +kernel
theorem d_F_isBeyond_14 : decode c_F_isBeyond 14 = .ok (.goto 18, 3) := by decide +kernel
theorem d_F_isBeyond_17 : decode c_F_isBeyond 17 = .ok (.iconst 0, 1) := by decide +kernel
theorem d_F_isBeyond_18 : decode c_F_isBeyond 18 = .ok (.goto 14, 3) := by decide +kernel
theorem d_F_isBeyond_21 : decode c_F_isBeyond 21 = .ok (.lload_n 0, 1) := by decide +kernel
theorem d_F_isBeyond_22 : decode c_F_isBeyond 22 = .ok (.lload_n 3, 1) := by decide +kernel
theorem d_F_isBeyond_23 : decode c_F_isBeyond 23 = .ok (.lcmp, 1) := by decide +kernel
theorem d_F_isBeyond_24 : decode c_F_isBeyond 24 = .ok (.ifCond .le 7, 3) := by decide +kernel
theorem d_F_isBeyond_27 : decode c_F_isBeyond 27 = .ok (.iconst 1, 1) := by decide +kernel
theorem d_F_isBeyond_28 : decode c_F_isBeyond 28 = .ok (.goto 4, 3) := by decide +kernel
theorem d_F_isBeyond_31 : decode c_F_isBeyond 31 = .ok (.iconst 0, 1) := by decide +kernel
theorem d_F_isBeyond_32 : decode c_F_isBeyond 32 = .ok (.ireturn, 1) := by decide +kernel
abbrev c_C_init : ByteArray := prog_2_method_1_code
abbrev y_C_init : MethodName := ⟨"FingerSpans$Cut", "<init>", "(LFingerSpans$Tree;LFingerSpans$Item;LFingerSpans$Tree;)V"⟩
theorem k_C_init : Cond.code y_C_init c_C_init 4 (none : Option FieldType) ∈ lw_tbl := List.mem_of_getElem? (i := 349) (by decide +kernel)
theorem b_C_init : x_ce y_C_init c_C_init 4 (none : Option FieldType) 3 := ⟨k_C_init, i_C, by decide +kernel⟩
theorem s_C_init : Cond.instanceMethod y_C_init ∈ lw_tbl := List.mem_of_getElem? (i := 348) (by decide +kernel)
theorem d_C_init_0 : decode c_C_init 0 = .ok (.aload_n 0, 1) := by decide +kernel
theorem d_C_init_1 : decode c_C_init 1 = .ok (.invokespecial 1, 3) := by decide +kernel
theorem d_C_init_4 : decode c_C_init 4 = .ok (.aload_n 0, 1) := by decide +kernel
theorem d_C_init_5 : decode c_C_init 5 = .ok (.aload_n 1, 1) := by decide +kernel
theorem d_C_init_6 : decode c_C_init 6 = .ok (.putfield 7, 3) := by decide +kernel
theorem d_C_init_9 : decode c_C_init 9 = .ok (.aload_n 0, 1) := by decide +kernel
theorem d_C_init_10 : decode c_C_init 10 = .ok (.aload_n 2, 1) := by decide +kernel
theorem d_C_init_11 : decode c_C_init 11 = .ok (.putfield 13, 3) := by decide +kernel
theorem d_C_init_14 : decode c_C_init 14 = .ok (.aload_n 0, 1) := by decide +kernel
theorem d_C_init_15 : decode c_C_init 15 = .ok (.aload_n 3, 1) := by decide +kernel
theorem d_C_init_16 : decode c_C_init 16 = .ok (.putfield 17, 3) := by decide +kernel
theorem d_C_init_19 : decode c_C_init 19 = .ok (.return_, 1) := by decide +kernel
abbrev c_H_init : ByteArray := prog_3_method_1_code
abbrev y_H_init : MethodName := ⟨"FingerSpans$Halves", "<init>", "(LFingerSpans$Tree;LFingerSpans$Tree;)V"⟩
theorem k_H_init : Cond.code y_H_init c_H_init 3 (none : Option FieldType) ∈ lw_tbl := List.mem_of_getElem? (i := 330) (by decide +kernel)
theorem b_H_init : x_ce y_H_init c_H_init 3 (none : Option FieldType) 2 := ⟨k_H_init, i_H, by decide +kernel⟩
theorem s_H_init : Cond.instanceMethod y_H_init ∈ lw_tbl := List.mem_of_getElem? (i := 329) (by decide +kernel)
theorem d_H_init_0 : decode c_H_init 0 = .ok (.aload_n 0, 1) := by decide +kernel
theorem d_H_init_1 : decode c_H_init 1 = .ok (.invokespecial 1, 3) := by decide +kernel
theorem d_H_init_4 : decode c_H_init 4 = .ok (.aload_n 0, 1) := by decide +kernel
theorem d_H_init_5 : decode c_H_init 5 = .ok (.aload_n 1, 1) := by decide +kernel
theorem d_H_init_6 : decode c_H_init 6 = .ok (.putfield 7, 3) := by decide +kernel
theorem d_H_init_9 : decode c_H_init 9 = .ok (.aload_n 0, 1) := by decide +kernel
theorem d_H_init_10 : decode c_H_init 10 = .ok (.aload_n 2, 1) := by decide +kernel
theorem d_H_init_11 : decode c_H_init 11 = .ok (.putfield 13, 3) := by decide +kernel
theorem d_H_init_14 : decode c_H_init 14 = .ok (.return_, 1) := by decide +kernel
abbrev c_I_init : ByteArray := prog_4_method_1_code
abbrev y_I_init : MethodName := ⟨"FingerSpans$Item", "<init>", "(II)V"⟩
theorem k_I_init : Cond.code y_I_init c_I_init 3 (none : Option FieldType) ∈ lw_tbl := List.mem_of_getElem? (i := 180) (by decide +kernel)
theorem b_I_init : x_ce y_I_init c_I_init 3 (none : Option FieldType) 2 := ⟨k_I_init, i_I, by decide +kernel⟩
theorem s_I_init : Cond.instanceMethod y_I_init ∈ lw_tbl := List.mem_of_getElem? (i := 179) (by decide +kernel)
theorem d_I_init_0 : decode c_I_init 0 = .ok (.aload_n 0, 1) := by decide +kernel
theorem d_I_init_1 : decode c_I_init 1 = .ok (.invokespecial 1, 3) := by decide +kernel
theorem d_I_init_4 : decode c_I_init 4 = .ok (.aload_n 0, 1) := by decide +kernel
theorem d_I_init_5 : decode c_I_init 5 = .ok (.iconst 0, 1) := by decide +kernel
theorem d_I_init_6 : decode c_I_init 6 = .ok (.putfield 7, 3) := by decide +kernel
theorem d_I_init_9 : decode c_I_init 9 = .ok (.aload_n 0, 1) := by decide +kernel
theorem d_I_init_10 : decode c_I_init 10 = .ok (.iload_n 1, 1) := by decide +kernel
theorem d_I_init_11 : decode c_I_init 11 = .ok (.putfield 13, 3) := by decide +kernel
theorem d_I_init_14 : decode c_I_init 14 = .ok (.aload_n 0, 1) := by decide +kernel
theorem d_I_init_15 : decode c_I_init 15 = .ok (.iload_n 2, 1) := by decide +kernel
theorem d_I_init_16 : decode c_I_init 16 = .ok (.putfield 16, 3) := by decide +kernel
theorem d_I_init_19 : decode c_I_init 19 = .ok (.aload_n 0, 1) := by decide +kernel
theorem d_I_init_20 : decode c_I_init 20 = .ok (.iconst 0, 1) := by decide +kernel
theorem d_I_init_21 : decode c_I_init 21 = .ok (.anewarray 8, 3) := by decide +kernel
theorem d_I_init_24 : decode c_I_init 24 = .ok (.putfield 19, 3) := by decide +kernel
theorem d_I_init_27 : decode c_I_init 27 = .ok (.aload_n 0, 1) := by decide +kernel
theorem d_I_init_28 : decode c_I_init 28 = .ok (.iconst 1, 1) := by decide +kernel
theorem d_I_init_29 : decode c_I_init 29 = .ok (.putfield 23, 3) := by decide +kernel
theorem d_I_init_32 : decode c_I_init 32 = .ok (.return_, 1) := by decide +kernel
abbrev c_I_init2 : ByteArray := prog_4_method_2_code
abbrev y_I_init2 : MethodName := ⟨"FingerSpans$Item", "<init>", "(I[LFingerSpans$Item;)V"⟩
theorem k_I_init2 : Cond.code y_I_init2 c_I_init2 3 (none : Option FieldType) ∈ lw_tbl := List.mem_of_getElem? (i := 241) (by decide +kernel)
theorem b_I_init2 : x_ce y_I_init2 c_I_init2 3 (none : Option FieldType) 2 := ⟨k_I_init2, i_I, by decide +kernel⟩
theorem s_I_init2 : Cond.instanceMethod y_I_init2 ∈ lw_tbl := List.mem_of_getElem? (i := 240) (by decide +kernel)
theorem d_I_init2_0 : decode c_I_init2 0 = .ok (.aload_n 0, 1) := by decide +kernel
theorem d_I_init2_1 : decode c_I_init2 1 = .ok (.invokespecial 1, 3) := by decide +kernel
theorem d_I_init2_4 : decode c_I_init2 4 = .ok (.aload_n 0, 1) := by decide +kernel
theorem d_I_init2_5 : decode c_I_init2 5 = .ok (.iload_n 1, 1) := by decide +kernel
theorem d_I_init2_6 : decode c_I_init2 6 = .ok (.putfield 7, 3) := by decide +kernel
theorem d_I_init2_9 : decode c_I_init2 9 = .ok (.aload_n 0, 1) := by decide +kernel
theorem d_I_init2_10 : decode c_I_init2 10 = .ok (.iconst 0, 1) := by decide +kernel
theorem d_I_init2_11 : decode c_I_init2 11 = .ok (.putfield 13, 3) := by decide +kernel
theorem d_I_init2_14 : decode c_I_init2 14 = .ok (.aload_n 0, 1) := by decide +kernel
theorem d_I_init2_15 : decode c_I_init2 15 = .ok (.iconst 0, 1) := by decide +kernel
theorem d_I_init2_16 : decode c_I_init2 16 = .ok (.putfield 16, 3) := by decide +kernel
theorem d_I_init2_19 : decode c_I_init2 19 = .ok (.aload_n 0, 1) := by decide +kernel
theorem d_I_init2_20 : decode c_I_init2 20 = .ok (.aload_n 2, 1) := by decide +kernel
theorem d_I_init2_21 : decode c_I_init2 21 = .ok (.putfield 19, 3) := by decide +kernel
theorem d_I_init2_24 : decode c_I_init2 24 = .ok (.aload_n 0, 1) := by decide +kernel
theorem d_I_init2_25 : decode c_I_init2 25 = .ok (.aload_n 2, 1) := by decide +kernel
theorem d_I_init2_26 : decode c_I_init2 26 = .ok (.invokestatic 26, 3) := by decide +kernel
theorem d_I_init2_29 : decode c_I_init2 29 = .ok (.putfield 23, 3) := by decide +kernel
theorem d_I_init2_32 : decode c_I_init2 32 = .ok (.return_, 1) := by decide +kernel
abbrev c_I_isNode : ByteArray := prog_4_method_3_code
abbrev y_I_isNode : MethodName := ⟨"FingerSpans$Item", "isNode", "()Z"⟩
theorem k_I_isNode : Cond.code y_I_isNode c_I_isNode 1 (some FieldType.boolean) ∈ lw_tbl := List.mem_of_getElem? (i := 404) (by decide +kernel)
theorem b_I_isNode : x_ce y_I_isNode c_I_isNode 1 (some FieldType.boolean) 0 := ⟨k_I_isNode, i_I, by decide +kernel⟩
theorem s_I_isNode : Cond.instanceMethod y_I_isNode ∈ lw_tbl := List.mem_of_getElem? (i := 403) (by decide +kernel)
theorem v_I_isNode : Cond.selects "FingerSpans$Item" y_I_isNode y_I_isNode ∈ lw_tbl := List.mem_of_getElem? (i := 26) (by decide +kernel)
theorem d_I_isNode_0 : decode c_I_isNode 0 = .ok (.aload_n 0, 1) := by decide +kernel
theorem d_I_isNode_1 : decode c_I_isNode 1 = .ok (.getfield 19, 3) := by decide +kernel
theorem d_I_isNode_4 : decode c_I_isNode 4 = .ok (.arraylength, 1) := by decide +kernel
theorem d_I_isNode_5 : decode c_I_isNode 5 = .ok (.ifCond .le 7, 3) := by decide +kernel
theorem d_I_isNode_8 : decode c_I_isNode 8 = .ok (.iconst 1, 1) := by decide +kernel
theorem d_I_isNode_9 : decode c_I_isNode 9 = .ok (.goto 4, 3) := by decide +kernel
theorem d_I_isNode_12 : decode c_I_isNode 12 = .ok (.iconst 0, 1) := by decide +kernel
theorem d_I_isNode_13 : decode c_I_isNode 13 = .ok (.ireturn, 1) := by decide +kernel
abbrev c_K_init : ByteArray := prog_5_method_1_code
abbrev y_K_init : MethodName := ⟨"FingerSpans$Marks", "<init>", "()V"⟩
theorem k_K_init : Cond.code y_K_init c_K_init 1 (none : Option FieldType) ∈ lw_tbl := List.mem_of_getElem? (i := 139) (by decide +kernel)
theorem b_K_init : x_ce y_K_init c_K_init 1 (none : Option FieldType) 0 := ⟨k_K_init, i_K, by decide +kernel⟩
theorem s_K_init : Cond.instanceMethod y_K_init ∈ lw_tbl := List.mem_of_getElem? (i := 138) (by decide +kernel)
theorem d_K_init_0 : decode c_K_init 0 = .ok (.aload_n 0, 1) := by decide +kernel
theorem d_K_init_1 : decode c_K_init 1 = .ok (.invokespecial 3, 3) := by decide +kernel
theorem d_K_init_4 : decode c_K_init 4 = .ok (.aload_n 0, 1) := by decide +kernel
theorem d_K_init_5 : decode c_K_init 5 = .ok (.sipush 4642, 3) := by decide +kernel
theorem d_K_init_8 : decode c_K_init 8 = .ok (.newarray .int, 2) := by decide +kernel
theorem d_K_init_10 : decode c_K_init 10 = .ok (.putfield 9, 3) := by decide +kernel
theorem d_K_init_13 : decode c_K_init 13 = .ok (.aload_n 0, 1) := by decide +kernel
theorem d_K_init_14 : decode c_K_init 14 = .ok (.iconst 0, 1) := by decide +kernel
theorem d_K_init_15 : decode c_K_init 15 = .ok (.putfield 15, 3) := by decide +kernel
theorem d_K_init_18 : decode c_K_init 18 = .ok (.return_, 1) := by decide +kernel
abbrev c_K_common : ByteArray := prog_5_method_2_code
abbrev y_K_common : MethodName := ⟨"FingerSpans$Marks", "common", "(LFingerSpans$Tree;LFingerSpans$Tree;)I"⟩
theorem k_K_common : Cond.code y_K_common c_K_common 7 (some FieldType.int) ∈ lw_tbl := List.mem_of_getElem? (i := 508) (by decide +kernel)
theorem b_K_common : x_ce y_K_common c_K_common 7 (some FieldType.int) 2 := ⟨k_K_common, i_K, by decide +kernel⟩
theorem s_K_common : Cond.instanceMethod y_K_common ∈ lw_tbl := List.mem_of_getElem? (i := 507) (by decide +kernel)
theorem v_K_common : Cond.selects "FingerSpans$Marks" y_K_common y_K_common ∈ lw_tbl := List.mem_of_getElem? (i := 29) (by decide +kernel)
theorem d_K_common_0 : decode c_K_common 0 = .ok (.aload_n 0, 1) := by decide +kernel
theorem d_K_common_1 : decode c_K_common 1 = .ok (.getfield 15, 3) := by decide +kernel
theorem d_K_common_4 : decode c_K_common 4 = .ok (.iconst 1, 1) := by decide +kernel
theorem d_K_common_5 : decode c_K_common 5 = .ok (.iadd, 1) := by decide +kernel
theorem d_K_common_6 : decode c_K_common 6 = .ok (.istore_n 3, 1) := by decide +kernel
theorem d_K_common_7 : decode c_K_common 7 = .ok (.aload_n 0, 1) := by decide +kernel
theorem d_K_common_8 : decode c_K_common 8 = .ok (.getfield 15, 3) := by decide +kernel
theorem d_K_common_11 : decode c_K_common 11 = .ok (.iconst 2, 1) := by decide +kernel
theorem d_K_common_12 : decode c_K_common 12 = .ok (.iadd, 1) := by decide +kernel
theorem d_K_common_13 : decode c_K_common 13 = .ok (.istore 4, 2) := by decide +kernel
theorem d_K_common_15 : decode c_K_common 15 = .ok (.aload_n 0, 1) := by decide +kernel
theorem d_K_common_16 : decode c_K_common 16 = .ok (.iload 4, 2) := by decide +kernel
theorem d_K_common_18 : decode c_K_common 18 = .ok (.putfield 15, 3) := by decide +kernel
theorem d_K_common_21 : decode c_K_common 21 = .ok (.aload_n 1, 1) := by decide +kernel
theorem d_K_common_22 : decode c_K_common 22 = .ok (.astore 5, 2) := by decide +kernel
theorem d_K_common_24 : decode c_K_common 24 = .ok (.aload 5, 2) := by decide +kernel
theorem d_K_common_26 : decode c_K_common 26 = .ok (.ifnull 33, 3) := by decide +kernel
theorem d_K_common_29 : decode c_K_common 29 = .ok (.aload_n 0, 1) := by decide +kernel
theorem d_K_common_30 : decode c_K_common 30 = .ok (.aload 5, 2) := by decide +kernel
theorem d_K_common_32 : decode c_K_common 32 = .ok (.getfield 19, 3) := by decide +kernel
theorem d_K_common_35 : decode c_K_common 35 = .ok (.iload_n 3, 1) := by decide +kernel
theorem d_K_common_36 : decode c_K_common 36 = .ok (.invokevirtual 25, 3) := by decide +kernel
theorem d_K_common_39 : decode c_K_common 39 = .ok (.aload_n 0, 1) := by decide +kernel
theorem d_K_common_40 : decode c_K_common 40 = .ok (.aload 5, 2) := by decide +kernel
theorem d_K_common_42 : decode c_K_common 42 = .ok (.getfield 29, 3) := by decide +kernel
theorem d_K_common_45 : decode c_K_common 45 = .ok (.iload_n 3, 1) := by decide +kernel
theorem d_K_common_46 : decode c_K_common 46 = .ok (.invokevirtual 25, 3) := by decide +kernel
theorem d_K_common_49 : decode c_K_common 49 = .ok (.aload 5, 2) := by decide +kernel
theorem d_K_common_51 : decode c_K_common 51 = .ok (.getfield 32, 3) := by decide +kernel
theorem d_K_common_54 : decode c_K_common 54 = .ok (.astore 5, 2) := by decide +kernel
theorem d_K_common_56 : decode c_K_common 56 = .ok (.goto (-32), 3) := by decide +kernel
theorem d_K_common_59 : decode c_K_common 59 = .ok (.iconst 0, 1) := by decide +kernel
theorem d_K_common_60 : decode c_K_common 60 = .ok (.istore 5, 2) := by decide +kernel
theorem d_K_common_62 : decode c_K_common 62 = .ok (.aload_n 2, 1) := by decide +kernel
theorem d_K_common_63 : decode c_K_common 63 = .ok (.astore 6, 2) := by decide +kernel
theorem d_K_common_65 : decode c_K_common 65 = .ok (.aload 6, 2) := by decide +kernel
theorem d_K_common_67 : decode c_K_common 67 = .ok (.ifnull 47, 3) := by decide +kernel
theorem d_K_common_70 : decode c_K_common 70 = .ok (.iload 5, 2) := by decide +kernel
theorem d_K_common_72 : decode c_K_common 72 = .ok (.aload_n 0, 1) := by decide +kernel
theorem d_K_common_73 : decode c_K_common 73 = .ok (.aload 6, 2) := by decide +kernel
theorem d_K_common_75 : decode c_K_common 75 = .ok (.getfield 19, 3) := by decide +kernel
theorem d_K_common_78 : decode c_K_common 78 = .ok (.iload_n 3, 1) := by decide +kernel
theorem d_K_common_79 : decode c_K_common 79 = .ok (.iload 4, 2) := by decide +kernel
theorem d_K_common_81 : decode c_K_common 81 = .ok (.invokevirtual 36, 3) := by decide +kernel
theorem d_K_common_84 : decode c_K_common 84 = .ok (.iadd, 1) := by decide +kernel
theorem d_K_common_85 : decode c_K_common 85 = .ok (.istore 5, 2) := by decide +kernel
theorem d_K_common_87 : decode c_K_common 87 = .ok (.iload 5, 2) := by decide +kernel
theorem d_K_common_89 : decode c_K_common 89 = .ok (.aload_n 0, 1) := by decide +kernel
theorem d_K_common_90 : decode c_K_common 90 = .ok (.aload 6, 2) := by decide +kernel
theorem d_K_common_92 : decode c_K_common 92 = .ok (.getfield 29, 3) := by decide +kernel
theorem d_K_common_95 : decode c_K_common 95 = .ok (.iload_n 3, 1) := by decide +kernel
theorem d_K_common_96 : decode c_K_common 96 = .ok (.iload 4, 2) := by decide +kernel
theorem d_K_common_98 : decode c_K_common 98 = .ok (.invokevirtual 36, 3) := by decide +kernel
theorem d_K_common_101 : decode c_K_common 101 = .ok (.iadd, 1) := by decide +kernel
theorem d_K_common_102 : decode c_K_common 102 = .ok (.istore 5, 2) := by decide +kernel
theorem d_K_common_104 : decode c_K_common 104 = .ok (.aload 6, 2) := by decide +kernel
theorem d_K_common_106 : decode c_K_common 106 = .ok (.getfield 32, 3) := by decide +kernel
theorem d_K_common_109 : decode c_K_common 109 = .ok (.astore 6, 2) := by decide +kernel
theorem d_K_common_111 : decode c_K_common 111 = .ok (.goto (-46), 3) := by decide +kernel
theorem d_K_common_114 : decode c_K_common 114 = .ok (.iload 5, 2) := by decide +kernel
theorem d_K_common_116 : decode c_K_common 116 = .ok (.ireturn, 1) := by decide +kernel
abbrev c_K_markAll : ByteArray := prog_5_method_3_code
abbrev y_K_markAll : MethodName := ⟨"FingerSpans$Marks", "markAll", "([LFingerSpans$Item;I)V"⟩
theorem k_K_markAll : Cond.code y_K_markAll c_K_markAll 7 (none : Option FieldType) ∈ lw_tbl := List.mem_of_getElem? (i := 512) (by decide +kernel)
theorem b_K_markAll : x_ce y_K_markAll c_K_markAll 7 (none : Option FieldType) 2 := ⟨k_K_markAll, i_K, by decide +kernel⟩
theorem s_K_markAll : Cond.instanceMethod y_K_markAll ∈ lw_tbl := List.mem_of_getElem? (i := 511) (by decide +kernel)
theorem v_K_markAll : Cond.selects "FingerSpans$Marks" y_K_markAll y_K_markAll ∈ lw_tbl := List.mem_of_getElem? (i := 30) (by decide +kernel)
theorem d_K_markAll_0 : decode c_K_markAll 0 = .ok (.aload_n 1, 1) := by decide +kernel
theorem d_K_markAll_1 : decode c_K_markAll 1 = .ok (.astore_n 3, 1) := by decide +kernel
theorem d_K_markAll_2 : decode c_K_markAll 2 = .ok (.aload_n 3, 1) := by decide +kernel
theorem d_K_markAll_3 : decode c_K_markAll 3 = .ok (.arraylength, 1) := by decide +kernel
theorem d_K_markAll_4 : decode c_K_markAll 4 = .ok (.istore 4, 2) := by decide +kernel
theorem d_K_markAll_6 : decode c_K_markAll 6 = .ok (.iconst 0, 1) := by decide +kernel
theorem d_K_markAll_7 : decode c_K_markAll 7 = .ok (.istore 5, 2) := by decide +kernel
theorem d_K_markAll_9 : decode c_K_markAll 9 = .ok (.iload 5, 2) := by decide +kernel
theorem d_K_markAll_11 : decode c_K_markAll 11 = .ok (.iload 4, 2) := by decide +kernel
theorem d_K_markAll_13 : decode c_K_markAll 13 = .ok (.if_icmp .ge 44, 3) := by decide +kernel
theorem d_K_markAll_16 : decode c_K_markAll 16 = .ok (.aload_n 3, 1) := by decide +kernel
theorem d_K_markAll_17 : decode c_K_markAll 17 = .ok (.iload 5, 2) := by decide +kernel
theorem d_K_markAll_19 : decode c_K_markAll 19 = .ok (.aaload, 1) := by decide +kernel
theorem d_K_markAll_20 : decode c_K_markAll 20 = .ok (.astore 6, 2) := by decide +kernel
theorem d_K_markAll_22 : decode c_K_markAll 22 = .ok (.aload 6, 2) := by decide +kernel
theorem d_K_markAll_24 : decode c_K_markAll 24 = .ok (.invokevirtual 40, 3) := by decide +kernel
theorem d_K_markAll_27 : decode c_K_markAll 27 = .ok (.ifCond .eq 24, 3) := by decide +kernel
theorem d_K_markAll_30 : decode c_K_markAll 30 = .ok (.aload_n 0, 1) := by decide +kernel
theorem d_K_markAll_31 : decode c_K_markAll 31 = .ok (.getfield 9, 3) := by decide +kernel
theorem d_K_markAll_34 : decode c_K_markAll 34 = .ok (.aload 6, 2) := by decide +kernel
theorem d_K_markAll_36 : decode c_K_markAll 36 = .ok (.getfield 46, 3) := by decide +kernel
theorem d_K_markAll_39 : decode c_K_markAll 39 = .ok (.iload_n 2, 1) := by decide +kernel
theorem d_K_markAll_40 : decode c_K_markAll 40 = .ok (.iastore, 1) := by decide +kernel
theorem d_K_markAll_41 : decode c_K_markAll 41 = .ok (.aload_n 0, 1) := by decide +kernel
theorem d_K_markAll_42 : decode c_K_markAll 42 = .ok (.aload 6, 2) := by decide +kernel
theorem d_K_markAll_44 : decode c_K_markAll 44 = .ok (.getfield 49, 3) := by decide +kernel
theorem d_K_markAll_47 : decode c_K_markAll 47 = .ok (.iload_n 2, 1) := by decide +kernel
theorem d_K_markAll_48 : decode c_K_markAll 48 = .ok (.invokevirtual 25, 3) := by decide +kernel
theorem d_K_markAll_51 : decode c_K_markAll 51 = .ok (.iinc 5 1, 3) := by decide +kernel
theorem d_K_markAll_54 : decode c_K_markAll 54 = .ok (.goto (-45), 3) := by decide +kernel
theorem d_K_markAll_57 : decode c_K_markAll 57 = .ok (.return_, 1) := by decide +kernel
abbrev c_K_countMarked : ByteArray := prog_5_method_4_code
abbrev y_K_countMarked : MethodName := ⟨"FingerSpans$Marks", "countMarked", "([LFingerSpans$Item;II)I"⟩
theorem k_K_countMarked : Cond.code y_K_countMarked c_K_countMarked 9 (some FieldType.int) ∈ lw_tbl := List.mem_of_getElem? (i := 517) (by decide +kernel)
theorem b_K_countMarked : x_ce y_K_countMarked c_K_countMarked 9 (some FieldType.int) 3 := ⟨k_K_countMarked, i_K, by decide +kernel⟩
theorem s_K_countMarked : Cond.instanceMethod y_K_countMarked ∈ lw_tbl := List.mem_of_getElem? (i := 516) (by decide +kernel)
theorem v_K_countMarked : Cond.selects "FingerSpans$Marks" y_K_countMarked y_K_countMarked ∈ lw_tbl := List.mem_of_getElem? (i := 31) (by decide +kernel)
theorem d_K_countMarked_0 : decode c_K_countMarked 0 = .ok (.iconst 0, 1) := by decide +kernel
theorem d_K_countMarked_1 : decode c_K_countMarked 1 = .ok (.istore 4, 2) := by decide +kernel
theorem d_K_countMarked_3 : decode c_K_countMarked 3 = .ok (.aload_n 1, 1) := by decide +kernel
theorem d_K_countMarked_4 : decode c_K_countMarked 4 = .ok (.astore 5, 2) := by decide +kernel
theorem d_K_countMarked_6 : decode c_K_countMarked 6 = .ok (.aload 5, 2) := by decide +kernel
theorem d_K_countMarked_8 : decode c_K_countMarked 8 = .ok (.arraylength, 1) := by decide +kernel
theorem d_K_countMarked_9 : decode c_K_countMarked 9 = .ok (.istore 6, 2) := by decide +kernel
theorem d_K_countMarked_11 : decode c_K_countMarked 11 = .ok (.iconst 0, 1) := by decide +kernel
theorem d_K_countMarked_12 : decode c_K_countMarked 12 = .ok (.istore 7, 2) := by decide +kernel
theorem d_K_countMarked_14 : decode c_K_countMarked 14 = .ok (.iload 7, 2) := by decide +kernel
theorem d_K_countMarked_16 : decode c_K_countMarked 16 = .ok (.iload 6, 2) := by decide +kernel
theorem d_K_countMarked_18 : decode c_K_countMarked 18 = .ok (.if_icmp .ge 68, 3) := by decide +kernel
theorem d_K_countMarked_21 : decode c_K_countMarked 21 = .ok (.aload 5, 2) := by decide +kernel
theorem d_K_countMarked_23 : decode c_K_countMarked 23 = .ok (.iload 7, 2) := by decide +kernel
theorem d_K_countMarked_25 : decode c_K_countMarked 25 = .ok (.aaload, 1) := by decide +kernel
theorem d_K_countMarked_26 : decode c_K_countMarked 26 = .ok (.astore 8, 2) := by decide +kernel
theorem d_K_countMarked_28 : decode c_K_countMarked 28 = .ok (.aload 8, 2) := by decide +kernel
theorem d_K_countMarked_30 : decode c_K_countMarked 30 = .ok (.invokevirtual 40, 3) := by decide +kernel
theorem d_K_countMarked_33 : decode c_K_countMarked 33 = .ok (.ifCond .eq 47, 3) := by decide +kernel
theorem d_K_countMarked_36 : decode c_K_countMarked 36 = .ok (.aload_n 0, 1) := by decide +kernel
theorem d_K_countMarked_37 : decode c_K_countMarked 37 = .ok (.getfield 9, 3) := by decide +kernel
theorem d_K_countMarked_40 : decode c_K_countMarked 40 = .ok (.aload 8, 2) := by decide +kernel
theorem d_K_countMarked_42 : decode c_K_countMarked 42 = .ok (.getfield 46, 3) := by decide +kernel
theorem d_K_countMarked_45 : decode c_K_countMarked 45 = .ok (.iaload, 1) := by decide +kernel
theorem d_K_countMarked_46 : decode c_K_countMarked 46 = .ok (.iload_n 2, 1) := by decide +kernel
theorem d_K_countMarked_47 : decode c_K_countMarked 47 = .ok (.if_icmp .ne 17, 3) := by decide +kernel
theorem d_K_countMarked_50 : decode c_K_countMarked 50 = .ok (.aload_n 0, 1) := by decide +kernel
theorem d_K_countMarked_51 : decode c_K_countMarked 51 = .ok (.getfield 9, 3) := by decide +kernel
theorem d_K_countMarked_54 : decode c_K_countMarked 54 = .ok (.aload 8, 2) := by decide +kernel
theorem d_K_countMarked_56 : decode c_K_countMarked 56 = .ok (.getfield 46, 3) := by decide +kernel
theorem d_K_countMarked_59 : decode c_K_countMarked 59 = .ok (.iload_n 3, 1) := by decide +kernel
theorem d_K_countMarked_60 : decode c_K_countMarked 60 = .ok (.iastore, 1) := by decide +kernel
theorem d_K_countMarked_61 : decode c_K_countMarked 61 = .ok (.iinc 4 1, 3) := by decide +kernel
theorem d_K_countMarked_64 : decode c_K_countMarked 64 = .ok (.iload 4, 2) := by decide +kernel
theorem d_K_countMarked_66 : decode c_K_countMarked 66 = .ok (.aload_n 0, 1) := by decide +kernel
theorem d_K_countMarked_67 : decode c_K_countMarked 67 = .ok (.aload 8, 2) := by decide +kernel
theorem d_K_countMarked_69 : decode c_K_countMarked 69 = .ok (.getfield 49, 3) := by decide +kernel
theorem d_K_countMarked_72 : decode c_K_countMarked 72 = .ok (.iload_n 2, 1) := by decide +kernel
theorem d_K_countMarked_73 : decode c_K_countMarked 73 = .ok (.iload_n 3, 1) := by decide +kernel
theorem d_K_countMarked_74 : decode c_K_countMarked 74 = .ok (.invokevirtual 36, 3) := by decide +kernel
theorem d_K_countMarked_77 : decode c_K_countMarked 77 = .ok (.iadd, 1) := by decide +kernel
theorem d_K_countMarked_78 : decode c_K_countMarked 78 = .ok (.istore 4, 2) := by decide +kernel
theorem d_K_countMarked_80 : decode c_K_countMarked 80 = .ok (.iinc 7 1, 3) := by decide +kernel
theorem d_K_countMarked_83 : decode c_K_countMarked 83 = .ok (.goto (-69), 3) := by decide +kernel
theorem d_K_countMarked_86 : decode c_K_countMarked 86 = .ok (.iload 4, 2) := by decide +kernel
theorem d_K_countMarked_88 : decode c_K_countMarked 88 = .ok (.ireturn, 1) := by decide +kernel
abbrev c_R_entriesIn : ByteArray := prog_6_method_2_code
abbrev y_R_entriesIn : MethodName := ⟨"FingerSpans$Rows", "entriesIn", "([LFingerSpans$Item;)I"⟩
theorem k_R_entriesIn : Cond.code y_R_entriesIn c_R_entriesIn 6 (some FieldType.int) ∈ lw_tbl := List.mem_of_getElem? (i := 93) (by decide +kernel)
theorem b_R_entriesIn : x_ce y_R_entriesIn c_R_entriesIn 6 (some FieldType.int) 1 := ⟨k_R_entriesIn, i_R, by decide +kernel⟩
theorem s_R_entriesIn : Cond.static y_R_entriesIn ∈ lw_tbl := List.mem_of_getElem? (i := 92) (by decide +kernel)
theorem d_R_entriesIn_0 : decode c_R_entriesIn 0 = .ok (.iconst 0, 1) := by decide +kernel
theorem d_R_entriesIn_1 : decode c_R_entriesIn 1 = .ok (.istore_n 1, 1) := by decide +kernel
theorem d_R_entriesIn_2 : decode c_R_entriesIn 2 = .ok (.aload_n 0, 1) := by decide +kernel
theorem d_R_entriesIn_3 : decode c_R_entriesIn 3 = .ok (.astore_n 2, 1) := by decide +kernel
theorem d_R_entriesIn_4 : decode c_R_entriesIn 4 = .ok (.aload_n 2, 1) := by decide +kernel
theorem d_R_entriesIn_5 : decode c_R_entriesIn 5 = .ok (.arraylength, 1) := by decide +kernel
theorem d_R_entriesIn_6 : decode c_R_entriesIn 6 = .ok (.istore_n 3, 1) := by decide +kernel
theorem d_R_entriesIn_7 : decode c_R_entriesIn 7 = .ok (.iconst 0, 1) := by decide +kernel
theorem d_R_entriesIn_8 : decode c_R_entriesIn 8 = .ok (.istore 4, 2) := by decide +kernel
theorem d_R_entriesIn_10 : decode c_R_entriesIn 10 = .ok (.iload 4, 2) := by decide +kernel
theorem d_R_entriesIn_12 : decode c_R_entriesIn 12 = .ok (.iload_n 3, 1) := by decide +kernel
theorem d_R_entriesIn_13 : decode c_R_entriesIn 13 = .ok (.if_icmp .ge 23, 3) := by decide +kernel
theorem d_R_entriesIn_16 : decode c_R_entriesIn 16 = .ok (.aload_n 2, 1) := by decide +kernel
theorem d_R_entriesIn_17 : decode c_R_entriesIn 17 = .ok (.iload 4, 2) := by decide +kernel
theorem d_R_entriesIn_19 : decode c_R_entriesIn 19 = .ok (.aaload, 1) := by decide +kernel
theorem d_R_entriesIn_20 : decode c_R_entriesIn 20 = .ok (.astore 5, 2) := by decide +kernel
theorem d_R_entriesIn_22 : decode c_R_entriesIn 22 = .ok (.iload_n 1, 1) := by decide +kernel
theorem d_R_entriesIn_23 : decode c_R_entriesIn 23 = .ok (.aload 5, 2) := by decide +kernel
theorem d_R_entriesIn_25 : decode c_R_entriesIn 25 = .ok (.getfield 7, 3) := by decide +kernel
theorem d_R_entriesIn_28 : decode c_R_entriesIn 28 = .ok (.iadd, 1) := by decide +kernel
theorem d_R_entriesIn_29 : decode c_R_entriesIn 29 = .ok (.istore_n 1, 1) := by decide +kernel
theorem d_R_entriesIn_30 : decode c_R_entriesIn 30 = .ok (.iinc 4 1, 3) := by decide +kernel
theorem d_R_entriesIn_33 : decode c_R_entriesIn 33 = .ok (.goto (-23), 3) := by decide +kernel
theorem d_R_entriesIn_36 : decode c_R_entriesIn 36 = .ok (.iload_n 1, 1) := by decide +kernel
theorem d_R_entriesIn_37 : decode c_R_entriesIn 37 = .ok (.ireturn, 1) := by decide +kernel
abbrev c_R_entriesBefore : ByteArray := prog_6_method_3_code
abbrev y_R_entriesBefore : MethodName := ⟨"FingerSpans$Rows", "entriesBefore", "([LFingerSpans$Item;I)I"⟩
theorem k_R_entriesBefore : Cond.code y_R_entriesBefore c_R_entriesBefore 4 (some FieldType.int) ∈ lw_tbl := List.mem_of_getElem? (i := 407) (by decide +kernel)
theorem b_R_entriesBefore : x_ce y_R_entriesBefore c_R_entriesBefore 4 (some FieldType.int) 2 := ⟨k_R_entriesBefore, i_R, by decide +kernel⟩
theorem s_R_entriesBefore : Cond.static y_R_entriesBefore ∈ lw_tbl := List.mem_of_getElem? (i := 406) (by decide +kernel)
theorem d_R_entriesBefore_0 : decode c_R_entriesBefore 0 = .ok (.iconst 0, 1) := by decide +kernel
theorem d_R_entriesBefore_1 : decode c_R_entriesBefore 1 = .ok (.istore_n 2, 1) := by decide +kernel
theorem d_R_entriesBefore_2 : decode c_R_entriesBefore 2 = .ok (.iconst 0, 1) := by decide +kernel
theorem d_R_entriesBefore_3 : decode c_R_entriesBefore 3 = .ok (.istore_n 3, 1) := by decide +kernel
theorem d_R_entriesBefore_4 : decode c_R_entriesBefore 4 = .ok (.iload_n 3, 1) := by decide +kernel
theorem d_R_entriesBefore_5 : decode c_R_entriesBefore 5 = .ok (.iload_n 1, 1) := by decide +kernel
theorem d_R_entriesBefore_6 : decode c_R_entriesBefore 6 = .ok (.if_icmp .ge 18, 3) := by decide +kernel
theorem d_R_entriesBefore_9 : decode c_R_entriesBefore 9 = .ok (.iload_n 2, 1) := by decide +kernel
theorem d_R_entriesBefore_10 : decode c_R_entriesBefore 10 = .ok (.aload_n 0, 1) := by decide +kernel
theorem d_R_entriesBefore_11 : decode c_R_entriesBefore 11 = .ok (.iload_n 3, 1) := by decide +kernel
theorem d_R_entriesBefore_12 : decode c_R_entriesBefore 12 = .ok (.aaload, 1) := by decide +kernel
theorem d_R_entriesBefore_13 : decode c_R_entriesBefore 13 = .ok (.getfield 7, 3) := by decide +kernel
theorem d_R_entriesBefore_16 : decode c_R_entriesBefore 16 = .ok (.iadd, 1) := by decide +kernel
theorem d_R_entriesBefore_17 : decode c_R_entriesBefore 17 = .ok (.istore_n 2, 1) := by decide +kernel
theorem d_R_entriesBefore_18 : decode c_R_entriesBefore 18 = .ok (.iinc 3 1, 3) := by decide +kernel
theorem d_R_entriesBefore_21 : decode c_R_entriesBefore 21 = .ok (.goto (-17), 3) := by decide +kernel
theorem d_R_entriesBefore_24 : decode c_R_entriesBefore 24 = .ok (.iload_n 2, 1) := by decide +kernel
theorem d_R_entriesBefore_25 : decode c_R_entriesBefore 25 = .ok (.ireturn, 1) := by decide +kernel
abbrev c_R_indexOf : ByteArray := prog_6_method_4_code
abbrev y_R_indexOf : MethodName := ⟨"FingerSpans$Rows", "indexOf", "([LFingerSpans$Item;I)I"⟩
theorem k_R_indexOf : Cond.code y_R_indexOf c_R_indexOf 4 (some FieldType.int) ∈ lw_tbl := List.mem_of_getElem? (i := 368) (by decide +kernel)
theorem b_R_indexOf : x_ce y_R_indexOf c_R_indexOf 4 (some FieldType.int) 2 := ⟨k_R_indexOf, i_R, by decide +kernel⟩
theorem s_R_indexOf : Cond.static y_R_indexOf ∈ lw_tbl := List.mem_of_getElem? (i := 367) (by decide +kernel)
theorem d_R_indexOf_0 : decode c_R_indexOf 0 = .ok (.iconst 0, 1) := by decide +kernel
theorem d_R_indexOf_1 : decode c_R_indexOf 1 = .ok (.istore_n 2, 1) := by decide +kernel
theorem d_R_indexOf_2 : decode c_R_indexOf 2 = .ok (.aload_n 0, 1) := by decide +kernel
theorem d_R_indexOf_3 : decode c_R_indexOf 3 = .ok (.iconst 0, 1) := by decide +kernel
theorem d_R_indexOf_4 : decode c_R_indexOf 4 = .ok (.aaload, 1) := by decide +kernel
theorem d_R_indexOf_5 : decode c_R_indexOf 5 = .ok (.getfield 7, 3) := by decide +kernel
theorem d_R_indexOf_8 : decode c_R_indexOf 8 = .ok (.istore_n 3, 1) := by decide +kernel
theorem d_R_indexOf_9 : decode c_R_indexOf 9 = .ok (.iload_n 1, 1) := by decide +kernel
theorem d_R_indexOf_10 : decode c_R_indexOf 10 = .ok (.iload_n 3, 1) := by decide +kernel
theorem d_R_indexOf_11 : decode c_R_indexOf 11 = .ok (.if_icmp .lt 26, 3) := by decide +kernel
theorem d_R_indexOf_14 : decode c_R_indexOf 14 = .ok (.iload_n 2, 1) := by decide +kernel
theorem d_R_indexOf_15 : decode c_R_indexOf 15 = .ok (.aload_n 0, 1) := by decide +kernel
theorem d_R_indexOf_16 : decode c_R_indexOf 16 = .ok (.arraylength, 1) := by decide +kernel
theorem d_R_indexOf_17 : decode c_R_indexOf 17 = .ok (.iconst 1, 1) := by decide +kernel
theorem d_R_indexOf_18 : decode c_R_indexOf 18 = .ok (.isub, 1) := by decide +kernel
theorem d_R_indexOf_19 : decode c_R_indexOf 19 = .ok (.if_icmp .ge 18, 3) := by decide +kernel
theorem d_R_indexOf_22 : decode c_R_indexOf 22 = .ok (.iinc 2 1, 3) := by decide +kernel
theorem d_R_indexOf_25 : decode c_R_indexOf 25 = .ok (.iload_n 3, 1) := by decide +kernel
theorem d_R_indexOf_26 : decode c_R_indexOf 26 = .ok (.aload_n 0, 1) := by decide +kernel
theorem d_R_indexOf_27 : decode c_R_indexOf 27 = .ok (.iload_n 2, 1) := by decide +kernel
theorem d_R_indexOf_28 : decode c_R_indexOf 28 = .ok (.aaload, 1) := by decide +kernel
theorem d_R_indexOf_29 : decode c_R_indexOf 29 = .ok (.getfield 7, 3) := by decide +kernel
theorem d_R_indexOf_32 : decode c_R_indexOf 32 = .ok (.iadd, 1) := by decide +kernel
theorem d_R_indexOf_33 : decode c_R_indexOf 33 = .ok (.istore_n 3, 1) := by decide +kernel
theorem d_R_indexOf_34 : decode c_R_indexOf 34 = .ok (.goto (-25), 3) := by decide +kernel
theorem d_R_indexOf_37 : decode c_R_indexOf 37 = .ok (.iload_n 2, 1) := by decide +kernel
theorem d_R_indexOf_38 : decode c_R_indexOf 38 = .ok (.ireturn, 1) := by decide +kernel
abbrev c_R_entryAt : ByteArray := prog_6_method_5_code
abbrev y_R_entryAt : MethodName := ⟨"FingerSpans$Rows", "entryAt", "([LFingerSpans$Item;I)LFingerSpans$Item;"⟩
theorem k_R_entryAt : Cond.code y_R_entryAt c_R_entryAt 4 (some (FieldType.object "FingerSpans$Item")) ∈ lw_tbl := List.mem_of_getElem? (i := 429) (by decide +kernel)
theorem b_R_entryAt : x_ce y_R_entryAt c_R_entryAt 4 (some (FieldType.object "FingerSpans$Item")) 2 := ⟨k_R_entryAt, i_R, by decide +kernel⟩
theorem s_R_entryAt : Cond.static y_R_entryAt ∈ lw_tbl := List.mem_of_getElem? (i := 428) (by decide +kernel)
theorem d_R_entryAt_0 : decode c_R_entryAt 0 = .ok (.aload_n 0, 1) := by decide +kernel
theorem d_R_entryAt_1 : decode c_R_entryAt 1 = .ok (.iload_n 1, 1) := by decide +kernel
theorem d_R_entryAt_2 : decode c_R_entryAt 2 = .ok (.invokestatic 13, 3) := by decide +kernel
theorem d_R_entryAt_5 : decode c_R_entryAt 5 = .ok (.istore_n 2, 1) := by decide +kernel
theorem d_R_entryAt_6 : decode c_R_entryAt 6 = .ok (.aload_n 0, 1) := by decide +kernel
theorem d_R_entryAt_7 : decode c_R_entryAt 7 = .ok (.iload_n 2, 1) := by decide +kernel
theorem d_R_entryAt_8 : decode c_R_entryAt 8 = .ok (.aaload, 1) := by decide +kernel
theorem d_R_entryAt_9 : decode c_R_entryAt 9 = .ok (.astore_n 3, 1) := by decide +kernel
theorem d_R_entryAt_10 : decode c_R_entryAt 10 = .ok (.aload_n 3, 1) := by decide +kernel
theorem d_R_entryAt_11 : decode c_R_entryAt 11 = .ok (.invokevirtual 19, 3) := by decide +kernel
theorem d_R_entryAt_14 : decode c_R_entryAt 14 = .ok (.ifCond .eq 20, 3) := by decide +kernel
theorem d_R_entryAt_17 : decode c_R_entryAt 17 = .ok (.aload_n 3, 1) := by decide +kernel
theorem d_R_entryAt_18 : decode c_R_entryAt 18 = .ok (.getfield 23, 3) := by decide +kernel
theorem d_R_entryAt_21 : decode c_R_entryAt 21 = .ok (.iload_n 1, 1) := by decide +kernel
theorem d_R_entryAt_22 : decode c_R_entryAt 22 = .ok (.aload_n 0, 1) := by decide +kernel
theorem d_R_entryAt_23 : decode c_R_entryAt 23 = .ok (.iload_n 2, 1) := by decide +kernel
theorem d_R_entryAt_24 : decode c_R_entryAt 24 = .ok (.invokestatic 27, 3) := by decide +kernel
theorem d_R_entryAt_27 : decode c_R_entryAt 27 = .ok (.isub, 1) := by decide +kernel
theorem d_R_entryAt_28 : decode c_R_entryAt 28 = .ok (.invokestatic 30, 3) := by decide +kernel
theorem d_R_entryAt_31 : decode c_R_entryAt 31 = .ok (.goto 4, 3) := by decide +kernel
theorem d_R_entryAt_34 : decode c_R_entryAt 34 = .ok (.aload_n 3, 1) := by decide +kernel
theorem d_R_entryAt_35 : decode c_R_entryAt 35 = .ok (.areturn, 1) := by decide +kernel
abbrev c_R_slice : ByteArray := prog_6_method_6_code
abbrev y_R_slice : MethodName := ⟨"FingerSpans$Rows", "slice", "([LFingerSpans$Item;II)[LFingerSpans$Item;"⟩
theorem k_R_slice : Cond.code y_R_slice c_R_slice 5 (some (FieldType.array (FieldType.object "FingerSpans$Item"))) ∈ lw_tbl := List.mem_of_getElem? (i := 234) (by decide +kernel)
theorem b_R_slice : x_ce y_R_slice c_R_slice 5 (some (FieldType.array (FieldType.object "FingerSpans$Item"))) 3 := ⟨k_R_slice, i_R, by decide +kernel⟩
theorem s_R_slice : Cond.static y_R_slice ∈ lw_tbl := List.mem_of_getElem? (i := 233) (by decide +kernel)
theorem d_R_slice_0 : decode c_R_slice 0 = .ok (.iload_n 2, 1) := by decide +kernel
theorem d_R_slice_1 : decode c_R_slice 1 = .ok (.iload_n 1, 1) := by decide +kernel
theorem d_R_slice_2 : decode c_R_slice 2 = .ok (.isub, 1) := by decide +kernel
theorem d_R_slice_3 : decode c_R_slice 3 = .ok (.anewarray 8, 3) := by decide +kernel
theorem d_R_slice_6 : decode c_R_slice 6 = .ok (.astore_n 3, 1) := by decide +kernel
theorem d_R_slice_7 : decode c_R_slice 7 = .ok (.iconst 0, 1) := by decide +kernel
theorem d_R_slice_8 : decode c_R_slice 8 = .ok (.istore 4, 2) := by decide +kernel
theorem d_R_slice_10 : decode c_R_slice 10 = .ok (.iload 4, 2) := by decide +kernel
theorem d_R_slice_12 : decode c_R_slice 12 = .ok (.aload_n 3, 1) := by decide +kernel
theorem d_R_slice_13 : decode c_R_slice 13 = .ok (.arraylength, 1) := by decide +kernel
theorem d_R_slice_14 : decode c_R_slice 14 = .ok (.if_icmp .ge 19, 3) := by decide +kernel
theorem d_R_slice_17 : decode c_R_slice 17 = .ok (.aload_n 3, 1) := by decide +kernel
theorem d_R_slice_18 : decode c_R_slice 18 = .ok (.iload 4, 2) := by decide +kernel
theorem d_R_slice_20 : decode c_R_slice 20 = .ok (.aload_n 0, 1) := by decide +kernel
theorem d_R_slice_21 : decode c_R_slice 21 = .ok (.iload_n 1, 1) := by decide +kernel
theorem d_R_slice_22 : decode c_R_slice 22 = .ok (.iload 4, 2) := by decide +kernel
theorem d_R_slice_24 : decode c_R_slice 24 = .ok (.iadd, 1) := by decide +kernel
theorem d_R_slice_25 : decode c_R_slice 25 = .ok (.aaload, 1) := by decide +kernel
theorem d_R_slice_26 : decode c_R_slice 26 = .ok (.aastore, 1) := by decide +kernel
theorem d_R_slice_27 : decode c_R_slice 27 = .ok (.iinc 4 1, 3) := by decide +kernel
theorem d_R_slice_30 : decode c_R_slice 30 = .ok (.goto (-20), 3) := by decide +kernel
theorem d_R_slice_33 : decode c_R_slice 33 = .ok (.aload_n 3, 1) := by decide +kernel
theorem d_R_slice_34 : decode c_R_slice 34 = .ok (.areturn, 1) := by decide +kernel
abbrev c_R_before : ByteArray := prog_6_method_7_code
abbrev y_R_before : MethodName := ⟨"FingerSpans$Rows", "before", "([LFingerSpans$Item;I)[LFingerSpans$Item;"⟩
theorem k_R_before : Cond.code y_R_before c_R_before 2 (some (FieldType.array (FieldType.object "FingerSpans$Item"))) ∈ lw_tbl := List.mem_of_getElem? (i := 258) (by decide +kernel)
theorem b_R_before : x_ce y_R_before c_R_before 2 (some (FieldType.array (FieldType.object "FingerSpans$Item"))) 2 := ⟨k_R_before, i_R, by decide +kernel⟩
theorem s_R_before : Cond.static y_R_before ∈ lw_tbl := List.mem_of_getElem? (i := 257) (by decide +kernel)
theorem d_R_before_0 : decode c_R_before 0 = .ok (.aload_n 0, 1) := by decide +kernel
theorem d_R_before_1 : decode c_R_before 1 = .ok (.iconst 0, 1) := by decide +kernel
theorem d_R_before_2 : decode c_R_before 2 = .ok (.iload_n 1, 1) := by decide +kernel
theorem d_R_before_3 : decode c_R_before 3 = .ok (.invokestatic 34, 3) := by decide +kernel
theorem d_R_before_6 : decode c_R_before 6 = .ok (.areturn, 1) := by decide +kernel
abbrev c_R_after : ByteArray := prog_6_method_8_code
abbrev y_R_after : MethodName := ⟨"FingerSpans$Rows", "after", "([LFingerSpans$Item;I)[LFingerSpans$Item;"⟩
theorem k_R_after : Cond.code y_R_after c_R_after 2 (some (FieldType.array (FieldType.object "FingerSpans$Item"))) ∈ lw_tbl := List.mem_of_getElem? (i := 231) (by decide +kernel)
theorem b_R_after : x_ce y_R_after c_R_after 2 (some (FieldType.array (FieldType.object "FingerSpans$Item"))) 2 := ⟨k_R_after, i_R, by decide +kernel⟩
theorem s_R_after : Cond.static y_R_after ∈ lw_tbl := List.mem_of_getElem? (i := 230) (by decide +kernel)
theorem d_R_after_0 : decode c_R_after 0 = .ok (.aload_n 0, 1) := by decide +kernel
theorem d_R_after_1 : decode c_R_after 1 = .ok (.iload_n 1, 1) := by decide +kernel
theorem d_R_after_2 : decode c_R_after 2 = .ok (.iconst 1, 1) := by decide +kernel
theorem d_R_after_3 : decode c_R_after 3 = .ok (.iadd, 1) := by decide +kernel
theorem d_R_after_4 : decode c_R_after 4 = .ok (.aload_n 0, 1) := by decide +kernel
theorem d_R_after_5 : decode c_R_after 5 = .ok (.arraylength, 1) := by decide +kernel
theorem d_R_after_6 : decode c_R_after 6 = .ok (.invokestatic 34, 3) := by decide +kernel
theorem d_R_after_9 : decode c_R_after 9 = .ok (.areturn, 1) := by decide +kernel
abbrev c_R_joined : ByteArray := prog_6_method_9_code
abbrev y_R_joined : MethodName := ⟨"FingerSpans$Rows", "joined", "([LFingerSpans$Item;[LFingerSpans$Item;)[LFingerSpans$Item;"⟩
theorem k_R_joined : Cond.code y_R_joined c_R_joined 4 (some (FieldType.array (FieldType.object "FingerSpans$Item"))) ∈ lw_tbl := List.mem_of_getElem? (i := 227) (by decide +kernel)
theorem b_R_joined : x_ce y_R_joined c_R_joined 4 (some (FieldType.array (FieldType.object "FingerSpans$Item"))) 2 := ⟨k_R_joined, i_R, by decide +kernel⟩
theorem s_R_joined : Cond.static y_R_joined ∈ lw_tbl := List.mem_of_getElem? (i := 226) (by decide +kernel)
theorem d_R_joined_0 : decode c_R_joined 0 = .ok (.aload_n 0, 1) := by decide +kernel
theorem d_R_joined_1 : decode c_R_joined 1 = .ok (.arraylength, 1) := by decide +kernel
theorem d_R_joined_2 : decode c_R_joined 2 = .ok (.aload_n 1, 1) := by decide +kernel
theorem d_R_joined_3 : decode c_R_joined 3 = .ok (.arraylength, 1) := by decide +kernel
theorem d_R_joined_4 : decode c_R_joined 4 = .ok (.iadd, 1) := by decide +kernel
theorem d_R_joined_5 : decode c_R_joined 5 = .ok (.anewarray 8, 3) := by decide +kernel
theorem d_R_joined_8 : decode c_R_joined 8 = .ok (.astore_n 2, 1) := by decide +kernel
theorem d_R_joined_9 : decode c_R_joined 9 = .ok (.iconst 0, 1) := by decide +kernel
theorem d_R_joined_10 : decode c_R_joined 10 = .ok (.istore_n 3, 1) := by decide +kernel
theorem d_R_joined_11 : decode c_R_joined 11 = .ok (.iload_n 3, 1) := by decide +kernel
theorem d_R_joined_12 : decode c_R_joined 12 = .ok (.aload_n 0, 1) := by decide +kernel
theorem d_R_joined_13 : decode c_R_joined 13 = .ok (.arraylength, 1) := by decide +kernel
theorem d_R_joined_14 : decode c_R_joined 14 = .ok (.if_icmp .ge 15, 3) := by decide +kernel
theorem d_R_joined_17 : decode c_R_joined 17 = .ok (.aload_n 2, 1) := by decide +kernel
theorem d_R_joined_18 : decode c_R_joined 18 = .ok (.iload_n 3, 1) := by decide +kernel
theorem d_R_joined_19 : decode c_R_joined 19 = .ok (.aload_n 0, 1) := by decide +kernel
theorem d_R_joined_20 : decode c_R_joined 20 = .ok (.iload_n 3, 1) := by decide +kernel
theorem d_R_joined_21 : decode c_R_joined 21 = .ok (.aaload, 1) := by decide +kernel
theorem d_R_joined_22 : decode c_R_joined 22 = .ok (.aastore, 1) := by decide +kernel
theorem d_R_joined_23 : decode c_R_joined 23 = .ok (.iinc 3 1, 3) := by decide +kernel
theorem d_R_joined_26 : decode c_R_joined 26 = .ok (.goto (-15), 3) := by decide +kernel
theorem d_R_joined_29 : decode c_R_joined 29 = .ok (.iconst 0, 1) := by decide +kernel
theorem d_R_joined_30 : decode c_R_joined 30 = .ok (.istore_n 3, 1) := by decide +kernel
theorem d_R_joined_31 : decode c_R_joined 31 = .ok (.iload_n 3, 1) := by decide +kernel
theorem d_R_joined_32 : decode c_R_joined 32 = .ok (.aload_n 1, 1) := by decide +kernel
theorem d_R_joined_33 : decode c_R_joined 33 = .ok (.arraylength, 1) := by decide +kernel
theorem d_R_joined_34 : decode c_R_joined 34 = .ok (.if_icmp .ge 18, 3) := by decide +kernel
theorem d_R_joined_37 : decode c_R_joined 37 = .ok (.aload_n 2, 1) := by decide +kernel
theorem d_R_joined_38 : decode c_R_joined 38 = .ok (.aload_n 0, 1) := by decide +kernel
theorem d_R_joined_39 : decode c_R_joined 39 = .ok (.arraylength, 1) := by decide +kernel
theorem d_R_joined_40 : decode c_R_joined 40 = .ok (.iload_n 3, 1) := by decide +kernel
theorem d_R_joined_41 : decode c_R_joined 41 = .ok (.iadd, 1) := by decide +kernel
theorem d_R_joined_42 : decode c_R_joined 42 = .ok (.aload_n 1, 1) := by decide +kernel
theorem d_R_joined_43 : decode c_R_joined 43 = .ok (.iload_n 3, 1) := by decide +kernel
theorem d_R_joined_44 : decode c_R_joined 44 = .ok (.aaload, 1) := by decide +kernel
theorem d_R_joined_45 : decode c_R_joined 45 = .ok (.aastore, 1) := by decide +kernel
theorem d_R_joined_46 : decode c_R_joined 46 = .ok (.iinc 3 1, 3) := by decide +kernel
theorem d_R_joined_49 : decode c_R_joined 49 = .ok (.goto (-18), 3) := by decide +kernel
theorem d_R_joined_52 : decode c_R_joined 52 = .ok (.aload_n 2, 1) := by decide +kernel
theorem d_R_joined_53 : decode c_R_joined 53 = .ok (.areturn, 1) := by decide +kernel
abbrev c_U_init : ByteArray := prog_7_method_1_code
abbrev y_U_init : MethodName := ⟨"FingerSpans$Rules", "<init>", "()V"⟩
theorem k_U_init : Cond.code y_U_init c_U_init 1 (none : Option FieldType) ∈ lw_tbl := List.mem_of_getElem? (i := 81) (by decide +kernel)
theorem b_U_init : x_ce y_U_init c_U_init 1 (none : Option FieldType) 0 := ⟨k_U_init, i_U, by decide +kernel⟩
theorem s_U_init : Cond.instanceMethod y_U_init ∈ lw_tbl := List.mem_of_getElem? (i := 80) (by decide +kernel)
theorem d_U_init_0 : decode c_U_init 0 = .ok (.aload_n 0, 1) := by decide +kernel
theorem d_U_init_1 : decode c_U_init 1 = .ok (.invokespecial 3, 3) := by decide +kernel
theorem d_U_init_4 : decode c_U_init 4 = .ok (.aload_n 0, 1) := by decide +kernel
theorem d_U_init_5 : decode c_U_init 5 = .ok (.iconst 0, 1) := by decide +kernel
theorem d_U_init_6 : decode c_U_init 6 = .ok (.anewarray 9, 3) := by decide +kernel
theorem d_U_init_9 : decode c_U_init 9 = .ok (.putfield 11, 3) := by decide +kernel
theorem d_U_init_12 : decode c_U_init 12 = .ok (.aload_n 0, 1) := by decide +kernel
theorem d_U_init_13 : decode c_U_init 13 = .ok (.new 17, 3) := by decide +kernel
theorem d_U_init_16 : decode c_U_init 16 = .ok (.dup, 1) := by decide +kernel
theorem d_U_init_17 : decode c_U_init 17 = .ok (.aload_n 0, 1) := by decide +kernel
theorem d_U_init_18 : decode c_U_init 18 = .ok (.getfield 11, 3) := by decide +kernel
theorem d_U_init_21 : decode c_U_init 21 = .ok (.aconst_null, 1) := by decide +kernel
theorem d_U_init_22 : decode c_U_init 22 = .ok (.aload_n 0, 1) := by decide +kernel
theorem d_U_init_23 : decode c_U_init 23 = .ok (.getfield 11, 3) := by decide +kernel
theorem d_U_init_26 : decode c_U_init 26 = .ok (.invokespecial 19, 3) := by decide +kernel
theorem d_U_init_29 : decode c_U_init 29 = .ok (.putfield 22, 3) := by decide +kernel
theorem d_U_init_32 : decode c_U_init 32 = .ok (.aload_n 0, 1) := by decide +kernel
theorem d_U_init_33 : decode c_U_init 33 = .ok (.iconst 0, 1) := by decide +kernel
theorem d_U_init_34 : decode c_U_init 34 = .ok (.putfield 26, 3) := by decide +kernel
theorem d_U_init_37 : decode c_U_init 37 = .ok (.return_, 1) := by decide +kernel
abbrev c_U_node : ByteArray := prog_7_method_2_code
abbrev y_U_node : MethodName := ⟨"FingerSpans$Rules", "node", "([LFingerSpans$Item;)LFingerSpans$Item;"⟩
theorem k_U_node : Cond.code y_U_node c_U_node 2 (some (FieldType.object "FingerSpans$Item")) ∈ lw_tbl := List.mem_of_getElem? (i := 238) (by decide +kernel)
theorem b_U_node : x_ce y_U_node c_U_node 2 (some (FieldType.object "FingerSpans$Item")) 1 := ⟨k_U_node, i_U, by decide +kernel⟩
theorem s_U_node : Cond.instanceMethod y_U_node ∈ lw_tbl := List.mem_of_getElem? (i := 237) (by decide +kernel)
theorem v_U_node : Cond.selects "FingerSpans$Rules" y_U_node y_U_node ∈ lw_tbl := List.mem_of_getElem? (i := 6) (by decide +kernel)
theorem d_U_node_0 : decode c_U_node 0 = .ok (.aload_n 0, 1) := by decide +kernel
theorem d_U_node_1 : decode c_U_node 1 = .ok (.dup, 1) := by decide +kernel
theorem d_U_node_2 : decode c_U_node 2 = .ok (.getfield 26, 3) := by decide +kernel
theorem d_U_node_5 : decode c_U_node 5 = .ok (.iconst 1, 1) := by decide +kernel
theorem d_U_node_6 : decode c_U_node 6 = .ok (.iadd, 1) := by decide +kernel
theorem d_U_node_7 : decode c_U_node 7 = .ok (.putfield 26, 3) := by decide +kernel
theorem d_U_node_10 : decode c_U_node 10 = .ok (.new 9, 3) := by decide +kernel
theorem d_U_node_13 : decode c_U_node 13 = .ok (.dup, 1) := by decide +kernel
theorem d_U_node_14 : decode c_U_node 14 = .ok (.aload_n 0, 1) := by decide +kernel
theorem d_U_node_15 : decode c_U_node 15 = .ok (.getfield 26, 3) := by decide +kernel
theorem d_U_node_18 : decode c_U_node 18 = .ok (.aload_n 1, 1) := by decide +kernel
theorem d_U_node_19 : decode c_U_node 19 = .ok (.invokespecial 30, 3) := by decide +kernel
theorem d_U_node_22 : decode c_U_node 22 = .ok (.areturn, 1) := by decide +kernel
abbrev c_U_rowOf : ByteArray := prog_7_method_3_code
abbrev y_U_rowOf : MethodName := ⟨"FingerSpans$Rules", "rowOf", "(LFingerSpans$Item;)[LFingerSpans$Item;"⟩
theorem k_U_rowOf : Cond.code y_U_rowOf c_U_rowOf 1 (some (FieldType.array (FieldType.object "FingerSpans$Item"))) ∈ lw_tbl := List.mem_of_getElem? (i := 220) (by decide +kernel)
theorem b_U_rowOf : x_ce y_U_rowOf c_U_rowOf 1 (some (FieldType.array (FieldType.object "FingerSpans$Item"))) 1 := ⟨k_U_rowOf, i_U, by decide +kernel⟩
theorem s_U_rowOf : Cond.static y_U_rowOf ∈ lw_tbl := List.mem_of_getElem? (i := 219) (by decide +kernel)
theorem d_U_rowOf_0 : decode c_U_rowOf 0 = .ok (.iconst 1, 1) := by decide +kernel
theorem d_U_rowOf_1 : decode c_U_rowOf 1 = .ok (.anewarray 9, 3) := by decide +kernel
theorem d_U_rowOf_4 : decode c_U_rowOf 4 = .ok (.dup, 1) := by decide +kernel
theorem d_U_rowOf_5 : decode c_U_rowOf 5 = .ok (.iconst 0, 1) := by decide +kernel
theorem d_U_rowOf_6 : decode c_U_rowOf 6 = .ok (.aload_n 0, 1) := by decide +kernel
theorem d_U_rowOf_7 : decode c_U_rowOf 7 = .ok (.aastore, 1) := by decide +kernel
theorem d_U_rowOf_8 : decode c_U_rowOf 8 = .ok (.areturn, 1) := by decide +kernel
abbrev c_U_single : ByteArray := prog_7_method_4_code
abbrev y_U_single : MethodName := ⟨"FingerSpans$Rules", "single", "(LFingerSpans$Item;)LFingerSpans$Tree;"⟩
theorem k_U_single : Cond.code y_U_single c_U_single 2 (some (FieldType.object "FingerSpans$Tree")) ∈ lw_tbl := List.mem_of_getElem? (i := 217) (by decide +kernel)
theorem b_U_single : x_ce y_U_single c_U_single 2 (some (FieldType.object "FingerSpans$Tree")) 1 := ⟨k_U_single, i_U, by decide +kernel⟩
theorem s_U_single : Cond.instanceMethod y_U_single ∈ lw_tbl := List.mem_of_getElem? (i := 216) (by decide +kernel)
theorem v_U_single : Cond.selects "FingerSpans$Rules" y_U_single y_U_single ∈ lw_tbl := List.mem_of_getElem? (i := 4) (by decide +kernel)
theorem d_U_single_0 : decode c_U_single 0 = .ok (.new 17, 3) := by decide +kernel
theorem d_U_single_3 : decode c_U_single 3 = .ok (.dup, 1) := by decide +kernel
theorem d_U_single_4 : decode c_U_single 4 = .ok (.aload_n 1, 1) := by decide +kernel
theorem d_U_single_5 : decode c_U_single 5 = .ok (.invokestatic 33, 3) := by decide +kernel
theorem d_U_single_8 : decode c_U_single 8 = .ok (.aconst_null, 1) := by decide +kernel
theorem d_U_single_9 : decode c_U_single 9 = .ok (.aload_n 0, 1) := by decide +kernel
theorem d_U_single_10 : decode c_U_single 10 = .ok (.getfield 11, 3) := by decide +kernel
theorem d_U_single_13 : decode c_U_single 13 = .ok (.invokespecial 19, 3) := by decide +kernel
theorem d_U_single_16 : decode c_U_single 16 = .ok (.areturn, 1) := by decide +kernel
abbrev c_U_front : ByteArray := prog_7_method_5_code
abbrev y_U_front : MethodName := ⟨"FingerSpans$Rules", "front", "(LFingerSpans$Item;LFingerSpans$Tree;)LFingerSpans$Tree;"⟩
theorem k_U_front : Cond.code y_U_front c_U_front 4 (some (FieldType.object "FingerSpans$Tree")) ∈ lw_tbl := List.mem_of_getElem? (i := 209) (by decide +kernel)
theorem b_U_front : x_ce y_U_front c_U_front 4 (some (FieldType.object "FingerSpans$Tree")) 2 := ⟨k_U_front, i_U, by decide +kernel⟩
theorem s_U_front : Cond.instanceMethod y_U_front ∈ lw_tbl := List.mem_of_getElem? (i := 208) (by decide +kernel)
theorem v_U_front : Cond.selects "FingerSpans$Rules" y_U_front y_U_front ∈ lw_tbl := List.mem_of_getElem? (i := 2) (by decide +kernel)
theorem d_U_front_0 : decode c_U_front 0 = .ok (.aload_n 2, 1) := by decide +kernel
theorem d_U_front_1 : decode c_U_front 1 = .ok (.invokevirtual 37, 3) := by decide +kernel
theorem d_U_front_4 : decode c_U_front 4 = .ok (.ifCond .eq 9, 3) := by decide +kernel
theorem d_U_front_7 : decode c_U_front 7 = .ok (.aload_n 0, 1) := by decide +kernel
theorem d_U_front_8 : decode c_U_front 8 = .ok (.aload_n 1, 1) := by decide +kernel
theorem d_U_front_9 : decode c_U_front 9 = .ok (.invokevirtual 41, 3) := by decide +kernel
theorem d_U_front_12 : decode c_U_front 12 = .ok (.areturn, 1) := by decide +kernel
theorem d_U_front_13 : decode c_U_front 13 = .ok (.aload_n 2, 1) := by decide +kernel
theorem d_U_front_14 : decode c_U_front 14 = .ok (.invokevirtual 45, 3) := by decide +kernel
theorem d_U_front_17 : decode c_U_front 17 = .ok (.ifCond .ne 23, 3) := by decide +kernel
theorem d_U_front_20 : decode c_U_front 20 = .ok (.new 17, 3) := by decide +kernel
theorem d_U_front_23 : decode c_U_front 23 = .ok (.dup, 1) := by decide +kernel
theorem d_U_front_24 : decode c_U_front 24 = .ok (.aload_n 1, 1) := by decide +kernel
theorem d_U_front_25 : decode c_U_front 25 = .ok (.invokestatic 33, 3) := by decide +kernel
theorem d_U_front_28 : decode c_U_front 28 = .ok (.aload_n 0, 1) := by decide +kernel
theorem d_U_front_29 : decode c_U_front 29 = .ok (.getfield 22, 3) := by decide +kernel
theorem d_U_front_32 : decode c_U_front 32 = .ok (.aload_n 2, 1) := by decide +kernel
theorem d_U_front_33 : decode c_U_front 33 = .ok (.getfield 48, 3) := by decide +kernel
theorem d_U_front_36 : decode c_U_front 36 = .ok (.invokespecial 19, 3) := by decide +kernel
theorem d_U_front_39 : decode c_U_front 39 = .ok (.areturn, 1) := by decide +kernel
theorem d_U_front_40 : decode c_U_front 40 = .ok (.aload_n 2, 1) := by decide +kernel
theorem d_U_front_41 : decode c_U_front 41 = .ok (.getfield 48, 3) := by decide +kernel
theorem d_U_front_44 : decode c_U_front 44 = .ok (.arraylength, 1) := by decide +kernel
theorem d_U_front_45 : decode c_U_front 45 = .ok (.iconst 4, 1) := by decide +kernel
theorem d_U_front_46 : decode c_U_front 46 = .ok (.if_icmp .ge 30, 3) := by decide +kernel
theorem d_U_front_49 : decode c_U_front 49 = .ok (.new 17, 3) := by decide +kernel
theorem d_U_front_52 : decode c_U_front 52 = .ok (.dup, 1) := by decide +kernel
theorem d_U_front_53 : decode c_U_front 53 = .ok (.aload_n 1, 1) := by decide +kernel
theorem d_U_front_54 : decode c_U_front 54 = .ok (.invokestatic 33, 3) := by decide +kernel
theorem d_U_front_57 : decode c_U_front 57 = .ok (.aload_n 2, 1) := by decide +kernel
theorem d_U_front_58 : decode c_U_front 58 = .ok (.getfield 48, 3) := by decide +kernel
theorem d_U_front_61 : decode c_U_front 61 = .ok (.invokestatic 51, 3) := by decide +kernel
theorem d_U_front_64 : decode c_U_front 64 = .ok (.aload_n 2, 1) := by decide +kernel
theorem d_U_front_65 : decode c_U_front 65 = .ok (.getfield 57, 3) := by decide +kernel
theorem d_U_front_68 : decode c_U_front 68 = .ok (.aload_n 2, 1) := by decide +kernel
theorem d_U_front_69 : decode c_U_front 69 = .ok (.getfield 60, 3) := by decide +kernel
theorem d_U_front_72 : decode c_U_front 72 = .ok (.invokespecial 19, 3) := by decide +kernel
theorem d_U_front_75 : decode c_U_front 75 = .ok (.areturn, 1) := by decide +kernel
theorem d_U_front_76 : decode c_U_front 76 = .ok (.aload_n 0, 1) := by decide +kernel
theorem d_U_front_77 : decode c_U_front 77 = .ok (.aload_n 0, 1) := by decide +kernel
theorem d_U_front_78 : decode c_U_front 78 = .ok (.aload_n 2, 1) := by decide +kernel
theorem d_U_front_79 : decode c_U_front 79 = .ok (.getfield 48, 3) := by decide +kernel
theorem d_U_front_82 : decode c_U_front 82 = .ok (.iconst 0, 1) := by decide +kernel
theorem d_U_front_83 : decode c_U_front 83 = .ok (.invokestatic 63, 3) := by decide +kernel
theorem d_U_front_86 : decode c_U_front 86 = .ok (.invokevirtual 67, 3) := by decide +kernel
theorem d_U_front_89 : decode c_U_front 89 = .ok (.aload_n 2, 1) := by decide +kernel
theorem d_U_front_90 : decode c_U_front 90 = .ok (.getfield 57, 3) := by decide +kernel
theorem d_U_front_93 : decode c_U_front 93 = .ok (.invokevirtual 71, 3) := by decide +kernel
theorem d_U_front_96 : decode c_U_front 96 = .ok (.astore_n 3, 1) := by decide +kernel
theorem d_U_front_97 : decode c_U_front 97 = .ok (.new 17, 3) := by decide +kernel
theorem d_U_front_100 : decode c_U_front 100 = .ok (.dup, 1) := by decide +kernel
theorem d_U_front_101 : decode c_U_front 101 = .ok (.iconst 2, 1) := by decide +kernel
theorem d_U_front_102 : decode c_U_front 102 = .ok (.anewarray 9, 3) := by decide +kernel
theorem d_U_front_105 : decode c_U_front 105 = .ok (.dup, 1) := by decide +kernel
theorem d_U_front_106 : decode c_U_front 106 = .ok (.iconst 0, 1) := by decide +kernel
theorem d_U_front_107 : decode c_U_front 107 = .ok (.aload_n 1, 1) := by decide +kernel
theorem d_U_front_108 : decode c_U_front 108 = .ok (.aastore, 1) := by decide +kernel
theorem d_U_front_109 : decode c_U_front 109 = .ok (.dup, 1) := by decide +kernel
theorem d_U_front_110 : decode c_U_front 110 = .ok (.iconst 1, 1) := by decide +kernel
theorem d_U_front_111 : decode c_U_front 111 = .ok (.aload_n 2, 1) := by decide +kernel
theorem d_U_front_112 : decode c_U_front 112 = .ok (.getfield 48, 3) := by decide +kernel
theorem d_U_front_115 : decode c_U_front 115 = .ok (.iconst 0, 1) := by decide +kernel
theorem d_U_front_116 : decode c_U_front 116 = .ok (.aaload, 1) := by decide +kernel
theorem d_U_front_117 : decode c_U_front 117 = .ok (.aastore, 1) := by decide +kernel
theorem d_U_front_118 : decode c_U_front 118 = .ok (.aload_n 3, 1) := by decide +kernel
theorem d_U_front_119 : decode c_U_front 119 = .ok (.aload_n 2, 1) := by decide +kernel
theorem d_U_front_120 : decode c_U_front 120 = .ok (.getfield 60, 3) := by decide +kernel
theorem d_U_front_123 : decode c_U_front 123 = .ok (.invokespecial 19, 3) := by decide +kernel
theorem d_U_front_126 : decode c_U_front 126 = .ok (.areturn, 1) := by decide +kernel
abbrev c_U_back : ByteArray := prog_7_method_6_code
abbrev y_U_back : MethodName := ⟨"FingerSpans$Rules", "back", "(LFingerSpans$Tree;LFingerSpans$Item;)LFingerSpans$Tree;"⟩
theorem k_U_back : Cond.code y_U_back c_U_back 4 (some (FieldType.object "FingerSpans$Tree")) ∈ lw_tbl := List.mem_of_getElem? (i := 255) (by decide +kernel)
theorem b_U_back : x_ce y_U_back c_U_back 4 (some (FieldType.object "FingerSpans$Tree")) 2 := ⟨k_U_back, i_U, by decide +kernel⟩
theorem s_U_back : Cond.instanceMethod y_U_back ∈ lw_tbl := List.mem_of_getElem? (i := 254) (by decide +kernel)
theorem v_U_back : Cond.selects "FingerSpans$Rules" y_U_back y_U_back ∈ lw_tbl := List.mem_of_getElem? (i := 8) (by decide +kernel)
theorem d_U_back_0 : decode c_U_back 0 = .ok (.aload_n 1, 1) := by decide +kernel
theorem d_U_back_1 : decode c_U_back 1 = .ok (.invokevirtual 37, 3) := by decide +kernel
theorem d_U_back_4 : decode c_U_back 4 = .ok (.ifCond .eq 9, 3) := by decide +kernel
theorem d_U_back_7 : decode c_U_back 7 = .ok (.aload_n 0, 1) := by decide +kernel
theorem d_U_back_8 : decode c_U_back 8 = .ok (.aload_n 2, 1) := by decide +kernel
theorem d_U_back_9 : decode c_U_back 9 = .ok (.invokevirtual 41, 3) := by decide +kernel
theorem d_U_back_12 : decode c_U_back 12 = .ok (.areturn, 1) := by decide +kernel
theorem d_U_back_13 : decode c_U_back 13 = .ok (.aload_n 1, 1) := by decide +kernel
theorem d_U_back_14 : decode c_U_back 14 = .ok (.invokevirtual 45, 3) := by decide +kernel
theorem d_U_back_17 : decode c_U_back 17 = .ok (.ifCond .ne 23, 3) := by decide +kernel
theorem d_U_back_20 : decode c_U_back 20 = .ok (.new 17, 3) := by decide +kernel
theorem d_U_back_23 : decode c_U_back 23 = .ok (.dup, 1) := by decide +kernel
theorem d_U_back_24 : decode c_U_back 24 = .ok (.aload_n 1, 1) := by decide +kernel
theorem d_U_back_25 : decode c_U_back 25 = .ok (.getfield 48, 3) := by decide +kernel
theorem d_U_back_28 : decode c_U_back 28 = .ok (.aload_n 0, 1) := by decide +kernel
theorem d_U_back_29 : decode c_U_back 29 = .ok (.getfield 22, 3) := by decide +kernel
theorem d_U_back_32 : decode c_U_back 32 = .ok (.aload_n 2, 1) := by decide +kernel
theorem d_U_back_33 : decode c_U_back 33 = .ok (.invokestatic 33, 3) := by decide +kernel
theorem d_U_back_36 : decode c_U_back 36 = .ok (.invokespecial 19, 3) := by decide +kernel
theorem d_U_back_39 : decode c_U_back 39 = .ok (.areturn, 1) := by decide +kernel
theorem d_U_back_40 : decode c_U_back 40 = .ok (.aload_n 1, 1) := by decide +kernel
theorem d_U_back_41 : decode c_U_back 41 = .ok (.getfield 60, 3) := by decide +kernel
theorem d_U_back_44 : decode c_U_back 44 = .ok (.arraylength, 1) := by decide +kernel
theorem d_U_back_45 : decode c_U_back 45 = .ok (.iconst 4, 1) := by decide +kernel
theorem d_U_back_46 : decode c_U_back 46 = .ok (.if_icmp .ge 30, 3) := by decide +kernel
theorem d_U_back_49 : decode c_U_back 49 = .ok (.new 17, 3) := by decide +kernel
theorem d_U_back_52 : decode c_U_back 52 = .ok (.dup, 1) := by decide +kernel
theorem d_U_back_53 : decode c_U_back 53 = .ok (.aload_n 1, 1) := by decide +kernel
theorem d_U_back_54 : decode c_U_back 54 = .ok (.getfield 48, 3) := by decide +kernel
theorem d_U_back_57 : decode c_U_back 57 = .ok (.aload_n 1, 1) := by decide +kernel
theorem d_U_back_58 : decode c_U_back 58 = .ok (.getfield 57, 3) := by decide +kernel
theorem d_U_back_61 : decode c_U_back 61 = .ok (.aload_n 1, 1) := by decide +kernel
theorem d_U_back_62 : decode c_U_back 62 = .ok (.getfield 60, 3) := by decide +kernel
theorem d_U_back_65 : decode c_U_back 65 = .ok (.aload_n 2, 1) := by decide +kernel
theorem d_U_back_66 : decode c_U_back 66 = .ok (.invokestatic 33, 3) := by decide +kernel
theorem d_U_back_69 : decode c_U_back 69 = .ok (.invokestatic 51, 3) := by decide +kernel
theorem d_U_back_72 : decode c_U_back 72 = .ok (.invokespecial 19, 3) := by decide +kernel
theorem d_U_back_75 : decode c_U_back 75 = .ok (.areturn, 1) := by decide +kernel
theorem d_U_back_76 : decode c_U_back 76 = .ok (.aload_n 0, 1) := by decide +kernel
theorem d_U_back_77 : decode c_U_back 77 = .ok (.aload_n 1, 1) := by decide +kernel
theorem d_U_back_78 : decode c_U_back 78 = .ok (.getfield 57, 3) := by decide +kernel
theorem d_U_back_81 : decode c_U_back 81 = .ok (.aload_n 0, 1) := by decide +kernel
theorem d_U_back_82 : decode c_U_back 82 = .ok (.aload_n 1, 1) := by decide +kernel
theorem d_U_back_83 : decode c_U_back 83 = .ok (.getfield 60, 3) := by decide +kernel
theorem d_U_back_86 : decode c_U_back 86 = .ok (.iconst 3, 1) := by decide +kernel
theorem d_U_back_87 : decode c_U_back 87 = .ok (.invokestatic 75, 3) := by decide +kernel
theorem d_U_back_90 : decode c_U_back 90 = .ok (.invokevirtual 67, 3) := by decide +kernel
theorem d_U_back_93 : decode c_U_back 93 = .ok (.invokevirtual 78, 3) := by decide +kernel
theorem d_U_back_96 : decode c_U_back 96 = .ok (.astore_n 3, 1) := by decide +kernel
theorem d_U_back_97 : decode c_U_back 97 = .ok (.new 17, 3) := by decide +kernel
theorem d_U_back_100 : decode c_U_back 100 = .ok (.dup, 1) := by decide +kernel
theorem d_U_back_101 : decode c_U_back 101 = .ok (.aload_n 1, 1) := by decide +kernel
theorem d_U_back_102 : decode c_U_back 102 = .ok (.getfield 48, 3) := by decide +kernel
theorem d_U_back_105 : decode c_U_back 105 = .ok (.aload_n 3, 1) := by decide +kernel
theorem d_U_back_106 : decode c_U_back 106 = .ok (.iconst 2, 1) := by decide +kernel
theorem d_U_back_107 : decode c_U_back 107 = .ok (.anewarray 9, 3) := by decide +kernel
theorem d_U_back_110 : decode c_U_back 110 = .ok (.dup, 1) := by decide +kernel
theorem d_U_back_111 : decode c_U_back 111 = .ok (.iconst 0, 1) := by decide +kernel
theorem d_U_back_112 : decode c_U_back 112 = .ok (.aload_n 1, 1) := by decide +kernel
theorem d_U_back_113 : decode c_U_back 113 = .ok (.invokevirtual 82, 3) := by decide +kernel
theorem d_U_back_116 : decode c_U_back 116 = .ok (.aastore, 1) := by decide +kernel
theorem d_U_back_117 : decode c_U_back 117 = .ok (.dup, 1) := by decide +kernel
theorem d_U_back_118 : decode c_U_back 118 = .ok (.iconst 1, 1) := by decide +kernel
theorem d_U_back_119 : decode c_U_back 119 = .ok (.aload_n 2, 1) := by decide +kernel
theorem d_U_back_120 : decode c_U_back 120 = .ok (.aastore, 1) := by decide +kernel
theorem d_U_back_121 : decode c_U_back 121 = .ok (.invokespecial 19, 3) := by decide +kernel
theorem d_U_back_124 : decode c_U_back 124 = .ok (.areturn, 1) := by decide +kernel
abbrev c_U_line : ByteArray := prog_7_method_7_code
abbrev y_U_line : MethodName := ⟨"FingerSpans$Rules", "line", "([LFingerSpans$Item;)LFingerSpans$Tree;"⟩
theorem k_U_line : Cond.code y_U_line c_U_line 3 (some (FieldType.object "FingerSpans$Tree")) ∈ lw_tbl := List.mem_of_getElem? (i := 281) (by decide +kernel)
theorem b_U_line : x_ce y_U_line c_U_line 3 (some (FieldType.object "FingerSpans$Tree")) 1 := ⟨k_U_line, i_U, by decide +kernel⟩
theorem s_U_line : Cond.instanceMethod y_U_line ∈ lw_tbl := List.mem_of_getElem? (i := 280) (by decide +kernel)
theorem v_U_line : Cond.selects "FingerSpans$Rules" y_U_line y_U_line ∈ lw_tbl := List.mem_of_getElem? (i := 12) (by decide +kernel)
theorem d_U_line_0 : decode c_U_line 0 = .ok (.aload_n 1, 1) := by decide +kernel
theorem d_U_line_1 : decode c_U_line 1 = .ok (.arraylength, 1) := by decide +kernel
theorem d_U_line_2 : decode c_U_line 2 = .ok (.ifCond .ne 8, 3) := by decide +kernel
theorem d_U_line_5 : decode c_U_line 5 = .ok (.aload_n 0, 1) := by decide +kernel
theorem d_U_line_6 : decode c_U_line 6 = .ok (.getfield 22, 3) := by decide +kernel
theorem d_U_line_9 : decode c_U_line 9 = .ok (.areturn, 1) := by decide +kernel
theorem d_U_line_10 : decode c_U_line 10 = .ok (.aload_n 1, 1) := by decide +kernel
theorem d_U_line_11 : decode c_U_line 11 = .ok (.arraylength, 1) := by decide +kernel
theorem d_U_line_12 : decode c_U_line 12 = .ok (.iconst 1, 1) := by decide +kernel
theorem d_U_line_13 : decode c_U_line 13 = .ok (.if_icmp .ne 17, 3) := by decide +kernel
theorem d_U_line_16 : decode c_U_line 16 = .ok (.new 17, 3) := by decide +kernel
theorem d_U_line_19 : decode c_U_line 19 = .ok (.dup, 1) := by decide +kernel
theorem d_U_line_20 : decode c_U_line 20 = .ok (.aload_n 1, 1) := by decide +kernel
theorem d_U_line_21 : decode c_U_line 21 = .ok (.aconst_null, 1) := by decide +kernel
theorem d_U_line_22 : decode c_U_line 22 = .ok (.aload_n 0, 1) := by decide +kernel
theorem d_U_line_23 : decode c_U_line 23 = .ok (.getfield 11, 3) := by decide +kernel
theorem d_U_line_26 : decode c_U_line 26 = .ok (.invokespecial 19, 3) := by decide +kernel
theorem d_U_line_29 : decode c_U_line 29 = .ok (.areturn, 1) := by decide +kernel
theorem d_U_line_30 : decode c_U_line 30 = .ok (.aload_n 1, 1) := by decide +kernel
theorem d_U_line_31 : decode c_U_line 31 = .ok (.arraylength, 1) := by decide +kernel
theorem d_U_line_32 : decode c_U_line 32 = .ok (.iconst 1, 1) := by decide +kernel
theorem d_U_line_33 : decode c_U_line 33 = .ok (.iadd, 1) := by decide +kernel
theorem d_U_line_34 : decode c_U_line 34 = .ok (.iconst 2, 1) := by decide +kernel
theorem d_U_line_35 : decode c_U_line 35 = .ok (.idiv, 1) := by decide +kernel
theorem d_U_line_36 : decode c_U_line 36 = .ok (.istore_n 2, 1) := by decide +kernel
theorem d_U_line_37 : decode c_U_line 37 = .ok (.new 17, 3) := by decide +kernel
theorem d_U_line_40 : decode c_U_line 40 = .ok (.dup, 1) := by decide +kernel
theorem d_U_line_41 : decode c_U_line 41 = .ok (.aload_n 1, 1) := by decide +kernel
theorem d_U_line_42 : decode c_U_line 42 = .ok (.iload_n 2, 1) := by decide +kernel
theorem d_U_line_43 : decode c_U_line 43 = .ok (.invokestatic 75, 3) := by decide +kernel
theorem d_U_line_46 : decode c_U_line 46 = .ok (.aload_n 0, 1) := by decide +kernel
theorem d_U_line_47 : decode c_U_line 47 = .ok (.getfield 22, 3) := by decide +kernel
theorem d_U_line_50 : decode c_U_line 50 = .ok (.aload_n 1, 1) := by decide +kernel
theorem d_U_line_51 : decode c_U_line 51 = .ok (.iload_n 2, 1) := by decide +kernel
theorem d_U_line_52 : decode c_U_line 52 = .ok (.aload_n 1, 1) := by decide +kernel
theorem d_U_line_53 : decode c_U_line 53 = .ok (.arraylength, 1) := by decide +kernel
theorem d_U_line_54 : decode c_U_line 54 = .ok (.invokestatic 86, 3) := by decide +kernel
theorem d_U_line_57 : decode c_U_line 57 = .ok (.invokespecial 19, 3) := by decide +kernel
theorem d_U_line_60 : decode c_U_line 60 = .ok (.areturn, 1) := by decide +kernel
abbrev c_U_open : ByteArray := prog_7_method_8_code
abbrev y_U_open : MethodName := ⟨"FingerSpans$Rules", "open", "([LFingerSpans$Item;LFingerSpans$Tree;[LFingerSpans$Item;)LFingerSpans$Tree;"⟩
theorem k_U_open : Cond.code y_U_open c_U_open 4 (some (FieldType.object "FingerSpans$Tree")) ∈ lw_tbl := List.mem_of_getElem? (i := 277) (by decide +kernel)
theorem b_U_open : x_ce y_U_open c_U_open 4 (some (FieldType.object "FingerSpans$Tree")) 3 := ⟨k_U_open, i_U, by decide +kernel⟩
theorem s_U_open : Cond.instanceMethod y_U_open ∈ lw_tbl := List.mem_of_getElem? (i := 276) (by decide +kernel)
theorem v_U_open : Cond.selects "FingerSpans$Rules" y_U_open y_U_open ∈ lw_tbl := List.mem_of_getElem? (i := 11) (by decide +kernel)
theorem d_U_open_0 : decode c_U_open 0 = .ok (.aload_n 1, 1) := by decide +kernel
theorem d_U_open_1 : decode c_U_open 1 = .ok (.arraylength, 1) := by decide +kernel
theorem d_U_open_2 : decode c_U_open 2 = .ok (.ifCond .le 19, 3) := by decide +kernel
theorem d_U_open_5 : decode c_U_open 5 = .ok (.aload_n 3, 1) := by decide +kernel
theorem d_U_open_6 : decode c_U_open 6 = .ok (.arraylength, 1) := by decide +kernel
theorem d_U_open_7 : decode c_U_open 7 = .ok (.ifCond .le 14, 3) := by decide +kernel
theorem d_U_open_10 : decode c_U_open 10 = .ok (.new 17, 3) := by decide +kernel
theorem d_U_open_13 : decode c_U_open 13 = .ok (.dup, 1) := by decide +kernel
theorem d_U_open_14 : decode c_U_open 14 = .ok (.aload_n 1, 1) := by decide +kernel
theorem d_U_open_15 : decode c_U_open 15 = .ok (.aload_n 2, 1) := by decide +kernel
theorem d_U_open_16 : decode c_U_open 16 = .ok (.aload_n 3, 1) := by decide +kernel
theorem d_U_open_17 : decode c_U_open 17 = .ok (.invokespecial 19, 3) := by decide +kernel
theorem d_U_open_20 : decode c_U_open 20 = .ok (.areturn, 1) := by decide +kernel
theorem d_U_open_21 : decode c_U_open 21 = .ok (.aload_n 2, 1) := by decide +kernel
theorem d_U_open_22 : decode c_U_open 22 = .ok (.invokevirtual 37, 3) := by decide +kernel
theorem d_U_open_25 : decode c_U_open 25 = .ok (.ifCond .eq 18, 3) := by decide +kernel
theorem d_U_open_28 : decode c_U_open 28 = .ok (.aload_n 0, 1) := by decide +kernel
theorem d_U_open_29 : decode c_U_open 29 = .ok (.aload_n 1, 1) := by decide +kernel
theorem d_U_open_30 : decode c_U_open 30 = .ok (.arraylength, 1) := by decide +kernel
theorem d_U_open_31 : decode c_U_open 31 = .ok (.ifCond .ne 7, 3) := by decide +kernel
theorem d_U_open_34 : decode c_U_open 34 = .ok (.aload_n 3, 1) := by decide +kernel
theorem d_U_open_35 : decode c_U_open 35 = .ok (.goto 4, 3) := by decide +kernel
theorem d_U_open_38 : decode c_U_open 38 = .ok (.aload_n 1, 1) := by decide +kernel
theorem d_U_open_39 : decode c_U_open 39 = .ok (.invokevirtual 90, 3) := by decide +kernel
theorem d_U_open_42 : decode c_U_open 42 = .ok (.areturn, 1) := by decide +kernel
theorem d_U_open_43 : decode c_U_open 43 = .ok (.aload_n 1, 1) := by decide +kernel
theorem d_U_open_44 : decode c_U_open 44 = .ok (.arraylength, 1) := by decide +kernel
theorem d_U_open_45 : decode c_U_open 45 = .ok (.ifCond .ne 24, 3) := by decide +kernel
theorem d_U_open_48 : decode c_U_open 48 = .ok (.new 17, 3) := by decide +kernel
theorem d_U_open_51 : decode c_U_open 51 = .ok (.dup, 1) := by decide +kernel
theorem d_U_open_52 : decode c_U_open 52 = .ok (.aload_n 2, 1) := by decide +kernel
theorem d_U_open_53 : decode c_U_open 53 = .ok (.invokevirtual 94, 3) := by decide +kernel
theorem d_U_open_56 : decode c_U_open 56 = .ok (.getfield 97, 3) := by decide +kernel
theorem d_U_open_59 : decode c_U_open 59 = .ok (.aload_n 0, 1) := by decide +kernel
theorem d_U_open_60 : decode c_U_open 60 = .ok (.aload_n 2, 1) := by decide +kernel
theorem d_U_open_61 : decode c_U_open 61 = .ok (.invokevirtual 100, 3) := by decide +kernel
theorem d_U_open_64 : decode c_U_open 64 = .ok (.aload_n 3, 1) := by decide +kernel
theorem d_U_open_65 : decode c_U_open 65 = .ok (.invokespecial 19, 3) := by decide +kernel
theorem d_U_open_68 : decode c_U_open 68 = .ok (.areturn, 1) := by decide +kernel
theorem d_U_open_69 : decode c_U_open 69 = .ok (.new 17, 3) := by decide +kernel
theorem d_U_open_72 : decode c_U_open 72 = .ok (.dup, 1) := by decide +kernel
theorem d_U_open_73 : decode c_U_open 73 = .ok (.aload_n 1, 1) := by decide +kernel
theorem d_U_open_74 : decode c_U_open 74 = .ok (.aload_n 0, 1) := by decide +kernel
theorem d_U_open_75 : decode c_U_open 75 = .ok (.aload_n 2, 1) := by decide +kernel
theorem d_U_open_76 : decode c_U_open 76 = .ok (.invokevirtual 104, 3) := by decide +kernel
theorem d_U_open_79 : decode c_U_open 79 = .ok (.aload_n 2, 1) := by decide +kernel
theorem d_U_open_80 : decode c_U_open 80 = .ok (.invokevirtual 82, 3) := by decide +kernel
theorem d_U_open_83 : decode c_U_open 83 = .ok (.getfield 97, 3) := by decide +kernel
theorem d_U_open_86 : decode c_U_open 86 = .ok (.invokespecial 19, 3) := by decide +kernel
theorem d_U_open_89 : decode c_U_open 89 = .ok (.areturn, 1) := by decide +kernel
abbrev c_U_rest : ByteArray := prog_7_method_9_code
abbrev y_U_rest : MethodName := ⟨"FingerSpans$Rules", "rest", "(LFingerSpans$Tree;)LFingerSpans$Tree;"⟩
theorem k_U_rest : Cond.code y_U_rest c_U_rest 2 (some (FieldType.object "FingerSpans$Tree")) ∈ lw_tbl := List.mem_of_getElem? (i := 273) (by decide +kernel)
theorem b_U_rest : x_ce y_U_rest c_U_rest 2 (some (FieldType.object "FingerSpans$Tree")) 1 := ⟨k_U_rest, i_U, by decide +kernel⟩
theorem s_U_rest : Cond.instanceMethod y_U_rest ∈ lw_tbl := List.mem_of_getElem? (i := 272) (by decide +kernel)
theorem v_U_rest : Cond.selects "FingerSpans$Rules" y_U_rest y_U_rest ∈ lw_tbl := List.mem_of_getElem? (i := 10) (by decide +kernel)
theorem d_U_rest_0 : decode c_U_rest 0 = .ok (.aload_n 1, 1) := by decide +kernel
theorem d_U_rest_1 : decode c_U_rest 1 = .ok (.invokevirtual 45, 3) := by decide +kernel
theorem d_U_rest_4 : decode c_U_rest 4 = .ok (.ifCond .ne 8, 3) := by decide +kernel
theorem d_U_rest_7 : decode c_U_rest 7 = .ok (.aload_n 0, 1) := by decide +kernel
theorem d_U_rest_8 : decode c_U_rest 8 = .ok (.getfield 22, 3) := by decide +kernel
theorem d_U_rest_11 : decode c_U_rest 11 = .ok (.areturn, 1) := by decide +kernel
theorem d_U_rest_12 : decode c_U_rest 12 = .ok (.aload_n 0, 1) := by decide +kernel
theorem d_U_rest_13 : decode c_U_rest 13 = .ok (.aload_n 1, 1) := by decide +kernel
theorem d_U_rest_14 : decode c_U_rest 14 = .ok (.getfield 48, 3) := by decide +kernel
theorem d_U_rest_17 : decode c_U_rest 17 = .ok (.iconst 0, 1) := by decide +kernel
theorem d_U_rest_18 : decode c_U_rest 18 = .ok (.invokestatic 63, 3) := by decide +kernel
theorem d_U_rest_21 : decode c_U_rest 21 = .ok (.aload_n 1, 1) := by decide +kernel
theorem d_U_rest_22 : decode c_U_rest 22 = .ok (.getfield 57, 3) := by decide +kernel
theorem d_U_rest_25 : decode c_U_rest 25 = .ok (.aload_n 1, 1) := by decide +kernel
theorem d_U_rest_26 : decode c_U_rest 26 = .ok (.getfield 60, 3) := by decide +kernel
theorem d_U_rest_29 : decode c_U_rest 29 = .ok (.invokevirtual 107, 3) := by decide +kernel
theorem d_U_rest_32 : decode c_U_rest 32 = .ok (.areturn, 1) := by decide +kernel
abbrev c_U_lead : ByteArray := prog_7_method_10_code
abbrev y_U_lead : MethodName := ⟨"FingerSpans$Rules", "lead", "(LFingerSpans$Tree;)LFingerSpans$Tree;"⟩
theorem k_U_lead : Cond.code y_U_lead c_U_lead 2 (some (FieldType.object "FingerSpans$Tree")) ∈ lw_tbl := List.mem_of_getElem? (i := 291) (by decide +kernel)
theorem b_U_lead : x_ce y_U_lead c_U_lead 2 (some (FieldType.object "FingerSpans$Tree")) 1 := ⟨k_U_lead, i_U, by decide +kernel⟩
theorem s_U_lead : Cond.instanceMethod y_U_lead ∈ lw_tbl := List.mem_of_getElem? (i := 290) (by decide +kernel)
theorem v_U_lead : Cond.selects "FingerSpans$Rules" y_U_lead y_U_lead ∈ lw_tbl := List.mem_of_getElem? (i := 14) (by decide +kernel)
theorem d_U_lead_0 : decode c_U_lead 0 = .ok (.aload_n 1, 1) := by decide +kernel
theorem d_U_lead_1 : decode c_U_lead 1 = .ok (.invokevirtual 45, 3) := by decide +kernel
theorem d_U_lead_4 : decode c_U_lead 4 = .ok (.ifCond .ne 8, 3) := by decide +kernel
theorem d_U_lead_7 : decode c_U_lead 7 = .ok (.aload_n 0, 1) := by decide +kernel
theorem d_U_lead_8 : decode c_U_lead 8 = .ok (.getfield 22, 3) := by decide +kernel
theorem d_U_lead_11 : decode c_U_lead 11 = .ok (.areturn, 1) := by decide +kernel
theorem d_U_lead_12 : decode c_U_lead 12 = .ok (.aload_n 0, 1) := by decide +kernel
theorem d_U_lead_13 : decode c_U_lead 13 = .ok (.aload_n 1, 1) := by decide +kernel
theorem d_U_lead_14 : decode c_U_lead 14 = .ok (.getfield 48, 3) := by decide +kernel
theorem d_U_lead_17 : decode c_U_lead 17 = .ok (.aload_n 1, 1) := by decide +kernel
theorem d_U_lead_18 : decode c_U_lead 18 = .ok (.getfield 57, 3) := by decide +kernel
theorem d_U_lead_21 : decode c_U_lead 21 = .ok (.aload_n 1, 1) := by decide +kernel
theorem d_U_lead_22 : decode c_U_lead 22 = .ok (.getfield 60, 3) := by decide +kernel
theorem d_U_lead_25 : decode c_U_lead 25 = .ok (.aload_n 1, 1) := by decide +kernel
theorem d_U_lead_26 : decode c_U_lead 26 = .ok (.getfield 60, 3) := by decide +kernel
theorem d_U_lead_29 : decode c_U_lead 29 = .ok (.arraylength, 1) := by decide +kernel
theorem d_U_lead_30 : decode c_U_lead 30 = .ok (.iconst 1, 1) := by decide +kernel
theorem d_U_lead_31 : decode c_U_lead 31 = .ok (.isub, 1) := by decide +kernel
theorem d_U_lead_32 : decode c_U_lead 32 = .ok (.invokestatic 75, 3) := by decide +kernel
theorem d_U_lead_35 : decode c_U_lead 35 = .ok (.invokevirtual 107, 3) := by decide +kernel
theorem d_U_lead_38 : decode c_U_lead 38 = .ok (.areturn, 1) := by decide +kernel
abbrev c_U_join : ByteArray := prog_7_method_11_code
abbrev y_U_join : MethodName := ⟨"FingerSpans$Rules", "join", "(LFingerSpans$Tree;[LFingerSpans$Item;LFingerSpans$Tree;)LFingerSpans$Tree;"⟩
theorem k_U_join : Cond.code y_U_join c_U_join 5 (some (FieldType.object "FingerSpans$Tree")) ∈ lw_tbl := List.mem_of_getElem? (i := 304) (by decide +kernel)
theorem b_U_join : x_ce y_U_join c_U_join 5 (some (FieldType.object "FingerSpans$Tree")) 3 := ⟨k_U_join, i_U, by decide +kernel⟩
theorem s_U_join : Cond.instanceMethod y_U_join ∈ lw_tbl := List.mem_of_getElem? (i := 303) (by decide +kernel)
theorem v_U_join : Cond.selects "FingerSpans$Rules" y_U_join y_U_join ∈ lw_tbl := List.mem_of_getElem? (i := 15) (by decide +kernel)
theorem d_U_join_0 : decode c_U_join 0 = .ok (.aload_n 1, 1) := by decide +kernel
theorem d_U_join_1 : decode c_U_join 1 = .ok (.invokevirtual 37, 3) := by decide +kernel
theorem d_U_join_4 : decode c_U_join 4 = .ok (.ifCond .eq 10, 3) := by decide +kernel
theorem d_U_join_7 : decode c_U_join 7 = .ok (.aload_n 0, 1) := by decide +kernel
theorem d_U_join_8 : decode c_U_join 8 = .ok (.aload_n 2, 1) := by decide +kernel
theorem d_U_join_9 : decode c_U_join 9 = .ok (.aload_n 3, 1) := by decide +kernel
theorem d_U_join_10 : decode c_U_join 10 = .ok (.invokevirtual 111, 3) := by decide +kernel
theorem d_U_join_13 : decode c_U_join 13 = .ok (.areturn, 1) := by decide +kernel
theorem d_U_join_14 : decode c_U_join 14 = .ok (.aload_n 3, 1) := by decide +kernel
theorem d_U_join_15 : decode c_U_join 15 = .ok (.invokevirtual 37, 3) := by decide +kernel
theorem d_U_join_18 : decode c_U_join 18 = .ok (.ifCond .eq 10, 3) := by decide +kernel
theorem d_U_join_21 : decode c_U_join 21 = .ok (.aload_n 0, 1) := by decide +kernel
theorem d_U_join_22 : decode c_U_join 22 = .ok (.aload_n 1, 1) := by decide +kernel
theorem d_U_join_23 : decode c_U_join 23 = .ok (.aload_n 2, 1) := by decide +kernel
theorem d_U_join_24 : decode c_U_join 24 = .ok (.invokevirtual 115, 3) := by decide +kernel
theorem d_U_join_27 : decode c_U_join 27 = .ok (.areturn, 1) := by decide +kernel
theorem d_U_join_28 : decode c_U_join 28 = .ok (.aload_n 1, 1) := by decide +kernel
theorem d_U_join_29 : decode c_U_join 29 = .ok (.invokevirtual 45, 3) := by decide +kernel
theorem d_U_join_32 : decode c_U_join 32 = .ok (.ifCond .ne 18, 3) := by decide +kernel
theorem d_U_join_35 : decode c_U_join 35 = .ok (.aload_n 0, 1) := by decide +kernel
theorem d_U_join_36 : decode c_U_join 36 = .ok (.aload_n 1, 1) := by decide +kernel
theorem d_U_join_37 : decode c_U_join 37 = .ok (.invokevirtual 94, 3) := by decide +kernel
theorem d_U_join_40 : decode c_U_join 40 = .ok (.aload_n 0, 1) := by decide +kernel
theorem d_U_join_41 : decode c_U_join 41 = .ok (.aload_n 2, 1) := by decide +kernel
theorem d_U_join_42 : decode c_U_join 42 = .ok (.aload_n 3, 1) := by decide +kernel
theorem d_U_join_43 : decode c_U_join 43 = .ok (.invokevirtual 111, 3) := by decide +kernel
theorem d_U_join_46 : decode c_U_join 46 = .ok (.invokevirtual 71, 3) := by decide +kernel
theorem d_U_join_49 : decode c_U_join 49 = .ok (.areturn, 1) := by decide +kernel
theorem d_U_join_50 : decode c_U_join 50 = .ok (.aload_n 3, 1) := by decide +kernel
theorem d_U_join_51 : decode c_U_join 51 = .ok (.invokevirtual 45, 3) := by decide +kernel
theorem d_U_join_54 : decode c_U_join 54 = .ok (.ifCond .ne 18, 3) := by decide +kernel
theorem d_U_join_57 : decode c_U_join 57 = .ok (.aload_n 0, 1) := by decide +kernel
theorem d_U_join_58 : decode c_U_join 58 = .ok (.aload_n 0, 1) := by decide +kernel
theorem d_U_join_59 : decode c_U_join 59 = .ok (.aload_n 1, 1) := by decide +kernel
theorem d_U_join_60 : decode c_U_join 60 = .ok (.aload_n 2, 1) := by decide +kernel
theorem d_U_join_61 : decode c_U_join 61 = .ok (.invokevirtual 115, 3) := by decide +kernel
theorem d_U_join_64 : decode c_U_join 64 = .ok (.aload_n 3, 1) := by decide +kernel
theorem d_U_join_65 : decode c_U_join 65 = .ok (.invokevirtual 94, 3) := by decide +kernel
theorem d_U_join_68 : decode c_U_join 68 = .ok (.invokevirtual 78, 3) := by decide +kernel
theorem d_U_join_71 : decode c_U_join 71 = .ok (.areturn, 1) := by decide +kernel
theorem d_U_join_72 : decode c_U_join 72 = .ok (.aload_n 0, 1) := by decide +kernel
theorem d_U_join_73 : decode c_U_join 73 = .ok (.aload_n 1, 1) := by decide +kernel
theorem d_U_join_74 : decode c_U_join 74 = .ok (.getfield 60, 3) := by decide +kernel
theorem d_U_join_77 : decode c_U_join 77 = .ok (.aload_n 2, 1) := by decide +kernel
theorem d_U_join_78 : decode c_U_join 78 = .ok (.invokestatic 51, 3) := by decide +kernel
theorem d_U_join_81 : decode c_U_join 81 = .ok (.aload_n 3, 1) := by decide +kernel
theorem d_U_join_82 : decode c_U_join 82 = .ok (.getfield 48, 3) := by decide +kernel
theorem d_U_join_85 : decode c_U_join 85 = .ok (.invokestatic 51, 3) := by decide +kernel
theorem d_U_join_88 : decode c_U_join 88 = .ok (.invokevirtual 119, 3) := by decide +kernel
theorem d_U_join_91 : decode c_U_join 91 = .ok (.astore 4, 2) := by decide +kernel
theorem d_U_join_93 : decode c_U_join 93 = .ok (.new 17, 3) := by decide +kernel
theorem d_U_join_96 : decode c_U_join 96 = .ok (.dup, 1) := by decide +kernel
theorem d_U_join_97 : decode c_U_join 97 = .ok (.aload_n 1, 1) := by decide +kernel
theorem d_U_join_98 : decode c_U_join 98 = .ok (.getfield 48, 3) := by decide +kernel
theorem d_U_join_101 : decode c_U_join 101 = .ok (.aload_n 0, 1) := by decide +kernel
theorem d_U_join_102 : decode c_U_join 102 = .ok (.aload_n 1, 1) := by decide +kernel
theorem d_U_join_103 : decode c_U_join 103 = .ok (.getfield 57, 3) := by decide +kernel
theorem d_U_join_106 : decode c_U_join 106 = .ok (.aload 4, 2) := by decide +kernel
theorem d_U_join_108 : decode c_U_join 108 = .ok (.aload_n 3, 1) := by decide +kernel
theorem d_U_join_109 : decode c_U_join 109 = .ok (.getfield 57, 3) := by decide +kernel
theorem d_U_join_112 : decode c_U_join 112 = .ok (.invokevirtual 123, 3) := by decide +kernel
theorem d_U_join_115 : decode c_U_join 115 = .ok (.aload_n 3, 1) := by decide +kernel
theorem d_U_join_116 : decode c_U_join 116 = .ok (.getfield 60, 3) := by decide +kernel
theorem d_U_join_119 : decode c_U_join 119 = .ok (.invokespecial 19, 3) := by decide +kernel
theorem d_U_join_122 : decode c_U_join 122 = .ok (.areturn, 1) := by decide +kernel
abbrev c_U_allFront : ByteArray := prog_7_method_12_code
abbrev y_U_allFront : MethodName := ⟨"FingerSpans$Rules", "allFront", "([LFingerSpans$Item;LFingerSpans$Tree;)LFingerSpans$Tree;"⟩
theorem k_U_allFront : Cond.code y_U_allFront c_U_allFront 5 (some (FieldType.object "FingerSpans$Tree")) ∈ lw_tbl := List.mem_of_getElem? (i := 308) (by decide +kernel)
theorem b_U_allFront : x_ce y_U_allFront c_U_allFront 5 (some (FieldType.object "FingerSpans$Tree")) 2 := ⟨k_U_allFront, i_U, by decide +kernel⟩
theorem s_U_allFront : Cond.instanceMethod y_U_allFront ∈ lw_tbl := List.mem_of_getElem? (i := 307) (by decide +kernel)
theorem v_U_allFront : Cond.selects "FingerSpans$Rules" y_U_allFront y_U_allFront ∈ lw_tbl := List.mem_of_getElem? (i := 16) (by decide +kernel)
theorem d_U_allFront_0 : decode c_U_allFront 0 = .ok (.aload_n 2, 1) := by decide +kernel
theorem d_U_allFront_1 : decode c_U_allFront 1 = .ok (.astore_n 3, 1) := by decide +kernel
theorem d_U_allFront_2 : decode c_U_allFront 2 = .ok (.aload_n 1, 1) := by decide +kernel
theorem d_U_allFront_3 : decode c_U_allFront 3 = .ok (.arraylength, 1) := by decide +kernel
theorem d_U_allFront_4 : decode c_U_allFront 4 = .ok (.iconst 1, 1) := by decide +kernel
theorem d_U_allFront_5 : decode c_U_allFront 5 = .ok (.isub, 1) := by decide +kernel
theorem d_U_allFront_6 : decode c_U_allFront 6 = .ok (.istore 4, 2) := by decide +kernel
theorem d_U_allFront_8 : decode c_U_allFront 8 = .ok (.iload 4, 2) := by decide +kernel
theorem d_U_allFront_10 : decode c_U_allFront 10 = .ok (.ifCond .lt 19, 3) := by decide +kernel
theorem d_U_allFront_13 : decode c_U_allFront 13 = .ok (.aload_n 0, 1) := by decide +kernel
theorem d_U_allFront_14 : decode c_U_allFront 14 = .ok (.aload_n 1, 1) := by decide +kernel
theorem d_U_allFront_15 : decode c_U_allFront 15 = .ok (.iload 4, 2) := by decide +kernel
theorem d_U_allFront_17 : decode c_U_allFront 17 = .ok (.aaload, 1) := by decide +kernel
theorem d_U_allFront_18 : decode c_U_allFront 18 = .ok (.aload_n 3, 1) := by decide +kernel
theorem d_U_allFront_19 : decode c_U_allFront 19 = .ok (.invokevirtual 71, 3) := by decide +kernel
theorem d_U_allFront_22 : decode c_U_allFront 22 = .ok (.astore_n 3, 1) := by decide +kernel
theorem d_U_allFront_23 : decode c_U_allFront 23 = .ok (.iinc 4 (-1), 3) := by decide +kernel
theorem d_U_allFront_26 : decode c_U_allFront 26 = .ok (.goto (-18), 3) := by decide +kernel
theorem d_U_allFront_29 : decode c_U_allFront 29 = .ok (.aload_n 3, 1) := by decide +kernel
theorem d_U_allFront_30 : decode c_U_allFront 30 = .ok (.areturn, 1) := by decide +kernel
abbrev c_U_allBack : ByteArray := prog_7_method_13_code
abbrev y_U_allBack : MethodName := ⟨"FingerSpans$Rules", "allBack", "(LFingerSpans$Tree;[LFingerSpans$Item;)LFingerSpans$Tree;"⟩
theorem k_U_allBack : Cond.code y_U_allBack c_U_allBack 5 (some (FieldType.object "FingerSpans$Tree")) ∈ lw_tbl := List.mem_of_getElem? (i := 312) (by decide +kernel)
theorem b_U_allBack : x_ce y_U_allBack c_U_allBack 5 (some (FieldType.object "FingerSpans$Tree")) 2 := ⟨k_U_allBack, i_U, by decide +kernel⟩
theorem s_U_allBack : Cond.instanceMethod y_U_allBack ∈ lw_tbl := List.mem_of_getElem? (i := 311) (by decide +kernel)
theorem v_U_allBack : Cond.selects "FingerSpans$Rules" y_U_allBack y_U_allBack ∈ lw_tbl := List.mem_of_getElem? (i := 17) (by decide +kernel)
theorem d_U_allBack_0 : decode c_U_allBack 0 = .ok (.aload_n 1, 1) := by decide +kernel
theorem d_U_allBack_1 : decode c_U_allBack 1 = .ok (.astore_n 3, 1) := by decide +kernel
theorem d_U_allBack_2 : decode c_U_allBack 2 = .ok (.iconst 0, 1) := by decide +kernel
theorem d_U_allBack_3 : decode c_U_allBack 3 = .ok (.istore 4, 2) := by decide +kernel
theorem d_U_allBack_5 : decode c_U_allBack 5 = .ok (.iload 4, 2) := by decide +kernel
theorem d_U_allBack_7 : decode c_U_allBack 7 = .ok (.aload_n 2, 1) := by decide +kernel
theorem d_U_allBack_8 : decode c_U_allBack 8 = .ok (.arraylength, 1) := by decide +kernel
theorem d_U_allBack_9 : decode c_U_allBack 9 = .ok (.if_icmp .ge 19, 3) := by decide +kernel
theorem d_U_allBack_12 : decode c_U_allBack 12 = .ok (.aload_n 0, 1) := by decide +kernel
theorem d_U_allBack_13 : decode c_U_allBack 13 = .ok (.aload_n 3, 1) := by decide +kernel
theorem d_U_allBack_14 : decode c_U_allBack 14 = .ok (.aload_n 2, 1) := by decide +kernel
theorem d_U_allBack_15 : decode c_U_allBack 15 = .ok (.iload 4, 2) := by decide +kernel
theorem d_U_allBack_17 : decode c_U_allBack 17 = .ok (.aaload, 1) := by decide +kernel
theorem d_U_allBack_18 : decode c_U_allBack 18 = .ok (.invokevirtual 78, 3) := by decide +kernel
theorem d_U_allBack_21 : decode c_U_allBack 21 = .ok (.astore_n 3, 1) := by decide +kernel
theorem d_U_allBack_22 : decode c_U_allBack 22 = .ok (.iinc 4 1, 3) := by decide +kernel
theorem d_U_allBack_25 : decode c_U_allBack 25 = .ok (.goto (-20), 3) := by decide +kernel
theorem d_U_allBack_28 : decode c_U_allBack 28 = .ok (.aload_n 3, 1) := by decide +kernel
theorem d_U_allBack_29 : decode c_U_allBack 29 = .ok (.areturn, 1) := by decide +kernel
abbrev c_U_groups : ByteArray := prog_7_method_14_code
abbrev y_U_groups : MethodName := ⟨"FingerSpans$Rules", "groups", "([LFingerSpans$Item;)[LFingerSpans$Item;"⟩
theorem k_U_groups : Cond.code y_U_groups c_U_groups 7 (some (FieldType.array (FieldType.object "FingerSpans$Item"))) ∈ lw_tbl := List.mem_of_getElem? (i := 316) (by decide +kernel)
theorem b_U_groups : x_ce y_U_groups c_U_groups 7 (some (FieldType.array (FieldType.object "FingerSpans$Item"))) 1 := ⟨k_U_groups, i_U, by decide +kernel⟩
theorem s_U_groups : Cond.instanceMethod y_U_groups ∈ lw_tbl := List.mem_of_getElem? (i := 315) (by decide +kernel)
theorem v_U_groups : Cond.selects "FingerSpans$Rules" y_U_groups y_U_groups ∈ lw_tbl := List.mem_of_getElem? (i := 18) (by decide +kernel)
theorem d_U_groups_0 : decode c_U_groups 0 = .ok (.aload_n 1, 1) := by decide +kernel
theorem d_U_groups_1 : decode c_U_groups 1 = .ok (.arraylength, 1) := by decide +kernel
theorem d_U_groups_2 : decode c_U_groups 2 = .ok (.iconst 2, 1) := by decide +kernel
theorem d_U_groups_3 : decode c_U_groups 3 = .ok (.iadd, 1) := by decide +kernel
theorem d_U_groups_4 : decode c_U_groups 4 = .ok (.iconst 3, 1) := by decide +kernel
theorem d_U_groups_5 : decode c_U_groups 5 = .ok (.idiv, 1) := by decide +kernel
theorem d_U_groups_6 : decode c_U_groups 6 = .ok (.anewarray 9, 3) := by decide +kernel
theorem d_U_groups_9 : decode c_U_groups 9 = .ok (.astore_n 2, 1) := by decide +kernel
theorem d_U_groups_10 : decode c_U_groups 10 = .ok (.iconst 0, 1) := by decide +kernel
theorem d_U_groups_11 : decode c_U_groups 11 = .ok (.istore_n 3, 1) := by decide +kernel
theorem d_U_groups_12 : decode c_U_groups 12 = .ok (.iconst 0, 1) := by decide +kernel
theorem d_U_groups_13 : decode c_U_groups 13 = .ok (.istore 4, 2) := by decide +kernel
theorem d_U_groups_15 : decode c_U_groups 15 = .ok (.iload 4, 2) := by decide +kernel
theorem d_U_groups_17 : decode c_U_groups 17 = .ok (.aload_n 2, 1) := by decide +kernel
theorem d_U_groups_18 : decode c_U_groups 18 = .ok (.arraylength, 1) := by decide +kernel
theorem d_U_groups_19 : decode c_U_groups 19 = .ok (.if_icmp .ge 56, 3) := by decide +kernel
theorem d_U_groups_22 : decode c_U_groups 22 = .ok (.aload_n 1, 1) := by decide +kernel
theorem d_U_groups_23 : decode c_U_groups 23 = .ok (.arraylength, 1) := by decide +kernel
theorem d_U_groups_24 : decode c_U_groups 24 = .ok (.iload_n 3, 1) := by decide +kernel
theorem d_U_groups_25 : decode c_U_groups 25 = .ok (.isub, 1) := by decide +kernel
theorem d_U_groups_26 : decode c_U_groups 26 = .ok (.istore 5, 2) := by decide +kernel
theorem d_U_groups_28 : decode c_U_groups 28 = .ok (.iload 5, 2) := by decide +kernel
theorem d_U_groups_30 : decode c_U_groups 30 = .ok (.iconst 2, 1) := by decide +kernel
theorem d_U_groups_31 : decode c_U_groups 31 = .ok (.if_icmp .eq 9, 3) := by decide +kernel
theorem d_U_groups_34 : decode c_U_groups 34 = .ok (.iload 5, 2) := by decide +kernel
theorem d_U_groups_36 : decode c_U_groups 36 = .ok (.iconst 4, 1) := by decide +kernel
theorem d_U_groups_37 : decode c_U_groups 37 = .ok (.if_icmp .ne 7, 3) := by decide +kernel
theorem d_U_groups_40 : decode c_U_groups 40 = .ok (.iconst 2, 1) := by decide +kernel
theorem d_U_groups_41 : decode c_U_groups 41 = .ok (.goto 4, 3) := by decide +kernel
theorem d_U_groups_44 : decode c_U_groups 44 = .ok (.iconst 3, 1) := by decide +kernel
theorem d_U_groups_45 : decode c_U_groups 45 = .ok (.istore 6, 2) := by decide +kernel
theorem d_U_groups_47 : decode c_U_groups 47 = .ok (.aload_n 2, 1) := by decide +kernel
theorem d_U_groups_48 : decode c_U_groups 48 = .ok (.iload 4, 2) := by decide +kernel
theorem d_U_groups_50 : decode c_U_groups 50 = .ok (.aload_n 0, 1) := by decide +kernel
theorem d_U_groups_51 : decode c_U_groups 51 = .ok (.aload_n 1, 1) := by decide +kernel
theorem d_U_groups_52 : decode c_U_groups 52 = .ok (.iload_n 3, 1) := by decide +kernel
theorem d_U_groups_53 : decode c_U_groups 53 = .ok (.iload_n 3, 1) := by decide +kernel
theorem d_U_groups_54 : decode c_U_groups 54 = .ok (.iload 6, 2) := by decide +kernel
theorem d_U_groups_56 : decode c_U_groups 56 = .ok (.iadd, 1) := by decide +kernel
theorem d_U_groups_57 : decode c_U_groups 57 = .ok (.invokestatic 86, 3) := by decide +kernel
theorem d_U_groups_60 : decode c_U_groups 60 = .ok (.invokevirtual 67, 3) := by decide +kernel
theorem d_U_groups_63 : decode c_U_groups 63 = .ok (.aastore, 1) := by decide +kernel
theorem d_U_groups_64 : decode c_U_groups 64 = .ok (.iload_n 3, 1) := by decide +kernel
theorem d_U_groups_65 : decode c_U_groups 65 = .ok (.iload 6, 2) := by decide +kernel
theorem d_U_groups_67 : decode c_U_groups 67 = .ok (.iadd, 1) := by decide +kernel
theorem d_U_groups_68 : decode c_U_groups 68 = .ok (.istore_n 3, 1) := by decide +kernel
theorem d_U_groups_69 : decode c_U_groups 69 = .ok (.iinc 4 1, 3) := by decide +kernel
theorem d_U_groups_72 : decode c_U_groups 72 = .ok (.goto (-57), 3) := by decide +kernel
theorem d_U_groups_75 : decode c_U_groups 75 = .ok (.aload_n 2, 1) := by decide +kernel
theorem d_U_groups_76 : decode c_U_groups 76 = .ok (.areturn, 1) := by decide +kernel
abbrev c_U_cut : ByteArray := prog_7_method_15_code
abbrev y_U_cut : MethodName := ⟨"FingerSpans$Rules", "cut", "(LFingerSpans$Tree;I)LFingerSpans$Cut;"⟩
theorem k_U_cut : Cond.code y_U_cut c_U_cut 9 (some (FieldType.object "FingerSpans$Cut")) ∈ lw_tbl := List.mem_of_getElem? (i := 344) (by decide +kernel)
theorem b_U_cut : x_ce y_U_cut c_U_cut 9 (some (FieldType.object "FingerSpans$Cut")) 2 := ⟨k_U_cut, i_U, by decide +kernel⟩
theorem s_U_cut : Cond.instanceMethod y_U_cut ∈ lw_tbl := List.mem_of_getElem? (i := 343) (by decide +kernel)
theorem v_U_cut : Cond.selects "FingerSpans$Rules" y_U_cut y_U_cut ∈ lw_tbl := List.mem_of_getElem? (i := 20) (by decide +kernel)
theorem d_U_cut_0 : decode c_U_cut 0 = .ok (.aload_n 1, 1) := by decide +kernel
theorem d_U_cut_1 : decode c_U_cut 1 = .ok (.invokevirtual 45, 3) := by decide +kernel
theorem d_U_cut_4 : decode c_U_cut 4 = .ok (.ifCond .ne 23, 3) := by decide +kernel
theorem d_U_cut_7 : decode c_U_cut 7 = .ok (.new 127, 3) := by decide +kernel
theorem d_U_cut_10 : decode c_U_cut 10 = .ok (.dup, 1) := by decide +kernel
theorem d_U_cut_11 : decode c_U_cut 11 = .ok (.aload_n 0, 1) := by decide +kernel
theorem d_U_cut_12 : decode c_U_cut 12 = .ok (.getfield 22, 3) := by decide +kernel
theorem d_U_cut_15 : decode c_U_cut 15 = .ok (.aload_n 1, 1) := by decide +kernel
theorem d_U_cut_16 : decode c_U_cut 16 = .ok (.invokevirtual 94, 3) := by decide +kernel
theorem d_U_cut_19 : decode c_U_cut 19 = .ok (.aload_n 0, 1) := by decide +kernel
theorem d_U_cut_20 : decode c_U_cut 20 = .ok (.getfield 22, 3) := by decide +kernel
theorem d_U_cut_23 : decode c_U_cut 23 = .ok (.invokespecial 129, 3) := by decide +kernel
theorem d_U_cut_26 : decode c_U_cut 26 = .ok (.areturn, 1) := by decide +kernel
theorem d_U_cut_27 : decode c_U_cut 27 = .ok (.iload_n 2, 1) := by decide +kernel
theorem d_U_cut_28 : decode c_U_cut 28 = .ok (.aload_n 1, 1) := by decide +kernel
theorem d_U_cut_29 : decode c_U_cut 29 = .ok (.getfield 132, 3) := by decide +kernel
theorem d_U_cut_32 : decode c_U_cut 32 = .ok (.if_icmp .lt 67, 3) := by decide +kernel
theorem d_U_cut_35 : decode c_U_cut 35 = .ok (.aload_n 1, 1) := by decide +kernel
theorem d_U_cut_36 : decode c_U_cut 36 = .ok (.getfield 60, 3) := by decide +kernel
theorem d_U_cut_39 : decode c_U_cut 39 = .ok (.iload_n 2, 1) := by decide +kernel
theorem d_U_cut_40 : decode c_U_cut 40 = .ok (.aload_n 1, 1) := by decide +kernel
theorem d_U_cut_41 : decode c_U_cut 41 = .ok (.getfield 132, 3) := by decide +kernel
theorem d_U_cut_44 : decode c_U_cut 44 = .ok (.isub, 1) := by decide +kernel
theorem d_U_cut_45 : decode c_U_cut 45 = .ok (.invokestatic 135, 3) := by decide +kernel
theorem d_U_cut_48 : decode c_U_cut 48 = .ok (.istore_n 3, 1) := by decide +kernel
theorem d_U_cut_49 : decode c_U_cut 49 = .ok (.aload_n 0, 1) := by decide +kernel
theorem d_U_cut_50 : decode c_U_cut 50 = .ok (.aload_n 1, 1) := by decide +kernel
theorem d_U_cut_51 : decode c_U_cut 51 = .ok (.getfield 48, 3) := by decide +kernel
theorem d_U_cut_54 : decode c_U_cut 54 = .ok (.aload_n 1, 1) := by decide +kernel
theorem d_U_cut_55 : decode c_U_cut 55 = .ok (.getfield 57, 3) := by decide +kernel
theorem d_U_cut_58 : decode c_U_cut 58 = .ok (.aload_n 1, 1) := by decide +kernel
theorem d_U_cut_59 : decode c_U_cut 59 = .ok (.getfield 60, 3) := by decide +kernel
theorem d_U_cut_62 : decode c_U_cut 62 = .ok (.iload_n 3, 1) := by decide +kernel
theorem d_U_cut_63 : decode c_U_cut 63 = .ok (.invokestatic 75, 3) := by decide +kernel
theorem d_U_cut_66 : decode c_U_cut 66 = .ok (.invokevirtual 107, 3) := by decide +kernel
theorem d_U_cut_69 : decode c_U_cut 69 = .ok (.astore 4, 2) := by decide +kernel
theorem d_U_cut_71 : decode c_U_cut 71 = .ok (.new 127, 3) := by decide +kernel
theorem d_U_cut_74 : decode c_U_cut 74 = .ok (.dup, 1) := by decide +kernel
theorem d_U_cut_75 : decode c_U_cut 75 = .ok (.aload 4, 2) := by decide +kernel
theorem d_U_cut_77 : decode c_U_cut 77 = .ok (.aload_n 1, 1) := by decide +kernel
theorem d_U_cut_78 : decode c_U_cut 78 = .ok (.getfield 60, 3) := by decide +kernel
theorem d_U_cut_81 : decode c_U_cut 81 = .ok (.iload_n 3, 1) := by decide +kernel
theorem d_U_cut_82 : decode c_U_cut 82 = .ok (.aaload, 1) := by decide +kernel
theorem d_U_cut_83 : decode c_U_cut 83 = .ok (.aload_n 0, 1) := by decide +kernel
theorem d_U_cut_84 : decode c_U_cut 84 = .ok (.aload_n 1, 1) := by decide +kernel
theorem d_U_cut_85 : decode c_U_cut 85 = .ok (.getfield 60, 3) := by decide +kernel
theorem d_U_cut_88 : decode c_U_cut 88 = .ok (.iload_n 3, 1) := by decide +kernel
theorem d_U_cut_89 : decode c_U_cut 89 = .ok (.invokestatic 63, 3) := by decide +kernel
theorem d_U_cut_92 : decode c_U_cut 92 = .ok (.invokevirtual 90, 3) := by decide +kernel
theorem d_U_cut_95 : decode c_U_cut 95 = .ok (.invokespecial 129, 3) := by decide +kernel
theorem d_U_cut_98 : decode c_U_cut 98 = .ok (.areturn, 1) := by decide +kernel
theorem d_U_cut_99 : decode c_U_cut 99 = .ok (.aload_n 1, 1) := by decide +kernel
theorem d_U_cut_100 : decode c_U_cut 100 = .ok (.iload_n 2, 1) := by decide +kernel
theorem d_U_cut_101 : decode c_U_cut 101 = .ok (.invokevirtual 139, 3) := by decide +kernel
theorem d_U_cut_104 : decode c_U_cut 104 = .ok (.ifCond .ne 62, 3) := by decide +kernel
theorem d_U_cut_107 : decode c_U_cut 107 = .ok (.aload_n 1, 1) := by decide +kernel
theorem d_U_cut_108 : decode c_U_cut 108 = .ok (.getfield 48, 3) := by decide +kernel
theorem d_U_cut_111 : decode c_U_cut 111 = .ok (.iload_n 2, 1) := by decide +kernel
theorem d_U_cut_112 : decode c_U_cut 112 = .ok (.invokestatic 135, 3) := by decide +kernel
theorem d_U_cut_115 : decode c_U_cut 115 = .ok (.istore_n 3, 1) := by decide +kernel
theorem d_U_cut_116 : decode c_U_cut 116 = .ok (.aload_n 0, 1) := by decide +kernel
theorem d_U_cut_117 : decode c_U_cut 117 = .ok (.aload_n 1, 1) := by decide +kernel
theorem d_U_cut_118 : decode c_U_cut 118 = .ok (.getfield 48, 3) := by decide +kernel
theorem d_U_cut_121 : decode c_U_cut 121 = .ok (.iload_n 3, 1) := by decide +kernel
theorem d_U_cut_122 : decode c_U_cut 122 = .ok (.invokestatic 63, 3) := by decide +kernel
theorem d_U_cut_125 : decode c_U_cut 125 = .ok (.aload_n 1, 1) := by decide +kernel
theorem d_U_cut_126 : decode c_U_cut 126 = .ok (.getfield 57, 3) := by decide +kernel
theorem d_U_cut_129 : decode c_U_cut 129 = .ok (.aload_n 1, 1) := by decide +kernel
theorem d_U_cut_130 : decode c_U_cut 130 = .ok (.getfield 60, 3) := by decide +kernel
theorem d_U_cut_133 : decode c_U_cut 133 = .ok (.invokevirtual 107, 3) := by decide +kernel
theorem d_U_cut_136 : decode c_U_cut 136 = .ok (.astore 4, 2) := by decide +kernel
theorem d_U_cut_138 : decode c_U_cut 138 = .ok (.new 127, 3) := by decide +kernel
theorem d_U_cut_141 : decode c_U_cut 141 = .ok (.dup, 1) := by decide +kernel
theorem d_U_cut_142 : decode c_U_cut 142 = .ok (.aload_n 0, 1) := by decide +kernel
theorem d_U_cut_143 : decode c_U_cut 143 = .ok (.aload_n 1, 1) := by decide +kernel
theorem d_U_cut_144 : decode c_U_cut 144 = .ok (.getfield 48, 3) := by decide +kernel
theorem d_U_cut_147 : decode c_U_cut 147 = .ok (.iload_n 3, 1) := by decide +kernel
theorem d_U_cut_148 : decode c_U_cut 148 = .ok (.invokestatic 75, 3) := by decide +kernel
theorem d_U_cut_151 : decode c_U_cut 151 = .ok (.invokevirtual 90, 3) := by decide +kernel
theorem d_U_cut_154 : decode c_U_cut 154 = .ok (.aload_n 1, 1) := by decide +kernel
theorem d_U_cut_155 : decode c_U_cut 155 = .ok (.getfield 48, 3) := by decide +kernel
theorem d_U_cut_158 : decode c_U_cut 158 = .ok (.iload_n 3, 1) := by decide +kernel
theorem d_U_cut_159 : decode c_U_cut 159 = .ok (.aaload, 1) := by decide +kernel
theorem d_U_cut_160 : decode c_U_cut 160 = .ok (.aload 4, 2) := by decide +kernel
theorem d_U_cut_162 : decode c_U_cut 162 = .ok (.invokespecial 129, 3) := by decide +kernel
theorem d_U_cut_165 : decode c_U_cut 165 = .ok (.areturn, 1) := by decide +kernel
theorem d_U_cut_166 : decode c_U_cut 166 = .ok (.iload_n 2, 1) := by decide +kernel
theorem d_U_cut_167 : decode c_U_cut 167 = .ok (.aload_n 1, 1) := by decide +kernel
theorem d_U_cut_168 : decode c_U_cut 168 = .ok (.invokevirtual 143, 3) := by decide +kernel
theorem d_U_cut_171 : decode c_U_cut 171 = .ok (.isub, 1) := by decide +kernel
theorem d_U_cut_172 : decode c_U_cut 172 = .ok (.istore_n 3, 1) := by decide +kernel
theorem d_U_cut_173 : decode c_U_cut 173 = .ok (.aload_n 0, 1) := by decide +kernel
theorem d_U_cut_174 : decode c_U_cut 174 = .ok (.aload_n 1, 1) := by decide +kernel
theorem d_U_cut_175 : decode c_U_cut 175 = .ok (.getfield 57, 3) := by decide +kernel
theorem d_U_cut_178 : decode c_U_cut 178 = .ok (.iload_n 3, 1) := by decide +kernel
theorem d_U_cut_179 : decode c_U_cut 179 = .ok (.invokevirtual 147, 3) := by decide +kernel
theorem d_U_cut_182 : decode c_U_cut 182 = .ok (.astore 4, 2) := by decide +kernel
theorem d_U_cut_184 : decode c_U_cut 184 = .ok (.aload 4, 2) := by decide +kernel
theorem d_U_cut_186 : decode c_U_cut 186 = .ok (.getfield 151, 3) := by decide +kernel
theorem d_U_cut_189 : decode c_U_cut 189 = .ok (.getfield 97, 3) := by decide +kernel
theorem d_U_cut_192 : decode c_U_cut 192 = .ok (.astore 5, 2) := by decide +kernel
theorem d_U_cut_194 : decode c_U_cut 194 = .ok (.aload 5, 2) := by decide +kernel
theorem d_U_cut_196 : decode c_U_cut 196 = .ok (.iload_n 3, 1) := by decide +kernel
theorem d_U_cut_197 : decode c_U_cut 197 = .ok (.aload 4, 2) := by decide +kernel
theorem d_U_cut_199 : decode c_U_cut 199 = .ok (.getfield 155, 3) := by decide +kernel
theorem d_U_cut_202 : decode c_U_cut 202 = .ok (.getfield 157, 3) := by decide +kernel
theorem d_U_cut_205 : decode c_U_cut 205 = .ok (.isub, 1) := by decide +kernel
theorem d_U_cut_206 : decode c_U_cut 206 = .ok (.invokestatic 135, 3) := by decide +kernel
theorem d_U_cut_209 : decode c_U_cut 209 = .ok (.istore 6, 2) := by decide +kernel
theorem d_U_cut_211 : decode c_U_cut 211 = .ok (.aload_n 0, 1) := by decide +kernel
theorem d_U_cut_212 : decode c_U_cut 212 = .ok (.aload_n 1, 1) := by decide +kernel
theorem d_U_cut_213 : decode c_U_cut 213 = .ok (.getfield 48, 3) := by decide +kernel
theorem d_U_cut_216 : decode c_U_cut 216 = .ok (.aload 4, 2) := by decide +kernel
theorem d_U_cut_218 : decode c_U_cut 218 = .ok (.getfield 155, 3) := by decide +kernel
theorem d_U_cut_221 : decode c_U_cut 221 = .ok (.aload 5, 2) := by decide +kernel
theorem d_U_cut_223 : decode c_U_cut 223 = .ok (.iload 6, 2) := by decide +kernel
theorem d_U_cut_225 : decode c_U_cut 225 = .ok (.invokestatic 75, 3) := by decide +kernel
theorem d_U_cut_228 : decode c_U_cut 228 = .ok (.invokevirtual 107, 3) := by decide +kernel
theorem d_U_cut_231 : decode c_U_cut 231 = .ok (.astore 7, 2) := by decide +kernel
theorem d_U_cut_233 : decode c_U_cut 233 = .ok (.aload_n 0, 1) := by decide +kernel
theorem d_U_cut_234 : decode c_U_cut 234 = .ok (.aload 5, 2) := by decide +kernel
theorem d_U_cut_236 : decode c_U_cut 236 = .ok (.iload 6, 2) := by decide +kernel
theorem d_U_cut_238 : decode c_U_cut 238 = .ok (.invokestatic 63, 3) := by decide +kernel
theorem d_U_cut_241 : decode c_U_cut 241 = .ok (.aload 4, 2) := by decide +kernel
theorem d_U_cut_243 : decode c_U_cut 243 = .ok (.getfield 160, 3) := by decide +kernel
theorem d_U_cut_246 : decode c_U_cut 246 = .ok (.aload_n 1, 1) := by decide +kernel
theorem d_U_cut_247 : decode c_U_cut 247 = .ok (.getfield 60, 3) := by decide +kernel
theorem d_U_cut_250 : decode c_U_cut 250 = .ok (.invokevirtual 107, 3) := by decide +kernel
theorem d_U_cut_253 : decode c_U_cut 253 = .ok (.astore 8, 2) := by decide +kernel
theorem d_U_cut_255 : decode c_U_cut 255 = .ok (.new 127, 3) := by decide +kernel
theorem d_U_cut_258 : decode c_U_cut 258 = .ok (.dup, 1) := by decide +kernel
theorem d_U_cut_259 : decode c_U_cut 259 = .ok (.aload 7, 2) := by decide +kernel
theorem d_U_cut_261 : decode c_U_cut 261 = .ok (.aload 5, 2) := by decide +kernel
theorem d_U_cut_263 : decode c_U_cut 263 = .ok (.iload 6, 2) := by decide +kernel
theorem d_U_cut_265 : decode c_U_cut 265 = .ok (.aaload, 1) := by decide +kernel
theorem d_U_cut_266 : decode c_U_cut 266 = .ok (.aload 8, 2) := by decide +kernel
theorem d_U_cut_268 : decode c_U_cut 268 = .ok (.invokespecial 129, 3) := by decide +kernel
theorem d_U_cut_271 : decode c_U_cut 271 = .ok (.areturn, 1) := by decide +kernel
abbrev c_U_halves : ByteArray := prog_7_method_16_code
abbrev y_U_halves : MethodName := ⟨"FingerSpans$Rules", "halves", "(LFingerSpans$Tree;I)LFingerSpans$Halves;"⟩
theorem k_U_halves : Cond.code y_U_halves c_U_halves 4 (some (FieldType.object "FingerSpans$Halves")) ∈ lw_tbl := List.mem_of_getElem? (i := 325) (by decide +kernel)
theorem b_U_halves : x_ce y_U_halves c_U_halves 4 (some (FieldType.object "FingerSpans$Halves")) 2 := ⟨k_U_halves, i_U, by decide +kernel⟩
theorem s_U_halves : Cond.instanceMethod y_U_halves ∈ lw_tbl := List.mem_of_getElem? (i := 324) (by decide +kernel)
theorem v_U_halves : Cond.selects "FingerSpans$Rules" y_U_halves y_U_halves ∈ lw_tbl := List.mem_of_getElem? (i := 19) (by decide +kernel)
theorem d_U_halves_0 : decode c_U_halves 0 = .ok (.iload_n 2, 1) := by decide +kernel
theorem d_U_halves_1 : decode c_U_halves 1 = .ok (.aload_n 1, 1) := by decide +kernel
theorem d_U_halves_2 : decode c_U_halves 2 = .ok (.getfield 157, 3) := by decide +kernel
theorem d_U_halves_5 : decode c_U_halves 5 = .ok (.if_icmp .ne 16, 3) := by decide +kernel
theorem d_U_halves_8 : decode c_U_halves 8 = .ok (.new 162, 3) := by decide +kernel
theorem d_U_halves_11 : decode c_U_halves 11 = .ok (.dup, 1) := by decide +kernel
theorem d_U_halves_12 : decode c_U_halves 12 = .ok (.aload_n 1, 1) := by decide +kernel
theorem d_U_halves_13 : decode c_U_halves 13 = .ok (.aload_n 0, 1) := by decide +kernel
theorem d_U_halves_14 : decode c_U_halves 14 = .ok (.getfield 22, 3) := by decide +kernel
theorem d_U_halves_17 : decode c_U_halves 17 = .ok (.invokespecial 164, 3) := by decide +kernel
theorem d_U_halves_20 : decode c_U_halves 20 = .ok (.areturn, 1) := by decide +kernel
theorem d_U_halves_21 : decode c_U_halves 21 = .ok (.aload_n 0, 1) := by decide +kernel
theorem d_U_halves_22 : decode c_U_halves 22 = .ok (.aload_n 1, 1) := by decide +kernel
theorem d_U_halves_23 : decode c_U_halves 23 = .ok (.iload_n 2, 1) := by decide +kernel
theorem d_U_halves_24 : decode c_U_halves 24 = .ok (.invokevirtual 147, 3) := by decide +kernel
theorem d_U_halves_27 : decode c_U_halves 27 = .ok (.astore_n 3, 1) := by decide +kernel
theorem d_U_halves_28 : decode c_U_halves 28 = .ok (.new 162, 3) := by decide +kernel
theorem d_U_halves_31 : decode c_U_halves 31 = .ok (.dup, 1) := by decide +kernel
theorem d_U_halves_32 : decode c_U_halves 32 = .ok (.aload_n 3, 1) := by decide +kernel
theorem d_U_halves_33 : decode c_U_halves 33 = .ok (.getfield 155, 3) := by decide +kernel
theorem d_U_halves_36 : decode c_U_halves 36 = .ok (.aload_n 0, 1) := by decide +kernel
theorem d_U_halves_37 : decode c_U_halves 37 = .ok (.aload_n 3, 1) := by decide +kernel
theorem d_U_halves_38 : decode c_U_halves 38 = .ok (.getfield 151, 3) := by decide +kernel
theorem d_U_halves_41 : decode c_U_halves 41 = .ok (.aload_n 3, 1) := by decide +kernel
theorem d_U_halves_42 : decode c_U_halves 42 = .ok (.getfield 160, 3) := by decide +kernel
theorem d_U_halves_45 : decode c_U_halves 45 = .ok (.invokevirtual 71, 3) := by decide +kernel
theorem d_U_halves_48 : decode c_U_halves 48 = .ok (.invokespecial 164, 3) := by decide +kernel
theorem d_U_halves_51 : decode c_U_halves 51 = .ok (.areturn, 1) := by decide +kernel
abbrev c_U_withEntry : ByteArray := prog_7_method_17_code
abbrev y_U_withEntry : MethodName := ⟨"FingerSpans$Rules", "withEntry", "(LFingerSpans$Tree;ILFingerSpans$Item;)LFingerSpans$Tree;"⟩
theorem k_U_withEntry : Cond.code y_U_withEntry c_U_withEntry 5 (some (FieldType.object "FingerSpans$Tree")) ∈ lw_tbl := List.mem_of_getElem? (i := 389) (by decide +kernel)
theorem b_U_withEntry : x_ce y_U_withEntry c_U_withEntry 5 (some (FieldType.object "FingerSpans$Tree")) 3 := ⟨k_U_withEntry, i_U, by decide +kernel⟩
theorem s_U_withEntry : Cond.instanceMethod y_U_withEntry ∈ lw_tbl := List.mem_of_getElem? (i := 388) (by decide +kernel)
theorem v_U_withEntry : Cond.selects "FingerSpans$Rules" y_U_withEntry y_U_withEntry ∈ lw_tbl := List.mem_of_getElem? (i := 24) (by decide +kernel)
theorem d_U_withEntry_0 : decode c_U_withEntry 0 = .ok (.iload_n 2, 1) := by decide +kernel
theorem d_U_withEntry_1 : decode c_U_withEntry 1 = .ok (.aload_n 1, 1) := by decide +kernel
theorem d_U_withEntry_2 : decode c_U_withEntry 2 = .ok (.getfield 132, 3) := by decide +kernel
theorem d_U_withEntry_5 : decode c_U_withEntry 5 = .ok (.if_icmp .lt 38, 3) := by decide +kernel
theorem d_U_withEntry_8 : decode c_U_withEntry 8 = .ok (.aload_n 0, 1) := by decide +kernel
theorem d_U_withEntry_9 : decode c_U_withEntry 9 = .ok (.aload_n 1, 1) := by decide +kernel
theorem d_U_withEntry_10 : decode c_U_withEntry 10 = .ok (.getfield 60, 3) := by decide +kernel
theorem d_U_withEntry_13 : decode c_U_withEntry 13 = .ok (.iload_n 2, 1) := by decide +kernel
theorem d_U_withEntry_14 : decode c_U_withEntry 14 = .ok (.aload_n 1, 1) := by decide +kernel
theorem d_U_withEntry_15 : decode c_U_withEntry 15 = .ok (.getfield 132, 3) := by decide +kernel
theorem d_U_withEntry_18 : decode c_U_withEntry 18 = .ok (.isub, 1) := by decide +kernel
theorem d_U_withEntry_19 : decode c_U_withEntry 19 = .ok (.aload_n 3, 1) := by decide +kernel
theorem d_U_withEntry_20 : decode c_U_withEntry 20 = .ok (.invokevirtual 167, 3) := by decide +kernel
theorem d_U_withEntry_23 : decode c_U_withEntry 23 = .ok (.astore 4, 2) := by decide +kernel
theorem d_U_withEntry_25 : decode c_U_withEntry 25 = .ok (.new 17, 3) := by decide +kernel
theorem d_U_withEntry_28 : decode c_U_withEntry 28 = .ok (.dup, 1) := by decide +kernel
theorem d_U_withEntry_29 : decode c_U_withEntry 29 = .ok (.aload_n 1, 1) := by decide +kernel
theorem d_U_withEntry_30 : decode c_U_withEntry 30 = .ok (.getfield 48, 3) := by decide +kernel
theorem d_U_withEntry_33 : decode c_U_withEntry 33 = .ok (.aload_n 1, 1) := by decide +kernel
theorem d_U_withEntry_34 : decode c_U_withEntry 34 = .ok (.getfield 57, 3) := by decide +kernel
theorem d_U_withEntry_37 : decode c_U_withEntry 37 = .ok (.aload 4, 2) := by decide +kernel
theorem d_U_withEntry_39 : decode c_U_withEntry 39 = .ok (.invokespecial 19, 3) := by decide +kernel
theorem d_U_withEntry_42 : decode c_U_withEntry 42 = .ok (.areturn, 1) := by decide +kernel
theorem d_U_withEntry_43 : decode c_U_withEntry 43 = .ok (.aload_n 1, 1) := by decide +kernel
theorem d_U_withEntry_44 : decode c_U_withEntry 44 = .ok (.iload_n 2, 1) := by decide +kernel
theorem d_U_withEntry_45 : decode c_U_withEntry 45 = .ok (.invokevirtual 139, 3) := by decide +kernel
theorem d_U_withEntry_48 : decode c_U_withEntry 48 = .ok (.ifCond .eq 38, 3) := by decide +kernel
theorem d_U_withEntry_51 : decode c_U_withEntry 51 = .ok (.aload_n 0, 1) := by decide +kernel
theorem d_U_withEntry_52 : decode c_U_withEntry 52 = .ok (.aload_n 1, 1) := by decide +kernel
theorem d_U_withEntry_53 : decode c_U_withEntry 53 = .ok (.getfield 57, 3) := by decide +kernel
theorem d_U_withEntry_56 : decode c_U_withEntry 56 = .ok (.iload_n 2, 1) := by decide +kernel
theorem d_U_withEntry_57 : decode c_U_withEntry 57 = .ok (.aload_n 1, 1) := by decide +kernel
theorem d_U_withEntry_58 : decode c_U_withEntry 58 = .ok (.invokevirtual 143, 3) := by decide +kernel
theorem d_U_withEntry_61 : decode c_U_withEntry 61 = .ok (.isub, 1) := by decide +kernel
theorem d_U_withEntry_62 : decode c_U_withEntry 62 = .ok (.aload_n 3, 1) := by decide +kernel
theorem d_U_withEntry_63 : decode c_U_withEntry 63 = .ok (.invokevirtual 171, 3) := by decide +kernel
theorem d_U_withEntry_66 : decode c_U_withEntry 66 = .ok (.astore 4, 2) := by decide +kernel
theorem d_U_withEntry_68 : decode c_U_withEntry 68 = .ok (.new 17, 3) := by decide +kernel
theorem d_U_withEntry_71 : decode c_U_withEntry 71 = .ok (.dup, 1) := by decide +kernel
theorem d_U_withEntry_72 : decode c_U_withEntry 72 = .ok (.aload_n 1, 1) := by decide +kernel
theorem d_U_withEntry_73 : decode c_U_withEntry 73 = .ok (.getfield 48, 3) := by decide +kernel
theorem d_U_withEntry_76 : decode c_U_withEntry 76 = .ok (.aload 4, 2) := by decide +kernel
theorem d_U_withEntry_78 : decode c_U_withEntry 78 = .ok (.aload_n 1, 1) := by decide +kernel
theorem d_U_withEntry_79 : decode c_U_withEntry 79 = .ok (.getfield 60, 3) := by decide +kernel
theorem d_U_withEntry_82 : decode c_U_withEntry 82 = .ok (.invokespecial 19, 3) := by decide +kernel
theorem d_U_withEntry_85 : decode c_U_withEntry 85 = .ok (.areturn, 1) := by decide +kernel
theorem d_U_withEntry_86 : decode c_U_withEntry 86 = .ok (.new 17, 3) := by decide +kernel
theorem d_U_withEntry_89 : decode c_U_withEntry 89 = .ok (.dup, 1) := by decide +kernel
theorem d_U_withEntry_90 : decode c_U_withEntry 90 = .ok (.aload_n 0, 1) := by decide +kernel
theorem d_U_withEntry_91 : decode c_U_withEntry 91 = .ok (.aload_n 1, 1) := by decide +kernel
theorem d_U_withEntry_92 : decode c_U_withEntry 92 = .ok (.getfield 48, 3) := by decide +kernel
theorem d_U_withEntry_95 : decode c_U_withEntry 95 = .ok (.iload_n 2, 1) := by decide +kernel
theorem d_U_withEntry_96 : decode c_U_withEntry 96 = .ok (.aload_n 3, 1) := by decide +kernel
theorem d_U_withEntry_97 : decode c_U_withEntry 97 = .ok (.invokevirtual 167, 3) := by decide +kernel
theorem d_U_withEntry_100 : decode c_U_withEntry 100 = .ok (.aload_n 1, 1) := by decide +kernel
theorem d_U_withEntry_101 : decode c_U_withEntry 101 = .ok (.getfield 57, 3) := by decide +kernel
theorem d_U_withEntry_104 : decode c_U_withEntry 104 = .ok (.aload_n 1, 1) := by decide +kernel
theorem d_U_withEntry_105 : decode c_U_withEntry 105 = .ok (.getfield 60, 3) := by decide +kernel
theorem d_U_withEntry_108 : decode c_U_withEntry 108 = .ok (.invokespecial 19, 3) := by decide +kernel
theorem d_U_withEntry_111 : decode c_U_withEntry 111 = .ok (.areturn, 1) := by decide +kernel
abbrev c_U_rowWithEntry : ByteArray := prog_7_method_18_code
abbrev y_U_rowWithEntry : MethodName := ⟨"FingerSpans$Rules", "rowWithEntry", "([LFingerSpans$Item;ILFingerSpans$Item;)[LFingerSpans$Item;"⟩
theorem k_U_rowWithEntry : Cond.code y_U_rowWithEntry c_U_rowWithEntry 7 (some (FieldType.array (FieldType.object "FingerSpans$Item"))) ∈ lw_tbl := List.mem_of_getElem? (i := 393) (by decide +kernel)
theorem b_U_rowWithEntry : x_ce y_U_rowWithEntry c_U_rowWithEntry 7 (some (FieldType.array (FieldType.object "FingerSpans$Item"))) 3 := ⟨k_U_rowWithEntry, i_U, by decide +kernel⟩
theorem s_U_rowWithEntry : Cond.instanceMethod y_U_rowWithEntry ∈ lw_tbl := List.mem_of_getElem? (i := 392) (by decide +kernel)
theorem v_U_rowWithEntry : Cond.selects "FingerSpans$Rules" y_U_rowWithEntry y_U_rowWithEntry ∈ lw_tbl := List.mem_of_getElem? (i := 25) (by decide +kernel)
theorem d_U_rowWithEntry_0 : decode c_U_rowWithEntry 0 = .ok (.aload_n 1, 1) := by decide +kernel
theorem d_U_rowWithEntry_1 : decode c_U_rowWithEntry 1 = .ok (.iload_n 2, 1) := by decide +kernel
theorem d_U_rowWithEntry_2 : decode c_U_rowWithEntry 2 = .ok (.invokestatic 135, 3) := by decide +kernel
theorem d_U_rowWithEntry_5 : decode c_U_rowWithEntry 5 = .ok (.istore 4, 2) := by decide +kernel
theorem d_U_rowWithEntry_7 : decode c_U_rowWithEntry 7 = .ok (.aload_n 1, 1) := by decide +kernel
theorem d_U_rowWithEntry_8 : decode c_U_rowWithEntry 8 = .ok (.invokevirtual 175, 3) := by decide +kernel
theorem d_U_rowWithEntry_11 : decode c_U_rowWithEntry 11 = .ok (.checkcast 176, 3) := by decide +kernel
theorem d_U_rowWithEntry_14 : decode c_U_rowWithEntry 14 = .ok (.astore 5, 2) := by decide +kernel
theorem d_U_rowWithEntry_16 : decode c_U_rowWithEntry 16 = .ok (.aload 5, 2) := by decide +kernel
theorem d_U_rowWithEntry_18 : decode c_U_rowWithEntry 18 = .ok (.iload 4, 2) := by decide +kernel
theorem d_U_rowWithEntry_20 : decode c_U_rowWithEntry 20 = .ok (.aload_n 3, 1) := by decide +kernel
theorem d_U_rowWithEntry_21 : decode c_U_rowWithEntry 21 = .ok (.aastore, 1) := by decide +kernel
theorem d_U_rowWithEntry_22 : decode c_U_rowWithEntry 22 = .ok (.aload_n 1, 1) := by decide +kernel
theorem d_U_rowWithEntry_23 : decode c_U_rowWithEntry 23 = .ok (.iload 4, 2) := by decide +kernel
theorem d_U_rowWithEntry_25 : decode c_U_rowWithEntry 25 = .ok (.aaload, 1) := by decide +kernel
theorem d_U_rowWithEntry_26 : decode c_U_rowWithEntry 26 = .ok (.invokevirtual 180, 3) := by decide +kernel
theorem d_U_rowWithEntry_29 : decode c_U_rowWithEntry 29 = .ok (.ifCond .eq 36, 3) := by decide +kernel
theorem d_U_rowWithEntry_32 : decode c_U_rowWithEntry 32 = .ok (.iload_n 2, 1) := by decide +kernel
theorem d_U_rowWithEntry_33 : decode c_U_rowWithEntry 33 = .ok (.aload_n 1, 1) := by decide +kernel
theorem d_U_rowWithEntry_34 : decode c_U_rowWithEntry 34 = .ok (.iload 4, 2) := by decide +kernel
theorem d_U_rowWithEntry_36 : decode c_U_rowWithEntry 36 = .ok (.invokestatic 183, 3) := by decide +kernel
theorem d_U_rowWithEntry_39 : decode c_U_rowWithEntry 39 = .ok (.isub, 1) := by decide +kernel
theorem d_U_rowWithEntry_40 : decode c_U_rowWithEntry 40 = .ok (.istore 6, 2) := by decide +kernel
theorem d_U_rowWithEntry_42 : decode c_U_rowWithEntry 42 = .ok (.aload 5, 2) := by decide +kernel
theorem d_U_rowWithEntry_44 : decode c_U_rowWithEntry 44 = .ok (.iload 4, 2) := by decide +kernel
theorem d_U_rowWithEntry_46 : decode c_U_rowWithEntry 46 = .ok (.aload_n 0, 1) := by decide +kernel
theorem d_U_rowWithEntry_47 : decode c_U_rowWithEntry 47 = .ok (.aload_n 0, 1) := by decide +kernel
theorem d_U_rowWithEntry_48 : decode c_U_rowWithEntry 48 = .ok (.aload_n 1, 1) := by decide +kernel
theorem d_U_rowWithEntry_49 : decode c_U_rowWithEntry 49 = .ok (.iload 4, 2) := by decide +kernel
theorem d_U_rowWithEntry_51 : decode c_U_rowWithEntry 51 = .ok (.aaload, 1) := by decide +kernel
theorem d_U_rowWithEntry_52 : decode c_U_rowWithEntry 52 = .ok (.getfield 97, 3) := by decide +kernel
theorem d_U_rowWithEntry_55 : decode c_U_rowWithEntry 55 = .ok (.iload 6, 2) := by decide +kernel
theorem d_U_rowWithEntry_57 : decode c_U_rowWithEntry 57 = .ok (.aload_n 3, 1) := by decide +kernel
theorem d_U_rowWithEntry_58 : decode c_U_rowWithEntry 58 = .ok (.invokevirtual 167, 3) := by decide +kernel
theorem d_U_rowWithEntry_61 : decode c_U_rowWithEntry 61 = .ok (.invokevirtual 67, 3) := by decide +kernel
theorem d_U_rowWithEntry_64 : decode c_U_rowWithEntry 64 = .ok (.aastore, 1) := by decide +kernel
theorem d_U_rowWithEntry_65 : decode c_U_rowWithEntry 65 = .ok (.aload 5, 2) := by decide +kernel
theorem d_U_rowWithEntry_67 : decode c_U_rowWithEntry 67 = .ok (.areturn, 1) := by decide +kernel
abbrev c_T_init : ByteArray := prog_8_method_1_code
abbrev y_T_init : MethodName := ⟨"FingerSpans$Tree", "<init>", "([LFingerSpans$Item;LFingerSpans$Tree;[LFingerSpans$Item;)V"⟩
theorem k_T_init : Cond.code y_T_init c_T_init 4 (none : Option FieldType) ∈ lw_tbl := List.mem_of_getElem? (i := 89) (by decide +kernel)
theorem b_T_init : x_ce y_T_init c_T_init 4 (none : Option FieldType) 3 := ⟨k_T_init, i_T, by decide +kernel⟩
theorem s_T_init : Cond.instanceMethod y_T_init ∈ lw_tbl := List.mem_of_getElem? (i := 88) (by decide +kernel)
theorem d_T_init_0 : decode c_T_init 0 = .ok (.aload_n 0, 1) := by decide +kernel
theorem d_T_init_1 : decode c_T_init 1 = .ok (.invokespecial 1, 3) := by decide +kernel
theorem d_T_init_4 : decode c_T_init 4 = .ok (.aload_n 0, 1) := by decide +kernel
theorem d_T_init_5 : decode c_T_init 5 = .ok (.aload_n 1, 1) := by decide +kernel
theorem d_T_init_6 : decode c_T_init 6 = .ok (.putfield 7, 3) := by decide +kernel
theorem d_T_init_9 : decode c_T_init 9 = .ok (.aload_n 0, 1) := by decide +kernel
theorem d_T_init_10 : decode c_T_init 10 = .ok (.aload_n 2, 1) := by decide +kernel
theorem d_T_init_11 : decode c_T_init 11 = .ok (.putfield 13, 3) := by decide +kernel
theorem d_T_init_14 : decode c_T_init 14 = .ok (.aload_n 0, 1) := by decide +kernel
theorem d_T_init_15 : decode c_T_init 15 = .ok (.aload_n 3, 1) := by decide +kernel
theorem d_T_init_16 : decode c_T_init 16 = .ok (.putfield 17, 3) := by decide +kernel
theorem d_T_init_19 : decode c_T_init 19 = .ok (.aload_n 0, 1) := by decide +kernel
theorem d_T_init_20 : decode c_T_init 20 = .ok (.aload_n 1, 1) := by decide +kernel
theorem d_T_init_21 : decode c_T_init 21 = .ok (.invokestatic 20, 3) := by decide +kernel
theorem d_T_init_24 : decode c_T_init 24 = .ok (.aload_n 2, 1) := by decide +kernel
theorem d_T_init_25 : decode c_T_init 25 = .ok (.ifnonnull 7, 3) := by decide +kernel
theorem d_T_init_28 : decode c_T_init 28 = .ok (.iconst 0, 1) := by decide +kernel
theorem d_T_init_29 : decode c_T_init 29 = .ok (.goto 7, 3) := by decide +kernel
theorem d_T_init_32 : decode c_T_init 32 = .ok (.aload_n 2, 1) := by decide +kernel
theorem d_T_init_33 : decode c_T_init 33 = .ok (.getfield 26, 3) := by decide +kernel
theorem d_T_init_36 : decode c_T_init 36 = .ok (.iadd, 1) := by decide +kernel
theorem d_T_init_37 : decode c_T_init 37 = .ok (.putfield 30, 3) := by decide +kernel
theorem d_T_init_40 : decode c_T_init 40 = .ok (.aload_n 0, 1) := by decide +kernel
theorem d_T_init_41 : decode c_T_init 41 = .ok (.aload_n 0, 1) := by decide +kernel
theorem d_T_init_42 : decode c_T_init 42 = .ok (.getfield 30, 3) := by decide +kernel
theorem d_T_init_45 : decode c_T_init 45 = .ok (.aload_n 3, 1) := by decide +kernel
theorem d_T_init_46 : decode c_T_init 46 = .ok (.invokestatic 20, 3) := by decide +kernel
theorem d_T_init_49 : decode c_T_init 49 = .ok (.iadd, 1) := by decide +kernel
theorem d_T_init_50 : decode c_T_init 50 = .ok (.putfield 26, 3) := by decide +kernel
theorem d_T_init_53 : decode c_T_init 53 = .ok (.return_, 1) := by decide +kernel
abbrev c_T_isEmpty : ByteArray := prog_8_method_2_code
abbrev y_T_isEmpty : MethodName := ⟨"FingerSpans$Tree", "isEmpty", "()Z"⟩
theorem k_T_isEmpty : Cond.code y_T_isEmpty c_T_isEmpty 1 (some FieldType.boolean) ∈ lw_tbl := List.mem_of_getElem? (i := 213) (by decide +kernel)
theorem b_T_isEmpty : x_ce y_T_isEmpty c_T_isEmpty 1 (some FieldType.boolean) 0 := ⟨k_T_isEmpty, i_T, by decide +kernel⟩
theorem s_T_isEmpty : Cond.instanceMethod y_T_isEmpty ∈ lw_tbl := List.mem_of_getElem? (i := 212) (by decide +kernel)
theorem v_T_isEmpty : Cond.selects "FingerSpans$Tree" y_T_isEmpty y_T_isEmpty ∈ lw_tbl := List.mem_of_getElem? (i := 3) (by decide +kernel)
theorem d_T_isEmpty_0 : decode c_T_isEmpty 0 = .ok (.aload_n 0, 1) := by decide +kernel
theorem d_T_isEmpty_1 : decode c_T_isEmpty 1 = .ok (.getfield 7, 3) := by decide +kernel
theorem d_T_isEmpty_4 : decode c_T_isEmpty 4 = .ok (.arraylength, 1) := by decide +kernel
theorem d_T_isEmpty_5 : decode c_T_isEmpty 5 = .ok (.ifCond .ne 7, 3) := by decide +kernel
theorem d_T_isEmpty_8 : decode c_T_isEmpty 8 = .ok (.iconst 1, 1) := by decide +kernel
theorem d_T_isEmpty_9 : decode c_T_isEmpty 9 = .ok (.goto 4, 3) := by decide +kernel
theorem d_T_isEmpty_12 : decode c_T_isEmpty 12 = .ok (.iconst 0, 1) := by decide +kernel
theorem d_T_isEmpty_13 : decode c_T_isEmpty 13 = .ok (.ireturn, 1) := by decide +kernel
abbrev c_T_isDeep : ByteArray := prog_8_method_3_code
abbrev y_T_isDeep : MethodName := ⟨"FingerSpans$Tree", "isDeep", "()Z"⟩
theorem k_T_isDeep : Cond.code y_T_isDeep c_T_isDeep 1 (some FieldType.boolean) ∈ lw_tbl := List.mem_of_getElem? (i := 224) (by decide +kernel)
theorem b_T_isDeep : x_ce y_T_isDeep c_T_isDeep 1 (some FieldType.boolean) 0 := ⟨k_T_isDeep, i_T, by decide +kernel⟩
theorem s_T_isDeep : Cond.instanceMethod y_T_isDeep ∈ lw_tbl := List.mem_of_getElem? (i := 223) (by decide +kernel)
theorem v_T_isDeep : Cond.selects "FingerSpans$Tree" y_T_isDeep y_T_isDeep ∈ lw_tbl := List.mem_of_getElem? (i := 5) (by decide +kernel)
theorem d_T_isDeep_0 : decode c_T_isDeep 0 = .ok (.aload_n 0, 1) := by decide +kernel
theorem d_T_isDeep_1 : decode c_T_isDeep 1 = .ok (.getfield 13, 3) := by decide +kernel
theorem d_T_isDeep_4 : decode c_T_isDeep 4 = .ok (.ifnull 7, 3) := by decide +kernel
theorem d_T_isDeep_7 : decode c_T_isDeep 7 = .ok (.iconst 1, 1) := by decide +kernel
theorem d_T_isDeep_8 : decode c_T_isDeep 8 = .ok (.goto 4, 3) := by decide +kernel
theorem d_T_isDeep_11 : decode c_T_isDeep 11 = .ok (.iconst 0, 1) := by decide +kernel
theorem d_T_isDeep_12 : decode c_T_isDeep 12 = .ok (.ireturn, 1) := by decide +kernel
abbrev c_T_middleStart : ByteArray := prog_8_method_4_code
abbrev y_T_middleStart : MethodName := ⟨"FingerSpans$Tree", "middleStart", "()I"⟩
theorem k_T_middleStart : Cond.code y_T_middleStart c_T_middleStart 1 (some FieldType.int) ∈ lw_tbl := List.mem_of_getElem? (i := 376) (by decide +kernel)
theorem b_T_middleStart : x_ce y_T_middleStart c_T_middleStart 1 (some FieldType.int) 0 := ⟨k_T_middleStart, i_T, by decide +kernel⟩
theorem s_T_middleStart : Cond.instanceMethod y_T_middleStart ∈ lw_tbl := List.mem_of_getElem? (i := 375) (by decide +kernel)
theorem v_T_middleStart : Cond.selects "FingerSpans$Tree" y_T_middleStart y_T_middleStart ∈ lw_tbl := List.mem_of_getElem? (i := 22) (by decide +kernel)
theorem d_T_middleStart_0 : decode c_T_middleStart 0 = .ok (.aload_n 0, 1) := by decide +kernel
theorem d_T_middleStart_1 : decode c_T_middleStart 1 = .ok (.invokevirtual 33, 3) := by decide +kernel
theorem d_T_middleStart_4 : decode c_T_middleStart 4 = .ok (.ifCond .eq 18, 3) := by decide +kernel
theorem d_T_middleStart_7 : decode c_T_middleStart 7 = .ok (.aload_n 0, 1) := by decide +kernel
theorem d_T_middleStart_8 : decode c_T_middleStart 8 = .ok (.getfield 30, 3) := by decide +kernel
theorem d_T_middleStart_11 : decode c_T_middleStart 11 = .ok (.aload_n 0, 1) := by decide +kernel
theorem d_T_middleStart_12 : decode c_T_middleStart 12 = .ok (.getfield 13, 3) := by decide +kernel
theorem d_T_middleStart_15 : decode c_T_middleStart 15 = .ok (.getfield 26, 3) := by decide +kernel
theorem d_T_middleStart_18 : decode c_T_middleStart 18 = .ok (.isub, 1) := by decide +kernel
theorem d_T_middleStart_19 : decode c_T_middleStart 19 = .ok (.goto 7, 3) := by decide +kernel
theorem d_T_middleStart_22 : decode c_T_middleStart 22 = .ok (.aload_n 0, 1) := by decide +kernel
theorem d_T_middleStart_23 : decode c_T_middleStart 23 = .ok (.getfield 30, 3) := by decide +kernel
theorem d_T_middleStart_26 : decode c_T_middleStart 26 = .ok (.ireturn, 1) := by decide +kernel
abbrev c_T_holdsInMiddle : ByteArray := prog_8_method_5_code
abbrev y_T_holdsInMiddle : MethodName := ⟨"FingerSpans$Tree", "holdsInMiddle", "(I)Z"⟩
theorem k_T_holdsInMiddle : Cond.code y_T_holdsInMiddle c_T_holdsInMiddle 2 (some FieldType.boolean) ∈ lw_tbl := List.mem_of_getElem? (i := 372) (by decide +kernel)
theorem b_T_holdsInMiddle : x_ce y_T_holdsInMiddle c_T_holdsInMiddle 2 (some FieldType.boolean) 1 := ⟨k_T_holdsInMiddle, i_T, by decide +kernel⟩
theorem s_T_holdsInMiddle : Cond.instanceMethod y_T_holdsInMiddle ∈ lw_tbl := List.mem_of_getElem? (i := 371) (by decide +kernel)
theorem v_T_holdsInMiddle : Cond.selects "FingerSpans$Tree" y_T_holdsInMiddle y_T_holdsInMiddle ∈ lw_tbl := List.mem_of_getElem? (i := 21) (by decide +kernel)
theorem d_T_holdsInMiddle_0 : decode c_T_holdsInMiddle 0 = .ok (.iload_n 1, 1) := by decide +kernel
theorem d_T_holdsInMiddle_1 : decode c_T_holdsInMiddle 1 = .ok (.aload_n 0, 1) := by decide +kernel
theorem d_T_holdsInMiddle_2 : decode c_T_holdsInMiddle 2 = .ok (.invokevirtual 37, 3) := by decide +kernel
theorem d_T_holdsInMiddle_5 : decode c_T_holdsInMiddle 5 = .ok (.if_icmp .lt 15, 3) := by decide +kernel
theorem d_T_holdsInMiddle_8 : decode c_T_holdsInMiddle 8 = .ok (.iload_n 1, 1) := by decide +kernel
theorem d_T_holdsInMiddle_9 : decode c_T_holdsInMiddle 9 = .ok (.aload_n 0, 1) := by decide +kernel
theorem d_T_holdsInMiddle_10 : decode c_T_holdsInMiddle 10 = .ok (.getfield 30, 3) := by decide +kernel
theorem d_T_holdsInMiddle_13 : decode c_T_holdsInMiddle 13 = .ok (.if_icmp .ge 7, 3) := by decide +kernel
theorem d_T_holdsInMiddle_16 : decode c_T_holdsInMiddle 16 = .ok (.iconst 1, 1) := by decide +kernel
theorem d_T_holdsInMiddle_17 : decode c_T_holdsInMiddle 17 = .ok (.goto 4, 3) := by decide +kernel
theorem d_T_holdsInMiddle_20 : decode c_T_holdsInMiddle 20 = .ok (.iconst 0, 1) := by decide +kernel
theorem d_T_holdsInMiddle_21 : decode c_T_holdsInMiddle 21 = .ok (.ireturn, 1) := by decide +kernel
abbrev c_T_first : ByteArray := prog_8_method_6_code
abbrev y_T_first : MethodName := ⟨"FingerSpans$Tree", "first", "()LFingerSpans$Item;"⟩
theorem k_T_first : Cond.code y_T_first c_T_first 1 (some (FieldType.object "FingerSpans$Item")) ∈ lw_tbl := List.mem_of_getElem? (i := 286) (by decide +kernel)
theorem b_T_first : x_ce y_T_first c_T_first 1 (some (FieldType.object "FingerSpans$Item")) 0 := ⟨k_T_first, i_T, by decide +kernel⟩
theorem s_T_first : Cond.instanceMethod y_T_first ∈ lw_tbl := List.mem_of_getElem? (i := 285) (by decide +kernel)
theorem v_T_first : Cond.selects "FingerSpans$Tree" y_T_first y_T_first ∈ lw_tbl := List.mem_of_getElem? (i := 13) (by decide +kernel)
theorem d_T_first_0 : decode c_T_first 0 = .ok (.aload_n 0, 1) := by decide +kernel
theorem d_T_first_1 : decode c_T_first 1 = .ok (.getfield 7, 3) := by decide +kernel
theorem d_T_first_4 : decode c_T_first 4 = .ok (.iconst 0, 1) := by decide +kernel
theorem d_T_first_5 : decode c_T_first 5 = .ok (.aaload, 1) := by decide +kernel
theorem d_T_first_6 : decode c_T_first 6 = .ok (.areturn, 1) := by decide +kernel
abbrev c_T_last : ByteArray := prog_8_method_7_code
abbrev y_T_last : MethodName := ⟨"FingerSpans$Tree", "last", "()LFingerSpans$Item;"⟩
theorem k_T_last : Cond.code y_T_last c_T_last 1 (some (FieldType.object "FingerSpans$Item")) ∈ lw_tbl := List.mem_of_getElem? (i := 263) (by decide +kernel)
theorem b_T_last : x_ce y_T_last c_T_last 1 (some (FieldType.object "FingerSpans$Item")) 0 := ⟨k_T_last, i_T, by decide +kernel⟩
theorem s_T_last : Cond.instanceMethod y_T_last ∈ lw_tbl := List.mem_of_getElem? (i := 262) (by decide +kernel)
theorem v_T_last : Cond.selects "FingerSpans$Tree" y_T_last y_T_last ∈ lw_tbl := List.mem_of_getElem? (i := 9) (by decide +kernel)
theorem d_T_last_0 : decode c_T_last 0 = .ok (.aload_n 0, 1) := by decide +kernel
theorem d_T_last_1 : decode c_T_last 1 = .ok (.invokevirtual 33, 3) := by decide +kernel
theorem d_T_last_4 : decode c_T_last 4 = .ok (.ifCond .eq 18, 3) := by decide +kernel
theorem d_T_last_7 : decode c_T_last 7 = .ok (.aload_n 0, 1) := by decide +kernel
theorem d_T_last_8 : decode c_T_last 8 = .ok (.getfield 17, 3) := by decide +kernel
theorem d_T_last_11 : decode c_T_last 11 = .ok (.aload_n 0, 1) := by decide +kernel
theorem d_T_last_12 : decode c_T_last 12 = .ok (.getfield 17, 3) := by decide +kernel
theorem d_T_last_15 : decode c_T_last 15 = .ok (.arraylength, 1) := by decide +kernel
theorem d_T_last_16 : decode c_T_last 16 = .ok (.iconst 1, 1) := by decide +kernel
theorem d_T_last_17 : decode c_T_last 17 = .ok (.isub, 1) := by decide +kernel
theorem d_T_last_18 : decode c_T_last 18 = .ok (.aaload, 1) := by decide +kernel
theorem d_T_last_19 : decode c_T_last 19 = .ok (.goto 9, 3) := by decide +kernel
theorem d_T_last_22 : decode c_T_last 22 = .ok (.aload_n 0, 1) := by decide +kernel
theorem d_T_last_23 : decode c_T_last 23 = .ok (.getfield 7, 3) := by decide +kernel
theorem d_T_last_26 : decode c_T_last 26 = .ok (.iconst 0, 1) := by decide +kernel
theorem d_T_last_27 : decode c_T_last 27 = .ok (.aaload, 1) := by decide +kernel
theorem d_T_last_28 : decode c_T_last 28 = .ok (.areturn, 1) := by decide +kernel
abbrev c_T_entryAt : ByteArray := prog_8_method_8_code
abbrev y_T_entryAt : MethodName := ⟨"FingerSpans$Tree", "entryAt", "(I)LFingerSpans$Item;"⟩
theorem k_T_entryAt : Cond.code y_T_entryAt c_T_entryAt 2 (some (FieldType.object "FingerSpans$Item")) ∈ lw_tbl := List.mem_of_getElem? (i := 426) (by decide +kernel)
theorem b_T_entryAt : x_ce y_T_entryAt c_T_entryAt 2 (some (FieldType.object "FingerSpans$Item")) 1 := ⟨k_T_entryAt, i_T, by decide +kernel⟩
theorem s_T_entryAt : Cond.instanceMethod y_T_entryAt ∈ lw_tbl := List.mem_of_getElem? (i := 425) (by decide +kernel)
theorem v_T_entryAt : Cond.selects "FingerSpans$Tree" y_T_entryAt y_T_entryAt ∈ lw_tbl := List.mem_of_getElem? (i := 27) (by decide +kernel)
theorem d_T_entryAt_0 : decode c_T_entryAt 0 = .ok (.iload_n 1, 1) := by decide +kernel
theorem d_T_entryAt_1 : decode c_T_entryAt 1 = .ok (.aload_n 0, 1) := by decide +kernel
theorem d_T_entryAt_2 : decode c_T_entryAt 2 = .ok (.getfield 30, 3) := by decide +kernel
theorem d_T_entryAt_5 : decode c_T_entryAt 5 = .ok (.if_icmp .lt 17, 3) := by decide +kernel
theorem d_T_entryAt_8 : decode c_T_entryAt 8 = .ok (.aload_n 0, 1) := by decide +kernel
theorem d_T_entryAt_9 : decode c_T_entryAt 9 = .ok (.getfield 17, 3) := by decide +kernel
theorem d_T_entryAt_12 : decode c_T_entryAt 12 = .ok (.iload_n 1, 1) := by decide +kernel
theorem d_T_entryAt_13 : decode c_T_entryAt 13 = .ok (.aload_n 0, 1) := by decide +kernel
theorem d_T_entryAt_14 : decode c_T_entryAt 14 = .ok (.getfield 30, 3) := by decide +kernel
theorem d_T_entryAt_17 : decode c_T_entryAt 17 = .ok (.isub, 1) := by decide +kernel
theorem d_T_entryAt_18 : decode c_T_entryAt 18 = .ok (.invokestatic 41, 3) := by decide +kernel
theorem d_T_entryAt_21 : decode c_T_entryAt 21 = .ok (.areturn, 1) := by decide +kernel
theorem d_T_entryAt_22 : decode c_T_entryAt 22 = .ok (.aload_n 0, 1) := by decide +kernel
theorem d_T_entryAt_23 : decode c_T_entryAt 23 = .ok (.iload_n 1, 1) := by decide +kernel
theorem d_T_entryAt_24 : decode c_T_entryAt 24 = .ok (.invokevirtual 45, 3) := by decide +kernel
theorem d_T_entryAt_27 : decode c_T_entryAt 27 = .ok (.ifCond .eq 17, 3) := by decide +kernel
theorem d_T_entryAt_30 : decode c_T_entryAt 30 = .ok (.aload_n 0, 1) := by decide +kernel
theorem d_T_entryAt_31 : decode c_T_entryAt 31 = .ok (.getfield 13, 3) := by decide +kernel
theorem d_T_entryAt_34 : decode c_T_entryAt 34 = .ok (.iload_n 1, 1) := by decide +kernel
theorem d_T_entryAt_35 : decode c_T_entryAt 35 = .ok (.aload_n 0, 1) := by decide +kernel
theorem d_T_entryAt_36 : decode c_T_entryAt 36 = .ok (.invokevirtual 37, 3) := by decide +kernel
theorem d_T_entryAt_39 : decode c_T_entryAt 39 = .ok (.isub, 1) := by decide +kernel
theorem d_T_entryAt_40 : decode c_T_entryAt 40 = .ok (.invokevirtual 49, 3) := by decide +kernel
theorem d_T_entryAt_43 : decode c_T_entryAt 43 = .ok (.areturn, 1) := by decide +kernel
theorem d_T_entryAt_44 : decode c_T_entryAt 44 = .ok (.aload_n 0, 1) := by decide +kernel
theorem d_T_entryAt_45 : decode c_T_entryAt 45 = .ok (.getfield 7, 3) := by decide +kernel
theorem d_T_entryAt_48 : decode c_T_entryAt 48 = .ok (.iload_n 1, 1) := by decide +kernel
theorem d_T_entryAt_49 : decode c_T_entryAt 49 = .ok (.invokestatic 41, 3) := by decide +kernel
theorem d_T_entryAt_52 : decode c_T_entryAt 52 = .ok (.areturn, 1) := by decide +kernel
abbrev c_T_levelOf : ByteArray := prog_8_method_9_code
abbrev y_T_levelOf : MethodName := ⟨"FingerSpans$Tree", "levelOf", "(I)I"⟩
theorem k_T_levelOf : Cond.code y_T_levelOf c_T_levelOf 2 (some FieldType.int) ∈ lw_tbl := List.mem_of_getElem? (i := 499) (by decide +kernel)
theorem b_T_levelOf : x_ce y_T_levelOf c_T_levelOf 2 (some FieldType.int) 1 := ⟨k_T_levelOf, i_T, by decide +kernel⟩
theorem s_T_levelOf : Cond.instanceMethod y_T_levelOf ∈ lw_tbl := List.mem_of_getElem? (i := 498) (by decide +kernel)
theorem v_T_levelOf : Cond.selects "FingerSpans$Tree" y_T_levelOf y_T_levelOf ∈ lw_tbl := List.mem_of_getElem? (i := 28) (by decide +kernel)
theorem d_T_levelOf_0 : decode c_T_levelOf 0 = .ok (.aload_n 0, 1) := by decide +kernel
theorem d_T_levelOf_1 : decode c_T_levelOf 1 = .ok (.iload_n 1, 1) := by decide +kernel
theorem d_T_levelOf_2 : decode c_T_levelOf 2 = .ok (.invokevirtual 45, 3) := by decide +kernel
theorem d_T_levelOf_5 : decode c_T_levelOf 5 = .ok (.ifCond .eq 21, 3) := by decide +kernel
theorem d_T_levelOf_8 : decode c_T_levelOf 8 = .ok (.iconst 1, 1) := by decide +kernel
theorem d_T_levelOf_9 : decode c_T_levelOf 9 = .ok (.aload_n 0, 1) := by decide +kernel
theorem d_T_levelOf_10 : decode c_T_levelOf 10 = .ok (.getfield 13, 3) := by decide +kernel
theorem d_T_levelOf_13 : decode c_T_levelOf 13 = .ok (.iload_n 1, 1) := by decide +kernel
theorem d_T_levelOf_14 : decode c_T_levelOf 14 = .ok (.aload_n 0, 1) := by decide +kernel
theorem d_T_levelOf_15 : decode c_T_levelOf 15 = .ok (.invokevirtual 37, 3) := by decide +kernel
theorem d_T_levelOf_18 : decode c_T_levelOf 18 = .ok (.isub, 1) := by decide +kernel
theorem d_T_levelOf_19 : decode c_T_levelOf 19 = .ok (.invokevirtual 52, 3) := by decide +kernel
theorem d_T_levelOf_22 : decode c_T_levelOf 22 = .ok (.iadd, 1) := by decide +kernel
theorem d_T_levelOf_23 : decode c_T_levelOf 23 = .ok (.goto 4, 3) := by decide +kernel
theorem d_T_levelOf_26 : decode c_T_levelOf 26 = .ok (.iconst 0, 1) := by decide +kernel
theorem d_T_levelOf_27 : decode c_T_levelOf 27 = .ok (.ireturn, 1) := by decide +kernel
end
section
/-! Methods: codes, names, decoded instructions: written by wip/whole/tools/names.py out of the claim. -/
abbrev c_L_law : ByteArray := code
theorem d_L_law_0 : decode c_L_law 0 = .ok (.new 7, 3) := by decide +kernel
theorem d_L_law_3 : decode c_L_law 3 = .ok (.dup, 1) := by decide +kernel
theorem d_L_law_4 : decode c_L_law 4 = .ok (.invokespecial 9, 3) := by decide +kernel
theorem d_L_law_7 : decode c_L_law 7 = .ok (.astore_n 1, 1) := by decide +kernel
theorem d_L_law_8 : decode c_L_law 8 = .ok (.new 10, 3) := by decide +kernel
theorem d_L_law_11 : decode c_L_law 11 = .ok (.dup, 1) := by decide +kernel
theorem d_L_law_12 : decode c_L_law 12 = .ok (.invokespecial 12, 3) := by decide +kernel
theorem d_L_law_15 : decode c_L_law 15 = .ok (.astore_n 2, 1) := by decide +kernel
theorem d_L_law_16 : decode c_L_law 16 = .ok (.iconst 0, 1) := by decide +kernel
theorem d_L_law_17 : decode c_L_law 17 = .ok (.istore_n 3, 1) := by decide +kernel
theorem d_L_law_18 : decode c_L_law 18 = .ok (.iload_n 3, 1) := by decide +kernel
theorem d_L_law_19 : decode c_L_law 19 = .ok (.aload_n 0, 1) := by decide +kernel
theorem d_L_law_20 : decode c_L_law 20 = .ok (.arraylength, 1) := by decide +kernel
theorem d_L_law_21 : decode c_L_law 21 = .ok (.iconst 5, 1) := by decide +kernel
theorem d_L_law_22 : decode c_L_law 22 = .ok (.isub, 1) := by decide +kernel
theorem d_L_law_23 : decode c_L_law 23 = .ok (.if_icmp .gt 838, 3) := by decide +kernel
theorem d_L_law_26 : decode c_L_law 26 = .ok (.aload_n 0, 1) := by decide +kernel
theorem d_L_law_27 : decode c_L_law 27 = .ok (.iload_n 3, 1) := by decide +kernel
theorem d_L_law_28 : decode c_L_law 28 = .ok (.iaload, 1) := by decide +kernel
theorem d_L_law_29 : decode c_L_law 29 = .ok (.bipush 31, 2) := by decide +kernel
theorem d_L_law_31 : decode c_L_law 31 = .ok (.iand, 1) := by decide +kernel
theorem d_L_law_32 : decode c_L_law 32 = .ok (.tableswitch 823 0 19 #[96, 139, 182, 205, 228, 261, 294, 347, 390, 413, 436, 469, 502, 536, 609, 662, 685, 744, 777, 810], 96) := by decide +kernel
theorem d_L_law_128 : decode c_L_law 128 = .ok (.aload_n 1, 1) := by decide +kernel
theorem d_L_law_129 : decode c_L_law 129 = .ok (.aload_n 0, 1) := by decide +kernel
theorem d_L_law_130 : decode c_L_law 130 = .ok (.iload_n 3, 1) := by decide +kernel
theorem d_L_law_131 : decode c_L_law 131 = .ok (.iconst 1, 1) := by decide +kernel
theorem d_L_law_132 : decode c_L_law 132 = .ok (.iadd, 1) := by decide +kernel
theorem d_L_law_133 : decode c_L_law 133 = .ok (.iaload, 1) := by decide +kernel
theorem d_L_law_134 : decode c_L_law 134 = .ok (.aload_n 0, 1) := by decide +kernel
theorem d_L_law_135 : decode c_L_law 135 = .ok (.iload_n 3, 1) := by decide +kernel
theorem d_L_law_136 : decode c_L_law 136 = .ok (.iconst 2, 1) := by decide +kernel
theorem d_L_law_137 : decode c_L_law 137 = .ok (.iadd, 1) := by decide +kernel
theorem d_L_law_138 : decode c_L_law 138 = .ok (.iaload, 1) := by decide +kernel
theorem d_L_law_139 : decode c_L_law 139 = .ok (.aload_n 0, 1) := by decide +kernel
theorem d_L_law_140 : decode c_L_law 140 = .ok (.iload_n 3, 1) := by decide +kernel
theorem d_L_law_141 : decode c_L_law 141 = .ok (.iconst 3, 1) := by decide +kernel
theorem d_L_law_142 : decode c_L_law 142 = .ok (.iadd, 1) := by decide +kernel
theorem d_L_law_143 : decode c_L_law 143 = .ok (.iaload, 1) := by decide +kernel
theorem d_L_law_144 : decode c_L_law 144 = .ok (.invokevirtual 13, 3) := by decide +kernel
theorem d_L_law_147 : decode c_L_law 147 = .ok (.aload_n 2, 1) := by decide +kernel
theorem d_L_law_148 : decode c_L_law 148 = .ok (.aload_n 0, 1) := by decide +kernel
theorem d_L_law_149 : decode c_L_law 149 = .ok (.iload_n 3, 1) := by decide +kernel
theorem d_L_law_150 : decode c_L_law 150 = .ok (.iconst 1, 1) := by decide +kernel
theorem d_L_law_151 : decode c_L_law 151 = .ok (.iadd, 1) := by decide +kernel
theorem d_L_law_152 : decode c_L_law 152 = .ok (.iaload, 1) := by decide +kernel
theorem d_L_law_153 : decode c_L_law 153 = .ok (.aload_n 0, 1) := by decide +kernel
theorem d_L_law_154 : decode c_L_law 154 = .ok (.iload_n 3, 1) := by decide +kernel
theorem d_L_law_155 : decode c_L_law 155 = .ok (.iconst 2, 1) := by decide +kernel
theorem d_L_law_156 : decode c_L_law 156 = .ok (.iadd, 1) := by decide +kernel
theorem d_L_law_157 : decode c_L_law 157 = .ok (.iaload, 1) := by decide +kernel
theorem d_L_law_158 : decode c_L_law 158 = .ok (.aload_n 0, 1) := by decide +kernel
theorem d_L_law_159 : decode c_L_law 159 = .ok (.iload_n 3, 1) := by decide +kernel
theorem d_L_law_160 : decode c_L_law 160 = .ok (.iconst 3, 1) := by decide +kernel
theorem d_L_law_161 : decode c_L_law 161 = .ok (.iadd, 1) := by decide +kernel
theorem d_L_law_162 : decode c_L_law 162 = .ok (.iaload, 1) := by decide +kernel
theorem d_L_law_163 : decode c_L_law 163 = .ok (.invokevirtual 17, 3) := by decide +kernel
theorem d_L_law_166 : decode c_L_law 166 = .ok (.if_icmp .eq 689, 3) := by decide +kernel
theorem d_L_law_169 : decode c_L_law 169 = .ok (.iconst 0, 1) := by decide +kernel
theorem d_L_law_170 : decode c_L_law 170 = .ok (.ireturn, 1) := by decide +kernel
theorem d_L_law_171 : decode c_L_law 171 = .ok (.aload_n 1, 1) := by decide +kernel
theorem d_L_law_172 : decode c_L_law 172 = .ok (.aload_n 0, 1) := by decide +kernel
theorem d_L_law_173 : decode c_L_law 173 = .ok (.iload_n 3, 1) := by decide +kernel
theorem d_L_law_174 : decode c_L_law 174 = .ok (.iconst 1, 1) := by decide +kernel
theorem d_L_law_175 : decode c_L_law 175 = .ok (.iadd, 1) := by decide +kernel
theorem d_L_law_176 : decode c_L_law 176 = .ok (.iaload, 1) := by decide +kernel
theorem d_L_law_177 : decode c_L_law 177 = .ok (.aload_n 0, 1) := by decide +kernel
theorem d_L_law_178 : decode c_L_law 178 = .ok (.iload_n 3, 1) := by decide +kernel
theorem d_L_law_179 : decode c_L_law 179 = .ok (.iconst 2, 1) := by decide +kernel
theorem d_L_law_180 : decode c_L_law 180 = .ok (.iadd, 1) := by decide +kernel
theorem d_L_law_181 : decode c_L_law 181 = .ok (.iaload, 1) := by decide +kernel
theorem d_L_law_182 : decode c_L_law 182 = .ok (.aload_n 0, 1) := by decide +kernel
theorem d_L_law_183 : decode c_L_law 183 = .ok (.iload_n 3, 1) := by decide +kernel
theorem d_L_law_184 : decode c_L_law 184 = .ok (.iconst 3, 1) := by decide +kernel
theorem d_L_law_185 : decode c_L_law 185 = .ok (.iadd, 1) := by decide +kernel
theorem d_L_law_186 : decode c_L_law 186 = .ok (.iaload, 1) := by decide +kernel
theorem d_L_law_187 : decode c_L_law 187 = .ok (.invokevirtual 18, 3) := by decide +kernel
theorem d_L_law_190 : decode c_L_law 190 = .ok (.aload_n 2, 1) := by decide +kernel
theorem d_L_law_191 : decode c_L_law 191 = .ok (.aload_n 0, 1) := by decide +kernel
theorem d_L_law_192 : decode c_L_law 192 = .ok (.iload_n 3, 1) := by decide +kernel
theorem d_L_law_193 : decode c_L_law 193 = .ok (.iconst 1, 1) := by decide +kernel
theorem d_L_law_194 : decode c_L_law 194 = .ok (.iadd, 1) := by decide +kernel
theorem d_L_law_195 : decode c_L_law 195 = .ok (.iaload, 1) := by decide +kernel
theorem d_L_law_196 : decode c_L_law 196 = .ok (.aload_n 0, 1) := by decide +kernel
theorem d_L_law_197 : decode c_L_law 197 = .ok (.iload_n 3, 1) := by decide +kernel
theorem d_L_law_198 : decode c_L_law 198 = .ok (.iconst 2, 1) := by decide +kernel
theorem d_L_law_199 : decode c_L_law 199 = .ok (.iadd, 1) := by decide +kernel
theorem d_L_law_200 : decode c_L_law 200 = .ok (.iaload, 1) := by decide +kernel
theorem d_L_law_201 : decode c_L_law 201 = .ok (.aload_n 0, 1) := by decide +kernel
theorem d_L_law_202 : decode c_L_law 202 = .ok (.iload_n 3, 1) := by decide +kernel
theorem d_L_law_203 : decode c_L_law 203 = .ok (.iconst 3, 1) := by decide +kernel
theorem d_L_law_204 : decode c_L_law 204 = .ok (.iadd, 1) := by decide +kernel
theorem d_L_law_205 : decode c_L_law 205 = .ok (.iaload, 1) := by decide +kernel
theorem d_L_law_206 : decode c_L_law 206 = .ok (.invokevirtual 21, 3) := by decide +kernel
theorem d_L_law_209 : decode c_L_law 209 = .ok (.if_icmp .eq 646, 3) := by decide +kernel
theorem d_L_law_212 : decode c_L_law 212 = .ok (.iconst 0, 1) := by decide +kernel
theorem d_L_law_213 : decode c_L_law 213 = .ok (.ireturn, 1) := by decide +kernel
theorem d_L_law_214 : decode c_L_law 214 = .ok (.aload_n 1, 1) := by decide +kernel
theorem d_L_law_215 : decode c_L_law 215 = .ok (.aload_n 0, 1) := by decide +kernel
theorem d_L_law_216 : decode c_L_law 216 = .ok (.iload_n 3, 1) := by decide +kernel
theorem d_L_law_217 : decode c_L_law 217 = .ok (.iconst 1, 1) := by decide +kernel
theorem d_L_law_218 : decode c_L_law 218 = .ok (.iadd, 1) := by decide +kernel
theorem d_L_law_219 : decode c_L_law 219 = .ok (.iaload, 1) := by decide +kernel
theorem d_L_law_220 : decode c_L_law 220 = .ok (.invokevirtual 22, 3) := by decide +kernel
theorem d_L_law_223 : decode c_L_law 223 = .ok (.aload_n 2, 1) := by decide +kernel
theorem d_L_law_224 : decode c_L_law 224 = .ok (.aload_n 0, 1) := by decide +kernel
theorem d_L_law_225 : decode c_L_law 225 = .ok (.iload_n 3, 1) := by decide +kernel
theorem d_L_law_226 : decode c_L_law 226 = .ok (.iconst 1, 1) := by decide +kernel
theorem d_L_law_227 : decode c_L_law 227 = .ok (.iadd, 1) := by decide +kernel
theorem d_L_law_228 : decode c_L_law 228 = .ok (.iaload, 1) := by decide +kernel
theorem d_L_law_229 : decode c_L_law 229 = .ok (.invokevirtual 26, 3) := by decide +kernel
theorem d_L_law_232 : decode c_L_law 232 = .ok (.if_icmp .eq 623, 3) := by decide +kernel
theorem d_L_law_235 : decode c_L_law 235 = .ok (.iconst 0, 1) := by decide +kernel
theorem d_L_law_236 : decode c_L_law 236 = .ok (.ireturn, 1) := by decide +kernel
theorem d_L_law_237 : decode c_L_law 237 = .ok (.aload_n 1, 1) := by decide +kernel
theorem d_L_law_238 : decode c_L_law 238 = .ok (.aload_n 0, 1) := by decide +kernel
theorem d_L_law_239 : decode c_L_law 239 = .ok (.iload_n 3, 1) := by decide +kernel
theorem d_L_law_240 : decode c_L_law 240 = .ok (.iconst 1, 1) := by decide +kernel
theorem d_L_law_241 : decode c_L_law 241 = .ok (.iadd, 1) := by decide +kernel
theorem d_L_law_242 : decode c_L_law 242 = .ok (.iaload, 1) := by decide +kernel
theorem d_L_law_243 : decode c_L_law 243 = .ok (.invokevirtual 27, 3) := by decide +kernel
theorem d_L_law_246 : decode c_L_law 246 = .ok (.aload_n 2, 1) := by decide +kernel
theorem d_L_law_247 : decode c_L_law 247 = .ok (.aload_n 0, 1) := by decide +kernel
theorem d_L_law_248 : decode c_L_law 248 = .ok (.iload_n 3, 1) := by decide +kernel
theorem d_L_law_249 : decode c_L_law 249 = .ok (.iconst 1, 1) := by decide +kernel
theorem d_L_law_250 : decode c_L_law 250 = .ok (.iadd, 1) := by decide +kernel
theorem d_L_law_251 : decode c_L_law 251 = .ok (.iaload, 1) := by decide +kernel
theorem d_L_law_252 : decode c_L_law 252 = .ok (.invokevirtual 30, 3) := by decide +kernel
theorem d_L_law_255 : decode c_L_law 255 = .ok (.if_icmp .eq 600, 3) := by decide +kernel
theorem d_L_law_258 : decode c_L_law 258 = .ok (.iconst 0, 1) := by decide +kernel
theorem d_L_law_259 : decode c_L_law 259 = .ok (.ireturn, 1) := by decide +kernel
theorem d_L_law_260 : decode c_L_law 260 = .ok (.aload_n 1, 1) := by decide +kernel
theorem d_L_law_261 : decode c_L_law 261 = .ok (.aload_n 0, 1) := by decide +kernel
theorem d_L_law_262 : decode c_L_law 262 = .ok (.iload_n 3, 1) := by decide +kernel
theorem d_L_law_263 : decode c_L_law 263 = .ok (.iconst 1, 1) := by decide +kernel
theorem d_L_law_264 : decode c_L_law 264 = .ok (.iadd, 1) := by decide +kernel
theorem d_L_law_265 : decode c_L_law 265 = .ok (.iaload, 1) := by decide +kernel
theorem d_L_law_266 : decode c_L_law 266 = .ok (.aload_n 0, 1) := by decide +kernel
theorem d_L_law_267 : decode c_L_law 267 = .ok (.iload_n 3, 1) := by decide +kernel
theorem d_L_law_268 : decode c_L_law 268 = .ok (.iconst 2, 1) := by decide +kernel
theorem d_L_law_269 : decode c_L_law 269 = .ok (.iadd, 1) := by decide +kernel
theorem d_L_law_270 : decode c_L_law 270 = .ok (.iaload, 1) := by decide +kernel
theorem d_L_law_271 : decode c_L_law 271 = .ok (.invokevirtual 31, 3) := by decide +kernel
theorem d_L_law_274 : decode c_L_law 274 = .ok (.aload_n 2, 1) := by decide +kernel
theorem d_L_law_275 : decode c_L_law 275 = .ok (.aload_n 0, 1) := by decide +kernel
theorem d_L_law_276 : decode c_L_law 276 = .ok (.iload_n 3, 1) := by decide +kernel
theorem d_L_law_277 : decode c_L_law 277 = .ok (.iconst 1, 1) := by decide +kernel
theorem d_L_law_278 : decode c_L_law 278 = .ok (.iadd, 1) := by decide +kernel
theorem d_L_law_279 : decode c_L_law 279 = .ok (.iaload, 1) := by decide +kernel
theorem d_L_law_280 : decode c_L_law 280 = .ok (.aload_n 0, 1) := by decide +kernel
theorem d_L_law_281 : decode c_L_law 281 = .ok (.iload_n 3, 1) := by decide +kernel
theorem d_L_law_282 : decode c_L_law 282 = .ok (.iconst 2, 1) := by decide +kernel
theorem d_L_law_283 : decode c_L_law 283 = .ok (.iadd, 1) := by decide +kernel
theorem d_L_law_284 : decode c_L_law 284 = .ok (.iaload, 1) := by decide +kernel
theorem d_L_law_285 : decode c_L_law 285 = .ok (.invokevirtual 35, 3) := by decide +kernel
theorem d_L_law_288 : decode c_L_law 288 = .ok (.if_icmp .eq 567, 3) := by decide +kernel
theorem d_L_law_291 : decode c_L_law 291 = .ok (.iconst 0, 1) := by decide +kernel
theorem d_L_law_292 : decode c_L_law 292 = .ok (.ireturn, 1) := by decide +kernel
theorem d_L_law_293 : decode c_L_law 293 = .ok (.aload_n 1, 1) := by decide +kernel
theorem d_L_law_294 : decode c_L_law 294 = .ok (.aload_n 0, 1) := by decide +kernel
theorem d_L_law_295 : decode c_L_law 295 = .ok (.iload_n 3, 1) := by decide +kernel
theorem d_L_law_296 : decode c_L_law 296 = .ok (.iconst 1, 1) := by decide +kernel
theorem d_L_law_297 : decode c_L_law 297 = .ok (.iadd, 1) := by decide +kernel
theorem d_L_law_298 : decode c_L_law 298 = .ok (.iaload, 1) := by decide +kernel
theorem d_L_law_299 : decode c_L_law 299 = .ok (.aload_n 0, 1) := by decide +kernel
theorem d_L_law_300 : decode c_L_law 300 = .ok (.iload_n 3, 1) := by decide +kernel
theorem d_L_law_301 : decode c_L_law 301 = .ok (.iconst 2, 1) := by decide +kernel
theorem d_L_law_302 : decode c_L_law 302 = .ok (.iadd, 1) := by decide +kernel
theorem d_L_law_303 : decode c_L_law 303 = .ok (.iaload, 1) := by decide +kernel
theorem d_L_law_304 : decode c_L_law 304 = .ok (.invokevirtual 36, 3) := by decide +kernel
theorem d_L_law_307 : decode c_L_law 307 = .ok (.aload_n 2, 1) := by decide +kernel
theorem d_L_law_308 : decode c_L_law 308 = .ok (.aload_n 0, 1) := by decide +kernel
theorem d_L_law_309 : decode c_L_law 309 = .ok (.iload_n 3, 1) := by decide +kernel
theorem d_L_law_310 : decode c_L_law 310 = .ok (.iconst 1, 1) := by decide +kernel
theorem d_L_law_311 : decode c_L_law 311 = .ok (.iadd, 1) := by decide +kernel
theorem d_L_law_312 : decode c_L_law 312 = .ok (.iaload, 1) := by decide +kernel
theorem d_L_law_313 : decode c_L_law 313 = .ok (.aload_n 0, 1) := by decide +kernel
theorem d_L_law_314 : decode c_L_law 314 = .ok (.iload_n 3, 1) := by decide +kernel
theorem d_L_law_315 : decode c_L_law 315 = .ok (.iconst 2, 1) := by decide +kernel
theorem d_L_law_316 : decode c_L_law 316 = .ok (.iadd, 1) := by decide +kernel
theorem d_L_law_317 : decode c_L_law 317 = .ok (.iaload, 1) := by decide +kernel
theorem d_L_law_318 : decode c_L_law 318 = .ok (.invokevirtual 39, 3) := by decide +kernel
theorem d_L_law_321 : decode c_L_law 321 = .ok (.if_icmp .eq 534, 3) := by decide +kernel
theorem d_L_law_324 : decode c_L_law 324 = .ok (.iconst 0, 1) := by decide +kernel
theorem d_L_law_325 : decode c_L_law 325 = .ok (.ireturn, 1) := by decide +kernel
theorem d_L_law_326 : decode c_L_law 326 = .ok (.aload_n 1, 1) := by decide +kernel
theorem d_L_law_327 : decode c_L_law 327 = .ok (.aload_n 0, 1) := by decide +kernel
theorem d_L_law_328 : decode c_L_law 328 = .ok (.iload_n 3, 1) := by decide +kernel
theorem d_L_law_329 : decode c_L_law 329 = .ok (.iconst 1, 1) := by decide +kernel
theorem d_L_law_330 : decode c_L_law 330 = .ok (.iadd, 1) := by decide +kernel
theorem d_L_law_331 : decode c_L_law 331 = .ok (.iaload, 1) := by decide +kernel
theorem d_L_law_332 : decode c_L_law 332 = .ok (.aload_n 0, 1) := by decide +kernel
theorem d_L_law_333 : decode c_L_law 333 = .ok (.iload_n 3, 1) := by decide +kernel
theorem d_L_law_334 : decode c_L_law 334 = .ok (.iconst 2, 1) := by decide +kernel
theorem d_L_law_335 : decode c_L_law 335 = .ok (.iadd, 1) := by decide +kernel
theorem d_L_law_336 : decode c_L_law 336 = .ok (.iaload, 1) := by decide +kernel
theorem d_L_law_337 : decode c_L_law 337 = .ok (.aload_n 0, 1) := by decide +kernel
theorem d_L_law_338 : decode c_L_law 338 = .ok (.iload_n 3, 1) := by decide +kernel
theorem d_L_law_339 : decode c_L_law 339 = .ok (.iconst 3, 1) := by decide +kernel
theorem d_L_law_340 : decode c_L_law 340 = .ok (.iadd, 1) := by decide +kernel
theorem d_L_law_341 : decode c_L_law 341 = .ok (.iaload, 1) := by decide +kernel
theorem d_L_law_342 : decode c_L_law 342 = .ok (.aload_n 0, 1) := by decide +kernel
theorem d_L_law_343 : decode c_L_law 343 = .ok (.iload_n 3, 1) := by decide +kernel
theorem d_L_law_344 : decode c_L_law 344 = .ok (.iconst 4, 1) := by decide +kernel
theorem d_L_law_345 : decode c_L_law 345 = .ok (.iadd, 1) := by decide +kernel
theorem d_L_law_346 : decode c_L_law 346 = .ok (.iaload, 1) := by decide +kernel
theorem d_L_law_347 : decode c_L_law 347 = .ok (.invokevirtual 40, 3) := by decide +kernel
theorem d_L_law_350 : decode c_L_law 350 = .ok (.aload_n 2, 1) := by decide +kernel
theorem d_L_law_351 : decode c_L_law 351 = .ok (.aload_n 0, 1) := by decide +kernel
theorem d_L_law_352 : decode c_L_law 352 = .ok (.iload_n 3, 1) := by decide +kernel
theorem d_L_law_353 : decode c_L_law 353 = .ok (.iconst 1, 1) := by decide +kernel
theorem d_L_law_354 : decode c_L_law 354 = .ok (.iadd, 1) := by decide +kernel
theorem d_L_law_355 : decode c_L_law 355 = .ok (.iaload, 1) := by decide +kernel
theorem d_L_law_356 : decode c_L_law 356 = .ok (.aload_n 0, 1) := by decide +kernel
theorem d_L_law_357 : decode c_L_law 357 = .ok (.iload_n 3, 1) := by decide +kernel
theorem d_L_law_358 : decode c_L_law 358 = .ok (.iconst 2, 1) := by decide +kernel
theorem d_L_law_359 : decode c_L_law 359 = .ok (.iadd, 1) := by decide +kernel
theorem d_L_law_360 : decode c_L_law 360 = .ok (.iaload, 1) := by decide +kernel
theorem d_L_law_361 : decode c_L_law 361 = .ok (.aload_n 0, 1) := by decide +kernel
theorem d_L_law_362 : decode c_L_law 362 = .ok (.iload_n 3, 1) := by decide +kernel
theorem d_L_law_363 : decode c_L_law 363 = .ok (.iconst 3, 1) := by decide +kernel
theorem d_L_law_364 : decode c_L_law 364 = .ok (.iadd, 1) := by decide +kernel
theorem d_L_law_365 : decode c_L_law 365 = .ok (.iaload, 1) := by decide +kernel
theorem d_L_law_366 : decode c_L_law 366 = .ok (.aload_n 0, 1) := by decide +kernel
theorem d_L_law_367 : decode c_L_law 367 = .ok (.iload_n 3, 1) := by decide +kernel
theorem d_L_law_368 : decode c_L_law 368 = .ok (.iconst 4, 1) := by decide +kernel
theorem d_L_law_369 : decode c_L_law 369 = .ok (.iadd, 1) := by decide +kernel
theorem d_L_law_370 : decode c_L_law 370 = .ok (.iaload, 1) := by decide +kernel
theorem d_L_law_371 : decode c_L_law 371 = .ok (.invokevirtual 44, 3) := by decide +kernel
theorem d_L_law_374 : decode c_L_law 374 = .ok (.if_icmp .eq 481, 3) := by decide +kernel
theorem d_L_law_377 : decode c_L_law 377 = .ok (.iconst 0, 1) := by decide +kernel
theorem d_L_law_378 : decode c_L_law 378 = .ok (.ireturn, 1) := by decide +kernel
theorem d_L_law_379 : decode c_L_law 379 = .ok (.aload_n 1, 1) := by decide +kernel
theorem d_L_law_380 : decode c_L_law 380 = .ok (.aload_n 0, 1) := by decide +kernel
theorem d_L_law_381 : decode c_L_law 381 = .ok (.iload_n 3, 1) := by decide +kernel
theorem d_L_law_382 : decode c_L_law 382 = .ok (.iconst 1, 1) := by decide +kernel
theorem d_L_law_383 : decode c_L_law 383 = .ok (.iadd, 1) := by decide +kernel
theorem d_L_law_384 : decode c_L_law 384 = .ok (.iaload, 1) := by decide +kernel
theorem d_L_law_385 : decode c_L_law 385 = .ok (.aload_n 0, 1) := by decide +kernel
theorem d_L_law_386 : decode c_L_law 386 = .ok (.iload_n 3, 1) := by decide +kernel
theorem d_L_law_387 : decode c_L_law 387 = .ok (.iconst 2, 1) := by decide +kernel
theorem d_L_law_388 : decode c_L_law 388 = .ok (.iadd, 1) := by decide +kernel
theorem d_L_law_389 : decode c_L_law 389 = .ok (.iaload, 1) := by decide +kernel
theorem d_L_law_390 : decode c_L_law 390 = .ok (.aload_n 0, 1) := by decide +kernel
theorem d_L_law_391 : decode c_L_law 391 = .ok (.iload_n 3, 1) := by decide +kernel
theorem d_L_law_392 : decode c_L_law 392 = .ok (.iconst 3, 1) := by decide +kernel
theorem d_L_law_393 : decode c_L_law 393 = .ok (.iadd, 1) := by decide +kernel
theorem d_L_law_394 : decode c_L_law 394 = .ok (.iaload, 1) := by decide +kernel
theorem d_L_law_395 : decode c_L_law 395 = .ok (.invokevirtual 45, 3) := by decide +kernel
theorem d_L_law_398 : decode c_L_law 398 = .ok (.aload_n 2, 1) := by decide +kernel
theorem d_L_law_399 : decode c_L_law 399 = .ok (.aload_n 0, 1) := by decide +kernel
theorem d_L_law_400 : decode c_L_law 400 = .ok (.iload_n 3, 1) := by decide +kernel
theorem d_L_law_401 : decode c_L_law 401 = .ok (.iconst 1, 1) := by decide +kernel
theorem d_L_law_402 : decode c_L_law 402 = .ok (.iadd, 1) := by decide +kernel
theorem d_L_law_403 : decode c_L_law 403 = .ok (.iaload, 1) := by decide +kernel
theorem d_L_law_404 : decode c_L_law 404 = .ok (.aload_n 0, 1) := by decide +kernel
theorem d_L_law_405 : decode c_L_law 405 = .ok (.iload_n 3, 1) := by decide +kernel
theorem d_L_law_406 : decode c_L_law 406 = .ok (.iconst 2, 1) := by decide +kernel
theorem d_L_law_407 : decode c_L_law 407 = .ok (.iadd, 1) := by decide +kernel
theorem d_L_law_408 : decode c_L_law 408 = .ok (.iaload, 1) := by decide +kernel
theorem d_L_law_409 : decode c_L_law 409 = .ok (.aload_n 0, 1) := by decide +kernel
theorem d_L_law_410 : decode c_L_law 410 = .ok (.iload_n 3, 1) := by decide +kernel
theorem d_L_law_411 : decode c_L_law 411 = .ok (.iconst 3, 1) := by decide +kernel
theorem d_L_law_412 : decode c_L_law 412 = .ok (.iadd, 1) := by decide +kernel
theorem d_L_law_413 : decode c_L_law 413 = .ok (.iaload, 1) := by decide +kernel
theorem d_L_law_414 : decode c_L_law 414 = .ok (.invokevirtual 48, 3) := by decide +kernel
theorem d_L_law_417 : decode c_L_law 417 = .ok (.if_icmp .eq 438, 3) := by decide +kernel
theorem d_L_law_420 : decode c_L_law 420 = .ok (.iconst 0, 1) := by decide +kernel
theorem d_L_law_421 : decode c_L_law 421 = .ok (.ireturn, 1) := by decide +kernel
theorem d_L_law_422 : decode c_L_law 422 = .ok (.aload_n 1, 1) := by decide +kernel
theorem d_L_law_423 : decode c_L_law 423 = .ok (.aload_n 0, 1) := by decide +kernel
theorem d_L_law_424 : decode c_L_law 424 = .ok (.iload_n 3, 1) := by decide +kernel
theorem d_L_law_425 : decode c_L_law 425 = .ok (.iconst 1, 1) := by decide +kernel
theorem d_L_law_426 : decode c_L_law 426 = .ok (.iadd, 1) := by decide +kernel
theorem d_L_law_427 : decode c_L_law 427 = .ok (.iaload, 1) := by decide +kernel
theorem d_L_law_428 : decode c_L_law 428 = .ok (.invokevirtual 49, 3) := by decide +kernel
theorem d_L_law_431 : decode c_L_law 431 = .ok (.aload_n 2, 1) := by decide +kernel
theorem d_L_law_432 : decode c_L_law 432 = .ok (.aload_n 0, 1) := by decide +kernel
theorem d_L_law_433 : decode c_L_law 433 = .ok (.iload_n 3, 1) := by decide +kernel
theorem d_L_law_434 : decode c_L_law 434 = .ok (.iconst 1, 1) := by decide +kernel
theorem d_L_law_435 : decode c_L_law 435 = .ok (.iadd, 1) := by decide +kernel
theorem d_L_law_436 : decode c_L_law 436 = .ok (.iaload, 1) := by decide +kernel
theorem d_L_law_437 : decode c_L_law 437 = .ok (.invokevirtual 52, 3) := by decide +kernel
theorem d_L_law_440 : decode c_L_law 440 = .ok (.if_icmp .eq 415, 3) := by decide +kernel
theorem d_L_law_443 : decode c_L_law 443 = .ok (.iconst 0, 1) := by decide +kernel
theorem d_L_law_444 : decode c_L_law 444 = .ok (.ireturn, 1) := by decide +kernel
theorem d_L_law_445 : decode c_L_law 445 = .ok (.aload_n 1, 1) := by decide +kernel
theorem d_L_law_446 : decode c_L_law 446 = .ok (.aload_n 0, 1) := by decide +kernel
theorem d_L_law_447 : decode c_L_law 447 = .ok (.iload_n 3, 1) := by decide +kernel
theorem d_L_law_448 : decode c_L_law 448 = .ok (.iconst 1, 1) := by decide +kernel
theorem d_L_law_449 : decode c_L_law 449 = .ok (.iadd, 1) := by decide +kernel
theorem d_L_law_450 : decode c_L_law 450 = .ok (.iaload, 1) := by decide +kernel
theorem d_L_law_451 : decode c_L_law 451 = .ok (.invokevirtual 53, 3) := by decide +kernel
theorem d_L_law_454 : decode c_L_law 454 = .ok (.aload_n 2, 1) := by decide +kernel
theorem d_L_law_455 : decode c_L_law 455 = .ok (.aload_n 0, 1) := by decide +kernel
theorem d_L_law_456 : decode c_L_law 456 = .ok (.iload_n 3, 1) := by decide +kernel
theorem d_L_law_457 : decode c_L_law 457 = .ok (.iconst 1, 1) := by decide +kernel
theorem d_L_law_458 : decode c_L_law 458 = .ok (.iadd, 1) := by decide +kernel
theorem d_L_law_459 : decode c_L_law 459 = .ok (.iaload, 1) := by decide +kernel
theorem d_L_law_460 : decode c_L_law 460 = .ok (.invokevirtual 56, 3) := by decide +kernel
theorem d_L_law_463 : decode c_L_law 463 = .ok (.if_icmp .eq 392, 3) := by decide +kernel
theorem d_L_law_466 : decode c_L_law 466 = .ok (.iconst 0, 1) := by decide +kernel
theorem d_L_law_467 : decode c_L_law 467 = .ok (.ireturn, 1) := by decide +kernel
theorem d_L_law_468 : decode c_L_law 468 = .ok (.aload_n 1, 1) := by decide +kernel
theorem d_L_law_469 : decode c_L_law 469 = .ok (.aload_n 0, 1) := by decide +kernel
theorem d_L_law_470 : decode c_L_law 470 = .ok (.iload_n 3, 1) := by decide +kernel
theorem d_L_law_471 : decode c_L_law 471 = .ok (.iconst 1, 1) := by decide +kernel
theorem d_L_law_472 : decode c_L_law 472 = .ok (.iadd, 1) := by decide +kernel
theorem d_L_law_473 : decode c_L_law 473 = .ok (.iaload, 1) := by decide +kernel
theorem d_L_law_474 : decode c_L_law 474 = .ok (.aload_n 0, 1) := by decide +kernel
theorem d_L_law_475 : decode c_L_law 475 = .ok (.iload_n 3, 1) := by decide +kernel
theorem d_L_law_476 : decode c_L_law 476 = .ok (.iconst 2, 1) := by decide +kernel
theorem d_L_law_477 : decode c_L_law 477 = .ok (.iadd, 1) := by decide +kernel
theorem d_L_law_478 : decode c_L_law 478 = .ok (.iaload, 1) := by decide +kernel
theorem d_L_law_479 : decode c_L_law 479 = .ok (.invokevirtual 57, 3) := by decide +kernel
theorem d_L_law_482 : decode c_L_law 482 = .ok (.aload_n 2, 1) := by decide +kernel
theorem d_L_law_483 : decode c_L_law 483 = .ok (.aload_n 0, 1) := by decide +kernel
theorem d_L_law_484 : decode c_L_law 484 = .ok (.iload_n 3, 1) := by decide +kernel
theorem d_L_law_485 : decode c_L_law 485 = .ok (.iconst 1, 1) := by decide +kernel
theorem d_L_law_486 : decode c_L_law 486 = .ok (.iadd, 1) := by decide +kernel
theorem d_L_law_487 : decode c_L_law 487 = .ok (.iaload, 1) := by decide +kernel
theorem d_L_law_488 : decode c_L_law 488 = .ok (.aload_n 0, 1) := by decide +kernel
theorem d_L_law_489 : decode c_L_law 489 = .ok (.iload_n 3, 1) := by decide +kernel
theorem d_L_law_490 : decode c_L_law 490 = .ok (.iconst 2, 1) := by decide +kernel
theorem d_L_law_491 : decode c_L_law 491 = .ok (.iadd, 1) := by decide +kernel
theorem d_L_law_492 : decode c_L_law 492 = .ok (.iaload, 1) := by decide +kernel
theorem d_L_law_493 : decode c_L_law 493 = .ok (.invokevirtual 60, 3) := by decide +kernel
theorem d_L_law_496 : decode c_L_law 496 = .ok (.if_icmp .eq 359, 3) := by decide +kernel
theorem d_L_law_499 : decode c_L_law 499 = .ok (.iconst 0, 1) := by decide +kernel
theorem d_L_law_500 : decode c_L_law 500 = .ok (.ireturn, 1) := by decide +kernel
theorem d_L_law_501 : decode c_L_law 501 = .ok (.aload_n 1, 1) := by decide +kernel
theorem d_L_law_502 : decode c_L_law 502 = .ok (.aload_n 0, 1) := by decide +kernel
theorem d_L_law_503 : decode c_L_law 503 = .ok (.iload_n 3, 1) := by decide +kernel
theorem d_L_law_504 : decode c_L_law 504 = .ok (.iconst 1, 1) := by decide +kernel
theorem d_L_law_505 : decode c_L_law 505 = .ok (.iadd, 1) := by decide +kernel
theorem d_L_law_506 : decode c_L_law 506 = .ok (.iaload, 1) := by decide +kernel
theorem d_L_law_507 : decode c_L_law 507 = .ok (.aload_n 0, 1) := by decide +kernel
theorem d_L_law_508 : decode c_L_law 508 = .ok (.iload_n 3, 1) := by decide +kernel
theorem d_L_law_509 : decode c_L_law 509 = .ok (.iconst 2, 1) := by decide +kernel
theorem d_L_law_510 : decode c_L_law 510 = .ok (.iadd, 1) := by decide +kernel
theorem d_L_law_511 : decode c_L_law 511 = .ok (.iaload, 1) := by decide +kernel
theorem d_L_law_512 : decode c_L_law 512 = .ok (.invokevirtual 61, 3) := by decide +kernel
theorem d_L_law_515 : decode c_L_law 515 = .ok (.aload_n 2, 1) := by decide +kernel
theorem d_L_law_516 : decode c_L_law 516 = .ok (.aload_n 0, 1) := by decide +kernel
theorem d_L_law_517 : decode c_L_law 517 = .ok (.iload_n 3, 1) := by decide +kernel
theorem d_L_law_518 : decode c_L_law 518 = .ok (.iconst 1, 1) := by decide +kernel
theorem d_L_law_519 : decode c_L_law 519 = .ok (.iadd, 1) := by decide +kernel
theorem d_L_law_520 : decode c_L_law 520 = .ok (.iaload, 1) := by decide +kernel
theorem d_L_law_521 : decode c_L_law 521 = .ok (.aload_n 0, 1) := by decide +kernel
theorem d_L_law_522 : decode c_L_law 522 = .ok (.iload_n 3, 1) := by decide +kernel
theorem d_L_law_523 : decode c_L_law 523 = .ok (.iconst 2, 1) := by decide +kernel
theorem d_L_law_524 : decode c_L_law 524 = .ok (.iadd, 1) := by decide +kernel
theorem d_L_law_525 : decode c_L_law 525 = .ok (.iaload, 1) := by decide +kernel
theorem d_L_law_526 : decode c_L_law 526 = .ok (.invokevirtual 64, 3) := by decide +kernel
theorem d_L_law_529 : decode c_L_law 529 = .ok (.if_icmp .eq 326, 3) := by decide +kernel
theorem d_L_law_532 : decode c_L_law 532 = .ok (.iconst 0, 1) := by decide +kernel
theorem d_L_law_533 : decode c_L_law 533 = .ok (.ireturn, 1) := by decide +kernel
theorem d_L_law_534 : decode c_L_law 534 = .ok (.aload_n 1, 1) := by decide +kernel
theorem d_L_law_535 : decode c_L_law 535 = .ok (.aload_n 0, 1) := by decide +kernel
theorem d_L_law_536 : decode c_L_law 536 = .ok (.iload_n 3, 1) := by decide +kernel
theorem d_L_law_537 : decode c_L_law 537 = .ok (.iconst 1, 1) := by decide +kernel
theorem d_L_law_538 : decode c_L_law 538 = .ok (.iadd, 1) := by decide +kernel
theorem d_L_law_539 : decode c_L_law 539 = .ok (.iaload, 1) := by decide +kernel
theorem d_L_law_540 : decode c_L_law 540 = .ok (.aload_n 0, 1) := by decide +kernel
theorem d_L_law_541 : decode c_L_law 541 = .ok (.iload_n 3, 1) := by decide +kernel
theorem d_L_law_542 : decode c_L_law 542 = .ok (.iconst 2, 1) := by decide +kernel
theorem d_L_law_543 : decode c_L_law 543 = .ok (.iadd, 1) := by decide +kernel
theorem d_L_law_544 : decode c_L_law 544 = .ok (.iaload, 1) := by decide +kernel
theorem d_L_law_545 : decode c_L_law 545 = .ok (.invokevirtual 65, 3) := by decide +kernel
theorem d_L_law_548 : decode c_L_law 548 = .ok (.aload_n 2, 1) := by decide +kernel
theorem d_L_law_549 : decode c_L_law 549 = .ok (.aload_n 0, 1) := by decide +kernel
theorem d_L_law_550 : decode c_L_law 550 = .ok (.iload_n 3, 1) := by decide +kernel
theorem d_L_law_551 : decode c_L_law 551 = .ok (.iconst 1, 1) := by decide +kernel
theorem d_L_law_552 : decode c_L_law 552 = .ok (.iadd, 1) := by decide +kernel
theorem d_L_law_553 : decode c_L_law 553 = .ok (.iaload, 1) := by decide +kernel
theorem d_L_law_554 : decode c_L_law 554 = .ok (.aload_n 0, 1) := by decide +kernel
theorem d_L_law_555 : decode c_L_law 555 = .ok (.iload_n 3, 1) := by decide +kernel
theorem d_L_law_556 : decode c_L_law 556 = .ok (.iconst 2, 1) := by decide +kernel
theorem d_L_law_557 : decode c_L_law 557 = .ok (.iadd, 1) := by decide +kernel
theorem d_L_law_558 : decode c_L_law 558 = .ok (.iaload, 1) := by decide +kernel
theorem d_L_law_559 : decode c_L_law 559 = .ok (.invokevirtual 69, 3) := by decide +kernel
theorem d_L_law_562 : decode c_L_law 562 = .ok (.lcmp, 1) := by decide +kernel
theorem d_L_law_563 : decode c_L_law 563 = .ok (.ifCond .eq 292, 3) := by decide +kernel
theorem d_L_law_566 : decode c_L_law 566 = .ok (.iconst 0, 1) := by decide +kernel
theorem d_L_law_567 : decode c_L_law 567 = .ok (.ireturn, 1) := by decide +kernel
theorem d_L_law_568 : decode c_L_law 568 = .ok (.aload_n 1, 1) := by decide +kernel
theorem d_L_law_569 : decode c_L_law 569 = .ok (.aload_n 0, 1) := by decide +kernel
theorem d_L_law_570 : decode c_L_law 570 = .ok (.iload_n 3, 1) := by decide +kernel
theorem d_L_law_571 : decode c_L_law 571 = .ok (.iconst 1, 1) := by decide +kernel
theorem d_L_law_572 : decode c_L_law 572 = .ok (.iadd, 1) := by decide +kernel
theorem d_L_law_573 : decode c_L_law 573 = .ok (.iaload, 1) := by decide +kernel
theorem d_L_law_574 : decode c_L_law 574 = .ok (.aload_n 0, 1) := by decide +kernel
theorem d_L_law_575 : decode c_L_law 575 = .ok (.iload_n 3, 1) := by decide +kernel
theorem d_L_law_576 : decode c_L_law 576 = .ok (.iconst 2, 1) := by decide +kernel
theorem d_L_law_577 : decode c_L_law 577 = .ok (.iadd, 1) := by decide +kernel
theorem d_L_law_578 : decode c_L_law 578 = .ok (.iaload, 1) := by decide +kernel
theorem d_L_law_579 : decode c_L_law 579 = .ok (.aload_n 0, 1) := by decide +kernel
theorem d_L_law_580 : decode c_L_law 580 = .ok (.iload_n 3, 1) := by decide +kernel
theorem d_L_law_581 : decode c_L_law 581 = .ok (.iconst 3, 1) := by decide +kernel
theorem d_L_law_582 : decode c_L_law 582 = .ok (.iadd, 1) := by decide +kernel
theorem d_L_law_583 : decode c_L_law 583 = .ok (.iaload, 1) := by decide +kernel
theorem d_L_law_584 : decode c_L_law 584 = .ok (.i2l, 1) := by decide +kernel
theorem d_L_law_585 : decode c_L_law 585 = .ok (.bipush 32, 2) := by decide +kernel
theorem d_L_law_587 : decode c_L_law 587 = .ok (.lshl, 1) := by decide +kernel
theorem d_L_law_588 : decode c_L_law 588 = .ok (.aload_n 0, 1) := by decide +kernel
theorem d_L_law_589 : decode c_L_law 589 = .ok (.iload_n 3, 1) := by decide +kernel
theorem d_L_law_590 : decode c_L_law 590 = .ok (.iconst 4, 1) := by decide +kernel
theorem d_L_law_591 : decode c_L_law 591 = .ok (.iadd, 1) := by decide +kernel
theorem d_L_law_592 : decode c_L_law 592 = .ok (.iaload, 1) := by decide +kernel
theorem d_L_law_593 : decode c_L_law 593 = .ok (.i2l, 1) := by decide +kernel
theorem d_L_law_594 : decode c_L_law 594 = .ok (.ldc2_w 70, 3) := by decide +kernel
theorem d_L_law_597 : decode c_L_law 597 = .ok (.land, 1) := by decide +kernel
theorem d_L_law_598 : decode c_L_law 598 = .ok (.lor, 1) := by decide +kernel
theorem d_L_law_599 : decode c_L_law 599 = .ok (.invokevirtual 72, 3) := by decide +kernel
theorem d_L_law_602 : decode c_L_law 602 = .ok (.aload_n 2, 1) := by decide +kernel
theorem d_L_law_603 : decode c_L_law 603 = .ok (.aload_n 0, 1) := by decide +kernel
theorem d_L_law_604 : decode c_L_law 604 = .ok (.iload_n 3, 1) := by decide +kernel
theorem d_L_law_605 : decode c_L_law 605 = .ok (.iconst 1, 1) := by decide +kernel
theorem d_L_law_606 : decode c_L_law 606 = .ok (.iadd, 1) := by decide +kernel
theorem d_L_law_607 : decode c_L_law 607 = .ok (.iaload, 1) := by decide +kernel
theorem d_L_law_608 : decode c_L_law 608 = .ok (.aload_n 0, 1) := by decide +kernel
theorem d_L_law_609 : decode c_L_law 609 = .ok (.iload_n 3, 1) := by decide +kernel
theorem d_L_law_610 : decode c_L_law 610 = .ok (.iconst 2, 1) := by decide +kernel
theorem d_L_law_611 : decode c_L_law 611 = .ok (.iadd, 1) := by decide +kernel
theorem d_L_law_612 : decode c_L_law 612 = .ok (.iaload, 1) := by decide +kernel
theorem d_L_law_613 : decode c_L_law 613 = .ok (.aload_n 0, 1) := by decide +kernel
theorem d_L_law_614 : decode c_L_law 614 = .ok (.iload_n 3, 1) := by decide +kernel
theorem d_L_law_615 : decode c_L_law 615 = .ok (.iconst 3, 1) := by decide +kernel
theorem d_L_law_616 : decode c_L_law 616 = .ok (.iadd, 1) := by decide +kernel
theorem d_L_law_617 : decode c_L_law 617 = .ok (.iaload, 1) := by decide +kernel
theorem d_L_law_618 : decode c_L_law 618 = .ok (.i2l, 1) := by decide +kernel
theorem d_L_law_619 : decode c_L_law 619 = .ok (.bipush 32, 2) := by decide +kernel
theorem d_L_law_621 : decode c_L_law 621 = .ok (.lshl, 1) := by decide +kernel
theorem d_L_law_622 : decode c_L_law 622 = .ok (.aload_n 0, 1) := by decide +kernel
theorem d_L_law_623 : decode c_L_law 623 = .ok (.iload_n 3, 1) := by decide +kernel
theorem d_L_law_624 : decode c_L_law 624 = .ok (.iconst 4, 1) := by decide +kernel
theorem d_L_law_625 : decode c_L_law 625 = .ok (.iadd, 1) := by decide +kernel
theorem d_L_law_626 : decode c_L_law 626 = .ok (.iaload, 1) := by decide +kernel
theorem d_L_law_627 : decode c_L_law 627 = .ok (.i2l, 1) := by decide +kernel
theorem d_L_law_628 : decode c_L_law 628 = .ok (.ldc2_w 70, 3) := by decide +kernel
theorem d_L_law_631 : decode c_L_law 631 = .ok (.land, 1) := by decide +kernel
theorem d_L_law_632 : decode c_L_law 632 = .ok (.lor, 1) := by decide +kernel
theorem d_L_law_633 : decode c_L_law 633 = .ok (.invokevirtual 76, 3) := by decide +kernel
theorem d_L_law_636 : decode c_L_law 636 = .ok (.if_icmp .eq 219, 3) := by decide +kernel
theorem d_L_law_639 : decode c_L_law 639 = .ok (.iconst 0, 1) := by decide +kernel
theorem d_L_law_640 : decode c_L_law 640 = .ok (.ireturn, 1) := by decide +kernel
theorem d_L_law_641 : decode c_L_law 641 = .ok (.aload_n 1, 1) := by decide +kernel
theorem d_L_law_642 : decode c_L_law 642 = .ok (.aload_n 0, 1) := by decide +kernel
theorem d_L_law_643 : decode c_L_law 643 = .ok (.iload_n 3, 1) := by decide +kernel
theorem d_L_law_644 : decode c_L_law 644 = .ok (.iconst 1, 1) := by decide +kernel
theorem d_L_law_645 : decode c_L_law 645 = .ok (.iadd, 1) := by decide +kernel
theorem d_L_law_646 : decode c_L_law 646 = .ok (.iaload, 1) := by decide +kernel
theorem d_L_law_647 : decode c_L_law 647 = .ok (.aload_n 0, 1) := by decide +kernel
theorem d_L_law_648 : decode c_L_law 648 = .ok (.iload_n 3, 1) := by decide +kernel
theorem d_L_law_649 : decode c_L_law 649 = .ok (.iconst 2, 1) := by decide +kernel
theorem d_L_law_650 : decode c_L_law 650 = .ok (.iadd, 1) := by decide +kernel
theorem d_L_law_651 : decode c_L_law 651 = .ok (.iaload, 1) := by decide +kernel
theorem d_L_law_652 : decode c_L_law 652 = .ok (.aload_n 0, 1) := by decide +kernel
theorem d_L_law_653 : decode c_L_law 653 = .ok (.iload_n 3, 1) := by decide +kernel
theorem d_L_law_654 : decode c_L_law 654 = .ok (.iconst 3, 1) := by decide +kernel
theorem d_L_law_655 : decode c_L_law 655 = .ok (.iadd, 1) := by decide +kernel
theorem d_L_law_656 : decode c_L_law 656 = .ok (.iaload, 1) := by decide +kernel
theorem d_L_law_657 : decode c_L_law 657 = .ok (.aload_n 0, 1) := by decide +kernel
theorem d_L_law_658 : decode c_L_law 658 = .ok (.iload_n 3, 1) := by decide +kernel
theorem d_L_law_659 : decode c_L_law 659 = .ok (.iconst 4, 1) := by decide +kernel
theorem d_L_law_660 : decode c_L_law 660 = .ok (.iadd, 1) := by decide +kernel
theorem d_L_law_661 : decode c_L_law 661 = .ok (.iaload, 1) := by decide +kernel
theorem d_L_law_662 : decode c_L_law 662 = .ok (.invokevirtual 77, 3) := by decide +kernel
theorem d_L_law_665 : decode c_L_law 665 = .ok (.aload_n 2, 1) := by decide +kernel
theorem d_L_law_666 : decode c_L_law 666 = .ok (.aload_n 0, 1) := by decide +kernel
theorem d_L_law_667 : decode c_L_law 667 = .ok (.iload_n 3, 1) := by decide +kernel
theorem d_L_law_668 : decode c_L_law 668 = .ok (.iconst 1, 1) := by decide +kernel
theorem d_L_law_669 : decode c_L_law 669 = .ok (.iadd, 1) := by decide +kernel
theorem d_L_law_670 : decode c_L_law 670 = .ok (.iaload, 1) := by decide +kernel
theorem d_L_law_671 : decode c_L_law 671 = .ok (.aload_n 0, 1) := by decide +kernel
theorem d_L_law_672 : decode c_L_law 672 = .ok (.iload_n 3, 1) := by decide +kernel
theorem d_L_law_673 : decode c_L_law 673 = .ok (.iconst 2, 1) := by decide +kernel
theorem d_L_law_674 : decode c_L_law 674 = .ok (.iadd, 1) := by decide +kernel
theorem d_L_law_675 : decode c_L_law 675 = .ok (.iaload, 1) := by decide +kernel
theorem d_L_law_676 : decode c_L_law 676 = .ok (.aload_n 0, 1) := by decide +kernel
theorem d_L_law_677 : decode c_L_law 677 = .ok (.iload_n 3, 1) := by decide +kernel
theorem d_L_law_678 : decode c_L_law 678 = .ok (.iconst 3, 1) := by decide +kernel
theorem d_L_law_679 : decode c_L_law 679 = .ok (.iadd, 1) := by decide +kernel
theorem d_L_law_680 : decode c_L_law 680 = .ok (.iaload, 1) := by decide +kernel
theorem d_L_law_681 : decode c_L_law 681 = .ok (.aload_n 0, 1) := by decide +kernel
theorem d_L_law_682 : decode c_L_law 682 = .ok (.iload_n 3, 1) := by decide +kernel
theorem d_L_law_683 : decode c_L_law 683 = .ok (.iconst 4, 1) := by decide +kernel
theorem d_L_law_684 : decode c_L_law 684 = .ok (.iadd, 1) := by decide +kernel
theorem d_L_law_685 : decode c_L_law 685 = .ok (.iaload, 1) := by decide +kernel
theorem d_L_law_686 : decode c_L_law 686 = .ok (.invokevirtual 80, 3) := by decide +kernel
theorem d_L_law_689 : decode c_L_law 689 = .ok (.if_icmp .eq 166, 3) := by decide +kernel
theorem d_L_law_692 : decode c_L_law 692 = .ok (.iconst 0, 1) := by decide +kernel
theorem d_L_law_693 : decode c_L_law 693 = .ok (.ireturn, 1) := by decide +kernel
theorem d_L_law_694 : decode c_L_law 694 = .ok (.aload_n 1, 1) := by decide +kernel
theorem d_L_law_695 : decode c_L_law 695 = .ok (.aload_n 0, 1) := by decide +kernel
theorem d_L_law_696 : decode c_L_law 696 = .ok (.iload_n 3, 1) := by decide +kernel
theorem d_L_law_697 : decode c_L_law 697 = .ok (.iconst 1, 1) := by decide +kernel
theorem d_L_law_698 : decode c_L_law 698 = .ok (.iadd, 1) := by decide +kernel
theorem d_L_law_699 : decode c_L_law 699 = .ok (.iaload, 1) := by decide +kernel
theorem d_L_law_700 : decode c_L_law 700 = .ok (.invokevirtual 81, 3) := by decide +kernel
theorem d_L_law_703 : decode c_L_law 703 = .ok (.aload_n 2, 1) := by decide +kernel
theorem d_L_law_704 : decode c_L_law 704 = .ok (.aload_n 0, 1) := by decide +kernel
theorem d_L_law_705 : decode c_L_law 705 = .ok (.iload_n 3, 1) := by decide +kernel
theorem d_L_law_706 : decode c_L_law 706 = .ok (.iconst 1, 1) := by decide +kernel
theorem d_L_law_707 : decode c_L_law 707 = .ok (.iadd, 1) := by decide +kernel
theorem d_L_law_708 : decode c_L_law 708 = .ok (.iaload, 1) := by decide +kernel
theorem d_L_law_709 : decode c_L_law 709 = .ok (.invokevirtual 84, 3) := by decide +kernel
theorem d_L_law_712 : decode c_L_law 712 = .ok (.if_icmp .eq 143, 3) := by decide +kernel
theorem d_L_law_715 : decode c_L_law 715 = .ok (.iconst 0, 1) := by decide +kernel
theorem d_L_law_716 : decode c_L_law 716 = .ok (.ireturn, 1) := by decide +kernel
theorem d_L_law_717 : decode c_L_law 717 = .ok (.aload_n 1, 1) := by decide +kernel
theorem d_L_law_718 : decode c_L_law 718 = .ok (.aload_n 0, 1) := by decide +kernel
theorem d_L_law_719 : decode c_L_law 719 = .ok (.iload_n 3, 1) := by decide +kernel
theorem d_L_law_720 : decode c_L_law 720 = .ok (.iconst 1, 1) := by decide +kernel
theorem d_L_law_721 : decode c_L_law 721 = .ok (.iadd, 1) := by decide +kernel
theorem d_L_law_722 : decode c_L_law 722 = .ok (.iaload, 1) := by decide +kernel
theorem d_L_law_723 : decode c_L_law 723 = .ok (.aload_n 0, 1) := by decide +kernel
theorem d_L_law_724 : decode c_L_law 724 = .ok (.iload_n 3, 1) := by decide +kernel
theorem d_L_law_725 : decode c_L_law 725 = .ok (.iconst 2, 1) := by decide +kernel
theorem d_L_law_726 : decode c_L_law 726 = .ok (.iadd, 1) := by decide +kernel
theorem d_L_law_727 : decode c_L_law 727 = .ok (.iaload, 1) := by decide +kernel
theorem d_L_law_728 : decode c_L_law 728 = .ok (.aload_n 0, 1) := by decide +kernel
theorem d_L_law_729 : decode c_L_law 729 = .ok (.iload_n 3, 1) := by decide +kernel
theorem d_L_law_730 : decode c_L_law 730 = .ok (.iconst 3, 1) := by decide +kernel
theorem d_L_law_731 : decode c_L_law 731 = .ok (.iadd, 1) := by decide +kernel
theorem d_L_law_732 : decode c_L_law 732 = .ok (.iaload, 1) := by decide +kernel
theorem d_L_law_733 : decode c_L_law 733 = .ok (.ifCond .eq 7, 3) := by decide +kernel
theorem d_L_law_736 : decode c_L_law 736 = .ok (.iconst 1, 1) := by decide +kernel
theorem d_L_law_737 : decode c_L_law 737 = .ok (.goto 4, 3) := by decide +kernel
theorem d_L_law_740 : decode c_L_law 740 = .ok (.iconst 0, 1) := by decide +kernel
theorem d_L_law_741 : decode c_L_law 741 = .ok (.invokevirtual 85, 3) := by decide +kernel
theorem d_L_law_744 : decode c_L_law 744 = .ok (.aload_n 2, 1) := by decide +kernel
theorem d_L_law_745 : decode c_L_law 745 = .ok (.aload_n 0, 1) := by decide +kernel
theorem d_L_law_746 : decode c_L_law 746 = .ok (.iload_n 3, 1) := by decide +kernel
theorem d_L_law_747 : decode c_L_law 747 = .ok (.iconst 1, 1) := by decide +kernel
theorem d_L_law_748 : decode c_L_law 748 = .ok (.iadd, 1) := by decide +kernel
theorem d_L_law_749 : decode c_L_law 749 = .ok (.iaload, 1) := by decide +kernel
theorem d_L_law_750 : decode c_L_law 750 = .ok (.aload_n 0, 1) := by decide +kernel
theorem d_L_law_751 : decode c_L_law 751 = .ok (.iload_n 3, 1) := by decide +kernel
theorem d_L_law_752 : decode c_L_law 752 = .ok (.iconst 2, 1) := by decide +kernel
theorem d_L_law_753 : decode c_L_law 753 = .ok (.iadd, 1) := by decide +kernel
theorem d_L_law_754 : decode c_L_law 754 = .ok (.iaload, 1) := by decide +kernel
theorem d_L_law_755 : decode c_L_law 755 = .ok (.aload_n 0, 1) := by decide +kernel
theorem d_L_law_756 : decode c_L_law 756 = .ok (.iload_n 3, 1) := by decide +kernel
theorem d_L_law_757 : decode c_L_law 757 = .ok (.iconst 3, 1) := by decide +kernel
theorem d_L_law_758 : decode c_L_law 758 = .ok (.iadd, 1) := by decide +kernel
theorem d_L_law_759 : decode c_L_law 759 = .ok (.iaload, 1) := by decide +kernel
theorem d_L_law_760 : decode c_L_law 760 = .ok (.ifCond .eq 7, 3) := by decide +kernel
theorem d_L_law_763 : decode c_L_law 763 = .ok (.iconst 1, 1) := by decide +kernel
theorem d_L_law_764 : decode c_L_law 764 = .ok (.goto 4, 3) := by decide +kernel
theorem d_L_law_767 : decode c_L_law 767 = .ok (.iconst 0, 1) := by decide +kernel
theorem d_L_law_768 : decode c_L_law 768 = .ok (.invokevirtual 89, 3) := by decide +kernel
theorem d_L_law_771 : decode c_L_law 771 = .ok (.if_icmp .eq 84, 3) := by decide +kernel
theorem d_L_law_774 : decode c_L_law 774 = .ok (.iconst 0, 1) := by decide +kernel
theorem d_L_law_775 : decode c_L_law 775 = .ok (.ireturn, 1) := by decide +kernel
theorem d_L_law_776 : decode c_L_law 776 = .ok (.aload_n 1, 1) := by decide +kernel
theorem d_L_law_777 : decode c_L_law 777 = .ok (.aload_n 0, 1) := by decide +kernel
theorem d_L_law_778 : decode c_L_law 778 = .ok (.iload_n 3, 1) := by decide +kernel
theorem d_L_law_779 : decode c_L_law 779 = .ok (.iconst 1, 1) := by decide +kernel
theorem d_L_law_780 : decode c_L_law 780 = .ok (.iadd, 1) := by decide +kernel
theorem d_L_law_781 : decode c_L_law 781 = .ok (.iaload, 1) := by decide +kernel
theorem d_L_law_782 : decode c_L_law 782 = .ok (.aload_n 0, 1) := by decide +kernel
theorem d_L_law_783 : decode c_L_law 783 = .ok (.iload_n 3, 1) := by decide +kernel
theorem d_L_law_784 : decode c_L_law 784 = .ok (.iconst 2, 1) := by decide +kernel
theorem d_L_law_785 : decode c_L_law 785 = .ok (.iadd, 1) := by decide +kernel
theorem d_L_law_786 : decode c_L_law 786 = .ok (.iaload, 1) := by decide +kernel
theorem d_L_law_787 : decode c_L_law 787 = .ok (.invokevirtual 90, 3) := by decide +kernel
theorem d_L_law_790 : decode c_L_law 790 = .ok (.aload_n 2, 1) := by decide +kernel
theorem d_L_law_791 : decode c_L_law 791 = .ok (.aload_n 0, 1) := by decide +kernel
theorem d_L_law_792 : decode c_L_law 792 = .ok (.iload_n 3, 1) := by decide +kernel
theorem d_L_law_793 : decode c_L_law 793 = .ok (.iconst 1, 1) := by decide +kernel
theorem d_L_law_794 : decode c_L_law 794 = .ok (.iadd, 1) := by decide +kernel
theorem d_L_law_795 : decode c_L_law 795 = .ok (.iaload, 1) := by decide +kernel
theorem d_L_law_796 : decode c_L_law 796 = .ok (.aload_n 0, 1) := by decide +kernel
theorem d_L_law_797 : decode c_L_law 797 = .ok (.iload_n 3, 1) := by decide +kernel
theorem d_L_law_798 : decode c_L_law 798 = .ok (.iconst 2, 1) := by decide +kernel
theorem d_L_law_799 : decode c_L_law 799 = .ok (.iadd, 1) := by decide +kernel
theorem d_L_law_800 : decode c_L_law 800 = .ok (.iaload, 1) := by decide +kernel
theorem d_L_law_801 : decode c_L_law 801 = .ok (.invokevirtual 93, 3) := by decide +kernel
theorem d_L_law_804 : decode c_L_law 804 = .ok (.if_icmp .eq 51, 3) := by decide +kernel
theorem d_L_law_807 : decode c_L_law 807 = .ok (.iconst 0, 1) := by decide +kernel
theorem d_L_law_808 : decode c_L_law 808 = .ok (.ireturn, 1) := by decide +kernel
theorem d_L_law_809 : decode c_L_law 809 = .ok (.aload_n 1, 1) := by decide +kernel
theorem d_L_law_810 : decode c_L_law 810 = .ok (.aload_n 0, 1) := by decide +kernel
theorem d_L_law_811 : decode c_L_law 811 = .ok (.iload_n 3, 1) := by decide +kernel
theorem d_L_law_812 : decode c_L_law 812 = .ok (.iconst 1, 1) := by decide +kernel
theorem d_L_law_813 : decode c_L_law 813 = .ok (.iadd, 1) := by decide +kernel
theorem d_L_law_814 : decode c_L_law 814 = .ok (.iaload, 1) := by decide +kernel
theorem d_L_law_815 : decode c_L_law 815 = .ok (.aload_n 0, 1) := by decide +kernel
theorem d_L_law_816 : decode c_L_law 816 = .ok (.iload_n 3, 1) := by decide +kernel
theorem d_L_law_817 : decode c_L_law 817 = .ok (.iconst 2, 1) := by decide +kernel
theorem d_L_law_818 : decode c_L_law 818 = .ok (.iadd, 1) := by decide +kernel
theorem d_L_law_819 : decode c_L_law 819 = .ok (.iaload, 1) := by decide +kernel
theorem d_L_law_820 : decode c_L_law 820 = .ok (.invokevirtual 94, 3) := by decide +kernel
theorem d_L_law_823 : decode c_L_law 823 = .ok (.aload_n 2, 1) := by decide +kernel
theorem d_L_law_824 : decode c_L_law 824 = .ok (.aload_n 0, 1) := by decide +kernel
theorem d_L_law_825 : decode c_L_law 825 = .ok (.iload_n 3, 1) := by decide +kernel
theorem d_L_law_826 : decode c_L_law 826 = .ok (.iconst 1, 1) := by decide +kernel
theorem d_L_law_827 : decode c_L_law 827 = .ok (.iadd, 1) := by decide +kernel
theorem d_L_law_828 : decode c_L_law 828 = .ok (.iaload, 1) := by decide +kernel
theorem d_L_law_829 : decode c_L_law 829 = .ok (.aload_n 0, 1) := by decide +kernel
theorem d_L_law_830 : decode c_L_law 830 = .ok (.iload_n 3, 1) := by decide +kernel
theorem d_L_law_831 : decode c_L_law 831 = .ok (.iconst 2, 1) := by decide +kernel
theorem d_L_law_832 : decode c_L_law 832 = .ok (.iadd, 1) := by decide +kernel
theorem d_L_law_833 : decode c_L_law 833 = .ok (.iaload, 1) := by decide +kernel
theorem d_L_law_834 : decode c_L_law 834 = .ok (.invokevirtual 97, 3) := by decide +kernel
theorem d_L_law_837 : decode c_L_law 837 = .ok (.if_icmp .eq 18, 3) := by decide +kernel
theorem d_L_law_840 : decode c_L_law 840 = .ok (.iconst 0, 1) := by decide +kernel
theorem d_L_law_841 : decode c_L_law 841 = .ok (.ireturn, 1) := by decide +kernel
theorem d_L_law_842 : decode c_L_law 842 = .ok (.aload_n 1, 1) := by decide +kernel
theorem d_L_law_843 : decode c_L_law 843 = .ok (.invokevirtual 98, 3) := by decide +kernel
theorem d_L_law_846 : decode c_L_law 846 = .ok (.aload_n 2, 1) := by decide +kernel
theorem d_L_law_847 : decode c_L_law 847 = .ok (.invokevirtual 102, 3) := by decide +kernel
theorem d_L_law_850 : decode c_L_law 850 = .ok (.if_icmp .eq 5, 3) := by decide +kernel
theorem d_L_law_853 : decode c_L_law 853 = .ok (.iconst 0, 1) := by decide +kernel
theorem d_L_law_854 : decode c_L_law 854 = .ok (.ireturn, 1) := by decide +kernel
theorem d_L_law_855 : decode c_L_law 855 = .ok (.iinc 3 5, 3) := by decide +kernel
theorem d_L_law_858 : decode c_L_law 858 = .ok (.goto (-840), 3) := by decide +kernel
theorem d_L_law_861 : decode c_L_law 861 = .ok (.iconst 1, 1) := by decide +kernel
theorem d_L_law_862 : decode c_L_law 862 = .ok (.ireturn, 1) := by decide +kernel
end
section
/-! The ground that all contracts here stand on: one list of words for all methods, one form of contract, locals by their places. -/
def x_us (w : Cond) : Bool := goodWord w || (match w with
  | .fieldLinkNest _ _ _ _ _ _ => true
  | .methodLinkNest _ _ _ _ => true
  | .castable _ _ => true
  | .arrayOver (.object _) => true
  | _ => false)
theorem x_mv {w : Cond} (hu : x_us w = true) {s U : State} (hW : s.WarmedH U.vm) (h : ∀ A, w.before A s = true) : ∀ A, w.before A U = true := by
  intro A
  by_cases hg : goodWord w = true
  · exact word_at hW (good_of_word hg) (h A)
  · unfold x_us at hu
    rw [Bool.or_eq_true] at hu
    rcases hu with hu | hu
    · exact absurd hu hg
    · split at hu
      · exact va_Nw.use rfl (va_Nw.warmF hW (va_Nw.of rfl (h #[])))
      · exact va_Nw.use rfl (va_Nw.warmM hW (va_Nw.of rfl (h #[])))
      · exact va_Nw.use rfl (va_Nw.warmC hW (va_Nw.of rfl (h #[])))
      · exact va_AO.use (va_AO.moved hW.alike (va_AO.of (h #[])))
      · cases hu
/-- the words of the tables hold -/
def xT (U : State) : Prop := ∀ w ∈ lw_tbl, x_us w = true → ∀ A, w.before A U = true
theorem xT.mv {s U : State} (h : xT s) (hW : s.WarmedH U.vm) : xT U := fun w hw hu => x_mv hu hW (h w hw hu)
/-- the array classes: of int, byte, long, Item, Tree -/
abbrev x_ty (A : Nat → ClassId) : List (ClassId × FieldType) := [(A 0, .int), (A 1, .byte), (A 2, .long), (A 3, .object R_I), (A 4, .object R_T)]
abbrev x_rm (d mc ms : Nat) : Room := { frames := d, cells := mc, slots := ms, locals := 64 * d }
/-- what a contract asks of the state: the heap, the classes, the words -/
def xP (D : va_G) (A : Nat → ClassId) (H0 : Heap) (av : List Value) : Array Value → State → Prop := va_Pc av (fun U => U.heap = H0 ∧ va_K D vwCl (x_ty A) U ∧ xT U)
/-- what it gives: an answer with its heap; nothing but what 'fr' names has changed -/
def xQ (fr : Nat → Prop) (post : Option Value → Heap → Prop) : Array Value → State → Outcome → State → Prop := fun _ st oc t => (∃ v, oc = .returned v ∧ post v t.heap) ∧ va_F fr st t
def xC (l : Launch) (y : MethodName) (cc : ByteArray) (nL : Nat) (ret : Option FieldType) (d : Nat) (D : va_G) (A : Nat → ClassId) (H0 : Heap) (av : List Value) (fr : Nat → Prop) (post : Option Value → Heap → Prop) (mc ms : Nat) : Prop :=
  Met l y [Cond.code y cc nL ret] (x_rm d mc ms) (xP D A H0 av) (xQ fr post) mc ms fr
/-- an answer x, and P of the heap -/
abbrev q1 (x : Value) (P : Heap → Prop) : Option Value → Heap → Prop := fun v H => v = some x ∧ P H
abbrev q0 (P : Heap → Prop) : Option Value → Heap → Prop := fun v H => v = none ∧ P H
abbrev qr (P : Nat → Heap → Prop) : Option Value → Heap → Prop := fun v H => ∃ a, v = some (.ref a) ∧ P a H
/-- inside a method -/
def xx (p : Program) (s : State) (m : MethodId) (args : Array Value) (meth : Method) (c : Code) (cc : ByteArray) (nL : Nat) (own : String) (ret : Option FieldType) (D : va_G) (A : Nat → ClassId) (H0 : Heap) : Prop :=
  p.tables.exec = Jvm.exec ∧ c.code = cc ∧ c.maxLocals = nL ∧ s.vm.findClass own = some m.cls ∧ meth.sig.returnType = ret ∧ meth.locks = false ∧ va_K D vwCl (x_ty A) s ∧ xT s ∧ s.heap = H0
/-- locals by their places -/
def lz (ls : Array Slot) (nL : Nat) (L : List (Option Value)) : Prop := ls.size = nL ∧ lv_wf ls ∧ ∀ (i : Nat) (v : Value), L[i]? = some (some v) → ls[i]? = some (.val v)
def lz_l : Nat → List (Option Value) → List (Nat × Value)
  | _, [] => []
  | i, none :: L => lz_l (i + 1) L
  | i, some v :: L => (i, v) :: lz_l (i + 1) L
theorem lz_l_mem {L : List (Option Value)} {i j : Nat} {v : Value} : (j, v) ∈ lz_l i L ↔ i ≤ j ∧ L[j - i]? = some (some v) := by
  induction L generalizing i with
  | nil => simp [lz_l]
  | cons o L ih =>
    have hs : ∀ k, i + 1 ≤ k → (o :: L)[k - i]? = L[k - (i + 1)]? := fun k hk => by
      rw [show k - i = (k - (i + 1)) + 1 from by omega, List.getElem?_cons_succ]
    cases o with
    | none =>
      simp only [lz_l, ih]
      constructor
      · intro ⟨h1, h2⟩; exact ⟨by omega, by rw [hs j h1]; exact h2⟩
      · intro ⟨h1, h2⟩
        rcases Nat.lt_or_ge i j with h | h
        · exact ⟨h, by rw [← hs j h]; exact h2⟩
        · rw [show j - i = 0 from by omega] at h2; simp at h2
    | some w =>
      simp only [lz_l, List.mem_cons, ih, Prod.mk.injEq]
      constructor
      · intro h
        rcases h with ⟨rfl, rfl⟩ | ⟨h1, h2⟩
        · exact ⟨Nat.le_refl _, by simp⟩
        · exact ⟨by omega, by rw [hs j h1]; exact h2⟩
      · intro ⟨h1, h2⟩
        rcases Nat.lt_or_ge i j with h | h
        · exact Or.inr ⟨h, by rw [← hs j h]; exact h2⟩
        · have : j = i := by omega
          subst this
          simp at h2
          exact Or.inl ⟨rfl, h2.symm⟩
theorem lz_has {ls : Array Slot} {nL : Nat} {L : List (Option Value)} (h : lz ls nL L) : lv_has ls nL (lz_l 0 L) :=
  ⟨h.1, h.2.1, fun q hq => h.2.2 q.1 q.2 (by have := (lz_l_mem (i := 0) (j := q.1) (v := q.2)).1 hq; simpa using this.2)⟩
/-- no value of two slots begins at the slot before i -/
def lz_c (L : List (Option Value)) (i : Nat) : Bool := match i with
  | 0 => true
  | j + 1 => match L[j]? with
    | some (some v) => v.category != 2
    | _ => true
theorem lz_store {ls' : Array Slot} {nL i : Nat} {L : List (Option Value)} {x : Value} (hc : lz_c L i = true) (h : lv_has ls' nL ((i, x) :: (lz_l 0 L).filter (fun q => !(q.1 == i) && !(q.1 + 1 == i && q.2.category == 2)))) : lz ls' nL (L.set i (some x)) := by
  refine ⟨h.1, h.2.1, fun j v hj => ?_⟩
  rw [List.getElem?_set] at hj
  split at hj
  · rename_i e
    split at hj
    · cases hj; subst e; exact h.2.2 (i, x) (by simp)
    · cases hj
  · rename_i e
    refine h.2.2 (j, v) (List.mem_cons_of_mem _ (List.mem_filter.2 ⟨(lz_l_mem (i := 0)).2 ⟨Nat.zero_le _, by simpa using hj⟩, ?_⟩))
    simp only [Bool.and_eq_true, Bool.not_eq_true', beq_eq_false_iff_ne, ne_eq, Bool.and_eq_false_imp, beq_iff_eq]
    refine ⟨fun e2 => e e2.symm, fun e2 => ?_⟩
    subst e2
    simp only [lz_c, hj, bne_iff_ne, ne_eq] at hc
    exact hc
theorem lz_store2 {ls' : Array Slot} {nL i : Nat} {L : List (Option Value)} {x : Value} (hc : lz_c L i = true) (h : lv_has ls' nL ((i, x) :: (lz_l 0 L).filter (fun q => !(q.1 == i) && (!(q.1 == i + 1) && !(q.1 + 1 == i && q.2.category == 2))))) : lz ls' nL ((L.set i (some x)).set (i + 1) none) := by
  refine ⟨h.1, h.2.1, fun j v hj => ?_⟩
  rw [List.getElem?_set] at hj
  split at hj
  · split at hj <;> cases hj
  · rename_i e1
    rw [List.getElem?_set] at hj
    split at hj
    · rename_i e
      split at hj
      · cases hj; subst e; exact h.2.2 (i, x) (by simp)
      · cases hj
    · rename_i e
      refine h.2.2 (j, v) (List.mem_cons_of_mem _ (List.mem_filter.2 ⟨(lz_l_mem (i := 0)).2 ⟨Nat.zero_le _, by simpa using hj⟩, ?_⟩))
      simp only [Bool.and_eq_true, Bool.not_eq_true', beq_eq_false_iff_ne, ne_eq, Bool.and_eq_false_imp, beq_iff_eq]
      refine ⟨fun e2 => e e2.symm, fun e2 => e1 e2.symm, fun e2 => ?_⟩
      subst e2
      simp only [lz_c, hj, bne_iff_ne, ne_eq] at hc
      exact hc
/-- the locals at a method's entry -/
def x_in : List Value → List (Option Value)
  | [] => []
  | v :: av => if v.category = 2 then some v :: none :: x_in av else some v :: x_in av
theorem x_in_args {av : List Value} {i j : Nat} {v : Value} (h : (x_in av)[j]? = some (some v)) : (i + j, v) ∈ lv_args i av := by
  induction av generalizing i j with
  | nil => simp [x_in] at h
  | cons w av ih =>
    unfold x_in at h
    unfold lv_args
    split at h
    · rename_i hc
      cases j with
      | zero => simp at h; simp [h]
      | succ j =>
        cases j with
        | zero => simp at h
        | succ j =>
          simp only [List.getElem?_cons_succ] at h
          have := ih (i := i + 2) h
          rw [show i + 2 + j = i + (j + 1 + 1) from by omega] at this
          simp [hc, this]
    · rename_i hc
      cases j with
      | zero => simp at h; simp [h]
      | succ j =>
        simp only [List.getElem?_cons_succ] at h
        have := ih (i := i + 1) h
        rw [show i + 1 + j = i + (j + 1) from by omega] at this
        simp [hc, this]
end
section
/-! Rows, an instruction each, over the bundle xx and locals lz: written by a program. -/
section XR
variable {p : Program} {l : Launch} {e : Env} {R : Room} {s : State} {m : MethodId} {args : Array Value} {below : List Frame} {meth : Method} {c : Code} {H : Heap} {locs : List Loc} {cells slots : Nat} {Q : State → Prop}
variable {cc : ByteArray} {nL : Nat} {own : String} {ret : Option FieldType} {D : va_G} {A : Nat → ClassId} {H0 : Heap} {pc : Nat} {ls : Array Slot} {rest : List Value} {L : List (Option Value)}

theorem x_iload_n (X : xx p s m args meth c cc nL own ret D A H0) {k : Fin 4} {i : Nat} {x : Int32} (hdg : decode cc pc = .ok (.iload_n k, 1)) (hi : (k : Nat) = i) (hl : lz ls nL L) (hL : L[i]? = some (some (.int x))) (kk : W p l e R s m args below meth c H locs cells slots Q (F0 m (pc + 1) ls ((.int x) :: rest))) : W p l e R s m args below meth c H locs cells slots Q (F0 m pc ls rest) := lv_iload_n X.1 X.2.1 hdg hi (hl.2.2 i _ hL) kk
theorem x_iload (X : xx p s m args meth c cc nL own ret D A H0) {i : Nat} {x : Int32} (hdg : decode cc pc = .ok (.iload i, 2)) (hl : lz ls nL L) (hL : L[i]? = some (some (.int x))) (kk : W p l e R s m args below meth c H locs cells slots Q (F0 m (pc + 2) ls ((.int x) :: rest))) : W p l e R s m args below meth c H locs cells slots Q (F0 m pc ls rest) := lv_iload X.1 X.2.1 hdg (hl.2.2 i _ hL) kk
theorem x_istore_n (X : xx p s m args meth c cc nL own ret D A H0) {k : Fin 4} {i : Nat} {x : Int32} (hdg : decode cc pc = .ok (.istore_n k, 1)) (hi : (k : Nat) = i) (hl : lz ls nL L) (hn : i < nL) (hc : lz_c L i = true) (kk : ∀ ls : Array Slot, lz ls nL (L.set i (some (.int x))) → W p l e R s m args below meth c H locs cells slots Q (F0 m (pc + 1) ls rest)) : W p l e R s m args below meth c H locs cells slots Q (F0 m pc ls ((.int x) :: rest)) := lv_istore_n X.1 X.2.1 hdg hi (lz_has hl) hn rfl (fun ls h => kk ls (lz_store hc h))
theorem x_istore (X : xx p s m args meth c cc nL own ret D A H0) {i : Nat} {x : Int32} (hdg : decode cc pc = .ok (.istore i, 2)) (hl : lz ls nL L) (hn : i < nL) (hc : lz_c L i = true) (kk : ∀ ls : Array Slot, lz ls nL (L.set i (some (.int x))) → W p l e R s m args below meth c H locs cells slots Q (F0 m (pc + 2) ls rest)) : W p l e R s m args below meth c H locs cells slots Q (F0 m pc ls ((.int x) :: rest)) := lv_istore X.1 X.2.1 hdg (lz_has hl) hn rfl (fun ls h => kk ls (lz_store hc h))
theorem x_aload_n (X : xx p s m args meth c cc nL own ret D A H0) {k : Fin 4} {i : Nat} {x : Nat} (hdg : decode cc pc = .ok (.aload_n k, 1)) (hi : (k : Nat) = i) (hl : lz ls nL L) (hL : L[i]? = some (some (.ref x))) (kk : W p l e R s m args below meth c H locs cells slots Q (F0 m (pc + 1) ls ((.ref x) :: rest))) : W p l e R s m args below meth c H locs cells slots Q (F0 m pc ls rest) := lv_aload_n X.1 X.2.1 hdg hi (hl.2.2 i _ hL) kk
theorem x_aload (X : xx p s m args meth c cc nL own ret D A H0) {i : Nat} {x : Nat} (hdg : decode cc pc = .ok (.aload i, 2)) (hl : lz ls nL L) (hL : L[i]? = some (some (.ref x))) (kk : W p l e R s m args below meth c H locs cells slots Q (F0 m (pc + 2) ls ((.ref x) :: rest))) : W p l e R s m args below meth c H locs cells slots Q (F0 m pc ls rest) := lv_aload X.1 X.2.1 hdg (hl.2.2 i _ hL) kk
theorem x_astore_n (X : xx p s m args meth c cc nL own ret D A H0) {k : Fin 4} {i : Nat} {x : Nat} (hdg : decode cc pc = .ok (.astore_n k, 1)) (hi : (k : Nat) = i) (hl : lz ls nL L) (hn : i < nL) (hc : lz_c L i = true) (kk : ∀ ls : Array Slot, lz ls nL (L.set i (some (.ref x))) → W p l e R s m args below meth c H locs cells slots Q (F0 m (pc + 1) ls rest)) : W p l e R s m args below meth c H locs cells slots Q (F0 m pc ls ((.ref x) :: rest)) := lv_astore_n X.1 X.2.1 hdg hi (lz_has hl) hn rfl (fun ls h => kk ls (lz_store hc h))
theorem x_astore (X : xx p s m args meth c cc nL own ret D A H0) {i : Nat} {x : Nat} (hdg : decode cc pc = .ok (.astore i, 2)) (hl : lz ls nL L) (hn : i < nL) (hc : lz_c L i = true) (kk : ∀ ls : Array Slot, lz ls nL (L.set i (some (.ref x))) → W p l e R s m args below meth c H locs cells slots Q (F0 m (pc + 2) ls rest)) : W p l e R s m args below meth c H locs cells slots Q (F0 m pc ls ((.ref x) :: rest)) := lv_astore X.1 X.2.1 hdg (lz_has hl) hn rfl (fun ls h => kk ls (lz_store hc h))
theorem x_lload_n (X : xx p s m args meth c cc nL own ret D A H0) {k : Fin 4} {i : Nat} {x : Int64} (hdg : decode cc pc = .ok (.lload_n k, 1)) (hi : (k : Nat) = i) (hl : lz ls nL L) (hL : L[i]? = some (some (.long x))) (kk : W p l e R s m args below meth c H locs cells slots Q (F0 m (pc + 1) ls ((.long x) :: rest))) : W p l e R s m args below meth c H locs cells slots Q (F0 m pc ls rest) := lv_lload_n X.1 X.2.1 hdg hi (hl.2.2 i _ hL) kk
theorem x_lload (X : xx p s m args meth c cc nL own ret D A H0) {i : Nat} {x : Int64} (hdg : decode cc pc = .ok (.lload i, 2)) (hl : lz ls nL L) (hL : L[i]? = some (some (.long x))) (kk : W p l e R s m args below meth c H locs cells slots Q (F0 m (pc + 2) ls ((.long x) :: rest))) : W p l e R s m args below meth c H locs cells slots Q (F0 m pc ls rest) := lv_lload X.1 X.2.1 hdg (hl.2.2 i _ hL) kk
theorem x_lstore_n (X : xx p s m args meth c cc nL own ret D A H0) {k : Fin 4} {i : Nat} {x : Int64} (hdg : decode cc pc = .ok (.lstore_n k, 1)) (hi : (k : Nat) = i) (hl : lz ls nL L) (hn : i + 1 < nL) (hc : lz_c L i = true) (kk : ∀ ls : Array Slot, lz ls nL ((L.set i (some (.long x))).set (i + 1) none) → W p l e R s m args below meth c H locs cells slots Q (F0 m (pc + 1) ls rest)) : W p l e R s m args below meth c H locs cells slots Q (F0 m pc ls (.long x :: rest)) := lv_lstore_n X.1 X.2.1 hdg hi (lz_has hl) hn rfl (fun ls h => kk ls (lz_store2 hc h))
theorem x_lstore (X : xx p s m args meth c cc nL own ret D A H0) {i : Nat} {x : Int64} (hdg : decode cc pc = .ok (.lstore i, 2)) (hl : lz ls nL L) (hn : i + 1 < nL) (hc : lz_c L i = true) (kk : ∀ ls : Array Slot, lz ls nL ((L.set i (some (.long x))).set (i + 1) none) → W p l e R s m args below meth c H locs cells slots Q (F0 m (pc + 2) ls rest)) : W p l e R s m args below meth c H locs cells slots Q (F0 m pc ls (.long x :: rest)) := lv_lstore X.1 X.2.1 hdg (lz_has hl) hn rfl (fun ls h => kk ls (lz_store2 hc h))
theorem x_aload_nN (X : xx p s m args meth c cc nL own ret D A H0) {k : Fin 4} {i : Nat} (hdg : decode cc pc = .ok (.aload_n k, 1)) (hi : (k : Nat) = i) (hl : lz ls nL L) (hL : L[i]? = some (some .null)) (kk : W p l e R s m args below meth c H locs cells slots Q (F0 m (pc + 1) ls (.null :: rest))) : W p l e R s m args below meth c H locs cells slots Q (F0 m pc ls rest) := lv_aload_nN X.1 X.2.1 hdg hi (hl.2.2 i _ hL) kk
theorem x_aloadN (X : xx p s m args meth c cc nL own ret D A H0) {i : Nat} (hdg : decode cc pc = .ok (.aload i, 2)) (hl : lz ls nL L) (hL : L[i]? = some (some .null)) (kk : W p l e R s m args below meth c H locs cells slots Q (F0 m (pc + 2) ls (.null :: rest))) : W p l e R s m args below meth c H locs cells slots Q (F0 m pc ls rest) := lv_aloadN X.1 X.2.1 hdg (hl.2.2 i _ hL) kk
theorem x_astore_nN (X : xx p s m args meth c cc nL own ret D A H0) {k : Fin 4} {i : Nat} (hdg : decode cc pc = .ok (.astore_n k, 1)) (hi : (k : Nat) = i) (hl : lz ls nL L) (hn : i < nL) (hc : lz_c L i = true) (kk : ∀ ls : Array Slot, lz ls nL (L.set i (some .null)) → W p l e R s m args below meth c H locs cells slots Q (F0 m (pc + 1) ls rest)) : W p l e R s m args below meth c H locs cells slots Q (F0 m pc ls (.null :: rest)) := lv_astore_nN X.1 X.2.1 hdg hi (lz_has hl) hn rfl (fun ls h => kk ls (lz_store hc h))
theorem x_astoreN (X : xx p s m args meth c cc nL own ret D A H0) {i : Nat} (hdg : decode cc pc = .ok (.astore i, 2)) (hl : lz ls nL L) (hn : i < nL) (hc : lz_c L i = true) (kk : ∀ ls : Array Slot, lz ls nL (L.set i (some .null)) → W p l e R s m args below meth c H locs cells slots Q (F0 m (pc + 2) ls rest)) : W p l e R s m args below meth c H locs cells slots Q (F0 m pc ls (.null :: rest)) := lv_astoreN X.1 X.2.1 hdg (lz_has hl) hn rfl (fun ls h => kk ls (lz_store hc h))
theorem x_iconst (X : xx p s m args meth c cc nL own ret D A H0) {n : Int} {v : Int32} (hdg : decode cc pc = .ok (.iconst n, 1)) (hv : Int32.ofInt n = v) (kk : W p l e R s m args below meth c H locs cells slots Q (F0 m (pc + 1) ls (.int v :: rest))) : W p l e R s m args below meth c H locs cells slots Q (F0 m pc ls rest) := lv_iconst X.1 X.2.1 hdg hv kk
theorem x_bipush (X : xx p s m args meth c cc nL own ret D A H0) {n : Int} {v : Int32} (hdg : decode cc pc = .ok (.bipush n, 2)) (hv : (Int8.ofInt n).toInt32 = v) (kk : W p l e R s m args below meth c H locs cells slots Q (F0 m (pc + 2) ls (.int v :: rest))) : W p l e R s m args below meth c H locs cells slots Q (F0 m pc ls rest) := lv_bipush X.1 X.2.1 hdg hv kk
theorem x_null (X : xx p s m args meth c cc nL own ret D A H0) (hdg : decode cc pc = .ok (.aconst_null, 1)) (kk : W p l e R s m args below meth c H locs cells slots Q (F0 m (pc + 1) ls (.null :: rest))) : W p l e R s m args below meth c H locs cells slots Q (F0 m pc ls rest) := lv_null X.1 X.2.1 hdg kk
theorem n_iadd (X : xx p s m args meth c cc nL own ret D A H0) {a b : Nat} (hdg : decode cc pc = .ok (.iadd, 1)) (kk : W p l e R s m args below meth c H locs cells slots Q (F0 m (pc + 1) ls (.int (nI (a + b)) :: rest))) : W p l e R s m args below meth c H locs cells slots Q (F0 m pc ls (.int (nI b) :: .int (nI a) :: rest)) := lv_iadd X.1 X.2.1 hdg (by rw [nI_add]; exact kk)
theorem n_isub (X : xx p s m args meth c cc nL own ret D A H0) {a b : Nat} (hdg : decode cc pc = .ok (.isub, 1)) (hab : b ≤ a) (kk : W p l e R s m args below meth c H locs cells slots Q (F0 m (pc + 1) ls (.int (nI (a - b)) :: rest))) : W p l e R s m args below meth c H locs cells slots Q (F0 m pc ls (.int (nI b) :: .int (nI a) :: rest)) := lv_isub X.1 X.2.1 hdg (by rw [pk_sub hab]; exact kk)
theorem n_imul (X : xx p s m args meth c cc nL own ret D A H0) {a b : Nat} (hdg : decode cc pc = .ok (.imul, 1)) (kk : W p l e R s m args below meth c H locs cells slots Q (F0 m (pc + 1) ls (.int (nI (a * b)) :: rest))) : W p l e R s m args below meth c H locs cells slots Q (F0 m pc ls (.int (nI b) :: .int (nI a) :: rest)) := lv_imul X.1 X.2.1 hdg (by rw [pk_mul]; exact kk)
theorem x_iadd (X : xx p s m args meth c cc nL own ret D A H0) {x y : Int32} (hdg : decode cc pc = .ok (.iadd, 1)) (kk : W p l e R s m args below meth c H locs cells slots Q (F0 m (pc + 1) ls (.int (x + y) :: rest))) : W p l e R s m args below meth c H locs cells slots Q (F0 m pc ls (.int y :: .int x :: rest)) := lv_iadd X.1 X.2.1 hdg kk
theorem x_isub (X : xx p s m args meth c cc nL own ret D A H0) {x y : Int32} (hdg : decode cc pc = .ok (.isub, 1)) (kk : W p l e R s m args below meth c H locs cells slots Q (F0 m (pc + 1) ls (.int (x - y) :: rest))) : W p l e R s m args below meth c H locs cells slots Q (F0 m pc ls (.int y :: .int x :: rest)) := lv_isub X.1 X.2.1 hdg kk
theorem x_ladd (X : xx p s m args meth c cc nL own ret D A H0) {x y : Int64} (hdg : decode cc pc = .ok (.ladd, 1)) (kk : W p l e R s m args below meth c H locs cells slots Q (F0 m (pc + 1) ls (.long (x + y) :: rest))) : W p l e R s m args below meth c H locs cells slots Q (F0 m pc ls (.long y :: .long x :: rest)) := lv_ladd X.1 X.2.1 hdg kk
theorem x_lsub (X : xx p s m args meth c cc nL own ret D A H0) {x y : Int64} (hdg : decode cc pc = .ok (.lsub, 1)) (kk : W p l e R s m args below meth c H locs cells slots Q (F0 m (pc + 1) ls (.long (x - y) :: rest))) : W p l e R s m args below meth c H locs cells slots Q (F0 m pc ls (.long y :: .long x :: rest)) := lv_lsub X.1 X.2.1 hdg kk
theorem x_land (X : xx p s m args meth c cc nL own ret D A H0) {x y : Int64} (hdg : decode cc pc = .ok (.land, 1)) (kk : W p l e R s m args below meth c H locs cells slots Q (F0 m (pc + 1) ls (.long (x &&& y) :: rest))) : W p l e R s m args below meth c H locs cells slots Q (F0 m pc ls (.long y :: .long x :: rest)) := lv_land X.1 X.2.1 hdg kk
theorem x_lor (X : xx p s m args meth c cc nL own ret D A H0) {x y : Int64} (hdg : decode cc pc = .ok (.lor, 1)) (kk : W p l e R s m args below meth c H locs cells slots Q (F0 m (pc + 1) ls (.long (x ||| y) :: rest))) : W p l e R s m args below meth c H locs cells slots Q (F0 m pc ls (.long y :: .long x :: rest)) := lv_lor X.1 X.2.1 hdg kk
theorem x_lxor (X : xx p s m args meth c cc nL own ret D A H0) {x y : Int64} (hdg : decode cc pc = .ok (.lxor, 1)) (kk : W p l e R s m args below meth c H locs cells slots Q (F0 m (pc + 1) ls (.long (x ^^^ y) :: rest))) : W p l e R s m args below meth c H locs cells slots Q (F0 m pc ls (.long y :: .long x :: rest)) := lv_lxor X.1 X.2.1 hdg kk
theorem x_iand (X : xx p s m args meth c cc nL own ret D A H0) {x y : Int32} (hdg : decode cc pc = .ok (.iand, 1)) (kk : W p l e R s m args below meth c H locs cells slots Q (F0 m (pc + 1) ls (.int (x &&& y) :: rest))) : W p l e R s m args below meth c H locs cells slots Q (F0 m pc ls (.int y :: .int x :: rest)) := lv_iand X.1 X.2.1 hdg kk
theorem x_i2l (X : xx p s m args meth c cc nL own ret D A H0) {x : Int32} {v : Int64} (hdg : decode cc pc = .ok (.i2l, 1)) (hv : x.toInt64 = v) (kk : W p l e R s m args below meth c H locs cells slots Q (F0 m (pc + 1) ls (.long v :: rest))) : W p l e R s m args below meth c H locs cells slots Q (F0 m pc ls (.int x :: rest)) := lv_i2l X.1 X.2.1 hdg hv kk
theorem x_l2i (X : xx p s m args meth c cc nL own ret D A H0) {x : Int64} {v : Int32} (hdg : decode cc pc = .ok (.l2i, 1)) (hv : x.toInt32 = v) (kk : W p l e R s m args below meth c H locs cells slots Q (F0 m (pc + 1) ls (.int v :: rest))) : W p l e R s m args below meth c H locs cells slots Q (F0 m pc ls (.long x :: rest)) := lv_l2i X.1 X.2.1 hdg hv kk
theorem x_lshl (X : xx p s m args meth c cc nL own ret D A H0) {x v : Int64} {y : Int32} (hdg : decode cc pc = .ok (.lshl, 1)) (hv : x <<< (y.toInt64 &&& 63) = v) (kk : W p l e R s m args below meth c H locs cells slots Q (F0 m (pc + 1) ls (.long v :: rest))) : W p l e R s m args below meth c H locs cells slots Q (F0 m pc ls (.int y :: .long x :: rest)) := lv_lshl X.1 X.2.1 hdg hv kk
theorem x_lushr (X : xx p s m args meth c cc nL own ret D A H0) {x v : Int64} {y : Int32} (hdg : decode cc pc = .ok (.lushr, 1)) (hv : (x.toUInt64 >>> (y.toInt64.toUInt64 &&& Int64.toUInt64 63)).toInt64 = v) (kk : W p l e R s m args below meth c H locs cells slots Q (F0 m (pc + 1) ls (.long v :: rest))) : W p l e R s m args below meth c H locs cells slots Q (F0 m pc ls (.int y :: .long x :: rest)) := lv_lushr X.1 X.2.1 hdg hv kk
theorem x_dup (X : xx p s m args meth c cc nL own ret D A H0) {v : Value} (hdg : decode cc pc = .ok (.dup, 1)) (hv : v.category = 1) (kk : W p l e R s m args below meth c H locs cells slots Q (F0 m (pc + 1) ls (v :: v :: rest))) : W p l e R s m args below meth c H locs cells slots Q (F0 m pc ls (v :: rest)) := lv_dup X.1 X.2.1 hdg hv kk
theorem x_pop (X : xx p s m args meth c cc nL own ret D A H0) {v : Value} (hdg : decode cc pc = .ok (.pop, 1)) (hv : v.category = 1) (kk : W p l e R s m args below meth c H locs cells slots Q (F0 m (pc + 1) ls rest)) : W p l e R s m args below meth c H locs cells slots Q (F0 m pc ls (v :: rest)) := lv_pop X.1 X.2.1 hdg hv kk
theorem x_goto (X : xx p s m args meth c cc nL own ret D A H0) {off : Int} (tgt : Nat) (hdg : decode cc pc = .ok (.goto off, 3)) (ht : (pc : Int) + off = (tgt : Int)) (kk : W p l e R s m args below meth c H locs cells slots Q (F0 m tgt ls rest)) : W p l e R s m args below meth c H locs cells slots Q (F0 m pc ls rest) := lv_goto X.1 X.2.1 hdg ht kk
theorem n_iinc (X : xx p s m args meth c cc nL own ret D A H0) {i a d : Nat} {n : Int} (hdg : decode cc pc = .ok (.iinc i n, 3)) (hv : Int32.ofInt n = nI d) (hl : lz ls nL L) (hL : L[i]? = some (some (.int (nI a)))) (hn : i < nL) (hc : lz_c L i = true) (kk : ∀ ls : Array Slot, lz ls nL (L.set i (some (.int (nI (a + d))))) → W p l e R s m args below meth c H locs cells slots Q (F0 m (pc + 3) ls rest)) : W p l e R s m args below meth c H locs cells slots Q (F0 m pc ls rest) := by
  obtain ⟨k, hk⟩ := List.getElem?_of_mem ((lz_l_mem (i := 0) (j := i) (v := .int (nI a))).2 ⟨Nat.zero_le _, hL⟩)
  exact lv_iinc X.1 X.2.1 hdg (lz_has hl) hk (v := nI (a + d)) (by rw [hv, nI_add]) hn rfl (fun ls h => kk ls (lz_store hc h))
theorem n_idec (X : xx p s m args meth c cc nL own ret D A H0) {i a : Nat} (hdg : decode cc pc = .ok (.iinc i (-1), 3)) (ha : 1 ≤ a) (hl : lz ls nL L) (hL : L[i]? = some (some (.int (nI a)))) (hn : i < nL) (hc : lz_c L i = true) (kk : ∀ ls : Array Slot, lz ls nL (L.set i (some (.int (nI (a - 1))))) → W p l e R s m args below meth c H locs cells slots Q (F0 m (pc + 3) ls rest)) : W p l e R s m args below meth c H locs cells slots Q (F0 m pc ls rest) := by
  obtain ⟨k, hk⟩ := List.getElem?_of_mem ((lz_l_mem (i := 0) (j := i) (v := .int (nI a))).2 ⟨Nat.zero_le _, hL⟩)
  exact lv_iinc X.1 X.2.1 hdg (lz_has hl) hk (v := nI (a - 1)) (by rw [← pk_sub ha]; show nI a + Int32.ofInt (-1) = nI a - nI 1; rw [show Int32.ofInt (-1) = -(nI 1) from by decide, Int32.sub_eq_add_neg]) hn rfl (fun ls h => kk ls (lz_store hc h))
theorem n_icmp_eq (X : xx p s m args meth c cc nL own ret D A H0) {a b : Nat} {off : Int} (tgt : Nat) (hdg : decode cc pc = .ok (.if_icmp .eq off, 3)) (ht : (pc : Int) + off = (tgt : Int)) (ha : a < 2 ^ 31) (hb : b < 2 ^ 31) (kt : a = b → W p l e R s m args below meth c H locs cells slots Q (F0 m tgt ls rest)) (kf : a ≠ b → W p l e R s m args below meth c H locs cells slots Q (F0 m (pc + 3) ls rest)) : W p l e R s m args below meth c H locs cells slots Q (F0 m pc ls (.int (nI b) :: .int (nI a) :: rest)) := lv_icmp_eq X.1 X.2.1 hdg ht (fun h => kt ((nI_eq ha hb).1 h)) (fun h => kf (fun e => h ((nI_eq ha hb).2 e)))
theorem n_if_eq (X : xx p s m args meth c cc nL own ret D A H0) {a : Nat} {off : Int} (tgt : Nat) (hdg : decode cc pc = .ok (.ifCond .eq off, 3)) (ht : (pc : Int) + off = (tgt : Int)) (ha : a < 2 ^ 31) (kt : a = 0 → W p l e R s m args below meth c H locs cells slots Q (F0 m tgt ls rest)) (kf : a ≠ 0 → W p l e R s m args below meth c H locs cells slots Q (F0 m (pc + 3) ls rest)) : W p l e R s m args below meth c H locs cells slots Q (F0 m pc ls (.int (nI a) :: rest)) := lv_if_eq X.1 X.2.1 hdg ht (fun h => kt (by rw [← nI_0] at h; exact (nI_eq ha (by decide : 0 < 2 ^ 31)).1 h)) (fun h => kf (by rw [← nI_0] at h; exact fun e => h ((nI_eq ha (by decide : 0 < 2 ^ 31)).2 e)))
theorem n_icmp_ne (X : xx p s m args meth c cc nL own ret D A H0) {a b : Nat} {off : Int} (tgt : Nat) (hdg : decode cc pc = .ok (.if_icmp .ne off, 3)) (ht : (pc : Int) + off = (tgt : Int)) (ha : a < 2 ^ 31) (hb : b < 2 ^ 31) (kt : a ≠ b → W p l e R s m args below meth c H locs cells slots Q (F0 m tgt ls rest)) (kf : a = b → W p l e R s m args below meth c H locs cells slots Q (F0 m (pc + 3) ls rest)) : W p l e R s m args below meth c H locs cells slots Q (F0 m pc ls (.int (nI b) :: .int (nI a) :: rest)) := lv_icmp_ne X.1 X.2.1 hdg ht (fun h => kt (fun e => h ((nI_eq ha hb).2 e))) (fun h => kf ((nI_eq ha hb).1 h))
theorem n_if_ne (X : xx p s m args meth c cc nL own ret D A H0) {a : Nat} {off : Int} (tgt : Nat) (hdg : decode cc pc = .ok (.ifCond .ne off, 3)) (ht : (pc : Int) + off = (tgt : Int)) (ha : a < 2 ^ 31) (kt : a ≠ 0 → W p l e R s m args below meth c H locs cells slots Q (F0 m tgt ls rest)) (kf : a = 0 → W p l e R s m args below meth c H locs cells slots Q (F0 m (pc + 3) ls rest)) : W p l e R s m args below meth c H locs cells slots Q (F0 m pc ls (.int (nI a) :: rest)) := lv_if_ne X.1 X.2.1 hdg ht (fun h => kt (by rw [← nI_0] at h; exact fun e => h ((nI_eq ha (by decide : 0 < 2 ^ 31)).2 e))) (fun h => kf (by rw [← nI_0] at h; exact (nI_eq ha (by decide : 0 < 2 ^ 31)).1 h))
theorem n_icmp_lt (X : xx p s m args meth c cc nL own ret D A H0) {a b : Nat} {off : Int} (tgt : Nat) (hdg : decode cc pc = .ok (.if_icmp .lt off, 3)) (ht : (pc : Int) + off = (tgt : Int)) (ha : a < 2 ^ 31) (hb : b < 2 ^ 31) (kt : a < b → W p l e R s m args below meth c H locs cells slots Q (F0 m tgt ls rest)) (kf : b ≤ a → W p l e R s m args below meth c H locs cells slots Q (F0 m (pc + 3) ls rest)) : W p l e R s m args below meth c H locs cells slots Q (F0 m pc ls (.int (nI b) :: .int (nI a) :: rest)) := lv_icmp_lt X.1 X.2.1 hdg ht (fun h => kt ((nI_ltI ha hb).1 h)) (fun h => kf (Nat.le_of_not_lt fun e => h ((nI_ltI ha hb).2 e)))
theorem n_if_lt (X : xx p s m args meth c cc nL own ret D A H0) {a : Nat} {off : Int} (tgt : Nat) (hdg : decode cc pc = .ok (.ifCond .lt off, 3)) (ht : (pc : Int) + off = (tgt : Int)) (ha : a < 2 ^ 31) (kt : a < 0 → W p l e R s m args below meth c H locs cells slots Q (F0 m tgt ls rest)) (kf : 0 ≤ a → W p l e R s m args below meth c H locs cells slots Q (F0 m (pc + 3) ls rest)) : W p l e R s m args below meth c H locs cells slots Q (F0 m pc ls (.int (nI a) :: rest)) := lv_if_lt X.1 X.2.1 hdg ht (fun h => kt (by rw [← nI_0] at h; exact (nI_ltI ha (by decide : 0 < 2 ^ 31)).1 h)) (fun h => kf (by rw [← nI_0] at h; exact Nat.le_of_not_lt fun e => h ((nI_ltI ha (by decide : 0 < 2 ^ 31)).2 e)))
theorem n_icmp_ge (X : xx p s m args meth c cc nL own ret D A H0) {a b : Nat} {off : Int} (tgt : Nat) (hdg : decode cc pc = .ok (.if_icmp .ge off, 3)) (ht : (pc : Int) + off = (tgt : Int)) (ha : a < 2 ^ 31) (hb : b < 2 ^ 31) (kt : b ≤ a → W p l e R s m args below meth c H locs cells slots Q (F0 m tgt ls rest)) (kf : a < b → W p l e R s m args below meth c H locs cells slots Q (F0 m (pc + 3) ls rest)) : W p l e R s m args below meth c H locs cells slots Q (F0 m pc ls (.int (nI b) :: .int (nI a) :: rest)) := lv_icmp_ge X.1 X.2.1 hdg ht (fun h => kt ((nI_leI hb ha).1 h)) (fun h => kf (Nat.lt_of_not_le fun e => h ((nI_leI hb ha).2 e)))
theorem n_if_ge (X : xx p s m args meth c cc nL own ret D A H0) {a : Nat} {off : Int} (tgt : Nat) (hdg : decode cc pc = .ok (.ifCond .ge off, 3)) (ht : (pc : Int) + off = (tgt : Int)) (ha : a < 2 ^ 31) (kt : 0 ≤ a → W p l e R s m args below meth c H locs cells slots Q (F0 m tgt ls rest)) (kf : a < 0 → W p l e R s m args below meth c H locs cells slots Q (F0 m (pc + 3) ls rest)) : W p l e R s m args below meth c H locs cells slots Q (F0 m pc ls (.int (nI a) :: rest)) := lv_if_ge X.1 X.2.1 hdg ht (fun h => kt (by rw [← nI_0] at h; exact (nI_leI (by decide : 0 < 2 ^ 31) ha).1 h)) (fun h => kf (by rw [← nI_0] at h; exact Nat.lt_of_not_le fun e => h ((nI_leI (by decide : 0 < 2 ^ 31) ha).2 e)))
theorem n_icmp_gt (X : xx p s m args meth c cc nL own ret D A H0) {a b : Nat} {off : Int} (tgt : Nat) (hdg : decode cc pc = .ok (.if_icmp .gt off, 3)) (ht : (pc : Int) + off = (tgt : Int)) (ha : a < 2 ^ 31) (hb : b < 2 ^ 31) (kt : b < a → W p l e R s m args below meth c H locs cells slots Q (F0 m tgt ls rest)) (kf : a ≤ b → W p l e R s m args below meth c H locs cells slots Q (F0 m (pc + 3) ls rest)) : W p l e R s m args below meth c H locs cells slots Q (F0 m pc ls (.int (nI b) :: .int (nI a) :: rest)) := lv_icmp_gt X.1 X.2.1 hdg ht (fun h => kt ((nI_ltI hb ha).1 h)) (fun h => kf (Nat.le_of_not_lt fun e => h ((nI_ltI hb ha).2 e)))
theorem n_if_gt (X : xx p s m args meth c cc nL own ret D A H0) {a : Nat} {off : Int} (tgt : Nat) (hdg : decode cc pc = .ok (.ifCond .gt off, 3)) (ht : (pc : Int) + off = (tgt : Int)) (ha : a < 2 ^ 31) (kt : 0 < a → W p l e R s m args below meth c H locs cells slots Q (F0 m tgt ls rest)) (kf : a ≤ 0 → W p l e R s m args below meth c H locs cells slots Q (F0 m (pc + 3) ls rest)) : W p l e R s m args below meth c H locs cells slots Q (F0 m pc ls (.int (nI a) :: rest)) := lv_if_gt X.1 X.2.1 hdg ht (fun h => kt (by rw [← nI_0] at h; exact (nI_ltI (by decide : 0 < 2 ^ 31) ha).1 h)) (fun h => kf (by rw [← nI_0] at h; exact Nat.le_of_not_lt fun e => h ((nI_ltI (by decide : 0 < 2 ^ 31) ha).2 e)))
theorem n_icmp_le (X : xx p s m args meth c cc nL own ret D A H0) {a b : Nat} {off : Int} (tgt : Nat) (hdg : decode cc pc = .ok (.if_icmp .le off, 3)) (ht : (pc : Int) + off = (tgt : Int)) (ha : a < 2 ^ 31) (hb : b < 2 ^ 31) (kt : a ≤ b → W p l e R s m args below meth c H locs cells slots Q (F0 m tgt ls rest)) (kf : b < a → W p l e R s m args below meth c H locs cells slots Q (F0 m (pc + 3) ls rest)) : W p l e R s m args below meth c H locs cells slots Q (F0 m pc ls (.int (nI b) :: .int (nI a) :: rest)) := lv_icmp_le X.1 X.2.1 hdg ht (fun h => kt ((nI_leI ha hb).1 h)) (fun h => kf (Nat.lt_of_not_le fun e => h ((nI_leI ha hb).2 e)))
theorem n_if_le (X : xx p s m args meth c cc nL own ret D A H0) {a : Nat} {off : Int} (tgt : Nat) (hdg : decode cc pc = .ok (.ifCond .le off, 3)) (ht : (pc : Int) + off = (tgt : Int)) (ha : a < 2 ^ 31) (kt : a ≤ 0 → W p l e R s m args below meth c H locs cells slots Q (F0 m tgt ls rest)) (kf : 0 < a → W p l e R s m args below meth c H locs cells slots Q (F0 m (pc + 3) ls rest)) : W p l e R s m args below meth c H locs cells slots Q (F0 m pc ls (.int (nI a) :: rest)) := lv_if_le X.1 X.2.1 hdg ht (fun h => kt (by rw [← nI_0] at h; exact (nI_leI ha (by decide : 0 < 2 ^ 31)).1 h)) (fun h => kf (by rw [← nI_0] at h; exact Nat.lt_of_not_le fun e => h ((nI_leI ha (by decide : 0 < 2 ^ 31)).2 e)))
theorem x_lconst (X : xx p s m args meth c cc nL own ret D A H0) {k : Fin 2} {v : Int64} (hdg : decode cc pc = .ok (.lconst k, 1)) (hv : Int64.ofNat (k : Nat) = v) (kk : W p l e R s m args below meth c H locs cells slots Q (F0 m (pc + 1) ls (.long v :: rest))) : W p l e R s m args below meth c H locs cells slots Q (F0 m pc ls rest) := lv_lconst X.1 X.2.1 hdg hv kk
theorem x_sipush (X : xx p s m args meth c cc nL own ret D A H0) {n : Int} {v : Int32} (hdg : decode cc pc = .ok (.sipush n, 3)) (hv : (Int16.ofInt n).toInt32 = v) (kk : W p l e R s m args below meth c H locs cells slots Q (F0 m (pc + 3) ls (.int v :: rest))) : W p l e R s m args below meth c H locs cells slots Q (F0 m pc ls rest) := lv_sipush X.1 X.2.1 hdg hv kk
theorem x_topi {x y : Int32} (h : x = y) (kk : W p l e R s m args below meth c H locs cells slots Q (F0 m pc ls (.int y :: rest))) : W p l e R s m args below meth c H locs cells slots Q (F0 m pc ls (.int x :: rest)) := by rw [h]; exact kk
theorem x_topl {x y : Int64} (h : x = y) (kk : W p l e R s m args below meth c H locs cells slots Q (F0 m pc ls (.long y :: rest))) : W p l e R s m args below meth c H locs cells slots Q (F0 m pc ls (.long x :: rest)) := by rw [h]; exact kk
theorem x_ldc2 (X : xx p s m args meth c cc nL own ret D A H0) {index : Nat} {v : Int64} (hw : Cond.constantLong own index v ∈ lw_tbl) (hdg : decode cc pc = .ok (.ldc2_w index, 3)) (kk : W p l e R s m args below meth c H locs cells slots Q (F0 m (pc + 3) ls (.long v :: rest))) : W p l e R s m args below meth c H locs cells slots Q (F0 m pc ls rest) := lv_ldc2 X.1 X.2.1 X.2.2.2.1 (X.2.2.2.2.2.2.2.1 _ hw rfl args) hdg kk
theorem x_i2b (X : xx p s m args meth c cc nL own ret D A H0) {x v : Int32} (hdg : decode cc pc = .ok (.i2b, 1)) (hv : x.toInt8.toInt32 = v) (kk : W p l e R s m args below meth c H locs cells slots Q (F0 m (pc + 1) ls (.int v :: rest))) : W p l e R s m args below meth c H locs cells slots Q (F0 m pc ls (.int x :: rest)) := lv_i2b X.1 X.2.1 hdg hv kk
theorem x_icmp_eq (X : xx p s m args meth c cc nL own ret D A H0) {x y : Int32} {off : Int} (tgt : Nat) (hdg : decode cc pc = .ok (.if_icmp .eq off, 3)) (ht : (pc : Int) + off = (tgt : Int)) (kt : x = y → W p l e R s m args below meth c H locs cells slots Q (F0 m tgt ls rest)) (kf : ¬ (x = y) → W p l e R s m args below meth c H locs cells slots Q (F0 m (pc + 3) ls rest)) : W p l e R s m args below meth c H locs cells slots Q (F0 m pc ls (.int y :: .int x :: rest)) := lv_icmp_eq X.1 X.2.1 hdg ht kt kf
theorem x_if_eq (X : xx p s m args meth c cc nL own ret D A H0) {x : Int32} {off : Int} (tgt : Nat) (hdg : decode cc pc = .ok (.ifCond .eq off, 3)) (ht : (pc : Int) + off = (tgt : Int)) (kt : x = 0 → W p l e R s m args below meth c H locs cells slots Q (F0 m tgt ls rest)) (kf : ¬ (x = 0) → W p l e R s m args below meth c H locs cells slots Q (F0 m (pc + 3) ls rest)) : W p l e R s m args below meth c H locs cells slots Q (F0 m pc ls (.int x :: rest)) := lv_if_eq X.1 X.2.1 hdg ht kt kf
theorem x_icmp_ne (X : xx p s m args meth c cc nL own ret D A H0) {x y : Int32} {off : Int} (tgt : Nat) (hdg : decode cc pc = .ok (.if_icmp .ne off, 3)) (ht : (pc : Int) + off = (tgt : Int)) (kt : x ≠ y → W p l e R s m args below meth c H locs cells slots Q (F0 m tgt ls rest)) (kf : x = y → W p l e R s m args below meth c H locs cells slots Q (F0 m (pc + 3) ls rest)) : W p l e R s m args below meth c H locs cells slots Q (F0 m pc ls (.int y :: .int x :: rest)) := lv_icmp_ne X.1 X.2.1 hdg ht kt kf
theorem x_if_ne (X : xx p s m args meth c cc nL own ret D A H0) {x : Int32} {off : Int} (tgt : Nat) (hdg : decode cc pc = .ok (.ifCond .ne off, 3)) (ht : (pc : Int) + off = (tgt : Int)) (kt : x ≠ 0 → W p l e R s m args below meth c H locs cells slots Q (F0 m tgt ls rest)) (kf : x = 0 → W p l e R s m args below meth c H locs cells slots Q (F0 m (pc + 3) ls rest)) : W p l e R s m args below meth c H locs cells slots Q (F0 m pc ls (.int x :: rest)) := lv_if_ne X.1 X.2.1 hdg ht kt kf
theorem x_icmp_lt (X : xx p s m args meth c cc nL own ret D A H0) {x y : Int32} {off : Int} (tgt : Nat) (hdg : decode cc pc = .ok (.if_icmp .lt off, 3)) (ht : (pc : Int) + off = (tgt : Int)) (kt : x < y → W p l e R s m args below meth c H locs cells slots Q (F0 m tgt ls rest)) (kf : ¬ (x < y) → W p l e R s m args below meth c H locs cells slots Q (F0 m (pc + 3) ls rest)) : W p l e R s m args below meth c H locs cells slots Q (F0 m pc ls (.int y :: .int x :: rest)) := lv_icmp_lt X.1 X.2.1 hdg ht kt kf
theorem x_if_lt (X : xx p s m args meth c cc nL own ret D A H0) {x : Int32} {off : Int} (tgt : Nat) (hdg : decode cc pc = .ok (.ifCond .lt off, 3)) (ht : (pc : Int) + off = (tgt : Int)) (kt : x < 0 → W p l e R s m args below meth c H locs cells slots Q (F0 m tgt ls rest)) (kf : ¬ (x < 0) → W p l e R s m args below meth c H locs cells slots Q (F0 m (pc + 3) ls rest)) : W p l e R s m args below meth c H locs cells slots Q (F0 m pc ls (.int x :: rest)) := lv_if_lt X.1 X.2.1 hdg ht kt kf
theorem x_icmp_ge (X : xx p s m args meth c cc nL own ret D A H0) {x y : Int32} {off : Int} (tgt : Nat) (hdg : decode cc pc = .ok (.if_icmp .ge off, 3)) (ht : (pc : Int) + off = (tgt : Int)) (kt : y ≤ x → W p l e R s m args below meth c H locs cells slots Q (F0 m tgt ls rest)) (kf : ¬ (y ≤ x) → W p l e R s m args below meth c H locs cells slots Q (F0 m (pc + 3) ls rest)) : W p l e R s m args below meth c H locs cells slots Q (F0 m pc ls (.int y :: .int x :: rest)) := lv_icmp_ge X.1 X.2.1 hdg ht kt kf
theorem x_if_ge (X : xx p s m args meth c cc nL own ret D A H0) {x : Int32} {off : Int} (tgt : Nat) (hdg : decode cc pc = .ok (.ifCond .ge off, 3)) (ht : (pc : Int) + off = (tgt : Int)) (kt : 0 ≤ x → W p l e R s m args below meth c H locs cells slots Q (F0 m tgt ls rest)) (kf : ¬ (0 ≤ x) → W p l e R s m args below meth c H locs cells slots Q (F0 m (pc + 3) ls rest)) : W p l e R s m args below meth c H locs cells slots Q (F0 m pc ls (.int x :: rest)) := lv_if_ge X.1 X.2.1 hdg ht kt kf
theorem x_icmp_gt (X : xx p s m args meth c cc nL own ret D A H0) {x y : Int32} {off : Int} (tgt : Nat) (hdg : decode cc pc = .ok (.if_icmp .gt off, 3)) (ht : (pc : Int) + off = (tgt : Int)) (kt : y < x → W p l e R s m args below meth c H locs cells slots Q (F0 m tgt ls rest)) (kf : ¬ (y < x) → W p l e R s m args below meth c H locs cells slots Q (F0 m (pc + 3) ls rest)) : W p l e R s m args below meth c H locs cells slots Q (F0 m pc ls (.int y :: .int x :: rest)) := lv_icmp_gt X.1 X.2.1 hdg ht kt kf
theorem x_if_gt (X : xx p s m args meth c cc nL own ret D A H0) {x : Int32} {off : Int} (tgt : Nat) (hdg : decode cc pc = .ok (.ifCond .gt off, 3)) (ht : (pc : Int) + off = (tgt : Int)) (kt : 0 < x → W p l e R s m args below meth c H locs cells slots Q (F0 m tgt ls rest)) (kf : ¬ (0 < x) → W p l e R s m args below meth c H locs cells slots Q (F0 m (pc + 3) ls rest)) : W p l e R s m args below meth c H locs cells slots Q (F0 m pc ls (.int x :: rest)) := lv_if_gt X.1 X.2.1 hdg ht kt kf
theorem x_icmp_le (X : xx p s m args meth c cc nL own ret D A H0) {x y : Int32} {off : Int} (tgt : Nat) (hdg : decode cc pc = .ok (.if_icmp .le off, 3)) (ht : (pc : Int) + off = (tgt : Int)) (kt : x ≤ y → W p l e R s m args below meth c H locs cells slots Q (F0 m tgt ls rest)) (kf : ¬ (x ≤ y) → W p l e R s m args below meth c H locs cells slots Q (F0 m (pc + 3) ls rest)) : W p l e R s m args below meth c H locs cells slots Q (F0 m pc ls (.int y :: .int x :: rest)) := lv_icmp_le X.1 X.2.1 hdg ht kt kf
theorem x_if_le (X : xx p s m args meth c cc nL own ret D A H0) {x : Int32} {off : Int} (tgt : Nat) (hdg : decode cc pc = .ok (.ifCond .le off, 3)) (ht : (pc : Int) + off = (tgt : Int)) (kt : x ≤ 0 → W p l e R s m args below meth c H locs cells slots Q (F0 m tgt ls rest)) (kf : ¬ (x ≤ 0) → W p l e R s m args below meth c H locs cells slots Q (F0 m (pc + 3) ls rest)) : W p l e R s m args below meth c H locs cells slots Q (F0 m pc ls (.int x :: rest)) := lv_if_le X.1 X.2.1 hdg ht kt kf
end XR
end
section
/-! A contract's beginning, its ends, and calls. -/
section XC
variable {p : Program} {l : Launch} {e : Env} {R : Room} {s : State} {m : MethodId} {args : Array Value} {below : List Frame} {meth : Method} {c : Code} {H : Heap} {locs : List Loc} {cells slots : Nat} {Q : State → Prop}
variable {cc : ByteArray} {nL : Nat} {own : String} {ret : Option FieldType} {D : va_G} {A : Nat → ClassId} {H0 : Heap} {pc : Nat} {ls : Array Slot} {rest : List Value} {L : List (Option Value)}
theorem x_blind {av : List Value} : FrameBlind (xP D A H0 av) := fun a U g mk h => ⟨h.1, h.2.1, va_K.moved (u := U) (U := U.calling g mk a) (Vm.Alike.refl U.vm) h.2.2.1, xT.mv (s := U) (U := U.calling g mk a) h.2.2.2 (State.WarmedH.refl U)⟩
theorem xC.of {y : MethodName} {d : Nat} {av : List Value} {fr : Nat → Prop} {post : Option Value → Heap → Prop} {mc ms : Nat} (hy : plainName y.cls = true) (hlen : (lg_sl av).length ≤ nL)
    (body : ∀ (p : Program) (e : Env) (s : State) (m : MethodId) (args : Array Value) (below : List Frame) (meth : Method) (c : Code) (ls : Array Slot), xx p s m args meth c cc nL y.cls ret D A H0 → lz ls nL (x_in av ++ List.replicate (nL - (x_in av).length) none) → W p l e (x_rm d mc ms) s m args below meth c H0 [] 0 0 (MQ below (xQ fr post) args s mc ms fr) (F0 m 0 ls [])) : xC l y cc nL ret d D A H0 av fr post mc ms := by
  refine Met.ofW (cc := cc) (maxL := nL) (ret := ret) hy rfl ?_
  intro p e s m args below meth c s₁ B hml hv
  obtain ⟨rfl, hH, hK, hT⟩ := hv
  have hl := lv_entry av (n := nL) hlen
  rw [lg_entry_eq]
  generalize (lg_sl av ++ List.replicate (nL - (lg_sl av).length) Slot.unset).toArray = ls at hl ⊢
  have h := body p e s m av.toArray below meth c ls ⟨B.exec, B.bytes, hml, findClass_of_methodNamed B.named, B.returns, B.notSynchronized, hK, hT, hH⟩ ⟨hl.1, hl.2.1, fun i v hi => by
    have hi2 : (x_in av)[i]? = some (some v) := by
      rw [List.getElem?_append] at hi
      split at hi
      · exact hi
      · rw [List.getElem?_replicate] at hi
        split at hi <;> simp at hi
    have := x_in_args (i := 0) hi2
    rw [Nat.zero_add] at this
    exact hl.2.2 (i, v) this⟩
  rw [← hH] at h
  exact h
theorem x_iret {fr : Nat → Prop} {post : Option Value → Heap → Prop} {mc ms : Nat} {v : Int32} (X : xx p s m args meth c cc nL own (some .int) D A H0) (hS : va_S fr H0 H locs) (hc : cells ≤ mc) (hs : slots ≤ ms) (hdg : decode cc pc = .ok (.ireturn, 1)) (hp : post (some (.int v)) H) : W p l e R s m args below meth c H locs cells slots (MQ below (xQ fr post) args s mc ms fr) (F0 m pc ls [.int v]) := by
  obtain ⟨h1, h2, h3, h4, h5, h6, h7, h8, rfl⟩ := X
  exact W.widen hc hs (W.iret h1 h2 h5 (fun t ht _ => ⟨⟨_, rfl, by rw [ht]; exact hp⟩, hS.F ht⟩) hS.2.2 hdg h6)
theorem x_zret {fr : Nat → Prop} {post : Option Value → Heap → Prop} {mc ms : Nat} {v : Int32} (X : xx p s m args meth c cc nL own (some .boolean) D A H0) (hS : va_S fr H0 H locs) (hc : cells ≤ mc) (hs : slots ≤ ms) (hdg : decode cc pc = .ok (.ireturn, 1)) (hn : narrow .boolean (.int v) = .int v) (hp : post (some (.int v)) H) : W p l e R s m args below meth c H locs cells slots (MQ below (xQ fr post) args s mc ms fr) (F0 m pc ls [.int v]) := by
  obtain ⟨h1, h2, h3, h4, h5, h6, h7, h8, rfl⟩ := X
  exact W.widen hc hs (W.zret h1 h2 h5 hn (fun t ht _ => ⟨⟨_, rfl, by rw [ht]; exact hp⟩, hS.F ht⟩) hS.2.2 hdg h6)
theorem x_lret {fr : Nat → Prop} {post : Option Value → Heap → Prop} {mc ms : Nat} {v : Int64} (X : xx p s m args meth c cc nL own (some .long) D A H0) (hS : va_S fr H0 H locs) (hc : cells ≤ mc) (hs : slots ≤ ms) (hdg : decode cc pc = .ok (.lreturn, 1)) (hp : post (some (.long v)) H) : W p l e R s m args below meth c H locs cells slots (MQ below (xQ fr post) args s mc ms fr) (F0 m pc ls [.long v]) := by
  obtain ⟨h1, h2, h3, h4, h5, h6, h7, h8, rfl⟩ := X
  exact W.widen hc hs (W.lret h1 h2 h5 (fun t ht _ => ⟨⟨_, rfl, by rw [ht]; exact hp⟩, hS.F ht⟩) hS.2.2 hdg h6)
theorem x_vret {fr : Nat → Prop} {post : Option Value → Heap → Prop} {mc ms : Nat} (X : xx p s m args meth c cc nL own none D A H0) (hS : va_S fr H0 H locs) (hc : cells ≤ mc) (hs : slots ≤ ms) (hdg : decode cc pc = .ok (.return_, 1)) (hp : post none H) : W p l e R s m args below meth c H locs cells slots (MQ below (xQ fr post) args s mc ms fr) (F0 m pc ls []) := by
  obtain ⟨h1, h2, h3, h4, h5, h6, h7, h8, rfl⟩ := X
  exact W.widen hc hs (W.vret h1 h2 h5 (fun t ht _ => ⟨⟨_, rfl, by rw [ht]; exact hp⟩, hS.F ht⟩) hS.2.2 hdg h6)
theorem x_aret {fr : Nat → Prop} {post : Option Value → Heap → Prop} {mc ms : Nat} {a : Nat} {rt : FieldType} (X : xx p s m args meth c cc nL own (some rt) D A H0) (hrt : (∃ n, rt = .object n) ∨ ∃ t, rt = .array t) (hS : va_S fr H0 H locs) (hc : cells ≤ mc) (hs : slots ≤ ms) (hdg : decode cc pc = .ok (.areturn, 1)) (hp : post (some (.ref a)) H) : W p l e R s m args below meth c H locs cells slots (MQ below (xQ fr post) args s mc ms fr) (F0 m pc ls [.ref a]) := by
  obtain ⟨h1, h2, h3, h4, h5, h6, h7, h8, rfl⟩ := X
  exact W.widen hc hs (W.aret h1 h2 h5 hrt (Or.inr ⟨a, rfl⟩) (fun t ht _ => ⟨⟨_, rfl, by rw [ht]; exact hp⟩, hS.F ht⟩) hS.2.2 hdg h6)
/-- what a call leaves as it was -/
def x_fr (fr : Nat → Prop) (H H1 : Heap) : Prop := H.size ≤ H1.size ∧ ∀ q : Nat, q < H.size → ¬ fr q → H1[q]? = H[q]?
theorem x_go {fr fr' : Nat → Prop} {post : Option Value → Heap → Prop} {mc ms : Nat} {st : List Value} {a : Array Value} (hr : va_Run p l e R s m args below meth c H locs cells slots mc ms (F0 m pc ls st) rest (xQ fr' post a) fr') (hS : va_S fr H0 H locs) (hA : ∀ q, fr' q → fr q)
    (kk : ∀ (v : Option Value) (H1 : Heap) (locs1 : List Loc), post v H1 → x_fr fr' H H1 → va_S fr H0 H1 locs1 → W p l e R s m args below meth c H1 locs1 (cells + mc) (slots + ms) Q (F0 m (pc + 3) ls (v.toList ++ rest))) : W p l e R s m args below meth c H locs cells slots Q (F0 m pc ls st) := by
  intro T hT X
  obtain ⟨v, st₀, t, T', L, h0, X', hL, e1, e2, ⟨⟨v2, hv, hp⟩, hz, hk⟩, st⟩ := hr T hT X
  cases hv
  rw [h0] at hz hk
  obtain ⟨t2, a1, b1⟩ := kk v T'.heap (locs ++ L) (by rw [e1]; exact hp) ⟨by rw [e1]; exact hz, fun q h1 h2 => by rw [e1]; exact hk q h1 h2⟩
    ⟨Nat.le_trans hS.1 (by rw [e1]; exact hz), fun q h1 h2 => by rw [e1, hk q (Nat.lt_of_lt_of_le h1 hS.1) (fun z => h2 (hA q z))]; exact hS.2.1 q h1 h2, fun q hq => by
      rcases List.mem_append.mp hq with h | h
      · exact hS.2.2 q h
      · exact hA _ (hL q h)⟩ T' rfl X'
  exact ⟨t2, st t2 a1, b1⟩
theorem x_go1 {fr fr' : Nat → Prop} {x : Value} {P : Heap → Prop} {mc ms : Nat} {st : List Value} {a : Array Value} (hr : va_Run p l e R s m args below meth c H locs cells slots mc ms (F0 m pc ls st) rest (xQ fr' (q1 x P) a) fr') (hS : va_S fr H0 H locs) (hA : ∀ q, fr' q → fr q)
    (kk : ∀ (H1 : Heap) (locs1 : List Loc), P H1 → x_fr fr' H H1 → va_S fr H0 H1 locs1 → W p l e R s m args below meth c H1 locs1 (cells + mc) (slots + ms) Q (F0 m (pc + 3) ls (x :: rest))) : W p l e R s m args below meth c H locs cells slots Q (F0 m pc ls st) :=
  x_go hr hS hA (fun v H1 locs1 hp hf hS => by obtain ⟨rfl, hp⟩ := hp; exact kk H1 locs1 hp hf hS)
theorem x_go0 {fr fr' : Nat → Prop} {P : Heap → Prop} {mc ms : Nat} {st : List Value} {a : Array Value} (hr : va_Run p l e R s m args below meth c H locs cells slots mc ms (F0 m pc ls st) rest (xQ fr' (q0 P) a) fr') (hS : va_S fr H0 H locs) (hA : ∀ q, fr' q → fr q)
    (kk : ∀ (H1 : Heap) (locs1 : List Loc), P H1 → x_fr fr' H H1 → va_S fr H0 H1 locs1 → W p l e R s m args below meth c H1 locs1 (cells + mc) (slots + ms) Q (F0 m (pc + 3) ls rest)) : W p l e R s m args below meth c H locs cells slots Q (F0 m pc ls st) :=
  x_go hr hS hA (fun v H1 locs1 hp hf hS => by obtain ⟨rfl, hp⟩ := hp; exact kk H1 locs1 hp hf hS)
theorem x_gor {fr fr' : Nat → Prop} {P : Nat → Heap → Prop} {mc ms : Nat} {st : List Value} {a : Array Value} (hr : va_Run p l e R s m args below meth c H locs cells slots mc ms (F0 m pc ls st) rest (xQ fr' (qr P) a) fr') (hS : va_S fr H0 H locs) (hA : ∀ q, fr' q → fr q)
    (kk : ∀ (r : Nat) (H1 : Heap) (locs1 : List Loc), P r H1 → x_fr fr' H H1 → va_S fr H0 H1 locs1 → W p l e R s m args below meth c H1 locs1 (cells + mc) (slots + ms) Q (F0 m (pc + 3) ls (.ref r :: rest))) : W p l e R s m args below meth c H locs cells slots Q (F0 m pc ls st) :=
  x_go hr hS hA (fun v H1 locs1 hp hf hS => by obtain ⟨r, rfl, hp⟩ := hp; exact kk r H1 locs1 hp hf hS)
/-- a read: the heap stays -/
theorem x_goR {fr : Nat → Prop} {x : Value} {st : List Value} {a : Array Value} (hr : va_Run p l e R s m args below meth c H locs cells slots 0 0 (F0 m pc ls st) rest (xQ (fun _ => False) (q1 x (fun H1 => H1 = H)) a) (fun _ => False)) (hS : va_S fr H0 H locs)
    (kk : ∀ (locs1 : List Loc), va_S fr H0 H locs1 → W p l e R s m args below meth c H locs1 cells slots Q (F0 m (pc + 3) ls (x :: rest))) : W p l e R s m args below meth c H locs cells slots Q (F0 m pc ls st) :=
  x_go1 hr hS (fun _ h => h.elim) (fun H1 locs1 hp hf hS2 => by subst hp; exact kk locs1 hS2)
theorem x_word (X : xx p s m args meth c cc nL own ret D A H0) {w : Cond} (hw : w ∈ lw_tbl) (hu : x_us w = true) : w.before args s = true := X.2.2.2.2.2.2.2.1 w hw hu args
theorem x_code (X : xx p s m args meth c cc nL own ret D A H0) {y : MethodName} {cc' : ByteArray} {nL' n : Nat} {ret' : Option FieldType} (hb : x_ce y cc' nL' ret' n) : (∀ w ∈ [Cond.code y cc' nL' ret'], w.before args s = true) ∧ GoodIn [Cond.code y cc' nL' ret'] [Cond.code y cc' nL' ret'] :=
  ⟨fun w hw => by rw [List.mem_singleton.1 hw]; exact x_word X hb.1 rfl, fun w hw => ⟨hw, by rw [List.mem_singleton.1 hw]; exact Or.inl rfl⟩⟩
theorem x_preS (X : xx p s m args meth c cc nL own ret D A H0) {av : List Value} : PreS s H (xP D A H av) av := ⟨x_blind, fun U hU hW => ⟨rfl, hU, va_K.moved hW.alike X.2.2.2.2.2.2.1, X.2.2.2.2.2.2.2.1.mv hW⟩⟩
section Runs
variable {y : MethodName} {cc' : ByteArray} {nL' n d' mc ms index b ci : Nat} {ret' : Option FieldType} {fr' : Nat → Prop} {post : Option Value → Heap → Prop} {As st : List Value} {fs : List Value} {C host : String} {T : u_T} {N : Nat}
/-- a virtual method of the own class, or a public one -/
theorem x_runV (X : xx p s m args meth c cc nL own ret D A H0) (hM : xC l y cc' nL' ret' d' D A H (.ref b :: As) fr' post mc ms) (hb : x_ce y cc' nL' ret' n) (hs : Cond.instanceMethod y ∈ lw_tbl) (hv : Cond.selects C y y ∈ lw_tbl) (hl : Cond.methodLink own index y ∈ lw_tbl)
    (ho : va_at D vwCl (b, .inr (ci, fs)) H) (hc : vwCl[ci]? = some (C, T, N)) (hn : As.length = n) (hz : lz ls nL L) (hst : st = As.reverse ++ .ref b :: rest) (hw : (rest.map fun v => v.category).sum ≤ 8) (hdg : decode cc pc = .ok (.invokevirtual index, 3)) (h1 : d' + 1 ≤ R.frames) (h2 : 8 + (nL' + 11) + 64 * d' ≤ R.locals) (hf : cells + mc ≤ R.cells ∧ slots + ms ≤ R.slots) :
    va_Run p l e R s m args below meth c H locs cells slots mc ms (F0 m pc ls st) rest (xQ fr' post (Value.ref b :: As).toArray) fr' := by
  have hcd := x_code X hb
  have hP : va_P D vwCl [(b, .inr (ci, fs))] H := fun k q hk => by
    cases k with
    | zero => cases hk; exact ho
    | succ k => simp at hk
  exact va_runV (Ts := [Cond.code y cc' nL' ret']) (rm := x_rm d' mc ms) ⟨X.1, X.2.1, X.2.2.1, X.2.2.2.1, hcd.1⟩ hM ⟨callB_of n hcd.1 hcd.2 rfl rfl rfl (x_word X hb.2.1 rfl) (x_word X hl rfl) hb.2.2 ⟨h1, h2⟩, x_word X hs rfl, x_word X hv rfl⟩ ⟨x_blind, va_recv (q0 := 0) X.2.2.2.2.2.2.1 hP hc rfl, (x_preS X).2⟩ rfl hn hz.1 hst (lv_room hw) hdg hf
theorem x_runS (X : xx p s m args meth c cc nL own ret D A H0) (hM : xC l y cc' nL' ret' d' D A H As fr' post mc ms) (hb : x_ce y cc' nL' ret' n) (hs : Cond.static y ∈ lw_tbl) (hl : Cond.methodLink own index y ∈ lw_tbl)
    (hn : As.length = n) (hz : lz ls nL L) (hst : st = As.reverse ++ rest) (hw : (rest.map fun v => v.category).sum ≤ 8) (hdg : decode cc pc = .ok (.invokestatic index, 3)) (h1 : d' + 1 ≤ R.frames) (h2 : 8 + (nL' + 11) + 64 * d' ≤ R.locals) (hf : cells + mc ≤ R.cells ∧ slots + ms ≤ R.slots) :
    va_Run p l e R s m args below meth c H locs cells slots mc ms (F0 m pc ls st) rest (xQ fr' post As.toArray) fr' := by
  have hcd := x_code X hb
  exact va_runS (Ts := [Cond.code y cc' nL' ret']) (rm := x_rm d' mc ms) ⟨X.1, X.2.1, X.2.2.1, X.2.2.2.1, hcd.1⟩ hM ⟨callB_of n hcd.1 hcd.2 rfl rfl rfl (x_word X hb.2.1 rfl) (x_word X hl rfl) hb.2.2 ⟨h1, h2⟩, x_word X hs rfl⟩ (x_preS X) rfl hn hz.1 hst (lv_room hw) hdg hf
theorem x_runI (X : xx p s m args meth c cc nL own ret D A H0) (hM : xC l y cc' nL' none d' D A H (.ref b :: As) fr' post mc ms) (hb : x_ce y cc' nL' none n) (hy : y.name = "<init>") (hs : Cond.instanceMethod y ∈ lw_tbl) (hl : Cond.methodLink own index y ∈ lw_tbl)
    (hn : As.length = n) (hz : lz ls nL L) (hst : st = As.reverse ++ .ref b :: rest) (hw : (rest.map fun v => v.category).sum ≤ 8) (hdg : decode cc pc = .ok (.invokespecial index, 3)) (h1 : d' + 1 ≤ R.frames) (h2 : 8 + (nL' + 11) + 64 * d' ≤ R.locals) (hf : cells + mc ≤ R.cells ∧ slots + ms ≤ R.slots) :
    va_Run p l e R s m args below meth c H locs cells slots mc ms (F0 m pc ls st) rest (xQ fr' post (Value.ref b :: As).toArray) fr' := by
  have hcd := x_code X hb
  exact va_runI (Ts := [Cond.code y cc' nL' none]) (rm := x_rm d' mc ms) ⟨X.1, X.2.1, X.2.2.1, X.2.2.2.1, hcd.1⟩ hM ⟨callB_of n hcd.1 hcd.2 rfl rfl rfl (x_word X hb.2.1 rfl) (x_word X hl rfl) hb.2.2 ⟨h1, h2⟩, hy, x_word X hs rfl⟩ (x_preS X) rfl hn hz.1 hst (lv_room hw) hdg hf
/-- a nest mate's -/
theorem x_runVN (X : xx p s m args meth c cc nL own ret D A H0) (hM : xC l y cc' nL' ret' d' D A H (.ref b :: As) fr' post mc ms) (hb : x_ce y cc' nL' ret' n) (hs : Cond.instanceMethod y ∈ lw_tbl) (hv : Cond.selects C y y ∈ lw_tbl) (hl : Cond.methodLinkNest own index y host ∈ lw_tbl)
    (ho : va_at D vwCl (b, .inr (ci, fs)) H) (hc : vwCl[ci]? = some (C, T, N)) (hn : As.length = n) (hz : lz ls nL L) (hst : st = As.reverse ++ .ref b :: rest) (hw : (rest.map fun v => v.category).sum ≤ 8) (hdg : decode cc pc = .ok (.invokevirtual index, 3)) (h1 : d' + 1 ≤ R.frames) (h2 : 8 + (nL' + 11) + 64 * d' ≤ R.locals) (hf : cells + mc ≤ R.cells ∧ slots + ms ≤ R.slots) :
    va_Run p l e R s m args below meth c H locs cells slots mc ms (F0 m pc ls st) rest (xQ fr' post (Value.ref b :: As).toArray) fr' := by
  have hcd := x_code X hb
  have hP : va_P D vwCl [(b, .inr (ci, fs))] H := fun k q hk => by
    cases k with
    | zero => cases hk; exact ho
    | succ k => simp at hk
  exact va_runVN (Ts := [Cond.code y cc' nL' ret']) (rm := x_rm d' mc ms) ⟨X.1, X.2.1, X.2.2.1, X.2.2.2.1, hcd.1⟩ hM ⟨va_cnB n hcd.1 hcd.2 rfl rfl rfl (va_Nw.of rfl (x_word X hl rfl)) (x_word X hb.2.1 rfl) hb.2.2 ⟨h1, h2⟩, x_word X hs rfl, x_word X hv rfl⟩ ⟨x_blind, va_recv (q0 := 0) X.2.2.2.2.2.2.1 hP hc rfl, (x_preS X).2⟩ rfl hn hz.1 hst (lv_room hw) hdg hf
theorem x_runSN (X : xx p s m args meth c cc nL own ret D A H0) (hM : xC l y cc' nL' ret' d' D A H As fr' post mc ms) (hb : x_ce y cc' nL' ret' n) (hs : Cond.static y ∈ lw_tbl) (hl : Cond.methodLinkNest own index y host ∈ lw_tbl)
    (hn : As.length = n) (hz : lz ls nL L) (hst : st = As.reverse ++ rest) (hw : (rest.map fun v => v.category).sum ≤ 8) (hdg : decode cc pc = .ok (.invokestatic index, 3)) (h1 : d' + 1 ≤ R.frames) (h2 : 8 + (nL' + 11) + 64 * d' ≤ R.locals) (hf : cells + mc ≤ R.cells ∧ slots + ms ≤ R.slots) :
    va_Run p l e R s m args below meth c H locs cells slots mc ms (F0 m pc ls st) rest (xQ fr' post As.toArray) fr' := by
  have hcd := x_code X hb
  exact va_runSN (Ts := [Cond.code y cc' nL' ret']) (rm := x_rm d' mc ms) ⟨X.1, X.2.1, X.2.2.1, X.2.2.2.1, hcd.1⟩ hM ⟨va_cnB n hcd.1 hcd.2 rfl rfl rfl (va_Nw.of rfl (x_word X hl rfl)) (x_word X hb.2.1 rfl) hb.2.2 ⟨h1, h2⟩, x_word X hs rfl, trivial⟩ (x_preS X) rfl hn hz.1 hst (lv_room hw) hdg hf
theorem x_runIN (X : xx p s m args meth c cc nL own ret D A H0) (hM : xC l y cc' nL' none d' D A H (.ref b :: As) fr' post mc ms) (hb : x_ce y cc' nL' none n) (hy : y.name = "<init>") (hs : Cond.instanceMethod y ∈ lw_tbl) (hl : Cond.methodLinkNest own index y host ∈ lw_tbl)
    (hn : As.length = n) (hz : lz ls nL L) (hst : st = As.reverse ++ .ref b :: rest) (hw : (rest.map fun v => v.category).sum ≤ 8) (hdg : decode cc pc = .ok (.invokespecial index, 3)) (h1 : d' + 1 ≤ R.frames) (h2 : 8 + (nL' + 11) + 64 * d' ≤ R.locals) (hf : cells + mc ≤ R.cells ∧ slots + ms ≤ R.slots) :
    va_Run p l e R s m args below meth c H locs cells slots mc ms (F0 m pc ls st) rest (xQ fr' post (Value.ref b :: As).toArray) fr' := by
  have hcd := x_code X hb
  exact va_runIN (Ts := [Cond.code y cc' nL' none]) (rm := x_rm d' mc ms) ⟨X.1, X.2.1, X.2.2.1, X.2.2.2.1, hcd.1⟩ hM ⟨va_cnB n hcd.1 hcd.2 rfl rfl rfl (va_Nw.of rfl (x_word X hl rfl)) (x_word X hb.2.1 rfl) hb.2.2 ⟨h1, h2⟩, hy, x_word X hs rfl⟩ (x_preS X) rfl hn hz.1 hst (lv_room hw) hdg hf
end Runs
end XC
end
section
/-! More rows. -/
section XR2
variable {p : Program} {l : Launch} {e : Env} {R : Room} {s : State} {m : MethodId} {args : Array Value} {below : List Frame} {meth : Method} {c : Code} {H : Heap} {locs : List Loc} {cells slots : Nat} {Q : State → Prop}
variable {cc : ByteArray} {nL : Nat} {own : String} {ret : Option FieldType} {D : va_G} {A : Nat → ClassId} {H0 : Heap} {pc : Nat} {ls : Array Slot} {rest : List Value} {L : List (Option Value)}
theorem n_idiv (X : xx p s m args meth c cc nL own ret D A H0) {a b : Nat} (hdg : decode cc pc = .ok (.idiv, 1)) (ha : a < 2 ^ 31) (hb0 : 0 < b) (hb : b < 2 ^ 31) (kk : W p l e R s m args below meth c H locs cells slots Q (F0 m (pc + 1) ls (.int (nI (a / b)) :: rest))) : W p l e R s m args below meth c H locs cells slots Q (F0 m pc ls (.int (nI b) :: .int (nI a) :: rest)) :=
  lv_idiv X.1 X.2.1 hdg (nI_ne0 hb0 hb) (by rw [pk_div ha hb0 hb]; exact kk)
end XR2
end
section
/-! The pure picture: items, rows, trees (a spine of pairs of digits and what stands at its end), and the rules on them. An item is coded in Nat.Internal.Linear.Expr, for no type may be declared here: an entry is '.num e', a node '.mulL number row', a row a chain of '.add'. -/
abbrev ft_I : Type := Nat.Internal.Linear.Expr
abbrev ft_S : Type := List (List ft_I × List ft_I)
abbrev ft_T : Type := ft_S × Option ft_I
def ft_no : ft_I := .var 0
def ft_mk : List ft_I → ft_I
  | [] => .var 0
  | x :: l => .add x (ft_mk l)
def ft_nd (n : Nat) (l : List ft_I) : ft_I := .mulL n (ft_mk l)
def ft_un : ft_I → List ft_I
  | .add x r => x :: ft_un r
  | _ => []
def ft_ps : ft_I → List ft_I
  | .mulL _ r => ft_un r
  | _ => []
theorem ft_un_mk (l : List ft_I) : ft_un (ft_mk l) = l := by
  induction l with
  | nil => rfl
  | cons x l ih => simp [ft_mk, ft_un, ih]
theorem ft_ps_nd (n : Nat) (l : List ft_I) : ft_ps (ft_nd n l) = l := ft_un_mk l
/-- how many entries -/
def ft_z : ft_I → Nat
  | .num _ => 1
  | .mulL _ r => ft_z r
  | .add x r => ft_z x + ft_z r
  | _ => 0
def ft_zR : List ft_I → Nat
  | [] => 0
  | x :: l => ft_z x + ft_zR l
def ft_zT : ft_S → Option ft_I → Nat
  | [], none => 0
  | [], some x => ft_z x
  | d :: sp, o => ft_zR d.1 + ft_zT sp o + ft_zR d.2
theorem ft_z_mk (l : List ft_I) : ft_z (ft_mk l) = ft_zR l := by
  induction l with
  | nil => rfl
  | cons x l ih => simp [ft_mk, ft_z, ft_zR, ih]
theorem ft_z_nd (n : Nat) (l : List ft_I) : ft_z (ft_nd n l) = ft_zR l := ft_z_mk l
theorem ft_zR_app (a b : List ft_I) : ft_zR (a ++ b) = ft_zR a + ft_zR b := by
  induction a with
  | nil => simp [ft_zR]
  | cons x l ih => simp [ft_zR, ih]; omega
/-- the entries of an item, each with the numbers of the nodes that hold it, the innermost first -/
def ft_lv : ft_I → List (Nat × List Nat)
  | .num e => [(e, [])]
  | .mulL n r => (ft_lv r).map (fun q => (q.1, q.2 ++ [n]))
  | .add x r => ft_lv x ++ ft_lv r
  | _ => []
def ft_lR : List ft_I → List (Nat × List Nat)
  | [] => []
  | x :: l => ft_lv x ++ ft_lR l
theorem ft_lv_mk (l : List ft_I) : ft_lv (ft_mk l) = ft_lR l := by
  induction l with
  | nil => rfl
  | cons x l ih => simp [ft_mk, ft_lv, ft_lR, ih]
theorem ft_lv_nd (n : Nat) (l : List ft_I) : ft_lv (ft_nd n l) = (ft_lR l).map (fun q => (q.1, q.2 ++ [n])) := by
  show (ft_lv (ft_mk l)).map _ = _
  rw [ft_lv_mk]
theorem ft_lv_len (x : ft_I) : (ft_lv x).length = ft_z x := by
  induction x with
  | num e => rfl
  | var i => rfl
  | add a b ha hb => simp [ft_lv, ft_z, ha, hb]
  | mulL k a ha => simp [ft_lv, ft_z, ha]
  | mulR a k _ => rfl
theorem ft_lR_len (l : List ft_I) : (ft_lR l).length = ft_zR l := by
  induction l with
  | nil => rfl
  | cons x l ih => simp [ft_lR, ft_zR, ft_lv_len, ih]
theorem ft_lR_app (a b : List ft_I) : ft_lR (a ++ b) = ft_lR a ++ ft_lR b := by
  induction a with
  | nil => rfl
  | cons x l ih => simp [ft_lR, ih]
/-- an item of rank k: its entries are numbered below ne, its nodes from 1 to mm, and zf tells the size of each node by its number -/
def ft_ok (ne mm : Nat) (zf : Nat → Nat) : Nat → ft_I → Prop
  | 0, x => ∃ e, x = .num e ∧ e < ne
  | k + 1, x => ∃ n l, x = ft_nd n l ∧ (l.length = 2 ∨ l.length = 3) ∧ 1 ≤ n ∧ n ≤ mm ∧ zf n = ft_zR l ∧ ∀ y ∈ l, ft_ok ne mm zf k y
def ft_okR (ne mm : Nat) (zf : Nat → Nat) (k : Nat) (l : List ft_I) : Prop := ∀ y ∈ l, ft_ok ne mm zf k y
def ft_okT (ne mm : Nat) (zf : Nat → Nat) : Nat → ft_S → Option ft_I → Prop
  | _, [], none => True
  | k, [], some x => ft_ok ne mm zf k x
  | k, d :: sp, o => (1 ≤ d.1.length ∧ d.1.length ≤ 4 ∧ ft_okR ne mm zf k d.1) ∧ (1 ≤ d.2.length ∧ d.2.length ≤ 4 ∧ ft_okR ne mm zf k d.2) ∧ ft_okT ne mm zf (k + 1) sp o
/-- the number of nodes made so far, and the size of each by its number -/
abbrev ft_C : Type := Nat × (Nat → Nat)
/-- one node more, of the items l -/
def ft_nw (c : ft_C) (l : List ft_I) : ft_C := (c.1 + 1, va_up c.2 (c.1 + 1) (ft_zR l))
/-- FRONT: the tree, and the nodes made so far -/
def ft_fr : ft_I → ft_S → Option ft_I → ft_C → ft_T × ft_C
  | x, [], none, c => (([], some x), c)
  | x, [], some y, c => (([([x], [y])], none), c)
  | x, d :: sp, o, c =>
    if d.1.length < 4 then (((x :: d.1, d.2) :: sp, o), c)
    else (((x :: d.1.take 1, d.2) :: (ft_fr (ft_nd (c.1 + 1) (d.1.drop 1)) sp o (ft_nw c (d.1.drop 1))).1.1, (ft_fr (ft_nd (c.1 + 1) (d.1.drop 1)) sp o (ft_nw c (d.1.drop 1))).1.2), (ft_fr (ft_nd (c.1 + 1) (d.1.drop 1)) sp o (ft_nw c (d.1.drop 1))).2)
/-- BACK -/
def ft_bk : ft_S → Option ft_I → ft_I → ft_C → ft_T × ft_C
  | [], none, x, c => (([], some x), c)
  | [], some y, x, c => (([([y], [x])], none), c)
  | d :: sp, o, x, c =>
    if d.2.length < 4 then (((d.1, d.2 ++ [x]) :: sp, o), c)
    else (((d.1, d.2.drop 3 ++ [x]) :: (ft_bk sp o (ft_nd (c.1 + 1) (d.2.take 3)) (ft_nw c (d.2.take 3))).1.1, (ft_bk sp o (ft_nd (c.1 + 1) (d.2.take 3)) (ft_nw c (d.2.take 3))).1.2), (ft_bk sp o (ft_nd (c.1 + 1) (d.2.take 3)) (ft_nw c (d.2.take 3))).2)
/-- LINE -/
def ft_ln (row : List ft_I) : ft_T :=
  match row with
  | [] => ([], none)
  | [x] => ([], some x)
  | x :: y :: l => ([((x :: y :: l).take ((l.length + 3) / 2), (x :: y :: l).drop ((l.length + 3) / 2))], none)
def ft_em (sp : ft_S) (o : Option ft_I) : Bool := sp.isEmpty && o.isNone
def ft_fi (sp : ft_S) (o : Option ft_I) : ft_I := match sp with
  | [] => o.getD ft_no
  | d :: _ => d.1.headD ft_no
def ft_la (sp : ft_S) (o : Option ft_I) : ft_I := match sp with
  | [] => o.getD ft_no
  | d :: _ => d.2.getLastD ft_no
/-- REST -/
def ft_re : ft_S → Option ft_I → ft_T
  | [], _ => ([], none)
  | d :: sp, o =>
    if 1 < d.1.length then ((d.1.drop 1, d.2) :: sp, o)
    else if ft_em sp o then ft_ln d.2
    else ((ft_ps (ft_fi sp o), d.2) :: (ft_re sp o).1, (ft_re sp o).2)
/-- LEAD -/
def ft_le : ft_S → Option ft_I → ft_T
  | [], _ => ([], none)
  | d :: sp, o =>
    if 1 < d.2.length then ((d.1, d.2.take (d.2.length - 1)) :: sp, o)
    else if ft_em sp o then ft_ln d.1
    else ((d.1, ft_ps (ft_la sp o)) :: (ft_le sp o).1, (ft_le sp o).2)
/-- OPEN -/
def ft_op (l : List ft_I) (sp : ft_S) (o : Option ft_I) (r : List ft_I) : ft_T :=
  if 0 < l.length ∧ 0 < r.length then ((l, r) :: sp, o)
  else if ft_em sp o then ft_ln (if l.length = 0 then r else l)
  else if l.length = 0 then ((ft_ps (ft_fi sp o), r) :: (ft_re sp o).1, (ft_re sp o).2)
  else ((l, ft_ps (ft_la sp o)) :: (ft_le sp o).1, (ft_le sp o).2)
/-- how many items the next group takes -/
def ft_tk (n : Nat) : Nat := if n = 2 ∨ n = 4 then 2 else 3
/-- GROUPS -/
def ft_gr : Nat → List ft_I → ft_C → List ft_I × ft_C
  | 0, _, c => ([], c)
  | f + 1, l, c =>
    if l.length = 0 then ([], c)
    else (ft_nd (c.1 + 1) (l.take (ft_tk l.length)) :: (ft_gr f (l.drop (ft_tk l.length)) (ft_nw c (l.take (ft_tk l.length)))).1, (ft_gr f (l.drop (ft_tk l.length)) (ft_nw c (l.take (ft_tk l.length)))).2)
def ft_af (row : List ft_I) (a : ft_T × ft_C) : ft_T × ft_C := row.foldr (fun x a => ft_fr x a.1.1 a.1.2 a.2) a
def ft_ab (row : List ft_I) (a : ft_T × ft_C) : ft_T × ft_C := row.foldl (fun a x => ft_bk a.1.1 a.1.2 x a.2) a
/-- JOIN -/
def ft_jn : ft_S → Option ft_I → List ft_I → ft_S → Option ft_I → ft_C → ft_T × ft_C
  | [], o, row, sp2, o2, c =>
    match o with
    | none => ft_af row ((sp2, o2), c)
    | some x => if ft_em sp2 o2 then ft_ab row (([], some x), c) else ft_fr x (ft_af row ((sp2, o2), c)).1.1 (ft_af row ((sp2, o2), c)).1.2 (ft_af row ((sp2, o2), c)).2
  | d :: sp, o, row, sp2, o2, c =>
    match sp2 with
    | [] => match o2 with
      | none => ft_ab row ((d :: sp, o), c)
      | some y => ft_bk (ft_ab row ((d :: sp, o), c)).1.1 (ft_ab row ((d :: sp, o), c)).1.2 y (ft_ab row ((d :: sp, o), c)).2
    | d2 :: sp2 => (((d.1, d2.2) :: (ft_jn sp o (ft_gr 16 (d.2 ++ row ++ d2.1) c).1 sp2 o2 (ft_gr 16 (d.2 ++ row ++ d2.1) c).2).1.1, (ft_jn sp o (ft_gr 16 (d.2 ++ row ++ d2.1) c).1 sp2 o2 (ft_gr 16 (d.2 ++ row ++ d2.1) c).2).1.2), (ft_jn sp o (ft_gr 16 (d.2 ++ row ++ d2.1) c).1 sp2 o2 (ft_gr 16 (d.2 ++ row ++ d2.1) c).2).2)
/-- the index in a row of the item that holds the row's entry number p -/
def ft_ix : List ft_I → Nat → Nat
  | [], _ => 0
  | x :: l, p => if l.length = 0 ∨ p < ft_z x then 0 else 1 + ft_ix l (p - ft_z x)
/-- CUT, a level up: the cut c of the middle at its place p -/
def ft_cs (d : List ft_I × List ft_I) (c : ft_T × ft_I × ft_T) (p : Nat) : ft_T × ft_I × ft_T :=
  (ft_op d.1 c.1.1 c.1.2 ((ft_ps c.2.1).take (ft_ix (ft_ps c.2.1) (p - ft_zT c.1.1 c.1.2))), (ft_ps c.2.1).getD (ft_ix (ft_ps c.2.1) (p - ft_zT c.1.1 c.1.2)) ft_no, ft_op ((ft_ps c.2.1).drop (ft_ix (ft_ps c.2.1) (p - ft_zT c.1.1 c.1.2) + 1)) c.2.2.1 c.2.2.2 d.2)
/-- CUT -/
def ft_cu : ft_S → Option ft_I → Nat → ft_T × ft_I × ft_T
  | [], o, _ => (([], none), o.getD ft_no, ([], none))
  | d :: sp, o, p =>
    if ft_zR d.1 + ft_zT sp o ≤ p then
      (ft_op d.1 sp o (d.2.take (ft_ix d.2 (p - (ft_zR d.1 + ft_zT sp o)))), d.2.getD (ft_ix d.2 (p - (ft_zR d.1 + ft_zT sp o))) ft_no, ft_ln (d.2.drop (ft_ix d.2 (p - (ft_zR d.1 + ft_zT sp o)) + 1)))
    else if p < ft_zR d.1 then
      (ft_ln (d.1.take (ft_ix d.1 p)), d.1.getD (ft_ix d.1 p) ft_no, ft_op (d.1.drop (ft_ix d.1 p + 1)) sp o d.2)
    else ft_cs d (ft_cu sp o (p - ft_zR d.1)) (p - ft_zR d.1)
/-- HALVES -/
def ft_ha (sp : ft_S) (o : Option ft_I) (p : Nat) (c : ft_C) : ft_T × ft_T × ft_C :=
  if p = ft_zT sp o then ((sp, o), ([], none), c)
  else ((ft_cu sp o p).1, (ft_fr (ft_cu sp o p).2.1 (ft_cu sp o p).2.2.1 (ft_cu sp o p).2.2.2 c).1, (ft_fr (ft_cu sp o p).2.1 (ft_cu sp o p).2.2.1 (ft_cu sp o p).2.2.2 c).2)
/-- another entry at a place of an item of rank k: the outermost new node has the number c.1 + 1 -/
def ft_rp : Nat → ft_I → Nat → ft_I → ft_C → ft_I × ft_C
  | 0, _, _, y, c => (y, c)
  | k + 1, x, p, y, c => (ft_nd (c.1 + 1) ((ft_ps x).set (ft_ix (ft_ps x) p) (ft_rp k ((ft_ps x).getD (ft_ix (ft_ps x) p) ft_no) (p - ft_zR ((ft_ps x).take (ft_ix (ft_ps x) p))) y (c.1 + 1, va_up c.2 (c.1 + 1) (ft_z x))).1), (ft_rp k ((ft_ps x).getD (ft_ix (ft_ps x) p) ft_no) (p - ft_zR ((ft_ps x).take (ft_ix (ft_ps x) p))) y (c.1 + 1, va_up c.2 (c.1 + 1) (ft_z x))).2)
def ft_rR (k : Nat) (l : List ft_I) (p : Nat) (y : ft_I) (c : ft_C) : List ft_I × ft_C := (l.set (ft_ix l p) (ft_rp k (l.getD (ft_ix l p) ft_no) (p - ft_zR (l.take (ft_ix l p))) y c).1, (ft_rp k (l.getD (ft_ix l p) ft_no) (p - ft_zR (l.take (ft_ix l p))) y c).2)
def ft_rT : Nat → ft_S → Option ft_I → Nat → ft_I → ft_C → ft_T × ft_C
  | k, [], o, p, y, c => (([], some (ft_rp k (o.getD ft_no) p y c).1), (ft_rp k (o.getD ft_no) p y c).2)
  | k, d :: sp, o, p, y, c =>
    if ft_zR d.1 + ft_zT sp o ≤ p then (((d.1, (ft_rR k d.2 (p - (ft_zR d.1 + ft_zT sp o)) y c).1) :: sp, o), (ft_rR k d.2 (p - (ft_zR d.1 + ft_zT sp o)) y c).2)
    else if p < ft_zR d.1 then ((((ft_rR k d.1 p y c).1, d.2) :: sp, o), (ft_rR k d.1 p y c).2)
    else (((d.1, d.2) :: (ft_rT (k + 1) sp o (p - ft_zR d.1) y c).1.1, (ft_rT (k + 1) sp o (p - ft_zR d.1) y c).1.2), (ft_rT (k + 1) sp o (p - ft_zR d.1) y c).2)
/-- the entries of a tree with the numbers of the nodes that hold them -/
def ft_lT : ft_S → Option ft_I → List (Nat × List Nat)
  | [], none => []
  | [], some x => ft_lv x
  | d :: sp, o => ft_lR d.1 ++ ft_lT sp o ++ ft_lR d.2
theorem ft_lT_len (sp : ft_S) (o : Option ft_I) : (ft_lT sp o).length = ft_zT sp o := by
  induction sp with
  | nil => cases o with
    | none => rfl
    | some x => simp [ft_lT, ft_zT, ft_lv_len]
  | cons d sp ih => simp only [ft_lT, ft_zT, List.length_append, ft_lR_len, ih]
end
section
/-! Words of the reference: a place of a version is a number: the entry (7 bits), the side (2), the level (3), the numbers of the nodes that hold it (13 bits each, the innermost lowest). -/
def ft_pt : List Nat → Nat
  | [] => 0
  | n :: p => n + 8192 * ft_pt p
def ft_wd (sd : Nat) (q : Nat × List Nat) : Nat := q.1 + 128 * sd + 512 * q.2.length + 4096 * ft_pt q.2
def ft_fit (q : Nat × List Nat) : Prop := q.1 < 128 ∧ q.2.length ≤ 3 ∧ ∀ d ∈ q.2, d < 8192
def ft_stl (k s v : Nat) : Nat := v % 128 + 128 * s + 512 * k + 4096 * ((v / 4096) % 8192 ^ k)
theorem ft_pt_lt {p : List Nat} (h : ∀ d ∈ p, d < 8192) : ft_pt p < 8192 ^ p.length := by
  induction p with
  | nil => simp [ft_pt]
  | cons n p ih =>
    have h1 := h n (by simp)
    have h2 := ih (fun d hd => h d (by simp [hd]))
    simp only [ft_pt, List.length_cons, Nat.pow_succ]
    omega
theorem ft_pt_app (p : List Nat) (n : Nat) : ft_pt (p ++ [n]) = ft_pt p + n * 8192 ^ p.length := by
  induction p with
  | nil => simp [ft_pt]
  | cons a p ih =>
    simp only [List.cons_append, ft_pt, ih, List.length_cons, Nat.pow_succ, Nat.mul_add]
    rw [show n * (8192 ^ p.length * 8192) = 8192 * (n * 8192 ^ p.length) from by rw [Nat.mul_comm 8192, Nat.mul_assoc]]
    omega
theorem ft_pt_take {p : List Nat} (h : ∀ d ∈ p, d < 8192) (k : Nat) : ft_pt p % 8192 ^ k = ft_pt (p.take k) := by
  induction p generalizing k with
  | nil => simp [ft_pt]
  | cons n p ih =>
    cases k with
    | zero => simp [ft_pt, Nat.mod_one]
    | succ k =>
      have h1 := h n (by simp)
      have h2 := ih (fun d hd => h d (by simp [hd])) k
      simp only [List.take_succ_cons, ft_pt, Nat.pow_succ]
      rw [← h2, Nat.mul_comm (8192 ^ k) 8192, Nat.mod_mul, Nat.add_mul_mod_self_left, Nat.mod_eq_of_lt h1, Nat.add_mul_div_left _ _ (by decide : 0 < 8192), Nat.div_eq_of_lt h1, Nat.zero_add]
theorem ft_pt_get {p : List Nat} (h : ∀ d ∈ p, d < 8192) (j : Nat) : ft_pt p / 8192 ^ j % 8192 = p.getD j 0 := by
  induction p generalizing j with
  | nil => simp [ft_pt]
  | cons n p ih =>
    have h1 := h n (by simp)
    cases j with
    | zero => simp [ft_pt, Nat.mod_eq_of_lt h1]
    | succ j =>
      have h2 := ih (fun d hd => h d (by simp [hd])) j
      simp only [ft_pt, Nat.pow_succ, List.getD_cons_succ]
      rw [← h2, Nat.mul_comm (8192 ^ j) 8192, ← Nat.div_div_eq_div_mul, Nat.add_mul_div_left _ _ (by decide : 0 < 8192), Nat.div_eq_of_lt h1, Nat.zero_add]
theorem ft_wd_lt {sd : Nat} {q : Nat × List Nat} (h : ft_fit q) (hs : sd < 4) : ft_wd sd q < 2251799813685248 := by
  have h1 := ft_pt_lt h.2.2
  have h2 : 8192 ^ q.2.length ≤ 8192 ^ 3 := Nat.pow_le_pow_right (by decide) h.2.1
  have h3 := h.1
  have h4 := h.2.1
  unfold ft_wd
  omega
theorem ft_wd_entry {sd : Nat} {q : Nat × List Nat} (h : ft_fit q) : ft_wd sd q % 128 = q.1 := by
  have h3 := h.1
  unfold ft_wd
  omega
theorem ft_wd_side {sd : Nat} {q : Nat × List Nat} (h : ft_fit q) (hs : sd < 4) : ft_wd sd q / 128 % 4 = sd := by
  have h3 := h.1
  unfold ft_wd
  omega
theorem ft_wd_level {sd : Nat} {q : Nat × List Nat} (h : ft_fit q) (hs : sd < 4) : ft_wd sd q / 512 % 8 = q.2.length := by
  have h3 := h.1
  have h4 := h.2.1
  unfold ft_wd
  omega
theorem ft_wd_hi {sd : Nat} {q : Nat × List Nat} (h : ft_fit q) (hs : sd < 4) : ft_wd sd q / 4096 = ft_pt q.2 := by
  have h3 := h.1
  have h4 := h.2.1
  unfold ft_wd
  omega
theorem ft_wd_node {sd : Nat} {q : Nat × List Nat} (h : ft_fit q) (hs : sd < 4) (j : Nat) : ft_wd sd q / (4096 * 8192 ^ j) % 8192 = q.2.getD j 0 := by
  rw [← Nat.div_div_eq_div_mul, ft_wd_hi h hs, ft_pt_get h.2.2]
theorem ft_stl_wd {sd : Nat} {q : Nat × List Nat} (h : ft_fit q) (hs : sd < 4) (k s : Nat) (hk : k ≤ q.2.length) : ft_stl k s (ft_wd sd q) = ft_wd s (q.1, q.2.take k) := by
  unfold ft_stl
  rw [ft_wd_entry h, ft_wd_hi h hs, ft_pt_take h.2.2]
  simp only [ft_wd, List.length_take, Nat.min_eq_left hk]
/-- the node's number m is set above a word of level j, and the word is settled at level j + 1 -/
theorem ft_stl_wrap {sd : Nat} {q : Nat × List Nat} (h : ft_fit q) (hs : sd < 4) {j m : Nat} (s : Nat) (hj : q.2.length = j) (hm : m < 8192) : ft_stl (j + 1) s (ft_wd sd q % (4096 * 8192 ^ j) + m * (4096 * 8192 ^ j)) = ft_wd s (q.1, q.2 ++ [m]) := by
  have h0 := ft_pt_lt h.2.2
  rw [hj] at h0
  have hlo : ft_wd sd q % (4096 * 8192 ^ j) = ft_wd sd q := by
    apply Nat.mod_eq_of_lt
    have h3 := h.1
    have h4 := h.2.1
    have : ft_wd sd q < 4096 * (ft_pt q.2 + 1) := by unfold ft_wd; omega
    exact Nat.lt_of_lt_of_le this (Nat.mul_le_mul_left _ h0)
  rw [hlo, show m * (4096 * 8192 ^ j) = 4096 * (m * 8192 ^ j) from by rw [← Nat.mul_assoc, Nat.mul_comm m 4096, Nat.mul_assoc]]
  have e1 : (ft_wd sd q + 4096 * (m * 8192 ^ j)) % 128 = q.1 := by
    have := ft_wd_entry (sd := sd) h
    omega
  have e2 : (ft_wd sd q + 4096 * (m * 8192 ^ j)) / 4096 = ft_pt (q.2 ++ [m]) := by
    rw [Nat.add_mul_div_left _ _ (by decide : 0 < 4096), ft_wd_hi h hs, ft_pt_app, hj]
  have hall : ∀ d ∈ q.2 ++ [m], d < 8192 := by
    intro d hd
    simp only [List.mem_append, List.mem_singleton] at hd
    rcases hd with hd | rfl
    · exact h.2.2 d hd
    · exact hm
  have e3 : (q.2 ++ [m]).take (j + 1) = q.2 ++ [m] := List.take_of_length_le (by simp [hj])
  unfold ft_stl
  rw [e1, e2, ft_pt_take hall, e3]
  simp only [ft_wd, List.length_append, List.length_singleton, hj]
/-- an array holds a list from a place on -/
def ft_hd (w : Nat → Nat) (s : Nat) (L : List Nat) : Prop := ∀ (i x : Nat), L[i]? = some x → w (s + i) = x
theorem ft_hd_nil (w : Nat → Nat) (s : Nat) : ft_hd w s [] := fun i x h => by simp at h
theorem ft_hd_app {w : Nat → Nat} {s : Nat} {A B : List Nat} : ft_hd w s (A ++ B) ↔ ft_hd w s A ∧ ft_hd w (s + A.length) B := by
  constructor
  · intro h
    refine ⟨fun i x hi => h i x ?_, fun i x hi => ?_⟩
    · rw [List.getElem?_append_left (List.getElem?_eq_some_iff.1 hi).1]; exact hi
    · have := h (A.length + i) x (by rw [List.getElem?_append_right (Nat.le_add_right _ _), Nat.add_sub_cancel_left]; exact hi)
      rw [Nat.add_assoc]; exact this
  · intro ⟨h1, h2⟩ i x hi
    by_cases hlt : i < A.length
    · rw [List.getElem?_append_left hlt] at hi; exact h1 i x hi
    · rw [List.getElem?_append_right (Nat.le_of_not_lt hlt)] at hi
      have := h2 (i - A.length) x hi
      rw [show s + A.length + (i - A.length) = s + i from by omega] at this
      exact this
theorem ft_hd_congr {w w' : Nat → Nat} {s : Nat} {L : List Nat} (h : ft_hd w s L) (he : ∀ q, s ≤ q → q < s + L.length → w' q = w q) : ft_hd w' s L := fun i x hi => by
  rw [he (s + i) (Nat.le_add_right _ _) (Nat.add_lt_add_left (List.getElem?_eq_some_iff.1 hi).1 _)]
  exact h i x hi
theorem ft_hd_map {w w' : Nat → Nat} {s : Nat} {P : List (Nat × List Nat)} {f g : Nat × List Nat → Nat} (h : ft_hd w s (P.map f)) (he : ∀ i q, P[i]? = some q → w (s + i) = f q → w' (s + i) = g q) : ft_hd w' s (P.map g) := fun i x hi => by
  rw [List.getElem?_map] at hi
  cases hq : P[i]? with
  | none => rw [hq] at hi; cases hi
  | some q =>
    rw [hq] at hi
    cases hi
    exact he i q hq (h i _ (by rw [List.getElem?_map, hq]; rfl))
/-- what settle does to the array -/
def ft_sw (w : Nat → Nat) (a b k s : Nat) : Nat → Nat := fun q => if a ≤ q ∧ q < b then ft_stl k s (w q) else w q
/-- what wrap does to the array (ahead of its settle) -/
def ft_ww (w : Nat → Nat) (a b j m : Nat) : Nat → Nat := fun q => if a ≤ q ∧ q < b then w q % (4096 * 8192 ^ j) + m * (4096 * 8192 ^ j) else w q
theorem ft_sw_in {w : Nat → Nat} {a b k s sd z : Nat} {P : List (Nat × List Nat)} (h : ft_hd w z (P.map (ft_wd sd))) (hs : sd < 4) (hf : ∀ q ∈ P, ft_fit q ∧ k ≤ q.2.length) (ha : a ≤ z) (hb : z + P.length ≤ b) : ft_hd (ft_sw w a b k s) z (P.map (fun q => ft_wd s (q.1, q.2.take k))) :=
  ft_hd_map h (fun i q hq hw => by
    have hi := (List.getElem?_eq_some_iff.1 hq).1
    have hm := hf q (List.mem_of_getElem? hq)
    unfold ft_sw
    rw [if_pos ⟨by omega, by omega⟩, hw, ft_stl_wd hm.1 hs k s hm.2])
theorem ft_sw_out {w : Nat → Nat} {a b k s z : Nat} {L : List Nat} (h : ft_hd w z L) (hd : z + L.length ≤ a ∨ b ≤ z) : ft_hd (ft_sw w a b k s) z L :=
  ft_hd_congr h (fun q h1 h2 => by unfold ft_sw; rw [if_neg (by omega)])
theorem ft_wr_in {w : Nat → Nat} {a b j m s sd z : Nat} {P : List (Nat × List Nat)} (h : ft_hd w z (P.map (ft_wd sd))) (hs : sd < 4) (hf : ∀ q ∈ P, ft_fit q ∧ q.2.length = j) (hm : m < 8192) (ha : a ≤ z) (hb : z + P.length ≤ b) : ft_hd (ft_sw (ft_ww w a b j m) a b (j + 1) s) z (P.map (fun q => ft_wd s (q.1, q.2 ++ [m]))) :=
  ft_hd_map h (fun i q hq hw => by
    have hi := (List.getElem?_eq_some_iff.1 hq).1
    have hq := hf q (List.mem_of_getElem? hq)
    unfold ft_sw ft_ww
    rw [if_pos ⟨by omega, by omega⟩, if_pos ⟨by omega, by omega⟩, hw, ft_stl_wrap hq.1 hs s hq.2 hm])
theorem ft_ww_out {w : Nat → Nat} {a b j m z : Nat} {L : List Nat} (h : ft_hd w z L) (hd : z + L.length ≤ a ∨ b ≤ z) : ft_hd (ft_ww w a b j m) z L :=
  ft_hd_congr h (fun q h1 h2 => by unfold ft_ww; rw [if_neg (by omega)])
/-- the words of an item, a row, a tree -/
def ft_wI (sd : Nat) (x : ft_I) : List Nat := (ft_lv x).map (ft_wd sd)
def ft_wR (sd : Nat) (l : List ft_I) : List Nat := (ft_lR l).map (ft_wd sd)
def ft_wT : ft_S → Option ft_I → List Nat
  | [], none => []
  | [], some x => ft_wI 2 x
  | d :: sp, o => ft_wR 0 d.1 ++ ft_wT sp o ++ ft_wR 1 d.2
theorem ft_wI_len (sd : Nat) (x : ft_I) : (ft_wI sd x).length = ft_z x := by simp [ft_wI, ft_lv_len]
theorem ft_wR_len (sd : Nat) (l : List ft_I) : (ft_wR sd l).length = ft_zR l := by simp [ft_wR, ft_lR_len]
theorem ft_wT_len (sp : ft_S) (o : Option ft_I) : (ft_wT sp o).length = ft_zT sp o := by
  induction sp with
  | nil => cases o with
    | none => rfl
    | some x => simp [ft_wT, ft_zT, ft_wI_len]
  | cons d sp ih => simp only [ft_wT, ft_zT, List.length_append, ft_wR_len, ih]
theorem ft_wR_app (sd : Nat) (a b : List ft_I) : ft_wR sd (a ++ b) = ft_wR sd a ++ ft_wR sd b := by simp [ft_wR, ft_lR_app]
theorem ft_wR_cons (sd : Nat) (x : ft_I) (l : List ft_I) : ft_wR sd (x :: l) = ft_wI sd x ++ ft_wR sd l := by simp [ft_wR, ft_wI, ft_lR]
theorem ft_wR_nil (sd : Nat) : ft_wR sd [] = [] := rfl
theorem ft_wR_one (sd : Nat) (x : ft_I) : ft_wR sd [x] = ft_wI sd x := by simp [ft_wR, ft_wI, ft_lR]
end
section
/-! What well-formed items and trees say of their words. -/
theorem ft_lR_mem {l : List ft_I} {q : Nat × List Nat} : q ∈ ft_lR l ↔ ∃ y ∈ l, q ∈ ft_lv y := by
  induction l with
  | nil => simp [ft_lR]
  | cons x l ih => simp [ft_lR, ih]
theorem ft_ok_mono {ne mm : Nat} {zf : Nat → Nat} {ne' mm' : Nat} {zf' : Nat → Nat} (h1 : ne ≤ ne') (h2 : mm ≤ mm') (h3 : ∀ n, 1 ≤ n → n ≤ mm → zf' n = zf n) : ∀ {k : Nat} {x : ft_I}, ft_ok ne mm zf k x → ft_ok ne' mm' zf' k x
  | 0, x, h => by
    obtain ⟨e, he, hlt⟩ := h
    exact ⟨e, he, Nat.lt_of_lt_of_le hlt h1⟩
  | k + 1, x, h => by
    obtain ⟨n, l, hx, hl, hn1, hn2, hz, hy⟩ := h
    exact ⟨n, l, hx, hl, hn1, Nat.le_trans hn2 h2, by rw [h3 n hn1 hn2, hz], fun y hm => ft_ok_mono h1 h2 h3 (hy y hm)⟩
theorem ft_okR_mono {ne mm : Nat} {zf : Nat → Nat} {ne' mm' : Nat} {zf' : Nat → Nat} (h1 : ne ≤ ne') (h2 : mm ≤ mm') (h3 : ∀ n, 1 ≤ n → n ≤ mm → zf' n = zf n) {k : Nat} {l : List ft_I} (h : ft_okR ne mm zf k l) : ft_okR ne' mm' zf' k l := fun y hy => ft_ok_mono h1 h2 h3 (h y hy)
theorem ft_okT_mono {ne mm : Nat} {zf : Nat → Nat} {ne' mm' : Nat} {zf' : Nat → Nat} (h1 : ne ≤ ne') (h2 : mm ≤ mm') (h3 : ∀ n, 1 ≤ n → n ≤ mm → zf' n = zf n) {o : Option ft_I} : ∀ {sp : ft_S} {k : Nat}, ft_okT ne mm zf k sp o → ft_okT ne' mm' zf' k sp o := by
  intro sp
  induction sp with
  | nil => intro k h; cases o with
    | none => trivial
    | some x => exact ft_ok_mono h1 h2 h3 h
  | cons d sp ih => intro k h; exact ⟨⟨h.1.1, h.1.2.1, ft_okR_mono h1 h2 h3 h.1.2.2⟩, ⟨h.2.1.1, h.2.1.2.1, ft_okR_mono h1 h2 h3 h.2.1.2.2⟩, ih h.2.2⟩
theorem ft_zR_pos {ne mm : Nat} {zf : Nat → Nat} {k : Nat} {b : Nat} {l : List ft_I} (h : ∀ y ∈ l, b ≤ ft_z y) : l.length * b ≤ ft_zR l := by
  induction l with
  | nil => simp [ft_zR]
  | cons x l ih =>
    have h1 := h x (by simp)
    have h2 := ih (fun y hy => h y (by simp [hy]))
    simp only [List.length_cons, ft_zR, Nat.add_mul]
    omega
theorem ft_ok_z {ne mm : Nat} {zf : Nat → Nat} : ∀ {k : Nat} {x : ft_I}, ft_ok ne mm zf k x → 2 ^ k ≤ ft_z x
  | 0, x, h => by
    obtain ⟨e, rfl, _⟩ := h
    simp [ft_z]
  | k + 1, x, h => by
    obtain ⟨n, l, rfl, hl, _, _, _, hy⟩ := h
    have h1 := ft_zR_pos (ne := ne) (mm := mm) (zf := zf) (k := k) (b := 2 ^ k) (l := l) (fun y hm => ft_ok_z (hy y hm))
    rw [ft_z_nd, Nat.pow_succ]
    have h2 : 2 * 2 ^ k ≤ l.length * 2 ^ k := Nat.mul_le_mul_right _ (by omega)
    omega
theorem ft_ok_z0 {ne mm : Nat} {zf : Nat → Nat} {x : ft_I} (h : ft_ok ne mm zf 0 x) : ft_z x = 1 := by
  obtain ⟨e, rfl, _⟩ := h
  rfl
theorem ft_ok_zpos {ne mm : Nat} {zf : Nat → Nat} {k : Nat} {x : ft_I} (h : ft_ok ne mm zf k x) : 1 ≤ ft_z x := Nat.le_trans (Nat.one_le_two_pow) (ft_ok_z h)
theorem ft_okR_z {ne mm : Nat} {zf : Nat → Nat} {k : Nat} {l : List ft_I} (h : ft_okR ne mm zf k l) : l.length * 2 ^ k ≤ ft_zR l := ft_zR_pos (ne := ne) (mm := mm) (zf := zf) (k := k) (fun y hy => ft_ok_z (h y hy))
theorem ft_ok_leaf {ne mm : Nat} {zf : Nat → Nat} : ∀ {k : Nat} {x : ft_I}, ft_ok ne mm zf k x → ∀ q ∈ ft_lv x, q.1 < ne ∧ q.2.length = k ∧ ∀ d ∈ q.2, 1 ≤ d ∧ d ≤ mm
  | 0, x, h, q, hq => by
    obtain ⟨e, rfl, he⟩ := h
    simp only [ft_lv, List.mem_singleton] at hq
    subst hq
    exact ⟨he, rfl, fun d hd => by cases hd⟩
  | k + 1, x, h, q, hq => by
    obtain ⟨n, l, rfl, hl, h1, h2, hz, hy⟩ := h
    rw [ft_lv_nd, List.mem_map] at hq
    obtain ⟨r, hr, rfl⟩ := hq
    obtain ⟨y, hyl, hry⟩ := ft_lR_mem.1 hr
    obtain ⟨a1, a2, a3⟩ := ft_ok_leaf (hy y hyl) r hry
    refine ⟨a1, by simp [a2], fun d hd => ?_⟩
    simp only [List.mem_append, List.mem_singleton] at hd
    rcases hd with hd | rfl
    · exact a3 d hd
    · exact ⟨h1, h2⟩
theorem ft_ok_fit {ne mm : Nat} {zf : Nat → Nat} {k : Nat} {x : ft_I} (h : ft_ok ne mm zf k x) (hne : ne ≤ 128) (hmm : mm < 8192) (hk : k ≤ 3) : ∀ q ∈ ft_lv x, ft_fit q ∧ q.2.length = k := fun q hq => by
  obtain ⟨a1, a2, a3⟩ := ft_ok_leaf h q hq
  exact ⟨⟨by omega, by omega, fun d hd => by have := a3 d hd; omega⟩, a2⟩
theorem ft_okR_fit {ne mm : Nat} {zf : Nat → Nat} {k : Nat} {l : List ft_I} (h : ft_okR ne mm zf k l) (hne : ne ≤ 128) (hmm : mm < 8192) (hk : k ≤ 3) : ∀ q ∈ ft_lR l, ft_fit q ∧ q.2.length = k := fun q hq => by
  obtain ⟨y, hy, hq⟩ := ft_lR_mem.1 hq
  exact ft_ok_fit (h y hy) hne hmm hk q hq
theorem ft_ok_num {ne mm : Nat} {zf : Nat → Nat} {k : Nat} {x : ft_I} (h : ft_ok ne mm zf (k + 1) x) : ∀ q ∈ ft_lv x, zf (q.2.getD k 0) = ft_z x := fun q hq => by
  obtain ⟨n, l, rfl, hl, h1, h2, hz, hy⟩ := h
  rw [ft_lv_nd, List.mem_map] at hq
  obtain ⟨r, hr, rfl⟩ := hq
  obtain ⟨y, hyl, hry⟩ := ft_lR_mem.1 hr
  obtain ⟨a1, a2, a3⟩ := ft_ok_leaf (hy y hyl) r hry
  rw [ft_z_nd, ← hz]
  congr 1
  simp [List.getD, a2]
/-- where the item that begins at q, of rank k, ends -/
def ft_end (zf w : Nat → Nat) (q k : Nat) : Nat := if k = 0 then q + 1 else q + zf (w q / (4096 * 8192 ^ (k - 1)) % 8192)
def ft_beg (zf w : Nat → Nat) (q k : Nat) : Nat := if k = 0 then q - 1 else q - zf (w (q - 1) / (4096 * 8192 ^ (k - 1)) % 8192)
theorem ft_hd_at {w : Nat → Nat} {s i : Nat} {P : List (Nat × List Nat)} {f : Nat × List Nat → Nat} (h : ft_hd w s (P.map f)) (hi : i < P.length) : ∃ q ∈ P, w (s + i) = f q := by
  refine ⟨P[i], List.getElem_mem hi, h i _ ?_⟩
  rw [List.getElem?_map, List.getElem?_eq_getElem hi]
  rfl
theorem ft_end_of {ne mm : Nat} {zf : Nat → Nat} {w : Nat → Nat} {s k sd : Nat} {x : ft_I} (h : ft_ok ne mm zf k x) (hw : ft_hd w s (ft_wI sd x)) (hne : ne ≤ 128) (hmm : mm < 8192) (hk : k ≤ 3) (hs : sd < 4) : ft_end zf w s k = s + ft_z x := by
  unfold ft_end
  cases k with
  | zero => rw [if_pos rfl, ft_ok_z0 h]
  | succ k =>
    rw [if_neg (by omega)]
    have hp := ft_ok_zpos h
    obtain ⟨q, hq, e⟩ := ft_hd_at (i := 0) hw (by rw [ft_lv_len]; omega)
    rw [Nat.add_zero] at e
    rw [e, Nat.add_sub_cancel, ft_wd_node (ft_ok_fit h hne hmm hk q hq).1 hs, ft_ok_num h q hq]
theorem ft_beg_of {ne mm : Nat} {zf : Nat → Nat} {w : Nat → Nat} {s k sd : Nat} {x : ft_I} (h : ft_ok ne mm zf k x) (hw : ft_hd w s (ft_wI sd x)) (hne : ne ≤ 128) (hmm : mm < 8192) (hk : k ≤ 3) (hs : sd < 4) : ft_beg zf w (s + ft_z x) k = s := by
  unfold ft_beg
  cases k with
  | zero => rw [if_pos rfl, ft_ok_z0 h]; omega
  | succ k =>
    rw [if_neg (by omega)]
    have hp := ft_ok_zpos h
    obtain ⟨q, hq, e⟩ := ft_hd_at (i := ft_z x - 1) hw (by rw [ft_lv_len]; omega)
    rw [show s + (ft_z x - 1) = s + ft_z x - 1 from by omega] at e
    rw [e, Nat.add_sub_cancel, ft_wd_node (ft_ok_fit h hne hmm hk q hq).1 hs, ft_ok_num h q hq]
    omega
/-- side and level of a word -/
abbrev ft_sd (v : Nat) : Nat := v / 128 % 4
abbrev ft_le8 (v : Nat) : Nat := v / 512 % 8
theorem ft_wI_at {ne mm : Nat} {zf : Nat → Nat} {w : Nat → Nat} {s k sd i : Nat} {x : ft_I} (h : ft_ok ne mm zf k x) (hw : ft_hd w s (ft_wI sd x)) (hne : ne ≤ 128) (hmm : mm < 8192) (hk : k ≤ 3) (hs : sd < 4) (hi : i < ft_z x) : ft_sd (w (s + i)) = sd ∧ ft_le8 (w (s + i)) = k ∧ w (s + i) < 2251799813685248 := by
  obtain ⟨q, hq, e⟩ := ft_hd_at (i := i) hw (by rw [ft_lv_len]; omega)
  have hf := ft_ok_fit h hne hmm hk q hq
  rw [e]
  exact ⟨ft_wd_side hf.1 hs, (ft_wd_level hf.1 hs).trans hf.2, ft_wd_lt hf.1 hs⟩
theorem ft_wR_at {ne mm : Nat} {zf : Nat → Nat} {w : Nat → Nat} {s k sd i : Nat} {l : List ft_I} (h : ft_okR ne mm zf k l) (hw : ft_hd w s (ft_wR sd l)) (hne : ne ≤ 128) (hmm : mm < 8192) (hk : k ≤ 3) (hs : sd < 4) (hi : i < ft_zR l) : ft_sd (w (s + i)) = sd ∧ ft_le8 (w (s + i)) = k ∧ w (s + i) < 2251799813685248 := by
  obtain ⟨q, hq, e⟩ := ft_hd_at (i := i) hw (by rw [ft_lR_len]; omega)
  have hf := ft_okR_fit h hne hmm hk q hq
  rw [e]
  exact ⟨ft_wd_side hf.1 hs, (ft_wd_level hf.1 hs).trans hf.2, ft_wd_lt hf.1 hs⟩
end
section
/-! settle and wrap on items and rows. -/
theorem ft_take_self {q : Nat × List Nat} {k : Nat} (h : q.2.length = k) : (q.1, q.2.take k) = q := by
  rw [List.take_of_length_le (by omega)]
theorem ft_sw_P {w : Nat → Nat} {a b k s sd z : Nat} {P : List (Nat × List Nat)} (h : ft_hd w z (P.map (ft_wd sd))) (hs : sd < 4) (hf : ∀ q ∈ P, ft_fit q ∧ q.2.length = k) (ha : a ≤ z) (hb : z + P.length ≤ b) : ft_hd (ft_sw w a b k s) z (P.map (ft_wd s)) := by
  have h1 := ft_sw_in (s := s) h hs (k := k) (fun q hq => ⟨(hf q hq).1, Nat.le_of_eq (hf q hq).2.symm⟩) ha hb
  rw [show P.map (ft_wd s) = P.map (fun q => ft_wd s (q.1, q.2.take k)) from List.map_congr_left (fun q hq => by rw [ft_take_self (hf q hq).2])]
  exact h1
theorem ft_sw_I {ne mm : Nat} {zf : Nat → Nat} {w : Nat → Nat} {a b k s sd z : Nat} {x : ft_I} (ok : ft_ok ne mm zf k x) (h : ft_hd w z (ft_wI sd x)) (hne : ne ≤ 128) (hmm : mm < 8192) (hk : k ≤ 3) (hs : sd < 4) (ha : a ≤ z) (hb : z + ft_z x ≤ b) : ft_hd (ft_sw w a b k s) z (ft_wI s x) :=
  ft_sw_P h hs (ft_ok_fit ok hne hmm hk) ha (by rw [ft_lv_len]; exact hb)
theorem ft_sw_R {ne mm : Nat} {zf : Nat → Nat} {w : Nat → Nat} {a b k s sd z : Nat} {l : List ft_I} (ok : ft_okR ne mm zf k l) (h : ft_hd w z (ft_wR sd l)) (hne : ne ≤ 128) (hmm : mm < 8192) (hk : k ≤ 3) (hs : sd < 4) (ha : a ≤ z) (hb : z + ft_zR l ≤ b) : ft_hd (ft_sw w a b k s) z (ft_wR s l) :=
  ft_sw_P h hs (ft_okR_fit ok hne hmm hk) ha (by rw [ft_lR_len]; exact hb)
/-- an item of rank k + 1 is opened: its parts, of rank k -/
theorem ft_sw_U {ne mm : Nat} {zf : Nat → Nat} {w : Nat → Nat} {a b k s sd z : Nat} {x : ft_I} (ok : ft_ok ne mm zf (k + 1) x) (h : ft_hd w z (ft_wI sd x)) (hne : ne ≤ 128) (hmm : mm < 8192) (hk : k + 1 ≤ 3) (hs : sd < 4) (ha : a ≤ z) (hb : z + ft_z x ≤ b) : ft_hd (ft_sw w a b k s) z (ft_wR s (ft_ps x)) := by
  have h1 := ft_sw_in (s := s) h hs (k := k) (fun q hq => ⟨(ft_ok_fit ok hne hmm hk q hq).1, by have := (ft_ok_fit ok hne hmm hk q hq).2; omega⟩) ha (by rw [ft_lv_len]; exact hb)
  obtain ⟨n, l, rfl, hl, _, _, _, hy⟩ := ok
  rw [ft_lv_nd, List.map_map] at h1
  rw [ft_ps_nd]
  unfold ft_wR
  rw [show (ft_lR l).map (ft_wd s) = (ft_lR l).map ((fun q => ft_wd s (q.1, q.2.take k)) ∘ fun q => (q.1, q.2 ++ [n])) from List.map_congr_left (fun q hq => by
    have hq2 : q.2.length = k := by
      obtain ⟨y, hyl, hq⟩ := ft_lR_mem.1 hq
      exact (ft_ok_leaf (hy y hyl) q hq).2.1
    simp only [Function.comp]
    rw [List.take_append_of_le_length (by omega), List.take_of_length_le (by omega)])]
  exact h1
theorem ft_okR_ps {ne mm : Nat} {zf : Nat → Nat} {k : Nat} {x : ft_I} (ok : ft_ok ne mm zf (k + 1) x) : ft_okR ne mm zf k (ft_ps x) ∧ ft_zR (ft_ps x) = ft_z x ∧ 2 ≤ (ft_ps x).length ∧ (ft_ps x).length ≤ 3 := by
  obtain ⟨n, l, rfl, hl, _, _, _, hy⟩ := ok
  rw [ft_ps_nd, ft_z_nd]
  exact ⟨hy, rfl, by omega, by omega⟩
/-- items of rank k become a node -/
theorem ft_ww_R {ne mm : Nat} {zf : Nat → Nat} {w : Nat → Nat} {a b k s sd z m : Nat} {l : List ft_I} (ok : ft_okR ne mm zf k l) (h : ft_hd w z (ft_wR sd l)) (hne : ne ≤ 128) (hmm : mm < 8192) (hm : m < 8192) (hk : k ≤ 3) (hs : sd < 4) (ha : a ≤ z) (hb : z + ft_zR l ≤ b) : ft_hd (ft_sw (ft_ww w a b k m) a b (k + 1) s) z (ft_wI s (ft_nd m l)) := by
  have h1 := ft_wr_in (s := s) h hs (j := k) (m := m) (ft_okR_fit ok hne hmm hk) hm ha (by rw [ft_lR_len]; exact hb)
  unfold ft_wI
  rw [ft_lv_nd, List.map_map]
  exact h1
theorem ft_ok_nd {ne m m' : Nat} {zf zf' : Nat → Nat} {k : Nat} {l : List ft_I} (ok : ft_okR ne m zf k l) (hl : l.length = 2 ∨ l.length = 3) (hm : m < m') (hz : zf' m' = ft_zR l) (hold : ∀ n, 1 ≤ n → n ≤ m → zf' n = zf n) : ft_ok ne m' zf' (k + 1) (ft_nd m' l) :=
  ⟨m', l, rfl, hl, by omega, Nat.le_refl _, hz, fun y hy => ft_ok_mono (Nat.le_refl _) (Nat.le_of_lt hm) hold (ok y hy)⟩
theorem ft_k3 {k : Nat} (h : 3 * 2 ^ k ≤ 42) : k ≤ 3 := by
  rcases Nat.lt_or_ge 3 k with h1 | h1
  · have : 2 ^ 4 ≤ 2 ^ k := Nat.pow_le_pow_right (by decide) h1
    omega
  · exact h1
theorem ft_okT_z {ne mm : Nat} {zf : Nat → Nat} {o : Option ft_I} : ∀ {sp : ft_S} {k : Nat}, ft_okT ne mm zf k sp o → ft_em sp o = false → 2 ^ k ≤ ft_zT sp o := by
  intro sp k h he
  cases sp with
  | nil => cases o with
    | none => simp [ft_em] at he
    | some x => exact ft_ok_z h
  | cons d sp =>
    have h1 := ft_okR_z h.1.2.2
    have h2 : 1 * 2 ^ k ≤ d.1.length * 2 ^ k := Nat.mul_le_mul_right _ h.1.1
    simp only [ft_zT]
    omega
theorem ft_okT_zd {ne mm : Nat} {zf : Nat → Nat} {o : Option ft_I} {sp : ft_S} {d : List ft_I × List ft_I} {k : Nat} (h : ft_okT ne mm zf k (d :: sp) o) : 2 ^ k ≤ ft_zR d.1 ∧ 2 ^ k ≤ ft_zR d.2 := by
  have h1 := ft_okR_z h.1.2.2
  have h2 : 1 * 2 ^ k ≤ d.1.length * 2 ^ k := Nat.mul_le_mul_right _ h.1.1
  have h3 := ft_okR_z h.2.1.2.2
  have h4 : 1 * 2 ^ k ≤ d.2.length * 2 ^ k := Nat.mul_le_mul_right _ h.2.1.1
  omega
theorem ft_em_z {ne mm : Nat} {zf : Nat → Nat} {o : Option ft_I} {sp : ft_S} {k : Nat} (h : ft_okT ne mm zf k sp o) : ft_em sp o = true ↔ ft_zT sp o = 0 := by
  constructor
  · intro he
    cases sp with
    | nil => cases o with
      | none => rfl
      | some x => simp [ft_em] at he
    | cons d sp => simp [ft_em] at he
  · intro hz
    cases he : ft_em sp o with
    | true => rfl
    | false =>
      have := ft_okT_z h he
      have := Nat.one_le_two_pow (n := k)
      omega
/-- the first word and the last word of a tree -/
theorem ft_wT_first {ne mm : Nat} {zf : Nat → Nat} {o : Option ft_I} {sp : ft_S} {k : Nat} {w : Nat → Nat} {s : Nat} (h : ft_okT ne mm zf k sp o) (he : ft_em sp o = false) (hw : ft_hd w s (ft_wT sp o)) (hne : ne ≤ 128) (hmm : mm < 8192) (hk : k ≤ 3) : ft_le8 (w s) = k ∧ ft_sd (w s) = (if sp.isEmpty then 2 else 0) ∧ w s < 2251799813685248 := by
  cases sp with
  | nil => cases o with
    | none => simp [ft_em] at he
    | some x =>
      have := ft_wI_at (i := 0) h hw hne hmm hk (by decide) (ft_ok_zpos h)
      exact ⟨this.2.1, by simpa using this.1, this.2.2⟩
  | cons d sp =>
    have hz := (ft_okT_zd h).1
    have := Nat.one_le_two_pow (n := k)
    simp only [ft_wT, List.append_assoc] at hw
    have := ft_wR_at (i := 0) h.1.2.2 (ft_hd_app.1 hw).1 hne hmm hk (by decide) (by omega)
    exact ⟨this.2.1, by simpa using this.1, this.2.2⟩
theorem ft_wT_last {ne mm : Nat} {zf : Nat → Nat} {o : Option ft_I} {sp : ft_S} {k : Nat} {w : Nat → Nat} {s : Nat} (h : ft_okT ne mm zf k sp o) (he : ft_em sp o = false) (hw : ft_hd w s (ft_wT sp o)) (hne : ne ≤ 128) (hmm : mm < 8192) (hk : k ≤ 3) : ft_le8 (w (s + ft_zT sp o - 1)) = k ∧ ft_sd (w (s + ft_zT sp o - 1)) = (if sp.isEmpty then 2 else 1) ∧ w (s + ft_zT sp o - 1) < 2251799813685248 := by
  cases sp with
  | nil => cases o with
    | none => simp [ft_em] at he
    | some x =>
      have hz := ft_ok_zpos h
      have := ft_wI_at (i := ft_z x - 1) h hw hne hmm hk (by decide) (by omega)
      rw [show s + (ft_z x - 1) = s + ft_zT [] (some x) - 1 from by simp only [ft_zT]; omega] at this
      exact ⟨this.2.1, by simpa using this.1, this.2.2⟩
  | cons d sp =>
    have hz := (ft_okT_zd h).2
    have := Nat.one_le_two_pow (n := k)
    simp only [ft_wT] at hw
    have h2 := (ft_hd_app.1 hw).2
    have := ft_wR_at (i := ft_zR d.2 - 1) h.2.1.2.2 h2 hne hmm hk (by decide) (by omega)
    rw [List.length_append, ft_wR_len, ft_wT_len, show s + (ft_zR d.1 + ft_zT sp o) + (ft_zR d.2 - 1) = s + ft_zT (d :: sp) o - 1 from by simp only [ft_zT]; omega] at this
    exact ⟨this.2.1, by simpa using this.1, this.2.2⟩
end
section
/-! FRONT and BACK keep the order and the form. 'ft_ex c c'' : c' has c's nodes and perhaps more. -/
def ft_ex (c c' : ft_C) : Prop := c.1 ≤ c'.1 ∧ ∀ n, 1 ≤ n → n ≤ c.1 → c'.2 n = c.2 n
theorem ft_ex_rf (c : ft_C) : ft_ex c c := ⟨Nat.le_refl _, fun _ _ _ => rfl⟩
theorem ft_ex_tr {a b c : ft_C} (h1 : ft_ex a b) (h2 : ft_ex b c) : ft_ex a c := ⟨Nat.le_trans h1.1 h2.1, fun n hn hm => (h2.2 n hn (Nat.le_trans hm h1.1)).trans (h1.2 n hn hm)⟩
theorem ft_ex_up (c : ft_C) (v : Nat) : ft_ex c (c.1 + 1, va_up c.2 (c.1 + 1) v) := ⟨Nat.le_succ _, fun n _ hm => by
  have h : n ≠ c.1 + 1 := by omega
  simp [va_up, h]⟩
theorem ft_ex_nw (c : ft_C) (l : List ft_I) : ft_ex c (ft_nw c l) := ft_ex_up c _
theorem ft_ok_ex {ne : Nat} {c c' : ft_C} (h : ft_ex c c') {k : Nat} {x : ft_I} (ok : ft_ok ne c.1 c.2 k x) : ft_ok ne c'.1 c'.2 k x := ft_ok_mono (Nat.le_refl _) h.1 h.2 ok
theorem ft_okR_ex {ne : Nat} {c c' : ft_C} (h : ft_ex c c') {k : Nat} {l : List ft_I} (ok : ft_okR ne c.1 c.2 k l) : ft_okR ne c'.1 c'.2 k l := ft_okR_mono (Nat.le_refl _) h.1 h.2 ok
theorem ft_okT_ex {ne : Nat} {c c' : ft_C} (h : ft_ex c c') {k : Nat} {sp : ft_S} {o : Option ft_I} (ok : ft_okT ne c.1 c.2 k sp o) : ft_okT ne c'.1 c'.2 k sp o := ft_okT_mono (Nat.le_refl _) h.1 h.2 ok
theorem ft_ok_nw {ne : Nat} {c : ft_C} {k : Nat} {l : List ft_I} (ok : ft_okR ne c.1 c.2 k l) (hl : l.length = 2 ∨ l.length = 3) : ft_ok ne (ft_nw c l).1 (ft_nw c l).2 (k + 1) (ft_nd (c.1 + 1) l) :=
  ft_ok_nd ok hl (Nat.lt_succ_self _) (by simp [ft_nw, va_up_self]) (ft_ex_nw c l).2
theorem ft_zR_td (l : List ft_I) (n : Nat) : ft_zR (l.take n) + ft_zR (l.drop n) = ft_zR l := by
  rw [← ft_zR_app, List.take_append_drop]
theorem ft_fr_z : ∀ (sp : ft_S) (x : ft_I) (o : Option ft_I) (c : ft_C), ft_zT (ft_fr x sp o c).1.1 (ft_fr x sp o c).1.2 = ft_z x + ft_zT sp o := by
  intro sp
  induction sp with
  | nil => intro x o c; cases o <;> simp [ft_fr, ft_zT, ft_zR]
  | cons d sp ih =>
    intro x o c
    unfold ft_fr
    split
    · simp only [ft_zT, ft_zR]; omega
    · simp only [ft_zT, ft_zR, ih, ft_z_nd]
      have := ft_zR_td d.1 1
      omega
theorem ft_bk_z : ∀ (sp : ft_S) (x : ft_I) (o : Option ft_I) (c : ft_C), ft_zT (ft_bk sp o x c).1.1 (ft_bk sp o x c).1.2 = ft_zT sp o + ft_z x := by
  intro sp
  induction sp with
  | nil => intro x o c; cases o <;> simp [ft_bk, ft_zT, ft_zR]
  | cons d sp ih =>
    intro x o c
    unfold ft_bk
    split
    · simp only [ft_zT, ft_zR, ft_zR_app]; omega
    · simp only [ft_zT, ft_zR, ih, ft_z_nd, ft_zR_app]
      have := ft_zR_td d.2 3
      omega
theorem ft_okR_sub {ne mm : Nat} {zf : Nat → Nat} {k : Nat} {l l' : List ft_I} (h : ft_okR ne mm zf k l) (hs : ∀ y ∈ l', y ∈ l) : ft_okR ne mm zf k l' := fun y hy => h y (hs y hy)
theorem ft_okR_take {ne mm : Nat} {zf : Nat → Nat} {k : Nat} {l : List ft_I} (h : ft_okR ne mm zf k l) (n : Nat) : ft_okR ne mm zf k (l.take n) := ft_okR_sub h (fun _ hy => List.mem_of_mem_take hy)
theorem ft_okR_drop {ne mm : Nat} {zf : Nat → Nat} {k : Nat} {l : List ft_I} (h : ft_okR ne mm zf k l) (n : Nat) : ft_okR ne mm zf k (l.drop n) := ft_okR_sub h (fun _ hy => List.mem_of_mem_drop hy)
theorem ft_okR_app {ne mm : Nat} {zf : Nat → Nat} {k : Nat} {l l' : List ft_I} (h : ft_okR ne mm zf k l) (h' : ft_okR ne mm zf k l') : ft_okR ne mm zf k (l ++ l') := fun y hy => (List.mem_append.1 hy).elim (h y) (h' y)
theorem ft_okR_one {ne mm : Nat} {zf : Nat → Nat} {k : Nat} {x : ft_I} (h : ft_ok ne mm zf k x) : ft_okR ne mm zf k [x] := fun y hy => by rw [List.mem_singleton.1 hy]; exact h
theorem ft_okR_cons {ne mm : Nat} {zf : Nat → Nat} {k : Nat} {x : ft_I} {l : List ft_I} (h : ft_ok ne mm zf k x) (h' : ft_okR ne mm zf k l) : ft_okR ne mm zf k (x :: l) := fun y hy => (List.mem_cons.1 hy).elim (fun e => e ▸ h) (h' y)
theorem ft_fr_ok {ne : Nat} : ∀ (sp : ft_S) (x : ft_I) (o : Option ft_I) (c : ft_C) (k : Nat), ft_ok ne c.1 c.2 k x → ft_okT ne c.1 c.2 k sp o → ft_ex c (ft_fr x sp o c).2 ∧ ft_okT ne (ft_fr x sp o c).2.1 (ft_fr x sp o c).2.2 k (ft_fr x sp o c).1.1 (ft_fr x sp o c).1.2 := by
  intro sp
  induction sp with
  | nil =>
    intro x o c k hx ht
    cases o with
    | none => exact ⟨ft_ex_rf c, hx⟩
    | some y => exact ⟨ft_ex_rf c, ⟨by simp, by simp, ft_okR_one hx⟩, ⟨by simp, by simp, ft_okR_one ht⟩, trivial⟩
  | cons d sp ih =>
    intro x o c k hx ht
    unfold ft_fr
    split
    · rename_i hl
      refine ⟨ft_ex_rf c, ⟨?_, ?_, ft_okR_cons hx ht.1.2.2⟩, ht.2.1, ht.2.2⟩
      · simp
      · simp; omega
    · rename_i hl
      have h4 : d.1.length = 4 := by have := ht.1.2.1; omega
      have hnd := ft_ok_nw (c := c) (ft_okR_drop ht.1.2.2 1) (by simp [h4])
      have hex := ft_ex_nw c (d.1.drop 1)
      obtain ⟨i1, i2⟩ := ih (ft_nd (c.1 + 1) (d.1.drop 1)) o (ft_nw c (d.1.drop 1)) (k + 1) hnd (ft_okT_ex hex ht.2.2)
      have hall := ft_ex_tr hex i1
      refine ⟨hall, ⟨?_, ?_, ft_okR_cons (ft_ok_ex hall hx) (ft_okR_ex hall (ft_okR_take ht.1.2.2 1))⟩, ⟨ht.2.1.1, ht.2.1.2.1, ft_okR_ex hall ht.2.1.2.2⟩, i2⟩
      · simp
      · simp; omega
theorem ft_bk_ok {ne : Nat} : ∀ (sp : ft_S) (x : ft_I) (o : Option ft_I) (c : ft_C) (k : Nat), ft_ok ne c.1 c.2 k x → ft_okT ne c.1 c.2 k sp o → ft_ex c (ft_bk sp o x c).2 ∧ ft_okT ne (ft_bk sp o x c).2.1 (ft_bk sp o x c).2.2 k (ft_bk sp o x c).1.1 (ft_bk sp o x c).1.2 := by
  intro sp
  induction sp with
  | nil =>
    intro x o c k hx ht
    cases o with
    | none => exact ⟨ft_ex_rf c, hx⟩
    | some y => exact ⟨ft_ex_rf c, ⟨by simp, by simp, ft_okR_one ht⟩, ⟨by simp, by simp, ft_okR_one hx⟩, trivial⟩
  | cons d sp ih =>
    intro x o c k hx ht
    unfold ft_bk
    split
    · rename_i hl
      refine ⟨ft_ex_rf c, ht.1, ⟨?_, ?_, ft_okR_app ht.2.1.2.2 (ft_okR_one hx)⟩, ht.2.2⟩
      · simp
      · simp; omega
    · rename_i hl
      have h4 : d.2.length = 4 := by have := ht.2.1.2.1; omega
      have hnd := ft_ok_nw (c := c) (ft_okR_take ht.2.1.2.2 3) (by simp [h4])
      have hex := ft_ex_nw c (d.2.take 3)
      obtain ⟨i1, i2⟩ := ih (ft_nd (c.1 + 1) (d.2.take 3)) o (ft_nw c (d.2.take 3)) (k + 1) hnd (ft_okT_ex hex ht.2.2)
      have hall := ft_ex_tr hex i1
      refine ⟨hall, ⟨ht.1.1, ht.1.2.1, ft_okR_ex hall ht.1.2.2⟩, ⟨?_, ?_, ft_okR_app (ft_okR_ex hall (ft_okR_drop ht.2.1.2.2 3)) (ft_okR_one (ft_ok_ex hall hx))⟩, i2⟩
      · simp
      · simp [h4]
end
section
/-! LINE, REST, LEAD, OPEN, GROUPS, JOIN, CUT, HALVES and the change of an entry keep form and size. -/
theorem ft_zR_tg (l : List ft_I) {i : Nat} (hi : i < l.length) : ft_zR (l.take i) + ft_z (l.getD i ft_no) + ft_zR (l.drop (i + 1)) = ft_zR l := by
  induction l generalizing i with
  | nil => simp at hi
  | cons x l ih =>
    cases i with
    | zero => simp [ft_zR]
    | succ i =>
      have := ih (i := i) (by simpa using hi)
      simp only [List.take_succ_cons, List.getD_cons_succ, List.drop_succ_cons, ft_zR] at this ⊢
      omega
theorem ft_getD_mem {l : List ft_I} {i : Nat} (hi : i < l.length) : l.getD i ft_no ∈ l := by
  rw [List.getD_eq_getElem?_getD, List.getElem?_eq_getElem hi]
  exact List.getElem_mem hi
theorem ft_ix_lt {l : List ft_I} (p : Nat) (hl : 0 < l.length) : ft_ix l p < l.length := by
  induction l generalizing p with
  | nil => simp at hl
  | cons x l ih =>
    unfold ft_ix
    split
    · simp
    · rename_i h
      have := ih (p - ft_z x) (by omega)
      simp; omega
theorem ft_ix_sp {l : List ft_I} {p : Nat} (hp : p < ft_zR l) : ft_zR (l.take (ft_ix l p)) ≤ p ∧ p < ft_zR (l.take (ft_ix l p)) + ft_z (l.getD (ft_ix l p) ft_no) := by
  induction l generalizing p with
  | nil => simp [ft_zR] at hp
  | cons x l ih =>
    unfold ft_ix
    split
    · rename_i h
      simp only [List.take_zero, ft_zR, List.getD_cons_zero]
      rcases h with h | h
      · have : l = [] := List.length_eq_zero_iff.1 h
        subst this
        simp [ft_zR] at hp
        omega
      · omega
    · rename_i h
      simp only [ft_zR] at hp
      have := ih (p := p - ft_z x) (by omega)
      rw [Nat.add_comm 1]
      simp only [List.take_succ_cons, List.getD_cons_succ, ft_zR]
      omega
theorem ft_ln_ok {ne mm : Nat} {zf : Nat → Nat} {k : Nat} {l : List ft_I} (h : ft_okR ne mm zf k l) (hl : l.length ≤ 8) : ft_okT ne mm zf k (ft_ln l).1 (ft_ln l).2 := by
  match l, h, hl with
  | [], _, _ => trivial
  | [x], h, _ => exact h x (by simp)
  | x :: y :: l, h, hl =>
    simp only [List.length_cons] at hl
    refine ⟨⟨?_, ?_, ft_okR_take h _⟩, ⟨?_, ?_, ft_okR_drop h _⟩, trivial⟩
    · simp [List.length_take]; omega
    · simp [List.length_take]; omega
    · simp [List.length_drop]; omega
    · simp [List.length_drop]; omega
theorem ft_ln_z (l : List ft_I) : ft_zT (ft_ln l).1 (ft_ln l).2 = ft_zR l := by
  match l with
  | [] => rfl
  | [x] => simp [ft_ln, ft_zT, ft_zR]
  | x :: y :: l =>
    simp only [ft_ln, ft_zT, Nat.add_zero]
    exact ft_zR_td _ _
theorem ft_fi_ok {ne mm : Nat} {zf : Nat → Nat} {o : Option ft_I} {sp : ft_S} {k : Nat} (h : ft_okT ne mm zf k sp o) (he : ft_em sp o = false) : ft_ok ne mm zf k (ft_fi sp o) := by
  cases sp with
  | nil => cases o with
    | none => simp [ft_em] at he
    | some x => exact h
  | cons d sp =>
    obtain ⟨⟨h1, _, h3⟩, _, _⟩ := h
    cases hd : d.1 with
    | nil => rw [hd] at h1; simp at h1
    | cons x l => simp only [ft_fi, hd, List.headD_cons]; exact h3 x (by simp [hd])
theorem ft_la_ok {ne mm : Nat} {zf : Nat → Nat} {o : Option ft_I} {sp : ft_S} {k : Nat} (h : ft_okT ne mm zf k sp o) (he : ft_em sp o = false) : ft_ok ne mm zf k (ft_la sp o) := by
  cases sp with
  | nil => cases o with
    | none => simp [ft_em] at he
    | some x => exact h
  | cons d sp =>
    obtain ⟨_, ⟨h1, _, h3⟩, _⟩ := h
    have hne : d.2 ≠ [] := fun e => by rw [e] at h1; simp at h1
    simp only [ft_la]
    rw [List.getLastD_eq_getLast?, List.getLast?_eq_some_getLast hne]
    exact h3 _ (List.getLast_mem hne)
theorem ft_re_ok {ne mm : Nat} {zf : Nat → Nat} {o : Option ft_I} : ∀ {sp : ft_S} {k : Nat}, ft_okT ne mm zf k sp o → ft_okT ne mm zf k (ft_re sp o).1 (ft_re sp o).2 ∧ (ft_em sp o = false → ft_zT (ft_re sp o).1 (ft_re sp o).2 + ft_z (ft_fi sp o) = ft_zT sp o) := by
  intro sp
  induction sp with
  | nil =>
    intro k h
    refine ⟨trivial, fun he => ?_⟩
    cases o with
    | none => simp [ft_em] at he
    | some x => simp [ft_re, ft_zT, ft_fi]
  | cons d sp ih =>
    intro k h
    obtain ⟨hd1, hd2, hm⟩ := h
    have hz1 : ft_z (ft_fi (d :: sp) o) + ft_zR (d.1.drop 1) = ft_zR d.1 := by
      cases hd : d.1 with
      | nil => rw [hd] at hd1; simp at hd1
      | cons x l => simp [ft_fi, hd, ft_zR]
    unfold ft_re
    split
    · rename_i h1
      refine ⟨⟨⟨?_, ?_, ft_okR_drop hd1.2.2 1⟩, hd2, hm⟩, fun _ => ?_⟩
      · simp; omega
      · simp; omega
      · simp only [ft_zT]; omega
    · rename_i h1
      have h0 : ft_zR (d.1.drop 1) = 0 := by rw [List.drop_of_length_le (by omega)]; rfl
      split
      · rename_i he
        refine ⟨ft_ln_ok hd2.2.2 (by omega), fun _ => ?_⟩
        rw [ft_ln_z]
        have := (ft_em_z hm).1 he
        simp only [ft_zT]; omega
      · rename_i he
        have he : ft_em sp o = false := by simpa using he
        obtain ⟨i1, i2⟩ := ih hm
        have hp := ft_okR_ps (ft_fi_ok hm he)
        refine ⟨⟨⟨by (try dsimp only); omega, by (try dsimp only); omega, hp.1⟩, hd2, i1⟩, fun _ => ?_⟩
        have := i2 he
        simp only [ft_zT]; omega
theorem ft_le_ok {ne mm : Nat} {zf : Nat → Nat} {o : Option ft_I} : ∀ {sp : ft_S} {k : Nat}, ft_okT ne mm zf k sp o → ft_okT ne mm zf k (ft_le sp o).1 (ft_le sp o).2 ∧ (ft_em sp o = false → ft_zT (ft_le sp o).1 (ft_le sp o).2 + ft_z (ft_la sp o) = ft_zT sp o) := by
  intro sp
  induction sp with
  | nil =>
    intro k h
    refine ⟨trivial, fun he => ?_⟩
    cases o with
    | none => simp [ft_em] at he
    | some x => simp [ft_le, ft_zT, ft_la]
  | cons d sp ih =>
    intro k h
    obtain ⟨hd1, hd2, hm⟩ := h
    have hne : d.2 ≠ [] := fun e => by rw [e] at hd2; simp at hd2
    have hz1 : ft_zR (d.2.take (d.2.length - 1)) + ft_z (ft_la (d :: sp) o) = ft_zR d.2 := by
      have e : d.2 = d.2.take (d.2.length - 1) ++ [d.2.getLast hne] := by
        rw [← List.dropLast_eq_take, List.dropLast_concat_getLast]
      have e2 : ft_la (d :: sp) o = d.2.getLast hne := by
        simp only [ft_la]
        rw [List.getLastD_eq_getLast?, List.getLast?_eq_some_getLast hne]
        rfl
      rw [e2]
      conv => rhs; rw [e]
      rw [ft_zR_app]
      simp [ft_zR]
    unfold ft_le
    split
    · rename_i h1
      refine ⟨⟨hd1, ⟨?_, ?_, ft_okR_take hd2.2.2 _⟩, hm⟩, fun _ => ?_⟩
      · simp; omega
      · simp; omega
      · simp only [ft_zT]; omega
    · rename_i h1
      have h0 : ft_zR (d.2.take (d.2.length - 1)) = 0 := by rw [show d.2.length - 1 = 0 from by omega]; rfl
      split
      · rename_i he
        refine ⟨ft_ln_ok hd1.2.2 (by omega), fun _ => ?_⟩
        rw [ft_ln_z]
        have := (ft_em_z hm).1 he
        simp only [ft_zT]; omega
      · rename_i he
        have he : ft_em sp o = false := by simpa using he
        obtain ⟨i1, i2⟩ := ih hm
        have hp := ft_okR_ps (ft_la_ok hm he)
        refine ⟨⟨hd1, ⟨by (try dsimp only); omega, by (try dsimp only); omega, hp.1⟩, i1⟩, fun _ => ?_⟩
        have := i2 he
        simp only [ft_zT]; omega
theorem ft_op_ok {ne mm : Nat} {zf : Nat → Nat} {o : Option ft_I} {sp : ft_S} {k : Nat} {l r : List ft_I} (hm : ft_okT ne mm zf (k + 1) sp o) (hl : ft_okR ne mm zf k l) (hr : ft_okR ne mm zf k r) (hl4 : l.length ≤ 4) (hr4 : r.length ≤ 4) (h0 : 0 < l.length ∨ 0 < r.length) : ft_okT ne mm zf k (ft_op l sp o r).1 (ft_op l sp o r).2 ∧ ft_zT (ft_op l sp o r).1 (ft_op l sp o r).2 = ft_zR l + ft_zT sp o + ft_zR r := by
  unfold ft_op
  split
  · rename_i h
    exact ⟨⟨⟨by (try dsimp only); omega, hl4, hl⟩, ⟨by (try dsimp only); omega, hr4, hr⟩, hm⟩, rfl⟩
  · rename_i h
    split
    · rename_i he
      have hz := (ft_em_z hm).1 he
      rw [ft_ln_z]
      split
      · rename_i hl0
        have : l = [] := List.length_eq_zero_iff.1 hl0
        subst this
        exact ⟨ft_ln_ok hr (by omega), by simp only [ft_zR]; omega⟩
      · rename_i hl0
        have : r = [] := List.length_eq_zero_iff.1 (by omega)
        subst this
        exact ⟨ft_ln_ok hl (by omega), by simp only [ft_zR]; omega⟩
    · rename_i he
      have he : ft_em sp o = false := by simpa using he
      split
      · rename_i hl0
        have : l = [] := List.length_eq_zero_iff.1 hl0
        subst this
        have hp := ft_okR_ps (ft_fi_ok hm he)
        have hre := ft_re_ok hm
        refine ⟨⟨⟨by (try dsimp only); omega, by (try dsimp only); omega, hp.1⟩, ⟨by (try dsimp only); omega, hr4, hr⟩, hre.1⟩, ?_⟩
        have := hre.2 he
        simp only [ft_zT, ft_zR]; omega
      · rename_i hl0
        have : r = [] := List.length_eq_zero_iff.1 (by omega)
        subst this
        have hp := ft_okR_ps (ft_la_ok hm he)
        have hle := ft_le_ok hm
        refine ⟨⟨⟨by (try dsimp only); omega, hl4, hl⟩, ⟨by (try dsimp only); omega, by (try dsimp only); omega, hp.1⟩, hle.1⟩, ?_⟩
        have := hle.2 he
        simp only [ft_zT, ft_zR]; omega
end
section
/-! GROUPS, JOIN, CUT, HALVES, the change of an entry: form and size; and how many nodes there are. -/
theorem ft_tk_le {n : Nat} (h : n ≠ 1) (h0 : n ≠ 0) : 2 ≤ ft_tk n ∧ ft_tk n ≤ 3 ∧ ft_tk n ≤ n ∧ n - ft_tk n ≠ 1 := by
  unfold ft_tk
  split <;> omega
theorem ft_gr_ok {ne : Nat} {k : Nat} : ∀ (f : Nat) (l : List ft_I) (c : ft_C), l.length ≠ 1 → l.length ≤ f → ft_okR ne c.1 c.2 k l → ft_ex c (ft_gr f l c).2 ∧ ft_okR ne (ft_gr f l c).2.1 (ft_gr f l c).2.2 (k + 1) (ft_gr f l c).1 ∧ (ft_gr f l c).1.length = (l.length + 2) / 3 ∧ ft_zR (ft_gr f l c).1 = ft_zR l ∧ (ft_gr f l c).2.1 = c.1 + (l.length + 2) / 3 := by
  intro f
  induction f with
  | zero =>
    intro l c h1 h2 h
    have : l = [] := List.length_eq_zero_iff.1 (by omega)
    subst this
    exact ⟨ft_ex_rf c, fun y hy => by simp [ft_gr] at hy, rfl, rfl, rfl⟩
  | succ f ih =>
    intro l c h1 h2 h
    unfold ft_gr
    split
    · rename_i h0
      have : l = [] := List.length_eq_zero_iff.1 h0
      subst this
      exact ⟨ft_ex_rf c, fun y hy => by simp at hy, rfl, rfl, rfl⟩
    · rename_i h0
      obtain ⟨t1, t2, t3, t4⟩ := ft_tk_le h1 h0
      have hex := ft_ex_nw c (l.take (ft_tk l.length))
      have hnd := ft_ok_nw (c := c) (ft_okR_take h (ft_tk l.length)) (by rw [List.length_take]; omega)
      obtain ⟨i1, i2, i3, i4, i5⟩ := ih (l.drop (ft_tk l.length)) (ft_nw c (l.take (ft_tk l.length))) (by rw [List.length_drop]; exact t4) (by rw [List.length_drop]; omega) (ft_okR_ex hex (ft_okR_drop h _))
      rw [List.length_drop] at i3 i5
      have hd : (l.length - ft_tk l.length + 2) / 3 + 1 = (l.length + 2) / 3 := by
        unfold ft_tk at *
        split <;> omega
      refine ⟨ft_ex_tr hex i1, ft_okR_cons (ft_ok_ex i1 hnd) i2, ?_, ?_, ?_⟩
      · simp only [List.length_cons, i3]; exact hd
      · simp only [ft_zR, ft_z_nd, i4]; exact ft_zR_td _ _
      · rw [i5]; simp only [ft_nw]; omega
theorem ft_af_ok {ne : Nat} {k : Nat} : ∀ (row : List ft_I) (a : ft_T × ft_C), ft_okR ne a.2.1 a.2.2 k row → ft_okT ne a.2.1 a.2.2 k a.1.1 a.1.2 → ft_ex a.2 (ft_af row a).2 ∧ ft_okT ne (ft_af row a).2.1 (ft_af row a).2.2 k (ft_af row a).1.1 (ft_af row a).1.2 ∧ ft_zT (ft_af row a).1.1 (ft_af row a).1.2 = ft_zR row + ft_zT a.1.1 a.1.2 := by
  intro row
  induction row with
  | nil => intro a h1 h2; exact ⟨ft_ex_rf _, h2, by simp [ft_af, ft_zR]⟩
  | cons x row ih =>
    intro a h1 h2
    obtain ⟨i1, i2, i3⟩ := ih a (fun y hy => h1 y (by simp [hy])) h2
    have h := ft_fr_ok (ft_af row a).1.1 x (ft_af row a).1.2 (ft_af row a).2 k (ft_ok_ex i1 (h1 x (by simp))) i2
    have hz := ft_fr_z (ft_af row a).1.1 x (ft_af row a).1.2 (ft_af row a).2
    refine ⟨ft_ex_tr i1 h.1, h.2, ?_⟩
    show ft_zT (ft_fr x (ft_af row a).1.1 (ft_af row a).1.2 (ft_af row a).2).1.1 (ft_fr x (ft_af row a).1.1 (ft_af row a).1.2 (ft_af row a).2).1.2 = _
    rw [hz, i3]
    simp only [ft_zR]; omega
theorem ft_ab_ok {ne : Nat} {k : Nat} : ∀ (row : List ft_I) (a : ft_T × ft_C), ft_okR ne a.2.1 a.2.2 k row → ft_okT ne a.2.1 a.2.2 k a.1.1 a.1.2 → ft_ex a.2 (ft_ab row a).2 ∧ ft_okT ne (ft_ab row a).2.1 (ft_ab row a).2.2 k (ft_ab row a).1.1 (ft_ab row a).1.2 ∧ ft_zT (ft_ab row a).1.1 (ft_ab row a).1.2 = ft_zT a.1.1 a.1.2 + ft_zR row := by
  intro row
  induction row with
  | nil => intro a h1 h2; exact ⟨ft_ex_rf _, h2, by simp [ft_ab, ft_zR]⟩
  | cons x row ih =>
    intro a h1 h2
    have h := ft_bk_ok a.1.1 x a.1.2 a.2 k (h1 x (by simp)) h2
    have hz := ft_bk_z a.1.1 x a.1.2 a.2
    obtain ⟨i1, i2, i3⟩ := ih (ft_bk a.1.1 a.1.2 x a.2) (ft_okR_ex h.1 (fun y hy => h1 y (by simp [hy]))) h.2
    refine ⟨ft_ex_tr h.1 i1, i2, ?_⟩
    show ft_zT (ft_ab row (ft_bk a.1.1 a.1.2 x a.2)).1.1 (ft_ab row (ft_bk a.1.1 a.1.2 x a.2)).1.2 = _
    rw [i3, hz]
    simp only [ft_zR]; omega
theorem ft_jn_ok {ne : Nat} : ∀ (sp : ft_S) (o : Option ft_I) (row : List ft_I) (sp2 : ft_S) (o2 : Option ft_I) (c : ft_C) (k : Nat), row.length ≤ 4 → ft_okR ne c.1 c.2 k row → ft_okT ne c.1 c.2 k sp o → ft_okT ne c.1 c.2 k sp2 o2 → ft_ex c (ft_jn sp o row sp2 o2 c).2 ∧ ft_okT ne (ft_jn sp o row sp2 o2 c).2.1 (ft_jn sp o row sp2 o2 c).2.2 k (ft_jn sp o row sp2 o2 c).1.1 (ft_jn sp o row sp2 o2 c).1.2 ∧ ft_zT (ft_jn sp o row sp2 o2 c).1.1 (ft_jn sp o row sp2 o2 c).1.2 = ft_zT sp o + ft_zR row + ft_zT sp2 o2 := by
  intro sp
  induction sp with
  | nil =>
    intro o row sp2 o2 c k h4 hr h1 h2
    cases o with
    | none =>
      have h := ft_af_ok (k := k) row ((sp2, o2), c) hr h2
      refine ⟨h.1, h.2.1, ?_⟩
      show ft_zT (ft_af row ((sp2, o2), c)).1.1 (ft_af row ((sp2, o2), c)).1.2 = _
      rw [h.2.2]; simp [ft_zT]
    | some x =>
      cases he : ft_em sp2 o2 with
      | true =>
        have h := ft_ab_ok (k := k) row (([], some x), c) hr h1
        have hz := (ft_em_z h2).1 he
        simp only [ft_jn, he, if_true]
        refine ⟨h.1, h.2.1, ?_⟩
        rw [h.2.2, hz]; rfl
      | false =>
        have h := ft_af_ok (k := k) row ((sp2, o2), c) hr h2
        have h' := ft_fr_ok (ft_af row ((sp2, o2), c)).1.1 x (ft_af row ((sp2, o2), c)).1.2 (ft_af row ((sp2, o2), c)).2 k (ft_ok_ex h.1 h1) h.2.1
        have hz := ft_fr_z (ft_af row ((sp2, o2), c)).1.1 x (ft_af row ((sp2, o2), c)).1.2 (ft_af row ((sp2, o2), c)).2
        simp only [ft_jn, he, Bool.false_eq_true, if_false]
        refine ⟨ft_ex_tr h.1 h'.1, h'.2, ?_⟩
        rw [hz, h.2.2]
        simp only [ft_zT]; omega
  | cons d sp ih =>
    intro o row sp2 o2 c k h4 hr h1 h2
    cases sp2 with
    | nil =>
      have h := ft_ab_ok (k := k) row ((d :: sp, o), c) hr h1
      cases o2 with
      | none => exact ⟨h.1, h.2.1, h.2.2⟩
      | some y =>
        have h' := ft_bk_ok (ft_ab row ((d :: sp, o), c)).1.1 y (ft_ab row ((d :: sp, o), c)).1.2 (ft_ab row ((d :: sp, o), c)).2 k (ft_ok_ex h.1 h2) h.2.1
        have hz := ft_bk_z (ft_ab row ((d :: sp, o), c)).1.1 y (ft_ab row ((d :: sp, o), c)).1.2 (ft_ab row ((d :: sp, o), c)).2
        simp only [ft_jn]
        refine ⟨ft_ex_tr h.1 h'.1, h'.2, ?_⟩
        rw [hz, h.2.2]
        rfl
    | cons d2 sp2 =>
      obtain ⟨a1, a2, a3⟩ := h1
      obtain ⟨b1, b2, b3⟩ := h2
      have hrow := ft_okR_app (ft_okR_app a2.2.2 hr) b1.2.2
      have g := ft_gr_ok (ne := ne) (k := k) 16 (d.2 ++ row ++ d2.1) c (by simp; omega) (by simp; omega) hrow
      obtain ⟨g1, g2, g3, g4, g5⟩ := g
      have i := ih o (ft_gr 16 (d.2 ++ row ++ d2.1) c).1 sp2 o2 (ft_gr 16 (d.2 ++ row ++ d2.1) c).2 (k + 1) (by rw [g3]; simp; omega) g2 (ft_okT_ex g1 a3) (ft_okT_ex g1 b3)
      obtain ⟨i1, i2, i3⟩ := i
      have hall := ft_ex_tr g1 i1
      simp only [ft_jn]
      refine ⟨hall, ⟨⟨a1.1, a1.2.1, ft_okR_ex hall a1.2.2⟩, ⟨b2.1, b2.2.1, ft_okR_ex hall b2.2.2⟩, i2⟩, ?_⟩
      simp only [ft_zT]
      rw [i3, g4, ft_zR_app, ft_zR_app]
      omega
/-- what CUT gives at a place p of a tree of rank k -/
def ft_cok (ne mm : Nat) (zf : Nat → Nat) (k : Nat) (sp : ft_S) (o : Option ft_I) (p : Nat) (c : ft_T × ft_I × ft_T) : Prop :=
  ft_okT ne mm zf k c.1.1 c.1.2 ∧ ft_ok ne mm zf k c.2.1 ∧ ft_okT ne mm zf k c.2.2.1 c.2.2.2 ∧ ft_zT c.1.1 c.1.2 + ft_z c.2.1 + ft_zT c.2.2.1 c.2.2.2 = ft_zT sp o ∧ ft_zT c.1.1 c.1.2 ≤ p ∧ p < ft_zT c.1.1 c.1.2 + ft_z c.2.1
theorem ft_cu_ok {ne mm : Nat} {zf : Nat → Nat} {o : Option ft_I} : ∀ {sp : ft_S} {k p : Nat}, ft_okT ne mm zf k sp o → p < ft_zT sp o → ft_cok ne mm zf k sp o p (ft_cu sp o p) := by
  intro sp
  induction sp with
  | nil =>
    intro k p h hp
    cases o with
    | none => simp [ft_zT] at hp
    | some x =>
      simp only [ft_zT] at hp
      exact ⟨trivial, h, trivial, by simp [ft_cu, ft_zT], by simp [ft_cu, ft_zT], by simpa [ft_cu, ft_zT] using hp⟩
  | cons d sp ih =>
    intro k p h hp
    obtain ⟨a1, a2, a3⟩ := h
    simp only [ft_zT] at hp
    unfold ft_cu
    split
    · rename_i h1
      have hlt := ft_ix_lt (l := d.2) (p - (ft_zR d.1 + ft_zT sp o)) (by omega)
      have hs := ft_ix_sp (l := d.2) (p := p - (ft_zR d.1 + ft_zT sp o)) (by omega)
      generalize ft_ix d.2 (p - (ft_zR d.1 + ft_zT sp o)) = i at hlt hs ⊢
      have htg := ft_zR_tg d.2 hlt
      have ho := ft_op_ok (r := d.2.take i) a3 a1.2.2 (ft_okR_take a2.2.2 i) a1.2.1 (by rw [List.length_take]; omega) (Or.inl (by omega))
      refine ⟨ho.1, a2.2.2 _ (ft_getD_mem hlt), ft_ln_ok (ft_okR_drop a2.2.2 _) (by rw [List.length_drop]; omega), ?_, ?_, ?_⟩
      · rw [ho.2, ft_ln_z]; simp only [ft_zT]; omega
      · rw [ho.2]; (try dsimp only); omega
      · rw [ho.2]; (try dsimp only); omega
    · rename_i h1
      split
      · rename_i h2
        have hlt := ft_ix_lt (l := d.1) p (by omega)
        have hs := ft_ix_sp (l := d.1) (p := p) h2
        generalize ft_ix d.1 p = i at hlt hs ⊢
        have htg := ft_zR_tg d.1 hlt
        have ho := ft_op_ok (l := d.1.drop (i + 1)) a3 (ft_okR_drop a1.2.2 _) a2.2.2 (by rw [List.length_drop]; omega) a2.2.1 (Or.inr (by omega))
        refine ⟨ft_ln_ok (ft_okR_take a1.2.2 _) (by rw [List.length_take]; omega), a1.2.2 _ (ft_getD_mem hlt), ho.1, ?_, ?_, ?_⟩
        · rw [ho.2, ft_ln_z]; simp only [ft_zT]; omega
        · rw [ft_ln_z]; (try dsimp only); omega
        · rw [ft_ln_z]; (try dsimp only); omega
      · rename_i h2
        have hc := ih (p := p - ft_zR d.1) a3 (by omega)
        generalize ft_cu sp o (p - ft_zR d.1) = c at hc ⊢
        obtain ⟨c1, c2, c3, c4, c5, c6⟩ := hc
        obtain ⟨p1, p2, p3, p4⟩ := ft_okR_ps c2
        have hlt := ft_ix_lt (l := ft_ps c.2.1) (p - ft_zR d.1 - ft_zT c.1.1 c.1.2) (by omega)
        have hs := ft_ix_sp (l := ft_ps c.2.1) (p := p - ft_zR d.1 - ft_zT c.1.1 c.1.2) (by omega)
        unfold ft_cs
        generalize ft_ix (ft_ps c.2.1) (p - ft_zR d.1 - ft_zT c.1.1 c.1.2) = i at hlt hs ⊢
        have htg := ft_zR_tg (ft_ps c.2.1) hlt
        have o1 := ft_op_ok (r := (ft_ps c.2.1).take i) c1 a1.2.2 (ft_okR_take p1 i) a1.2.1 (by rw [List.length_take]; omega) (Or.inl (by omega))
        have o2 := ft_op_ok (l := (ft_ps c.2.1).drop (i + 1)) c3 (ft_okR_drop p1 _) a2.2.2 (by rw [List.length_drop]; omega) a2.2.1 (Or.inr (by omega))
        refine ⟨o1.1, p1 _ (ft_getD_mem hlt), o2.1, ?_, ?_, ?_⟩
        · rw [o1.2, o2.2]; simp only [ft_zT]; omega
        · rw [o1.2]; (try dsimp only); omega
        · rw [o1.2]; (try dsimp only); omega
end
section
/-! The change of an entry; how many nodes a tree has. -/
theorem ft_zR_set {l : List ft_I} {i : Nat} {r : ft_I} (hi : i < l.length) (hz : ft_z r = ft_z (l.getD i ft_no)) : ft_zR (l.set i r) = ft_zR l := by
  induction l generalizing i with
  | nil => simp at hi
  | cons x l ih =>
    cases i with
    | zero => simp only [List.set_cons_zero, ft_zR]; simp at hz; omega
    | succ i =>
      have := ih (i := i) (by simpa using hi) (by simpa using hz)
      simp only [List.set_cons_succ, ft_zR, this]
theorem ft_okR_set {ne mm : Nat} {zf : Nat → Nat} {k i : Nat} {l : List ft_I} {r : ft_I} (h : ft_okR ne mm zf k l) (hr : ft_ok ne mm zf k r) : ft_okR ne mm zf k (l.set i r) := fun y hy => by
  rcases List.mem_or_eq_of_mem_set hy with h1 | h1
  · exact h y h1
  · rw [h1]; exact hr
theorem ft_rp_ok {ne : Nat} {y : ft_I} : ∀ (k : Nat) (x : ft_I) (p : Nat) (c : ft_C), ft_ok ne c.1 c.2 0 y → ft_ok ne c.1 c.2 k x → p < ft_z x → ft_ex c (ft_rp k x p y c).2 ∧ ft_ok ne (ft_rp k x p y c).2.1 (ft_rp k x p y c).2.2 k (ft_rp k x p y c).1 ∧ ft_z (ft_rp k x p y c).1 = ft_z x ∧ (ft_rp k x p y c).2.1 = c.1 + k := by
  intro k
  induction k with
  | zero =>
    intro x p c hy hx hp
    exact ⟨ft_ex_rf c, hy, by rw [show (ft_rp 0 x p y c).1 = y from rfl, ft_ok_z0 hy, ft_ok_z0 hx], rfl⟩
  | succ k ih =>
    intro x p c hy hx hp
    obtain ⟨p1, p2, p3, p4⟩ := ft_okR_ps hx
    have hlt := ft_ix_lt (l := ft_ps x) p (by omega)
    have hs := ft_ix_sp (l := ft_ps x) (p := p) (by omega)
    have hex := ft_ex_up c (ft_z x)
    unfold ft_rp
    generalize ft_ix (ft_ps x) p = i at hlt hs ⊢
    obtain ⟨i1, i2, i3, i4⟩ := ih ((ft_ps x).getD i ft_no) (p - ft_zR ((ft_ps x).take i)) (c.1 + 1, va_up c.2 (c.1 + 1) (ft_z x)) (ft_ok_ex hex hy) (ft_ok_ex hex (p1 _ (ft_getD_mem hlt))) (by omega)
    generalize ft_rp k ((ft_ps x).getD i ft_no) (p - ft_zR ((ft_ps x).take i)) y (c.1 + 1, va_up c.2 (c.1 + 1) (ft_z x)) = r at i1 i2 i3 i4 ⊢
    have hall := ft_ex_tr hex i1
    have hzs := ft_zR_set hlt i3
    refine ⟨hall, ⟨c.1 + 1, _, rfl, by simp only [List.length_set]; omega, by omega, i1.1, ?_, ft_okR_set (ft_okR_ex hall p1) i2⟩, ?_, ?_⟩
    · rw [i1.2 (c.1 + 1) (by omega) (Nat.le_refl _)]
      show va_up c.2 (c.1 + 1) (ft_z x) (c.1 + 1) = _
      rw [va_up_self, hzs, p2]
    · rw [ft_z_nd, hzs, p2]
    · rw [i4]; show c.1 + 1 + k = c.1 + (k + 1); omega
theorem ft_rR_ok {ne : Nat} {y : ft_I} {k : Nat} {l : List ft_I} {p : Nat} {c : ft_C} (hy : ft_ok ne c.1 c.2 0 y) (h : ft_okR ne c.1 c.2 k l) (hp : p < ft_zR l) (hl : 0 < l.length) : ft_ex c (ft_rR k l p y c).2 ∧ ft_okR ne (ft_rR k l p y c).2.1 (ft_rR k l p y c).2.2 k (ft_rR k l p y c).1 ∧ ft_zR (ft_rR k l p y c).1 = ft_zR l ∧ (ft_rR k l p y c).2.1 = c.1 + k ∧ (ft_rR k l p y c).1.length = l.length := by
  have hlt := ft_ix_lt (l := l) p hl
  have hs := ft_ix_sp (l := l) (p := p) hp
  unfold ft_rR
  generalize ft_ix l p = i at hlt hs ⊢
  obtain ⟨i1, i2, i3, i4⟩ := ft_rp_ok k (l.getD i ft_no) (p - ft_zR (l.take i)) c hy (h _ (ft_getD_mem hlt)) (by omega)
  exact ⟨i1, ft_okR_set (ft_okR_ex i1 h) i2, ft_zR_set hlt i3, i4, by simp⟩
theorem ft_rT_ok {ne : Nat} {y : ft_I} {o : Option ft_I} {c : ft_C} : ∀ (sp : ft_S) (k p : Nat), ft_ok ne c.1 c.2 0 y → ft_okT ne c.1 c.2 k sp o → p < ft_zT sp o → ft_ex c (ft_rT k sp o p y c).2 ∧ ft_okT ne (ft_rT k sp o p y c).2.1 (ft_rT k sp o p y c).2.2 k (ft_rT k sp o p y c).1.1 (ft_rT k sp o p y c).1.2 ∧ ft_zT (ft_rT k sp o p y c).1.1 (ft_rT k sp o p y c).1.2 = ft_zT sp o := by
  intro sp
  induction sp with
  | nil =>
    intro k p hy h hp
    cases o with
    | none => simp [ft_zT] at hp
    | some x =>
      obtain ⟨i1, i2, i3, i4⟩ := ft_rp_ok k x p c hy h hp
      exact ⟨i1, i2, i3⟩
  | cons d sp ih =>
    intro k p hy h hp
    obtain ⟨a1, a2, a3⟩ := h
    simp only [ft_zT] at hp
    unfold ft_rT
    split
    · rename_i h1
      obtain ⟨i1, i2, i3, i4, i5⟩ := ft_rR_ok (p := p - (ft_zR d.1 + ft_zT sp o)) hy a2.2.2 (by omega) (by omega)
      exact ⟨i1, ⟨⟨a1.1, a1.2.1, ft_okR_ex i1 a1.2.2⟩, ⟨by rw [i5]; exact a2.1, by rw [i5]; exact a2.2.1, i2⟩, ft_okT_ex i1 a3⟩, by simp only [ft_zT]; omega⟩
    · rename_i h1
      split
      · rename_i h2
        obtain ⟨i1, i2, i3, i4, i5⟩ := ft_rR_ok (p := p) hy a1.2.2 h2 (by omega)
        exact ⟨i1, ⟨⟨by rw [i5]; exact a1.1, by rw [i5]; exact a1.2.1, i2⟩, ⟨a2.1, a2.2.1, ft_okR_ex i1 a2.2.2⟩, ft_okT_ex i1 a3⟩, by simp only [ft_zT]; omega⟩
      · rename_i h2
        obtain ⟨i1, i2, i3⟩ := ih (k + 1) (p - ft_zR d.1) hy a3 (by omega)
        exact ⟨i1, ⟨⟨a1.1, a1.2.1, ft_okR_ex i1 a1.2.2⟩, ⟨a2.1, a2.2.1, ft_okR_ex i1 a2.2.2⟩, i2⟩, by simp only [ft_zT]; omega⟩
/-- how many nodes -/
def ft_cn : ft_I → Nat
  | .mulL _ r => 1 + ft_cn r
  | .add x r => ft_cn x + ft_cn r
  | _ => 0
def ft_cR : List ft_I → Nat
  | [] => 0
  | x :: l => ft_cn x + ft_cR l
def ft_cT : ft_S → Option ft_I → Nat
  | [], none => 0
  | [], some x => ft_cn x
  | d :: sp, o => ft_cR d.1 + ft_cT sp o + ft_cR d.2
theorem ft_cn_nd (n : Nat) (l : List ft_I) : ft_cn (ft_nd n l) = 1 + ft_cR l := by
  show 1 + ft_cn (ft_mk l) = _
  congr 1
  induction l with
  | nil => rfl
  | cons x l ih => simp [ft_mk, ft_cn, ft_cR, ih]
theorem ft_cR_app (a b : List ft_I) : ft_cR (a ++ b) = ft_cR a + ft_cR b := by
  induction a with
  | nil => simp [ft_cR]
  | cons x l ih => simp [ft_cR, ih]; omega
theorem ft_cR_td (l : List ft_I) (n : Nat) : ft_cR (l.take n) + ft_cR (l.drop n) = ft_cR l := by
  rw [← ft_cR_app, List.take_append_drop]
theorem ft_fr_c : ∀ (sp : ft_S) (x : ft_I) (o : Option ft_I) (c : ft_C), ft_cT (ft_fr x sp o c).1.1 (ft_fr x sp o c).1.2 + c.1 = ft_cn x + ft_cT sp o + (ft_fr x sp o c).2.1 := by
  intro sp
  induction sp with
  | nil => intro x o c; cases o <;> simp [ft_fr, ft_cT, ft_cR]
  | cons d sp ih =>
    intro x o c
    unfold ft_fr
    split
    · simp only [ft_cT, ft_cR]; omega
    · have h1 := ih (ft_nd (c.1 + 1) (d.1.drop 1)) o (ft_nw c (d.1.drop 1))
      have h2 := ft_cR_td d.1 1
      rw [ft_cn_nd] at h1
      have h3 : (ft_nw c (d.1.drop 1)).1 = c.1 + 1 := rfl
      simp only [ft_cT, ft_cR]
      omega
theorem ft_bk_c : ∀ (sp : ft_S) (x : ft_I) (o : Option ft_I) (c : ft_C), ft_cT (ft_bk sp o x c).1.1 (ft_bk sp o x c).1.2 + c.1 = ft_cn x + ft_cT sp o + (ft_bk sp o x c).2.1 := by
  intro sp
  induction sp with
  | nil => intro x o c; cases o <;> simp [ft_bk, ft_cT, ft_cR] <;> omega
  | cons d sp ih =>
    intro x o c
    unfold ft_bk
    split
    · simp only [ft_cT, ft_cR, ft_cR_app]; omega
    · have h1 := ih (ft_nd (c.1 + 1) (d.2.take 3)) o (ft_nw c (d.2.take 3))
      have h2 := ft_cR_td d.2 3
      rw [ft_cn_nd] at h1
      have h3 : (ft_nw c (d.2.take 3)).1 = c.1 + 1 := rfl
      simp only [ft_cT, ft_cR, ft_cR_app]
      omega
theorem ft_gr_c : ∀ (f : Nat) (l : List ft_I) (c : ft_C), l.length ≤ f → l.length ≠ 1 → ft_cR (ft_gr f l c).1 + c.1 = ft_cR l + (ft_gr f l c).2.1 := by
  intro f
  induction f with
  | zero =>
    intro l c h h1
    have : l = [] := List.length_eq_zero_iff.1 (by omega)
    subst this
    simp [ft_gr, ft_cR]
  | succ f ih =>
    intro l c h h1
    unfold ft_gr
    split
    · rename_i h0
      have : l = [] := List.length_eq_zero_iff.1 h0
      subst this
      simp [ft_cR]
    · rename_i h0
      obtain ⟨t1, t2, t3, t4⟩ := ft_tk_le h1 h0
      have i := ih (l.drop (ft_tk l.length)) (ft_nw c (l.take (ft_tk l.length))) (by rw [List.length_drop]; omega) (by rw [List.length_drop]; exact t4)
      have h2 := ft_cR_td l (ft_tk l.length)
      have h3 : (ft_nw c (l.take (ft_tk l.length))).1 = c.1 + 1 := rfl
      simp only [ft_cR, ft_cn_nd]
      omega
theorem ft_af_c (row : List ft_I) (a : ft_T × ft_C) : ft_cT (ft_af row a).1.1 (ft_af row a).1.2 + a.2.1 = ft_cR row + ft_cT a.1.1 a.1.2 + (ft_af row a).2.1 := by
  induction row with
  | nil => simp [ft_af, ft_cR]
  | cons x row ih =>
    have h := ft_fr_c (ft_af row a).1.1 x (ft_af row a).1.2 (ft_af row a).2
    show ft_cT (ft_fr x (ft_af row a).1.1 (ft_af row a).1.2 (ft_af row a).2).1.1 (ft_fr x (ft_af row a).1.1 (ft_af row a).1.2 (ft_af row a).2).1.2 + a.2.1 = _ + (ft_fr x (ft_af row a).1.1 (ft_af row a).1.2 (ft_af row a).2).2.1
    simp only [ft_cR]
    omega
theorem ft_ab_c : ∀ (row : List ft_I) (a : ft_T × ft_C), ft_cT (ft_ab row a).1.1 (ft_ab row a).1.2 + a.2.1 = ft_cR row + ft_cT a.1.1 a.1.2 + (ft_ab row a).2.1 := by
  intro row
  induction row with
  | nil => intro a; simp [ft_ab, ft_cR]
  | cons x row ih =>
    intro a
    have h := ft_bk_c a.1.1 x a.1.2 a.2
    have i := ih (ft_bk a.1.1 a.1.2 x a.2)
    show ft_cT (ft_ab row (ft_bk a.1.1 a.1.2 x a.2)).1.1 (ft_ab row (ft_bk a.1.1 a.1.2 x a.2)).1.2 + a.2.1 = _ + (ft_ab row (ft_bk a.1.1 a.1.2 x a.2)).2.1
    simp only [ft_cR]
    omega
theorem ft_em_c {o : Option ft_I} {sp : ft_S} (h : ft_em sp o = true) : ft_cT sp o = 0 := by
  cases sp with
  | nil => cases o with
    | none => rfl
    | some x => simp [ft_em] at h
  | cons d sp => simp [ft_em] at h
theorem ft_jn_c {ne : Nat} : ∀ (sp : ft_S) (o : Option ft_I) (row : List ft_I) (sp2 : ft_S) (o2 : Option ft_I) (c : ft_C) (k : Nat), row.length ≤ 4 → ft_okR ne c.1 c.2 k row → ft_okT ne c.1 c.2 k sp o → ft_okT ne c.1 c.2 k sp2 o2 → ft_cT (ft_jn sp o row sp2 o2 c).1.1 (ft_jn sp o row sp2 o2 c).1.2 + c.1 = ft_cT sp o + ft_cR row + ft_cT sp2 o2 + (ft_jn sp o row sp2 o2 c).2.1 := by
  intro sp
  induction sp with
  | nil =>
    intro o row sp2 o2 c k h4 hr h1 h2
    cases o with
    | none =>
      have h := ft_af_c row ((sp2, o2), c)
      simp only [ft_jn, ft_cT] at h ⊢
      omega
    | some x =>
      cases he : ft_em sp2 o2 with
      | true =>
        have h := ft_ab_c row (([], some x), c)
        have hz := ft_em_c he
        simp only [ft_jn, he, if_true, ft_cT] at h ⊢
        omega
      | false =>
        have h := ft_af_c row ((sp2, o2), c)
        have hf := ft_fr_c (ft_af row ((sp2, o2), c)).1.1 x (ft_af row ((sp2, o2), c)).1.2 (ft_af row ((sp2, o2), c)).2
        simp only [ft_jn, he, Bool.false_eq_true, if_false, ft_cT] at h ⊢
        omega
  | cons d sp ih =>
    intro o row sp2 o2 c k h4 hr h1 h2
    cases sp2 with
    | nil =>
      have h := ft_ab_c row ((d :: sp, o), c)
      cases o2 with
      | none => simp only [ft_jn, ft_cT] at h ⊢; omega
      | some y =>
        have hf := ft_bk_c (ft_ab row ((d :: sp, o), c)).1.1 y (ft_ab row ((d :: sp, o), c)).1.2 (ft_ab row ((d :: sp, o), c)).2
        simp only [ft_jn, ft_cT] at h ⊢
        omega
    | cons d2 sp2 =>
      obtain ⟨a1, a2, a3⟩ := h1
      obtain ⟨b1, b2, b3⟩ := h2
      have hrow := ft_okR_app (ft_okR_app a2.2.2 hr) b1.2.2
      obtain ⟨g1, g2, g3, g4, g5⟩ := ft_gr_ok (ne := ne) (k := k) 16 (d.2 ++ row ++ d2.1) c (by simp; omega) (by simp; omega) hrow
      have hg := ft_gr_c 16 (d.2 ++ row ++ d2.1) c (by simp; omega) (by simp; omega)
      have i := ih o (ft_gr 16 (d.2 ++ row ++ d2.1) c).1 sp2 o2 (ft_gr 16 (d.2 ++ row ++ d2.1) c).2 (k + 1) (by rw [g3]; simp; omega) g2 (ft_okT_ex g1 a3) (ft_okT_ex g1 b3)
      rw [ft_cR_app, ft_cR_app] at hg
      simp only [ft_jn, ft_cT]
      omega
theorem ft_ok_c {ne mm : Nat} {zf : Nat → Nat} : ∀ {k : Nat} {x : ft_I}, ft_ok ne mm zf k x → ft_cn x + 1 ≤ ft_z x
  | 0, x, h => by
    obtain ⟨e, rfl, _⟩ := h
    simp [ft_cn, ft_z]
  | k + 1, x, h => by
    obtain ⟨n, l, rfl, hl, _, _, _, hy⟩ := h
    rw [ft_cn_nd, ft_z_nd]
    have : ∀ l' : List ft_I, (∀ y ∈ l', ft_ok ne mm zf k y) → ft_cR l' + l'.length ≤ ft_zR l' := by
      intro l'
      induction l' with
      | nil => intro _; simp [ft_cR, ft_zR]
      | cons a l' ih =>
        intro h
        have h1 := ft_ok_c (h a (by simp))
        have h2 := ih (fun y hy => h y (by simp [hy]))
        simp only [ft_cR, ft_zR, List.length_cons]
        omega
    have := this l hy
    omega
theorem ft_okR_c {ne mm : Nat} {zf : Nat → Nat} {k : Nat} {l : List ft_I} (h : ft_okR ne mm zf k l) : ft_cR l + l.length ≤ ft_zR l := by
  induction l with
  | nil => simp [ft_cR, ft_zR]
  | cons a l ih =>
    have h1 := ft_ok_c (h a (by simp))
    have h2 := ih (fun y hy => h y (by simp [hy]))
    simp only [ft_cR, ft_zR, List.length_cons]
    omega
theorem ft_okR_c0 {ne mm : Nat} {zf : Nat → Nat} {l : List ft_I} (h : ft_okR ne mm zf 0 l) : ft_cR l = 0 := by
  induction l with
  | nil => rfl
  | cons a l ih =>
    obtain ⟨e, rfl, _⟩ := h a (by simp)
    have h2 := ih (fun y hy => h y (by simp [hy]))
    simp only [ft_cR, ft_cn, h2]
theorem ft_ok_c1 {ne mm : Nat} {zf : Nat → Nat} {x : ft_I} (h : ft_ok ne mm zf 1 x) : ft_cn x = 1 := by
  obtain ⟨n, l, rfl, hl, _, _, _, hy⟩ := h
  rw [ft_cn_nd, ft_okR_c0 (ne := ne) (mm := mm) (zf := zf) hy]
theorem ft_okR_c1 {ne mm : Nat} {zf : Nat → Nat} {l : List ft_I} (h : ft_okR ne mm zf 1 l) : ft_cR l = l.length := by
  induction l with
  | nil => rfl
  | cons a l ih =>
    have h1 := ft_ok_c1 (h a (by simp))
    have h2 := ih (fun y hy => h y (by simp [hy]))
    simp only [ft_cR, h1, h2, List.length_cons]
    omega
theorem ft_cT_z {ne mm : Nat} {zf : Nat → Nat} {o : Option ft_I} : ∀ {sp : ft_S} {k : Nat}, ft_okT ne mm zf k sp o → ft_cT sp o ≤ ft_zT sp o - 1 := by
  intro sp
  induction sp with
  | nil =>
    intro k h
    cases o with
    | none => simp [ft_cT]
    | some x => have := ft_ok_c h; simp only [ft_cT, ft_zT]; omega
  | cons d sp ih =>
    intro k h
    have h1 := ft_okR_c h.1.2.2
    have h2 := ft_okR_c h.2.1.2.2
    have h3 := ih h.2.2
    have h4 := h.1.1
    have h5 := h.2.1.1
    simp only [ft_cT, ft_zT]
    omega
/-- a tree of at most 40 entries has at most 35 nodes -/
theorem ft_c35 {ne mm : Nat} {zf : Nat → Nat} {o : Option ft_I} {sp : ft_S} (h : ft_okT ne mm zf 0 sp o) (hz : ft_zT sp o ≤ 40) : ft_cT sp o ≤ 35 := by
  cases sp with
  | nil => cases o with
    | none => simp [ft_cT]
    | some x => obtain ⟨e, rfl, _⟩ := h; simp [ft_cT, ft_cn]
  | cons d sp =>
    obtain ⟨a1, a2, a3⟩ := h
    have e1 := ft_okR_c0 a1.2.2
    have e2 := ft_okR_c0 a2.2.2
    have z1 := ft_okR_z a1.2.2
    have z2 := ft_okR_z a2.2.2
    simp only [ft_zT] at hz
    simp only [ft_cT, e1, e2]
    cases sp with
    | nil => cases o with
      | none => simp [ft_cT]
      | some x => have := ft_ok_c1 a3; simp only [ft_cT]; omega
    | cons d2 sp =>
      obtain ⟨b1, b2, b3⟩ := a3
      have f1 := ft_okR_c1 b1.2.2
      have f2 := ft_okR_c1 b2.2.2
      have y1 := ft_okR_z b1.2.2
      have y2 := ft_okR_z b2.2.2
      have y3 := ft_cT_z b3
      simp only [ft_zT] at hz
      simp only [ft_cT, f1, f2]
      omega
end
section
/-! What every call answers, and what state it leaves: (versions, nodes, entries). Class and reference are both held against this. -/
abbrev ft_E : Type := List (Int32 × Int32)
abbrev ft_Q : Type := List ft_T × ft_C × ft_E
def sp_at (q : ft_Q) (v : Int32) : Option ft_T := if v < 0 then none else q.1[v.toNatClampNeg]?
def sp_keep (q : ft_Q) (t : ft_T) (c : ft_C) (e : ft_E) : Int32 × ft_Q := (nI q.1.length, (q.1 ++ [t], c, e))
def sp_es (q : ft_Q) (t : ft_T) : ft_E := (ft_lT t.1 t.2).map (fun l => q.2.2.getD l.1 (0, 0))
def sp_new (q : ft_Q) : ft_I := .num q.2.2.length
def sp_pushFront (q : ft_Q) (v lo hi : Int32) : Int32 × ft_Q :=
  match sp_at q v with
  | none => (-1, q)
  | some t => if hi < lo then (-1, q) else if 120 ≤ q.1.length ∨ 40 ≤ ft_zT t.1 t.2 then (-2, q)
    else sp_keep q (ft_fr (sp_new q) t.1 t.2 q.2.1).1 (ft_fr (sp_new q) t.1 t.2 q.2.1).2 (q.2.2 ++ [(lo, hi)])
def sp_pushBack (q : ft_Q) (v lo hi : Int32) : Int32 × ft_Q :=
  match sp_at q v with
  | none => (-1, q)
  | some t => if hi < lo then (-1, q) else if 120 ≤ q.1.length ∨ 40 ≤ ft_zT t.1 t.2 then (-2, q)
    else sp_keep q (ft_bk t.1 t.2 (sp_new q) q.2.1).1 (ft_bk t.1 t.2 (sp_new q) q.2.1).2 (q.2.2 ++ [(lo, hi)])
def sp_popFront (q : ft_Q) (v : Int32) : Int32 × ft_Q :=
  match sp_at q v with
  | none => (-1, q)
  | some t => if ft_zT t.1 t.2 = 0 then (-1, q) else if 120 ≤ q.1.length then (-2, q)
    else sp_keep q (ft_re t.1 t.2) q.2.1 q.2.2
def sp_popBack (q : ft_Q) (v : Int32) : Int32 × ft_Q :=
  match sp_at q v with
  | none => (-1, q)
  | some t => if ft_zT t.1 t.2 = 0 then (-1, q) else if 120 ≤ q.1.length then (-2, q)
    else sp_keep q (ft_le t.1 t.2) q.2.1 q.2.2
def sp_concat (q : ft_Q) (v u : Int32) : Int32 × ft_Q :=
  match sp_at q v, sp_at q u with
  | some t, some t2 => if 120 ≤ q.1.length ∨ 40 < ft_zT t.1 t.2 + ft_zT t2.1 t2.2 then (-2, q)
    else sp_keep q (ft_jn t.1 t.2 [] t2.1 t2.2 q.2.1).1 (ft_jn t.1 t.2 [] t2.1 t2.2 q.2.1).2 q.2.2
  | _, _ => (-1, q)
def sp_split (q : ft_Q) (v p : Int32) : Int32 × ft_Q :=
  match sp_at q v with
  | none => (-1, q)
  | some t => if p < 0 ∨ nI (ft_zT t.1 t.2) < p then (-1, q) else if 118 < q.1.length then (-2, q)
    else (nI q.1.length, (q.1 ++ [(ft_ha t.1 t.2 p.toNatClampNeg q.2.1).1, (ft_ha t.1 t.2 p.toNatClampNeg q.2.1).2.1], (ft_ha t.1 t.2 p.toNatClampNeg q.2.1).2.2, q.2.2))
def sp_replace (q : ft_Q) (v p lo hi : Int32) : Int32 × ft_Q :=
  match sp_at q v with
  | none => (-1, q)
  | some t => if p < 0 ∨ nI (ft_zT t.1 t.2) ≤ p ∨ hi < lo then (-1, q) else if 120 ≤ q.1.length then (-2, q)
    else sp_keep q (ft_rT 0 t.1 t.2 p.toNatClampNeg (sp_new q) q.2.1).1 (ft_rT 0 t.1 t.2 p.toNatClampNeg (sp_new q) q.2.1).2 (q.2.2 ++ [(lo, hi)])
/-- the least place whose LOW isn't below lo -/
def sp_ip (lo : Int32) : ft_E → Nat
  | [] => 0
  | e :: l => if e.1 < lo then 1 + sp_ip lo l else 0
def sp_insT (t : ft_T) (p : Nat) (x : ft_I) (c : ft_C) : ft_T × ft_C :=
  ft_jn (ft_ha t.1 t.2 p c).1.1 (ft_ha t.1 t.2 p c).1.2 [] (ft_fr x (ft_ha t.1 t.2 p c).2.1.1 (ft_ha t.1 t.2 p c).2.1.2 (ft_ha t.1 t.2 p c).2.2).1.1 (ft_fr x (ft_ha t.1 t.2 p c).2.1.1 (ft_ha t.1 t.2 p c).2.1.2 (ft_ha t.1 t.2 p c).2.2).1.2 (ft_fr x (ft_ha t.1 t.2 p c).2.1.1 (ft_ha t.1 t.2 p c).2.1.2 (ft_ha t.1 t.2 p c).2.2).2
def sp_insert (q : ft_Q) (v lo hi : Int32) : Int32 × ft_Q :=
  match sp_at q v with
  | none => (-1, q)
  | some t => if hi < lo then (-1, q) else if 120 ≤ q.1.length ∨ 40 ≤ ft_zT t.1 t.2 then (-2, q)
    else sp_keep q (sp_insT t (sp_ip lo (sp_es q t)) (sp_new q) q.2.1).1 (sp_insT t (sp_ip lo (sp_es q t)) (sp_new q) q.2.1).2 (q.2.2 ++ [(lo, hi)])
/-- the least place with the greatest HIGH: 'top i b j l': i is the best so far, with b; the list goes on at j -/
def sp_top (i : Nat) (b : Int32) (j : Nat) : ft_E → Nat
  | [] => i
  | e :: l => if b < e.2 then sp_top j e.2 (j + 1) l else sp_top i b (j + 1) l
def sp_tp (es : ft_E) : Nat := match es with
  | [] => 0
  | e :: l => sp_top 0 e.2 1 l
def sp_removeTop (q : ft_Q) (v : Int32) : Int32 × ft_Q :=
  match sp_at q v with
  | none => (-1, q)
  | some t => if ft_zT t.1 t.2 = 0 then (-1, q) else if 120 ≤ q.1.length then (-2, q)
    else sp_keep q (ft_jn (ft_cu t.1 t.2 (sp_tp (sp_es q t))).1.1 (ft_cu t.1 t.2 (sp_tp (sp_es q t))).1.2 [] (ft_cu t.1 t.2 (sp_tp (sp_es q t))).2.2.1 (ft_cu t.1 t.2 (sp_tp (sp_es q t))).2.2.2 q.2.1).1 (ft_jn (ft_cu t.1 t.2 (sp_tp (sp_es q t))).1.1 (ft_cu t.1 t.2 (sp_tp (sp_es q t))).1.2 [] (ft_cu t.1 t.2 (sp_tp (sp_es q t))).2.2.1 (ft_cu t.1 t.2 (sp_tp (sp_es q t))).2.2.2 q.2.1).2 q.2.2
def sp_length (q : ft_Q) (v : Int32) : Int32 := match sp_at q v with
  | none => -1
  | some t => nI (ft_zT t.1 t.2)
def sp_ent (q : ft_Q) (v p : Int32) : Option (Int32 × Int32) := match sp_at q v with
  | none => none
  | some t => if p < 0 then none else (sp_es q t)[p.toNatClampNeg]?
def sp_low (q : ft_Q) (v p : Int32) : Int32 := ((sp_ent q v p).getD (0, 0)).1
def sp_high (q : ft_Q) (v p : Int32) : Int32 := ((sp_ent q v p).getD (0, 0)).2
/-- the total of kind k over entries -/
def sp_tot (k : Int32) (es : ft_E) : Int64 :=
  if k = 0 then lN es.length
  else if k = 3 then es.foldl (fun s e => s + e.2.toInt64 - e.1.toInt64 + 1) 0
  else if k = 1 then es.foldl (fun s e => if s < e.1.toInt64 then e.1.toInt64 else s) (-2147483648)
  else es.foldl (fun s e => if s < e.2.toInt64 then e.2.toInt64 else s) (-2147483648)
def sp_kind (k : Int32) : Prop := 0 ≤ k ∧ k ≤ 3
def sp_measure (q : ft_Q) (v k : Int32) : Int64 := match sp_at q v with
  | none => 0
  | some t => if ft_zT t.1 t.2 = 0 ∨ k < 0 ∨ 3 < k then 0 else sp_tot k (sp_es q t)
def sp_past (k : Int32) (x limit : Int64) : Prop := limit < x ∨ (x = limit ∧ (k = 1 ∨ k = 2))
/-- the least place from j on at which the total of the places up to it is past the limit -/
def sp_find (P : Nat → Bool) : Nat → Nat → Nat
  | 0, j => j
  | n + 1, j => if P j then j else sp_find P n (j + 1)
def sp_search (q : ft_Q) (v k : Int32) (limit : Int64) : Int32 := match sp_at q v with
  | none => -1
  | some t => if k < 0 ∨ 3 < k then -1 else nI (sp_find (fun j => decide (limit < sp_tot k ((sp_es q t).take (j + 1))) || (decide (sp_tot k ((sp_es q t).take (j + 1)) = limit) && (decide (k = 1) || decide (k = 2)))) (ft_zT t.1 t.2) 0)
def sp_meet (es : ft_E) (since to : Int32) (j : Nat) : Bool := decide ((es.getD j (0, 0)).1 ≤ to) && decide (since ≤ (es.getD j (0, 0)).2)
def sp_meeting (q : ft_Q) (v fr since to : Int32) : Int32 := match sp_at q v with
  | none => -1
  | some t => if sp_find (sp_meet (sp_es q t) since to) (ft_zT t.1 t.2 - fr.toNatClampNeg) fr.toNatClampNeg < ft_zT t.1 t.2 then nI (sp_find (sp_meet (sp_es q t) since to) (ft_zT t.1 t.2 - fr.toNatClampNeg) fr.toNatClampNeg) else -1
def sp_spine (q : ft_Q) (v : Int32) : Int32 := match sp_at q v with
  | none => -1
  | some t => nI (2 * t.1.length + if t.2.isSome then 1 else 0)
def sp_digit (q : ft_Q) (v lev : Int32) (right : Bool) : Int32 := match sp_at q v with
  | none => -1
  | some t => if lev < 0 then 0 else match t.1[lev.toNatClampNeg]? with
    | none => 0
    | some d => nI (if right then d.2.length else d.1.length)
def sp_rank (q : ft_Q) (v p : Int32) : Int32 := match sp_at q v with
  | none => -1
  | some t => if p < 0 then -1 else match (ft_lT t.1 t.2)[p.toNatClampNeg]? with
    | none => -1
    | some l => nI l.2.length
/-- the numbers of a tree's nodes -/
def sp_ns (t : ft_T) : List Nat := (ft_lT t.1 t.2).flatMap (fun l => l.2)
def sp_shared (q : ft_Q) (v u : Int32) : Int32 :=
  match sp_at q v, sp_at q u with
  | some t, some t2 => nI ((List.range (q.2.1.1 + 1)).filter (fun d => decide (d ∈ sp_ns t) && decide (d ∈ sp_ns t2))).length
  | _, _ => -1
def sp_made (q : ft_Q) : Int32 := nI q.2.1.1
/-- what holds of the state between calls -/
def sp_ok (q : ft_Q) : Prop := 1 ≤ q.1.length ∧ q.1.length ≤ 120 ∧ (∀ t ∈ q.1, ft_okT q.2.2.length q.2.1.1 q.2.1.2 0 t.1 t.2 ∧ ft_zT t.1 t.2 ≤ 40) ∧ q.2.2.length + 1 ≤ q.1.length ∧ q.2.1.1 ≤ 35 * (q.1.length - 1)
end
section
/-! Bits: the family wb_ is out of the kit's BITS.to-paste; what follows it is for the words of the reference. -/
theorem wb_tb (n : Nat) : (lN n).toBitVec = BitVec.ofNat 64 n := rfl
theorem wb_inj {a b : Int64} (h : a.toBitVec = b.toBitVec) : a = b := Int64.toBitVec_inj.mp h
theorem wb_tn {n : Nat} (h : n < 2 ^ 64) : (lN n).toBitVec.toNat = n := by rw [wb_tb, BitVec.toNat_ofNat, Nat.mod_eq_of_lt h]
theorem wb_of (x : Int64) : ∃ n, n < 2 ^ 64 ∧ x = lN n := ⟨x.toBitVec.toNat, x.toBitVec.isLt, wb_inj (by rw [wb_tb]; simp)⟩
theorem wb_of32 (x : Int32) : ∃ n, n < 2 ^ 32 ∧ x = nI n := ⟨x.toBitVec.toNat, x.toBitVec.isLt, Int32.toBitVec_inj.mp (by show _ = BitVec.ofNat 32 _; simp)⟩
theorem wb_c : ∀ k, k < 64 → ((nI k).toInt64 &&& 63) = lN k := by decide +kernel
theorem wb_cu : ∀ k, k < 64 → ((nI k).toInt64.toUInt64 &&& Int64.toUInt64 63) = UInt64.ofNat k := by decide +kernel
theorem wb_sm : ∀ k, k < 64 → (BitVec.ofNat 64 k).smod 64 = BitVec.ofNat 64 k := by decide +kernel
theorem wb_pw {a b : Nat} (h : a ≤ b) : 2 ^ b = 2 ^ a * 2 ^ (b - a) := by rw [← Nat.pow_add]; congr 1; omega
theorem wb_lt2 {a b : Nat} (h : a < b) : 2 ^ a < 2 ^ b := Nat.pow_lt_pow_right (by decide) h
theorem wb_mod (n : Nat) : lN n = lN (n % 2 ^ 64) := wb_inj (by rw [wb_tb, wb_tb]; apply BitVec.eq_of_toNat_eq; rw [BitVec.toNat_ofNat, BitVec.toNat_ofNat, Nat.mod_mod])
theorem wb_shr {n k : Nat} (hn : n < 2 ^ 64) (hk : k < 64) : ((lN n).toUInt64 >>> ((nI k).toInt64.toUInt64 &&& Int64.toUInt64 63)).toInt64 = lN (n / 2 ^ k) := by
  rw [wb_cu k hk]
  apply wb_inj
  apply BitVec.eq_of_toNat_eq
  show ((lN n).toUInt64 >>> UInt64.ofNat k).toNat = (BitVec.ofNat 64 _).toNat
  have h1 : (UInt64.ofNat k).toNat = k := by
    show (BitVec.ofNat 64 k).toNat = k
    rw [BitVec.toNat_ofNat, Nat.mod_eq_of_lt (by omega)]
  have h2 : (lN n).toUInt64.toNat = n := wb_tn hn
  rw [UInt64.toNat_shiftRight, h1, h2, Nat.mod_eq_of_lt hk, Nat.shiftRight_eq_div_pow, BitVec.toNat_ofNat, Nat.mod_eq_of_lt (Nat.lt_of_le_of_lt (Nat.div_le_self _ _) hn)]
theorem wb_shl (n : Nat) {k : Nat} (hk : k < 64) : lN n <<< ((nI k).toInt64 &&& 63) = lN (n * 2 ^ k) := by
  rw [wb_c k hk]
  apply wb_inj
  rw [Int64.toBitVec_shiftLeft, wb_tb, wb_tb, wb_tb, wb_sm k hk]
  apply BitVec.eq_of_toNat_eq
  rw [BitVec.shiftLeft_eq', BitVec.toNat_shiftLeft, BitVec.toNat_ofNat, BitVec.toNat_ofNat, BitVec.toNat_ofNat, Nat.mod_eq_of_lt (show k < 2 ^ 64 by omega), Nat.shiftLeft_eq, Nat.mul_mod, Nat.mod_mod, ← Nat.mul_mod]
theorem wb_and {a b : Nat} (ha : a < 2 ^ 64) (hb : b < 2 ^ 64) : lN a &&& lN b = lN (a &&& b) := by
  apply wb_inj
  rw [Int64.toBitVec_and, wb_tb, wb_tb, wb_tb]
  apply BitVec.eq_of_toNat_eq
  rw [BitVec.toNat_and, BitVec.toNat_ofNat, BitVec.toNat_ofNat, BitVec.toNat_ofNat, Nat.mod_eq_of_lt ha, Nat.mod_eq_of_lt hb, Nat.mod_eq_of_lt (Nat.and_lt_two_pow _ hb)]
theorem wb_or {a b : Nat} (ha : a < 2 ^ 64) (hb : b < 2 ^ 64) : lN a ||| lN b = lN (a ||| b) := by
  apply wb_inj
  rw [Int64.toBitVec_or, wb_tb, wb_tb, wb_tb]
  apply BitVec.eq_of_toNat_eq
  rw [BitVec.toNat_or, BitVec.toNat_ofNat, BitVec.toNat_ofNat, BitVec.toNat_ofNat, Nat.mod_eq_of_lt ha, Nat.mod_eq_of_lt hb, Nat.mod_eq_of_lt (Nat.or_lt_two_pow ha hb)]
theorem wb_mask {n k : Nat} (hn : n < 2 ^ 64) (hk : k < 64) : lN n &&& lN (2 ^ k - 1) = lN (n % 2 ^ k) := by
  rw [wb_and hn (by have := wb_lt2 hk; omega), Nat.and_two_pow_sub_one_eq_mod]
theorem wb_a1 {n : Nat} (hn : n < 2 ^ 64) : lN n &&& 1 = lN (n % 2) := wb_mask (k := 1) hn (by decide)
theorem wb_bit {n k : Nat} (hn : n < 2 ^ 64) (hk : k < 64) : ((lN n).toUInt64 >>> ((nI k).toInt64.toUInt64 &&& Int64.toUInt64 63)).toInt64 &&& 1 = lN (n / 2 ^ k % 2) := by
  rw [wb_shr hn hk, wb_a1 (Nat.lt_of_le_of_lt (Nat.div_le_self _ _) hn)]
theorem bt_tn (n : Nat) : (nI n).toBitVec.toNat = n % 2 ^ 32 := by
  show (Int32.ofNat n).toBitVec.toNat = _
  rw [Int32.toBitVec_ofNat', BitVec.toNat_ofNat]
theorem bt_and (n : Nat) {k : Nat} (hk : k ≤ 31) : nI n &&& nI (2 ^ k - 1) = nI (n % 2 ^ k) := by
  have h2 : 2 ^ k ≤ 2 ^ 31 := Nat.pow_le_pow_right (by decide) hk
  rw [pk_and _ k (by rw [bt_tn, Nat.mod_eq_of_lt (by omega)]), bt_tn, Nat.mod_mod_of_dvd _ (Nat.pow_dvd_pow 2 (by omega : k ≤ 32))]
theorem bt_pow (k : Nat) : 8192 ^ k = 2 ^ (13 * k) := by rw [Nat.pow_mul]
theorem bt_pow2 (k : Nat) : 4096 * 8192 ^ k = 2 ^ (12 + 13 * k) := by rw [Nat.pow_add, bt_pow]
theorem bt_small : ∀ e, e < 128 → ∀ s, s < 4 → ∀ k, k < 4 → (e ||| s * 128) ||| k * 512 = e + 128 * s + 512 * k := by decide +kernel
theorem bt_keep : ∀ k, k < 4 → (2 ^ (12 + 13 * k) - 1 - 3968) % 2 ^ 12 = 127 ∧ (2 ^ (12 + 13 * k) - 1 - 3968) / 2 ^ 12 = 2 ^ (13 * k) - 1 := by decide +kernel
/-- what settle makes of a word -/
theorem bt_stl {k s v : Nat} (hk : k < 4) (hs : s < 4) : ((v &&& (2 ^ (12 + 13 * k) - 1 - 3968)) ||| (s * 128)) ||| (k * 512) = ft_stl k s v := by
  obtain ⟨k1, k2⟩ := bt_keep k hk
  have h1 : (((v &&& (2 ^ (12 + 13 * k) - 1 - 3968)) ||| (s * 128)) ||| (k * 512)) % 2 ^ 12 = v % 128 + 128 * s + 512 * k := by
    rw [Nat.or_mod_two_pow, Nat.or_mod_two_pow, Nat.and_mod_two_pow, k1, show (127 : Nat) = 2 ^ 7 - 1 from rfl, Nat.and_two_pow_sub_one_eq_mod, Nat.mod_eq_of_lt (show s * 128 < 2 ^ 12 by omega), Nat.mod_eq_of_lt (show k * 512 < 2 ^ 12 by omega), Nat.mod_mod_of_dvd _ (by decide : 2 ^ 7 ∣ 2 ^ 12)]
    exact bt_small (v % 2 ^ 7) (by omega) s hs k hk
  have h2 : (((v &&& (2 ^ (12 + 13 * k) - 1 - 3968)) ||| (s * 128)) ||| (k * 512)) / 2 ^ 12 = (v / 4096) % 8192 ^ k := by
    rw [Nat.or_div_two_pow, Nat.or_div_two_pow, Nat.and_div_two_pow, k2, Nat.and_two_pow_sub_one_eq_mod, Nat.div_eq_of_lt (show s * 128 < 2 ^ 12 by omega), Nat.div_eq_of_lt (show k * 512 < 2 ^ 12 by omega), Nat.or_zero, Nat.or_zero, bt_pow]
  have h3 := Nat.div_add_mod (((v &&& (2 ^ (12 + 13 * k) - 1 - 3968)) ||| (s * 128)) ||| (k * 512)) (2 ^ 12)
  rw [h1, h2] at h3
  unfold ft_stl
  omega
theorem ft_stl_lt {k s v : Nat} (hk : k < 4) (hs : s < 4) : ft_stl k s v < 2251799813685248 := by
  have h1 : (v / 4096) % 8192 ^ k < 8192 ^ k := Nat.mod_lt _ (Nat.pow_pos (by decide))
  have h2 : 8192 ^ k ≤ 8192 ^ 3 := Nat.pow_le_pow_right (by decide) (by omega)
  unfold ft_stl
  omega
/-- what wrap makes of a word -/
theorem bt_wrap (j m v : Nat) : (v &&& (2 ^ (12 + 13 * j) - 1)) ||| (m * 2 ^ (12 + 13 * j)) = v % (4096 * 8192 ^ j) + m * (4096 * 8192 ^ j) := by
  rw [Nat.and_two_pow_sub_one_eq_mod, bt_pow2, Nat.or_comm, Nat.mul_comm m, ← Nat.two_pow_add_eq_or_of_lt (Nat.mod_lt _ (Nat.two_pow_pos _)), Nat.add_comm]
theorem bt_mask : ∀ k, k < 4 → (lN (2 ^ (12 + 13 * k)) - lN 1) &&& (-3969) = lN (2 ^ (12 + 13 * k) - 1 - 3968) := by decide +kernel
/-- all words of the working array are small -/
def ft_bw (w : Nat → Nat) : Prop := ∀ j, w j < 2251799813685248
theorem ft_bw_sw {w : Nat → Nat} {a b k s : Nat} (h : ft_bw w) (hk : k < 4) (hs : s < 4) : ft_bw (ft_sw w a b k s) := fun j => by
  unfold ft_sw
  split
  · exact ft_stl_lt hk hs
  · exact h j
end
section
/-! The reference's cells: the object and its eight arrays; a 0 is the object, a 1 .. a 8 the arrays lows, highs, size, mark, place, count, w. Numbers stand as Nat. -/
abbrev mF (a : Nat → Nat) (en md vs n : Nat) : List Value := [.ref (a 1), .ref (a 2), .int (nI en), .ref (a 3), .ref (a 4), .int (nI md), .ref (a 5), .ref (a 6), .int (nI vs), .ref (a 7), .int (nI n)]
abbrev mW (a : Nat → Nat) (A : Nat → ClassId) (lo hi : Nat → Int32) (en : Nat) (zf mk : Nat → Nat) (md : Nat) (pl ct : Nat → Nat) (vs : Nat) (w : Nat → Nat) (n : Nat) : va_W :=
  [(a 0, .inr (7, mF a en md vs n)), (a 1, .inl (A 0, 120, .inl lo)), (a 2, .inl (A 0, 120, .inl hi)), (a 3, .inl (A 1, 4200, .inl (fun i => nI (zf i)))), (a 4, .inl (A 1, 4200, .inl (fun i => nI (mk i)))), (a 5, .inl (A 2, 4800, .inr (.inl (fun i => lN (pl i))))), (a 6, .inl (A 1, 120, .inl (fun i => nI (ct i)))), (a 7, .inl (A 2, 48, .inr (.inl (fun i => lN (w i)))))]
/-- the heap holds the reference in this state -/
def mH (D : va_G) (a : Nat → Nat) (A : Nat → ClassId) (lo hi : Nat → Int32) (en : Nat) (zf mk : Nat → Nat) (md : Nat) (pl ct : Nat → Nat) (vs : Nat) (w : Nat → Nat) (n : Nat) (H : Heap) : Prop := va_P D vwCl (mW a A lo hi en zf mk md pl ct vs w n) H
/-- its cells are eight different ones -/
def mDs (a : Nat → Nat) : Prop := ∀ i j, i < 8 → j < 8 → a i = a j → i = j
def mFr (a : Nat → Nat) : Nat → Prop := fun q => ∃ i, i < 8 ∧ q = a i
theorem mD {a : Nat → Nat} (h : mDs a) {A : Nat → ClassId} {lo hi : Nat → Int32} {en : Nat} {zf mk : Nat → Nat} {md : Nat} {pl ct : Nat → Nat} {vs : Nat} {w : Nat → Nat} {n : Nat} : va_D (mFr a) (mW a A lo hi en zf mk md pl ct vs w n) := by
  have hk : ∀ (k : Nat) (q : Nat × va_E), (mW a A lo hi en zf mk md pl ct vs w n)[k]? = some q → k < 8 ∧ q.1 = a k := by
    intro k q hq
    match k with
    | 0 | 1 | 2 | 3 | 4 | 5 | 6 | 7 => cases hq; exact ⟨by decide, rfl⟩
    | k + 8 => simp at hq
  refine ⟨fun i j p q hp hq e => ?_, fun k q hq => ?_⟩
  · obtain ⟨h1, e1⟩ := hk i p hp
    obtain ⟨h2, e2⟩ := hk j q hq
    exact h i j h1 h2 (by rw [← e1, ← e2, e])
  · obtain ⟨h1, e1⟩ := hk k q hq
    exact ⟨k, h1, e1⟩
theorem m_byte : ∀ x, x < 128 → vp_nar .byte (nI x) = nI x := by decide +kernel
theorem m_byte2 : ∀ x, x < 128 → (nI x).toInt8.toInt32 = nI x := by decide +kernel
section XM
variable {p : Program} {l : Launch} {e : Env} {R : Room} {s : State} {m : MethodId} {args : Array Value} {below : List Frame} {meth : Method} {c : Code} {H : Heap} {locs : List Loc} {cells slots : Nat} {Q : State → Prop}
variable {cc : ByteArray} {nL : Nat} {ret : Option FieldType} {D : va_G} {A : Nat → ClassId} {H0 : Heap} {pc : Nat} {ls : Array Slot} {rest : List Value}
variable {a : Nat → Nat} {lo hi : Nat → Int32} {en md vs n : Nat} {zf mk pl ct w : Nat → Nat}
theorem m_at (hP : mH D a A lo hi en zf mk md pl ct vs w n H) : va_at D vwCl (a 0, .inr (7, mF a en md vs n)) H := hP 0 _ rfl
/-- this.f -/
theorem m_get (X : xx p s m args meth c cc nL R_M ret D A H0) (hP : mH D a A lo hi en zf mk md pl ct vs w n H) (k : Nat) (hk : k < 11) {index : Nat} (hl : Cond.fieldLink R_M index R_M (F_M k).2.1 (F_M k).2.2.1 ∈ lw_tbl) {v : Value} (hv : (mF a en md vs n)[k]? = some v) (hdg : decode cc pc = .ok (.getfield index, 3))
    (kk : W p l e R s m args below meth c H locs cells slots Q (F0 m (pc + 3) ls (v :: rest))) : W p l e R s m args below meth c H locs cells slots Q (F0 m pc ls (.ref (a 0) :: rest)) :=
  va_get (D := D) (cl := vwCl) (ci := 7) (C := R_M) (T := F_M) (N := 11) (Ts := u_ws R_M F_M 11) X.1 X.2.1 (fun w hw => x_word X (uw_M w hw) (by
    have : ∀ w ∈ u_ws R_M F_M 11, x_us w = true := by decide +kernel
    exact this w hw)) (fun w h => h) X.2.2.2.1 X.2.2.2.2.2.2.1 hP 0 rfl rfl k hk (x_word X hl rfl) (fun x h => by
    have : (F_M k).1 = R_M := by
      have : ∀ k, k < 11 → (F_M k).1 = R_M := by decide +kernel
      exact this k hk
    rw [this] at h; exact h) hv hdg kk
theorem m_put (X : xx p s m args meth c cc nL R_M ret D A H0) (hP : mH D a A lo hi en zf mk md pl ct vs w n H) (hd : mDs a) (hS : va_S (mFr a) H0 H locs) (k : Nat) (hk : k < 11) {index : Nat} (hl : Cond.fieldLink R_M index R_M (F_M k).2.1 (F_M k).2.2.1 ∈ lw_tbl) (hfin : (F_M k).2.2.2 = false) (hi' : parseFieldDescriptor (F_M k).2.2.1 = some .int) {v : Int32} (hdg : decode cc pc = .ok (.putfield index, 3))
    (kk : ∀ (H1 : Heap) (locs1 : List Loc), va_P D vwCl ((mW a A lo hi en zf mk md pl ct vs w n).set 0 (a 0, .inr (7, (mF a en md vs n).set k (.int v)))) H1 → va_S (mFr a) H0 H1 locs1 → W p l e R s m args below meth c H1 locs1 cells slots Q (F0 m (pc + 3) ls rest)) : W p l e R s m args below meth c H locs cells slots Q (F0 m pc ls (.int v :: .ref (a 0) :: rest)) :=
  va_put (D := D) (cl := vwCl) (ci := 7) (C := R_M) (T := F_M) (N := 11) (Ts := u_ws R_M F_M 11) X.1 X.2.1 (fun w hw => x_word X (uw_M w hw) (by
    have : ∀ w ∈ u_ws R_M F_M 11, x_us w = true := by decide +kernel
    exact this w hw)) (fun w h => h) ty_M ty_M_ok f_M_ne X.2.2.2.1 X.2.2.2.2.2.2.1 hP (mD hd) hS 0 rfl rfl k hk (x_word X hl rfl) (fun x h => by
    have : (F_M k).1 = R_M := by
      have : ∀ k, k < 11 → (F_M k).1 = R_M := by decide +kernel
      exact this k hk
    rw [this] at h; exact h) hfin hi' rfl rfl hk hdg (fun H1 locs1 h1 _ h3 => kk H1 locs1 h1 h3)
theorem m_put_made (X : xx p s m args meth c cc nL R_M ret D A H0) (hP : mH D a A lo hi en zf mk md pl ct vs w n H) (hd : mDs a) (hS : va_S (mFr a) H0 H locs) {md' : Nat} (hdg : decode cc pc = .ok (.putfield 53, 3))
    (kk : ∀ (H1 : Heap) (locs1 : List Loc), mH D a A lo hi en zf mk md' pl ct vs w n H1 → va_S (mFr a) H0 H1 locs1 → W p l e R s m args below meth c H1 locs1 cells slots Q (F0 m (pc + 3) ls rest)) : W p l e R s m args below meth c H locs cells slots Q (F0 m pc ls (.int (nI md') :: .ref (a 0) :: rest)) :=
  m_put X hP hd hS 5 (by decide) e_M_53 rfl (by decide +kernel) hdg kk
theorem m_put_n (X : xx p s m args meth c cc nL R_M ret D A H0) (hP : mH D a A lo hi en zf mk md pl ct vs w n H) (hd : mDs a) (hS : va_S (mFr a) H0 H locs) {n' : Nat} (hdg : decode cc pc = .ok (.putfield 37, 3))
    (kk : ∀ (H1 : Heap) (locs1 : List Loc), mH D a A lo hi en zf mk md pl ct vs w n' H1 → va_S (mFr a) H0 H1 locs1 → W p l e R s m args below meth c H1 locs1 cells slots Q (F0 m (pc + 3) ls rest)) : W p l e R s m args below meth c H locs cells slots Q (F0 m pc ls (.int (nI n') :: .ref (a 0) :: rest)) :=
  m_put X hP hd hS 10 (by decide) e_M_37 rfl (by decide +kernel) hdg kk
theorem m_put_vs (X : xx p s m args meth c cc nL R_M ret D A H0) (hP : mH D a A lo hi en zf mk md pl ct vs w n H) (hd : mDs a) (hS : va_S (mFr a) H0 H locs) {vs' : Nat} (hdg : decode cc pc = .ok (.putfield 30, 3))
    (kk : ∀ (H1 : Heap) (locs1 : List Loc), mH D a A lo hi en zf mk md pl ct vs' w n H1 → va_S (mFr a) H0 H1 locs1 → W p l e R s m args below meth c H1 locs1 cells slots Q (F0 m (pc + 3) ls rest)) : W p l e R s m args below meth c H locs cells slots Q (F0 m pc ls (.int (nI vs') :: .ref (a 0) :: rest)) :=
  m_put X hP hd hS 8 (by decide) e_M_30 rfl (by decide +kernel) hdg kk
theorem m_put_en (X : xx p s m args meth c cc nL R_M ret D A H0) (hP : mH D a A lo hi en zf mk md pl ct vs w n H) (hd : mDs a) (hS : va_S (mFr a) H0 H locs) {en' : Nat} (hdg : decode cc pc = .ok (.putfield 104, 3))
    (kk : ∀ (H1 : Heap) (locs1 : List Loc), mH D a A lo hi en' zf mk md pl ct vs w n H1 → va_S (mFr a) H0 H1 locs1 → W p l e R s m args below meth c H1 locs1 cells slots Q (F0 m (pc + 3) ls rest)) : W p l e R s m args below meth c H locs cells slots Q (F0 m pc ls (.int (nI en') :: .ref (a 0) :: rest)) :=
  m_put X hP hd hS 2 (by decide) e_M_104 rfl (by decide +kernel) hdg kk
theorem m_ld_lo (X : xx p s m args meth c cc nL R_M ret D A H0) (hP : mH D a A lo hi en zf mk md pl ct vs w n H) {j : Nat} (hj : j < 120) (hdg : decode cc pc = .ok (.iaload, 1)) (kk : W p l e R s m args below meth c H locs cells slots Q (F0 m (pc + 1) ls (.int (lo j) :: rest))) : W p l e R s m args below meth c H locs cells slots Q (F0 m pc ls (.int (nI j) :: .ref (a 1) :: rest)) := by
  refine va_iald (cl := vwCl) X.1 X.2.1 X.2.2.2.2.2.2.1 hP 1 0 rfl rfl (vp_in_nI hj (by decide)) hdg ?_
  rw [nI_clamp (Nat.lt_trans hj (by decide))]
  exact kk
theorem m_st_lo (X : xx p s m args meth c cc nL R_M ret D A H0) (hP : mH D a A lo hi en zf mk md pl ct vs w n H) (hd : mDs a) (hS : va_S (mFr a) H0 H locs) {j : Nat} {x : Int32} (hj : j < 120) (hdg : decode cc pc = .ok (.iastore, 1)) (kk : ∀ (H1 : Heap) (locs1 : List Loc), mH D a A (upd lo j x) hi en zf mk md pl ct vs w n H1 → va_S (mFr a) H0 H1 locs1 → W p l e R s m args below meth c H1 locs1 cells slots Q (F0 m (pc + 1) ls rest)) : W p l e R s m args below meth c H locs cells slots Q (F0 m pc ls (.int x :: .int (nI j) :: .ref (a 1) :: rest)) := by
  refine va_iast (cl := vwCl) X.1 X.2.1 X.2.2.2.2.2.2.1 hP (mD hd) hS 1 0 rfl rfl (vp_in_nI hj (by decide)) hdg (fun H1 locs1 h1 _ h3 => kk H1 locs1 ?_ h3)
  rw [nI_clamp (Nat.lt_trans hj (by decide))] at h1
  exact h1
theorem m_ld_hi (X : xx p s m args meth c cc nL R_M ret D A H0) (hP : mH D a A lo hi en zf mk md pl ct vs w n H) {j : Nat} (hj : j < 120) (hdg : decode cc pc = .ok (.iaload, 1)) (kk : W p l e R s m args below meth c H locs cells slots Q (F0 m (pc + 1) ls (.int (hi j) :: rest))) : W p l e R s m args below meth c H locs cells slots Q (F0 m pc ls (.int (nI j) :: .ref (a 2) :: rest)) := by
  refine va_iald (cl := vwCl) X.1 X.2.1 X.2.2.2.2.2.2.1 hP 2 0 rfl rfl (vp_in_nI hj (by decide)) hdg ?_
  rw [nI_clamp (Nat.lt_trans hj (by decide))]
  exact kk
theorem m_st_hi (X : xx p s m args meth c cc nL R_M ret D A H0) (hP : mH D a A lo hi en zf mk md pl ct vs w n H) (hd : mDs a) (hS : va_S (mFr a) H0 H locs) {j : Nat} {x : Int32} (hj : j < 120) (hdg : decode cc pc = .ok (.iastore, 1)) (kk : ∀ (H1 : Heap) (locs1 : List Loc), mH D a A lo (upd hi j x) en zf mk md pl ct vs w n H1 → va_S (mFr a) H0 H1 locs1 → W p l e R s m args below meth c H1 locs1 cells slots Q (F0 m (pc + 1) ls rest)) : W p l e R s m args below meth c H locs cells slots Q (F0 m pc ls (.int x :: .int (nI j) :: .ref (a 2) :: rest)) := by
  refine va_iast (cl := vwCl) X.1 X.2.1 X.2.2.2.2.2.2.1 hP (mD hd) hS 2 0 rfl rfl (vp_in_nI hj (by decide)) hdg (fun H1 locs1 h1 _ h3 => kk H1 locs1 ?_ h3)
  rw [nI_clamp (Nat.lt_trans hj (by decide))] at h1
  exact h1
theorem m_ld_zf (X : xx p s m args meth c cc nL R_M ret D A H0) (hP : mH D a A lo hi en zf mk md pl ct vs w n H) {j : Nat} (hj : j < 4200) (hdg : decode cc pc = .ok (.baload, 1)) (kk : W p l e R s m args below meth c H locs cells slots Q (F0 m (pc + 1) ls (.int (nI (zf j)) :: rest))) : W p l e R s m args below meth c H locs cells slots Q (F0 m pc ls (.int (nI j) :: .ref (a 3) :: rest)) := by
  refine va_bald (cl := vwCl) X.1 X.2.1 X.2.2.2.2.2.2.1 hP 3 1 rfl rfl (vp_in_nI hj (by decide)) hdg ?_
  rw [nI_clamp (Nat.lt_trans hj (by decide))]
  exact kk
theorem m_st_zf (X : xx p s m args meth c cc nL R_M ret D A H0) (hP : mH D a A lo hi en zf mk md pl ct vs w n H) (hd : mDs a) (hS : va_S (mFr a) H0 H locs) {j x : Nat} (hj : j < 4200) (hx : x < 128) (hdg : decode cc pc = .ok (.bastore, 1)) (kk : ∀ (H1 : Heap) (locs1 : List Loc), mH D a A lo hi en (va_up zf j x) mk md pl ct vs w n H1 → va_S (mFr a) H0 H1 locs1 → W p l e R s m args below meth c H1 locs1 cells slots Q (F0 m (pc + 1) ls rest)) : W p l e R s m args below meth c H locs cells slots Q (F0 m pc ls (.int (nI x) :: .int (nI j) :: .ref (a 3) :: rest)) := by
  refine va_bast (cl := vwCl) X.1 X.2.1 X.2.2.2.2.2.2.1 hP (mD hd) hS 3 1 rfl rfl (vp_in_nI hj (by decide)) hdg (fun H1 locs1 h1 _ h3 => kk H1 locs1 ?_ h3)
  have hb : vp_nar .byte (nI x) = nI x := m_byte x hx
  rw [nI_clamp (Nat.lt_trans hj (by decide)), hb, show upd (fun i => nI (zf i)) j (nI x) = (fun i => nI (va_up zf j x i)) from funext fun i => by unfold upd va_up; split <;> rfl] at h1
  exact h1
theorem m_ld_mk (X : xx p s m args meth c cc nL R_M ret D A H0) (hP : mH D a A lo hi en zf mk md pl ct vs w n H) {j : Nat} (hj : j < 4200) (hdg : decode cc pc = .ok (.baload, 1)) (kk : W p l e R s m args below meth c H locs cells slots Q (F0 m (pc + 1) ls (.int (nI (mk j)) :: rest))) : W p l e R s m args below meth c H locs cells slots Q (F0 m pc ls (.int (nI j) :: .ref (a 4) :: rest)) := by
  refine va_bald (cl := vwCl) X.1 X.2.1 X.2.2.2.2.2.2.1 hP 4 1 rfl rfl (vp_in_nI hj (by decide)) hdg ?_
  rw [nI_clamp (Nat.lt_trans hj (by decide))]
  exact kk
theorem m_st_mk (X : xx p s m args meth c cc nL R_M ret D A H0) (hP : mH D a A lo hi en zf mk md pl ct vs w n H) (hd : mDs a) (hS : va_S (mFr a) H0 H locs) {j x : Nat} (hj : j < 4200) (hx : x < 128) (hdg : decode cc pc = .ok (.bastore, 1)) (kk : ∀ (H1 : Heap) (locs1 : List Loc), mH D a A lo hi en zf (va_up mk j x) md pl ct vs w n H1 → va_S (mFr a) H0 H1 locs1 → W p l e R s m args below meth c H1 locs1 cells slots Q (F0 m (pc + 1) ls rest)) : W p l e R s m args below meth c H locs cells slots Q (F0 m pc ls (.int (nI x) :: .int (nI j) :: .ref (a 4) :: rest)) := by
  refine va_bast (cl := vwCl) X.1 X.2.1 X.2.2.2.2.2.2.1 hP (mD hd) hS 4 1 rfl rfl (vp_in_nI hj (by decide)) hdg (fun H1 locs1 h1 _ h3 => kk H1 locs1 ?_ h3)
  have hb : vp_nar .byte (nI x) = nI x := m_byte x hx
  rw [nI_clamp (Nat.lt_trans hj (by decide)), hb, show upd (fun i => nI (mk i)) j (nI x) = (fun i => nI (va_up mk j x i)) from funext fun i => by unfold upd va_up; split <;> rfl] at h1
  exact h1
theorem m_ld_pl (X : xx p s m args meth c cc nL R_M ret D A H0) (hP : mH D a A lo hi en zf mk md pl ct vs w n H) {j : Nat} (hj : j < 4800) (hdg : decode cc pc = .ok (.laload, 1)) (kk : W p l e R s m args below meth c H locs cells slots Q (F0 m (pc + 1) ls (.long (lN (pl j)) :: rest))) : W p l e R s m args below meth c H locs cells slots Q (F0 m pc ls (.int (nI j) :: .ref (a 5) :: rest)) := by
  refine va_lald (cl := vwCl) X.1 X.2.1 X.2.2.2.2.2.2.1 hP 5 2 rfl rfl (vp_in_nI hj (by decide)) hdg ?_
  rw [nI_clamp (Nat.lt_trans hj (by decide))]
  exact kk
theorem m_st_pl (X : xx p s m args meth c cc nL R_M ret D A H0) (hP : mH D a A lo hi en zf mk md pl ct vs w n H) (hd : mDs a) (hS : va_S (mFr a) H0 H locs) {j x : Nat} (hj : j < 4800) (hdg : decode cc pc = .ok (.lastore, 1)) (kk : ∀ (H1 : Heap) (locs1 : List Loc), mH D a A lo hi en zf mk md (va_up pl j x) ct vs w n H1 → va_S (mFr a) H0 H1 locs1 → W p l e R s m args below meth c H1 locs1 cells slots Q (F0 m (pc + 1) ls rest)) : W p l e R s m args below meth c H locs cells slots Q (F0 m pc ls (.long (lN x) :: .int (nI j) :: .ref (a 5) :: rest)) := by
  refine va_last (cl := vwCl) X.1 X.2.1 X.2.2.2.2.2.2.1 hP (mD hd) hS 5 2 rfl rfl (vp_in_nI hj (by decide)) hdg (fun H1 locs1 h1 _ h3 => kk H1 locs1 ?_ h3)
  rw [nI_clamp (Nat.lt_trans hj (by decide)), show vp_updL (fun i => lN (pl i)) j (lN x) = (fun i => lN (va_up pl j x i)) from funext fun i => by unfold vp_updL va_up; split <;> rfl] at h1
  exact h1
theorem m_ld_ct (X : xx p s m args meth c cc nL R_M ret D A H0) (hP : mH D a A lo hi en zf mk md pl ct vs w n H) {j : Nat} (hj : j < 120) (hdg : decode cc pc = .ok (.baload, 1)) (kk : W p l e R s m args below meth c H locs cells slots Q (F0 m (pc + 1) ls (.int (nI (ct j)) :: rest))) : W p l e R s m args below meth c H locs cells slots Q (F0 m pc ls (.int (nI j) :: .ref (a 6) :: rest)) := by
  refine va_bald (cl := vwCl) X.1 X.2.1 X.2.2.2.2.2.2.1 hP 6 1 rfl rfl (vp_in_nI hj (by decide)) hdg ?_
  rw [nI_clamp (Nat.lt_trans hj (by decide))]
  exact kk
theorem m_st_ct (X : xx p s m args meth c cc nL R_M ret D A H0) (hP : mH D a A lo hi en zf mk md pl ct vs w n H) (hd : mDs a) (hS : va_S (mFr a) H0 H locs) {j x : Nat} (hj : j < 120) (hx : x < 128) (hdg : decode cc pc = .ok (.bastore, 1)) (kk : ∀ (H1 : Heap) (locs1 : List Loc), mH D a A lo hi en zf mk md pl (va_up ct j x) vs w n H1 → va_S (mFr a) H0 H1 locs1 → W p l e R s m args below meth c H1 locs1 cells slots Q (F0 m (pc + 1) ls rest)) : W p l e R s m args below meth c H locs cells slots Q (F0 m pc ls (.int (nI x) :: .int (nI j) :: .ref (a 6) :: rest)) := by
  refine va_bast (cl := vwCl) X.1 X.2.1 X.2.2.2.2.2.2.1 hP (mD hd) hS 6 1 rfl rfl (vp_in_nI hj (by decide)) hdg (fun H1 locs1 h1 _ h3 => kk H1 locs1 ?_ h3)
  have hb : vp_nar .byte (nI x) = nI x := m_byte x hx
  rw [nI_clamp (Nat.lt_trans hj (by decide)), hb, show upd (fun i => nI (ct i)) j (nI x) = (fun i => nI (va_up ct j x i)) from funext fun i => by unfold upd va_up; split <;> rfl] at h1
  exact h1
theorem m_ld_w (X : xx p s m args meth c cc nL R_M ret D A H0) (hP : mH D a A lo hi en zf mk md pl ct vs w n H) {j : Nat} (hj : j < 48) (hdg : decode cc pc = .ok (.laload, 1)) (kk : W p l e R s m args below meth c H locs cells slots Q (F0 m (pc + 1) ls (.long (lN (w j)) :: rest))) : W p l e R s m args below meth c H locs cells slots Q (F0 m pc ls (.int (nI j) :: .ref (a 7) :: rest)) := by
  refine va_lald (cl := vwCl) X.1 X.2.1 X.2.2.2.2.2.2.1 hP 7 2 rfl rfl (vp_in_nI hj (by decide)) hdg ?_
  rw [nI_clamp (Nat.lt_trans hj (by decide))]
  exact kk
theorem m_st_w (X : xx p s m args meth c cc nL R_M ret D A H0) (hP : mH D a A lo hi en zf mk md pl ct vs w n H) (hd : mDs a) (hS : va_S (mFr a) H0 H locs) {j x : Nat} (hj : j < 48) (hdg : decode cc pc = .ok (.lastore, 1)) (kk : ∀ (H1 : Heap) (locs1 : List Loc), mH D a A lo hi en zf mk md pl ct vs (va_up w j x) n H1 → va_S (mFr a) H0 H1 locs1 → W p l e R s m args below meth c H1 locs1 cells slots Q (F0 m (pc + 1) ls rest)) : W p l e R s m args below meth c H locs cells slots Q (F0 m pc ls (.long (lN x) :: .int (nI j) :: .ref (a 7) :: rest)) := by
  refine va_last (cl := vwCl) X.1 X.2.1 X.2.2.2.2.2.2.1 hP (mD hd) hS 7 2 rfl rfl (vp_in_nI hj (by decide)) hdg (fun H1 locs1 h1 _ h3 => kk H1 locs1 ?_ h3)
  rw [nI_clamp (Nat.lt_trans hj (by decide)), show vp_updL (fun i => lN (w i)) j (lN x) = (fun i => lN (va_up w j x i)) from funext fun i => by unfold vp_updL va_up; split <;> rfl] at h1
  exact h1
end XM
end
section
/-! Contracts of the reference: reads. -/
set_option maxRecDepth 100000 in
set_option maxHeartbeats 4000000 in
theorem C_M_level (l : Launch) (D : va_G) (A : Nat → ClassId) (H : Heap) (v : Nat) (hv : v < 2 ^ 63) : xC l y_M_level c_M_level 2 (some .int) 0 D A H [.long (lN v)] (fun _ => False) (q1 (.int (nI (v / 512 % 8))) (fun H1 => H1 = H)) 0 0 := by
  refine xC.of rfl (Nat.le_of_ble_eq_true rfl) ?_
  intro p_ e_ s_ m_ ar_ bl_ me_ c_ ls X hl
  have hl : lz ls 2 [some (.long (lN v)), none] := hl
  have hS : va_S (fun _ => False) H H [] := va_S.rf
  refine x_lload_n X d_M_level_0 rfl hl rfl ?_
  refine x_bipush (v := nI 9) X d_M_level_1 rfl ?_
  refine x_lushr X d_M_level_3 (wb_shr (by omega) (by omega)) ?_
  refine x_l2i X d_M_level_4 (lN_i _) ?_
  refine x_bipush (v := nI 7) X d_M_level_5 rfl ?_
  refine x_iand X d_M_level_7 ?_
  refine x_topi (bt_and (k := 3) _ (by decide)) ?_
  exact x_iret X hS (Nat.le_refl _) (Nat.le_refl _) d_M_level_8 ⟨rfl, rfl⟩
set_option maxRecDepth 100000 in
set_option maxHeartbeats 4000000 in
theorem C_M_side (l : Launch) (D : va_G) (A : Nat → ClassId) (H : Heap) (v : Nat) (hv : v < 2 ^ 63) : xC l y_M_side c_M_side 2 (some .int) 0 D A H [.long (lN v)] (fun _ => False) (q1 (.int (nI (v / 128 % 4))) (fun H1 => H1 = H)) 0 0 := by
  refine xC.of rfl (Nat.le_of_ble_eq_true rfl) ?_
  intro p_ e_ s_ m_ ar_ bl_ me_ c_ ls X hl
  have hl : lz ls 2 [some (.long (lN v)), none] := hl
  have hS : va_S (fun _ => False) H H [] := va_S.rf
  refine x_lload_n X d_M_side_0 rfl hl rfl ?_
  refine x_bipush (v := nI 7) X d_M_side_1 rfl ?_
  refine x_lushr X d_M_side_3 (wb_shr (by omega) (by omega)) ?_
  refine x_l2i X d_M_side_4 (lN_i _) ?_
  refine x_iconst (v := nI 3) X d_M_side_5 rfl ?_
  refine x_iand X d_M_side_6 ?_
  refine x_topi (bt_and (k := 2) _ (by decide)) ?_
  exact x_iret X hS (Nat.le_refl _) (Nat.le_refl _) d_M_side_7 ⟨rfl, rfl⟩
set_option maxRecDepth 100000 in
set_option maxHeartbeats 4000000 in
theorem C_M_entry (l : Launch) (D : va_G) (A : Nat → ClassId) (H : Heap) (v : Nat) : xC l y_M_entry c_M_entry 2 (some .int) 0 D A H [.long (lN v)] (fun _ => False) (q1 (.int (nI (v % 128))) (fun H1 => H1 = H)) 0 0 := by
  refine xC.of rfl (Nat.le_of_ble_eq_true rfl) ?_
  intro p_ e_ s_ m_ ar_ bl_ me_ c_ ls X hl
  have hl : lz ls 2 [some (.long (lN v)), none] := hl
  have hS : va_S (fun _ => False) H H [] := va_S.rf
  refine x_lload_n X d_M_entry_0 rfl hl rfl ?_
  refine x_l2i X d_M_entry_1 (lN_i _) ?_
  refine x_bipush (v := nI 127) X d_M_entry_2 rfl ?_
  refine x_iand X d_M_entry_4 ?_
  refine x_topi (bt_and (k := 7) _ (by decide)) ?_
  exact x_iret X hS (Nat.le_refl _) (Nat.le_refl _) d_M_entry_5 ⟨rfl, rfl⟩
set_option maxRecDepth 100000 in
set_option maxHeartbeats 4000000 in
theorem C_M_node (l : Launch) (D : va_G) (A : Nat → ClassId) (H : Heap) (v j : Nat) (hv : v < 2 ^ 63) (hj : j < 4) : xC l y_M_node c_M_node 3 (some .int) 0 D A H [.long (lN v), .int (nI (j + 1))] (fun _ => False) (q1 (.int (nI (v / (4096 * 8192 ^ j) % 8192))) (fun H1 => H1 = H)) 0 0 := by
  refine xC.of rfl (Nat.le_of_ble_eq_true rfl) ?_
  intro p_ e_ s_ m_ ar_ bl_ me_ c_ ls X hl
  have hl : lz ls 3 [some (.long (lN v)), none, some (.int (nI (j + 1)))] := hl
  have hS : va_S (fun _ => False) H H [] := va_S.rf
  refine x_lload_n X d_M_node_0 rfl hl rfl ?_
  refine x_bipush (v := nI 13) X d_M_node_1 rfl ?_
  refine x_iload_n X d_M_node_3 rfl hl rfl ?_
  refine n_imul X d_M_node_4 ?_
  refine x_iconst (v := nI 1) X d_M_node_5 rfl ?_
  refine n_isub X d_M_node_6 (by omega) ?_
  refine x_lushr X d_M_node_7 (wb_shr (by omega) (by omega)) ?_
  refine x_l2i X d_M_node_8 (lN_i _) ?_
  refine x_sipush (v := nI 8191) X d_M_node_9 rfl ?_
  refine x_iand X d_M_node_12 ?_
  refine x_topi (bt_and (k := 13) _ (by decide)) ?_
  refine x_topi (y := nI (v / (4096 * 8192 ^ j) % 8192)) (by rw [bt_pow2, show 13 * (j + 1) - 1 = 12 + 13 * j from by omega]) ?_
  exact x_iret X hS (Nat.le_refl _) (Nat.le_refl _) d_M_node_13 ⟨rfl, rfl⟩
def ft_is (n : Nat) (w : Nat → Nat) (j k s : Nat) : Nat := if j < n ∧ ft_le8 (w j) = k ∧ ft_sd (w j) = s then 1 else 0
def ft_isb (n : Nat) (w : Nat → Nat) (j k s : Nat) : Nat := if 1 ≤ j then ft_is n w (j - 1) k s else 0
set_option maxRecDepth 100000 in
set_option maxHeartbeats 4000000 in
theorem C_M_is (l : Launch) (D : va_G) (A : Nat → ClassId) (H : Heap) (a : Nat → Nat) (lo hi : Nat → Int32) (en md vs n : Nat) (zf mk pl ct w : Nat → Nat) (hP : mH D a A lo hi en zf mk md pl ct vs w n H) (hw : ft_bw w) (hn : n ≤ 48) (j k s : Nat) (hj : j < 2 ^ 31) (hk : k < 8) (hs : s < 4) : xC l y_M_is c_M_is 4 (some .boolean) 1 D A H [.ref (a 0), .int (nI j), .int (nI k), .int (nI s)] (fun _ => False) (q1 (.int (nI (ft_is n w j k s))) (fun H1 => H1 = H)) 0 0 := by
  refine xC.of rfl (Nat.le_of_ble_eq_true rfl) ?_
  intro p_ e_ s_ m_ ar_ bl_ me_ c_ ls X hl
  have hl : lz ls 4 [some (.ref (a 0)), some (.int (nI j)), some (.int (nI k)), some (.int (nI s))] := hl
  have hS : va_S (fun _ => False) H H [] := va_S.rf
  have hbw := hw j
  refine x_iload_n X d_M_is_0 rfl hl rfl ?_
  refine n_if_lt X 42 d_M_is_1 rfl (by omega) (fun hc => absurd hc (Nat.not_lt_zero _)) (fun hc => ?_)
  refine x_iload_n X d_M_is_4 rfl hl rfl ?_
  refine x_aload_n X d_M_is_5 rfl hl rfl ?_
  refine m_get X hP 10 (by decide) e_M_37 rfl d_M_is_6 ?_
  refine n_icmp_ge X 42 d_M_is_9 rfl (by omega) (by omega) (fun hc => ?_) (fun hc => ?_)
  · refine x_iconst (v := nI 0) X d_M_is_42 rfl ?_
    exact x_zret X hS (Nat.le_refl _) (Nat.le_refl _) d_M_is_43 rfl ⟨by unfold ft_is; rw [if_neg (by omega)], rfl⟩
  have hj : j < 48 := by omega
  refine x_aload_n X d_M_is_12 rfl hl rfl ?_
  refine m_get X hP 9 (by decide) e_M_34 rfl d_M_is_13 ?_
  refine x_iload_n X d_M_is_16 rfl hl rfl ?_
  refine m_ld_w X hP (by omega) d_M_is_17 ?_
  refine x_goR (x_runS X (C_M_level l D A H (w j) (by omega)) b_M_level s_M_level e_M_40 rfl hl rfl (Nat.le_of_ble_eq_true rfl) d_M_is_18 (Nat.le_of_ble_eq_true rfl) (Nat.le_of_ble_eq_true rfl) ⟨Nat.le_of_ble_eq_true rfl, Nat.le_of_ble_eq_true rfl⟩) hS (fun locs hS => ?_)
  refine x_iload_n X d_M_is_21 rfl hl rfl ?_
  refine n_icmp_ne X 42 d_M_is_22 rfl (by omega) (by omega) (fun hc => ?_) (fun hc => ?_)
  · refine x_iconst (v := nI 0) X d_M_is_42 rfl ?_
    exact x_zret X hS (Nat.le_refl _) (Nat.le_refl _) d_M_is_43 rfl ⟨by unfold ft_is; rw [if_neg (fun h => hc h.2.1)], rfl⟩
  refine x_aload_n X d_M_is_25 rfl hl rfl ?_
  refine m_get X hP 9 (by decide) e_M_34 rfl d_M_is_26 ?_
  refine x_iload_n X d_M_is_29 rfl hl rfl ?_
  refine m_ld_w X hP (by omega) d_M_is_30 ?_
  refine x_goR (x_runS X (C_M_side l D A H (w j) (by omega)) b_M_side s_M_side e_M_44 rfl hl rfl (Nat.le_of_ble_eq_true rfl) d_M_is_31 (Nat.le_of_ble_eq_true rfl) (Nat.le_of_ble_eq_true rfl) ⟨Nat.le_of_ble_eq_true rfl, Nat.le_of_ble_eq_true rfl⟩) hS (fun locs hS => ?_)
  refine x_iload_n X d_M_is_34 rfl hl rfl ?_
  refine n_icmp_ne X 42 d_M_is_35 rfl (by omega) (by omega) (fun hc2 => ?_) (fun hc2 => ?_)
  · refine x_iconst (v := nI 0) X d_M_is_42 rfl ?_
    exact x_zret X hS (Nat.le_refl _) (Nat.le_refl _) d_M_is_43 rfl ⟨by unfold ft_is; rw [if_neg (fun h => hc2 h.2.2)], rfl⟩
  refine x_iconst (v := nI 1) X d_M_is_38 rfl ?_
  refine x_goto X 43 d_M_is_39 rfl ?_
  exact x_zret X hS (Nat.le_refl _) (Nat.le_refl _) d_M_is_43 rfl ⟨by unfold ft_is; rw [if_pos ⟨by assumption, by assumption, by assumption⟩], rfl⟩
set_option maxRecDepth 100000 in
set_option maxHeartbeats 4000000 in
theorem C_M_is_neg (l : Launch) (D : va_G) (A : Nat → ClassId) (H : Heap) (a : Nat → Nat) (k s : Nat) : xC l y_M_is c_M_is 4 (some .boolean) 1 D A H [.ref (a 0), .int (-1), .int (nI k), .int (nI s)] (fun _ => False) (q1 (.int (nI 0)) (fun H1 => H1 = H)) 0 0 := by
  refine xC.of rfl (Nat.le_of_ble_eq_true rfl) ?_
  intro p_ e_ s_ m_ ar_ bl_ me_ c_ ls X hl
  have hl : lz ls 4 [some (.ref (a 0)), some (.int (-1)), some (.int (nI k)), some (.int (nI s))] := hl
  have hS : va_S (fun _ => False) H H [] := va_S.rf
  refine x_iload_n X d_M_is_0 rfl hl rfl ?_
  refine x_if_lt X 42 d_M_is_1 rfl (fun _ => ?_) (fun h => absurd (by decide) h)
  refine x_iconst (v := nI 0) X d_M_is_42 rfl ?_
  exact x_zret X hS (Nat.le_refl _) (Nat.le_refl _) d_M_is_43 rfl ⟨rfl, rfl⟩
theorem C_M_isb (l : Launch) (D : va_G) (A : Nat → ClassId) (H : Heap) (a : Nat → Nat) (lo hi : Nat → Int32) (en md vs n : Nat) (zf mk pl ct w : Nat → Nat) (hP : mH D a A lo hi en zf mk md pl ct vs w n H) (hw : ft_bw w) (hn : n ≤ 48) (j k s : Nat) (hj : j < 2 ^ 31) (hk : k < 8) (hs : s < 4) : xC l y_M_is c_M_is 4 (some .boolean) 1 D A H [.ref (a 0), .int (nI j - nI 1), .int (nI k), .int (nI s)] (fun _ => False) (q1 (.int (nI (ft_isb n w j k s))) (fun H1 => H1 = H)) 0 0 := by
  unfold ft_isb
  split
  · rename_i h
    rw [pk_sub h]
    exact C_M_is l D A H a lo hi en md vs n zf mk pl ct w hP hw hn (j - 1) k s (by omega) hk hs
  · rename_i h
    have : j = 0 := by omega
    subst this
    exact C_M_is_neg l D A H a k s
set_option maxRecDepth 100000 in
set_option maxHeartbeats 4000000 in
theorem C_M_end (l : Launch) (D : va_G) (A : Nat → ClassId) (H : Heap) (a : Nat → Nat) (lo hi : Nat → Int32) (en md vs n : Nat) (zf mk pl ct w : Nat → Nat) (hP : mH D a A lo hi en zf mk md pl ct vs w n H) (hw : ft_bw w) (hz : ∀ i, zf i < 128) (q k : Nat) (hq : q < 48) (hk : k ≤ 4) (hm : ∀ j, k = j + 1 → w q / (4096 * 8192 ^ j) % 8192 < 4200) : xC l y_M_end c_M_end 3 (some .int) 1 D A H [.ref (a 0), .int (nI q), .int (nI k)] (fun _ => False) (q1 (.int (nI (ft_end zf w q k))) (fun H1 => H1 = H)) 0 0 := by
  refine xC.of rfl (Nat.le_of_ble_eq_true rfl) ?_
  intro p_ e_ s_ m_ ar_ bl_ me_ c_ ls X hl
  have hl : lz ls 3 [some (.ref (a 0)), some (.int (nI q)), some (.int (nI k))] := hl
  have hS : va_S (fun _ => False) H H [] := va_S.rf
  have hbw := hw q
  refine x_iload_n X d_M_end_0 rfl hl rfl ?_
  refine n_if_ne X 10 d_M_end_1 rfl (by omega) (fun hc => ?_) (fun hc => ?_)
  · obtain ⟨j, rfl⟩ : ∃ j, k = j + 1 := ⟨k - 1, by omega⟩
    have hz := hz (w q / (4096 * 8192 ^ j) % 8192)
    have hm := hm j rfl
    refine x_iload_n X d_M_end_10 rfl hl rfl ?_
    refine x_aload_n X d_M_end_11 rfl hl rfl ?_
    refine m_get X hP 3 (by decide) e_M_16 rfl d_M_end_12 ?_
    refine x_aload_n X d_M_end_15 rfl hl rfl ?_
    refine m_get X hP 9 (by decide) e_M_34 rfl d_M_end_16 ?_
    refine x_iload_n X d_M_end_19 rfl hl rfl ?_
    refine m_ld_w X hP (by omega) d_M_end_20 ?_
    refine x_iload_n X d_M_end_21 rfl hl rfl ?_
    refine x_goR (x_runS X (C_M_node l D A H (w q) j (by omega) (by omega)) b_M_node s_M_node e_M_47 rfl hl rfl (Nat.le_of_ble_eq_true rfl) d_M_end_22 (Nat.le_of_ble_eq_true rfl) (Nat.le_of_ble_eq_true rfl) ⟨Nat.le_of_ble_eq_true rfl, Nat.le_of_ble_eq_true rfl⟩) hS (fun locs hS => ?_)
    refine m_ld_zf X hP (by omega) d_M_end_25 ?_
    refine n_iadd X d_M_end_26 ?_
    refine x_topi (y := nI (ft_end zf w q (j + 1))) (by unfold ft_end; rw [if_neg (by omega), Nat.add_sub_cancel]) ?_
    exact x_iret X hS (Nat.le_refl _) (Nat.le_refl _) d_M_end_27 ⟨rfl, rfl⟩
  · subst hc
    refine x_iload_n X d_M_end_4 rfl hl rfl ?_
    refine x_iconst (v := nI 1) X d_M_end_5 rfl ?_
    refine n_iadd X d_M_end_6 ?_
    refine x_goto X 27 d_M_end_7 rfl ?_
    exact x_iret X hS (Nat.le_refl _) (Nat.le_refl _) d_M_end_27 ⟨rfl, rfl⟩
set_option maxRecDepth 100000 in
set_option maxHeartbeats 4000000 in
theorem C_M_begin (l : Launch) (D : va_G) (A : Nat → ClassId) (H : Heap) (a : Nat → Nat) (lo hi : Nat → Int32) (en md vs n : Nat) (zf mk pl ct w : Nat → Nat) (hP : mH D a A lo hi en zf mk md pl ct vs w n H) (hw : ft_bw w) (q k : Nat) (h0 : 1 ≤ q) (hq : q ≤ 48) (hk : k ≤ 4) (hm : ∀ j, k = j + 1 → w (q - 1) / (4096 * 8192 ^ j) % 8192 < 4200 ∧ zf (w (q - 1) / (4096 * 8192 ^ j) % 8192) ≤ q) : xC l y_M_begin c_M_begin 3 (some .int) 1 D A H [.ref (a 0), .int (nI q), .int (nI k)] (fun _ => False) (q1 (.int (nI (ft_beg zf w q k))) (fun H1 => H1 = H)) 0 0 := by
  refine xC.of rfl (Nat.le_of_ble_eq_true rfl) ?_
  intro p_ e_ s_ m_ ar_ bl_ me_ c_ ls X hl
  have hl : lz ls 3 [some (.ref (a 0)), some (.int (nI q)), some (.int (nI k))] := hl
  have hS : va_S (fun _ => False) H H [] := va_S.rf
  have hbw := hw (q - 1)
  refine x_iload_n X d_M_begin_0 rfl hl rfl ?_
  refine n_if_ne X 10 d_M_begin_1 rfl (by omega) (fun hc => ?_) (fun hc => ?_)
  · obtain ⟨j, rfl⟩ : ∃ j, k = j + 1 := ⟨k - 1, by omega⟩
    obtain ⟨hm, hle⟩ := hm j rfl
    refine x_iload_n X d_M_begin_10 rfl hl rfl ?_
    refine x_aload_n X d_M_begin_11 rfl hl rfl ?_
    refine m_get X hP 3 (by decide) e_M_16 rfl d_M_begin_12 ?_
    refine x_aload_n X d_M_begin_15 rfl hl rfl ?_
    refine m_get X hP 9 (by decide) e_M_34 rfl d_M_begin_16 ?_
    refine x_iload_n X d_M_begin_19 rfl hl rfl ?_
    refine x_iconst (v := nI 1) X d_M_begin_20 rfl ?_
    refine n_isub X d_M_begin_21 (by omega) ?_
    refine m_ld_w X hP (by omega) d_M_begin_22 ?_
    refine x_iload_n X d_M_begin_23 rfl hl rfl ?_
    refine x_goR (x_runS X (C_M_node l D A H (w (q - 1)) j (by omega) (by omega)) b_M_node s_M_node e_M_47 rfl hl rfl (Nat.le_of_ble_eq_true rfl) d_M_begin_24 (Nat.le_of_ble_eq_true rfl) (Nat.le_of_ble_eq_true rfl) ⟨Nat.le_of_ble_eq_true rfl, Nat.le_of_ble_eq_true rfl⟩) hS (fun locs hS => ?_)
    refine m_ld_zf X hP (by omega) d_M_begin_27 ?_
    refine n_isub X d_M_begin_28 (by omega) ?_
    refine x_topi (y := nI (ft_beg zf w q (j + 1))) (by unfold ft_beg; rw [if_neg (by omega), Nat.add_sub_cancel]) ?_
    exact x_iret X hS (Nat.le_refl _) (Nat.le_refl _) d_M_begin_29 ⟨rfl, rfl⟩
  · subst hc
    refine x_iload_n X d_M_begin_4 rfl hl rfl ?_
    refine x_iconst (v := nI 1) X d_M_begin_5 rfl ?_
    refine n_isub X d_M_begin_6 (by omega) ?_
    refine x_goto X 29 d_M_begin_7 rfl ?_
    exact x_iret X hS (Nat.le_refl _) (Nat.le_refl _) d_M_begin_29 ⟨rfl, rfl⟩
end
section
/-! Contracts of the reference: settle, wrap, line. -/
theorem ft_sw_nil (w : Nat → Nat) (a k s : Nat) : ft_sw w a a k s = w := funext fun x => by
  unfold ft_sw
  rw [if_neg (by omega)]
theorem ft_sw_self (w : Nat → Nat) (a q k s : Nat) : ft_sw w a q k s q = w q := by
  unfold ft_sw
  rw [if_neg (by omega)]
theorem ft_sw_step {w : Nat → Nat} {a q k s : Nat} (h : a ≤ q) : va_up (ft_sw w a q k s) q (ft_stl k s (w q)) = ft_sw w a (q + 1) k s := funext fun x => by
  simp only [ft_sw, va_up]
  by_cases e : x = q
  · subst e; rw [if_pos rfl, if_pos ⟨h, by omega⟩]
  · rw [if_neg e]
    by_cases e2 : a ≤ x ∧ x < q
    · rw [if_pos e2, if_pos ⟨e2.1, by omega⟩]
    · rw [if_neg e2, if_neg (by omega)]
theorem ft_sw_end {w : Nat → Nat} {a q b k s : Nat} (h : q ≤ b ∨ q = a) (h2 : b ≤ q) : ft_sw w a q k s = ft_sw w a b k s := funext fun x => by
  unfold ft_sw
  by_cases e : a ≤ x ∧ x < q
  · rw [if_pos e, if_pos (by omega)]
  · rw [if_neg e, if_neg (by omega)]
theorem ft_ww_nil (w : Nat → Nat) (a k m : Nat) : ft_ww w a a k m = w := funext fun x => by
  unfold ft_ww
  rw [if_neg (by omega)]
theorem ft_ww_self (w : Nat → Nat) (a q k m : Nat) : ft_ww w a q k m q = w q := by
  unfold ft_ww
  rw [if_neg (by omega)]
theorem ft_ww_step {w : Nat → Nat} {a q k m : Nat} (h : a ≤ q) : va_up (ft_ww w a q k m) q (w q % (4096 * 8192 ^ k) + m * (4096 * 8192 ^ k)) = ft_ww w a (q + 1) k m := funext fun x => by
  simp only [ft_ww, va_up]
  by_cases e : x = q
  · subst e; rw [if_pos rfl, if_pos ⟨h, by omega⟩]
  · rw [if_neg e]
    by_cases e2 : a ≤ x ∧ x < q
    · rw [if_pos e2, if_pos ⟨e2.1, by omega⟩]
    · rw [if_neg e2, if_neg (by omega)]
theorem ft_ww_end {w : Nat → Nat} {a q b k m : Nat} (h : q ≤ b ∨ q = a) (h2 : b ≤ q) : ft_ww w a q k m = ft_ww w a b k m := funext fun x => by
  unfold ft_ww
  by_cases e : a ≤ x ∧ x < q
  · rw [if_pos e, if_pos (by omega)]
  · rw [if_neg e, if_neg (by omega)]
theorem bt_p51 : ∀ k, k < 4 → 2 ^ (12 + 13 * k) ≤ 2251799813685248 := by decide +kernel
theorem bt_p51' : ∀ k, k < 4 → 3968 < 2 ^ (12 + 13 * k) := by decide +kernel
set_option maxRecDepth 100000 in
set_option maxHeartbeats 4000000 in
theorem C_M_settle (l : Launch) (D : va_G) (A : Nat → ClassId) (H0 : Heap) (a : Nat → Nat) (lo hi : Nat → Int32) (en md vs n : Nat) (zf mk pl ct w : Nat → Nat) (hP : mH D a A lo hi en zf mk md pl ct vs w n H0) (hd : mDs a) (hw : ft_bw w) (f t k s : Nat) (hf : f < 2 ^ 31) (ht : t ≤ 48) (hk : k < 4) (hs : s < 4) : xC l y_M_settle c_M_settle 8 (none : Option FieldType) 0 D A H0 [.ref (a 0), .int (nI f), .int (nI t), .int (nI k), .int (nI s)] (mFr a) (q0 (fun H1 => mH D a A lo hi en zf mk md pl ct vs (ft_sw w f t k s) n H1)) 0 0 := by
  refine xC.of rfl (Nat.le_of_ble_eq_true rfl) ?_
  intro p_ e_ s_ m_ ar_ bl_ me_ c_ ls X hl
  have hl : lz ls 8 [some (.ref (a 0)), some (.int (nI f)), some (.int (nI t)), some (.int (nI k)), some (.int (nI s)), none, none, none] := hl
  have hS : va_S (mFr a) H0 H0 [] := va_S.rf
  have hp51 := bt_p51 k hk
  have hp51b := bt_p51' k hk
  refine x_lconst (v := lN 1) X d_M_settle_0 rfl ?_
  refine x_bipush (v := nI 12) X d_M_settle_1 rfl ?_
  refine x_bipush (v := nI 13) X d_M_settle_3 rfl ?_
  refine x_iload_n X d_M_settle_5 rfl hl rfl ?_
  refine n_imul X d_M_settle_6 ?_
  refine n_iadd X d_M_settle_7 ?_
  refine x_lshl X d_M_settle_8 (wb_shl 1 (by omega)) ?_
  refine x_lconst (v := lN 1) X d_M_settle_9 rfl ?_
  refine x_lsub X d_M_settle_10 ?_
  refine x_ldc2 X e_M_51 d_M_settle_11 ?_
  refine x_land X d_M_settle_14 ?_
  refine x_topl (y := lN (2 ^ (12 + 13 * k) - 1 - 3968)) (by rw [Nat.one_mul]; exact bt_mask k hk) ?_
  refine x_lstore X d_M_settle_15 hl (by decide) rfl (fun ls hl => ?_)
  refine x_iload_n X d_M_settle_17 rfl hl rfl ?_
  refine x_istore X d_M_settle_18 hl (by decide) rfl (fun ls hl => ?_)
  have loop : ∀ (g q : Nat) (H1 : Heap) (locs : List Loc) (ls : Array Slot), t - q = g → f ≤ q → q < 2 ^ 31 → (q ≤ t ∨ q = f) → lz ls 8 [some (.ref (a 0)), some (.int (nI f)), some (.int (nI t)), some (.int (nI k)), some (.int (nI s)), some (.long (lN (2 ^ (12 + 13 * k) - 1 - 3968))), none, some (.int (nI q))] → mH D a A lo hi en zf mk md pl ct vs (ft_sw w f q k s) n H1 → va_S (mFr a) H0 H1 locs → W p_ l e_ (x_rm 0 0 0) s_ m_ ar_ bl_ me_ c_ H1 locs 0 0 (MQ bl_ (xQ (mFr a) (q0 (fun H1 => mH D a A lo hi en zf mk md pl ct vs (ft_sw w f t k s) n H1))) ar_ s_ 0 0 (mFr a)) (F0 m_ 20 ls []) := by
    intro g
    induction g with
    | zero =>
      intro q H1 locs ls hg hfq hq31 hqt hl hP hS
      refine x_iload X d_M_settle_20 hl rfl ?_
      refine x_iload_n X d_M_settle_22 rfl hl rfl ?_
      refine n_icmp_ge X 62 d_M_settle_23 rfl (by omega) (by omega) (fun hc => ?_) (fun hc => absurd hc (by omega))
      rw [ft_sw_end hqt hc] at hP
      exact x_vret X hS (Nat.le_refl _) (Nat.le_refl _) d_M_settle_62 ⟨rfl, hP⟩
    | succ g ih =>
      intro q H1 locs ls hg hfq hq31 hqt hl hP hS
      have hwq := hw q
      refine x_iload X d_M_settle_20 hl rfl ?_
      refine x_iload_n X d_M_settle_22 rfl hl rfl ?_
      refine n_icmp_ge X 62 d_M_settle_23 rfl (by omega) (by omega) (fun hc => absurd hc (by omega)) (fun hc => ?_)
      refine x_aload_n X d_M_settle_26 rfl hl rfl ?_
      refine m_get X hP 9 (by decide) e_M_34 rfl d_M_settle_27 ?_
      refine x_iload X d_M_settle_30 hl rfl ?_
      refine x_aload_n X d_M_settle_32 rfl hl rfl ?_
      refine m_get X hP 9 (by decide) e_M_34 rfl d_M_settle_33 ?_
      refine x_iload X d_M_settle_36 hl rfl ?_
      refine m_ld_w X hP (by omega) d_M_settle_38 ?_
      refine x_lload X d_M_settle_39 hl rfl ?_
      rw [ft_sw_self]
      refine x_land X d_M_settle_41 ?_
      refine x_topl (wb_and (by omega) (by omega)) ?_
      refine x_iload X d_M_settle_42 hl rfl ?_
      refine x_i2l X d_M_settle_44 (nI_l (by omega)) ?_
      refine x_bipush (v := nI 7) X d_M_settle_45 rfl ?_
      refine x_lshl X d_M_settle_47 (wb_shl _ (by omega)) ?_
      refine x_lor X d_M_settle_48 ?_
      refine x_topl (wb_or (Nat.lt_of_le_of_lt Nat.and_le_left (by omega)) (by omega)) ?_
      refine x_iload_n X d_M_settle_49 rfl hl rfl ?_
      refine x_i2l X d_M_settle_50 (nI_l (by omega)) ?_
      refine x_bipush (v := nI 9) X d_M_settle_51 rfl ?_
      refine x_lshl X d_M_settle_53 (wb_shl _ (by omega)) ?_
      refine x_lor X d_M_settle_54 ?_
      refine x_topl (wb_or (Nat.or_lt_two_pow (Nat.lt_of_le_of_lt Nat.and_le_left (by omega)) (by omega)) (by omega)) ?_
      refine x_topl (y := lN (ft_stl k s (w q))) (by rw [← bt_stl hk hs]) ?_
      refine m_st_w X hP hd hS (by omega) d_M_settle_55 (fun H locs hP hS => ?_)
      rw [ft_sw_step hfq] at hP
      refine n_iinc (d := 1) X d_M_settle_56 rfl hl rfl (by decide) rfl (fun ls hl => ?_)
      refine x_goto X 20 d_M_settle_59 rfl ?_
      exact ih (q + 1) _ _ _ (by omega) (by omega) (by omega) (by omega) hl hP hS
  exact loop (t - f) f H0 [] _ rfl (Nat.le_refl _) hf (Or.inr rfl) hl (by rw [ft_sw_nil]; exact hP) hS
end
section
/-! Contracts of the reference: wrap; where an item ends and begins; line. -/
theorem bt_w51 {j m v : Nat} (hj : j < 3) (hm : m < 8192) : v % (4096 * 8192 ^ j) + m * (4096 * 8192 ^ j) < 2251799813685248 := by
  have h1 : v % (4096 * 8192 ^ j) < 4096 * 8192 ^ j := Nat.mod_lt _ (Nat.mul_pos (by decide) (Nat.pow_pos (by decide)))
  have h2 : m * (4096 * 8192 ^ j) ≤ 8191 * (4096 * 8192 ^ j) := Nat.mul_le_mul_right _ (by omega)
  have h3 : 8192 ^ j ≤ 8192 ^ 2 := Nat.pow_le_pow_right (by decide) (by omega)
  omega
theorem ft_bw_ww {w : Nat → Nat} {a b j m : Nat} (h : ft_bw w) (hj : j < 3) (hm : m < 8192) : ft_bw (ft_ww w a b j m) := fun q => by
  unfold ft_ww
  split
  · exact bt_w51 hj hm
  · exact h q
theorem bt_p38 : ∀ j, j < 3 → 2 ^ (13 * (j + 1) - 1) ≤ 274877906944 := by decide +kernel
set_option maxRecDepth 100000 in
set_option maxHeartbeats 4000000 in
theorem C_M_wrap (l : Launch) (D : va_G) (A : Nat → ClassId) (H0 : Heap) (a : Nat → Nat) (lo hi : Nat → Int32) (en md vs n : Nat) (zf mk pl ct w : Nat → Nat) (hP : mH D a A lo hi en zf mk md pl ct vs w n H0) (hd : mDs a) (hw : ft_bw w) (f t j : Nat) (hft : f ≤ t) (ht : t ≤ 48) (hj : j < 3) (hmd : md + 1 < 4200) : xC l y_M_wrap c_M_wrap 5 (none : Option FieldType) 1 D A H0 [.ref (a 0), .int (nI f), .int (nI t), .int (nI (j + 1))] (mFr a) (q0 (fun H1 => mH D a A lo hi en (va_up zf (md + 1) (t - f)) mk (md + 1) pl ct vs (ft_sw (ft_ww w f t j (md + 1)) f t (j + 1) 3) n H1)) 0 0 := by
  refine xC.of rfl (Nat.le_of_ble_eq_true rfl) ?_
  intro p_ e_ s_ m_ ar_ bl_ me_ c_ ls X hl
  have hl : lz ls 5 [some (.ref (a 0)), some (.int (nI f)), some (.int (nI t)), some (.int (nI (j + 1))), none] := hl
  have hS : va_S (mFr a) H0 H0 [] := va_S.rf
  have hp38 := bt_p38 j hj
  have hp0 : 0 < 2 ^ (13 * (j + 1) - 1) := Nat.two_pow_pos _
  have he : 13 * (j + 1) - 1 = 12 + 13 * j := by omega
  refine x_aload_n X d_M_wrap_0 rfl hl rfl ?_
  refine x_dup X d_M_wrap_1 rfl ?_
  refine m_get X hP 5 (by decide) e_M_53 rfl d_M_wrap_2 ?_
  refine x_iconst (v := nI 1) X d_M_wrap_5 rfl ?_
  refine n_iadd X d_M_wrap_6 ?_
  refine m_put_made X hP hd hS d_M_wrap_7 (fun H locs hP hS => ?_)
  refine x_aload_n X d_M_wrap_10 rfl hl rfl ?_
  refine m_get X hP 3 (by decide) e_M_16 rfl d_M_wrap_11 ?_
  refine x_aload_n X d_M_wrap_14 rfl hl rfl ?_
  refine m_get X hP 5 (by decide) e_M_53 rfl d_M_wrap_15 ?_
  refine x_iload_n X d_M_wrap_18 rfl hl rfl ?_
  refine x_iload_n X d_M_wrap_19 rfl hl rfl ?_
  refine n_isub X d_M_wrap_20 (by omega) ?_
  refine x_i2b X d_M_wrap_21 (m_byte2 _ (by omega)) ?_
  refine m_st_zf X hP hd hS (by omega) (by omega) d_M_wrap_22 (fun H locs hP hS => ?_)
  refine x_iload_n X d_M_wrap_23 rfl hl rfl ?_
  refine x_istore X d_M_wrap_24 hl (by decide) rfl (fun ls hl => ?_)
  have loop : ∀ (g q : Nat) (H1 : Heap) (locs : List Loc) (ls : Array Slot), t - q = g → f ≤ q → q ≤ t → lz ls 5 [some (.ref (a 0)), some (.int (nI f)), some (.int (nI t)), some (.int (nI (j + 1))), some (.int (nI q))] → mH D a A lo hi en (va_up zf (md + 1) (t - f)) mk (md + 1) pl ct vs (ft_ww w f q j (md + 1)) n H1 → va_S (mFr a) H0 H1 locs → W p_ l e_ (x_rm 1 0 0) s_ m_ ar_ bl_ me_ c_ H1 locs 0 0 (MQ bl_ (xQ (mFr a) (q0 (fun H1 => mH D a A lo hi en (va_up zf (md + 1) (t - f)) mk (md + 1) pl ct vs (ft_sw (ft_ww w f t j (md + 1)) f t (j + 1) 3) n H1))) ar_ s_ 0 0 (mFr a)) (F0 m_ 26 ls []) := by
    intro g
    induction g with
    | zero =>
      intro q H1 locs ls hg hfq hqt hl hP hS
      refine x_iload X d_M_wrap_26 hl rfl ?_
      refine x_iload_n X d_M_wrap_28 rfl hl rfl ?_
      refine n_icmp_ge X 76 d_M_wrap_29 rfl (by omega) (by omega) (fun hc => ?_) (fun hc => absurd hc (by omega))
      have hqe : q = t := by omega
      subst hqe
      refine x_aload_n X d_M_wrap_76 rfl hl rfl ?_
      refine x_iload_n X d_M_wrap_77 rfl hl rfl ?_
      refine x_iload_n X d_M_wrap_78 rfl hl rfl ?_
      refine x_iload_n X d_M_wrap_79 rfl hl rfl ?_
      refine x_iconst (v := nI 3) X d_M_wrap_80 rfl ?_
      refine x_go0 (x_runV X (C_M_settle l D A _ a lo hi en (md + 1) vs n (va_up zf (md + 1) (q - f)) mk pl ct (ft_ww w f q j (md + 1)) hP hd (ft_bw_ww hw hj (by omega)) f q (j + 1) 3 (by omega) (by omega) (by omega) (by omega)) b_M_settle s_M_settle v_M_settle e_M_56 (m_at hP) rfl rfl hl rfl (Nat.le_of_ble_eq_true rfl) d_M_wrap_81 (Nat.le_of_ble_eq_true rfl) (Nat.le_of_ble_eq_true rfl) ⟨Nat.le_of_ble_eq_true rfl, Nat.le_of_ble_eq_true rfl⟩) hS (fun _ h => h) (fun H locs hP hF hS => ?_)
      exact x_vret X hS (Nat.le_refl _) (Nat.le_refl _) d_M_wrap_84 ⟨rfl, hP⟩
    | succ g ih =>
      intro q H1 locs ls hg hfq hqt hl hP hS
      have hwq := hw q
      refine x_iload X d_M_wrap_26 hl rfl ?_
      refine x_iload_n X d_M_wrap_28 rfl hl rfl ?_
      refine n_icmp_ge X 76 d_M_wrap_29 rfl (by omega) (by omega) (fun hc => absurd hc (by omega)) (fun hc => ?_)
      refine x_aload_n X d_M_wrap_32 rfl hl rfl ?_
      refine m_get X hP 9 (by decide) e_M_34 rfl d_M_wrap_33 ?_
      refine x_iload X d_M_wrap_36 hl rfl ?_
      refine x_aload_n X d_M_wrap_38 rfl hl rfl ?_
      refine m_get X hP 9 (by decide) e_M_34 rfl d_M_wrap_39 ?_
      refine x_iload X d_M_wrap_42 hl rfl ?_
      refine m_ld_w X hP (by omega) d_M_wrap_44 ?_
      rw [ft_ww_self]
      refine x_lconst (v := lN 1) X d_M_wrap_45 rfl ?_
      refine x_bipush (v := nI 13) X d_M_wrap_46 rfl ?_
      refine x_iload_n X d_M_wrap_48 rfl hl rfl ?_
      refine n_imul X d_M_wrap_49 ?_
      refine x_iconst (v := nI 1) X d_M_wrap_50 rfl ?_
      refine n_isub X d_M_wrap_51 (by omega) ?_
      refine x_lshl X d_M_wrap_52 (wb_shl _ (by omega)) ?_
      refine x_lconst (v := lN 1) X d_M_wrap_53 rfl ?_
      refine x_lsub X d_M_wrap_54 ?_
      refine x_topl (y := lN (2 ^ (13 * (j + 1) - 1) - 1)) (by rw [Nat.one_mul]; exact lN_sub (by omega)) ?_
      refine x_land X d_M_wrap_55 ?_
      refine x_topl (wb_and (by omega) (by omega)) ?_
      refine x_aload_n X d_M_wrap_56 rfl hl rfl ?_
      refine m_get X hP 5 (by decide) e_M_53 rfl d_M_wrap_57 ?_
      refine x_i2l X d_M_wrap_60 (nI_l (by omega)) ?_
      refine x_bipush (v := nI 13) X d_M_wrap_61 rfl ?_
      refine x_iload_n X d_M_wrap_63 rfl hl rfl ?_
      refine n_imul X d_M_wrap_64 ?_
      refine x_iconst (v := nI 1) X d_M_wrap_65 rfl ?_
      refine n_isub X d_M_wrap_66 (by omega) ?_
      refine x_lshl X d_M_wrap_67 (wb_shl _ (by omega)) ?_
      refine x_lor X d_M_wrap_68 ?_
      refine x_topl (wb_or (Nat.lt_of_le_of_lt Nat.and_le_left (by omega)) (Nat.lt_of_le_of_lt (Nat.mul_le_mul_left _ hp38) (by omega))) ?_
      refine x_topl (y := lN (w q % (4096 * 8192 ^ j) + (md + 1) * (4096 * 8192 ^ j))) (by rw [he, bt_wrap]) ?_
      refine m_st_w X hP hd hS (by omega) d_M_wrap_69 (fun H locs hP hS => ?_)
      rw [ft_ww_step hfq] at hP
      refine n_iinc (d := 1) X d_M_wrap_70 rfl hl rfl (by decide) rfl (fun ls hl => ?_)
      refine x_goto X 26 d_M_wrap_73 rfl ?_
      exact ih (q + 1) _ _ _ (by omega) (by omega) (by omega) hl hP hS
  exact loop (t - f) f _ _ _ rfl (Nat.le_refl _) hft hl (by rw [ft_ww_nil]; exact hP) hS
theorem ft_nd_lt {ne mm : Nat} {zf w : Nat → Nat} {k s i sd : Nat} {x : ft_I} (h : ft_ok ne mm zf k x) (hw : ft_hd w s (ft_wI sd x)) (hne : ne ≤ 128) (hmm : mm < 4200) (hk : k ≤ 3) (hs : sd < 4) (hi : i < ft_z x) : ∀ j, k = j + 1 → w (s + i) / (4096 * 8192 ^ j) % 8192 < 4200 ∧ zf (w (s + i) / (4096 * 8192 ^ j) % 8192) = ft_z x := by
  intro j hj
  subst hj
  obtain ⟨q, hq, e⟩ := ft_hd_at (i := i) hw (by rw [ft_lv_len]; omega)
  have hf := ft_ok_fit h hne (by omega) hk q hq
  rw [e, ft_wd_node hf.1 hs, ft_ok_num h q hq]
  refine ⟨?_, rfl⟩
  have hl := (ft_ok_leaf h q hq)
  have hm : q.2.getD j 0 ∈ q.2 := by
    rw [List.getD_eq_getElem?_getD, List.getElem?_eq_getElem (by rw [hl.2.1]; omega)]
    exact List.getElem_mem _
  have := (hl.2.2 _ hm).2
  omega
theorem C_M_endI (l : Launch) (D : va_G) (A : Nat → ClassId) (H : Heap) (a : Nat → Nat) (lo hi : Nat → Int32) (en md vs n : Nat) (zf mk pl ct w : Nat → Nat) (hP : mH D a A lo hi en zf mk md pl ct vs w n H) (hw : ft_bw w) (hz : ∀ i, zf i < 128) (ne mm k s sd : Nat) (x : ft_I) (ok : ft_ok ne mm zf k x) (hx : ft_hd w s (ft_wI sd x)) (hne : ne ≤ 128) (hmm : mm < 4200) (hk : k ≤ 3) (hsd : sd < 4) (hs : s < 48) : xC l y_M_end c_M_end 3 (some .int) 1 D A H [.ref (a 0), .int (nI s), .int (nI k)] (fun _ => False) (q1 (.int (nI (s + ft_z x))) (fun H1 => H1 = H)) 0 0 := by
  have h := C_M_end l D A H a lo hi en md vs n zf mk pl ct w hP hw hz s k hs (by omega) (fun j hj => (ft_nd_lt (i := 0) ok hx hne hmm hk hsd (ft_ok_zpos ok) j hj).1)
  rw [ft_end_of ok hx hne (by omega) hk hsd] at h
  exact h
theorem C_M_begI (l : Launch) (D : va_G) (A : Nat → ClassId) (H : Heap) (a : Nat → Nat) (lo hi : Nat → Int32) (en md vs n : Nat) (zf mk pl ct w : Nat → Nat) (hP : mH D a A lo hi en zf mk md pl ct vs w n H) (hw : ft_bw w) (ne mm k s sd : Nat) (x : ft_I) (ok : ft_ok ne mm zf k x) (hx : ft_hd w s (ft_wI sd x)) (hne : ne ≤ 128) (hmm : mm < 4200) (hk : k ≤ 3) (hsd : sd < 4) (hs : s + ft_z x ≤ 48) : xC l y_M_begin c_M_begin 3 (some .int) 1 D A H [.ref (a 0), .int (nI (s + ft_z x)), .int (nI k)] (fun _ => False) (q1 (.int (nI s)) (fun H1 => H1 = H)) 0 0 := by
  have hp := ft_ok_zpos ok
  have h := C_M_begin l D A H a lo hi en md vs n zf mk pl ct w hP hw (s + ft_z x) k (by omega) hs (by omega) (fun j hj => by
    have := ft_nd_lt (i := ft_z x - 1) ok hx hne hmm hk hsd (by omega) j hj
    rw [show s + (ft_z x - 1) = s + ft_z x - 1 from by omega] at this
    exact ⟨this.1, by rw [this.2]; omega⟩)
  rw [ft_beg_of ok hx hne (by omega) hk hsd] at h
  exact h
end
section
/-! Contracts of the reference: line. -/
/-- outside of a stretch nothing has changed -/
def ft_eo (w w' : Nat → Nat) (f t : Nat) : Prop := ∀ q, q < f ∨ t ≤ q → w' q = w q
theorem ft_eo_rf (w : Nat → Nat) (f t : Nat) : ft_eo w w f t := fun _ _ => rfl
theorem ft_eo_tr {w w1 w2 : Nat → Nat} {f t : Nat} (h1 : ft_eo w w1 f t) (h2 : ft_eo w1 w2 f t) : ft_eo w w2 f t := fun q hq => (h2 q hq).trans (h1 q hq)
theorem ft_eo_wd {w w1 : Nat → Nat} {f t f' t' : Nat} (h : ft_eo w w1 f t) (hf : f' ≤ f) (ht : t ≤ t') : ft_eo w w1 f' t' := fun q hq => h q (by omega)
theorem ft_eo_sw (w : Nat → Nat) (f t k s : Nat) : ft_eo w (ft_sw w f t k s) f t := fun q hq => by unfold ft_sw; rw [if_neg (by omega)]
theorem ft_eo_ww (w : Nat → Nat) (f t j m : Nat) : ft_eo w (ft_ww w f t j m) f t := fun q hq => by unfold ft_ww; rw [if_neg (by omega)]
theorem ft_eo_hd {w w1 : Nat → Nat} {f t z : Nat} {L : List Nat} (h : ft_eo w w1 f t) (hh : ft_hd w z L) (hd : z + L.length ≤ f ∨ t ≤ z) : ft_hd w1 z L := ft_hd_congr hh (fun q h1 h2 => h q (by omega))
/-- the side that line gives the item number i of c -/
def ft_sf (c i : Nat) : Nat := if c = 1 then 2 else if i < (c + 1) / 2 then 0 else 1
def ft_wF (c : Nat) : Nat → List ft_I → List Nat
  | _, [] => []
  | i, x :: l => ft_wI (ft_sf c i) x ++ ft_wF c (i + 1) l
theorem ft_wF_len (c : Nat) (l : List ft_I) : ∀ i, (ft_wF c i l).length = ft_zR l := by
  induction l with
  | nil => intro i; rfl
  | cons x l ih => intro i; simp [ft_wF, ft_zR, ft_wI_len, ih]
theorem ft_wF_app (c : Nat) (x : ft_I) (l : List ft_I) : ∀ i, ft_wF c i (l ++ [x]) = ft_wF c i l ++ ft_wI (ft_sf c (i + l.length)) x := by
  induction l with
  | nil => intro i; simp [ft_wF]
  | cons y l ih => intro i; simp only [List.cons_append, ft_wF, ih, List.append_assoc, List.length_cons]; rw [show i + 1 + l.length = i + (l.length + 1) from by omega]
theorem ft_wF_two {c : Nat} (hc : c ≠ 1) (l : List ft_I) : ∀ i, ft_wF c i l = ft_wR 0 (l.take ((c + 1) / 2 - i)) ++ ft_wR 1 (l.drop ((c + 1) / 2 - i)) := by
  induction l with
  | nil => intro i; simp [ft_wF, ft_wR_nil]
  | cons x l ih =>
    intro i
    simp only [ft_wF, ih]
    unfold ft_sf
    rw [if_neg hc]
    split
    · rename_i h
      rw [show (c + 1) / 2 - i = ((c + 1) / 2 - (i + 1)) + 1 from by omega, List.take_succ_cons, List.drop_succ_cons, ft_wR_cons, List.append_assoc]
    · rename_i h
      rw [show (c + 1) / 2 - i = 0 from by omega, show (c + 1) / 2 - (i + 1) = 0 from by omega, List.take_zero, List.take_zero, List.drop_zero, List.drop_zero, ft_wR_cons, ft_wR_nil, List.nil_append, List.nil_append]
theorem ft_wF_ln (l : List ft_I) : ft_wF l.length 0 l = ft_wT (ft_ln l).1 (ft_ln l).2 := by
  match l with
  | [] => rfl
  | [x] => simp [ft_wF, ft_sf, ft_ln, ft_wT]
  | x :: y :: l =>
    rw [ft_wF_two (by simp)]
    simp only [ft_ln, ft_wT, List.length_cons, List.append_nil]
    rw [show (l.length + 1 + 1 + 1) / 2 - 0 = (l.length + 3) / 2 from by omega]
theorem ft_sf_lt (c i : Nat) : ft_sf c i < 4 := by unfold ft_sf; split; decide; split <;> decide
set_option maxRecDepth 100000 in
set_option maxHeartbeats 4000000 in
theorem C_M_line (l : Launch) (D : va_G) (A : Nat → ClassId) (H0 : Heap) (a : Nat → Nat) (lo hi : Nat → Int32) (en md vs n : Nat) (zf mk pl ct w : Nat → Nat) (hP : mH D a A lo hi en zf mk md pl ct vs w n H0) (hd : mDs a) (hw : ft_bw w) (hz : ∀ i, zf i < 128) (he : en ≤ 128) (hm : md < 4200) (k f sd : Nat) (row : List ft_I) (ok : ft_okR en md zf k row) (hr : ft_hd w f (ft_wR sd row)) (hk : k ≤ 3) (hsd : sd < 4) (ht : f + ft_zR row ≤ 48) (hl8 : row.length ≤ 8) : xC l y_M_line c_M_line 8 (none : Option FieldType) 2 D A H0 [.ref (a 0), .int (nI f), .int (nI (f + ft_zR row)), .int (nI k)] (mFr a) (q0 (fun H1 => ∃ w', mH D a A lo hi en zf mk md pl ct vs w' n H1 ∧ ft_bw w' ∧ ft_hd w' f (ft_wT (ft_ln row).1 (ft_ln row).2) ∧ ft_eo w w' f (f + ft_zR row))) 0 0 := by
  refine xC.of rfl (Nat.le_of_ble_eq_true rfl) ?_
  intro p_ e_ s_ m_ ar_ bl_ me_ c_ ls X hl
  have hl : lz ls 8 [some (.ref (a 0)), some (.int (nI f)), some (.int (nI (f + ft_zR row))), some (.int (nI k)), none, none, none, none] := hl
  have hS : va_S (mFr a) H0 H0 [] := va_S.rf
  refine x_iconst (v := nI 0) X d_M_line_0 rfl ?_
  refine x_istore X d_M_line_1 hl (by decide) rfl (fun ls hl => ?_)
  refine x_iload_n X d_M_line_3 rfl hl rfl ?_
  refine x_istore X d_M_line_4 hl (by decide) rfl (fun ls hl => ?_)
  have loop2 : ∀ (rest pre : List ft_I) (w1 : Nat → Nat) (v7 : Option Value) (H1 : Heap) (locs : List Loc) (ls : Array Slot), lz_c [none, none, none, none, none, none, none, v7] 7 = true → pre ++ rest = row → lz ls 8 [some (.ref (a 0)), some (.int (nI f)), some (.int (nI (f + ft_zR row))), some (.int (nI k)), some (.int (nI row.length)), some (.int (nI pre.length)), some (.int (nI (f + ft_zR pre))), v7] → mH D a A lo hi en zf mk md pl ct vs w1 n H1 → ft_bw w1 → ft_hd w1 f (ft_wF row.length 0 pre) → ft_hd w1 (f + ft_zR pre) (ft_wR sd rest) → ft_eo w w1 f (f + ft_zR row) → va_S (mFr a) H0 H1 locs → W p_ l e_ (x_rm 2 0 0) s_ m_ ar_ bl_ me_ c_ H1 locs 0 0 (MQ bl_ (xQ (mFr a) (q0 (fun H1 => ∃ w', mH D a A lo hi en zf mk md pl ct vs w' n H1 ∧ ft_bw w' ∧ ft_hd w' f (ft_wT (ft_ln row).1 (ft_ln row).2) ∧ ft_eo w w' f (f + ft_zR row)))) ar_ s_ 0 0 (mFr a)) (F0 m_ 33 ls []) := by
    intro rest
    induction rest with
    | nil =>
      intro pre w1 v7 H1 locs ls hv7 hpr hl hP hw1 hh1 hh2 heo hS
      rw [List.append_nil] at hpr
      subst hpr
      refine x_iload X d_M_line_33 hl rfl ?_
      refine x_iload_n X d_M_line_35 rfl hl rfl ?_
      refine n_icmp_ge X 93 d_M_line_36 rfl (by omega) (by omega) (fun hc => ?_) (fun hc => absurd hc (by omega))
      rw [ft_wF_ln] at hh1
      exact x_vret X hS (Nat.le_refl _) (Nat.le_refl _) d_M_line_93 ⟨rfl, w1, hP, hw1, hh1, heo⟩
    | cons x rest ih =>
      intro pre w1 v7 H1 locs ls hv7 hpr hl hP hw1 hh1 hh2 heo hS
      have hzr : ft_zR row = ft_zR pre + (ft_z x + ft_zR rest) := by rw [← hpr, ft_zR_app]; rfl
      have hlr : row.length = pre.length + (rest.length + 1) := by rw [← hpr]; simp
      have okx : ft_ok en md zf k x := ok x (by rw [← hpr]; simp)
      have hzx := ft_ok_zpos okx
      rw [ft_wR_cons] at hh2
      obtain ⟨hx, hrest⟩ := ft_hd_app.1 hh2
      rw [ft_wI_len] at hrest
      refine x_iload X d_M_line_33 hl rfl ?_
      refine x_iload_n X d_M_line_35 rfl hl rfl ?_
      refine n_icmp_ge X 93 d_M_line_36 rfl (by omega) (by omega) (fun hc => absurd hc (by omega)) (fun hc => ?_)
      refine x_aload_n X d_M_line_39 rfl hl rfl ?_
      refine x_iload X d_M_line_40 hl rfl ?_
      refine x_iload_n X d_M_line_42 rfl hl rfl ?_
      refine x_goR (x_runV X (C_M_endI l D A _ a lo hi en md vs n zf mk pl ct w1 hP hw1 hz en md k _ sd x okx hx he hm hk hsd (by omega)) b_M_end s_M_end v_M_end e_M_60 (m_at hP) rfl rfl hl rfl (Nat.le_of_ble_eq_true rfl) d_M_line_43 (Nat.le_of_ble_eq_true rfl) (Nat.le_of_ble_eq_true rfl) ⟨Nat.le_of_ble_eq_true rfl, Nat.le_of_ble_eq_true rfl⟩) hS (fun locs hS => ?_)
      refine x_istore X d_M_line_46 hl (by decide) rfl (fun ls hl => ?_)
      refine x_aload_n X d_M_line_48 rfl hl rfl ?_
      refine x_iload X d_M_line_49 hl rfl ?_
      refine x_iload X d_M_line_51 hl rfl ?_
      refine x_iload_n X d_M_line_53 rfl hl rfl ?_
      refine x_iload X d_M_line_54 hl rfl ?_
      refine x_iconst (v := nI 1) X d_M_line_56 rfl ?_
      have fin : ∀ (locs : List Loc), va_S (mFr a) H0 H1 locs → W p_ l e_ (x_rm 2 0 0) s_ m_ ar_ bl_ me_ c_ H1 locs 0 0 (MQ bl_ (xQ (mFr a) (q0 (fun H1 => ∃ w', mH D a A lo hi en zf mk md pl ct vs w' n H1 ∧ ft_bw w' ∧ ft_hd w' f (ft_wT (ft_ln row).1 (ft_ln row).2) ∧ ft_eo w w' f (f + ft_zR row)))) ar_ s_ 0 0 (mFr a)) (F0 m_ 80 ls [.int (nI (ft_sf row.length pre.length)), .int (nI k), .int (nI (f + ft_zR pre + ft_z x)), .int (nI (f + ft_zR pre)), .ref (a 0)]) := by
        intro locs hS
        refine x_go0 (x_runV X (C_M_settle l D A _ a lo hi en md vs n zf mk pl ct w1 hP hd hw1 (f + ft_zR pre) (f + ft_zR pre + ft_z x) k (ft_sf row.length pre.length) (by omega) (by omega) (by omega) (ft_sf_lt _ _)) b_M_settle s_M_settle v_M_settle e_M_56 (m_at hP) rfl rfl hl rfl (Nat.le_of_ble_eq_true rfl) d_M_line_80 (Nat.le_of_ble_eq_true rfl) (Nat.le_of_ble_eq_true rfl) ⟨Nat.le_of_ble_eq_true rfl, Nat.le_of_ble_eq_true rfl⟩) hS (fun _ h => h) (fun H locs hP hF hS => ?_)
        refine n_iinc (d := 1) X d_M_line_83 rfl hl rfl (by decide) rfl (fun ls hl => ?_)
        refine x_iload X d_M_line_86 hl rfl ?_
        refine x_istore X d_M_line_88 hl (by decide) rfl (fun ls hl => ?_)
        refine x_goto X 33 d_M_line_90 rfl ?_
        refine ih (pre ++ [x]) _ (some (.int (nI (f + ft_zR pre + ft_z x)))) _ _ _ rfl (by rw [← hpr]; simp) ?_ hP (ft_bw_sw hw1 (by omega) (ft_sf_lt _ _)) ?_ ?_ (ft_eo_tr heo (ft_eo_wd (ft_eo_sw _ _ _ _ _) (by omega) (by omega))) hS
        · rw [List.length_append, ft_zR_app, show ft_zR [x] = ft_z x from by simp [ft_zR], ← Nat.add_assoc]
          exact hl
        · rw [ft_wF_app, ft_hd_app, ft_wF_len, Nat.zero_add]
          exact ⟨ft_sw_out hh1 (Or.inl (by rw [ft_wF_len]; exact Nat.le_refl _)), ft_sw_I okx hx he (by omega) hk hsd (Nat.le_refl _) (Nat.le_refl _)⟩
        · rw [ft_zR_app, show ft_zR [x] = ft_z x from by simp [ft_zR], ← Nat.add_assoc]
          exact ft_sw_out hrest (Or.inr (Nat.le_refl _))
      refine n_icmp_ne X 64 d_M_line_57 rfl (by omega) (by omega) (fun hc => ?_) (fun hc => ?_)
      · have e : ft_sf row.length pre.length = if pre.length < (row.length + 1) / 2 then 0 else 1 := by unfold ft_sf; rw [if_neg hc]
        refine x_iload X d_M_line_64 hl rfl ?_
        refine x_iload X d_M_line_66 hl rfl ?_
        refine x_iconst (v := nI 1) X d_M_line_68 rfl ?_
        refine n_iadd X d_M_line_69 ?_
        refine x_iconst (v := nI 2) X d_M_line_70 rfl ?_
        refine n_idiv X d_M_line_71 (by omega) (by omega) (by omega) ?_
        refine n_icmp_ge X 79 d_M_line_72 rfl (by omega) (by omega) (fun hc2 => ?_) (fun hc2 => ?_)
        · rw [if_neg (by omega)] at e
          refine x_iconst (v := nI 1) X d_M_line_79 rfl ?_
          refine x_topi (y := nI (ft_sf row.length pre.length)) (by rw [e]) ?_
          exact fin _ hS
        · rw [if_pos (by omega)] at e
          refine x_iconst (v := nI 0) X d_M_line_75 rfl ?_
          refine x_goto X 80 d_M_line_76 rfl ?_
          refine x_topi (y := nI (ft_sf row.length pre.length)) (by rw [e]) ?_
          exact fin _ hS
      · have e : ft_sf row.length pre.length = 2 := by unfold ft_sf; rw [if_pos hc]
        refine x_iconst (v := nI 2) X d_M_line_60 rfl ?_
        refine x_goto X 80 d_M_line_61 rfl ?_
        refine x_topi (y := nI (ft_sf row.length pre.length)) (by rw [e]) ?_
        exact fin _ hS
  have loop1 : ∀ (rest pre : List ft_I) (locs : List Loc) (ls : Array Slot), pre ++ rest = row → lz ls 8 [some (.ref (a 0)), some (.int (nI f)), some (.int (nI (f + ft_zR row))), some (.int (nI k)), some (.int (nI pre.length)), some (.int (nI (f + ft_zR pre))), none, none] → ft_hd w (f + ft_zR pre) (ft_wR sd rest) → va_S (mFr a) H0 H0 locs → W p_ l e_ (x_rm 2 0 0) s_ m_ ar_ bl_ me_ c_ H0 locs 0 0 (MQ bl_ (xQ (mFr a) (q0 (fun H1 => ∃ w', mH D a A lo hi en zf mk md pl ct vs w' n H1 ∧ ft_bw w' ∧ ft_hd w' f (ft_wT (ft_ln row).1 (ft_ln row).2) ∧ ft_eo w w' f (f + ft_zR row)))) ar_ s_ 0 0 (mFr a)) (F0 m_ 6 ls []) := by
    intro rest
    induction rest with
    | nil =>
      intro pre locs ls hpr hl hh2 hS
      rw [List.append_nil] at hpr
      subst hpr
      refine x_iload X d_M_line_6 hl rfl ?_
      refine x_iload_n X d_M_line_8 rfl hl rfl ?_
      refine n_icmp_ge X 27 d_M_line_9 rfl (by omega) (by omega) (fun hc => ?_) (fun hc => absurd hc (by omega))
      refine x_iconst (v := nI 0) X d_M_line_27 rfl ?_
      refine x_istore X d_M_line_28 hl (by decide) rfl (fun ls hl => ?_)
      refine x_iload_n X d_M_line_30 rfl hl rfl ?_
      refine x_istore X d_M_line_31 hl (by decide) rfl (fun ls hl => ?_)
      exact loop2 pre [] w none H0 _ _ rfl rfl hl hP hw (ft_hd_nil _ _) hr (ft_eo_rf _ _ _) hS
    | cons x rest ih =>
      intro pre locs ls hpr hl hh2 hS
      have hzr : ft_zR row = ft_zR pre + (ft_z x + ft_zR rest) := by rw [← hpr, ft_zR_app]; rfl
      have hlr : row.length = pre.length + (rest.length + 1) := by rw [← hpr]; simp
      have okx : ft_ok en md zf k x := ok x (by rw [← hpr]; simp)
      have hzx := ft_ok_zpos okx
      rw [ft_wR_cons] at hh2
      obtain ⟨hx, hrest⟩ := ft_hd_app.1 hh2
      rw [ft_wI_len] at hrest
      refine x_iload X d_M_line_6 hl rfl ?_
      refine x_iload_n X d_M_line_8 rfl hl rfl ?_
      refine n_icmp_ge X 27 d_M_line_9 rfl (by omega) (by omega) (fun hc => absurd hc (by omega)) (fun hc => ?_)
      refine n_iinc (d := 1) X d_M_line_12 rfl hl rfl (by decide) rfl (fun ls hl => ?_)
      refine x_aload_n X d_M_line_15 rfl hl rfl ?_
      refine x_iload X d_M_line_16 hl rfl ?_
      refine x_iload_n X d_M_line_18 rfl hl rfl ?_
      refine x_goR (x_runV X (C_M_endI l D A _ a lo hi en md vs n zf mk pl ct w hP hw hz en md k _ sd x okx hx he hm hk hsd (by omega)) b_M_end s_M_end v_M_end e_M_60 (m_at hP) rfl rfl hl rfl (Nat.le_of_ble_eq_true rfl) d_M_line_19 (Nat.le_of_ble_eq_true rfl) (Nat.le_of_ble_eq_true rfl) ⟨Nat.le_of_ble_eq_true rfl, Nat.le_of_ble_eq_true rfl⟩) hS (fun locs hS => ?_)
      refine x_istore X d_M_line_22 hl (by decide) rfl (fun ls hl => ?_)
      refine x_goto X 6 d_M_line_24 rfl ?_
      refine ih (pre ++ [x]) _ _ (by rw [← hpr]; simp) ?_ ?_ hS
      · rw [List.length_append, ft_zR_app, show ft_zR [x] = ft_z x from by simp [ft_zR], ← Nat.add_assoc]
        exact hl
      · rw [ft_zR_app, show ft_zR [x] = ft_z x from by simp [ft_zR], ← Nat.add_assoc]
        exact hrest
  exact loop1 row [] [] _ rfl hl hr hS
end
section
/-! Contract of the reference: front. -/
theorem ft_hd3 {w : Nat → Nat} {e : Nat} {d : List ft_I × List ft_I} {sp : ft_S} {o : Option ft_I} (h : ft_hd w e (ft_wT (d :: sp) o)) : ft_hd w e (ft_wR 0 d.1) ∧ ft_hd w (e + ft_zR d.1) (ft_wT sp o) ∧ ft_hd w (e + ft_zR d.1 + ft_zT sp o) (ft_wR 1 d.2) := by
  simp only [ft_wT] at h
  obtain ⟨h12, h3⟩ := ft_hd_app.1 h
  obtain ⟨h1, h2⟩ := ft_hd_app.1 h12
  rw [ft_wR_len] at h2
  rw [List.length_append, ft_wR_len, ft_wT_len, ← Nat.add_assoc] at h3
  exact ⟨h1, h2, h3⟩
theorem ft_hd3' {w : Nat → Nat} {e : Nat} {l r : List ft_I} {sp : ft_S} {o : Option ft_I} (h1 : ft_hd w e (ft_wR 0 l)) (h2 : ft_hd w (e + ft_zR l) (ft_wT sp o)) (h3 : ft_hd w (e + ft_zR l + ft_zT sp o) (ft_wR 1 r)) : ft_hd w e (ft_wT ((l, r) :: sp) o) := by
  simp only [ft_wT]
  refine ft_hd_app.2 ⟨ft_hd_app.2 ⟨h1, by rw [ft_wR_len]; exact h2⟩, ?_⟩
  rw [List.length_append, ft_wR_len, ft_wT_len, ← Nat.add_assoc]
  exact h3
/-- behind the left digit comes no item of it -/
theorem ft_past {ne mm : Nat} {zf w : Nat → Nat} {k f : Nat} {sp : ft_S} {o : Option ft_I} {r : List ft_I} (okm : ft_okT ne mm zf (k + 1) sp o) (okr : ft_okR ne mm zf k r) (hr : 1 ≤ r.length) (h2 : ft_hd w f (ft_wT sp o)) (h3 : ft_hd w (f + ft_zT sp o) (ft_wR 1 r)) (hne : ne ≤ 128) (hmm : mm < 8192) (hk : k ≤ 3) (hk2 : ft_em sp o = false → k + 1 ≤ 3) : ft_le8 (w f) = k ∧ ft_sd (w f) = 1 ∨ ft_le8 (w f) = k + 1 := by
  cases he : ft_em sp o with
  | true =>
    have hz := (ft_em_z okm).1 he
    rw [hz, Nat.add_zero] at h3
    have hzr := ft_okR_z okr
    have h1 : 1 * 2 ^ k ≤ r.length * 2 ^ k := Nat.mul_le_mul_right _ hr
    have := Nat.one_le_two_pow (n := k)
    have := ft_wR_at (i := 0) okr h3 hne hmm hk (by decide) (by omega)
    exact Or.inl ⟨this.2.1, this.1⟩
  | false =>
    exact Or.inr (ft_wT_first okm he h2 hne hmm (hk2 he)).1
theorem ft_is0 {n j k s : Nat} {w : Nat → Nat} (h : ¬ (ft_le8 (w j) = k ∧ ft_sd (w j) = s)) : ft_is n w j k s = 0 := by
  unfold ft_is
  rw [if_neg (fun h2 => h h2.2)]
theorem ft_is1 {n j k s : Nat} {w : Nat → Nat} (hj : j < n) (h : ft_le8 (w j) = k ∧ ft_sd (w j) = s) : ft_is n w j k s = 1 := by
  unfold ft_is
  rw [if_pos ⟨hj, h⟩]
theorem ft_up128 {zf : Nat → Nat} {i v : Nat} (h : ∀ i, zf i < 128) (hv : v < 128) : ∀ j, va_up zf i v j < 128 := fun j => by
  unfold va_up
  split
  · exact hv
  · exact h j
set_option maxRecDepth 100000 in
set_option maxHeartbeats 4000000 in
theorem C_M_front (l : Launch) (D : va_G) (A : Nat → ClassId) (H0 : Heap) (a : Nat → Nat) (lo hi : Nat → Int32) (en md vs n : Nat) (zf mk pl ct w : Nat → Nat) (hP : mH D a A lo hi en zf mk md pl ct vs w n H0) (hd : mDs a) (hw : ft_bw w) (hz : ∀ i, zf i < 128) (he : en ≤ 128) (hn : n ≤ 48) (k f : Nat) (x : ft_I) (sp : ft_S) (o : Option ft_I) (sd : Nat) (okx : ft_ok en md zf k x) (okt : ft_okT en md zf k sp o) (hx : ft_hd w f (ft_wI sd x)) (ht : ft_hd w (f + ft_z x) (ft_wT sp o)) (hsd : sd < 4) (hB : 2 * 2 ^ k + ft_z x + ft_zT sp o ≤ 42) (hf : f + ft_z x + ft_zT sp o ≤ n) (hend : f + ft_z x + ft_zT sp o < n → ft_le8 (w (f + ft_z x + ft_zT sp o)) < k) (hmd : (ft_fr x sp o (md, zf)).2.1 < 4200) : xC l y_M_front c_M_front 10 (none : Option FieldType) 3 D A H0 [.ref (a 0), .int (nI f), .int (nI k)] (mFr a) (q0 (fun H1 => ∃ w', mH D a A lo hi en (ft_fr x sp o (md, zf)).2.2 mk (ft_fr x sp o (md, zf)).2.1 pl ct vs w' n H1 ∧ ft_bw w' ∧ ft_hd w' f (ft_wT (ft_fr x sp o (md, zf)).1.1 (ft_fr x sp o (md, zf)).1.2) ∧ ft_eo w w' f (f + ft_z x + ft_zT sp o))) 0 0 := by
  refine xC.of rfl (Nat.le_of_ble_eq_true rfl) ?_
  intro p_ e_ s_ m_ ar_ bl_ me_ c_ ls X hl
  have hl : lz ls 10 [some (.ref (a 0)), some (.int (nI f)), some (.int (nI k)), none, none, none, none, none, none, none] := hl
  have hS : va_S (mFr a) H0 H0 [] := va_S.rf
  refine x_iload_n X d_M_front_0 rfl hl rfl ?_
  refine x_istore_n X d_M_front_1 rfl hl (by decide) rfl (fun ls hl => ?_)
  refine x_iload_n X d_M_front_2 rfl hl rfl ?_
  refine x_istore X d_M_front_3 hl (by decide) rfl (fun ls hl => ?_)
  refine x_iconst (v := nI 1) X d_M_front_5 rfl ?_
  refine x_istore X d_M_front_6 hl (by decide) rfl (fun ls hl => ?_)
  generalize hPost : (fun H1 => ∃ w', mH D a A lo hi en (ft_fr x sp o (md, zf)).2.2 mk (ft_fr x sp o (md, zf)).2.1 pl ct vs w' n H1 ∧ ft_bw w' ∧ ft_hd w' f (ft_wT (ft_fr x sp o (md, zf)).1.1 (ft_fr x sp o (md, zf)).1.2) ∧ ft_eo w w' f (f + ft_z x + ft_zT sp o)) = Post
  have loop : ∀ (s0 k0 : Int32) (sp : ft_S) (x : ft_I) (k f sd md : Nat) (zf w : Nat → Nat) (v6 v7 v8 v9 : Option Value) (H1 : Heap) (locs : List Loc) (ls : Array Slot), lz ls 10 [some (.ref (a 0)), some (.int s0), some (.int k0), some (.int (nI f)), some (.int (nI k)), some (.int (nI 1)), v6, v7, v8, v9] → mH D a A lo hi en zf mk md pl ct vs w n H1 → ft_bw w → (∀ i, zf i < 128) → ft_ok en md zf k x → ft_okT en md zf k sp o → ft_hd w f (ft_wI sd x) → ft_hd w (f + ft_z x) (ft_wT sp o) → sd < 4 → 2 * 2 ^ k + ft_z x + ft_zT sp o ≤ 42 → f + ft_z x + ft_zT sp o ≤ n → (f + ft_z x + ft_zT sp o < n → ft_le8 (w (f + ft_z x + ft_zT sp o)) < k) → (ft_fr x sp o (md, zf)).2.1 < 4200 →
      (∀ (w' : Nat → Nat) (H1 : Heap), mH D a A lo hi en (ft_fr x sp o (md, zf)).2.2 mk (ft_fr x sp o (md, zf)).2.1 pl ct vs w' n H1 → ft_bw w' → ft_hd w' f (ft_wT (ft_fr x sp o (md, zf)).1.1 (ft_fr x sp o (md, zf)).1.2) → ft_eo w w' f (f + ft_z x + ft_zT sp o) → Post H1) → va_S (mFr a) H0 H1 locs → W p_ l e_ (x_rm 3 0 0) s_ m_ ar_ bl_ me_ c_ H1 locs 0 0 (MQ bl_ (xQ (mFr a) (q0 Post)) ar_ s_ 0 0 (mFr a)) (F0 m_ 8 ls []) := by
    clear hPost hP hw hz okx okt hx ht hsd hB hf hend hmd hl hS
    intro s0 k0 sp
    induction sp with
    | nil =>
      intro x k f sd md zf w v6 v7 v8 v9 H1 locs ls hl hP hw hz okx okt hx ht hsd hB hf hend hmd hQ hS
      have hk3 : k ≤ 3 := ft_k3 (by have := ft_ok_z okx; omega)
      have hzx := ft_ok_zpos okx
      have hwe := hw (f + ft_z x)
      refine x_iload X d_M_front_8 hl rfl ?_
      refine n_if_eq X 191 d_M_front_10 rfl (by omega) (fun hc => absurd hc (by decide)) (fun hc => ?_)
      have hmd0 : md < 4200 := by cases o <;> exact hmd
      refine x_aload_n X d_M_front_13 rfl hl rfl ?_
      refine x_iload_n X d_M_front_14 rfl hl rfl ?_
      refine x_iload X d_M_front_15 hl rfl ?_
      refine x_goR (x_runV X (C_M_endI l D A _ a lo hi en md vs n zf mk pl ct w hP hw hz en md k f sd x okx hx he (by have := hmd0; omega) hk3 hsd (by omega)) b_M_end s_M_end v_M_end e_M_60 (m_at hP) rfl rfl hl rfl (Nat.le_of_ble_eq_true rfl) d_M_front_17 (Nat.le_of_ble_eq_true rfl) (Nat.le_of_ble_eq_true rfl) ⟨Nat.le_of_ble_eq_true rfl, Nat.le_of_ble_eq_true rfl⟩) hS (fun locs hS => ?_)
      refine x_istore X d_M_front_20 hl (by decide) rfl (fun ls hl => ?_)
      refine x_iconst (v := nI 0) X d_M_front_22 rfl ?_
      refine x_istore X d_M_front_23 hl (by decide) rfl (fun ls hl => ?_)
      refine x_iload X d_M_front_25 hl rfl ?_
      refine x_aload_n X d_M_front_27 rfl hl rfl ?_
      refine m_get X hP 10 (by decide) e_M_37 rfl d_M_front_28 ?_
      cases o with
      | none =>
        simp only [ft_zT, Nat.add_zero] at hf hend
        dsimp only [ft_le8] at hend
        have last : ∀ (locs : List Loc), va_S (mFr a) H0 H1 locs → W p_ l e_ (x_rm 3 0 0) s_ m_ ar_ bl_ me_ c_ H1 locs 0 0 (MQ bl_ (xQ (mFr a) (q0 Post)) ar_ s_ 0 0 (mFr a)) (F0 m_ 49 ls []) := by
          intro locs hS
          refine x_aload_n X d_M_front_49 rfl hl rfl ?_
          refine x_iload_n X d_M_front_50 rfl hl rfl ?_
          refine x_iload X d_M_front_51 hl rfl ?_
          refine x_iload X d_M_front_53 hl rfl ?_
          refine x_iconst (v := nI 2) X d_M_front_55 rfl ?_
          refine x_go0 (x_runV X (C_M_settle l D A _ a lo hi en md vs n zf mk pl ct w hP hd (hw) f (f + ft_z x) k 2 (by omega) (by omega) (by omega) (by decide)) b_M_settle s_M_settle v_M_settle e_M_56 (m_at hP) rfl rfl hl rfl (Nat.le_of_ble_eq_true rfl) d_M_front_56 (Nat.le_of_ble_eq_true rfl) (Nat.le_of_ble_eq_true rfl) ⟨Nat.le_of_ble_eq_true rfl, Nat.le_of_ble_eq_true rfl⟩) hS (fun _ h => h) (fun H locs hP hF hS => ?_)
          refine x_goto X 188 d_M_front_59 rfl ?_
          refine x_goto X 8 d_M_front_188 rfl ?_
          refine x_iload X d_M_front_8 hl rfl ?_
          refine n_if_eq X 191 d_M_front_10 rfl (by omega) (fun hc => ?_) (fun hc => absurd rfl hc)
          exact x_vret X hS (Nat.le_refl _) (Nat.le_refl _) d_M_front_191 ⟨rfl, hQ _ _ hP (ft_bw_sw hw (by omega) (by decide)) (ft_sw_I okx hx he (by omega) hk3 hsd (Nat.le_refl _) (Nat.le_refl _)) (ft_eo_sw _ _ _ _ _)⟩
        refine n_icmp_ge X 49 d_M_front_31 rfl (by omega) (by omega) (fun hc => ?_) (fun hc => ?_)
        · exact last _ hS
        · refine x_aload_n X d_M_front_34 rfl hl rfl ?_
          refine m_get X hP 9 (by decide) e_M_34 rfl d_M_front_35 ?_
          refine x_iload X d_M_front_38 hl rfl ?_
          refine m_ld_w X hP (by omega) d_M_front_40 ?_
          refine x_goR (x_runS X (C_M_level l D A _ (w (f + ft_z x)) (by omega)) b_M_level s_M_level e_M_40 rfl hl rfl (Nat.le_of_ble_eq_true rfl) d_M_front_41 (Nat.le_of_ble_eq_true rfl) (Nat.le_of_ble_eq_true rfl) ⟨Nat.le_of_ble_eq_true rfl, Nat.le_of_ble_eq_true rfl⟩) hS (fun locs hS => ?_)
          refine x_iload X d_M_front_44 hl rfl ?_
          refine n_icmp_ge X 62 d_M_front_46 rfl (by omega) (by omega) (fun hc => absurd (hend (by assumption)) (by omega)) (fun hc => ?_)
          exact last _ hS
      | some y =>
        have oky : ft_ok en md zf k y := okt
        have hzy := ft_ok_zpos oky
        have hy : ft_hd w (f + ft_z x) (ft_wI 2 y) := ht
        simp only [ft_zT] at hf hend hB
        have hyat := ft_wI_at (i := 0) oky hy he (by omega) hk3 (by decide) hzy
        rw [Nat.add_zero] at hyat
        dsimp only [ft_le8, ft_sd] at hyat
        refine n_icmp_ge X 49 d_M_front_31 rfl (by omega) (by omega) (fun hc => absurd hc (by omega)) (fun hc => ?_)
        refine x_aload_n X d_M_front_34 rfl hl rfl ?_
        refine m_get X hP 9 (by decide) e_M_34 rfl d_M_front_35 ?_
        refine x_iload X d_M_front_38 hl rfl ?_
        refine m_ld_w X hP (by omega) d_M_front_40 ?_
        refine x_goR (x_runS X (C_M_level l D A _ (w (f + ft_z x)) (by omega)) b_M_level s_M_level e_M_40 rfl hl rfl (Nat.le_of_ble_eq_true rfl) d_M_front_41 (Nat.le_of_ble_eq_true rfl) (Nat.le_of_ble_eq_true rfl) ⟨Nat.le_of_ble_eq_true rfl, Nat.le_of_ble_eq_true rfl⟩) hS (fun locs hS => ?_)
        refine x_iload X d_M_front_44 hl rfl ?_
        refine n_icmp_ge X 62 d_M_front_46 rfl (by omega) (by omega) (fun hc => ?_) (fun hc => absurd hc (by omega))
        refine x_aload_n X d_M_front_62 rfl hl rfl ?_
        refine m_get X hP 9 (by decide) e_M_34 rfl d_M_front_63 ?_
        refine x_iload X d_M_front_66 hl rfl ?_
        refine m_ld_w X hP (by omega) d_M_front_68 ?_
        refine x_goR (x_runS X (C_M_side l D A _ (w (f + ft_z x)) (by omega)) b_M_side s_M_side e_M_44 rfl hl rfl (Nat.le_of_ble_eq_true rfl) d_M_front_69 (Nat.le_of_ble_eq_true rfl) (Nat.le_of_ble_eq_true rfl) ⟨Nat.le_of_ble_eq_true rfl, Nat.le_of_ble_eq_true rfl⟩) hS (fun locs hS => ?_)
        refine x_iconst (v := nI 2) X d_M_front_72 rfl ?_
        refine n_icmp_ne X 106 d_M_front_73 rfl (by omega) (by omega) (fun hc => absurd hyat.1 hc) (fun hc => ?_)
        refine x_aload_n X d_M_front_76 rfl hl rfl ?_
        refine x_iload_n X d_M_front_77 rfl hl rfl ?_
        refine x_iload X d_M_front_78 hl rfl ?_
        refine x_iload X d_M_front_80 hl rfl ?_
        refine x_iconst (v := nI 0) X d_M_front_82 rfl ?_
        refine x_go0 (x_runV X (C_M_settle l D A _ a lo hi en md vs n zf mk pl ct w hP hd (hw) f (f + ft_z x) k 0 (by omega) (by omega) (by omega) (by decide)) b_M_settle s_M_settle v_M_settle e_M_56 (m_at hP) rfl rfl hl rfl (Nat.le_of_ble_eq_true rfl) d_M_front_83 (Nat.le_of_ble_eq_true rfl) (Nat.le_of_ble_eq_true rfl) ⟨Nat.le_of_ble_eq_true rfl, Nat.le_of_ble_eq_true rfl⟩) hS (fun _ h => h) (fun H locs hP hF hS => ?_)
        have hw1 := ft_bw_sw (a := f) (b := f + ft_z x) (k := k) (s := 0) hw (by omega) (by decide)
        have hy1 := ft_sw_out (a := f) (b := f + ft_z x) (k := k) (s := 0) hy (Or.inr (Nat.le_refl _))
        have hx1 := ft_sw_I (s := 0) okx hx he (by omega) hk3 hsd (Nat.le_refl f) (Nat.le_refl _)
        refine x_aload_n X d_M_front_86 rfl hl rfl ?_
        refine x_iload X d_M_front_87 hl rfl ?_
        refine x_aload_n X d_M_front_89 rfl hl rfl ?_
        refine x_iload X d_M_front_90 hl rfl ?_
        refine x_iload X d_M_front_92 hl rfl ?_
        refine x_goR (x_runV X (C_M_endI l D A _ a lo hi en md vs n zf mk pl ct _ hP hw1 hz en md k _ 2 y oky hy1 he (by omega) hk3 (by decide) (by omega)) b_M_end s_M_end v_M_end e_M_60 (m_at hP) rfl rfl hl rfl (Nat.le_of_ble_eq_true rfl) d_M_front_94 (Nat.le_of_ble_eq_true rfl) (Nat.le_of_ble_eq_true rfl) ⟨Nat.le_of_ble_eq_true rfl, Nat.le_of_ble_eq_true rfl⟩) hS (fun locs hS => ?_)
        refine x_iload X d_M_front_97 hl rfl ?_
        refine x_iconst (v := nI 1) X d_M_front_99 rfl ?_
        refine x_go0 (x_runV X (C_M_settle l D A _ a lo hi en md vs n zf mk pl ct _ hP hd (hw1) (f + ft_z x) (f + ft_z x + ft_z y) k 1 (by omega) (by omega) (by omega) (by decide)) b_M_settle s_M_settle v_M_settle e_M_56 (m_at hP) rfl rfl hl rfl (Nat.le_of_ble_eq_true rfl) d_M_front_100 (Nat.le_of_ble_eq_true rfl) (Nat.le_of_ble_eq_true rfl) ⟨Nat.le_of_ble_eq_true rfl, Nat.le_of_ble_eq_true rfl⟩) hS (fun _ h => h) (fun H locs hP hF hS => ?_)
        refine x_goto X 188 d_M_front_103 rfl ?_
        refine x_goto X 8 d_M_front_188 rfl ?_
        refine x_iload X d_M_front_8 hl rfl ?_
        refine n_if_eq X 191 d_M_front_10 rfl (by omega) (fun hc => ?_) (fun hc => absurd rfl hc)
        refine x_vret X hS (Nat.le_refl _) (Nat.le_refl _) d_M_front_191 ⟨rfl, hQ _ _ hP (ft_bw_sw hw1 (by omega) (by decide)) ?_ (ft_eo_tr (ft_eo_wd (ft_eo_sw _ _ _ _ _) (Nat.le_refl _) (by simp only [ft_zT]; omega)) (ft_eo_wd (ft_eo_sw _ _ _ _ _) (by omega) (by simp only [ft_zT]; omega)))⟩
        simp only [ft_fr]
        refine ft_hd3' (l := [x]) (r := [y]) ?_ (ft_hd_nil _ _) ?_
        · rw [ft_wR_one]; exact ft_sw_out hx1 (Or.inl (by rw [ft_wI_len]; exact Nat.le_refl _))
        · rw [ft_wR_one]
          simp only [ft_zR, ft_zT, Nat.add_zero]
          exact ft_sw_I oky hy1 he (by omega) hk3 (by decide) (Nat.le_refl _) (Nat.le_refl _)
    | cons d sp ih =>
      intro x k f sd md zf w v6 v7 v8 v9 H1 locs ls hl hP hw hz okx okt hx ht hsd hB hf hend hmd hQ hS
      have hk3 : k ≤ 3 := ft_k3 (by have := ft_ok_z okx; omega)
      have hzx := ft_ok_zpos okx
      have hzx2 := ft_ok_z okx
      obtain ⟨h1, h2, h3⟩ := ft_hd3 ht
      have hzd := ft_okT_zd okt
      have hex := (ft_fr_ok (d :: sp) x o (md, zf) k okx okt).1.1
      have hmd0 : md < 4200 := Nat.lt_of_le_of_lt hex hmd
      have h2k := Nat.one_le_two_pow (n := k)
      simp only [ft_zT] at hB hf hend
      have hw1at := ft_wT_first okt rfl ht he (by omega) hk3
      simp only [List.isEmpty_cons, Bool.false_eq_true, if_false] at hw1at
      dsimp only [ft_le8, ft_sd] at hw1at
      obtain ⟨l0, l', hl0⟩ : ∃ l0 l', d.1 = l0 :: l' := by
        cases hd1 : d.1 with
        | nil => have := okt.1.1; rw [hd1] at this; simp at this
        | cons l0 l' => exact ⟨l0, l', rfl⟩
      have ok0 : ft_ok en md zf k l0 := okt.1.2.2 l0 (by rw [hl0]; simp)
      have okl : ft_okR en md zf k l' := fun y hy => okt.1.2.2 y (by rw [hl0]; simp [hy])
      have hz0 := ft_ok_zpos ok0
      have hz02 := ft_ok_z ok0
      have hzd1 : ft_zR d.1 = ft_z l0 + ft_zR l' := by rw [hl0]; rfl
      have hlen : d.1.length = l'.length + 1 := by rw [hl0]; rfl
      refine x_iload X d_M_front_8 hl rfl ?_
      refine n_if_eq X 191 d_M_front_10 rfl (by omega) (fun hc => absurd hc (by decide)) (fun hc => ?_)
      refine x_aload_n X d_M_front_13 rfl hl rfl ?_
      refine x_iload_n X d_M_front_14 rfl hl rfl ?_
      refine x_iload X d_M_front_15 hl rfl ?_
      refine x_goR (x_runV X (C_M_endI l D A _ a lo hi en md vs n zf mk pl ct w hP hw hz en md k f sd x okx hx he (by have := hmd0; omega) hk3 hsd (by omega)) b_M_end s_M_end v_M_end e_M_60 (m_at hP) rfl rfl hl rfl (Nat.le_of_ble_eq_true rfl) d_M_front_17 (Nat.le_of_ble_eq_true rfl) (Nat.le_of_ble_eq_true rfl) ⟨Nat.le_of_ble_eq_true rfl, Nat.le_of_ble_eq_true rfl⟩) hS (fun locs hS => ?_)
      refine x_istore X d_M_front_20 hl (by decide) rfl (fun ls hl => ?_)
      refine x_iconst (v := nI 0) X d_M_front_22 rfl ?_
      refine x_istore X d_M_front_23 hl (by decide) rfl (fun ls hl => ?_)
      refine x_iload X d_M_front_25 hl rfl ?_
      refine x_aload_n X d_M_front_27 rfl hl rfl ?_
      refine m_get X hP 10 (by decide) e_M_37 rfl d_M_front_28 ?_
      refine n_icmp_ge X 49 d_M_front_31 rfl (by omega) (by omega) (fun hc => absurd hc (by omega)) (fun hc => ?_)
      refine x_aload_n X d_M_front_34 rfl hl rfl ?_
      refine m_get X hP 9 (by decide) e_M_34 rfl d_M_front_35 ?_
      refine x_iload X d_M_front_38 hl rfl ?_
      refine m_ld_w X hP (by omega) d_M_front_40 ?_
      refine x_goR (x_runS X (C_M_level l D A _ (w (f + ft_z x)) (by omega)) b_M_level s_M_level e_M_40 rfl hl rfl (Nat.le_of_ble_eq_true rfl) d_M_front_41 (Nat.le_of_ble_eq_true rfl) (Nat.le_of_ble_eq_true rfl) ⟨Nat.le_of_ble_eq_true rfl, Nat.le_of_ble_eq_true rfl⟩) hS (fun locs hS => ?_)
      refine x_iload X d_M_front_44 hl rfl ?_
      refine n_icmp_ge X 62 d_M_front_46 rfl (by omega) (by omega) (fun hc => ?_) (fun hc => absurd hc (by omega))
      refine x_aload_n X d_M_front_62 rfl hl rfl ?_
      refine m_get X hP 9 (by decide) e_M_34 rfl d_M_front_63 ?_
      refine x_iload X d_M_front_66 hl rfl ?_
      refine m_ld_w X hP (by omega) d_M_front_68 ?_
      refine x_goR (x_runS X (C_M_side l D A _ (w (f + ft_z x)) (by omega)) b_M_side s_M_side e_M_44 rfl hl rfl (Nat.le_of_ble_eq_true rfl) d_M_front_69 (Nat.le_of_ble_eq_true rfl) (Nat.le_of_ble_eq_true rfl) ⟨Nat.le_of_ble_eq_true rfl, Nat.le_of_ble_eq_true rfl⟩) hS (fun locs hS => ?_)
      refine x_iconst (v := nI 2) X d_M_front_72 rfl ?_
      refine n_icmp_ne X 106 d_M_front_73 rfl (by omega) (by omega) (fun hc => ?_) (fun hc => absurd hc (by omega))
      refine x_aload_n X d_M_front_106 rfl hl rfl ?_
      refine x_iload_n X d_M_front_107 rfl hl rfl ?_
      refine x_iload X d_M_front_108 hl rfl ?_
      refine x_iload X d_M_front_110 hl rfl ?_
      refine x_iconst (v := nI 0) X d_M_front_112 rfl ?_
      refine x_go0 (x_runV X (C_M_settle l D A _ a lo hi en md vs n zf mk pl ct w hP hd (hw) f (f + ft_z x) k 0 (by omega) (by omega) (by omega) (by decide)) b_M_settle s_M_settle v_M_settle e_M_56 (m_at hP) rfl rfl hl rfl (Nat.le_of_ble_eq_true rfl) d_M_front_113 (Nat.le_of_ble_eq_true rfl) (Nat.le_of_ble_eq_true rfl) ⟨Nat.le_of_ble_eq_true rfl, Nat.le_of_ble_eq_true rfl⟩) hS (fun _ h => h) (fun H locs hP hF hS => ?_)
      have hw1 := ft_bw_sw (a := f) (b := f + ft_z x) (k := k) (s := 0) hw (by omega) (by decide)
      have hx1 := ft_sw_I (s := 0) okx hx he (by omega) hk3 hsd (Nat.le_refl f) (Nat.le_refl _)
      have g1 := ft_sw_out (a := f) (b := f + ft_z x) (k := k) (s := 0) h1 (Or.inr (Nat.le_refl _))
      have g2 := ft_sw_out (a := f) (b := f + ft_z x) (k := k) (s := 0) h2 (Or.inr (by omega))
      have g3 := ft_sw_out (a := f) (b := f + ft_z x) (k := k) (s := 0) h3 (Or.inr (by omega))
      have heo1 := ft_eo_sw w f (f + ft_z x) k 0
      generalize ft_sw w f (f + ft_z x) k 0 = w1 at hP hw1 hx1 g1 g2 g3 heo1 ⊢
      rw [hl0, ft_wR_cons] at g1
      obtain ⟨g0, gl⟩ := ft_hd_app.1 g1
      rw [ft_wI_len] at gl
      refine x_aload_n X d_M_front_116 rfl hl rfl ?_
      refine x_iload X d_M_front_117 hl rfl ?_
      refine x_iload X d_M_front_119 hl rfl ?_
      refine x_goR (x_runV X (C_M_endI l D A _ a lo hi en md vs n zf mk pl ct w1 hP hw1 hz en md k _ 0 l0 ok0 g0 he (by omega) hk3 (by decide) (by omega)) b_M_end s_M_end v_M_end e_M_60 (m_at hP) rfl rfl hl rfl (Nat.le_of_ble_eq_true rfl) d_M_front_121 (Nat.le_of_ble_eq_true rfl) (Nat.le_of_ble_eq_true rfl) ⟨Nat.le_of_ble_eq_true rfl, Nat.le_of_ble_eq_true rfl⟩) hS (fun locs hS => ?_)
      refine x_istore X d_M_front_124 hl (by decide) rfl (fun ls hl => ?_)
      refine x_iload X d_M_front_126 hl rfl ?_
      refine x_istore X d_M_front_128 hl (by decide) rfl (fun ls hl => ?_)
      refine x_iconst (v := nI 1) X d_M_front_130 rfl ?_
      refine x_istore X d_M_front_131 hl (by decide) rfl (fun ls hl => ?_)
      have cnt : ∀ (rest pre : List ft_I) (locs : List Loc) (ls : Array Slot), pre ++ rest = l' → lz ls 10 [some (.ref (a 0)), some (.int s0), some (.int k0), some (.int (nI f)), some (.int (nI k)), some (.int (nI 0)), some (.int (nI (f + ft_z x))), some (.int (nI (f + ft_z x + ft_z l0))), some (.int (nI (f + ft_z x + ft_z l0 + ft_zR pre))), some (.int (nI (1 + pre.length)))] → ft_hd w1 (f + ft_z x + ft_z l0 + ft_zR pre) (ft_wR 0 rest) → va_S (mFr a) H0 H locs →
          (∀ (locs : List Loc) (ls : Array Slot), lz ls 10 [some (.ref (a 0)), some (.int s0), some (.int k0), some (.int (nI f)), some (.int (nI k)), some (.int (nI 0)), some (.int (nI (f + ft_z x))), some (.int (nI (f + ft_z x + ft_z l0))), some (.int (nI (f + ft_z x + ft_z l0 + ft_zR l'))), some (.int (nI (1 + l'.length)))] → va_S (mFr a) H0 H locs → W p_ l e_ (x_rm 3 0 0) s_ m_ ar_ bl_ me_ c_ H locs 0 0 (MQ bl_ (xQ (mFr a) (q0 Post)) ar_ s_ 0 0 (mFr a)) (F0 m_ 161 ls [])) → W p_ l e_ (x_rm 3 0 0) s_ m_ ar_ bl_ me_ c_ H locs 0 0 (MQ bl_ (xQ (mFr a) (q0 Post)) ar_ s_ 0 0 (mFr a)) (F0 m_ 133 ls []) := by
        intro rest
        induction rest with
        | nil =>
          intro pre locs ls hpr hl hh hS kk
          rw [List.append_nil] at hpr
          subst hpr
          have hp := ft_past okt.2.2 okt.2.1.2.2 okt.2.1.1 g2 g3 he (by omega) hk3 (fun hem => ft_k3 (by
            have := ft_okT_z okt.2.2 hem
            rw [Nat.pow_succ] at this ⊢
            omega))
          have hfe : f + ft_z x + ft_zR d.1 = f + ft_z x + ft_z l0 + ft_zR pre := by omega
          rw [hfe] at hp
          refine x_aload_n X d_M_front_133 rfl hl rfl ?_
          refine x_iload X d_M_front_134 hl rfl ?_
          refine x_iload X d_M_front_136 hl rfl ?_
          refine x_iconst (v := nI 0) X d_M_front_138 rfl ?_
          refine x_goR (x_runV X (C_M_is l D A _ a lo hi en md vs n zf mk pl ct w1 hP hw1 hn _ k 0 (by omega) (by omega) (by decide)) b_M_is s_M_is v_M_is e_M_64 (m_at hP) rfl rfl hl rfl (Nat.le_of_ble_eq_true rfl) d_M_front_139 (Nat.le_of_ble_eq_true rfl) (Nat.le_of_ble_eq_true rfl) ⟨Nat.le_of_ble_eq_true rfl, Nat.le_of_ble_eq_true rfl⟩) hS (fun locs hS => ?_)
          rw [ft_is0 (fun h => by omega)]
          refine n_if_eq X 161 d_M_front_142 rfl (by omega) (fun hc => ?_) (fun hc => absurd rfl hc)
          exact kk _ _ hl hS
        | cons y rest ih2 =>
          intro pre locs ls hpr hl hh hS kk
          have hzr : ft_zR l' = ft_zR pre + (ft_z y + ft_zR rest) := by rw [← hpr, ft_zR_app]; rfl
          have hlr : l'.length = pre.length + (rest.length + 1) := by rw [← hpr]; simp
          have oky : ft_ok en md zf k y := okl y (by rw [← hpr]; simp)
          have hzy := ft_ok_zpos oky
          have hl4 := okt.1.2.1
          rw [ft_wR_cons] at hh
          obtain ⟨hy, hrest⟩ := ft_hd_app.1 hh
          rw [ft_wI_len] at hrest
          have hyat := ft_wI_at (i := 0) oky hy he (by omega) hk3 (by decide) hzy
          rw [Nat.add_zero] at hyat
          refine x_aload_n X d_M_front_133 rfl hl rfl ?_
          refine x_iload X d_M_front_134 hl rfl ?_
          refine x_iload X d_M_front_136 hl rfl ?_
          refine x_iconst (v := nI 0) X d_M_front_138 rfl ?_
          refine x_goR (x_runV X (C_M_is l D A _ a lo hi en md vs n zf mk pl ct w1 hP hw1 hn _ k 0 (by omega) (by omega) (by decide)) b_M_is s_M_is v_M_is e_M_64 (m_at hP) rfl rfl hl rfl (Nat.le_of_ble_eq_true rfl) d_M_front_139 (Nat.le_of_ble_eq_true rfl) (Nat.le_of_ble_eq_true rfl) ⟨Nat.le_of_ble_eq_true rfl, Nat.le_of_ble_eq_true rfl⟩) hS (fun locs hS => ?_)
          rw [ft_is1 (by omega) ⟨hyat.2.1, hyat.1⟩]
          refine n_if_eq X 161 d_M_front_142 rfl (by omega) (fun hc => absurd hc (by decide)) (fun hc => ?_)
          refine x_aload_n X d_M_front_145 rfl hl rfl ?_
          refine x_iload X d_M_front_146 hl rfl ?_
          refine x_iload X d_M_front_148 hl rfl ?_
          refine x_goR (x_runV X (C_M_endI l D A _ a lo hi en md vs n zf mk pl ct w1 hP hw1 hz en md k _ 0 y oky hy he (by omega) hk3 (by decide) (by omega)) b_M_end s_M_end v_M_end e_M_60 (m_at hP) rfl rfl hl rfl (Nat.le_of_ble_eq_true rfl) d_M_front_150 (Nat.le_of_ble_eq_true rfl) (Nat.le_of_ble_eq_true rfl) ⟨Nat.le_of_ble_eq_true rfl, Nat.le_of_ble_eq_true rfl⟩) hS (fun locs hS => ?_)
          refine x_istore X d_M_front_153 hl (by decide) rfl (fun ls hl => ?_)
          refine n_iinc (d := 1) X d_M_front_155 rfl hl rfl (by decide) rfl (fun ls hl => ?_)
          refine x_goto X 133 d_M_front_158 rfl ?_
          refine ih2 (pre ++ [y]) _ _ (by rw [← hpr]; simp) ?_ ?_ hS kk
          · rw [List.length_append, ft_zR_app, show ft_zR [y] = ft_z y from by simp [ft_zR], ← Nat.add_assoc, ← Nat.add_assoc]
            exact hl
          · rw [ft_zR_app, show ft_zR [y] = ft_z y from by simp [ft_zR], ← Nat.add_assoc]
            exact hrest
      refine cnt l' [] _ _ rfl hl gl hS (fun locs ls hl hS => ?_)
      clear cnt
      have hl4 := okt.1.2.1
      refine x_iload X d_M_front_161 hl rfl ?_
      refine x_iconst (v := nI 4) X d_M_front_163 rfl ?_
      refine n_icmp_ne X 188 d_M_front_164 rfl (by omega) (by omega) (fun hc => ?_) (fun hc => ?_)
      · have hlt : d.1.length < 4 := by omega
        have hfr : ft_fr x (d :: sp) o (md, zf) = (((x :: d.1, d.2) :: sp, o), (md, zf)) := by simp only [ft_fr, if_pos hlt]
        rw [hfr] at hQ
        refine x_goto X 8 d_M_front_188 rfl ?_
        refine x_iload X d_M_front_8 hl rfl ?_
        refine n_if_eq X 191 d_M_front_10 rfl (by omega) (fun hc => ?_) (fun hc => absurd rfl hc)
        refine x_vret X hS (Nat.le_refl _) (Nat.le_refl _) d_M_front_191 ⟨rfl, hQ _ _ hP hw1 (ft_hd3' ?_ ?_ ?_) (ft_eo_wd heo1 (Nat.le_refl _) (by simp only [ft_zT]; omega))⟩
        · rw [ft_wR_cons, ft_hd_app, ft_wI_len, hl0, ft_wR_cons]
          exact ⟨hx1, g1⟩
        · simp only [ft_zR]; rw [← Nat.add_assoc]; exact g2
        · simp only [ft_zR]; rw [← Nat.add_assoc]; exact g3
      · have hl3 : l'.length = 3 := by omega
        have hk2 : k < 3 := by
          have hzl := ft_okR_z okl
          rw [hl3] at hzl
          have : 2 ^ k < 2 ^ 3 := by omega
          exact (Nat.pow_lt_pow_iff_right (by decide)).1 this
        have hnl : ¬ d.1.length < 4 := by omega
        have hdr : d.1.drop 1 = l' := by rw [hl0]; rfl
        have htk : d.1.take 1 = [l0] := by rw [hl0]; rfl
        have hfr : ft_fr x (d :: sp) o (md, zf) = (((x :: [l0], d.2) :: (ft_fr (ft_nd (md + 1) l') sp o (md + 1, va_up zf (md + 1) (ft_zR l'))).1.1, (ft_fr (ft_nd (md + 1) l') sp o (md + 1, va_up zf (md + 1) (ft_zR l'))).1.2), (ft_fr (ft_nd (md + 1) l') sp o (md + 1, va_up zf (md + 1) (ft_zR l'))).2) := by
          simp only [ft_fr, if_neg hnl, hdr, htk, ft_nw]
        have oknd : ft_ok en (md + 1) (va_up zf (md + 1) (ft_zR l')) (k + 1) (ft_nd (md + 1) l') := ft_ok_nw (c := (md, zf)) okl (Or.inr hl3)
        have okm := ft_okT_ex (ft_ex_nw (md, zf) l') okt.2.2
        rw [hfr] at hQ hmd
        have hmd1 : md + 1 < 4200 := Nat.lt_of_le_of_lt (ft_fr_ok sp (ft_nd (md + 1) l') o (md + 1, va_up zf (md + 1) (ft_zR l')) (k + 1) oknd okm).1.1 hmd
        refine x_aload_n X d_M_front_167 rfl hl rfl ?_
        refine x_iload X d_M_front_168 hl rfl ?_
        refine x_iload X d_M_front_170 hl rfl ?_
        refine x_iload X d_M_front_172 hl rfl ?_
        refine x_iconst (v := nI 1) X d_M_front_174 rfl ?_
        refine n_iadd X d_M_front_175 ?_
        refine x_go0 (x_runV X (C_M_wrap l D A _ a lo hi en md vs n zf mk pl ct w1 hP hd hw1 (f + ft_z x + ft_z l0) (f + ft_z x + ft_z l0 + ft_zR l') k (by omega) (by omega) hk2 hmd1) b_M_wrap s_M_wrap v_M_wrap e_M_68 (m_at hP) rfl rfl hl rfl (Nat.le_of_ble_eq_true rfl) d_M_front_176 (Nat.le_of_ble_eq_true rfl) (Nat.le_of_ble_eq_true rfl) ⟨Nat.le_of_ble_eq_true rfl, Nat.le_of_ble_eq_true rfl⟩) hS (fun _ h => h) (fun H locs hP hF hS => ?_)
        rw [Nat.add_sub_cancel_left] at hP
        have q1' := ft_ww_R (s := 3) (m := md + 1) okl gl he (by omega) (by omega) hk3 (by decide) (Nat.le_refl (f + ft_z x + ft_z l0)) (Nat.le_refl _)
        have hfe : f + ft_z x + ft_zR d.1 = f + ft_z x + ft_z l0 + ft_zR l' := by omega
        rw [hfe] at g2 g3
        have q2 := ft_sw_out (a := f + ft_z x + ft_z l0) (b := f + ft_z x + ft_z l0 + ft_zR l') (k := k + 1) (s := 3) (ft_ww_out (a := f + ft_z x + ft_z l0) (b := f + ft_z x + ft_z l0 + ft_zR l') (j := k) (m := md + 1) g2 (Or.inr (Nat.le_refl _))) (Or.inr (Nat.le_refl _))
        have heo2 : ft_eo w1 (ft_sw (ft_ww w1 (f + ft_z x + ft_z l0) (f + ft_z x + ft_z l0 + ft_zR l') k (md + 1)) (f + ft_z x + ft_z l0) (f + ft_z x + ft_z l0 + ft_zR l') (k + 1) 3) (f + ft_z x + ft_z l0) (f + ft_z x + ft_z l0 + ft_zR l') := ft_eo_tr (ft_eo_ww _ _ _ _ _) (ft_eo_sw _ _ _ _ _)
        have hw3 := ft_bw_sw (a := f + ft_z x + ft_z l0) (b := f + ft_z x + ft_z l0 + ft_zR l') (k := k + 1) (s := 3) (ft_bw_ww (a := f + ft_z x + ft_z l0) (b := f + ft_z x + ft_z l0 + ft_zR l') (j := k) (m := md + 1) hw1 hk2 (by omega)) (by omega) (by decide)
        generalize ft_sw (ft_ww w1 (f + ft_z x + ft_z l0) (f + ft_z x + ft_z l0 + ft_zR l') k (md + 1)) (f + ft_z x + ft_z l0) (f + ft_z x + ft_z l0 + ft_zR l') (k + 1) 3 = w3 at hP q1' q2 heo2 hw3
        have hznd : ft_z (ft_nd (md + 1) l') = ft_zR l' := ft_z_nd _ _
        have hr3 := ft_wR_at (i := 0) okt.2.1.2.2 g3 he (by omega) hk3 (by decide) (by omega)
        rw [Nat.add_zero] at hr3
        refine x_iload X d_M_front_179 hl rfl ?_
        refine x_istore_n X d_M_front_181 rfl hl (by decide) rfl (fun ls hl => ?_)
        refine n_iinc (d := 1) X d_M_front_182 rfl hl rfl (by decide) rfl (fun ls hl => ?_)
        refine x_iconst (v := nI 1) X d_M_front_185 rfl ?_
        refine x_istore X d_M_front_186 hl (by decide) rfl (fun ls hl => ?_)
        refine x_goto X 8 d_M_front_188 rfl ?_
        refine ih (ft_nd (md + 1) l') (k + 1) (f + ft_z x + ft_z l0) 3 (md + 1) (va_up zf (md + 1) (ft_zR l')) w3 _ _ _ _ _ _ _ hl hP hw3 (ft_up128 hz (by omega)) oknd okm q1' (by rw [hznd]; exact q2) (by decide) (by rw [hznd, Nat.pow_succ]; omega) (by rw [hznd]; omega) (fun _ => by rw [hznd, heo2 _ (Or.inr (by omega)), hr3.2.1]; omega) hmd ?_ hS
        intro w4 H4 hP4 hw4 hh4 heo4
        rw [hznd] at heo4
        have heo24 : ft_eo w1 w4 (f + ft_z x + ft_z l0) (f + ft_z x + ft_z l0 + ft_zR l' + ft_zT sp o) := ft_eo_tr (ft_eo_wd heo2 (Nat.le_refl _) (by omega)) heo4
        have hzf := ft_fr_z sp (ft_nd (md + 1) l') o (md + 1, va_up zf (md + 1) (ft_zR l'))
        rw [hznd] at hzf
        refine hQ w4 H4 hP4 hw4 (ft_hd3' ?_ ?_ ?_) (ft_eo_tr (ft_eo_wd heo1 (Nat.le_refl _) (by simp only [ft_zT]; omega)) (ft_eo_wd heo24 (by omega) (by simp only [ft_zT]; omega)))
        · rw [ft_wR_cons, ft_hd_app, ft_wI_len, ft_wR_one]
          exact ⟨ft_eo_hd heo24 hx1 (Or.inl (by rw [ft_wI_len]; omega)), ft_eo_hd heo24 g0 (Or.inl (by rw [ft_wI_len]; omega))⟩
        · rw [show f + ft_zR (x :: [l0]) = f + ft_z x + ft_z l0 from by simp only [ft_zR]; omega]
          exact hh4
        · rw [show f + ft_zR (x :: [l0]) + ft_zT (ft_fr (ft_nd (md + 1) l') sp o (md + 1, va_up zf (md + 1) (ft_zR l'))).1.1 (ft_fr (ft_nd (md + 1) l') sp o (md + 1, va_up zf (md + 1) (ft_zR l'))).1.2 = f + ft_z x + ft_z l0 + ft_zR l' + ft_zT sp o from by rw [hzf]; simp only [ft_zR]; omega]
          exact ft_eo_hd heo24 g3 (Or.inr (Nat.le_refl _))
  exact loop (nI f) (nI k) sp x k f sd md zf w none none none none H0 [] _ hl hP hw hz okx okt hx ht hsd hB hf hend hmd (fun w' H1 h1 h2 h3 h4 => by rw [← hPost]; exact ⟨w', h1, h2, h3, h4⟩) hS
end
section
/-! Contract of the reference: back. -/
/-- ahead of the right digit comes no item of it -/
theorem ft_ahead {ne mm : Nat} {zf w : Nat → Nat} {k f : Nat} {sp : ft_S} {o : Option ft_I} {r : List ft_I} (okm : ft_okT ne mm zf (k + 1) sp o) (okr : ft_okR ne mm zf k r) (hr : 1 ≤ r.length) (h1 : ft_hd w f (ft_wR 0 r)) (h2 : ft_hd w (f + ft_zR r) (ft_wT sp o)) (hne : ne ≤ 128) (hmm : mm < 8192) (hk : k ≤ 3) (hk2 : ft_em sp o = false → k + 1 ≤ 3) : ft_le8 (w (f + ft_zR r + ft_zT sp o - 1)) = k ∧ ft_sd (w (f + ft_zR r + ft_zT sp o - 1)) = 0 ∨ ft_le8 (w (f + ft_zR r + ft_zT sp o - 1)) = k + 1 := by
  cases he : ft_em sp o with
  | true =>
    have hz := (ft_em_z okm).1 he
    rw [hz, Nat.add_zero]
    have hzr := ft_okR_z okr
    have h9 : 1 * 2 ^ k ≤ r.length * 2 ^ k := Nat.mul_le_mul_right _ hr
    have := Nat.one_le_two_pow (n := k)
    have := ft_wR_at (i := ft_zR r - 1) okr h1 hne hmm hk (by decide) (by omega)
    rw [show f + (ft_zR r - 1) = f + ft_zR r - 1 from by omega] at this
    exact Or.inl ⟨this.2.1, this.1⟩
  | false =>
    exact Or.inr (ft_wT_last okm he h2 hne hmm (hk2 he)).1
theorem ft_isb0 {n j k s : Nat} {w : Nat → Nat} (h : 1 ≤ j → ¬ (ft_le8 (w (j - 1)) = k ∧ ft_sd (w (j - 1)) = s)) : ft_isb n w j k s = 0 := by
  unfold ft_isb
  split
  · exact ft_is0 (h (by assumption))
  · rfl
theorem ft_isb1 {n j k s : Nat} {w : Nat → Nat} (hj : 1 ≤ j) (hn : j ≤ n) (h : ft_le8 (w (j - 1)) = k ∧ ft_sd (w (j - 1)) = s) : ft_isb n w j k s = 1 := by
  unfold ft_isb
  rw [if_pos hj]
  exact ft_is1 (by omega) h
theorem ft_rev {l : List ft_I} (h : l ≠ []) : ∃ l' x, l = l' ++ [x] := ⟨l.dropLast, l.getLast h, (List.dropLast_concat_getLast h).symm⟩
set_option maxRecDepth 100000 in
set_option maxHeartbeats 4000000 in
theorem C_M_back (l : Launch) (D : va_G) (A : Nat → ClassId) (H0 : Heap) (a : Nat → Nat) (lo hi : Nat → Int32) (en md vs n : Nat) (zf mk pl ct w : Nat → Nat) (hP : mH D a A lo hi en zf mk md pl ct vs w n H0) (hd : mDs a) (hw : ft_bw w) (hz : ∀ i, zf i < 128) (he : en ≤ 128) (hn : n ≤ 48) (k f : Nat) (x : ft_I) (sp : ft_S) (o : Option ft_I) (sd : Nat) (okx : ft_ok en md zf k x) (okt : ft_okT en md zf k sp o) (ht : ft_hd w f (ft_wT sp o)) (hx : ft_hd w (f + ft_zT sp o) (ft_wI sd x)) (hsd : sd < 4) (hB : 2 * 2 ^ k + ft_z x + ft_zT sp o ≤ 42) (hf : f + ft_zT sp o + ft_z x ≤ n) (hend : 0 < f → ft_le8 (w (f - 1)) < k) (hmd : (ft_bk sp o x (md, zf)).2.1 < 4200) : xC l y_M_back c_M_back 10 (none : Option FieldType) 3 D A H0 [.ref (a 0), .int (nI (f + ft_zT sp o + ft_z x)), .int (nI k)] (mFr a) (q0 (fun H1 => ∃ w', mH D a A lo hi en (ft_bk sp o x (md, zf)).2.2 mk (ft_bk sp o x (md, zf)).2.1 pl ct vs w' n H1 ∧ ft_bw w' ∧ ft_hd w' f (ft_wT (ft_bk sp o x (md, zf)).1.1 (ft_bk sp o x (md, zf)).1.2) ∧ ft_eo w w' f (f + ft_zT sp o + ft_z x))) 0 0 := by
  refine xC.of rfl (Nat.le_of_ble_eq_true rfl) ?_
  intro p_ e_ s_ m_ ar_ bl_ me_ c_ ls X hl
  have hl : lz ls 10 [some (.ref (a 0)), some (.int (nI (f + ft_zT sp o + ft_z x))), some (.int (nI k)), none, none, none, none, none, none, none] := hl
  have hS : va_S (mFr a) H0 H0 [] := va_S.rf
  refine x_iload_n X d_M_back_0 rfl hl rfl ?_
  refine x_istore_n X d_M_back_1 rfl hl (by decide) rfl (fun ls hl => ?_)
  refine x_iload_n X d_M_back_2 rfl hl rfl ?_
  refine x_istore X d_M_back_3 hl (by decide) rfl (fun ls hl => ?_)
  refine x_iconst (v := nI 1) X d_M_back_5 rfl ?_
  refine x_istore X d_M_back_6 hl (by decide) rfl (fun ls hl => ?_)
  generalize hPost : (fun H1 => ∃ w', mH D a A lo hi en (ft_bk sp o x (md, zf)).2.2 mk (ft_bk sp o x (md, zf)).2.1 pl ct vs w' n H1 ∧ ft_bw w' ∧ ft_hd w' f (ft_wT (ft_bk sp o x (md, zf)).1.1 (ft_bk sp o x (md, zf)).1.2) ∧ ft_eo w w' f (f + ft_zT sp o + ft_z x)) = Post
  have loop : ∀ (s0 k0 : Int32) (sp : ft_S) (x : ft_I) (k f sd md : Nat) (zf w : Nat → Nat) (v6 v7 v8 v9 : Option Value) (H1 : Heap) (locs : List Loc) (ls : Array Slot), lz ls 10 [some (.ref (a 0)), some (.int s0), some (.int k0), some (.int (nI (f + ft_zT sp o + ft_z x))), some (.int (nI k)), some (.int (nI 1)), v6, v7, v8, v9] → mH D a A lo hi en zf mk md pl ct vs w n H1 → ft_bw w → (∀ i, zf i < 128) → ft_ok en md zf k x → ft_okT en md zf k sp o → ft_hd w f (ft_wT sp o) → ft_hd w (f + ft_zT sp o) (ft_wI sd x) → sd < 4 → 2 * 2 ^ k + ft_z x + ft_zT sp o ≤ 42 → f + ft_zT sp o + ft_z x ≤ n → (0 < f → ft_le8 (w (f - 1)) < k) → (ft_bk sp o x (md, zf)).2.1 < 4200 →
      (∀ (w' : Nat → Nat) (H1 : Heap), mH D a A lo hi en (ft_bk sp o x (md, zf)).2.2 mk (ft_bk sp o x (md, zf)).2.1 pl ct vs w' n H1 → ft_bw w' → ft_hd w' f (ft_wT (ft_bk sp o x (md, zf)).1.1 (ft_bk sp o x (md, zf)).1.2) → ft_eo w w' f (f + ft_zT sp o + ft_z x) → Post H1) → va_S (mFr a) H0 H1 locs → W p_ l e_ (x_rm 3 0 0) s_ m_ ar_ bl_ me_ c_ H1 locs 0 0 (MQ bl_ (xQ (mFr a) (q0 Post)) ar_ s_ 0 0 (mFr a)) (F0 m_ 8 ls []) := by
    clear hPost hP hw hz okx okt hx ht hsd hB hf hend hmd hl hS
    intro s0 k0 sp
    induction sp with
    | nil =>
      intro x k f sd md zf w v6 v7 v8 v9 H1 locs ls hl hP hw hz okx okt ht hx hsd hB hf hend hmd hQ hS
      have hk3 : k ≤ 3 := ft_k3 (by have := ft_ok_z okx; omega)
      have hzx := ft_ok_zpos okx
      refine x_iload X d_M_back_8 hl rfl ?_
      refine n_if_eq X 193 d_M_back_10 rfl (by omega) (fun hc => absurd hc (by decide)) (fun hc => ?_)
      have hmd0 : md < 4200 := by cases o <;> exact hmd
      refine x_aload_n X d_M_back_13 rfl hl rfl ?_
      refine x_iload_n X d_M_back_14 rfl hl rfl ?_
      refine x_iload X d_M_back_15 hl rfl ?_
      refine x_goR (x_runV X (C_M_begI l D A _ a lo hi en md vs n zf mk pl ct w hP hw en md k _ sd x okx hx he (by have := hmd0; omega) hk3 hsd (by omega)) b_M_begin s_M_begin v_M_begin e_M_72 (m_at hP) rfl rfl hl rfl (Nat.le_of_ble_eq_true rfl) d_M_back_17 (Nat.le_of_ble_eq_true rfl) (Nat.le_of_ble_eq_true rfl) ⟨Nat.le_of_ble_eq_true rfl, Nat.le_of_ble_eq_true rfl⟩) hS (fun locs hS => ?_)
      refine x_istore X d_M_back_20 hl (by decide) rfl (fun ls hl => ?_)
      refine x_iconst (v := nI 0) X d_M_back_22 rfl ?_
      refine x_istore X d_M_back_23 hl (by decide) rfl (fun ls hl => ?_)
      refine x_iload X d_M_back_25 hl rfl ?_
      cases o with
      | none =>
        simp only [ft_zT, Nat.add_zero] at hf hx hQ hl
        dsimp only [ft_le8] at hend
        have hwe := hw (f - 1)
        have last : ∀ (locs : List Loc), va_S (mFr a) H0 H1 locs → W p_ l e_ (x_rm 3 0 0) s_ m_ ar_ bl_ me_ c_ H1 locs 0 0 (MQ bl_ (xQ (mFr a) (q0 Post)) ar_ s_ 0 0 (mFr a)) (F0 m_ 47 ls []) := by
          intro locs hS
          refine x_aload_n X d_M_back_47 rfl hl rfl ?_
          refine x_iload X d_M_back_48 hl rfl ?_
          refine x_iload_n X d_M_back_50 rfl hl rfl ?_
          refine x_iload X d_M_back_51 hl rfl ?_
          refine x_iconst (v := nI 2) X d_M_back_53 rfl ?_
          refine x_go0 (x_runV X (C_M_settle l D A _ a lo hi en md vs n zf mk pl ct w hP hd (hw) f (f + ft_z x) k 2 (by omega) (by omega) (by omega) (by decide)) b_M_settle s_M_settle v_M_settle e_M_56 (m_at hP) rfl rfl hl rfl (Nat.le_of_ble_eq_true rfl) d_M_back_54 (Nat.le_of_ble_eq_true rfl) (Nat.le_of_ble_eq_true rfl) ⟨Nat.le_of_ble_eq_true rfl, Nat.le_of_ble_eq_true rfl⟩) hS (fun _ h => h) (fun H locs hP hF hS => ?_)
          refine x_goto X 190 d_M_back_57 rfl ?_
          refine x_goto X 8 d_M_back_190 rfl ?_
          refine x_iload X d_M_back_8 hl rfl ?_
          refine n_if_eq X 193 d_M_back_10 rfl (by omega) (fun hc => ?_) (fun hc => absurd rfl hc)
          exact x_vret X hS (Nat.le_refl _) (Nat.le_refl _) d_M_back_193 ⟨rfl, hQ _ _ hP (ft_bw_sw hw (by omega) (by decide)) (ft_sw_I okx hx he (by omega) hk3 hsd (Nat.le_refl _) (Nat.le_refl _)) (ft_eo_sw _ _ _ _ _)⟩
        simp only [ft_zT, Nat.add_zero]
        refine n_if_le X 47 d_M_back_27 rfl (by omega) (fun hc => ?_) (fun hc => ?_)
        · exact last _ hS
        · refine x_aload_n X d_M_back_30 rfl hl rfl ?_
          refine m_get X hP 9 (by decide) e_M_34 rfl d_M_back_31 ?_
          refine x_iload X d_M_back_34 hl rfl ?_
          refine x_iconst (v := nI 1) X d_M_back_36 rfl ?_
          refine n_isub X d_M_back_37 (by omega) ?_
          refine m_ld_w X hP (by omega) d_M_back_38 ?_
          refine x_goR (x_runS X (C_M_level l D A _ (w (f - 1)) (by omega)) b_M_level s_M_level e_M_40 rfl hl rfl (Nat.le_of_ble_eq_true rfl) d_M_back_39 (Nat.le_of_ble_eq_true rfl) (Nat.le_of_ble_eq_true rfl) ⟨Nat.le_of_ble_eq_true rfl, Nat.le_of_ble_eq_true rfl⟩) hS (fun locs hS => ?_)
          refine x_iload X d_M_back_42 hl rfl ?_
          refine n_icmp_ge X 60 d_M_back_44 rfl (by omega) (by omega) (fun hc => absurd (hend (by assumption)) (by omega)) (fun hc2 => ?_)
          exact last _ hS
      | some y =>
        have oky : ft_ok en md zf k y := okt
        have hzy := ft_ok_zpos oky
        have hy : ft_hd w f (ft_wI 2 y) := ht
        simp only [ft_zT] at hf hend hB hx hl hQ ⊢
        have hyat := ft_wI_at (i := ft_z y - 1) oky hy he (by omega) hk3 (by decide) (by omega)
        rw [show f + (ft_z y - 1) = f + ft_z y - 1 from by omega] at hyat
        dsimp only [ft_le8, ft_sd] at hyat
        refine n_if_le X 47 d_M_back_27 rfl (by omega) (fun hc => absurd hc (by omega)) (fun hc => ?_)
        refine x_aload_n X d_M_back_30 rfl hl rfl ?_
        refine m_get X hP 9 (by decide) e_M_34 rfl d_M_back_31 ?_
        refine x_iload X d_M_back_34 hl rfl ?_
        refine x_iconst (v := nI 1) X d_M_back_36 rfl ?_
        refine n_isub X d_M_back_37 (by omega) ?_
        refine m_ld_w X hP (by omega) d_M_back_38 ?_
        refine x_goR (x_runS X (C_M_level l D A _ (w (f + ft_z y - 1)) (by omega)) b_M_level s_M_level e_M_40 rfl hl rfl (Nat.le_of_ble_eq_true rfl) d_M_back_39 (Nat.le_of_ble_eq_true rfl) (Nat.le_of_ble_eq_true rfl) ⟨Nat.le_of_ble_eq_true rfl, Nat.le_of_ble_eq_true rfl⟩) hS (fun locs hS => ?_)
        refine x_iload X d_M_back_42 hl rfl ?_
        refine n_icmp_ge X 60 d_M_back_44 rfl (by omega) (by omega) (fun hc => ?_) (fun hc => absurd hc (by omega))
        refine x_aload_n X d_M_back_60 rfl hl rfl ?_
        refine m_get X hP 9 (by decide) e_M_34 rfl d_M_back_61 ?_
        refine x_iload X d_M_back_64 hl rfl ?_
        refine x_iconst (v := nI 1) X d_M_back_66 rfl ?_
        refine n_isub X d_M_back_67 (by omega) ?_
        refine m_ld_w X hP (by omega) d_M_back_68 ?_
        refine x_goR (x_runS X (C_M_side l D A _ (w (f + ft_z y - 1)) (by omega)) b_M_side s_M_side e_M_44 rfl hl rfl (Nat.le_of_ble_eq_true rfl) d_M_back_69 (Nat.le_of_ble_eq_true rfl) (Nat.le_of_ble_eq_true rfl) ⟨Nat.le_of_ble_eq_true rfl, Nat.le_of_ble_eq_true rfl⟩) hS (fun locs hS => ?_)
        refine x_iconst (v := nI 2) X d_M_back_72 rfl ?_
        refine n_icmp_ne X 106 d_M_back_73 rfl (by omega) (by omega) (fun hc => absurd hyat.1 hc) (fun hc => ?_)
        refine x_aload_n X d_M_back_76 rfl hl rfl ?_
        refine x_aload_n X d_M_back_77 rfl hl rfl ?_
        refine x_iload X d_M_back_78 hl rfl ?_
        refine x_iload X d_M_back_80 hl rfl ?_
        refine x_goR (x_runV X (C_M_begI l D A _ a lo hi en md vs n zf mk pl ct w hP hw en md k f 2 y oky hy he (by omega) hk3 (by decide) (by omega)) b_M_begin s_M_begin v_M_begin e_M_72 (m_at hP) rfl rfl hl rfl (Nat.le_of_ble_eq_true rfl) d_M_back_82 (Nat.le_of_ble_eq_true rfl) (Nat.le_of_ble_eq_true rfl) ⟨Nat.le_of_ble_eq_true rfl, Nat.le_of_ble_eq_true rfl⟩) hS (fun locs hS => ?_)
        refine x_iload X d_M_back_85 hl rfl ?_
        refine x_iload X d_M_back_87 hl rfl ?_
        refine x_iconst (v := nI 0) X d_M_back_89 rfl ?_
        refine x_go0 (x_runV X (C_M_settle l D A _ a lo hi en md vs n zf mk pl ct w hP hd (hw) f (f + ft_z y) k 0 (by omega) (by omega) (by omega) (by decide)) b_M_settle s_M_settle v_M_settle e_M_56 (m_at hP) rfl rfl hl rfl (Nat.le_of_ble_eq_true rfl) d_M_back_90 (Nat.le_of_ble_eq_true rfl) (Nat.le_of_ble_eq_true rfl) ⟨Nat.le_of_ble_eq_true rfl, Nat.le_of_ble_eq_true rfl⟩) hS (fun _ h => h) (fun H locs hP hF hS => ?_)
        have hw1 := ft_bw_sw (a := f) (b := f + ft_z y) (k := k) (s := 0) hw (by omega) (by decide)
        have hx1 := ft_sw_out (a := f) (b := f + ft_z y) (k := k) (s := 0) hx (Or.inr (Nat.le_refl _))
        have hy1 := ft_sw_I (s := 0) oky hy he (by omega) hk3 (by decide) (Nat.le_refl f) (Nat.le_refl _)
        refine x_aload_n X d_M_back_93 rfl hl rfl ?_
        refine x_iload X d_M_back_94 hl rfl ?_
        refine x_iload_n X d_M_back_96 rfl hl rfl ?_
        refine x_iload X d_M_back_97 hl rfl ?_
        refine x_iconst (v := nI 1) X d_M_back_99 rfl ?_
        refine x_go0 (x_runV X (C_M_settle l D A _ a lo hi en md vs n zf mk pl ct _ hP hd (hw1) (f + ft_z y) (f + ft_z y + ft_z x) k 1 (by omega) (by omega) (by omega) (by decide)) b_M_settle s_M_settle v_M_settle e_M_56 (m_at hP) rfl rfl hl rfl (Nat.le_of_ble_eq_true rfl) d_M_back_100 (Nat.le_of_ble_eq_true rfl) (Nat.le_of_ble_eq_true rfl) ⟨Nat.le_of_ble_eq_true rfl, Nat.le_of_ble_eq_true rfl⟩) hS (fun _ h => h) (fun H locs hP hF hS => ?_)
        refine x_goto X 190 d_M_back_103 rfl ?_
        refine x_goto X 8 d_M_back_190 rfl ?_
        refine x_iload X d_M_back_8 hl rfl ?_
        refine n_if_eq X 193 d_M_back_10 rfl (by omega) (fun hc => ?_) (fun hc => absurd rfl hc)
        refine x_vret X hS (Nat.le_refl _) (Nat.le_refl _) d_M_back_193 ⟨rfl, hQ _ _ hP (ft_bw_sw hw1 (by omega) (by decide)) ?_ (ft_eo_tr (ft_eo_wd (ft_eo_sw _ _ _ _ _) (Nat.le_refl _) (by omega)) (ft_eo_wd (ft_eo_sw _ _ _ _ _) (by omega) (by omega)))⟩
        simp only [ft_bk]
        refine ft_hd3' (l := [y]) (r := [x]) ?_ (ft_hd_nil _ _) ?_
        · rw [ft_wR_one]; exact ft_sw_out hy1 (Or.inl (by rw [ft_wI_len]; exact Nat.le_refl _))
        · rw [ft_wR_one]
          simp only [ft_zR, ft_zT, Nat.add_zero]
          exact ft_sw_I okx hx1 he (by omega) hk3 hsd (Nat.le_refl _) (Nat.le_refl _)
    | cons d sp ih =>
      intro x k f sd md zf w v6 v7 v8 v9 H1 locs ls hl hP hw hz okx okt ht hx hsd hB hf hend hmd hQ hS
      have hk3 : k ≤ 3 := ft_k3 (by have := ft_ok_z okx; omega)
      have hzx := ft_ok_zpos okx
      have hzx2 := ft_ok_z okx
      obtain ⟨h1, h2, h3⟩ := ft_hd3 ht
      have hzd := ft_okT_zd okt
      have hex := (ft_bk_ok (d :: sp) x o (md, zf) k okx okt).1.1
      have hmd0 : md < 4200 := Nat.lt_of_le_of_lt hex hmd
      have h2k := Nat.one_le_two_pow (n := k)
      have hw1at := ft_wT_last okt rfl ht he (by omega) hk3
      simp only [List.isEmpty_cons, Bool.false_eq_true, if_false] at hw1at
      dsimp only [ft_le8, ft_sd] at hw1at
      have hT : ft_zT (d :: sp) o = ft_zR d.1 + ft_zT sp o + ft_zR d.2 := rfl
      obtain ⟨r', rl, hrl⟩ := ft_rev (l := d.2) (fun e => by have := okt.2.1.1; rw [e] at this; simp at this)
      have okl : ft_ok en md zf k rl := okt.2.1.2.2 rl (by rw [hrl]; simp)
      have okr : ft_okR en md zf k r' := fun y hy => okt.2.1.2.2 y (by rw [hrl]; simp [hy])
      have hzl := ft_ok_zpos okl
      have hzl2 := ft_ok_z okl
      have hzd2 : ft_zR d.2 = ft_zR r' + ft_z rl := by rw [hrl, ft_zR_app]; simp [ft_zR]
      have hlen : d.2.length = r'.length + 1 := by rw [hrl]; simp
      refine x_iload X d_M_back_8 hl rfl ?_
      refine n_if_eq X 193 d_M_back_10 rfl (by omega) (fun hc => absurd hc (by decide)) (fun hc => ?_)
      refine x_aload_n X d_M_back_13 rfl hl rfl ?_
      refine x_iload_n X d_M_back_14 rfl hl rfl ?_
      refine x_iload X d_M_back_15 hl rfl ?_
      refine x_goR (x_runV X (C_M_begI l D A _ a lo hi en md vs n zf mk pl ct w hP hw en md k _ sd x okx hx he (by have := hmd0; omega) hk3 hsd (by omega)) b_M_begin s_M_begin v_M_begin e_M_72 (m_at hP) rfl rfl hl rfl (Nat.le_of_ble_eq_true rfl) d_M_back_17 (Nat.le_of_ble_eq_true rfl) (Nat.le_of_ble_eq_true rfl) ⟨Nat.le_of_ble_eq_true rfl, Nat.le_of_ble_eq_true rfl⟩) hS (fun locs hS => ?_)
      refine x_istore X d_M_back_20 hl (by decide) rfl (fun ls hl => ?_)
      refine x_iconst (v := nI 0) X d_M_back_22 rfl ?_
      refine x_istore X d_M_back_23 hl (by decide) rfl (fun ls hl => ?_)
      refine x_iload X d_M_back_25 hl rfl ?_
      refine n_if_le X 47 d_M_back_27 rfl (by omega) (fun hc => absurd hc (by omega)) (fun hc => ?_)
      refine x_aload_n X d_M_back_30 rfl hl rfl ?_
      refine m_get X hP 9 (by decide) e_M_34 rfl d_M_back_31 ?_
      refine x_iload X d_M_back_34 hl rfl ?_
      refine x_iconst (v := nI 1) X d_M_back_36 rfl ?_
      refine n_isub X d_M_back_37 (by omega) ?_
      refine m_ld_w X hP (by omega) d_M_back_38 ?_
      refine x_goR (x_runS X (C_M_level l D A _ (w (f + ft_zT (d :: sp) o - 1)) (by omega)) b_M_level s_M_level e_M_40 rfl hl rfl (Nat.le_of_ble_eq_true rfl) d_M_back_39 (Nat.le_of_ble_eq_true rfl) (Nat.le_of_ble_eq_true rfl) ⟨Nat.le_of_ble_eq_true rfl, Nat.le_of_ble_eq_true rfl⟩) hS (fun locs hS => ?_)
      refine x_iload X d_M_back_42 hl rfl ?_
      refine n_icmp_ge X 60 d_M_back_44 rfl (by omega) (by omega) (fun hc => ?_) (fun hc => absurd hc (by omega))
      refine x_aload_n X d_M_back_60 rfl hl rfl ?_
      refine m_get X hP 9 (by decide) e_M_34 rfl d_M_back_61 ?_
      refine x_iload X d_M_back_64 hl rfl ?_
      refine x_iconst (v := nI 1) X d_M_back_66 rfl ?_
      refine n_isub X d_M_back_67 (by omega) ?_
      refine m_ld_w X hP (by omega) d_M_back_68 ?_
      refine x_goR (x_runS X (C_M_side l D A _ (w (f + ft_zT (d :: sp) o - 1)) (by omega)) b_M_side s_M_side e_M_44 rfl hl rfl (Nat.le_of_ble_eq_true rfl) d_M_back_69 (Nat.le_of_ble_eq_true rfl) (Nat.le_of_ble_eq_true rfl) ⟨Nat.le_of_ble_eq_true rfl, Nat.le_of_ble_eq_true rfl⟩) hS (fun locs hS => ?_)
      refine x_iconst (v := nI 2) X d_M_back_72 rfl ?_
      refine n_icmp_ne X 106 d_M_back_73 rfl (by omega) (by omega) (fun hc => ?_) (fun hc => absurd hc (by omega))
      refine x_aload_n X d_M_back_106 rfl hl rfl ?_
      refine x_iload X d_M_back_107 hl rfl ?_
      refine x_iload_n X d_M_back_109 rfl hl rfl ?_
      refine x_iload X d_M_back_110 hl rfl ?_
      refine x_iconst (v := nI 1) X d_M_back_112 rfl ?_
      refine x_go0 (x_runV X (C_M_settle l D A _ a lo hi en md vs n zf mk pl ct w hP hd (hw) (f + ft_zT (d :: sp) o) (f + ft_zT (d :: sp) o + ft_z x) k 1 (by omega) (by omega) (by omega) (by decide)) b_M_settle s_M_settle v_M_settle e_M_56 (m_at hP) rfl rfl hl rfl (Nat.le_of_ble_eq_true rfl) d_M_back_113 (Nat.le_of_ble_eq_true rfl) (Nat.le_of_ble_eq_true rfl) ⟨Nat.le_of_ble_eq_true rfl, Nat.le_of_ble_eq_true rfl⟩) hS (fun _ h => h) (fun H locs hP hF hS => ?_)
      have hw1 := ft_bw_sw (a := f + ft_zT (d :: sp) o) (b := f + ft_zT (d :: sp) o + ft_z x) (k := k) (s := 1) hw (by omega) (by decide)
      have hx1 := ft_sw_I (s := 1) okx hx he (by omega) hk3 hsd (Nat.le_refl (f + ft_zT (d :: sp) o)) (Nat.le_refl _)
      have g1 := ft_sw_out (a := f + ft_zT (d :: sp) o) (b := f + ft_zT (d :: sp) o + ft_z x) (k := k) (s := 1) h1 (Or.inl (by rw [ft_wR_len]; omega))
      have g2 := ft_sw_out (a := f + ft_zT (d :: sp) o) (b := f + ft_zT (d :: sp) o + ft_z x) (k := k) (s := 1) h2 (Or.inl (by rw [ft_wT_len]; omega))
      have g3 := ft_sw_out (a := f + ft_zT (d :: sp) o) (b := f + ft_zT (d :: sp) o + ft_z x) (k := k) (s := 1) h3 (Or.inl (by rw [ft_wR_len]; omega))
      have heo1 := ft_eo_sw w (f + ft_zT (d :: sp) o) (f + ft_zT (d :: sp) o + ft_z x) k 1
      generalize ft_sw w (f + ft_zT (d :: sp) o) (f + ft_zT (d :: sp) o + ft_z x) k 1 = w1 at hP hw1 hx1 g1 g2 g3 heo1 ⊢
      have g3' := g3
      rw [hrl, ft_wR_app, ft_wR_one] at g3
      obtain ⟨gr, gl⟩ := ft_hd_app.1 g3
      rw [ft_wR_len] at gl
      have hse : f + ft_zT (d :: sp) o = f + ft_zR d.1 + ft_zT sp o + ft_zR r' + ft_z rl := by omega
      refine x_aload_n X d_M_back_116 rfl hl rfl ?_
      refine x_iload X d_M_back_117 hl rfl ?_
      refine x_iload X d_M_back_119 hl rfl ?_
      rw [hse]
      refine x_goR (x_runV X (C_M_begI l D A _ a lo hi en md vs n zf mk pl ct w1 hP hw1 en md k _ 1 rl okl gl he (by omega) hk3 (by decide) (by omega)) b_M_begin s_M_begin v_M_begin e_M_72 (m_at hP) rfl rfl hl rfl (Nat.le_of_ble_eq_true rfl) d_M_back_121 (Nat.le_of_ble_eq_true rfl) (Nat.le_of_ble_eq_true rfl) ⟨Nat.le_of_ble_eq_true rfl, Nat.le_of_ble_eq_true rfl⟩) hS (fun locs hS => ?_)
      refine x_istore X d_M_back_124 hl (by decide) rfl (fun ls hl => ?_)
      refine x_iload X d_M_back_126 hl rfl ?_
      refine x_istore X d_M_back_128 hl (by decide) rfl (fun ls hl => ?_)
      refine x_iconst (v := nI 1) X d_M_back_130 rfl ?_
      refine x_istore X d_M_back_131 hl (by decide) rfl (fun ls hl => ?_)
      have cnt : ∀ (g : Nat) (rest suf : List ft_I) (locs : List Loc) (ls : Array Slot), rest.length = g → rest ++ suf = r' → lz ls 10 [some (.ref (a 0)), some (.int s0), some (.int k0), some (.int (nI (f + ft_zT (d :: sp) o + ft_z x))), some (.int (nI k)), some (.int (nI 0)), some (.int (nI (f + ft_zT (d :: sp) o))), some (.int (nI (f + ft_zR d.1 + ft_zT sp o + ft_zR r'))), some (.int (nI (f + ft_zR d.1 + ft_zT sp o + ft_zR rest))), some (.int (nI (1 + suf.length)))] → ft_hd w1 (f + ft_zR d.1 + ft_zT sp o) (ft_wR 1 rest) → va_S (mFr a) H0 H locs →
          (∀ (locs : List Loc) (ls : Array Slot), lz ls 10 [some (.ref (a 0)), some (.int s0), some (.int k0), some (.int (nI (f + ft_zT (d :: sp) o + ft_z x))), some (.int (nI k)), some (.int (nI 0)), some (.int (nI (f + ft_zT (d :: sp) o))), some (.int (nI (f + ft_zR d.1 + ft_zT sp o + ft_zR r'))), some (.int (nI (f + ft_zR d.1 + ft_zT sp o))), some (.int (nI (1 + r'.length)))] → va_S (mFr a) H0 H locs → W p_ l e_ (x_rm 3 0 0) s_ m_ ar_ bl_ me_ c_ H locs 0 0 (MQ bl_ (xQ (mFr a) (q0 Post)) ar_ s_ 0 0 (mFr a)) (F0 m_ 163 ls [])) → W p_ l e_ (x_rm 3 0 0) s_ m_ ar_ bl_ me_ c_ H locs 0 0 (MQ bl_ (xQ (mFr a) (q0 Post)) ar_ s_ 0 0 (mFr a)) (F0 m_ 133 ls []) := by
        intro g
        induction g with
        | zero =>
          intro rest suf locs ls hg hpr hl hh hS kk
          have : rest = [] := List.length_eq_zero_iff.1 hg
          subst this
          rw [List.nil_append] at hpr
          subst hpr
          have hp := ft_ahead okt.2.2 okt.1.2.2 okt.1.1 g1 g2 he (by omega) hk3 (fun hem => ft_k3 (by
            have := ft_okT_z okt.2.2 hem
            rw [Nat.pow_succ] at this ⊢
            omega))
          simp only [ft_zR, Nat.add_zero] at hl
          refine x_aload_n X d_M_back_133 rfl hl rfl ?_
          refine x_iload X d_M_back_134 hl rfl ?_
          refine x_iconst (v := nI 1) X d_M_back_136 rfl ?_
          refine x_isub X d_M_back_137 ?_
          refine x_iload X d_M_back_138 hl rfl ?_
          refine x_iconst (v := nI 1) X d_M_back_140 rfl ?_
          refine x_goR (x_runV X (C_M_isb l D A _ a lo hi en md vs n zf mk pl ct w1 hP hw1 hn _ k 1 (by omega) (by omega) (by decide)) b_M_is s_M_is v_M_is e_M_64 (m_at hP) rfl rfl hl rfl (Nat.le_of_ble_eq_true rfl) d_M_back_141 (Nat.le_of_ble_eq_true rfl) (Nat.le_of_ble_eq_true rfl) ⟨Nat.le_of_ble_eq_true rfl, Nat.le_of_ble_eq_true rfl⟩) hS (fun locs hS => ?_)
          rw [ft_isb0 (fun _ h => by omega)]
          refine n_if_eq X 163 d_M_back_144 rfl (by omega) (fun hc => ?_) (fun hc => absurd rfl hc)
          exact kk _ _ hl hS
        | succ g ih2 =>
          intro rest suf locs ls hg hpr hl hh hS kk
          obtain ⟨rest', y, hry⟩ := ft_rev (l := rest) (fun e => by rw [e] at hg; simp at hg)
          subst hry
          have hzr : ft_zR r' = ft_zR rest' + ft_z y + ft_zR suf := by rw [← hpr, ft_zR_app, ft_zR_app]; simp [ft_zR]
          have hlr : r'.length = rest'.length + 1 + suf.length := by rw [← hpr]; simp; omega
          have oky : ft_ok en md zf k y := okr y (by rw [← hpr]; simp)
          have hzy := ft_ok_zpos oky
          have hl4 := okt.2.1.2.1
          rw [ft_wR_app, ft_wR_one] at hh
          obtain ⟨hrest, hy⟩ := ft_hd_app.1 hh
          rw [ft_wR_len] at hy
          have hze : ft_zR (rest' ++ [y]) = ft_zR rest' + ft_z y := by rw [ft_zR_app]; simp [ft_zR]
          rw [hze, ← Nat.add_assoc] at hl
          have hyat := ft_wI_at (i := ft_z y - 1) oky hy he (by omega) hk3 (by decide) (by omega)
          rw [show f + ft_zR d.1 + ft_zT sp o + ft_zR rest' + (ft_z y - 1) = f + ft_zR d.1 + ft_zT sp o + ft_zR rest' + ft_z y - 1 from by omega] at hyat
          refine x_aload_n X d_M_back_133 rfl hl rfl ?_
          refine x_iload X d_M_back_134 hl rfl ?_
          refine x_iconst (v := nI 1) X d_M_back_136 rfl ?_
          refine x_isub X d_M_back_137 ?_
          refine x_iload X d_M_back_138 hl rfl ?_
          refine x_iconst (v := nI 1) X d_M_back_140 rfl ?_
          refine x_goR (x_runV X (C_M_isb l D A _ a lo hi en md vs n zf mk pl ct w1 hP hw1 hn _ k 1 (by omega) (by omega) (by decide)) b_M_is s_M_is v_M_is e_M_64 (m_at hP) rfl rfl hl rfl (Nat.le_of_ble_eq_true rfl) d_M_back_141 (Nat.le_of_ble_eq_true rfl) (Nat.le_of_ble_eq_true rfl) ⟨Nat.le_of_ble_eq_true rfl, Nat.le_of_ble_eq_true rfl⟩) hS (fun locs hS => ?_)
          rw [ft_isb1 (by omega) (by omega) ⟨hyat.2.1, hyat.1⟩]
          refine n_if_eq X 163 d_M_back_144 rfl (by omega) (fun hc => absurd hc (by decide)) (fun hc => ?_)
          refine x_aload_n X d_M_back_147 rfl hl rfl ?_
          refine x_iload X d_M_back_148 hl rfl ?_
          refine x_iload X d_M_back_150 hl rfl ?_
          refine x_goR (x_runV X (C_M_begI l D A _ a lo hi en md vs n zf mk pl ct w1 hP hw1 en md k _ 1 y oky hy he (by omega) hk3 (by decide) (by omega)) b_M_begin s_M_begin v_M_begin e_M_72 (m_at hP) rfl rfl hl rfl (Nat.le_of_ble_eq_true rfl) d_M_back_152 (Nat.le_of_ble_eq_true rfl) (Nat.le_of_ble_eq_true rfl) ⟨Nat.le_of_ble_eq_true rfl, Nat.le_of_ble_eq_true rfl⟩) hS (fun locs hS => ?_)
          refine x_istore X d_M_back_155 hl (by decide) rfl (fun ls hl => ?_)
          refine n_iinc (d := 1) X d_M_back_157 rfl hl rfl (by decide) rfl (fun ls hl => ?_)
          refine x_goto X 133 d_M_back_160 rfl ?_
          refine ih2 rest' (y :: suf) _ _ (by simpa using hg) (by rw [← hpr]; simp) ?_ hrest hS kk
          rw [List.length_cons, show 1 + (suf.length + 1) = 1 + suf.length + 1 from by omega]
          exact hl
      refine cnt r'.length r' [] _ _ rfl (List.append_nil _) hl gr hS (fun locs ls hl hS => ?_)
      clear cnt
      have hl4 := okt.2.1.2.1
      refine x_iload X d_M_back_163 hl rfl ?_
      refine x_iconst (v := nI 4) X d_M_back_165 rfl ?_
      refine n_icmp_ne X 190 d_M_back_166 rfl (by omega) (by omega) (fun hc => ?_) (fun hc => ?_)
      · have hlt : d.2.length < 4 := by omega
        have hfr : ft_bk (d :: sp) o x (md, zf) = (((d.1, d.2 ++ [x]) :: sp, o), (md, zf)) := by simp only [ft_bk, if_pos hlt]
        rw [hfr] at hQ
        refine x_goto X 8 d_M_back_190 rfl ?_
        refine x_iload X d_M_back_8 hl rfl ?_
        refine n_if_eq X 193 d_M_back_10 rfl (by omega) (fun hc => ?_) (fun hc => absurd rfl hc)
        refine x_vret X hS (Nat.le_refl _) (Nat.le_refl _) d_M_back_193 ⟨rfl, hQ _ _ hP hw1 (ft_hd3' g1 g2 ?_) (ft_eo_wd heo1 (by omega) (Nat.le_refl _))⟩
        rw [ft_wR_app, ft_wR_one, ft_hd_app, ft_wR_len]
        exact ⟨g3', by rw [show f + ft_zR d.1 + ft_zT sp o + ft_zR d.2 = f + ft_zT (d :: sp) o from by omega]; exact hx1⟩
      · have hl3 : r'.length = 3 := by omega
        have hzr3 := ft_okR_z okr
        have hk2 : k < 3 := by
          rw [hl3] at hzr3
          have : 2 ^ k < 2 ^ 3 := by omega
          exact (Nat.pow_lt_pow_iff_right (by decide)).1 this
        have hnl : ¬ d.2.length < 4 := by omega
        have htk : d.2.take 3 = r' := by rw [hrl, List.take_append_of_le_length (by omega), List.take_of_length_le (by omega)]
        have hdr : d.2.drop 3 = [rl] := by rw [hrl, ← hl3, List.drop_left]
        have hfr : ft_bk (d :: sp) o x (md, zf) = (((d.1, [rl] ++ [x]) :: (ft_bk sp o (ft_nd (md + 1) r') (md + 1, va_up zf (md + 1) (ft_zR r'))).1.1, (ft_bk sp o (ft_nd (md + 1) r') (md + 1, va_up zf (md + 1) (ft_zR r'))).1.2), (ft_bk sp o (ft_nd (md + 1) r') (md + 1, va_up zf (md + 1) (ft_zR r'))).2) := by
          simp only [ft_bk, if_neg hnl, hdr, htk, ft_nw]
        have oknd : ft_ok en (md + 1) (va_up zf (md + 1) (ft_zR r')) (k + 1) (ft_nd (md + 1) r') := ft_ok_nw (c := (md, zf)) okr (Or.inr hl3)
        have okm := ft_okT_ex (ft_ex_nw (md, zf) r') okt.2.2
        rw [hfr] at hQ hmd
        have hmd1 : md + 1 < 4200 := Nat.lt_of_le_of_lt (ft_bk_ok sp (ft_nd (md + 1) r') o (md + 1, va_up zf (md + 1) (ft_zR r')) (k + 1) oknd okm).1.1 hmd
        refine x_aload_n X d_M_back_169 rfl hl rfl ?_
        refine x_iload X d_M_back_170 hl rfl ?_
        refine x_iload X d_M_back_172 hl rfl ?_
        refine x_iload X d_M_back_174 hl rfl ?_
        refine x_iconst (v := nI 1) X d_M_back_176 rfl ?_
        refine n_iadd X d_M_back_177 ?_
        refine x_go0 (x_runV X (C_M_wrap l D A _ a lo hi en md vs n zf mk pl ct w1 hP hd hw1 (f + ft_zR d.1 + ft_zT sp o) (f + ft_zR d.1 + ft_zT sp o + ft_zR r') k (by omega) (by omega) hk2 hmd1) b_M_wrap s_M_wrap v_M_wrap e_M_68 (m_at hP) rfl rfl hl rfl (Nat.le_of_ble_eq_true rfl) d_M_back_178 (Nat.le_of_ble_eq_true rfl) (Nat.le_of_ble_eq_true rfl) ⟨Nat.le_of_ble_eq_true rfl, Nat.le_of_ble_eq_true rfl⟩) hS (fun _ h => h) (fun H locs hP hF hS => ?_)
        rw [Nat.add_sub_cancel_left] at hP
        have q1' := ft_ww_R (s := 3) (m := md + 1) okr gr he (by omega) (by omega) hk3 (by decide) (Nat.le_refl (f + ft_zR d.1 + ft_zT sp o)) (Nat.le_refl _)
        have q2 := ft_sw_out (a := (f + ft_zR d.1 + ft_zT sp o)) (b := (f + ft_zR d.1 + ft_zT sp o + ft_zR r')) (k := k + 1) (s := 3) (ft_ww_out (a := (f + ft_zR d.1 + ft_zT sp o)) (b := (f + ft_zR d.1 + ft_zT sp o + ft_zR r')) (j := k) (m := md + 1) g2 (Or.inl (by rw [ft_wT_len]; exact Nat.le_refl _))) (Or.inl (by rw [ft_wT_len]; exact Nat.le_refl _))
        have heo2 : ft_eo w1 (ft_sw (ft_ww w1 (f + ft_zR d.1 + ft_zT sp o) (f + ft_zR d.1 + ft_zT sp o + ft_zR r') k (md + 1)) (f + ft_zR d.1 + ft_zT sp o) (f + ft_zR d.1 + ft_zT sp o + ft_zR r') (k + 1) 3) (f + ft_zR d.1 + ft_zT sp o) (f + ft_zR d.1 + ft_zT sp o + ft_zR r') := ft_eo_tr (ft_eo_ww _ _ _ _ _) (ft_eo_sw _ _ _ _ _)
        have hw3 := ft_bw_sw (a := (f + ft_zR d.1 + ft_zT sp o)) (b := (f + ft_zR d.1 + ft_zT sp o + ft_zR r')) (k := k + 1) (s := 3) (ft_bw_ww (a := (f + ft_zR d.1 + ft_zT sp o)) (b := (f + ft_zR d.1 + ft_zT sp o + ft_zR r')) (j := k) (m := md + 1) hw1 hk2 (by omega)) (by omega) (by decide)
        generalize ft_sw (ft_ww w1 (f + ft_zR d.1 + ft_zT sp o) (f + ft_zR d.1 + ft_zT sp o + ft_zR r') k (md + 1)) (f + ft_zR d.1 + ft_zT sp o) (f + ft_zR d.1 + ft_zT sp o + ft_zR r') (k + 1) 3 = w3 at hP q1' q2 heo2 hw3
        have hznd : ft_z (ft_nd (md + 1) r') = ft_zR r' := ft_z_nd _ _
        have hr3 := ft_wR_at (i := ft_zR d.1 - 1) okt.1.2.2 g1 he (by omega) hk3 (by decide) (by omega)
        rw [show f + (ft_zR d.1 - 1) = f + ft_zR d.1 - 1 from by omega] at hr3
        refine x_iload X d_M_back_181 hl rfl ?_
        refine x_istore_n X d_M_back_183 rfl hl (by decide) rfl (fun ls hl => ?_)
        refine n_iinc (d := 1) X d_M_back_184 rfl hl rfl (by decide) rfl (fun ls hl => ?_)
        refine x_iconst (v := nI 1) X d_M_back_187 rfl ?_
        refine x_istore X d_M_back_188 hl (by decide) rfl (fun ls hl => ?_)
        refine x_goto X 8 d_M_back_190 rfl ?_
        rw [← hznd] at hl
        refine ih (ft_nd (md + 1) r') (k + 1) (f + ft_zR d.1) 3 (md + 1) (va_up zf (md + 1) (ft_zR r')) w3 _ _ _ _ _ _ _ hl hP hw3 (ft_up128 hz (by omega)) oknd okm q2 q1' (by decide) (by rw [hznd, Nat.pow_succ]; omega) (by rw [hznd]; omega) (fun _ => by rw [heo2 _ (Or.inl (by omega)), hr3.2.1]; omega) hmd ?_ hS
        intro w4 H4 hP4 hw4 hh4 heo4
        rw [hznd] at heo4
        have heo24 : ft_eo w1 w4 (f + ft_zR d.1) (f + ft_zR d.1 + ft_zT sp o + ft_zR r') := ft_eo_tr (ft_eo_wd heo2 (by omega) (by omega)) heo4
        have hzf := ft_bk_z sp (ft_nd (md + 1) r') o (md + 1, va_up zf (md + 1) (ft_zR r'))
        rw [hznd] at hzf
        refine hQ w4 H4 hP4 hw4 (ft_hd3' ?_ hh4 ?_) (ft_eo_tr (ft_eo_wd heo1 (by omega) (Nat.le_refl _)) (ft_eo_wd heo24 (by omega) (by omega)))
        · exact ft_eo_hd heo24 g1 (Or.inl (by rw [ft_wR_len]; exact Nat.le_refl _))
        · rw [show f + ft_zR d.1 + ft_zT (ft_bk sp o (ft_nd (md + 1) r') (md + 1, va_up zf (md + 1) (ft_zR r'))).1.1 (ft_bk sp o (ft_nd (md + 1) r') (md + 1, va_up zf (md + 1) (ft_zR r'))).1.2 = f + ft_zR d.1 + ft_zT sp o + ft_zR r' from by rw [hzf]; omega, ft_wR_app, ft_wR_one, ft_wR_one, ft_hd_app, ft_wI_len]
          exact ⟨ft_eo_hd heo24 gl (Or.inr (Nat.le_refl _)), by rw [← hse]; exact ft_eo_hd heo24 hx1 (Or.inr (by omega))⟩
  exact loop (nI (f + ft_zT sp o + ft_z x)) (nI k) sp x k f sd md zf w none none none none H0 [] _ hl hP hw hz okx okt ht hx hsd hB hf hend hmd (fun w' H1 h1 h2 h3 h4 => by rw [← hPost]; exact ⟨w', h1, h2, h3, h4⟩) hS
end
section
/-! Contract of the reference: closeLeft. -/
theorem ft_re_op {d : List ft_I × List ft_I} {sp : ft_S} {o : Option ft_I} (h1 : 1 ≤ d.1.length) (h2 : 1 ≤ d.2.length) : ft_re (d :: sp) o = ft_op (d.1.drop 1) sp o d.2 := by
  unfold ft_re ft_op
  by_cases h : 1 < d.1.length
  · rw [if_pos h, if_pos ⟨by rw [List.length_drop]; omega, h2⟩]
  · have e : d.1.drop 1 = [] := List.drop_of_length_le (by omega)
    rw [if_neg h, e]
    simp only [List.length_nil, Nat.lt_irrefl, false_and, if_false, if_true]
theorem ft_le_op {d : List ft_I × List ft_I} {sp : ft_S} {o : Option ft_I} (h1 : 1 ≤ d.1.length) (h2 : 1 ≤ d.2.length) : ft_le (d :: sp) o = ft_op d.1 sp o (d.2.take (d.2.length - 1)) := by
  unfold ft_le ft_op
  by_cases h : 1 < d.2.length
  · rw [if_pos h, if_pos ⟨h1, by rw [List.length_take]; omega⟩]
  · have e : d.2.take (d.2.length - 1) = [] := by rw [show d.2.length - 1 = 0 from by omega]; rfl
    have hn : d.1.length ≠ 0 := by omega
    rw [if_neg h, e]
    simp only [List.length_nil, Nat.lt_irrefl, and_false, if_false, if_neg hn]
theorem ft_is_ge {n j k s : Nat} {w : Nat → Nat} (h : n ≤ j) : ft_is n w j k s = 0 := by
  unfold ft_is
  rw [if_neg (by omega)]
theorem ft_op_lr {l r : List ft_I} {sp : ft_S} {o : Option ft_I} (hl : 1 ≤ l.length) (hr : 1 ≤ r.length) : ft_op l sp o r = ((l, r) :: sp, o) := by
  unfold ft_op
  rw [if_pos ⟨hl, hr⟩]
theorem ft_op_l0 {r : List ft_I} {sp : ft_S} {o : Option ft_I} : ft_op [] sp o r = if ft_em sp o then ft_ln r else ((ft_ps (ft_fi sp o), r) :: (ft_re sp o).1, (ft_re sp o).2) := by
  unfold ft_op
  rw [if_neg (by simp)]
  simp only [List.length_nil, if_true]
set_option maxRecDepth 100000 in
set_option maxHeartbeats 4000000 in
theorem C_M_closeLeft (l : Launch) (D : va_G) (A : Nat → ClassId) (H0 : Heap) (a : Nat → Nat) (lo hi : Nat → Int32) (en md vs n : Nat) (zf mk pl ct w : Nat → Nat) (hP : mH D a A lo hi en zf mk md pl ct vs w n H0) (hd : mDs a) (hw : ft_bw w) (hz : ∀ i, zf i < 128) (he : en ≤ 128) (hm : md < 4200) (hn : n ≤ 48) (k f : Nat) (dl dr : List ft_I) (sp : ft_S) (o : Option ft_I) (okl : ft_okR en md zf k dl) (okr : ft_okR en md zf k dr) (okm : ft_okT en md zf (k + 1) sp o) (h1 : ft_hd w f (ft_wR 0 dl)) (h2 : ft_hd w (f + ft_zR dl) (ft_wT sp o)) (h3 : ft_hd w (f + ft_zR dl + ft_zT sp o) (ft_wR 1 dr)) (hl4 : dl.length ≤ 4) (hr1 : 1 ≤ dr.length) (hr4 : dr.length ≤ 4) (hB : 3 * 2 ^ k + (ft_zR dl + ft_zT sp o + ft_zR dr) ≤ 42) (hf : f + (ft_zR dl + ft_zT sp o + ft_zR dr) ≤ n) (hend : (f + (ft_zR dl + ft_zT sp o + ft_zR dr) < n → ft_le8 (w (f + (ft_zR dl + ft_zT sp o + ft_zR dr))) < k)) : xC l y_M_closeLeft c_M_closeLeft 7 (none : Option FieldType) 3 D A H0 [.ref (a 0), .int (nI f), .int (nI k)] (mFr a) (q0 (fun H1 => ∃ w', mH D a A lo hi en zf mk md pl ct vs w' n H1 ∧ ft_bw w' ∧ ft_hd w' f (ft_wT (ft_op dl sp o dr).1 (ft_op dl sp o dr).2) ∧ ft_eo w w' f (f + (ft_zR dl + ft_zT sp o + ft_zR dr)))) 0 0 := by
  refine xC.of rfl (Nat.le_of_ble_eq_true rfl) ?_
  intro p_ e_ s_ m_ ar_ bl_ me_ c_ ls X hl
  have hl : lz ls 7 [some (.ref (a 0)), some (.int (nI f)), some (.int (nI k)), none, none, none, none] := hl
  have hS : va_S (mFr a) H0 H0 [] := va_S.rf
  refine x_iload_n X d_M_closeLeft_0 rfl hl rfl ?_
  refine x_istore_n X d_M_closeLeft_1 rfl hl (by decide) rfl (fun ls hl => ?_)
  refine x_iload_n X d_M_closeLeft_2 rfl hl rfl ?_
  refine x_istore X d_M_closeLeft_3 hl (by decide) rfl (fun ls hl => ?_)
  generalize hPost : (fun H1 => ∃ w', mH D a A lo hi en zf mk md pl ct vs w' n H1 ∧ ft_bw w' ∧ ft_hd w' f (ft_wT (ft_op dl sp o dr).1 (ft_op dl sp o dr).2) ∧ ft_eo w w' f (f + (ft_zR dl + ft_zT sp o + ft_zR dr))) = Post
  have loop : ∀ (s0 k0 : Int32) (sp : ft_S) (dl dr : List ft_I) (k f : Nat) (w : Nat → Nat) (v5 v6 : Option Value) (H1 : Heap) (locs : List Loc) (ls : Array Slot), lz ls 7 [some (.ref (a 0)), some (.int s0), some (.int k0), some (.int (nI f)), some (.int (nI k)), v5, v6] → mH D a A lo hi en zf mk md pl ct vs w n H1 → ft_bw w → ft_okR en md zf k dl → ft_okR en md zf k dr → ft_okT en md zf (k + 1) sp o → ft_hd w f (ft_wR 0 dl) → ft_hd w (f + ft_zR dl) (ft_wT sp o) → ft_hd w (f + ft_zR dl + ft_zT sp o) (ft_wR 1 dr) → dl.length ≤ 4 → 1 ≤ dr.length → dr.length ≤ 4 → 3 * 2 ^ k + (ft_zR dl + ft_zT sp o + ft_zR dr) ≤ 42 → f + (ft_zR dl + ft_zT sp o + ft_zR dr) ≤ n → (f + (ft_zR dl + ft_zT sp o + ft_zR dr) < n → ft_le8 (w (f + (ft_zR dl + ft_zT sp o + ft_zR dr))) < k) →
      (∀ (w' : Nat → Nat) (H1 : Heap), mH D a A lo hi en zf mk md pl ct vs w' n H1 → ft_bw w' → ft_hd w' f (ft_wT (ft_op dl sp o dr).1 (ft_op dl sp o dr).2) → ft_eo w w' f (f + (ft_zR dl + ft_zT sp o + ft_zR dr)) → Post H1) → va_S (mFr a) H0 H1 locs → W p_ l e_ (x_rm 3 0 0) s_ m_ ar_ bl_ me_ c_ H1 locs 0 0 (MQ bl_ (xQ (mFr a) (q0 Post)) ar_ s_ 0 0 (mFr a)) (F0 m_ 5 ls []) := by
    clear hPost hP hw okl okr okm h1 h2 h3 hl4 hr1 hr4 hB hf hend hl hS
    intro s0 k0 sp
    induction sp with
    | nil =>
      intro dl dr k f w v5 v6 H1 locs ls hl hP hw okl okr okm h1 h2 h3 hl4 hr1 hr4 hB hf hend hQ hS
      have hzr := ft_okR_z okr
      have hzr1 : 1 * 2 ^ k ≤ dr.length * 2 ^ k := Nat.mul_le_mul_right _ hr1
      have h2k := Nat.one_le_two_pow (n := k)
      have hk3 : k ≤ 3 := ft_k3 (by omega)
      have hwf := hw f
      dsimp only [ft_le8] at hend
      rcases Nat.eq_zero_or_pos dl.length with hdl | hdl
      rotate_left
      · have hzl := ft_okR_z okl
        have hzl1 : 1 * 2 ^ k ≤ dl.length * 2 ^ k := Nat.mul_le_mul_right _ hdl
        have hat := ft_wR_at (i := 0) okl h1 he (by omega) hk3 (by decide) (by omega)
        rw [Nat.add_zero] at hat
        rw [ft_op_lr hdl hr1] at hQ
        refine x_aload_n X d_M_closeLeft_5 rfl hl rfl ?_
        refine x_iload_n X d_M_closeLeft_6 rfl hl rfl ?_
        refine x_iload X d_M_closeLeft_7 hl rfl ?_
        refine x_iconst (v := nI 0) X d_M_closeLeft_9 rfl ?_
        refine x_goR (x_runV X (C_M_is l D A _ a lo hi en md vs n zf mk pl ct w hP hw hn f k 0 (by omega) (by omega) (by decide)) b_M_is s_M_is v_M_is e_M_64 (m_at hP) rfl rfl hl rfl (Nat.le_of_ble_eq_true rfl) d_M_closeLeft_10 (Nat.le_of_ble_eq_true rfl) (Nat.le_of_ble_eq_true rfl) ⟨Nat.le_of_ble_eq_true rfl, Nat.le_of_ble_eq_true rfl⟩) hS (fun locs hS => ?_)
        rw [ft_is1 (by omega) ⟨hat.2.1, hat.1⟩]
        refine n_if_ne X 125 d_M_closeLeft_13 rfl (by omega) (fun hc => ?_) (fun hc => absurd hc (by decide))
        exact x_vret X hS (Nat.le_refl _) (Nat.le_refl _) d_M_closeLeft_125 ⟨rfl, hQ _ _ hP hw (ft_hd3' h1 h2 h3) (ft_eo_rf _ _ _)⟩
      · have hdl0 : dl = [] := List.length_eq_zero_iff.1 hdl
        subst hdl0
        simp only [ft_zR, Nat.zero_add, Nat.add_zero] at h2 h3 hB hf hend hQ
        refine x_aload_n X d_M_closeLeft_5 rfl hl rfl ?_
        refine x_iload_n X d_M_closeLeft_6 rfl hl rfl ?_
        refine x_iload X d_M_closeLeft_7 hl rfl ?_
        refine x_iconst (v := nI 0) X d_M_closeLeft_9 rfl ?_
        refine x_goR (x_runV X (C_M_is l D A _ a lo hi en md vs n zf mk pl ct w hP hw hn f k 0 (by omega) (by omega) (by decide)) b_M_is s_M_is v_M_is e_M_64 (m_at hP) rfl rfl hl rfl (Nat.le_of_ble_eq_true rfl) d_M_closeLeft_10 (Nat.le_of_ble_eq_true rfl) (Nat.le_of_ble_eq_true rfl) ⟨Nat.le_of_ble_eq_true rfl, Nat.le_of_ble_eq_true rfl⟩) hS (fun locs hS => ?_)
        have hp := ft_past okm okr hr1 h2 h3 he (by omega) hk3 (fun hem => ft_k3 (by
          have := ft_okT_z okm hem
          rw [Nat.pow_succ] at this ⊢
          omega))
        rw [ft_is0 (fun h => by omega)]
        dsimp only [ft_le8, ft_sd] at hp
        refine n_if_ne X 125 d_M_closeLeft_13 rfl (by omega) (fun hc => absurd rfl hc) (fun hc => ?_)
        refine x_iload_n X d_M_closeLeft_16 rfl hl rfl ?_
        refine x_aload_n X d_M_closeLeft_17 rfl hl rfl ?_
        refine m_get X hP 10 (by decide) e_M_37 rfl d_M_closeLeft_18 ?_
        cases o with
        | none =>
          simp only [ft_zT, Nat.zero_add, Nat.add_zero] at h3 hB hf hend hQ
          rw [ft_op_l0, if_pos (show ft_em [] none = true from rfl)] at hQ
          have hat := ft_wR_at (i := 0) okr h3 he (by omega) hk3 (by decide) (by omega)
          rw [Nat.add_zero] at hat
          dsimp only [ft_le8] at hat
          refine n_icmp_ge X 38 d_M_closeLeft_21 rfl (by omega) (by omega) (fun hc => absurd hc (by omega)) (fun hc => ?_)
          refine x_aload_n X d_M_closeLeft_24 rfl hl rfl ?_
          refine m_get X hP 9 (by decide) e_M_34 rfl d_M_closeLeft_25 ?_
          refine x_iload_n X d_M_closeLeft_28 rfl hl rfl ?_
          refine m_ld_w X hP (by omega) d_M_closeLeft_29 ?_
          refine x_goR (x_runS X (C_M_level l D A _ (w f) (by omega)) b_M_level s_M_level e_M_40 rfl hl rfl (Nat.le_of_ble_eq_true rfl) d_M_closeLeft_30 (Nat.le_of_ble_eq_true rfl) (Nat.le_of_ble_eq_true rfl) ⟨Nat.le_of_ble_eq_true rfl, Nat.le_of_ble_eq_true rfl⟩) hS (fun locs hS => ?_)
          refine x_iload X d_M_closeLeft_33 hl rfl ?_
          refine n_icmp_gt X 69 d_M_closeLeft_35 rfl (by omega) (by omega) (fun hc => absurd hc (by omega)) (fun hc => ?_)
          refine x_iload_n X d_M_closeLeft_38 rfl hl rfl ?_
          refine x_istore X d_M_closeLeft_39 hl (by decide) rfl (fun ls hl => ?_)
          have cnt : ∀ (g i : Nat) (locs : List Loc) (ls : Array Slot), ft_zR dr - i = g → i ≤ ft_zR dr → lz ls 7 [some (.ref (a 0)), some (.int s0), some (.int k0), some (.int (nI f)), some (.int (nI k)), some (.int (nI (f + i))), v6] → va_S (mFr a) H0 H1 locs → W p_ l e_ (x_rm 3 0 0) s_ m_ ar_ bl_ me_ c_ H1 locs 0 0 (MQ bl_ (xQ (mFr a) (q0 Post)) ar_ s_ 0 0 (mFr a)) (F0 m_ 41 ls []) := by
            intro g
            induction g with
            | zero =>
              intro i locs ls hg hiz hl hS
              have hie : i = ft_zR dr := by omega
              subst hie
              refine x_aload_n X d_M_closeLeft_41 rfl hl rfl ?_
              refine x_iload X d_M_closeLeft_42 hl rfl ?_
              refine x_iload X d_M_closeLeft_44 hl rfl ?_
              refine x_iconst (v := nI 1) X d_M_closeLeft_46 rfl ?_
              refine x_goR (x_runV X (C_M_is l D A _ a lo hi en md vs n zf mk pl ct w hP hw hn _ k 1 (by omega) (by omega) (by decide)) b_M_is s_M_is v_M_is e_M_64 (m_at hP) rfl rfl hl rfl (Nat.le_of_ble_eq_true rfl) d_M_closeLeft_47 (Nat.le_of_ble_eq_true rfl) (Nat.le_of_ble_eq_true rfl) ⟨Nat.le_of_ble_eq_true rfl, Nat.le_of_ble_eq_true rfl⟩) hS (fun locs hS => ?_)
              have e0 : ft_is n w (f + ft_zR dr) k 1 = 0 := by
                rcases Nat.lt_or_ge (f + ft_zR dr) n with h | h
                · have h5 := hend h
                  exact ft_is0 (fun h6 => by have h7 := h6.1; dsimp only [ft_le8] at h7; omega)
                · exact ft_is_ge h
              rw [e0]
              refine n_if_eq X 59 d_M_closeLeft_50 rfl (by omega) (fun hc => ?_) (fun hc => absurd rfl hc)
              refine x_aload_n X d_M_closeLeft_59 rfl hl rfl ?_
              refine x_iload_n X d_M_closeLeft_60 rfl hl rfl ?_
              refine x_iload X d_M_closeLeft_61 hl rfl ?_
              refine x_iload X d_M_closeLeft_63 hl rfl ?_
              refine x_go0 (x_runV X (C_M_line l D A _ a lo hi en md vs n zf mk pl ct w hP hd hw hz he hm k f 1 dr okr h3 hk3 (by decide) (by omega) (by omega)) b_M_line s_M_line v_M_line e_M_75 (m_at hP) rfl rfl hl rfl (Nat.le_of_ble_eq_true rfl) d_M_closeLeft_65 (Nat.le_of_ble_eq_true rfl) (Nat.le_of_ble_eq_true rfl) ⟨Nat.le_of_ble_eq_true rfl, Nat.le_of_ble_eq_true rfl⟩) hS (fun _ h => h) (fun H locs hP hF hS => ?_)
              obtain ⟨w', hP', hw', hh', heo'⟩ := hP
              exact x_vret X hS (Nat.le_refl _) (Nat.le_refl _) d_M_closeLeft_68 ⟨rfl, hQ _ _ hP' hw' hh' heo'⟩
            | succ g ih =>
              intro i locs ls hg hiz hl hS
              have hati := ft_wR_at (i := i) okr h3 he (by omega) hk3 (by decide) (by omega)
              refine x_aload_n X d_M_closeLeft_41 rfl hl rfl ?_
              refine x_iload X d_M_closeLeft_42 hl rfl ?_
              refine x_iload X d_M_closeLeft_44 hl rfl ?_
              refine x_iconst (v := nI 1) X d_M_closeLeft_46 rfl ?_
              refine x_goR (x_runV X (C_M_is l D A _ a lo hi en md vs n zf mk pl ct w hP hw hn _ k 1 (by omega) (by omega) (by decide)) b_M_is s_M_is v_M_is e_M_64 (m_at hP) rfl rfl hl rfl (Nat.le_of_ble_eq_true rfl) d_M_closeLeft_47 (Nat.le_of_ble_eq_true rfl) (Nat.le_of_ble_eq_true rfl) ⟨Nat.le_of_ble_eq_true rfl, Nat.le_of_ble_eq_true rfl⟩) hS (fun locs hS => ?_)
              rw [ft_is1 (by omega) ⟨hati.2.1, hati.1⟩]
              refine n_if_eq X 59 d_M_closeLeft_50 rfl (by omega) (fun hc => absurd hc (by decide)) (fun hc => ?_)
              refine n_iinc (d := 1) X d_M_closeLeft_53 rfl hl rfl (by decide) rfl (fun ls hl => ?_)
              refine x_goto X 41 d_M_closeLeft_56 rfl ?_
              exact ih (i + 1) _ _ (by omega) (by omega) hl hS
          exact cnt (ft_zR dr) 0 _ _ rfl (Nat.zero_le _) hl hS
        | some y =>
          have oky : ft_ok en md zf (k + 1) y := okm
          have hy : ft_hd w f (ft_wI 2 y) := h2
          simp only [ft_zT] at h3 hB hf hend hQ
          have hzy := ft_ok_z oky
          rw [Nat.pow_succ] at hzy
          have hk2 : k < 3 := by
            have : 2 ^ k < 2 ^ 3 := by omega
            exact (Nat.pow_lt_pow_iff_right (by decide)).1 this
          rw [ft_op_l0, if_neg (by simp [ft_em])] at hQ
          have hat := ft_wI_at (i := 0) oky hy he (by omega) (by omega) (by decide) (by omega)
          rw [Nat.add_zero] at hat
          dsimp only [ft_le8, ft_sd] at hat
          have hps := ft_okR_ps oky
          refine n_icmp_ge X 38 d_M_closeLeft_21 rfl (by omega) (by omega) (fun hc => absurd hc (by omega)) (fun hc => ?_)
          refine x_aload_n X d_M_closeLeft_24 rfl hl rfl ?_
          refine m_get X hP 9 (by decide) e_M_34 rfl d_M_closeLeft_25 ?_
          refine x_iload_n X d_M_closeLeft_28 rfl hl rfl ?_
          refine m_ld_w X hP (by omega) d_M_closeLeft_29 ?_
          refine x_goR (x_runS X (C_M_level l D A _ (w f) (by omega)) b_M_level s_M_level e_M_40 rfl hl rfl (Nat.le_of_ble_eq_true rfl) d_M_closeLeft_30 (Nat.le_of_ble_eq_true rfl) (Nat.le_of_ble_eq_true rfl) ⟨Nat.le_of_ble_eq_true rfl, Nat.le_of_ble_eq_true rfl⟩) hS (fun locs hS => ?_)
          refine x_iload X d_M_closeLeft_33 hl rfl ?_
          refine n_icmp_gt X 69 d_M_closeLeft_35 rfl (by omega) (by omega) (fun hc => ?_) (fun hc => absurd hc (by omega))
          refine x_aload_n X d_M_closeLeft_69 rfl hl rfl ?_
          refine m_get X hP 9 (by decide) e_M_34 rfl d_M_closeLeft_70 ?_
          refine x_iload_n X d_M_closeLeft_73 rfl hl rfl ?_
          refine m_ld_w X hP (by omega) d_M_closeLeft_74 ?_
          refine x_goR (x_runS X (C_M_side l D A _ (w f) (by omega)) b_M_side s_M_side e_M_44 rfl hl rfl (Nat.le_of_ble_eq_true rfl) d_M_closeLeft_75 (Nat.le_of_ble_eq_true rfl) (Nat.le_of_ble_eq_true rfl) ⟨Nat.le_of_ble_eq_true rfl, Nat.le_of_ble_eq_true rfl⟩) hS (fun locs hS => ?_)
          refine x_iconst (v := nI 2) X d_M_closeLeft_78 rfl ?_
          refine n_icmp_ne X 86 d_M_closeLeft_79 rfl (by omega) (by omega) (fun hc => absurd hat.1 hc) (fun hc => ?_)
          refine x_iconst (v := nI 1) X d_M_closeLeft_82 rfl ?_
          refine x_goto X 87 d_M_closeLeft_83 rfl ?_
          refine x_istore X d_M_closeLeft_87 hl (by decide) rfl (fun ls hl => ?_)
          refine x_aload_n X d_M_closeLeft_89 rfl hl rfl ?_
          refine x_iload_n X d_M_closeLeft_90 rfl hl rfl ?_
          refine x_iload X d_M_closeLeft_91 hl rfl ?_
          refine x_iconst (v := nI 1) X d_M_closeLeft_93 rfl ?_
          refine n_iadd X d_M_closeLeft_94 ?_
          refine x_goR (x_runV X (C_M_endI l D A _ a lo hi en md vs n zf mk pl ct w hP hw hz en md (k + 1) f 2 y oky hy he (by omega) (by omega) (by decide) (by omega)) b_M_end s_M_end v_M_end e_M_60 (m_at hP) rfl rfl hl rfl (Nat.le_of_ble_eq_true rfl) d_M_closeLeft_95 (Nat.le_of_ble_eq_true rfl) (Nat.le_of_ble_eq_true rfl) ⟨Nat.le_of_ble_eq_true rfl, Nat.le_of_ble_eq_true rfl⟩) hS (fun locs hS => ?_)
          refine x_istore X d_M_closeLeft_98 hl (by decide) rfl (fun ls hl => ?_)
          refine x_aload_n X d_M_closeLeft_100 rfl hl rfl ?_
          refine x_iload_n X d_M_closeLeft_101 rfl hl rfl ?_
          refine x_iload X d_M_closeLeft_102 hl rfl ?_
          refine x_iload X d_M_closeLeft_104 hl rfl ?_
          refine x_iconst (v := nI 0) X d_M_closeLeft_106 rfl ?_
          refine x_go0 (x_runV X (C_M_settle l D A _ a lo hi en md vs n zf mk pl ct w hP hd hw f (f + ft_z y) k 0 (by omega) (by omega) (by omega) (by decide)) b_M_settle s_M_settle v_M_settle e_M_56 (m_at hP) rfl rfl hl rfl (Nat.le_of_ble_eq_true rfl) d_M_closeLeft_107 (Nat.le_of_ble_eq_true rfl) (Nat.le_of_ble_eq_true rfl) ⟨Nat.le_of_ble_eq_true rfl, Nat.le_of_ble_eq_true rfl⟩) hS (fun _ h => h) (fun H locs hP hF hS => ?_)
          refine x_iload X d_M_closeLeft_110 hl rfl ?_
          refine n_if_eq X 116 d_M_closeLeft_112 rfl (by omega) (fun hc => absurd hc (by decide)) (fun hc => ?_)
          refine x_vret X hS (Nat.le_refl _) (Nat.le_refl _) d_M_closeLeft_115 ⟨rfl, hQ _ _ hP (ft_bw_sw hw (by omega) (by decide)) (ft_hd3' ?_ (ft_hd_nil _ _) ?_) (ft_eo_wd (ft_eo_sw _ _ _ _ _) (Nat.le_refl _) (by omega))⟩
          · exact ft_sw_U oky hy he (by omega) (by omega) (by decide) (Nat.le_refl _) (Nat.le_refl _)
          · show ft_hd _ (f + ft_zR (ft_ps y) + 0) (ft_wR 1 dr)
            rw [hps.2.1, Nat.add_zero]
            exact ft_sw_out h3 (Or.inr (Nat.le_refl _))
    | cons d sp ih =>
      intro dl dr k f w v5 v6 H1 locs ls hl hP hw okl okr okm h1 h2 h3 hl4 hr1 hr4 hB hf hend hQ hS
      have hzr := ft_okR_z okr
      have hzr1 : 1 * 2 ^ k ≤ dr.length * 2 ^ k := Nat.mul_le_mul_right _ hr1
      have h2k := Nat.one_le_two_pow (n := k)
      have hk3 : k ≤ 3 := ft_k3 (by omega)
      have hwf := hw f
      dsimp only [ft_le8] at hend
      rcases Nat.eq_zero_or_pos dl.length with hdl | hdl
      rotate_left
      · have hzl := ft_okR_z okl
        have hzl1 : 1 * 2 ^ k ≤ dl.length * 2 ^ k := Nat.mul_le_mul_right _ hdl
        have hat := ft_wR_at (i := 0) okl h1 he (by omega) hk3 (by decide) (by omega)
        rw [Nat.add_zero] at hat
        rw [ft_op_lr hdl hr1] at hQ
        refine x_aload_n X d_M_closeLeft_5 rfl hl rfl ?_
        refine x_iload_n X d_M_closeLeft_6 rfl hl rfl ?_
        refine x_iload X d_M_closeLeft_7 hl rfl ?_
        refine x_iconst (v := nI 0) X d_M_closeLeft_9 rfl ?_
        refine x_goR (x_runV X (C_M_is l D A _ a lo hi en md vs n zf mk pl ct w hP hw hn f k 0 (by omega) (by omega) (by decide)) b_M_is s_M_is v_M_is e_M_64 (m_at hP) rfl rfl hl rfl (Nat.le_of_ble_eq_true rfl) d_M_closeLeft_10 (Nat.le_of_ble_eq_true rfl) (Nat.le_of_ble_eq_true rfl) ⟨Nat.le_of_ble_eq_true rfl, Nat.le_of_ble_eq_true rfl⟩) hS (fun locs hS => ?_)
        rw [ft_is1 (by omega) ⟨hat.2.1, hat.1⟩]
        refine n_if_ne X 125 d_M_closeLeft_13 rfl (by omega) (fun hc => ?_) (fun hc => absurd hc (by decide))
        exact x_vret X hS (Nat.le_refl _) (Nat.le_refl _) d_M_closeLeft_125 ⟨rfl, hQ _ _ hP hw (ft_hd3' h1 h2 h3) (ft_eo_rf _ _ _)⟩
      · have hdl0 : dl = [] := List.length_eq_zero_iff.1 hdl
        subst hdl0
        simp only [ft_zR, Nat.zero_add, Nat.add_zero] at h2 h3 hB hf hend hQ
        refine x_aload_n X d_M_closeLeft_5 rfl hl rfl ?_
        refine x_iload_n X d_M_closeLeft_6 rfl hl rfl ?_
        refine x_iload X d_M_closeLeft_7 hl rfl ?_
        refine x_iconst (v := nI 0) X d_M_closeLeft_9 rfl ?_
        refine x_goR (x_runV X (C_M_is l D A _ a lo hi en md vs n zf mk pl ct w hP hw hn f k 0 (by omega) (by omega) (by decide)) b_M_is s_M_is v_M_is e_M_64 (m_at hP) rfl rfl hl rfl (Nat.le_of_ble_eq_true rfl) d_M_closeLeft_10 (Nat.le_of_ble_eq_true rfl) (Nat.le_of_ble_eq_true rfl) ⟨Nat.le_of_ble_eq_true rfl, Nat.le_of_ble_eq_true rfl⟩) hS (fun locs hS => ?_)
        have hp := ft_past okm okr hr1 h2 h3 he (by omega) hk3 (fun hem => ft_k3 (by
          have := ft_okT_z okm hem
          rw [Nat.pow_succ] at this ⊢
          omega))
        rw [ft_is0 (fun h => by omega)]
        have hat := ft_wT_first okm rfl h2 he (by omega) (ft_k3 (by
          have := ft_okT_z okm rfl
          rw [Nat.pow_succ] at this ⊢
          omega))
        simp only [List.isEmpty_cons, Bool.false_eq_true, if_false] at hat
        dsimp only [ft_le8, ft_sd] at hat
        have hzm := ft_okT_zd okm
        rw [Nat.pow_succ] at hzm
        obtain ⟨m1, m2, m3⟩ := ft_hd3 h2
        have hT : ft_zT (d :: sp) o = ft_zR d.1 + ft_zT sp o + ft_zR d.2 := rfl
        obtain ⟨l0, l', hl0⟩ : ∃ l0 l', d.1 = l0 :: l' := by
          cases hd1 : d.1 with
          | nil => have := okm.1.1; rw [hd1] at this; simp at this
          | cons l0 l' => exact ⟨l0, l', rfl⟩
        have ok0 : ft_ok en md zf (k + 1) l0 := okm.1.2.2 l0 (by rw [hl0]; simp)
        have okl' : ft_okR en md zf (k + 1) l' := fun y hy => okm.1.2.2 y (by rw [hl0]; simp [hy])
        have hz02 := ft_ok_z ok0
        rw [Nat.pow_succ] at hz02
        have hzd1 : ft_zR d.1 = ft_z l0 + ft_zR l' := by rw [hl0]; rfl
        have hlen : d.1.length = l'.length + 1 := by rw [hl0]; rfl
        have hdr : d.1.drop 1 = l' := by rw [hl0]; rfl
        have hfi : ft_fi (d :: sp) o = l0 := by simp only [ft_fi, hl0, List.headD_cons]
        have hps := ft_okR_ps ok0
        have hl41 := okm.1.2.1
        rw [ft_op_l0, if_neg (by simp [ft_em]), hfi, ft_re_op okm.1.1 okm.2.1.1, hdr] at hQ
        rw [hl0, ft_wR_cons] at m1
        obtain ⟨m0, ml⟩ := ft_hd_app.1 m1
        rw [ft_wI_len] at ml
        have hk2 : k < 3 := by
          have : 2 ^ k < 2 ^ 3 := by omega
          exact (Nat.pow_lt_pow_iff_right (by decide)).1 this
        have hrat := ft_wR_at (i := 0) okr h3 he (by omega) hk3 (by decide) (by omega)
        rw [Nat.add_zero] at hrat
        refine n_if_ne X 125 d_M_closeLeft_13 rfl (by omega) (fun hc => absurd rfl hc) (fun hc => ?_)
        refine x_iload_n X d_M_closeLeft_16 rfl hl rfl ?_
        refine x_aload_n X d_M_closeLeft_17 rfl hl rfl ?_
        refine m_get X hP 10 (by decide) e_M_37 rfl d_M_closeLeft_18 ?_
        refine n_icmp_ge X 38 d_M_closeLeft_21 rfl (by omega) (by omega) (fun hc => absurd hc (by omega)) (fun hc => ?_)
        refine x_aload_n X d_M_closeLeft_24 rfl hl rfl ?_
        refine m_get X hP 9 (by decide) e_M_34 rfl d_M_closeLeft_25 ?_
        refine x_iload_n X d_M_closeLeft_28 rfl hl rfl ?_
        refine m_ld_w X hP (by omega) d_M_closeLeft_29 ?_
        refine x_goR (x_runS X (C_M_level l D A _ (w f) (by omega)) b_M_level s_M_level e_M_40 rfl hl rfl (Nat.le_of_ble_eq_true rfl) d_M_closeLeft_30 (Nat.le_of_ble_eq_true rfl) (Nat.le_of_ble_eq_true rfl) ⟨Nat.le_of_ble_eq_true rfl, Nat.le_of_ble_eq_true rfl⟩) hS (fun locs hS => ?_)
        refine x_iload X d_M_closeLeft_33 hl rfl ?_
        refine n_icmp_gt X 69 d_M_closeLeft_35 rfl (by omega) (by omega) (fun hc => ?_) (fun hc => absurd hc (by omega))
        refine x_aload_n X d_M_closeLeft_69 rfl hl rfl ?_
        refine m_get X hP 9 (by decide) e_M_34 rfl d_M_closeLeft_70 ?_
        refine x_iload_n X d_M_closeLeft_73 rfl hl rfl ?_
        refine m_ld_w X hP (by omega) d_M_closeLeft_74 ?_
        refine x_goR (x_runS X (C_M_side l D A _ (w f) (by omega)) b_M_side s_M_side e_M_44 rfl hl rfl (Nat.le_of_ble_eq_true rfl) d_M_closeLeft_75 (Nat.le_of_ble_eq_true rfl) (Nat.le_of_ble_eq_true rfl) ⟨Nat.le_of_ble_eq_true rfl, Nat.le_of_ble_eq_true rfl⟩) hS (fun locs hS => ?_)
        refine x_iconst (v := nI 2) X d_M_closeLeft_78 rfl ?_
        refine n_icmp_ne X 86 d_M_closeLeft_79 rfl (by omega) (by omega) (fun hc => ?_) (fun hc => absurd hc (by omega))
        refine x_iconst (v := nI 0) X d_M_closeLeft_86 rfl ?_
        refine x_istore X d_M_closeLeft_87 hl (by decide) rfl (fun ls hl => ?_)
        refine x_aload_n X d_M_closeLeft_89 rfl hl rfl ?_
        refine x_iload_n X d_M_closeLeft_90 rfl hl rfl ?_
        refine x_iload X d_M_closeLeft_91 hl rfl ?_
        refine x_iconst (v := nI 1) X d_M_closeLeft_93 rfl ?_
        refine n_iadd X d_M_closeLeft_94 ?_
        refine x_goR (x_runV X (C_M_endI l D A _ a lo hi en md vs n zf mk pl ct w hP hw hz en md (k + 1) f 0 l0 ok0 m0 he (by omega) (by omega) (by decide) (by omega)) b_M_end s_M_end v_M_end e_M_60 (m_at hP) rfl rfl hl rfl (Nat.le_of_ble_eq_true rfl) d_M_closeLeft_95 (Nat.le_of_ble_eq_true rfl) (Nat.le_of_ble_eq_true rfl) ⟨Nat.le_of_ble_eq_true rfl, Nat.le_of_ble_eq_true rfl⟩) hS (fun locs hS => ?_)
        refine x_istore X d_M_closeLeft_98 hl (by decide) rfl (fun ls hl => ?_)
        refine x_aload_n X d_M_closeLeft_100 rfl hl rfl ?_
        refine x_iload_n X d_M_closeLeft_101 rfl hl rfl ?_
        refine x_iload X d_M_closeLeft_102 hl rfl ?_
        refine x_iload X d_M_closeLeft_104 hl rfl ?_
        refine x_iconst (v := nI 0) X d_M_closeLeft_106 rfl ?_
        refine x_go0 (x_runV X (C_M_settle l D A _ a lo hi en md vs n zf mk pl ct w hP hd hw f (f + ft_z l0) k 0 (by omega) (by omega) (by omega) (by decide)) b_M_settle s_M_settle v_M_settle e_M_56 (m_at hP) rfl rfl hl rfl (Nat.le_of_ble_eq_true rfl) d_M_closeLeft_107 (Nat.le_of_ble_eq_true rfl) (Nat.le_of_ble_eq_true rfl) ⟨Nat.le_of_ble_eq_true rfl, Nat.le_of_ble_eq_true rfl⟩) hS (fun _ h => h) (fun H locs hP hF hS => ?_)
        refine x_iload X d_M_closeLeft_110 hl rfl ?_
        refine n_if_eq X 116 d_M_closeLeft_112 rfl (by omega) (fun hc => ?_) (fun hc => absurd rfl hc)
        have hw1 := ft_bw_sw (a := f) (b := f + ft_z l0) (k := k) (s := 0) hw (by omega) (by decide)
        have u0 := ft_sw_U (s := 0) ok0 m0 he (by omega) (by omega) (by decide) (Nat.le_refl f) (Nat.le_refl _)
        have u1 := ft_sw_out (a := f) (b := f + ft_z l0) (k := k) (s := 0) ml (Or.inr (Nat.le_refl _))
        have u2 := ft_sw_out (a := f) (b := f + ft_z l0) (k := k) (s := 0) m2 (Or.inr (by omega))
        have u3 := ft_sw_out (a := f) (b := f + ft_z l0) (k := k) (s := 0) m3 (Or.inr (by omega))
        have u4 := ft_sw_out (a := f) (b := f + ft_z l0) (k := k) (s := 0) h3 (Or.inr (by omega))
        have heo1 := ft_eo_sw w f (f + ft_z l0) k 0
        generalize ft_sw w f (f + ft_z l0) k 0 = w1 at hP hw1 u0 u1 u2 u3 u4 heo1
        have hfe : f + ft_zR d.1 = f + ft_z l0 + ft_zR l' := by omega
        rw [hfe] at u2 u3
        refine x_iload X d_M_closeLeft_116 hl rfl ?_
        refine x_istore_n X d_M_closeLeft_118 rfl hl (by decide) rfl (fun ls hl => ?_)
        refine n_iinc (d := 1) X d_M_closeLeft_119 rfl hl rfl (by decide) rfl (fun ls hl => ?_)
        refine x_goto X 5 d_M_closeLeft_122 rfl ?_
        refine ih l' d.2 (k + 1) (f + ft_z l0) w1 _ _ _ _ _ hl hP hw1 okl' okm.2.1.2.2 okm.2.2 u1 u2 u3 (by omega) okm.2.1.1 okm.2.1.2.1 (by rw [Nat.pow_succ]; omega) (by omega) (fun _ => ?_) ?_ hS
        · rw [show f + ft_z l0 + (ft_zR l' + ft_zT sp o + ft_zR d.2) = f + ft_zT (d :: sp) o from by omega, heo1 _ (Or.inr (by omega)), hrat.2.1]
          omega
        · intro w4 H4 hP4 hw4 hh4 heo4
          have hop := ft_op_ok okm.2.2 okl' okm.2.1.2.2 (by omega) okm.2.1.2.1 (Or.inr okm.2.1.1)
          refine hQ w4 H4 hP4 hw4 (ft_hd3' (l := ft_ps l0) (r := dr) ?_ ?_ ?_) (ft_eo_tr (ft_eo_wd heo1 (Nat.le_refl _) (by omega)) (ft_eo_wd heo4 (by omega) (by omega)))
          · exact ft_eo_hd heo4 u0 (Or.inl (by rw [ft_wR_len, hps.2.1]; exact Nat.le_refl _))
          · rw [hps.2.1]; exact hh4
          · rw [hps.2.1, hop.2, show f + ft_z l0 + (ft_zR l' + ft_zT sp o + ft_zR d.2) = f + ft_zT (d :: sp) o from by omega]
            exact ft_eo_hd heo4 u4 (Or.inr (by omega))
  exact loop (nI f) (nI k) sp dl dr k f w none none H0 [] _ hl hP hw okl okr okm h1 h2 h3 hl4 hr1 hr4 hB hf hend (fun w' H1 h1 h2 h3 h4 => by rw [← hPost]; exact ⟨w', h1, h2, h3, h4⟩) hS
end
section
/-! Contract of the reference: closeRight. -/
theorem ft_op_r0 {dl : List ft_I} {sp : ft_S} {o : Option ft_I} (hl : 1 ≤ dl.length) : ft_op dl sp o [] = if ft_em sp o then ft_ln dl else ((dl, ft_ps (ft_la sp o)) :: (ft_le sp o).1, (ft_le sp o).2) := by
  have hn : dl.length ≠ 0 := by omega
  unfold ft_op
  rw [if_neg (by simp)]
  simp only [if_neg hn]
set_option maxRecDepth 100000 in
set_option maxHeartbeats 4000000 in
theorem C_M_closeRight (l : Launch) (D : va_G) (A : Nat → ClassId) (H0 : Heap) (a : Nat → Nat) (lo hi : Nat → Int32) (en md vs n : Nat) (zf mk pl ct w : Nat → Nat) (hP : mH D a A lo hi en zf mk md pl ct vs w n H0) (hd : mDs a) (hw : ft_bw w) (hz : ∀ i, zf i < 128) (he : en ≤ 128) (hm : md < 4200) (hn : n ≤ 48) (k f : Nat) (dl dr : List ft_I) (sp : ft_S) (o : Option ft_I) (okl : ft_okR en md zf k dl) (okr : ft_okR en md zf k dr) (okm : ft_okT en md zf (k + 1) sp o) (h1 : ft_hd w f (ft_wR 0 dl)) (h2 : ft_hd w (f + ft_zR dl) (ft_wT sp o)) (h3 : ft_hd w (f + ft_zR dl + ft_zT sp o) (ft_wR 1 dr)) (hl1 : 1 ≤ dl.length) (hl4 : dl.length ≤ 4) (hr4 : dr.length ≤ 4) (hB : 3 * 2 ^ k + (ft_zR dl + ft_zT sp o + ft_zR dr) ≤ 42) (hf : f + (ft_zR dl + ft_zT sp o + ft_zR dr) ≤ n) (hend : (0 < f → ft_le8 (w (f - 1)) < k)) : xC l y_M_closeRight c_M_closeRight 7 (none : Option FieldType) 3 D A H0 [.ref (a 0), .int (nI (f + (ft_zR dl + ft_zT sp o + ft_zR dr))), .int (nI k)] (mFr a) (q0 (fun H1 => ∃ w', mH D a A lo hi en zf mk md pl ct vs w' n H1 ∧ ft_bw w' ∧ ft_hd w' f (ft_wT (ft_op dl sp o dr).1 (ft_op dl sp o dr).2) ∧ ft_eo w w' f (f + (ft_zR dl + ft_zT sp o + ft_zR dr)))) 0 0 := by
  refine xC.of rfl (Nat.le_of_ble_eq_true rfl) ?_
  intro p_ e_ s_ m_ ar_ bl_ me_ c_ ls X hl
  have hl : lz ls 7 [some (.ref (a 0)), some (.int (nI (f + (ft_zR dl + ft_zT sp o + ft_zR dr)))), some (.int (nI k)), none, none, none, none] := hl
  have hS : va_S (mFr a) H0 H0 [] := va_S.rf
  refine x_iload_n X d_M_closeRight_0 rfl hl rfl ?_
  refine x_istore_n X d_M_closeRight_1 rfl hl (by decide) rfl (fun ls hl => ?_)
  refine x_iload_n X d_M_closeRight_2 rfl hl rfl ?_
  refine x_istore X d_M_closeRight_3 hl (by decide) rfl (fun ls hl => ?_)
  generalize hPost : (fun H1 => ∃ w', mH D a A lo hi en zf mk md pl ct vs w' n H1 ∧ ft_bw w' ∧ ft_hd w' f (ft_wT (ft_op dl sp o dr).1 (ft_op dl sp o dr).2) ∧ ft_eo w w' f (f + (ft_zR dl + ft_zT sp o + ft_zR dr))) = Post
  have loop : ∀ (s0 k0 : Int32) (sp : ft_S) (dl dr : List ft_I) (k f : Nat) (w : Nat → Nat) (v5 v6 : Option Value) (H1 : Heap) (locs : List Loc) (ls : Array Slot), lz ls 7 [some (.ref (a 0)), some (.int s0), some (.int k0), some (.int (nI (f + (ft_zR dl + ft_zT sp o + ft_zR dr)))), some (.int (nI k)), v5, v6] → mH D a A lo hi en zf mk md pl ct vs w n H1 → ft_bw w → ft_okR en md zf k dl → ft_okR en md zf k dr → ft_okT en md zf (k + 1) sp o → ft_hd w f (ft_wR 0 dl) → ft_hd w (f + ft_zR dl) (ft_wT sp o) → ft_hd w (f + ft_zR dl + ft_zT sp o) (ft_wR 1 dr) → 1 ≤ dl.length → dl.length ≤ 4 → dr.length ≤ 4 → 3 * 2 ^ k + (ft_zR dl + ft_zT sp o + ft_zR dr) ≤ 42 → f + (ft_zR dl + ft_zT sp o + ft_zR dr) ≤ n → (0 < f → ft_le8 (w (f - 1)) < k) →
      (∀ (w' : Nat → Nat) (H1 : Heap), mH D a A lo hi en zf mk md pl ct vs w' n H1 → ft_bw w' → ft_hd w' f (ft_wT (ft_op dl sp o dr).1 (ft_op dl sp o dr).2) → ft_eo w w' f (f + (ft_zR dl + ft_zT sp o + ft_zR dr)) → Post H1) → va_S (mFr a) H0 H1 locs → W p_ l e_ (x_rm 3 0 0) s_ m_ ar_ bl_ me_ c_ H1 locs 0 0 (MQ bl_ (xQ (mFr a) (q0 Post)) ar_ s_ 0 0 (mFr a)) (F0 m_ 5 ls []) := by
    clear hPost hP hw okl okr okm h1 h2 h3 hl4 hl1 hr4 hB hf hend hl hS
    intro s0 k0 sp
    induction sp with
    | nil =>
      intro dl dr k f w v5 v6 H1 locs ls hl hP hw okl okr okm h1 h2 h3 hl1 hl4 hr4 hB hf hend hQ hS
      have hzl := ft_okR_z okl
      have hzl1 : 1 * 2 ^ k ≤ dl.length * 2 ^ k := Nat.mul_le_mul_right _ hl1
      have h2k := Nat.one_le_two_pow (n := k)
      have hk3 : k ≤ 3 := ft_k3 (by omega)
      dsimp only [ft_le8] at hend
      rcases Nat.eq_zero_or_pos dr.length with hdl | hdl
      rotate_left
      · have hzr := ft_okR_z okr
        have hzr1 : 1 * 2 ^ k ≤ dr.length * 2 ^ k := Nat.mul_le_mul_right _ hdl
        have hat := ft_wR_at (i := ft_zR dr - 1) okr h3 he (by omega) hk3 (by decide) (by omega)
        rw [show f + ft_zR dl + ft_zT [] o + (ft_zR dr - 1) = f + (ft_zR dl + ft_zT [] o + ft_zR dr) - 1 from by omega] at hat
        rw [ft_op_lr hl1 hdl] at hQ
        refine x_aload_n X d_M_closeRight_5 rfl hl rfl ?_
        refine x_iload_n X d_M_closeRight_6 rfl hl rfl ?_
        refine x_iconst (v := nI 1) X d_M_closeRight_7 rfl ?_
        refine x_isub X d_M_closeRight_8 ?_
        refine x_iload X d_M_closeRight_9 hl rfl ?_
        refine x_iconst (v := nI 1) X d_M_closeRight_11 rfl ?_
        refine x_goR (x_runV X (C_M_isb l D A _ a lo hi en md vs n zf mk pl ct w hP hw hn _ k 1 (by omega) (by omega) (by decide)) b_M_is s_M_is v_M_is e_M_64 (m_at hP) rfl rfl hl rfl (Nat.le_of_ble_eq_true rfl) d_M_closeRight_12 (Nat.le_of_ble_eq_true rfl) (Nat.le_of_ble_eq_true rfl) ⟨Nat.le_of_ble_eq_true rfl, Nat.le_of_ble_eq_true rfl⟩) hS (fun locs hS => ?_)
        rw [ft_isb1 (by omega) (by omega) ⟨hat.2.1, hat.1⟩]
        refine n_if_ne X 129 d_M_closeRight_15 rfl (by omega) (fun hc => ?_) (fun hc => absurd hc (by decide))
        exact x_vret X hS (Nat.le_refl _) (Nat.le_refl _) d_M_closeRight_129 ⟨rfl, hQ _ _ hP hw (ft_hd3' h1 h2 h3) (ft_eo_rf _ _ _)⟩
      · have hdl0 : dr = [] := List.length_eq_zero_iff.1 hdl
        subst hdl0
        simp only [ft_zR, Nat.zero_add, Nat.add_zero] at hB hf hQ hl
        have hp := ft_ahead okm okl hl1 h1 h2 he (by omega) hk3 (fun hem => ft_k3 (by
          have := ft_okT_z okm hem
          rw [Nat.pow_succ] at this ⊢
          omega))
        rw [Nat.add_assoc] at hp
        refine x_aload_n X d_M_closeRight_5 rfl hl rfl ?_
        refine x_iload_n X d_M_closeRight_6 rfl hl rfl ?_
        refine x_iconst (v := nI 1) X d_M_closeRight_7 rfl ?_
        refine x_isub X d_M_closeRight_8 ?_
        refine x_iload X d_M_closeRight_9 hl rfl ?_
        refine x_iconst (v := nI 1) X d_M_closeRight_11 rfl ?_
        refine x_goR (x_runV X (C_M_isb l D A _ a lo hi en md vs n zf mk pl ct w hP hw hn _ k 1 (by omega) (by omega) (by decide)) b_M_is s_M_is v_M_is e_M_64 (m_at hP) rfl rfl hl rfl (Nat.le_of_ble_eq_true rfl) d_M_closeRight_12 (Nat.le_of_ble_eq_true rfl) (Nat.le_of_ble_eq_true rfl) ⟨Nat.le_of_ble_eq_true rfl, Nat.le_of_ble_eq_true rfl⟩) hS (fun locs hS => ?_)
        rw [ft_isb0 (fun _ h => by omega)]
        dsimp only [ft_le8, ft_sd] at hp
        refine n_if_ne X 129 d_M_closeRight_15 rfl (by omega) (fun hc => absurd rfl hc) (fun hc => ?_)
        refine x_iload_n X d_M_closeRight_18 rfl hl rfl ?_
        cases o with
        | none =>
          simp only [ft_zT, Nat.zero_add, Nat.add_zero] at hB hf hQ hl hp ⊢
          rw [ft_op_r0 hl1, if_pos (show ft_em [] none = true from rfl)] at hQ
          have hwf := hw (f + ft_zR dl - 1)
          have hat := ft_wR_at (i := ft_zR dl - 1) okl h1 he (by omega) hk3 (by decide) (by omega)
          rw [show f + (ft_zR dl - 1) = f + ft_zR dl - 1 from by omega] at hat
          dsimp only [ft_le8] at hat
          refine n_if_le X 38 d_M_closeRight_19 rfl (by omega) (fun hc => absurd hc (by omega)) (fun hc => ?_)
          refine x_aload_n X d_M_closeRight_22 rfl hl rfl ?_
          refine m_get X hP 9 (by decide) e_M_34 rfl d_M_closeRight_23 ?_
          refine x_iload_n X d_M_closeRight_26 rfl hl rfl ?_
          refine x_iconst (v := nI 1) X d_M_closeRight_27 rfl ?_
          refine n_isub X d_M_closeRight_28 (by omega) ?_
          refine m_ld_w X hP (by omega) d_M_closeRight_29 ?_
          refine x_goR (x_runS X (C_M_level l D A _ (w (f + ft_zR dl - 1)) (by omega)) b_M_level s_M_level e_M_40 rfl hl rfl (Nat.le_of_ble_eq_true rfl) d_M_closeRight_30 (Nat.le_of_ble_eq_true rfl) (Nat.le_of_ble_eq_true rfl) ⟨Nat.le_of_ble_eq_true rfl, Nat.le_of_ble_eq_true rfl⟩) hS (fun locs hS => ?_)
          refine x_iload X d_M_closeRight_33 hl rfl ?_
          refine n_icmp_gt X 71 d_M_closeRight_35 rfl (by omega) (by omega) (fun hc => absurd hc (by omega)) (fun hc => ?_)
          refine x_iload_n X d_M_closeRight_38 rfl hl rfl ?_
          refine x_istore X d_M_closeRight_39 hl (by decide) rfl (fun ls hl => ?_)
          have cnt : ∀ (g i : Nat) (locs : List Loc) (ls : Array Slot), i = g → i ≤ ft_zR dl → lz ls 7 [some (.ref (a 0)), some (.int s0), some (.int k0), some (.int (nI (f + ft_zR dl))), some (.int (nI k)), some (.int (nI (f + i))), v6] → va_S (mFr a) H0 H1 locs → W p_ l e_ (x_rm 3 0 0) s_ m_ ar_ bl_ me_ c_ H1 locs 0 0 (MQ bl_ (xQ (mFr a) (q0 Post)) ar_ s_ 0 0 (mFr a)) (F0 m_ 41 ls []) := by
            intro g
            induction g with
            | zero =>
              intro i locs ls hg hiz hl hS
              subst hg
              rw [Nat.add_zero] at hl
              refine x_aload_n X d_M_closeRight_41 rfl hl rfl ?_
              refine x_iload X d_M_closeRight_42 hl rfl ?_
              refine x_iconst (v := nI 1) X d_M_closeRight_44 rfl ?_
              refine x_isub X d_M_closeRight_45 ?_
              refine x_iload X d_M_closeRight_46 hl rfl ?_
              refine x_iconst (v := nI 0) X d_M_closeRight_48 rfl ?_
              refine x_goR (x_runV X (C_M_isb l D A _ a lo hi en md vs n zf mk pl ct w hP hw hn _ k 0 (by omega) (by omega) (by decide)) b_M_is s_M_is v_M_is e_M_64 (m_at hP) rfl rfl hl rfl (Nat.le_of_ble_eq_true rfl) d_M_closeRight_49 (Nat.le_of_ble_eq_true rfl) (Nat.le_of_ble_eq_true rfl) ⟨Nat.le_of_ble_eq_true rfl, Nat.le_of_ble_eq_true rfl⟩) hS (fun locs hS => ?_)
              rw [ft_isb0 (fun h5 h6 => by
                have h7 := hend (by omega)
                have h8 := h6.1
                dsimp only [ft_le8] at h8
                omega)]
              refine n_if_eq X 61 d_M_closeRight_52 rfl (by omega) (fun hc => ?_) (fun hc => absurd rfl hc)
              refine x_aload_n X d_M_closeRight_61 rfl hl rfl ?_
              refine x_iload X d_M_closeRight_62 hl rfl ?_
              refine x_iload_n X d_M_closeRight_64 rfl hl rfl ?_
              refine x_iload X d_M_closeRight_65 hl rfl ?_
              refine x_go0 (x_runV X (C_M_line l D A _ a lo hi en md vs n zf mk pl ct w hP hd hw hz he hm k f 0 dl okl h1 hk3 (by decide) (by omega) (by omega)) b_M_line s_M_line v_M_line e_M_75 (m_at hP) rfl rfl hl rfl (Nat.le_of_ble_eq_true rfl) d_M_closeRight_67 (Nat.le_of_ble_eq_true rfl) (Nat.le_of_ble_eq_true rfl) ⟨Nat.le_of_ble_eq_true rfl, Nat.le_of_ble_eq_true rfl⟩) hS (fun _ h => h) (fun H locs hP hF hS => ?_)
              obtain ⟨w', hP', hw', hh', heo'⟩ := hP
              exact x_vret X hS (Nat.le_refl _) (Nat.le_refl _) d_M_closeRight_70 ⟨rfl, hQ _ _ hP' hw' hh' heo'⟩
            | succ g ih =>
              intro i locs ls hg hiz hl hS
              have hati := ft_wR_at (i := i - 1) okl h1 he (by omega) hk3 (by decide) (by omega)
              rw [show f + (i - 1) = f + i - 1 from by omega] at hati
              refine x_aload_n X d_M_closeRight_41 rfl hl rfl ?_
              refine x_iload X d_M_closeRight_42 hl rfl ?_
              refine x_iconst (v := nI 1) X d_M_closeRight_44 rfl ?_
              refine x_isub X d_M_closeRight_45 ?_
              refine x_iload X d_M_closeRight_46 hl rfl ?_
              refine x_iconst (v := nI 0) X d_M_closeRight_48 rfl ?_
              refine x_goR (x_runV X (C_M_isb l D A _ a lo hi en md vs n zf mk pl ct w hP hw hn _ k 0 (by omega) (by omega) (by decide)) b_M_is s_M_is v_M_is e_M_64 (m_at hP) rfl rfl hl rfl (Nat.le_of_ble_eq_true rfl) d_M_closeRight_49 (Nat.le_of_ble_eq_true rfl) (Nat.le_of_ble_eq_true rfl) ⟨Nat.le_of_ble_eq_true rfl, Nat.le_of_ble_eq_true rfl⟩) hS (fun locs hS => ?_)
              rw [ft_isb1 (by omega) (by omega) ⟨hati.2.1, hati.1⟩]
              refine n_if_eq X 61 d_M_closeRight_52 rfl (by omega) (fun hc => absurd hc (by decide)) (fun hc => ?_)
              refine n_idec X d_M_closeRight_55 (by omega) hl rfl (by decide) rfl (fun ls hl => ?_)
              refine x_goto X 41 d_M_closeRight_58 rfl ?_
              rw [show f + i - 1 = f + (i - 1) from by omega] at hl
              exact ih (i - 1) _ _ (by omega) (by omega) hl hS
          exact cnt (ft_zR dl) (ft_zR dl) _ _ rfl (Nat.le_refl _) hl hS
        | some y =>
          have oky : ft_ok en md zf (k + 1) y := okm
          have hy : ft_hd w (f + ft_zR dl) (ft_wI 2 y) := h2
          simp only [ft_zT] at hB hf hQ hl hp ⊢
          rw [← Nat.add_assoc] at hf hQ hl hp ⊢
          have hzy := ft_ok_z oky
          rw [Nat.pow_succ] at hzy
          have hk2 : k < 3 := by
            have : 2 ^ k < 2 ^ 3 := by omega
            exact (Nat.pow_lt_pow_iff_right (by decide)).1 this
          rw [ft_op_r0 hl1, if_neg (by simp [ft_em])] at hQ
          have hwf := hw (f + ft_zR dl + ft_z y - 1)
          have hat := ft_wI_at (i := ft_z y - 1) oky hy he (by omega) (by omega) (by decide) (by omega)
          rw [show f + ft_zR dl + (ft_z y - 1) = f + ft_zR dl + ft_z y - 1 from by omega] at hat
          dsimp only [ft_le8, ft_sd] at hat
          have hps := ft_okR_ps oky
          refine n_if_le X 38 d_M_closeRight_19 rfl (by omega) (fun hc => absurd hc (by omega)) (fun hc => ?_)
          refine x_aload_n X d_M_closeRight_22 rfl hl rfl ?_
          refine m_get X hP 9 (by decide) e_M_34 rfl d_M_closeRight_23 ?_
          refine x_iload_n X d_M_closeRight_26 rfl hl rfl ?_
          refine x_iconst (v := nI 1) X d_M_closeRight_27 rfl ?_
          refine n_isub X d_M_closeRight_28 (by omega) ?_
          refine m_ld_w X hP (by omega) d_M_closeRight_29 ?_
          refine x_goR (x_runS X (C_M_level l D A _ (w (f + ft_zR dl + ft_z y - 1)) (by omega)) b_M_level s_M_level e_M_40 rfl hl rfl (Nat.le_of_ble_eq_true rfl) d_M_closeRight_30 (Nat.le_of_ble_eq_true rfl) (Nat.le_of_ble_eq_true rfl) ⟨Nat.le_of_ble_eq_true rfl, Nat.le_of_ble_eq_true rfl⟩) hS (fun locs hS => ?_)
          refine x_iload X d_M_closeRight_33 hl rfl ?_
          refine n_icmp_gt X 71 d_M_closeRight_35 rfl (by omega) (by omega) (fun hc => ?_) (fun hc => absurd hc (by omega))
          refine x_aload_n X d_M_closeRight_71 rfl hl rfl ?_
          refine m_get X hP 9 (by decide) e_M_34 rfl d_M_closeRight_72 ?_
          refine x_iload_n X d_M_closeRight_75 rfl hl rfl ?_
          refine x_iconst (v := nI 1) X d_M_closeRight_76 rfl ?_
          refine n_isub X d_M_closeRight_77 (by omega) ?_
          refine m_ld_w X hP (by omega) d_M_closeRight_78 ?_
          refine x_goR (x_runS X (C_M_side l D A _ (w (f + ft_zR dl + ft_z y - 1)) (by omega)) b_M_side s_M_side e_M_44 rfl hl rfl (Nat.le_of_ble_eq_true rfl) d_M_closeRight_79 (Nat.le_of_ble_eq_true rfl) (Nat.le_of_ble_eq_true rfl) ⟨Nat.le_of_ble_eq_true rfl, Nat.le_of_ble_eq_true rfl⟩) hS (fun locs hS => ?_)
          refine x_iconst (v := nI 2) X d_M_closeRight_82 rfl ?_
          refine n_icmp_ne X 90 d_M_closeRight_83 rfl (by omega) (by omega) (fun hc => absurd hat.1 hc) (fun hc => ?_)
          refine x_iconst (v := nI 1) X d_M_closeRight_86 rfl ?_
          refine x_goto X 91 d_M_closeRight_87 rfl ?_
          refine x_istore X d_M_closeRight_91 hl (by decide) rfl (fun ls hl => ?_)
          refine x_aload_n X d_M_closeRight_93 rfl hl rfl ?_
          refine x_iload_n X d_M_closeRight_94 rfl hl rfl ?_
          refine x_iload X d_M_closeRight_95 hl rfl ?_
          refine x_iconst (v := nI 1) X d_M_closeRight_97 rfl ?_
          refine n_iadd X d_M_closeRight_98 ?_
          refine x_goR (x_runV X (C_M_begI l D A _ a lo hi en md vs n zf mk pl ct w hP hw en md (k + 1) _ 2 y oky hy he (by omega) (by omega) (by decide) (by omega)) b_M_begin s_M_begin v_M_begin e_M_72 (m_at hP) rfl rfl hl rfl (Nat.le_of_ble_eq_true rfl) d_M_closeRight_99 (Nat.le_of_ble_eq_true rfl) (Nat.le_of_ble_eq_true rfl) ⟨Nat.le_of_ble_eq_true rfl, Nat.le_of_ble_eq_true rfl⟩) hS (fun locs hS => ?_)
          refine x_istore X d_M_closeRight_102 hl (by decide) rfl (fun ls hl => ?_)
          refine x_aload_n X d_M_closeRight_104 rfl hl rfl ?_
          refine x_iload X d_M_closeRight_105 hl rfl ?_
          refine x_iload_n X d_M_closeRight_107 rfl hl rfl ?_
          refine x_iload X d_M_closeRight_108 hl rfl ?_
          refine x_iconst (v := nI 1) X d_M_closeRight_110 rfl ?_
          refine x_go0 (x_runV X (C_M_settle l D A _ a lo hi en md vs n zf mk pl ct w hP hd hw (f + ft_zR dl) (f + ft_zR dl + ft_z y) k 1 (by omega) (by omega) (by omega) (by decide)) b_M_settle s_M_settle v_M_settle e_M_56 (m_at hP) rfl rfl hl rfl (Nat.le_of_ble_eq_true rfl) d_M_closeRight_111 (Nat.le_of_ble_eq_true rfl) (Nat.le_of_ble_eq_true rfl) ⟨Nat.le_of_ble_eq_true rfl, Nat.le_of_ble_eq_true rfl⟩) hS (fun _ h => h) (fun H locs hP hF hS => ?_)
          refine x_iload X d_M_closeRight_114 hl rfl ?_
          refine n_if_eq X 120 d_M_closeRight_116 rfl (by omega) (fun hc => absurd hc (by decide)) (fun hc => ?_)
          refine x_vret X hS (Nat.le_refl _) (Nat.le_refl _) d_M_closeRight_119 ⟨rfl, hQ _ _ hP (ft_bw_sw hw (by omega) (by decide)) (ft_hd3' ?_ (ft_hd_nil _ _) ?_) (ft_eo_wd (ft_eo_sw _ _ _ _ _) (by omega) (Nat.le_refl _))⟩
          · exact ft_sw_out h1 (Or.inl (by rw [ft_wR_len]; exact Nat.le_refl _))
          · exact ft_sw_U oky hy he (by omega) (by omega) (by decide) (Nat.le_refl _) (Nat.le_refl _)
    | cons d sp ih =>
      intro dl dr k f w v5 v6 H1 locs ls hl hP hw okl okr okm h1 h2 h3 hl1 hl4 hr4 hB hf hend hQ hS
      have hzl := ft_okR_z okl
      have hzl1 : 1 * 2 ^ k ≤ dl.length * 2 ^ k := Nat.mul_le_mul_right _ hl1
      have h2k := Nat.one_le_two_pow (n := k)
      have hk3 : k ≤ 3 := ft_k3 (by omega)
      dsimp only [ft_le8] at hend
      rcases Nat.eq_zero_or_pos dr.length with hdl | hdl
      rotate_left
      · have hzr := ft_okR_z okr
        have hzr1 : 1 * 2 ^ k ≤ dr.length * 2 ^ k := Nat.mul_le_mul_right _ hdl
        have hat := ft_wR_at (i := ft_zR dr - 1) okr h3 he (by omega) hk3 (by decide) (by omega)
        rw [show f + ft_zR dl + ft_zT (d :: sp) o + (ft_zR dr - 1) = f + (ft_zR dl + ft_zT (d :: sp) o + ft_zR dr) - 1 from by omega] at hat
        rw [ft_op_lr hl1 hdl] at hQ
        refine x_aload_n X d_M_closeRight_5 rfl hl rfl ?_
        refine x_iload_n X d_M_closeRight_6 rfl hl rfl ?_
        refine x_iconst (v := nI 1) X d_M_closeRight_7 rfl ?_
        refine x_isub X d_M_closeRight_8 ?_
        refine x_iload X d_M_closeRight_9 hl rfl ?_
        refine x_iconst (v := nI 1) X d_M_closeRight_11 rfl ?_
        refine x_goR (x_runV X (C_M_isb l D A _ a lo hi en md vs n zf mk pl ct w hP hw hn _ k 1 (by omega) (by omega) (by decide)) b_M_is s_M_is v_M_is e_M_64 (m_at hP) rfl rfl hl rfl (Nat.le_of_ble_eq_true rfl) d_M_closeRight_12 (Nat.le_of_ble_eq_true rfl) (Nat.le_of_ble_eq_true rfl) ⟨Nat.le_of_ble_eq_true rfl, Nat.le_of_ble_eq_true rfl⟩) hS (fun locs hS => ?_)
        rw [ft_isb1 (by omega) (by omega) ⟨hat.2.1, hat.1⟩]
        refine n_if_ne X 129 d_M_closeRight_15 rfl (by omega) (fun hc => ?_) (fun hc => absurd hc (by decide))
        exact x_vret X hS (Nat.le_refl _) (Nat.le_refl _) d_M_closeRight_129 ⟨rfl, hQ _ _ hP hw (ft_hd3' h1 h2 h3) (ft_eo_rf _ _ _)⟩
      · have hdl0 : dr = [] := List.length_eq_zero_iff.1 hdl
        subst hdl0
        simp only [ft_zR, Nat.zero_add, Nat.add_zero] at hB hf hQ hl
        have hp := ft_ahead okm okl hl1 h1 h2 he (by omega) hk3 (fun hem => ft_k3 (by
          have := ft_okT_z okm hem
          rw [Nat.pow_succ] at this ⊢
          omega))
        rw [Nat.add_assoc] at hp
        refine x_aload_n X d_M_closeRight_5 rfl hl rfl ?_
        refine x_iload_n X d_M_closeRight_6 rfl hl rfl ?_
        refine x_iconst (v := nI 1) X d_M_closeRight_7 rfl ?_
        refine x_isub X d_M_closeRight_8 ?_
        refine x_iload X d_M_closeRight_9 hl rfl ?_
        refine x_iconst (v := nI 1) X d_M_closeRight_11 rfl ?_
        refine x_goR (x_runV X (C_M_isb l D A _ a lo hi en md vs n zf mk pl ct w hP hw hn _ k 1 (by omega) (by omega) (by decide)) b_M_is s_M_is v_M_is e_M_64 (m_at hP) rfl rfl hl rfl (Nat.le_of_ble_eq_true rfl) d_M_closeRight_12 (Nat.le_of_ble_eq_true rfl) (Nat.le_of_ble_eq_true rfl) ⟨Nat.le_of_ble_eq_true rfl, Nat.le_of_ble_eq_true rfl⟩) hS (fun locs hS => ?_)
        rw [ft_isb0 (fun _ h => by omega)]
        dsimp only [ft_le8, ft_sd] at hp
        have hwf := hw (f + (ft_zR dl + ft_zT (d :: sp) o) - 1)
        have hat := ft_wT_last okm rfl h2 he (by omega) (ft_k3 (by
          have := ft_okT_z okm rfl
          rw [Nat.pow_succ] at this ⊢
          omega))
        simp only [List.isEmpty_cons, Bool.false_eq_true, if_false] at hat
        rw [Nat.add_assoc] at hat
        dsimp only [ft_le8, ft_sd] at hat
        have hzm := ft_okT_zd okm
        rw [Nat.pow_succ] at hzm
        obtain ⟨m1, m2, m3⟩ := ft_hd3 h2
        have hT : ft_zT (d :: sp) o = ft_zR d.1 + ft_zT sp o + ft_zR d.2 := rfl
        obtain ⟨r', rl, hrl⟩ := ft_rev (l := d.2) (fun e => by have := okm.2.1.1; rw [e] at this; simp at this)
        have ok0 : ft_ok en md zf (k + 1) rl := okm.2.1.2.2 rl (by rw [hrl]; simp)
        have okr' : ft_okR en md zf (k + 1) r' := fun y hy => okm.2.1.2.2 y (by rw [hrl]; simp [hy])
        have hz02 := ft_ok_z ok0
        rw [Nat.pow_succ] at hz02
        have hzd2 : ft_zR d.2 = ft_zR r' + ft_z rl := by rw [hrl, ft_zR_app]; simp [ft_zR]
        have hlen : d.2.length = r'.length + 1 := by rw [hrl]; simp
        have hdr : d.2.take (d.2.length - 1) = r' := by rw [hlen, Nat.add_sub_cancel, hrl, List.take_left]
        have hla : ft_la (d :: sp) o = rl := by simp only [ft_la, hrl, List.getLastD_eq_getLast?, List.getLast?_append, List.getLast?_singleton, Option.some_or, Option.getD_some]
        have hps := ft_okR_ps ok0
        have hl41 := okm.2.1.2.1
        rw [ft_op_r0 hl1, if_neg (by simp [ft_em]), hla, ft_le_op okm.1.1 okm.2.1.1, hdr] at hQ
        rw [hrl, ft_wR_app, ft_wR_one] at m3
        obtain ⟨mr, m0⟩ := ft_hd_app.1 m3
        rw [ft_wR_len] at m0
        have hk2 : k < 3 := by
          have : 2 ^ k < 2 ^ 3 := by omega
          exact (Nat.pow_lt_pow_iff_right (by decide)).1 this
        have hrat := ft_wR_at (i := ft_zR dl - 1) okl h1 he (by omega) hk3 (by decide) (by omega)
        rw [show f + (ft_zR dl - 1) = f + ft_zR dl - 1 from by omega] at hrat
        have hse : f + (ft_zR dl + ft_zT (d :: sp) o) = f + ft_zR dl + ft_zR d.1 + ft_zT sp o + ft_zR r' + ft_z rl := by omega
        refine n_if_ne X 129 d_M_closeRight_15 rfl (by omega) (fun hc => absurd rfl hc) (fun hc => ?_)
        refine x_iload_n X d_M_closeRight_18 rfl hl rfl ?_
        refine n_if_le X 38 d_M_closeRight_19 rfl (by omega) (fun hc => absurd hc (by omega)) (fun hc => ?_)
        refine x_aload_n X d_M_closeRight_22 rfl hl rfl ?_
        refine m_get X hP 9 (by decide) e_M_34 rfl d_M_closeRight_23 ?_
        refine x_iload_n X d_M_closeRight_26 rfl hl rfl ?_
        refine x_iconst (v := nI 1) X d_M_closeRight_27 rfl ?_
        refine n_isub X d_M_closeRight_28 (by omega) ?_
        refine m_ld_w X hP (by omega) d_M_closeRight_29 ?_
        refine x_goR (x_runS X (C_M_level l D A _ (w (f + (ft_zR dl + ft_zT (d :: sp) o) - 1)) (by omega)) b_M_level s_M_level e_M_40 rfl hl rfl (Nat.le_of_ble_eq_true rfl) d_M_closeRight_30 (Nat.le_of_ble_eq_true rfl) (Nat.le_of_ble_eq_true rfl) ⟨Nat.le_of_ble_eq_true rfl, Nat.le_of_ble_eq_true rfl⟩) hS (fun locs hS => ?_)
        refine x_iload X d_M_closeRight_33 hl rfl ?_
        refine n_icmp_gt X 71 d_M_closeRight_35 rfl (by omega) (by omega) (fun hc => ?_) (fun hc => absurd hc (by omega))
        refine x_aload_n X d_M_closeRight_71 rfl hl rfl ?_
        refine m_get X hP 9 (by decide) e_M_34 rfl d_M_closeRight_72 ?_
        refine x_iload_n X d_M_closeRight_75 rfl hl rfl ?_
        refine x_iconst (v := nI 1) X d_M_closeRight_76 rfl ?_
        refine n_isub X d_M_closeRight_77 (by omega) ?_
        refine m_ld_w X hP (by omega) d_M_closeRight_78 ?_
        refine x_goR (x_runS X (C_M_side l D A _ (w (f + (ft_zR dl + ft_zT (d :: sp) o) - 1)) (by omega)) b_M_side s_M_side e_M_44 rfl hl rfl (Nat.le_of_ble_eq_true rfl) d_M_closeRight_79 (Nat.le_of_ble_eq_true rfl) (Nat.le_of_ble_eq_true rfl) ⟨Nat.le_of_ble_eq_true rfl, Nat.le_of_ble_eq_true rfl⟩) hS (fun locs hS => ?_)
        refine x_iconst (v := nI 2) X d_M_closeRight_82 rfl ?_
        refine n_icmp_ne X 90 d_M_closeRight_83 rfl (by omega) (by omega) (fun hc => ?_) (fun hc => absurd hc (by omega))
        rw [hse] at hl
        refine x_iconst (v := nI 0) X d_M_closeRight_90 rfl ?_
        refine x_istore X d_M_closeRight_91 hl (by decide) rfl (fun ls hl => ?_)
        refine x_aload_n X d_M_closeRight_93 rfl hl rfl ?_
        refine x_iload_n X d_M_closeRight_94 rfl hl rfl ?_
        refine x_iload X d_M_closeRight_95 hl rfl ?_
        refine x_iconst (v := nI 1) X d_M_closeRight_97 rfl ?_
        refine n_iadd X d_M_closeRight_98 ?_
        refine x_goR (x_runV X (C_M_begI l D A _ a lo hi en md vs n zf mk pl ct w hP hw en md (k + 1) _ 1 rl ok0 m0 he (by omega) (by omega) (by decide) (by omega)) b_M_begin s_M_begin v_M_begin e_M_72 (m_at hP) rfl rfl hl rfl (Nat.le_of_ble_eq_true rfl) d_M_closeRight_99 (Nat.le_of_ble_eq_true rfl) (Nat.le_of_ble_eq_true rfl) ⟨Nat.le_of_ble_eq_true rfl, Nat.le_of_ble_eq_true rfl⟩) hS (fun locs hS => ?_)
        refine x_istore X d_M_closeRight_102 hl (by decide) rfl (fun ls hl => ?_)
        refine x_aload_n X d_M_closeRight_104 rfl hl rfl ?_
        refine x_iload X d_M_closeRight_105 hl rfl ?_
        refine x_iload_n X d_M_closeRight_107 rfl hl rfl ?_
        refine x_iload X d_M_closeRight_108 hl rfl ?_
        refine x_iconst (v := nI 1) X d_M_closeRight_110 rfl ?_
        refine x_go0 (x_runV X (C_M_settle l D A _ a lo hi en md vs n zf mk pl ct w hP hd hw (f + ft_zR dl + ft_zR d.1 + ft_zT sp o + ft_zR r') (f + ft_zR dl + ft_zR d.1 + ft_zT sp o + ft_zR r' + ft_z rl) k 1 (by omega) (by omega) (by omega) (by decide)) b_M_settle s_M_settle v_M_settle e_M_56 (m_at hP) rfl rfl hl rfl (Nat.le_of_ble_eq_true rfl) d_M_closeRight_111 (Nat.le_of_ble_eq_true rfl) (Nat.le_of_ble_eq_true rfl) ⟨Nat.le_of_ble_eq_true rfl, Nat.le_of_ble_eq_true rfl⟩) hS (fun _ h => h) (fun H locs hP hF hS => ?_)
        refine x_iload X d_M_closeRight_114 hl rfl ?_
        refine n_if_eq X 120 d_M_closeRight_116 rfl (by omega) (fun hc => ?_) (fun hc => absurd rfl hc)
        have hw1 := ft_bw_sw (a := (f + ft_zR dl + ft_zR d.1 + ft_zT sp o + ft_zR r')) (b := (f + ft_zR dl + ft_zR d.1 + ft_zT sp o + ft_zR r' + ft_z rl)) (k := k) (s := 1) hw (by omega) (by decide)
        have u0 := ft_sw_U (s := 1) ok0 m0 he (by omega) (by omega) (by decide) (Nat.le_refl (f + ft_zR dl + ft_zR d.1 + ft_zT sp o + ft_zR r')) (Nat.le_refl _)
        have u1 := ft_sw_out (a := (f + ft_zR dl + ft_zR d.1 + ft_zT sp o + ft_zR r')) (b := (f + ft_zR dl + ft_zR d.1 + ft_zT sp o + ft_zR r' + ft_z rl)) (k := k) (s := 1) h1 (Or.inl (by rw [ft_wR_len]; omega))
        have u2 := ft_sw_out (a := (f + ft_zR dl + ft_zR d.1 + ft_zT sp o + ft_zR r')) (b := (f + ft_zR dl + ft_zR d.1 + ft_zT sp o + ft_zR r' + ft_z rl)) (k := k) (s := 1) m1 (Or.inl (by rw [ft_wR_len]; omega))
        have u3 := ft_sw_out (a := (f + ft_zR dl + ft_zR d.1 + ft_zT sp o + ft_zR r')) (b := (f + ft_zR dl + ft_zR d.1 + ft_zT sp o + ft_zR r' + ft_z rl)) (k := k) (s := 1) m2 (Or.inl (by rw [ft_wT_len]; omega))
        have u4 := ft_sw_out (a := (f + ft_zR dl + ft_zR d.1 + ft_zT sp o + ft_zR r')) (b := (f + ft_zR dl + ft_zR d.1 + ft_zT sp o + ft_zR r' + ft_z rl)) (k := k) (s := 1) mr (Or.inl (by rw [ft_wR_len]; exact Nat.le_refl _))
        have heo1 := ft_eo_sw w (f + ft_zR dl + ft_zR d.1 + ft_zT sp o + ft_zR r') (f + ft_zR dl + ft_zR d.1 + ft_zT sp o + ft_zR r' + ft_z rl) k 1
        generalize ft_sw w (f + ft_zR dl + ft_zR d.1 + ft_zT sp o + ft_zR r') (f + ft_zR dl + ft_zR d.1 + ft_zT sp o + ft_zR r' + ft_z rl) k 1 = w1 at hP hw1 u0 u1 u2 u3 u4 heo1
        have hfe : (f + ft_zR dl + ft_zR d.1 + ft_zT sp o + ft_zR r') = f + ft_zR dl + (ft_zR d.1 + ft_zT sp o + ft_zR r') := by omega
        refine x_iload X d_M_closeRight_120 hl rfl ?_
        refine x_istore_n X d_M_closeRight_122 rfl hl (by decide) rfl (fun ls hl => ?_)
        refine n_iinc (d := 1) X d_M_closeRight_123 rfl hl rfl (by decide) rfl (fun ls hl => ?_)
        refine x_goto X 5 d_M_closeRight_126 rfl ?_
        rw [hfe] at hl
        refine ih d.1 r' (k + 1) (f + ft_zR dl) w1 _ _ _ _ _ hl hP hw1 okm.1.2.2 okr' okm.2.2 u2 u3 u4 okm.1.1 okm.1.2.1 (by omega) (by rw [Nat.pow_succ]; omega) (by omega) (fun _ => ?_) ?_ hS
        · rw [heo1 _ (Or.inl (by omega)), hrat.2.1]
          omega
        · intro w4 H4 hP4 hw4 hh4 heo4
          have hop := ft_op_ok okm.2.2 okm.1.2.2 okr' okm.1.2.1 (by omega) (Or.inl okm.1.1)
          refine hQ w4 H4 hP4 hw4 (ft_hd3' (l := dl) (r := ft_ps rl) ?_ hh4 ?_) (ft_eo_tr (ft_eo_wd heo1 (by omega) (by omega)) (ft_eo_wd heo4 (by omega) (by omega)))
          · exact ft_eo_hd heo4 u1 (Or.inl (by rw [ft_wR_len]; exact Nat.le_refl _))
          · rw [hop.2, ← hfe]
            exact ft_eo_hd heo4 u0 (Or.inr (by omega))
  exact loop (nI (f + (ft_zR dl + ft_zT sp o + ft_zR dr))) (nI k) sp dl dr k f w none none H0 [] _ hl hP hw okl okr okm h1 h2 h3 hl1 hl4 hr4 hB hf hend (fun w' H1 h1 h2 h3 h4 => by rw [← hPost]; exact ⟨w', h1, h2, h3, h4⟩) hS
end
section
/-! Contracts of the reference: tree, group, frontAll, backAll. -/
def ft_tr (n : Nat) (w : Nat → Nat) (j k : Nat) : Nat := if j < n ∧ k ≤ ft_le8 (w j) then 1 else 0
def ft_trb (n : Nat) (w : Nat → Nat) (j k : Nat) : Nat := if 1 ≤ j then ft_tr n w (j - 1) k else 0
/-- a row of items, each with some side -/
def ft_hx (w : Nat → Nat) : Nat → List ft_I → Prop
  | _, [] => True
  | s, x :: l => (∃ sd, sd < 4 ∧ ft_hd w s (ft_wI sd x)) ∧ ft_hx w (s + ft_z x) l
theorem ft_hx_of {w : Nat → Nat} {sd : Nat} (hs : sd < 4) : ∀ {l : List ft_I} {s : Nat}, ft_hd w s (ft_wR sd l) → ft_hx w s l := by
  intro l
  induction l with
  | nil => intro s _; trivial
  | cons x l ih =>
    intro s h
    rw [ft_wR_cons, ft_hd_app, ft_wI_len] at h
    exact ⟨⟨sd, hs, h.1⟩, ih h.2⟩
theorem ft_hx_app {w : Nat → Nat} {b : List ft_I} : ∀ {a : List ft_I} {s : Nat}, ft_hx w s (a ++ b) ↔ ft_hx w s a ∧ ft_hx w (s + ft_zR a) b := by
  intro a
  induction a with
  | nil => intro s; simp [ft_hx, ft_zR]
  | cons x a ih =>
    intro s
    simp only [List.cons_append, ft_hx, ih, ft_zR, Nat.add_assoc, and_assoc]
theorem ft_hx_congr {w w' : Nat → Nat} : ∀ {l : List ft_I} {s : Nat}, ft_hx w s l → (∀ q, s ≤ q → q < s + ft_zR l → w' q = w q) → ft_hx w' s l := by
  intro l
  induction l with
  | nil => intro s _ _; trivial
  | cons x l ih =>
    intro s h he
    obtain ⟨⟨sd, h1, h2⟩, h3⟩ := h
    simp only [ft_zR] at he
    exact ⟨⟨sd, h1, ft_hd_congr h2 (fun q a b => he q a (by rw [ft_wI_len] at b; omega))⟩, ih h3 (fun q a b => he q (by omega) (by omega))⟩
theorem ft_hx_eo {w w' : Nat → Nat} {f t z : Nat} {l : List ft_I} (h : ft_eo w w' f t) (hh : ft_hx w z l) (hd : z + ft_zR l ≤ f ∨ t ≤ z) : ft_hx w' z l := ft_hx_congr hh (fun q h1 h2 => h q (by omega))
theorem ft_ww_X {ne mm : Nat} {zf : Nat → Nat} {w : Nat → Nat} {a b k s m : Nat} (hne : ne ≤ 128) (hmm : mm < 8192) (hm : m < 8192) (hk : k ≤ 3) : ∀ {l : List ft_I} {z : Nat}, ft_okR ne mm zf k l → ft_hx w z l → a ≤ z → z + ft_zR l ≤ b → ft_hd (ft_sw (ft_ww w a b k m) a b (k + 1) s) z ((ft_lR l).map (fun q => ft_wd s (q.1, q.2 ++ [m]))) := by
  intro l
  induction l with
  | nil => intro z _ _ _ _; exact ft_hd_nil _ _
  | cons x l ih =>
    intro z ok h ha hb
    obtain ⟨⟨sd, h1, h2⟩, h3⟩ := h
    simp only [ft_zR] at hb
    simp only [ft_lR, List.map_append]
    rw [ft_hd_app, List.length_map, ft_lv_len]
    exact ⟨ft_wr_in (s := s) h2 h1 (ft_ok_fit (ok x (by simp)) hne hmm hk) hm ha (by rw [ft_lv_len]; omega), ih (fun y hy => ok y (by simp [hy])) h3 (by omega) (by omega)⟩
theorem ft_ww_XN {ne mm : Nat} {zf : Nat → Nat} {w : Nat → Nat} {a b k s z m : Nat} {l : List ft_I} (ok : ft_okR ne mm zf k l) (h : ft_hx w z l) (hne : ne ≤ 128) (hmm : mm < 8192) (hm : m < 8192) (hk : k ≤ 3) (ha : a ≤ z) (hb : z + ft_zR l ≤ b) : ft_hd (ft_sw (ft_ww w a b k m) a b (k + 1) s) z (ft_wI s (ft_nd m l)) := by
  have := ft_ww_X (s := s) (a := a) (b := b) hne hmm hm hk ok h ha hb
  unfold ft_wI
  rw [ft_lv_nd, List.map_map]
  exact this
set_option maxRecDepth 100000 in
set_option maxHeartbeats 4000000 in
theorem C_M_tree (l : Launch) (D : va_G) (A : Nat → ClassId) (H0 : Heap) (a : Nat → Nat) (lo hi : Nat → Int32) (en md vs n : Nat) (zf mk pl ct w : Nat → Nat) (hP : mH D a A lo hi en zf mk md pl ct vs w n H0) (hw : ft_bw w) (hn : n ≤ 48) (j k : Nat) (hj : j < 2 ^ 31) (hk : k < 8) : xC l y_M_tree c_M_tree 3 (some .boolean) 1 D A H0 [.ref (a 0), .int (nI j), .int (nI k)] (fun _ => False) (q1 (.int (nI (ft_tr n w j k))) (fun H1 => H1 = H0)) 0 0 := by
  refine xC.of rfl (Nat.le_of_ble_eq_true rfl) ?_
  intro p_ e_ s_ m_ ar_ bl_ me_ c_ ls X hl
  have hl : lz ls 3 [some (.ref (a 0)), some (.int (nI j)), some (.int (nI k))] := hl
  have hS : va_S (fun _ => False) H0 H0 [] := va_S.rf
  have hbw := hw j
  refine x_iload_n X d_M_tree_0 rfl hl rfl ?_
  refine n_if_lt X 29 d_M_tree_1 rfl (by omega) (fun hc => absurd hc (Nat.not_lt_zero _)) (fun hc => ?_)
  refine x_iload_n X d_M_tree_4 rfl hl rfl ?_
  refine x_aload_n X d_M_tree_5 rfl hl rfl ?_
  refine m_get X hP 10 (by decide) e_M_37 rfl d_M_tree_6 ?_
  refine n_icmp_ge X 29 d_M_tree_9 rfl (by omega) (by omega) (fun hc => ?_) (fun hc => ?_)
  · refine x_iconst (v := nI 0) X d_M_tree_29 rfl ?_
    exact x_zret X hS (Nat.le_refl _) (Nat.le_refl _) d_M_tree_30 rfl ⟨by unfold ft_tr; rw [if_neg (by omega)], rfl⟩
  have hj48 : j < 48 := by omega
  refine x_aload_n X d_M_tree_12 rfl hl rfl ?_
  refine m_get X hP 9 (by decide) e_M_34 rfl d_M_tree_13 ?_
  refine x_iload_n X d_M_tree_16 rfl hl rfl ?_
  refine m_ld_w X hP (by omega) d_M_tree_17 ?_
  refine x_goR (x_runS X (C_M_level l D A _ (w j) (by omega)) b_M_level s_M_level e_M_40 rfl hl rfl (Nat.le_of_ble_eq_true rfl) d_M_tree_18 (Nat.le_of_ble_eq_true rfl) (Nat.le_of_ble_eq_true rfl) ⟨Nat.le_of_ble_eq_true rfl, Nat.le_of_ble_eq_true rfl⟩) hS (fun locs hS => ?_)
  refine x_iload_n X d_M_tree_21 rfl hl rfl ?_
  refine n_icmp_lt X 29 d_M_tree_22 rfl (by omega) (by omega) (fun hc2 => ?_) (fun hc2 => ?_)
  · refine x_iconst (v := nI 0) X d_M_tree_29 rfl ?_
    exact x_zret X hS (Nat.le_refl _) (Nat.le_refl _) d_M_tree_30 rfl ⟨by unfold ft_tr; rw [if_neg (fun h => by have := h.2; dsimp only [ft_le8] at this; omega)], rfl⟩
  refine x_iconst (v := nI 1) X d_M_tree_25 rfl ?_
  refine x_goto X 30 d_M_tree_26 rfl ?_
  exact x_zret X hS (Nat.le_refl _) (Nat.le_refl _) d_M_tree_30 rfl ⟨by unfold ft_tr; rw [if_pos ⟨by assumption, by assumption⟩], rfl⟩
set_option maxRecDepth 100000 in
set_option maxHeartbeats 4000000 in
theorem C_M_tree_neg (l : Launch) (D : va_G) (A : Nat → ClassId) (H0 : Heap) (a : Nat → Nat) (k : Nat) : xC l y_M_tree c_M_tree 3 (some .boolean) 1 D A H0 [.ref (a 0), .int (-1), .int (nI k)] (fun _ => False) (q1 (.int (nI 0)) (fun H1 => H1 = H0)) 0 0 := by
  refine xC.of rfl (Nat.le_of_ble_eq_true rfl) ?_
  intro p_ e_ s_ m_ ar_ bl_ me_ c_ ls X hl
  have hl : lz ls 3 [some (.ref (a 0)), some (.int (-1)), some (.int (nI k))] := hl
  have hS : va_S (fun _ => False) H0 H0 [] := va_S.rf
  refine x_iload_n X d_M_tree_0 rfl hl rfl ?_
  refine x_if_lt X 29 d_M_tree_1 rfl (fun _ => ?_) (fun h => absurd (by decide) h)
  refine x_iconst (v := nI 0) X d_M_tree_29 rfl ?_
  exact x_zret X hS (Nat.le_refl _) (Nat.le_refl _) d_M_tree_30 rfl ⟨rfl, rfl⟩
theorem C_M_treeb (l : Launch) (D : va_G) (A : Nat → ClassId) (H0 : Heap) (a : Nat → Nat) (lo hi : Nat → Int32) (en md vs n : Nat) (zf mk pl ct w : Nat → Nat) (hP : mH D a A lo hi en zf mk md pl ct vs w n H0) (hw : ft_bw w) (hn : n ≤ 48) (j k : Nat) (hj : j < 2 ^ 31) (hk : k < 8) : xC l y_M_tree c_M_tree 3 (some .boolean) 1 D A H0 [.ref (a 0), .int (nI j - nI 1), .int (nI k)] (fun _ => False) (q1 (.int (nI (ft_trb n w j k))) (fun H1 => H1 = H0)) 0 0 := by
  unfold ft_trb
  split
  · rename_i h
    rw [pk_sub h]
    exact C_M_tree l D A H0 a lo hi en md vs n zf mk pl ct w hP hw hn (j - 1) k (by omega) hk
  · rename_i h
    have : j = 0 := by omega
    subst this
    exact C_M_tree_neg l D A H0 a k
set_option maxRecDepth 100000 in
set_option maxHeartbeats 4000000 in
theorem C_M_group (l : Launch) (D : va_G) (A : Nat → ClassId) (H0 : Heap) (a : Nat → Nat) (lo hi : Nat → Int32) (en md vs n : Nat) (zf mk pl ct w : Nat → Nat) (hP : mH D a A lo hi en zf mk md pl ct vs w n H0) (hd : mDs a) (hw : ft_bw w) (hz : ∀ i, zf i < 128) (he : en ≤ 128) (hn : n ≤ 48) (k f : Nat) (row : List ft_I) (ok : ft_okR en md zf k row) (hr : ft_hx w f row) (hk : k < 3) (h1 : row.length ≠ 1) (h16 : row.length ≤ 16) (ht : f + ft_zR row ≤ 48) (hmd : (ft_gr 16 row (md, zf)).2.1 < 4200) : xC l y_M_group c_M_group 9 (none : Option FieldType) 2 D A H0 [.ref (a 0), .int (nI f), .int (nI (f + ft_zR row)), .int (nI k)] (mFr a) (q0 (fun H1 => ∃ w', mH D a A lo hi en (ft_gr 16 row (md, zf)).2.2 mk (ft_gr 16 row (md, zf)).2.1 pl ct vs w' n H1 ∧ ft_bw w' ∧ ft_hd w' f (ft_wR 3 (ft_gr 16 row (md, zf)).1) ∧ ft_eo w w' f (f + ft_zR row))) 0 0 := by
  refine xC.of rfl (Nat.le_of_ble_eq_true rfl) ?_
  intro p_ e_ s_ m_ ar_ bl_ me_ c_ ls X hl
  have hl : lz ls 9 [some (.ref (a 0)), some (.int (nI f)), some (.int (nI (f + ft_zR row))), some (.int (nI k)), none, none, none, none, none] := hl
  have hS : va_S (mFr a) H0 H0 [] := va_S.rf
  refine x_iconst (v := nI 0) X d_M_group_0 rfl ?_
  refine x_istore X d_M_group_1 hl (by decide) rfl (fun ls hl => ?_)
  refine x_iload_n X d_M_group_3 rfl hl rfl ?_
  refine x_istore X d_M_group_4 hl (by decide) rfl (fun ls hl => ?_)
  have hmd0 : md < 4200 := Nat.lt_of_le_of_lt (ft_gr_ok (ne := en) (k := k) 16 row (md, zf) h1 h16 ok).1.1 hmd
  generalize hPost : (fun H1 => ∃ w', mH D a A lo hi en (ft_gr 16 row (md, zf)).2.2 mk (ft_gr 16 row (md, zf)).2.1 pl ct vs w' n H1 ∧ ft_bw w' ∧ ft_hd w' f (ft_wR 3 (ft_gr 16 row (md, zf)).1) ∧ ft_eo w w' f (f + ft_zR row)) = Post
  have loop2 : ∀ (fu : Nat) (rest : List ft_I) (q md : Nat) (zf w : Nat → Nat) (v6 v7 v8 : Option Value) (H1 : Heap) (locs : List Loc) (ls : Array Slot), rest.length ≤ fu → rest.length ≠ 1 → rest.length ≤ 16 → q + ft_zR rest ≤ 48 → (ft_gr fu rest (md, zf)).2.1 < 4200 → lz ls 9 [some (.ref (a 0)), some (.int (nI f)), some (.int (nI (f + ft_zR row))), some (.int (nI k)), some (.int (nI rest.length)), some (.int (nI q)), v6, v7, v8] → mH D a A lo hi en zf mk md pl ct vs w n H1 → ft_bw w → (∀ i, zf i < 128) → ft_okR en md zf k rest → ft_hx w q rest →
      (∀ (w' : Nat → Nat) (H1 : Heap), mH D a A lo hi en (ft_gr fu rest (md, zf)).2.2 mk (ft_gr fu rest (md, zf)).2.1 pl ct vs w' n H1 → ft_bw w' → ft_hd w' q (ft_wR 3 (ft_gr fu rest (md, zf)).1) → ft_eo w w' q (q + ft_zR rest) → Post H1) → va_S (mFr a) H0 H1 locs → W p_ l e_ (x_rm 2 0 0) s_ m_ ar_ bl_ me_ c_ H1 locs 0 0 (MQ bl_ (xQ (mFr a) (q0 Post)) ar_ s_ 0 0 (mFr a)) (F0 m_ 30 ls []) := by
    intro fu
    induction fu with
    | zero =>
      intro rest q md zf w v6 v7 v8 H1 locs ls hfu hn1 h16 hq48 hmd hl hP hw hz ok hr hQ hS
      have hre : rest = [] := List.length_eq_zero_iff.1 (by omega)
      subst hre
      refine x_iload X d_M_group_30 hl rfl ?_
      refine n_if_le X 108 d_M_group_32 rfl (by simp) (fun hc => ?_) (fun hc => absurd hc (by simp))
      exact x_vret X hS (Nat.le_refl _) (Nat.le_refl _) d_M_group_108 ⟨rfl, hQ w H1 hP hw (ft_hd_nil _ _) (ft_eo_rf _ _ _)⟩
    | succ fu ih =>
      intro rest q md zf w v6 v7 v8 H1 locs ls hfu hn1 h16 hq48 hmd hl hP hw hz ok hr hQ hS
      refine x_iload X d_M_group_30 hl rfl ?_
      refine n_if_le X 108 d_M_group_32 rfl (by omega) (fun hc => ?_) (fun hc => ?_)
      · have hre : rest = [] := List.length_eq_zero_iff.1 (by omega)
        subst hre
        exact x_vret X hS (Nat.le_refl _) (Nat.le_refl _) d_M_group_108 ⟨rfl, hQ w H1 (by simpa [ft_gr] using hP) hw (by simp only [ft_gr, List.length_nil, if_true]; exact ft_hd_nil _ _) (ft_eo_rf _ _ _)⟩
      obtain ⟨t1, t2, t3, t4⟩ := ft_tk_le hn1 (by omega)
      have htk : ft_tk rest.length = if rest.length = 2 ∨ rest.length = 4 then 2 else 3 := rfl
      have hgr : ft_gr (fu + 1) rest (md, zf) = (ft_nd (md + 1) (rest.take (ft_tk rest.length)) :: (ft_gr fu (rest.drop (ft_tk rest.length)) (ft_nw (md, zf) (rest.take (ft_tk rest.length)))).1, (ft_gr fu (rest.drop (ft_tk rest.length)) (ft_nw (md, zf) (rest.take (ft_tk rest.length)))).2) := by
        rw [ft_gr, if_neg (by omega)]
      have okt := ft_okR_take ok (ft_tk rest.length)
      have okd := ft_okR_ex (ft_ex_nw (md, zf) (rest.take (ft_tk rest.length))) (ft_okR_drop ok (ft_tk rest.length))
      have hltk : (rest.take (ft_tk rest.length)).length = ft_tk rest.length := by rw [List.length_take]; omega
      have hldr : (rest.drop (ft_tk rest.length)).length = rest.length - ft_tk rest.length := List.length_drop
      have hzt := ft_zR_td rest (ft_tk rest.length)
      rw [hgr] at hmd
      have hmd1 : md + 1 < 4200 := Nat.lt_of_le_of_lt (ft_gr_ok (ne := en) (k := k) fu (rest.drop (ft_tk rest.length)) (ft_nw (md, zf) (rest.take (ft_tk rest.length))) (by omega) (by omega) okd).1.1 hmd
      rw [← List.take_append_drop (ft_tk rest.length) rest, ft_hx_app] at hr
      obtain ⟨hrt, hrd⟩ := hr
      have mid : ∀ (locs : List Loc) (ls : Array Slot), lz ls 9 [some (.ref (a 0)), some (.int (nI f)), some (.int (nI (f + ft_zR row))), some (.int (nI k)), some (.int (nI rest.length)), some (.int (nI q)), some (.int (nI (ft_tk rest.length))), v7, v8] → va_S (mFr a) H0 H1 locs → W p_ l e_ (x_rm 2 0 0) s_ m_ ar_ bl_ me_ c_ H1 locs 0 0 (MQ bl_ (xQ (mFr a) (q0 Post)) ar_ s_ 0 0 (mFr a)) (F0 m_ 54 ls []) := by
        intro locs ls hl hS
        refine x_iload X d_M_group_54 hl rfl ?_
        refine x_istore X d_M_group_56 hl (by decide) rfl (fun ls hl => ?_)
        refine x_iconst (v := nI 0) X d_M_group_58 rfl ?_
        refine x_istore X d_M_group_59 hl (by decide) rfl (fun ls hl => ?_)
        have cnt : ∀ (more pre : List ft_I) (locs : List Loc) (ls : Array Slot), pre ++ more = rest.take (ft_tk rest.length) → lz ls 9 [some (.ref (a 0)), some (.int (nI f)), some (.int (nI (f + ft_zR row))), some (.int (nI k)), some (.int (nI rest.length)), some (.int (nI q)), some (.int (nI (ft_tk rest.length))), some (.int (nI (q + ft_zR pre))), some (.int (nI pre.length))] → ft_hx w (q + ft_zR pre) more → va_S (mFr a) H0 H1 locs →
            (∀ (locs : List Loc) (ls : Array Slot), lz ls 9 [some (.ref (a 0)), some (.int (nI f)), some (.int (nI (f + ft_zR row))), some (.int (nI k)), some (.int (nI rest.length)), some (.int (nI q)), some (.int (nI (ft_tk rest.length))), some (.int (nI (q + ft_zR (rest.take (ft_tk rest.length))))), some (.int (nI (ft_tk rest.length)))] → va_S (mFr a) H0 H1 locs → W p_ l e_ (x_rm 2 0 0) s_ m_ ar_ bl_ me_ c_ H1 locs 0 0 (MQ bl_ (xQ (mFr a) (q0 Post)) ar_ s_ 0 0 (mFr a)) (F0 m_ 83 ls [])) → W p_ l e_ (x_rm 2 0 0) s_ m_ ar_ bl_ me_ c_ H1 locs 0 0 (MQ bl_ (xQ (mFr a) (q0 Post)) ar_ s_ 0 0 (mFr a)) (F0 m_ 61 ls []) := by
          intro more
          induction more with
          | nil =>
            intro pre locs ls hpr hl hh hS kk
            rw [List.append_nil] at hpr
            subst hpr
            rw [hltk] at hl
            refine x_iload X d_M_group_61 hl rfl ?_
            refine x_iload X d_M_group_63 hl rfl ?_
            refine n_icmp_ge X 83 d_M_group_65 rfl (by omega) (by omega) (fun hc => ?_) (fun hc => absurd hc (by omega))
            exact kk _ _ hl hS
          | cons x more ih2 =>
            intro pre locs ls hpr hl hh hS kk
            have hzr : ft_zR (rest.take (ft_tk rest.length)) = ft_zR pre + (ft_z x + ft_zR more) := by rw [← hpr, ft_zR_app]; rfl
            have hlr : (rest.take (ft_tk rest.length)).length = pre.length + (more.length + 1) := by rw [← hpr]; simp
            have okx : ft_ok en md zf k x := okt x (by rw [← hpr]; simp)
            have hzx := ft_ok_zpos okx
            obtain ⟨⟨sd, hsd, hx⟩, hmore⟩ := hh
            refine x_iload X d_M_group_61 hl rfl ?_
            refine x_iload X d_M_group_63 hl rfl ?_
            refine n_icmp_ge X 83 d_M_group_65 rfl (by omega) (by omega) (fun hc => absurd hc (by omega)) (fun hc => ?_)
            refine x_aload_n X d_M_group_68 rfl hl rfl ?_
            refine x_iload X d_M_group_69 hl rfl ?_
            refine x_iload_n X d_M_group_71 rfl hl rfl ?_
            refine x_goR (x_runV X (C_M_endI l D A _ a lo hi en md vs n zf mk pl ct w hP hw hz en md k _ sd x okx hx he (by omega) (by omega) hsd (by omega)) b_M_end s_M_end v_M_end e_M_60 (m_at hP) rfl rfl hl rfl (Nat.le_of_ble_eq_true rfl) d_M_group_72 (Nat.le_of_ble_eq_true rfl) (Nat.le_of_ble_eq_true rfl) ⟨Nat.le_of_ble_eq_true rfl, Nat.le_of_ble_eq_true rfl⟩) hS (fun locs hS => ?_)
            refine x_istore X d_M_group_75 hl (by decide) rfl (fun ls hl => ?_)
            refine n_iinc (d := 1) X d_M_group_77 rfl hl rfl (by decide) rfl (fun ls hl => ?_)
            refine x_goto X 61 d_M_group_80 rfl ?_
            refine ih2 (pre ++ [x]) _ _ (by rw [← hpr]; simp) ?_ ?_ hS kk
            · rw [List.length_append, ft_zR_app, show ft_zR [x] = ft_z x from by simp [ft_zR], ← Nat.add_assoc]
              exact hl
            · rw [ft_zR_app, show ft_zR [x] = ft_z x from by simp [ft_zR], ← Nat.add_assoc]
              exact hmore
        refine cnt (rest.take (ft_tk rest.length)) [] _ _ rfl hl hrt hS (fun locs ls hl hS => ?_)
        clear cnt
        refine x_aload_n X d_M_group_83 rfl hl rfl ?_
        refine x_iload X d_M_group_84 hl rfl ?_
        refine x_iload X d_M_group_86 hl rfl ?_
        refine x_iload_n X d_M_group_88 rfl hl rfl ?_
        refine x_iconst (v := nI 1) X d_M_group_89 rfl ?_
        refine n_iadd X d_M_group_90 ?_
        refine x_go0 (x_runV X (C_M_wrap l D A _ a lo hi en md vs n zf mk pl ct w hP hd hw q (q + ft_zR (rest.take (ft_tk rest.length))) k (by omega) (by omega) hk hmd1) b_M_wrap s_M_wrap v_M_wrap e_M_68 (m_at hP) rfl rfl hl rfl (Nat.le_of_ble_eq_true rfl) d_M_group_91 (Nat.le_of_ble_eq_true rfl) (Nat.le_of_ble_eq_true rfl) ⟨Nat.le_of_ble_eq_true rfl, Nat.le_of_ble_eq_true rfl⟩) hS (fun _ h => h) (fun H locs hP hF hS => ?_)
        rw [Nat.add_sub_cancel_left] at hP
        have g1 := ft_ww_XN (s := 3) (m := md + 1) okt hrt he (by omega) (by omega) (by omega) (Nat.le_refl q) (Nat.le_refl _)
        have heo2 : ft_eo w (ft_sw (ft_ww w q (q + ft_zR (rest.take (ft_tk rest.length))) k (md + 1)) q (q + ft_zR (rest.take (ft_tk rest.length))) (k + 1) 3) q (q + ft_zR (rest.take (ft_tk rest.length))) := ft_eo_tr (ft_eo_ww _ _ _ _ _) (ft_eo_sw _ _ _ _ _)
        have hw3 := ft_bw_sw (a := q) (b := (q + ft_zR (rest.take (ft_tk rest.length)))) (k := k + 1) (s := 3) (ft_bw_ww (a := q) (b := (q + ft_zR (rest.take (ft_tk rest.length)))) (j := k) (m := md + 1) hw hk (by omega)) (by omega) (by decide)
        generalize ft_sw (ft_ww w q (q + ft_zR (rest.take (ft_tk rest.length))) k (md + 1)) q (q + ft_zR (rest.take (ft_tk rest.length))) (k + 1) 3 = w3 at hP g1 heo2 hw3
        refine x_iload X d_M_group_94 hl rfl ?_
        refine x_istore X d_M_group_96 hl (by decide) rfl (fun ls hl => ?_)
        refine x_iload X d_M_group_98 hl rfl ?_
        refine x_iload X d_M_group_100 hl rfl ?_
        refine n_isub X d_M_group_102 (by omega) ?_
        refine x_istore X d_M_group_103 hl (by decide) rfl (fun ls hl => ?_)
        refine x_goto X 30 d_M_group_105 rfl ?_
        rw [← hldr] at hl
        refine ih (rest.drop (ft_tk rest.length)) (q + ft_zR (rest.take (ft_tk rest.length))) (md + 1) (va_up zf (md + 1) (ft_zR (rest.take (ft_tk rest.length)))) w3 _ _ _ _ _ _ (by omega) (by omega) (by omega) (by omega) hmd hl hP hw3 (ft_up128 hz (by omega)) okd (ft_hx_eo heo2 hrd (Or.inr (Nat.le_refl _))) ?_ hS
        intro w4 H4 hP4 hw4 hh4 heo4
        refine hQ w4 H4 (by rw [hgr]; exact hP4) hw4 ?_ (ft_eo_tr (ft_eo_wd heo2 (Nat.le_refl _) (by omega)) (ft_eo_wd heo4 (by omega) (by omega)))
        rw [hgr, ft_wR_cons, ft_hd_app, ft_wI_len, ft_z_nd]
        exact ⟨ft_eo_hd heo4 g1 (Or.inl (by rw [ft_wI_len, ft_z_nd]; exact Nat.le_refl _)), hh4⟩
      refine x_iload X d_M_group_35 hl rfl ?_
      refine x_iconst (v := nI 2) X d_M_group_37 rfl ?_
      refine n_icmp_eq X 47 d_M_group_38 rfl (by omega) (by omega) (fun hc => ?_) (fun hc => ?_)
      · have e : ft_tk rest.length = 2 := by rw [htk, if_pos (Or.inl (by assumption))]
        refine x_iconst (v := nI 2) X d_M_group_47 rfl ?_
        refine x_goto X 52 d_M_group_48 rfl ?_
        refine x_topi (y := nI (ft_tk rest.length)) (by rw [e]) ?_
        refine x_istore X d_M_group_52 hl (by decide) rfl (fun ls hl => ?_)
        exact mid _ _ hl hS
      refine x_iload X d_M_group_41 hl rfl ?_
      refine x_iconst (v := nI 4) X d_M_group_43 rfl ?_
      refine n_icmp_ne X 51 d_M_group_44 rfl (by omega) (by omega) (fun hc2 => ?_) (fun hc2 => ?_)
      · have e : ft_tk rest.length = 3 := by rw [htk, if_neg (by omega)]
        refine x_iconst (v := nI 3) X d_M_group_51 rfl ?_
        refine x_topi (y := nI (ft_tk rest.length)) (by rw [e]) ?_
        refine x_istore X d_M_group_52 hl (by decide) rfl (fun ls hl => ?_)
        exact mid _ _ hl hS
      · have e : ft_tk rest.length = 2 := by rw [htk, if_pos (Or.inr (by assumption))]
        refine x_iconst (v := nI 2) X d_M_group_47 rfl ?_
        refine x_goto X 52 d_M_group_48 rfl ?_
        refine x_topi (y := nI (ft_tk rest.length)) (by rw [e]) ?_
        refine x_istore X d_M_group_52 hl (by decide) rfl (fun ls hl => ?_)
        exact mid _ _ hl hS
  have loop1 : ∀ (rest pre : List ft_I) (locs : List Loc) (ls : Array Slot), pre ++ rest = row → lz ls 9 [some (.ref (a 0)), some (.int (nI f)), some (.int (nI (f + ft_zR row))), some (.int (nI k)), some (.int (nI pre.length)), some (.int (nI (f + ft_zR pre))), none, none, none] → ft_hx w (f + ft_zR pre) rest → va_S (mFr a) H0 H0 locs → W p_ l e_ (x_rm 2 0 0) s_ m_ ar_ bl_ me_ c_ H0 locs 0 0 (MQ bl_ (xQ (mFr a) (q0 Post)) ar_ s_ 0 0 (mFr a)) (F0 m_ 6 ls []) := by
    intro rest
    induction rest with
    | nil =>
      intro pre locs ls hpr hl hh2 hS
      rw [List.append_nil] at hpr
      subst hpr
      refine x_iload X d_M_group_6 hl rfl ?_
      refine x_iload_n X d_M_group_8 rfl hl rfl ?_
      refine n_icmp_ge X 27 d_M_group_9 rfl (by omega) (by omega) (fun hc => ?_) (fun hc => absurd hc (by omega))
      refine x_iload_n X d_M_group_27 rfl hl rfl ?_
      refine x_istore X d_M_group_28 hl (by decide) rfl (fun ls hl => ?_)
      exact loop2 16 pre f md zf w none none none H0 _ _ h16 h1 h16 ht hmd hl hP hw hz ok hr (fun w' H1 a1 a2 a3 a4 => by rw [← hPost]; exact ⟨w', a1, a2, a3, a4⟩) hS
    | cons x rest ih =>
      intro pre locs ls hpr hl hh2 hS
      have hzr : ft_zR row = ft_zR pre + (ft_z x + ft_zR rest) := by rw [← hpr, ft_zR_app]; rfl
      have hlr : row.length = pre.length + (rest.length + 1) := by rw [← hpr]; simp
      have okx : ft_ok en md zf k x := ok x (by rw [← hpr]; simp)
      have hzx := ft_ok_zpos okx
      obtain ⟨⟨sd, hsd, hx⟩, hrest⟩ := hh2
      refine x_iload X d_M_group_6 hl rfl ?_
      refine x_iload_n X d_M_group_8 rfl hl rfl ?_
      refine n_icmp_ge X 27 d_M_group_9 rfl (by omega) (by omega) (fun hc => absurd hc (by omega)) (fun hc => ?_)
      refine n_iinc (d := 1) X d_M_group_12 rfl hl rfl (by decide) rfl (fun ls hl => ?_)
      refine x_aload_n X d_M_group_15 rfl hl rfl ?_
      refine x_iload X d_M_group_16 hl rfl ?_
      refine x_iload_n X d_M_group_18 rfl hl rfl ?_
      refine x_goR (x_runV X (C_M_endI l D A _ a lo hi en md vs n zf mk pl ct w hP hw hz en md k _ sd x okx hx he hmd0 (by omega) hsd (by omega)) b_M_end s_M_end v_M_end e_M_60 (m_at hP) rfl rfl hl rfl (Nat.le_of_ble_eq_true rfl) d_M_group_19 (Nat.le_of_ble_eq_true rfl) (Nat.le_of_ble_eq_true rfl) ⟨Nat.le_of_ble_eq_true rfl, Nat.le_of_ble_eq_true rfl⟩) hS (fun locs hS => ?_)
      refine x_istore X d_M_group_22 hl (by decide) rfl (fun ls hl => ?_)
      refine x_goto X 6 d_M_group_24 rfl ?_
      refine ih (pre ++ [x]) _ _ (by rw [← hpr]; simp) ?_ ?_ hS
      · rw [List.length_append, ft_zR_app, show ft_zR [x] = ft_z x from by simp [ft_zR], ← Nat.add_assoc]
        exact hl
      · rw [ft_zR_app, show ft_zR [x] = ft_z x from by simp [ft_zR], ← Nat.add_assoc]
        exact hrest
  exact loop1 row [] [] _ rfl hl hr hS
end
section
/-! Contracts of the reference: frontAll, backAll. -/
theorem ft_fr_128 : ∀ (sp : ft_S) (x : ft_I) (o : Option ft_I) (c : ft_C), (∀ i, c.2 i < 128) → ft_z x + ft_zT sp o < 128 → ∀ i, (ft_fr x sp o c).2.2 i < 128 := by
  intro sp
  induction sp with
  | nil => intro x o c h hz; cases o <;> exact h
  | cons d sp ih =>
    intro x o c h hz
    unfold ft_fr
    simp only [ft_zT] at hz
    have := ft_zR_td d.1 1
    split
    · exact h
    · exact ih _ o _ (ft_up128 h (by omega)) (by rw [ft_z_nd]; omega)
theorem ft_bk_128 : ∀ (sp : ft_S) (x : ft_I) (o : Option ft_I) (c : ft_C), (∀ i, c.2 i < 128) → ft_z x + ft_zT sp o < 128 → ∀ i, (ft_bk sp o x c).2.2 i < 128 := by
  intro sp
  induction sp with
  | nil => intro x o c h hz; cases o <;> exact h
  | cons d sp ih =>
    intro x o c h hz
    unfold ft_bk
    simp only [ft_zT] at hz
    have := ft_zR_td d.2 3
    split
    · exact h
    · exact ih _ o _ (ft_up128 h (by omega)) (by rw [ft_z_nd]; omega)
theorem ft_gr_128 : ∀ (f : Nat) (l : List ft_I) (c : ft_C), (∀ i, c.2 i < 128) → ft_zR l < 128 → ∀ i, (ft_gr f l c).2.2 i < 128 := by
  intro f
  induction f with
  | zero => intro l c h hz; exact h
  | succ f ih =>
    intro l c h hz
    unfold ft_gr
    have := ft_zR_td l (ft_tk l.length)
    split
    · exact h
    · exact ih _ _ (ft_up128 h (by omega)) (by omega)
theorem ft_af_app (p l : List ft_I) (a : ft_T × ft_C) : ft_af (p ++ l) a = ft_af p (ft_af l a) := List.foldr_append
theorem ft_af_cons (x : ft_I) (l : List ft_I) (a : ft_T × ft_C) : ft_af (x :: l) a = ft_fr x (ft_af l a).1.1 (ft_af l a).1.2 (ft_af l a).2 := rfl
theorem ft_ab_app (p l : List ft_I) (a : ft_T × ft_C) : ft_ab (p ++ l) a = ft_ab l (ft_ab p a) := List.foldl_append
theorem ft_ab_one (x : ft_I) (a : ft_T × ft_C) : ft_ab [x] a = ft_bk a.1.1 a.1.2 x a.2 := rfl
theorem ft_af_128 {ne k : Nat} : ∀ (row : List ft_I) (a : ft_T × ft_C), ft_okR ne a.2.1 a.2.2 k row → ft_okT ne a.2.1 a.2.2 k a.1.1 a.1.2 → (∀ i, a.2.2 i < 128) → ft_zR row + ft_zT a.1.1 a.1.2 < 128 → ∀ i, (ft_af row a).2.2 i < 128 := by
  intro row
  induction row with
  | nil => intro a _ _ h _; exact h
  | cons x row ih =>
    intro a h1 h2 h hz
    simp only [ft_zR] at hz
    rw [ft_af_cons]
    have ho := ft_af_ok (k := k) row a (fun y hy => h1 y (by simp [hy])) h2
    exact ft_fr_128 _ _ _ _ (ih a (fun y hy => h1 y (by simp [hy])) h2 h (by omega)) (by rw [ho.2.2]; omega)
theorem ft_ab_128 {ne k : Nat} : ∀ (row : List ft_I) (a : ft_T × ft_C), ft_okR ne a.2.1 a.2.2 k row → ft_okT ne a.2.1 a.2.2 k a.1.1 a.1.2 → (∀ i, a.2.2 i < 128) → ft_zR row + ft_zT a.1.1 a.1.2 < 128 → ∀ i, (ft_ab row a).2.2 i < 128 := by
  intro row
  induction row with
  | nil => intro a _ _ h _; exact h
  | cons x row ih =>
    intro a h1 h2 h hz
    simp only [ft_zR] at hz
    have hb := ft_bk_ok a.1.1 x a.1.2 a.2 k (h1 x (by simp)) h2
    exact ih (ft_bk a.1.1 a.1.2 x a.2) (ft_okR_ex hb.1 (fun y hy => h1 y (by simp [hy]))) hb.2 (ft_bk_128 _ _ _ _ h (by omega)) (by rw [ft_bk_z]; omega)
set_option maxRecDepth 100000 in
set_option maxHeartbeats 4000000 in
theorem C_M_frontAll (l : Launch) (D : va_G) (A : Nat → ClassId) (H0 : Heap) (a : Nat → Nat) (lo hi : Nat → Int32) (en md vs n : Nat) (zf mk pl ct w : Nat → Nat) (hP : mH D a A lo hi en zf mk md pl ct vs w n H0) (hd : mDs a) (hw : ft_bw w) (hz : ∀ i, zf i < 128) (he : en ≤ 128) (hn : n ≤ 48) (k f : Nat) (row : List ft_I) (sp : ft_S) (o : Option ft_I) (okr : ft_okR en md zf k row) (okt : ft_okT en md zf k sp o) (hr : ft_hx w f row) (ht : ft_hd w (f + ft_zR row) (ft_wT sp o)) (hk : k ≤ 3) (hB : 2 * 2 ^ k + ft_zR row + ft_zT sp o ≤ 42) (hf : f + ft_zR row + ft_zT sp o ≤ n) (hend : f + ft_zR row + ft_zT sp o < n → ft_le8 (w (f + ft_zR row + ft_zT sp o)) < k) (hmd : (ft_af row ((sp, o), (md, zf))).2.1 < 4200) : xC l y_M_frontAll c_M_frontAll 6 (none : Option FieldType) 4 D A H0 [.ref (a 0), .int (nI f), .int (nI (f + ft_zR row)), .int (nI k)] (mFr a) (q0 (fun H1 => ∃ w', mH D a A lo hi en (ft_af row ((sp, o), (md, zf))).2.2 mk (ft_af row ((sp, o), (md, zf))).2.1 pl ct vs w' n H1 ∧ ft_bw w' ∧ ft_hd w' f (ft_wT (ft_af row ((sp, o), (md, zf))).1.1 (ft_af row ((sp, o), (md, zf))).1.2) ∧ ft_eo w w' f (f + ft_zR row + ft_zT sp o))) 0 0 := by
  refine xC.of rfl (Nat.le_of_ble_eq_true rfl) ?_
  intro p_ e_ s_ m_ ar_ bl_ me_ c_ ls X hl
  have hl : lz ls 6 [some (.ref (a 0)), some (.int (nI f)), some (.int (nI (f + ft_zR row))), some (.int (nI k)), none, none] := hl
  have hS : va_S (mFr a) H0 H0 [] := va_S.rf
  refine x_iload_n X d_M_frontAll_0 rfl hl rfl ?_
  refine x_istore X d_M_frontAll_1 hl (by decide) rfl (fun ls hl => ?_)
  have loop : ∀ (g : Nat) (pre suf : List ft_I) (w1 : Nat → Nat) (v5 : Option Value) (H1 : Heap) (locs : List Loc) (ls : Array Slot), pre.length = g → pre ++ suf = row → lz ls 6 [some (.ref (a 0)), some (.int (nI f)), some (.int (nI (f + ft_zR row))), some (.int (nI k)), some (.int (nI (f + ft_zR pre))), v5] → mH D a A lo hi en (ft_af suf ((sp, o), (md, zf))).2.2 mk (ft_af suf ((sp, o), (md, zf))).2.1 pl ct vs w1 n H1 → ft_bw w1 → ft_hx w1 f pre → ft_hd w1 (f + ft_zR pre) (ft_wT (ft_af suf ((sp, o), (md, zf))).1.1 (ft_af suf ((sp, o), (md, zf))).1.2) → ft_eo w w1 f (f + ft_zR row + ft_zT sp o) → va_S (mFr a) H0 H1 locs → W p_ l e_ (x_rm 4 0 0) s_ m_ ar_ bl_ me_ c_ H1 locs 0 0 (MQ bl_ (xQ (mFr a) (q0 (fun H1 => ∃ w', mH D a A lo hi en (ft_af row ((sp, o), (md, zf))).2.2 mk (ft_af row ((sp, o), (md, zf))).2.1 pl ct vs w' n H1 ∧ ft_bw w' ∧ ft_hd w' f (ft_wT (ft_af row ((sp, o), (md, zf))).1.1 (ft_af row ((sp, o), (md, zf))).1.2) ∧ ft_eo w w' f (f + ft_zR row + ft_zT sp o)))) ar_ s_ 0 0 (mFr a)) (F0 m_ 3 ls []) := by
    intro g
    induction g with
    | zero =>
      intro pre suf w1 v5 H1 locs ls hg hpr hl hP hw1 hp1 ht1 heo hS
      have hpe : pre = [] := List.length_eq_zero_iff.1 hg
      subst hpe
      rw [List.nil_append] at hpr
      subst hpr
      refine x_iload X d_M_frontAll_3 hl rfl ?_
      refine x_iload_n X d_M_frontAll_5 rfl hl rfl ?_
      refine n_icmp_le X 32 d_M_frontAll_6 rfl (by simp only [ft_zR]; omega) (by omega) (fun hc => ?_) (fun hc => absurd hc (by simp [ft_zR]))
      exact x_vret X hS (Nat.le_refl _) (Nat.le_refl _) d_M_frontAll_32 ⟨rfl, w1, hP, hw1, ht1, heo⟩
    | succ g ih =>
      intro pre suf w1 v5 H1 locs ls hg hpr hl hP hw1 hp1 ht1 heo hS
      obtain ⟨pre', x, hpx⟩ := ft_rev (l := pre) (fun e => by rw [e] at hg; simp at hg)
      subst hpx
      have hzp : ft_zR (pre' ++ [x]) = ft_zR pre' + ft_z x := by rw [ft_zR_app]; simp [ft_zR]
      have hzr : ft_zR row = ft_zR pre' + ft_z x + ft_zR suf := by rw [← hpr, ft_zR_app, hzp]
      have oks : ft_okR en md zf k suf := fun y hy => okr y (by rw [← hpr]; simp [hy])
      have okp : ft_okR en md zf k pre' := fun y hy => okr y (by rw [← hpr]; simp [hy])
      have okx0 : ft_ok en md zf k x := okr x (by rw [← hpr]; simp)
      have hzx := ft_ok_zpos okx0
      obtain ⟨a1, a2, a3⟩ := ft_af_ok (ne := en) (k := k) suf ((sp, o), (md, zf)) oks okt
      have okx : ft_ok en (ft_af suf ((sp, o), (md, zf))).2.1 (ft_af suf ((sp, o), (md, zf))).2.2 k x := ft_ok_ex a1 okx0
      have hf1 := ft_fr_ok (ne := en) (ft_af suf ((sp, o), (md, zf))).1.1 x (ft_af suf ((sp, o), (md, zf))).1.2 (ft_af suf ((sp, o), (md, zf))).2 k okx a2
      have hz1 := ft_af_128 (k := k) suf ((sp, o), (md, zf)) oks okt hz (by simp only []; omega)
      have hmd2 : (ft_fr x (ft_af suf ((sp, o), (md, zf))).1.1 (ft_af suf ((sp, o), (md, zf))).1.2 (ft_af suf ((sp, o), (md, zf))).2).2.1 < 4200 := by
        have h9 : ft_af row ((sp, o), (md, zf)) = ft_af pre' (ft_fr x (ft_af suf ((sp, o), (md, zf))).1.1 (ft_af suf ((sp, o), (md, zf))).1.2 (ft_af suf ((sp, o), (md, zf))).2) := by rw [← hpr, List.append_assoc, ft_af_app]; rfl
        rw [h9] at hmd
        exact Nat.lt_of_le_of_lt (ft_af_ok (ne := en) (k := k) pre' (ft_fr x (ft_af suf ((sp, o), (md, zf))).1.1 (ft_af suf ((sp, o), (md, zf))).1.2 (ft_af suf ((sp, o), (md, zf))).2) (ft_okR_ex (ft_ex_tr a1 hf1.1) okp) hf1.2).1.1 hmd
      have hmd1 : (ft_af suf ((sp, o), (md, zf))).2.1 < 4200 := Nat.lt_of_le_of_lt hf1.1.1 hmd2
      rw [hzp, ← Nat.add_assoc] at hl ht1
      rw [ft_hx_app] at hp1
      obtain ⟨hp2, ⟨sd, hsd, hx⟩, _⟩ := hp1
      simp only [] at a3
      refine x_iload X d_M_frontAll_3 hl rfl ?_
      refine x_iload_n X d_M_frontAll_5 rfl hl rfl ?_
      refine n_icmp_le X 32 d_M_frontAll_6 rfl (by omega) (by omega) (fun hc => absurd hc (by omega)) (fun hc => ?_)
      refine x_aload_n X d_M_frontAll_9 rfl hl rfl ?_
      refine x_iload X d_M_frontAll_10 hl rfl ?_
      refine x_iload_n X d_M_frontAll_12 rfl hl rfl ?_
      refine x_goR (x_runV X (C_M_begI l D A _ a lo hi en (ft_af suf ((sp, o), (md, zf))).2.1 vs n (ft_af suf ((sp, o), (md, zf))).2.2 mk pl ct w1 hP hw1 en (ft_af suf ((sp, o), (md, zf))).2.1 k _ sd x okx hx he hmd1 hk hsd (by omega)) b_M_begin s_M_begin v_M_begin e_M_72 (m_at hP) rfl rfl hl rfl (Nat.le_of_ble_eq_true rfl) d_M_frontAll_13 (Nat.le_of_ble_eq_true rfl) (Nat.le_of_ble_eq_true rfl) ⟨Nat.le_of_ble_eq_true rfl, Nat.le_of_ble_eq_true rfl⟩) hS (fun locs hS => ?_)
      refine x_istore X d_M_frontAll_16 hl (by decide) rfl (fun ls hl => ?_)
      refine x_aload_n X d_M_frontAll_18 rfl hl rfl ?_
      refine x_iload X d_M_frontAll_19 hl rfl ?_
      refine x_iload_n X d_M_frontAll_21 rfl hl rfl ?_
      have hend1 : f + ft_zR pre' + ft_z x + ft_zT (ft_af suf ((sp, o), (md, zf))).1.1 (ft_af suf ((sp, o), (md, zf))).1.2 < n → ft_le8 (w1 (f + ft_zR pre' + ft_z x + ft_zT (ft_af suf ((sp, o), (md, zf))).1.1 (ft_af suf ((sp, o), (md, zf))).1.2)) < k := by
        intro h5
        rw [a3] at h5 ⊢
        rw [heo _ (Or.inr (by omega)), show f + ft_zR pre' + ft_z x + (ft_zR suf + ft_zT sp o) = f + ft_zR row + ft_zT sp o from by omega]
        exact hend (by omega)
      refine x_go0 (x_runV X (C_M_front l D A _ a lo hi en (ft_af suf ((sp, o), (md, zf))).2.1 vs n (ft_af suf ((sp, o), (md, zf))).2.2 mk pl ct w1 hP hd hw1 hz1 he hn k (f + ft_zR pre') x (ft_af suf ((sp, o), (md, zf))).1.1 (ft_af suf ((sp, o), (md, zf))).1.2 sd okx a2 hx ht1 hsd (by rw [a3]; omega) (by rw [a3]; omega) hend1 hmd2) b_M_front s_M_front v_M_front e_M_98 (m_at hP) rfl rfl hl rfl (Nat.le_of_ble_eq_true rfl) d_M_frontAll_22 (Nat.le_of_ble_eq_true rfl) (Nat.le_of_ble_eq_true rfl) ⟨Nat.le_of_ble_eq_true rfl, Nat.le_of_ble_eq_true rfl⟩) hS (fun _ h => h) (fun H locs hP hF hS => ?_)
      obtain ⟨w2, hP, hw2, hh2, heo2⟩ := hP
      rw [a3] at heo2
      refine x_iload X d_M_frontAll_25 hl rfl ?_
      refine x_istore X d_M_frontAll_27 hl (by decide) rfl (fun ls hl => ?_)
      refine x_goto X 3 d_M_frontAll_29 rfl ?_
      refine ih pre' (x :: suf) w2 _ _ _ _ (by simpa using hg) (by rw [← hpr]; simp) hl hP hw2 (ft_hx_eo heo2 hp2 (Or.inl (Nat.le_refl _))) hh2 (ft_eo_tr heo (ft_eo_wd heo2 (by omega) (by omega))) hS
  exact loop row.length row [] w none H0 [] _ rfl (List.append_nil _) hl hP hw hr ht (ft_eo_rf _ _ _) hS
set_option maxRecDepth 100000 in
set_option maxHeartbeats 4000000 in
theorem C_M_backAll (l : Launch) (D : va_G) (A : Nat → ClassId) (H0 : Heap) (a : Nat → Nat) (lo hi : Nat → Int32) (en md vs n : Nat) (zf mk pl ct w : Nat → Nat) (hP : mH D a A lo hi en zf mk md pl ct vs w n H0) (hd : mDs a) (hw : ft_bw w) (hz : ∀ i, zf i < 128) (he : en ≤ 128) (hn : n ≤ 48) (k f : Nat) (row : List ft_I) (sp : ft_S) (o : Option ft_I) (okr : ft_okR en md zf k row) (okt : ft_okT en md zf k sp o) (ht : ft_hd w f (ft_wT sp o)) (hr : ft_hx w (f + ft_zT sp o) row) (hk : k ≤ 3) (hB : 2 * 2 ^ k + ft_zR row + ft_zT sp o ≤ 42) (hf : f + ft_zT sp o + ft_zR row ≤ n) (hend : 0 < f → ft_le8 (w (f - 1)) < k) (hmd : (ft_ab row ((sp, o), (md, zf))).2.1 < 4200) : xC l y_M_backAll c_M_backAll 6 (none : Option FieldType) 4 D A H0 [.ref (a 0), .int (nI (f + ft_zT sp o)), .int (nI (f + ft_zT sp o + ft_zR row)), .int (nI k)] (mFr a) (q0 (fun H1 => ∃ w', mH D a A lo hi en (ft_ab row ((sp, o), (md, zf))).2.2 mk (ft_ab row ((sp, o), (md, zf))).2.1 pl ct vs w' n H1 ∧ ft_bw w' ∧ ft_hd w' f (ft_wT (ft_ab row ((sp, o), (md, zf))).1.1 (ft_ab row ((sp, o), (md, zf))).1.2) ∧ ft_eo w w' f (f + ft_zT sp o + ft_zR row))) 0 0 := by
  refine xC.of rfl (Nat.le_of_ble_eq_true rfl) ?_
  intro p_ e_ s_ m_ ar_ bl_ me_ c_ ls X hl
  have hl : lz ls 6 [some (.ref (a 0)), some (.int (nI (f + ft_zT sp o))), some (.int (nI (f + ft_zT sp o + ft_zR row))), some (.int (nI k)), none, none] := hl
  have hS : va_S (mFr a) H0 H0 [] := va_S.rf
  refine x_iload_n X d_M_backAll_0 rfl hl rfl ?_
  refine x_istore X d_M_backAll_1 hl (by decide) rfl (fun ls hl => ?_)
  have loop : ∀ (rest pre : List ft_I) (w1 : Nat → Nat) (v5 : Option Value) (H1 : Heap) (locs : List Loc) (ls : Array Slot), pre ++ rest = row → lz ls 6 [some (.ref (a 0)), some (.int (nI (f + ft_zT sp o))), some (.int (nI (f + ft_zT sp o + ft_zR row))), some (.int (nI k)), some (.int (nI (f + ft_zT sp o + ft_zR pre))), v5] → mH D a A lo hi en (ft_ab pre ((sp, o), (md, zf))).2.2 mk (ft_ab pre ((sp, o), (md, zf))).2.1 pl ct vs w1 n H1 → ft_bw w1 → ft_hx w1 (f + ft_zT sp o + ft_zR pre) rest → ft_hd w1 f (ft_wT (ft_ab pre ((sp, o), (md, zf))).1.1 (ft_ab pre ((sp, o), (md, zf))).1.2) → ft_eo w w1 f (f + ft_zT sp o + ft_zR row) → va_S (mFr a) H0 H1 locs → W p_ l e_ (x_rm 4 0 0) s_ m_ ar_ bl_ me_ c_ H1 locs 0 0 (MQ bl_ (xQ (mFr a) (q0 (fun H1 => ∃ w', mH D a A lo hi en (ft_ab row ((sp, o), (md, zf))).2.2 mk (ft_ab row ((sp, o), (md, zf))).2.1 pl ct vs w' n H1 ∧ ft_bw w' ∧ ft_hd w' f (ft_wT (ft_ab row ((sp, o), (md, zf))).1.1 (ft_ab row ((sp, o), (md, zf))).1.2) ∧ ft_eo w w' f (f + ft_zT sp o + ft_zR row)))) ar_ s_ 0 0 (mFr a)) (F0 m_ 3 ls []) := by
    intro rest
    induction rest with
    | nil =>
      intro pre w1 v5 H1 locs ls hpr hl hP hw1 hp1 ht1 heo hS
      rw [List.append_nil] at hpr
      subst hpr
      refine x_iload X d_M_backAll_3 hl rfl ?_
      refine x_iload_n X d_M_backAll_5 rfl hl rfl ?_
      refine n_icmp_ge X 32 d_M_backAll_6 rfl (by omega) (by omega) (fun hc => ?_) (fun hc => absurd hc (by omega))
      exact x_vret X hS (Nat.le_refl _) (Nat.le_refl _) d_M_backAll_32 ⟨rfl, w1, hP, hw1, ht1, heo⟩
    | cons x rest ih =>
      intro pre w1 v5 H1 locs ls hpr hl hP hw1 hp1 ht1 heo hS
      have hzr : ft_zR row = ft_zR pre + (ft_z x + ft_zR rest) := by rw [← hpr, ft_zR_app]; rfl
      have okp : ft_okR en md zf k pre := fun y hy => okr y (by rw [← hpr]; simp [hy])
      have oks : ft_okR en md zf k rest := fun y hy => okr y (by rw [← hpr]; simp [hy])
      have okx0 : ft_ok en md zf k x := okr x (by rw [← hpr]; simp)
      have hzx := ft_ok_zpos okx0
      obtain ⟨a1, a2, a3⟩ := ft_ab_ok (ne := en) (k := k) pre ((sp, o), (md, zf)) okp okt
      have okx : ft_ok en (ft_ab pre ((sp, o), (md, zf))).2.1 (ft_ab pre ((sp, o), (md, zf))).2.2 k x := ft_ok_ex a1 okx0
      have hf1 := ft_bk_ok (ne := en) (ft_ab pre ((sp, o), (md, zf))).1.1 x (ft_ab pre ((sp, o), (md, zf))).1.2 (ft_ab pre ((sp, o), (md, zf))).2 k okx a2
      have hz1 := ft_ab_128 (k := k) pre ((sp, o), (md, zf)) okp okt hz (by simp only []; omega)
      have hmd2 : (ft_bk (ft_ab pre ((sp, o), (md, zf))).1.1 (ft_ab pre ((sp, o), (md, zf))).1.2 x (ft_ab pre ((sp, o), (md, zf))).2).2.1 < 4200 := by
        have h9 : ft_ab row ((sp, o), (md, zf)) = ft_ab rest (ft_bk (ft_ab pre ((sp, o), (md, zf))).1.1 (ft_ab pre ((sp, o), (md, zf))).1.2 x (ft_ab pre ((sp, o), (md, zf))).2) := by rw [← hpr, ft_ab_app]; rfl
        rw [h9] at hmd
        exact Nat.lt_of_le_of_lt (ft_ab_ok (ne := en) (k := k) rest (ft_bk (ft_ab pre ((sp, o), (md, zf))).1.1 (ft_ab pre ((sp, o), (md, zf))).1.2 x (ft_ab pre ((sp, o), (md, zf))).2) (ft_okR_ex (ft_ex_tr a1 hf1.1) oks) hf1.2).1.1 hmd
      have hmd1 : (ft_ab pre ((sp, o), (md, zf))).2.1 < 4200 := Nat.lt_of_le_of_lt hf1.1.1 hmd2
      obtain ⟨⟨sd, hsd, hx⟩, hrest⟩ := hp1
      simp only [] at a3
      have hab : ft_ab (pre ++ [x]) ((sp, o), (md, zf)) = ft_bk (ft_ab pre ((sp, o), (md, zf))).1.1 (ft_ab pre ((sp, o), (md, zf))).1.2 x (ft_ab pre ((sp, o), (md, zf))).2 := by rw [ft_ab_app]; rfl
      refine x_iload X d_M_backAll_3 hl rfl ?_
      refine x_iload_n X d_M_backAll_5 rfl hl rfl ?_
      refine n_icmp_ge X 32 d_M_backAll_6 rfl (by omega) (by omega) (fun hc => absurd hc (by omega)) (fun hc => ?_)
      refine x_aload_n X d_M_backAll_9 rfl hl rfl ?_
      refine x_iload X d_M_backAll_10 hl rfl ?_
      refine x_iload_n X d_M_backAll_12 rfl hl rfl ?_
      refine x_goR (x_runV X (C_M_endI l D A _ a lo hi en (ft_ab pre ((sp, o), (md, zf))).2.1 vs n (ft_ab pre ((sp, o), (md, zf))).2.2 mk pl ct w1 hP hw1 hz1 en (ft_ab pre ((sp, o), (md, zf))).2.1 k _ sd x okx hx he hmd1 hk hsd (by omega)) b_M_end s_M_end v_M_end e_M_60 (m_at hP) rfl rfl hl rfl (Nat.le_of_ble_eq_true rfl) d_M_backAll_13 (Nat.le_of_ble_eq_true rfl) (Nat.le_of_ble_eq_true rfl) ⟨Nat.le_of_ble_eq_true rfl, Nat.le_of_ble_eq_true rfl⟩) hS (fun locs hS => ?_)
      refine x_istore X d_M_backAll_16 hl (by decide) rfl (fun ls hl => ?_)
      refine x_aload_n X d_M_backAll_18 rfl hl rfl ?_
      refine x_iload X d_M_backAll_19 hl rfl ?_
      refine x_iload_n X d_M_backAll_21 rfl hl rfl ?_
      have hse : f + ft_zT sp o + ft_zR pre = f + ft_zT (ft_ab pre ((sp, o), (md, zf))).1.1 (ft_ab pre ((sp, o), (md, zf))).1.2 := by rw [a3]; omega
      rw [hse] at hx ⊢
      have hend1 : 0 < f → ft_le8 (w1 (f - 1)) < k := by
        intro h5
        rw [heo _ (Or.inl (by omega))]
        exact hend h5
      refine x_go0 (x_runV X (C_M_back l D A _ a lo hi en (ft_ab pre ((sp, o), (md, zf))).2.1 vs n (ft_ab pre ((sp, o), (md, zf))).2.2 mk pl ct w1 hP hd hw1 hz1 he hn k f x (ft_ab pre ((sp, o), (md, zf))).1.1 (ft_ab pre ((sp, o), (md, zf))).1.2 sd okx a2 ht1 hx hsd (by rw [a3]; omega) (by rw [a3]; omega) hend1 hmd2) b_M_back s_M_back v_M_back e_M_101 (m_at hP) rfl rfl hl rfl (Nat.le_of_ble_eq_true rfl) d_M_backAll_22 (Nat.le_of_ble_eq_true rfl) (Nat.le_of_ble_eq_true rfl) ⟨Nat.le_of_ble_eq_true rfl, Nat.le_of_ble_eq_true rfl⟩) hS (fun _ h => h) (fun H locs hP hF hS => ?_)
      obtain ⟨w2, hP, hw2, hh2, heo2⟩ := hP
      rw [a3] at heo2
      refine x_iload X d_M_backAll_25 hl rfl ?_
      refine x_istore X d_M_backAll_27 hl (by decide) rfl (fun ls hl => ?_)
      refine x_goto X 3 d_M_backAll_29 rfl ?_
      refine ih (pre ++ [x]) w2 (some (.int (nI (f + ft_zT sp o + ft_zR pre + ft_z x)))) _ _ _ (by rw [← hpr]; simp) ?_ (by rw [hab]; exact hP) hw2 ?_ (by rw [hab]; exact hh2) (ft_eo_tr heo (ft_eo_wd heo2 (Nat.le_refl _) (by omega))) hS
      · rw [ft_zR_app, show ft_zR [x] = ft_z x from by simp [ft_zR], ← Nat.add_assoc]
        exact hl
      · rw [ft_zR_app, show ft_zR [x] = ft_z x from by simp [ft_zR], ← Nat.add_assoc]
        exact ft_hx_eo heo2 hrest (Or.inr (by omega))
  exact loop row [] w none H0 [] _ rfl hl hP hw hr ht (ft_eo_rf _ _ _) hS
end
section
/-! Contract of the reference: join. -/
theorem ft_trb0 {n j k : Nat} {w : Nat → Nat} (h : 1 ≤ j → ft_le8 (w (j - 1)) < k) : ft_trb n w j k = 0 := by
  unfold ft_trb ft_tr
  split
  · rw [if_neg (fun h2 => by have := h (by assumption); omega)]
  · rfl
theorem ft_trb1 {n j k : Nat} {w : Nat → Nat} (h1 : 1 ≤ j) (hn : j ≤ n) (h : ft_le8 (w (j - 1)) = k) : ft_trb n w j k = 1 := by
  unfold ft_trb ft_tr
  rw [if_pos h1, if_pos ⟨by omega, by omega⟩]
theorem ft_tr0 {n j k : Nat} {w : Nat → Nat} (h : j < n → ft_le8 (w j) < k) : ft_tr n w j k = 0 := by
  unfold ft_tr
  rw [if_neg (fun h2 => by have := h h2.1; omega)]
theorem ft_tr1 {n j k : Nat} {w : Nat → Nat} (hn : j < n) (h : ft_le8 (w j) = k) : ft_tr n w j k = 1 := by
  unfold ft_tr
  rw [if_pos ⟨hn, by omega⟩]
theorem ft_isE {n j k s : Nat} {w : Nat → Nat} (h : j < n → ft_le8 (w j) < k) : ft_is n w j k s = 0 := by
  unfold ft_is
  rw [if_neg (fun h2 => by have := h h2.1; have := h2.2.1; omega)]
set_option maxRecDepth 100000 in
set_option maxHeartbeats 4000000 in
theorem C_M_join (l : Launch) (D : va_G) (A : Nat → ClassId) (H0 : Heap) (a : Nat → Nat) (lo hi : Nat → Int32) (en md vs n : Nat) (zf mk pl ct w : Nat → Nat) (hP : mH D a A lo hi en zf mk md pl ct vs w n H0) (hd : mDs a) (hw : ft_bw w) (hz : ∀ i, zf i < 128) (he : en ≤ 128) (hn : n ≤ 48) (sp : ft_S) (o : Option ft_I) (sp2 : ft_S) (o2 : Option ft_I) (ok1 : ft_okT en md zf 0 sp o) (ok2 : ft_okT en md zf 0 sp2 o2) (h1 : ft_hd w 0 (ft_wT sp o)) (h2 : ft_hd w (ft_zT sp o) (ft_wT sp2 o2)) (h40 : ft_zT sp o + ft_zT sp2 o2 ≤ 40) (hnn : n = ft_zT sp o + ft_zT sp2 o2) (hmd : (ft_jn sp o [] sp2 o2 (md, zf)).2.1 < 4200) : xC l y_M_join c_M_join 7 (none : Option FieldType) 5 D A H0 [.ref (a 0), .int (nI (ft_zT sp o))] (mFr a) (q0 (fun H1 => ∃ w', mH D a A lo hi en (ft_jn sp o [] sp2 o2 (md, zf)).2.2 mk (ft_jn sp o [] sp2 o2 (md, zf)).2.1 pl ct vs w' n H1 ∧ ft_bw w' ∧ ft_hd w' 0 (ft_wT (ft_jn sp o [] sp2 o2 (md, zf)).1.1 (ft_jn sp o [] sp2 o2 (md, zf)).1.2))) 0 0 := by
  refine xC.of rfl (Nat.le_of_ble_eq_true rfl) ?_
  intro p_ e_ s_ m_ ar_ bl_ me_ c_ ls X hl
  have hl : lz ls 7 [some (.ref (a 0)), some (.int (nI (ft_zT sp o))), none, none, none, none, none] := hl
  have hS : va_S (mFr a) H0 H0 [] := va_S.rf
  refine x_iload_n X d_M_join_0 rfl hl rfl ?_
  refine x_istore_n X d_M_join_1 rfl hl (by decide) rfl (fun ls hl => ?_)
  refine x_iload_n X d_M_join_2 rfl hl rfl ?_
  refine x_istore_n X d_M_join_3 rfl hl (by decide) rfl (fun ls hl => ?_)
  refine x_iconst (v := nI 0) X d_M_join_4 rfl ?_
  refine x_istore X d_M_join_5 hl (by decide) rfl (fun ls hl => ?_)
  generalize hPost : (fun H1 => ∃ w', mH D a A lo hi en (ft_jn sp o [] sp2 o2 (md, zf)).2.2 mk (ft_jn sp o [] sp2 o2 (md, zf)).2.1 pl ct vs w' n H1 ∧ ft_bw w' ∧ ft_hd w' 0 (ft_wT (ft_jn sp o [] sp2 o2 (md, zf)).1.1 (ft_jn sp o [] sp2 o2 (md, zf)).1.2)) = Post
  have loop : ∀ (p0 : Int32) (sp : ft_S) (row : List ft_I) (sp2 : ft_S) (k f md : Nat) (zf w : Nat → Nat) (v5 v6 : Option Value) (H1 : Heap) (locs : List Loc) (ls : Array Slot), lz ls 7 [some (.ref (a 0)), some (.int p0), some (.int (nI (f + ft_zT sp o))), some (.int (nI (f + ft_zT sp o + ft_zR row))), some (.int (nI k)), v5, v6] → mH D a A lo hi en zf mk md pl ct vs w n H1 → ft_bw w → (∀ i, zf i < 128) → ft_okR en md zf k row → ft_okT en md zf k sp o → ft_okT en md zf k sp2 o2 → ft_hd w f (ft_wT sp o) → ft_hx w (f + ft_zT sp o) row → ft_hd w (f + ft_zT sp o + ft_zR row) (ft_wT sp2 o2) → row.length ≤ 4 → k ≤ 3 → 2 * 2 ^ k + (ft_zT sp o + ft_zR row + ft_zT sp2 o2) ≤ 42 → (f + ft_zT sp o + ft_zR row + ft_zT sp2 o2) ≤ n → ((f + ft_zT sp o + ft_zR row + ft_zT sp2 o2) < n → ft_le8 (w (f + ft_zT sp o + ft_zR row + ft_zT sp2 o2)) < k) → (0 < f → ft_le8 (w (f - 1)) < k) → (ft_jn sp o row sp2 o2 (md, zf)).2.1 < 4200 →
      (∀ (w' : Nat → Nat) (H1 : Heap), mH D a A lo hi en (ft_jn sp o row sp2 o2 (md, zf)).2.2 mk (ft_jn sp o row sp2 o2 (md, zf)).2.1 pl ct vs w' n H1 → ft_bw w' → ft_hd w' f (ft_wT (ft_jn sp o row sp2 o2 (md, zf)).1.1 (ft_jn sp o row sp2 o2 (md, zf)).1.2) → ft_eo w w' f (f + ft_zT sp o + ft_zR row + ft_zT sp2 o2) → Post H1) → va_S (mFr a) H0 H1 locs → W p_ l e_ (x_rm 5 0 0) s_ m_ ar_ bl_ me_ c_ H1 locs 0 0 (MQ bl_ (xQ (mFr a) (q0 Post)) ar_ s_ 0 0 (mFr a)) (F0 m_ 7 ls []) := by
    clear hPost hP hw hz ok1 ok2 h1 h2 h40 hnn hmd hl hS
    intro p0 sp
    induction sp with
    | nil =>
      intro row sp2 k f md zf w v5 v6 H1 locs ls hl hP hw hz okr ok1 ok2 h1 hr h2 hr4 hk hB hf hend hbeg hmd hQ hS
      have h2k := Nat.one_le_two_pow (n := k)
      have hmd0 : md < 4200 := Nat.lt_of_le_of_lt (ft_jn_ok (ne := en) [] o row sp2 o2 (md, zf) k hr4 okr ok1 ok2).1.1 hmd
      have hu : ft_em sp2 o2 = false → ft_le8 (w (f + ft_zT [] o + ft_zR row)) = k ∧ 1 ≤ ft_zT sp2 o2 := fun hem => ⟨(ft_wT_first ok2 hem h2 he (by omega) hk).1, by have := ft_okT_z ok2 hem; omega⟩
      cases o with
      | none =>
        simp only [ft_zT, Nat.add_zero, Nat.zero_add] at hl hr h2 hB hf hend hQ hu
        have hbeg1 : 1 ≤ f → ft_le8 (w (f - 1)) < k := hbeg
        refine x_aload_n X d_M_join_7 rfl hl rfl ?_
        refine x_iload_n X d_M_join_8 rfl hl rfl ?_
        refine x_iconst (v := nI 1) X d_M_join_9 rfl ?_
        refine x_isub X d_M_join_10 ?_
        refine x_iload X d_M_join_11 hl rfl ?_
        refine x_iconst (v := nI 1) X d_M_join_13 rfl ?_
        refine x_goR (x_runV X (C_M_isb l D A _ a lo hi en md vs n zf mk pl ct w hP hw hn f k 1 (by omega) (by omega) (by decide)) b_M_is s_M_is v_M_is e_M_64 (m_at hP) rfl rfl hl rfl (Nat.le_of_ble_eq_true rfl) d_M_join_14 (Nat.le_of_ble_eq_true rfl) (Nat.le_of_ble_eq_true rfl) ⟨Nat.le_of_ble_eq_true rfl, Nat.le_of_ble_eq_true rfl⟩) hS (fun locs hS => ?_)
        rw [ft_isb0 (fun h3 h4 => by have := hbeg1 h3; omega)]
        refine n_if_eq X 97 d_M_join_17 rfl (by omega) (fun hc => ?_) (fun hc => absurd rfl hc)
        refine x_aload_n X d_M_join_97 rfl hl rfl ?_
        refine x_iload_n X d_M_join_98 rfl hl rfl ?_
        refine x_iconst (v := nI 1) X d_M_join_99 rfl ?_
        refine x_isub X d_M_join_100 ?_
        refine x_iload X d_M_join_101 hl rfl ?_
        refine x_goR (x_runV X (C_M_treeb l D A _ a lo hi en md vs n zf mk pl ct w hP hw hn f k (by omega) (by omega)) b_M_tree s_M_tree v_M_tree e_M_88 (m_at hP) rfl rfl hl rfl (Nat.le_of_ble_eq_true rfl) d_M_join_103 (Nat.le_of_ble_eq_true rfl) (Nat.le_of_ble_eq_true rfl) ⟨Nat.le_of_ble_eq_true rfl, Nat.le_of_ble_eq_true rfl⟩) hS (fun locs hS => ?_)
        rw [ft_trb0 hbeg1]
        refine x_istore X d_M_join_106 hl (by decide) rfl (fun ls hl => ?_)
        refine x_iload X d_M_join_108 hl rfl ?_
        refine n_if_eq X 138 d_M_join_110 rfl (by omega) (fun hc => ?_) (fun hc => absurd rfl hc)
        refine x_aload_n X d_M_join_138 rfl hl rfl ?_
        refine x_iload X d_M_join_139 hl rfl ?_
        refine n_if_eq X 154 d_M_join_141 rfl (by omega) (fun hc => ?_) (fun hc => absurd rfl hc)
        refine x_iload_n X d_M_join_154 rfl hl rfl ?_
        refine x_iload_n X d_M_join_155 rfl hl rfl ?_
        refine x_iload X d_M_join_156 hl rfl ?_
        refine x_go0 (x_runV X (C_M_frontAll l D A _ a lo hi en md vs n zf mk pl ct w hP hd hw hz he hn k f row sp2 o2 okr ok2 hr h2 hk (by omega) hf hend hmd) b_M_frontAll s_M_frontAll v_M_frontAll e_M_92 (m_at hP) rfl rfl hl rfl (Nat.le_of_ble_eq_true rfl) d_M_join_158 (Nat.le_of_ble_eq_true rfl) (Nat.le_of_ble_eq_true rfl) ⟨Nat.le_of_ble_eq_true rfl, Nat.le_of_ble_eq_true rfl⟩) hS (fun _ h => h) (fun H locs hP hF hS => ?_)
        refine x_goto X 192 d_M_join_161 rfl ?_
        obtain ⟨w', hP', hw', hh', heo'⟩ := hP
        exact x_vret X hS (Nat.le_refl _) (Nat.le_refl _) d_M_join_192 ⟨rfl, hQ _ _ hP' hw' hh' (heo')⟩
      | some x =>
        have okx : ft_ok en md zf k x := ok1
        have hx : ft_hd w f (ft_wI 2 x) := h1
        have hzx := ft_ok_zpos okx
        simp only [ft_zT, Nat.zero_add] at hl hr h2 hB hf hend hQ hu
        have hat := ft_wI_at (i := ft_z x - 1) okx hx he (by omega) hk (by decide) (by omega)
        rw [show f + (ft_z x - 1) = f + ft_z x - 1 from by omega] at hat
        have hwa := hw (f + ft_z x - 1)
        refine x_aload_n X d_M_join_7 rfl hl rfl ?_
        refine x_iload_n X d_M_join_8 rfl hl rfl ?_
        refine x_iconst (v := nI 1) X d_M_join_9 rfl ?_
        refine x_isub X d_M_join_10 ?_
        refine x_iload X d_M_join_11 hl rfl ?_
        refine x_iconst (v := nI 1) X d_M_join_13 rfl ?_
        refine x_goR (x_runV X (C_M_isb l D A _ a lo hi en md vs n zf mk pl ct w hP hw hn (f + ft_z x) k 1 (by omega) (by omega) (by decide)) b_M_is s_M_is v_M_is e_M_64 (m_at hP) rfl rfl hl rfl (Nat.le_of_ble_eq_true rfl) d_M_join_14 (Nat.le_of_ble_eq_true rfl) (Nat.le_of_ble_eq_true rfl) ⟨Nat.le_of_ble_eq_true rfl, Nat.le_of_ble_eq_true rfl⟩) hS (fun locs hS => ?_)
        rw [ft_isb0 (fun h3 h4 => by omega)]
        refine n_if_eq X 97 d_M_join_17 rfl (by omega) (fun hc => ?_) (fun hc => absurd rfl hc)
        refine x_aload_n X d_M_join_97 rfl hl rfl ?_
        refine x_iload_n X d_M_join_98 rfl hl rfl ?_
        refine x_iconst (v := nI 1) X d_M_join_99 rfl ?_
        refine x_isub X d_M_join_100 ?_
        refine x_iload X d_M_join_101 hl rfl ?_
        refine x_goR (x_runV X (C_M_treeb l D A _ a lo hi en md vs n zf mk pl ct w hP hw hn (f + ft_z x) k (by omega) (by omega)) b_M_tree s_M_tree v_M_tree e_M_88 (m_at hP) rfl rfl hl rfl (Nat.le_of_ble_eq_true rfl) d_M_join_103 (Nat.le_of_ble_eq_true rfl) (Nat.le_of_ble_eq_true rfl) ⟨Nat.le_of_ble_eq_true rfl, Nat.le_of_ble_eq_true rfl⟩) hS (fun locs hS => ?_)
        rw [ft_trb1 (by omega) (by omega) hat.2.1]
        refine x_istore X d_M_join_106 hl (by decide) rfl (fun ls hl => ?_)
        refine x_iload X d_M_join_108 hl rfl ?_
        refine n_if_eq X 138 d_M_join_110 rfl (by omega) (fun hc => absurd hc (by decide)) (fun hc => ?_)
        refine x_aload_n X d_M_join_113 rfl hl rfl ?_
        refine x_iload_n X d_M_join_114 rfl hl rfl ?_
        refine x_iload X d_M_join_115 hl rfl ?_
        refine x_goR (x_runV X (C_M_tree l D A _ a lo hi en md vs n zf mk pl ct w hP hw hn (f + ft_z x + ft_zR row) k (by omega) (by omega)) b_M_tree s_M_tree v_M_tree e_M_88 (m_at hP) rfl rfl hl rfl (Nat.le_of_ble_eq_true rfl) d_M_join_117 (Nat.le_of_ble_eq_true rfl) (Nat.le_of_ble_eq_true rfl) ⟨Nat.le_of_ble_eq_true rfl, Nat.le_of_ble_eq_true rfl⟩) hS (fun locs hS => ?_)
        cases hem : ft_em sp2 o2 with
        | true =>
          have hz2 := (ft_em_z ok2).1 hem
          simp only [hz2, Nat.add_zero] at hB hf hend hQ
          have hjn : ft_jn [] (some x) row sp2 o2 (md, zf) = ft_ab row (([], some x), (md, zf)) := by simp only [ft_jn, hem, if_true]
          rw [hjn] at hQ hmd
          rw [ft_tr0 hend]
          refine n_if_eq X 164 d_M_join_120 rfl (by omega) (fun hc => ?_) (fun hc => absurd rfl hc)
          refine x_aload_n X d_M_join_164 rfl hl rfl ?_
          refine x_iload_n X d_M_join_165 rfl hl rfl ?_
          refine x_aload_n X d_M_join_166 rfl hl rfl ?_
          refine x_iload_n X d_M_join_167 rfl hl rfl ?_
          refine x_iload X d_M_join_168 hl rfl ?_
          refine x_goR (x_runV X (C_M_tree l D A _ a lo hi en md vs n zf mk pl ct w hP hw hn (f + ft_z x + ft_zR row) k (by omega) (by omega)) b_M_tree s_M_tree v_M_tree e_M_88 (m_at hP) rfl rfl hl rfl (Nat.le_of_ble_eq_true rfl) d_M_join_170 (Nat.le_of_ble_eq_true rfl) (Nat.le_of_ble_eq_true rfl) ⟨Nat.le_of_ble_eq_true rfl, Nat.le_of_ble_eq_true rfl⟩) hS (fun locs hS => ?_)
          rw [ft_tr0 hend]
          refine n_if_eq X 186 d_M_join_173 rfl (by omega) (fun hc => ?_) (fun hc => absurd rfl hc)
          refine x_iload_n X d_M_join_186 rfl hl rfl ?_
          refine x_iload X d_M_join_187 hl rfl ?_
          refine x_go0 (x_runV X (C_M_backAll l D A _ a lo hi en md vs n zf mk pl ct w hP hd hw hz he hn k f row [] (some x) okr ok1 h1 hr hk (by simp only [ft_zT]; omega) hf hbeg hmd) b_M_backAll s_M_backAll v_M_backAll e_M_95 (m_at hP) rfl rfl hl rfl (Nat.le_of_ble_eq_true rfl) d_M_join_189 (Nat.le_of_ble_eq_true rfl) (Nat.le_of_ble_eq_true rfl) ⟨Nat.le_of_ble_eq_true rfl, Nat.le_of_ble_eq_true rfl⟩) hS (fun _ h => h) (fun H locs hP hF hS => ?_)
          obtain ⟨w', hP', hw', hh', heo'⟩ := hP
          exact x_vret X hS (Nat.le_refl _) (Nat.le_refl _) d_M_join_192 ⟨rfl, hQ _ _ hP' hw' hh' (heo')⟩
        | false =>
          obtain ⟨hu1, hu2⟩ := hu hem
          have hjn : ft_jn [] (some x) row sp2 o2 (md, zf) = ft_af (x :: row) ((sp2, o2), (md, zf)) := by
            rw [ft_af_cons]
            simp only [ft_jn, hem, Bool.false_eq_true, if_false]
          rw [hjn] at hQ hmd
          rw [ft_tr1 (by omega) hu1]
          have hside := hat.1
          dsimp only [ft_sd] at hside
          have hzc : ft_zR (x :: row) = ft_z x + ft_zR row := rfl
          refine n_if_eq X 164 d_M_join_120 rfl (by omega) (fun hc => absurd hc (by decide)) (fun hc => ?_)
          refine x_aload_n X d_M_join_123 rfl hl rfl ?_
          refine m_get X hP 9 (by decide) e_M_34 rfl d_M_join_124 ?_
          refine x_iload_n X d_M_join_127 rfl hl rfl ?_
          refine x_iconst (v := nI 1) X d_M_join_128 rfl ?_
          refine n_isub X d_M_join_129 (by omega) ?_
          refine m_ld_w X hP (by omega) d_M_join_130 ?_
          refine x_goR (x_runS X (C_M_side l D A _ (w (f + ft_z x - 1)) (by omega)) b_M_side s_M_side e_M_44 rfl hl rfl (Nat.le_of_ble_eq_true rfl) d_M_join_131 (Nat.le_of_ble_eq_true rfl) (Nat.le_of_ble_eq_true rfl) ⟨Nat.le_of_ble_eq_true rfl, Nat.le_of_ble_eq_true rfl⟩) hS (fun locs hS => ?_)
          refine x_iconst (v := nI 2) X d_M_join_134 rfl ?_
          refine n_icmp_ne X 164 d_M_join_135 rfl (by omega) (by omega) (fun hc => absurd hside hc) (fun hc => ?_)
          refine x_aload_n X d_M_join_138 rfl hl rfl ?_
          refine x_iload X d_M_join_139 hl rfl ?_
          refine n_if_eq X 154 d_M_join_141 rfl (by omega) (fun hc => absurd hc (by decide)) (fun hc => ?_)
          refine x_aload_n X d_M_join_144 rfl hl rfl ?_
          refine x_iload_n X d_M_join_145 rfl hl rfl ?_
          refine x_iload X d_M_join_146 hl rfl ?_
          refine x_goR (x_runV X (C_M_begI l D A _ a lo hi en md vs n zf mk pl ct w hP hw en md k f 2 x okx hx he hmd0 hk (by decide) (by omega)) b_M_begin s_M_begin v_M_begin e_M_72 (m_at hP) rfl rfl hl rfl (Nat.le_of_ble_eq_true rfl) d_M_join_148 (Nat.le_of_ble_eq_true rfl) (Nat.le_of_ble_eq_true rfl) ⟨Nat.le_of_ble_eq_true rfl, Nat.le_of_ble_eq_true rfl⟩) hS (fun locs hS => ?_)
          refine x_goto X 155 d_M_join_151 rfl ?_
          refine x_iload_n X d_M_join_155 rfl hl rfl ?_
          refine x_iload X d_M_join_156 hl rfl ?_
          rw [show f + ft_z x + ft_zR row = f + ft_zR (x :: row) from by rw [hzc]; omega] at h2 hf hend hQ hl ⊢
          refine x_go0 (x_runV X (C_M_frontAll l D A _ a lo hi en md vs n zf mk pl ct w hP hd hw hz he hn k f (x :: row) sp2 o2 (ft_okR_cons okx okr) ok2 ⟨⟨2, by decide, hx⟩, hr⟩ h2 hk (by rw [hzc]; omega) hf hend hmd) b_M_frontAll s_M_frontAll v_M_frontAll e_M_92 (m_at hP) rfl rfl hl rfl (Nat.le_of_ble_eq_true rfl) d_M_join_158 (Nat.le_of_ble_eq_true rfl) (Nat.le_of_ble_eq_true rfl) ⟨Nat.le_of_ble_eq_true rfl, Nat.le_of_ble_eq_true rfl⟩) hS (fun _ h => h) (fun H locs hP hF hS => ?_)
          refine x_goto X 192 d_M_join_161 rfl ?_
          obtain ⟨w', hP', hw', hh', heo'⟩ := hP
          exact x_vret X hS (Nat.le_refl _) (Nat.le_refl _) d_M_join_192 ⟨rfl, hQ _ _ hP' hw' hh' (heo')⟩
    | cons d sp ih =>
      intro row sp2 k f md zf w v5 v6 H1 locs ls hl hP hw hz okr ok1 ok2 h1 hr h2 hr4 hk hB hf hend hbeg hmd hQ hS
      have h2k := Nat.one_le_two_pow (n := k)
      have hmd0 : md < 4200 := Nat.lt_of_le_of_lt (ft_jn_ok (ne := en) (d :: sp) o row sp2 o2 (md, zf) k hr4 okr ok1 ok2).1.1 hmd
      have hat := ft_wT_last ok1 rfl h1 he (by omega) hk
      simp only [List.isEmpty_cons, Bool.false_eq_true, if_false] at hat
      have hzd := ft_okT_zd ok1
      have hT : ft_zT (d :: sp) o = ft_zR d.1 + ft_zT sp o + ft_zR d.2 := rfl
      have hwa := hw (f + ft_zT (d :: sp) o - 1)
      have hside := hat.2.1
      dsimp only [ft_sd] at hside
      refine x_aload_n X d_M_join_7 rfl hl rfl ?_
      refine x_iload_n X d_M_join_8 rfl hl rfl ?_
      refine x_iconst (v := nI 1) X d_M_join_9 rfl ?_
      refine x_isub X d_M_join_10 ?_
      refine x_iload X d_M_join_11 hl rfl ?_
      refine x_iconst (v := nI 1) X d_M_join_13 rfl ?_
      refine x_goR (x_runV X (C_M_isb l D A _ a lo hi en md vs n zf mk pl ct w hP hw hn (f + ft_zT (d :: sp) o) k 1 (by omega) (by omega) (by decide)) b_M_is s_M_is v_M_is e_M_64 (m_at hP) rfl rfl hl rfl (Nat.le_of_ble_eq_true rfl) d_M_join_14 (Nat.le_of_ble_eq_true rfl) (Nat.le_of_ble_eq_true rfl) ⟨Nat.le_of_ble_eq_true rfl, Nat.le_of_ble_eq_true rfl⟩) hS (fun locs hS => ?_)
      rw [ft_isb1 (by omega) (by omega) ⟨hat.1, hat.2.1⟩]
      refine n_if_eq X 97 d_M_join_17 rfl (by omega) (fun hc => absurd hc (by decide)) (fun hc => ?_)
      refine x_aload_n X d_M_join_20 rfl hl rfl ?_
      refine x_iload_n X d_M_join_21 rfl hl rfl ?_
      refine x_iload X d_M_join_22 hl rfl ?_
      refine x_iconst (v := nI 0) X d_M_join_24 rfl ?_
      refine x_goR (x_runV X (C_M_is l D A _ a lo hi en md vs n zf mk pl ct w hP hw hn (f + ft_zT (d :: sp) o + ft_zR row) k 0 (by omega) (by omega) (by decide)) b_M_is s_M_is v_M_is e_M_64 (m_at hP) rfl rfl hl rfl (Nat.le_of_ble_eq_true rfl) d_M_join_25 (Nat.le_of_ble_eq_true rfl) (Nat.le_of_ble_eq_true rfl) ⟨Nat.le_of_ble_eq_true rfl, Nat.le_of_ble_eq_true rfl⟩) hS (fun locs hS => ?_)
      cases sp2 with
      | nil =>
        cases o2 with
        | none =>
          have hz2 : ft_zT [] none = 0 := rfl
          rw [hz2, Nat.add_zero] at hend hf hQ hB
          have hjn : ft_jn (d :: sp) o row [] none (md, zf) = ft_ab row ((d :: sp, o), (md, zf)) := rfl
          rw [hjn] at hQ hmd
          rw [ft_isE hend]
          refine n_if_eq X 97 d_M_join_28 rfl (by omega) (fun hc => ?_) (fun hc => absurd rfl hc)
          refine x_aload_n X d_M_join_97 rfl hl rfl ?_
          refine x_iload_n X d_M_join_98 rfl hl rfl ?_
          refine x_iconst (v := nI 1) X d_M_join_99 rfl ?_
          refine x_isub X d_M_join_100 ?_
          refine x_iload X d_M_join_101 hl rfl ?_
          refine x_goR (x_runV X (C_M_treeb l D A _ a lo hi en md vs n zf mk pl ct w hP hw hn (f + ft_zT (d :: sp) o) k (by omega) (by omega)) b_M_tree s_M_tree v_M_tree e_M_88 (m_at hP) rfl rfl hl rfl (Nat.le_of_ble_eq_true rfl) d_M_join_103 (Nat.le_of_ble_eq_true rfl) (Nat.le_of_ble_eq_true rfl) ⟨Nat.le_of_ble_eq_true rfl, Nat.le_of_ble_eq_true rfl⟩) hS (fun locs hS => ?_)
          rw [ft_trb1 (by omega) (by omega) hat.1]
          refine x_istore X d_M_join_106 hl (by decide) rfl (fun ls hl => ?_)
          refine x_iload X d_M_join_108 hl rfl ?_
          refine n_if_eq X 138 d_M_join_110 rfl (by omega) (fun hc => absurd hc (by decide)) (fun hc => ?_)
          refine x_aload_n X d_M_join_113 rfl hl rfl ?_
          refine x_iload_n X d_M_join_114 rfl hl rfl ?_
          refine x_iload X d_M_join_115 hl rfl ?_
          refine x_goR (x_runV X (C_M_tree l D A _ a lo hi en md vs n zf mk pl ct w hP hw hn (f + ft_zT (d :: sp) o + ft_zR row) k (by omega) (by omega)) b_M_tree s_M_tree v_M_tree e_M_88 (m_at hP) rfl rfl hl rfl (Nat.le_of_ble_eq_true rfl) d_M_join_117 (Nat.le_of_ble_eq_true rfl) (Nat.le_of_ble_eq_true rfl) ⟨Nat.le_of_ble_eq_true rfl, Nat.le_of_ble_eq_true rfl⟩) hS (fun locs hS => ?_)
          rw [ft_tr0 hend]
          refine n_if_eq X 164 d_M_join_120 rfl (by omega) (fun hc => ?_) (fun hc => absurd rfl hc)
          refine x_aload_n X d_M_join_164 rfl hl rfl ?_
          refine x_iload_n X d_M_join_165 rfl hl rfl ?_
          refine x_aload_n X d_M_join_166 rfl hl rfl ?_
          refine x_iload_n X d_M_join_167 rfl hl rfl ?_
          refine x_iload X d_M_join_168 hl rfl ?_
          refine x_goR (x_runV X (C_M_tree l D A _ a lo hi en md vs n zf mk pl ct w hP hw hn (f + ft_zT (d :: sp) o + ft_zR row) k (by omega) (by omega)) b_M_tree s_M_tree v_M_tree e_M_88 (m_at hP) rfl rfl hl rfl (Nat.le_of_ble_eq_true rfl) d_M_join_170 (Nat.le_of_ble_eq_true rfl) (Nat.le_of_ble_eq_true rfl) ⟨Nat.le_of_ble_eq_true rfl, Nat.le_of_ble_eq_true rfl⟩) hS (fun locs hS => ?_)
          rw [ft_tr0 hend]
          refine n_if_eq X 186 d_M_join_173 rfl (by omega) (fun hc => ?_) (fun hc => absurd rfl hc)
          refine x_iload_n X d_M_join_186 rfl hl rfl ?_
          refine x_iload X d_M_join_187 hl rfl ?_
          refine x_go0 (x_runV X (C_M_backAll l D A _ a lo hi en md vs n zf mk pl ct w hP hd hw hz he hn k f row (d :: sp) o okr ok1 h1 hr hk (by omega) hf hbeg hmd) b_M_backAll s_M_backAll v_M_backAll e_M_95 (m_at hP) rfl rfl hl rfl (Nat.le_of_ble_eq_true rfl) d_M_join_189 (Nat.le_of_ble_eq_true rfl) (Nat.le_of_ble_eq_true rfl) ⟨Nat.le_of_ble_eq_true rfl, Nat.le_of_ble_eq_true rfl⟩) hS (fun _ h => h) (fun H locs hP hF hS => ?_)
          obtain ⟨w', hP', hw', hh', heo'⟩ := hP
          exact x_vret X hS (Nat.le_refl _) (Nat.le_refl _) d_M_join_192 ⟨rfl, hQ _ _ hP' hw' hh' (heo')⟩
        | some y =>
          have oky : ft_ok en md zf k y := ok2
          have hy : ft_hd w (f + ft_zT (d :: sp) o + ft_zR row) (ft_wI 2 y) := h2
          have hzy := ft_ok_zpos oky
          have hz2 : ft_zT [] (some y) = ft_z y := rfl
          rw [hz2] at hend hf hQ hB
          have hjn : ft_jn (d :: sp) o row [] (some y) (md, zf) = ft_ab (row ++ [y]) ((d :: sp, o), (md, zf)) := by rw [ft_ab_app]; rfl
          rw [hjn] at hQ hmd
          have haty := ft_wI_at (i := 0) oky hy he (by omega) hk (by decide) hzy
          rw [Nat.add_zero] at haty
          have hzc : ft_zR (row ++ [y]) = ft_zR row + ft_z y := by rw [ft_zR_app]; simp [ft_zR]
          rw [ft_is0 (fun h => by omega)]
          refine n_if_eq X 97 d_M_join_28 rfl (by omega) (fun hc => ?_) (fun hc => absurd rfl hc)
          refine x_aload_n X d_M_join_97 rfl hl rfl ?_
          refine x_iload_n X d_M_join_98 rfl hl rfl ?_
          refine x_iconst (v := nI 1) X d_M_join_99 rfl ?_
          refine x_isub X d_M_join_100 ?_
          refine x_iload X d_M_join_101 hl rfl ?_
          refine x_goR (x_runV X (C_M_treeb l D A _ a lo hi en md vs n zf mk pl ct w hP hw hn (f + ft_zT (d :: sp) o) k (by omega) (by omega)) b_M_tree s_M_tree v_M_tree e_M_88 (m_at hP) rfl rfl hl rfl (Nat.le_of_ble_eq_true rfl) d_M_join_103 (Nat.le_of_ble_eq_true rfl) (Nat.le_of_ble_eq_true rfl) ⟨Nat.le_of_ble_eq_true rfl, Nat.le_of_ble_eq_true rfl⟩) hS (fun locs hS => ?_)
          rw [ft_trb1 (by omega) (by omega) hat.1]
          refine x_istore X d_M_join_106 hl (by decide) rfl (fun ls hl => ?_)
          refine x_iload X d_M_join_108 hl rfl ?_
          refine n_if_eq X 138 d_M_join_110 rfl (by omega) (fun hc => absurd hc (by decide)) (fun hc => ?_)
          refine x_aload_n X d_M_join_113 rfl hl rfl ?_
          refine x_iload_n X d_M_join_114 rfl hl rfl ?_
          refine x_iload X d_M_join_115 hl rfl ?_
          refine x_goR (x_runV X (C_M_tree l D A _ a lo hi en md vs n zf mk pl ct w hP hw hn (f + ft_zT (d :: sp) o + ft_zR row) k (by omega) (by omega)) b_M_tree s_M_tree v_M_tree e_M_88 (m_at hP) rfl rfl hl rfl (Nat.le_of_ble_eq_true rfl) d_M_join_117 (Nat.le_of_ble_eq_true rfl) (Nat.le_of_ble_eq_true rfl) ⟨Nat.le_of_ble_eq_true rfl, Nat.le_of_ble_eq_true rfl⟩) hS (fun locs hS => ?_)
          rw [ft_tr1 (by omega) haty.2.1]
          refine n_if_eq X 164 d_M_join_120 rfl (by omega) (fun hc => absurd hc (by decide)) (fun hc => ?_)
          refine x_aload_n X d_M_join_123 rfl hl rfl ?_
          refine m_get X hP 9 (by decide) e_M_34 rfl d_M_join_124 ?_
          refine x_iload_n X d_M_join_127 rfl hl rfl ?_
          refine x_iconst (v := nI 1) X d_M_join_128 rfl ?_
          refine n_isub X d_M_join_129 (by omega) ?_
          refine m_ld_w X hP (by omega) d_M_join_130 ?_
          refine x_goR (x_runS X (C_M_side l D A _ (w (f + ft_zT (d :: sp) o - 1)) (by omega)) b_M_side s_M_side e_M_44 rfl hl rfl (Nat.le_of_ble_eq_true rfl) d_M_join_131 (Nat.le_of_ble_eq_true rfl) (Nat.le_of_ble_eq_true rfl) ⟨Nat.le_of_ble_eq_true rfl, Nat.le_of_ble_eq_true rfl⟩) hS (fun locs hS => ?_)
          refine x_iconst (v := nI 2) X d_M_join_134 rfl ?_
          refine n_icmp_ne X 164 d_M_join_135 rfl (by omega) (by omega) (fun hc => ?_) (fun hc => absurd hc (by omega))
          refine x_aload_n X d_M_join_164 rfl hl rfl ?_
          refine x_iload_n X d_M_join_165 rfl hl rfl ?_
          refine x_aload_n X d_M_join_166 rfl hl rfl ?_
          refine x_iload_n X d_M_join_167 rfl hl rfl ?_
          refine x_iload X d_M_join_168 hl rfl ?_
          refine x_goR (x_runV X (C_M_tree l D A _ a lo hi en md vs n zf mk pl ct w hP hw hn (f + ft_zT (d :: sp) o + ft_zR row) k (by omega) (by omega)) b_M_tree s_M_tree v_M_tree e_M_88 (m_at hP) rfl rfl hl rfl (Nat.le_of_ble_eq_true rfl) d_M_join_170 (Nat.le_of_ble_eq_true rfl) (Nat.le_of_ble_eq_true rfl) ⟨Nat.le_of_ble_eq_true rfl, Nat.le_of_ble_eq_true rfl⟩) hS (fun locs hS => ?_)
          rw [ft_tr1 (by omega) haty.2.1]
          refine n_if_eq X 186 d_M_join_173 rfl (by omega) (fun hc => absurd hc (by decide)) (fun hc => ?_)
          refine x_aload_n X d_M_join_176 rfl hl rfl ?_
          refine x_iload_n X d_M_join_177 rfl hl rfl ?_
          refine x_iload X d_M_join_178 hl rfl ?_
          refine x_goR (x_runV X (C_M_endI l D A _ a lo hi en md vs n zf mk pl ct w hP hw hz en md k _ 2 y oky hy he hmd0 hk (by decide) (by omega)) b_M_end s_M_end v_M_end e_M_60 (m_at hP) rfl rfl hl rfl (Nat.le_of_ble_eq_true rfl) d_M_join_180 (Nat.le_of_ble_eq_true rfl) (Nat.le_of_ble_eq_true rfl) ⟨Nat.le_of_ble_eq_true rfl, Nat.le_of_ble_eq_true rfl⟩) hS (fun locs hS => ?_)
          refine x_goto X 187 d_M_join_183 rfl ?_
          refine x_iload X d_M_join_187 hl rfl ?_
          rw [show (f + ft_zT (d :: sp) o + ft_zR row) + ft_z y = (f + ft_zT (d :: sp) o) + ft_zR (row ++ [y]) from by rw [hzc]; omega] at hf hQ ⊢
          refine x_go0 (x_runV X (C_M_backAll l D A _ a lo hi en md vs n zf mk pl ct w hP hd hw hz he hn k f (row ++ [y]) (d :: sp) o (ft_okR_app okr (ft_okR_one oky)) ok1 h1 (ft_hx_app.2 ⟨hr, ⟨2, by decide, hy⟩, trivial⟩) hk (by rw [hzc]; omega) hf hbeg hmd) b_M_backAll s_M_backAll v_M_backAll e_M_95 (m_at hP) rfl rfl hl rfl (Nat.le_of_ble_eq_true rfl) d_M_join_189 (Nat.le_of_ble_eq_true rfl) (Nat.le_of_ble_eq_true rfl) ⟨Nat.le_of_ble_eq_true rfl, Nat.le_of_ble_eq_true rfl⟩) hS (fun _ h => h) (fun H locs hP hF hS => ?_)
          obtain ⟨w', hP', hw', hh', heo'⟩ := hP
          exact x_vret X hS (Nat.le_refl _) (Nat.le_refl _) d_M_join_192 ⟨rfl, hQ _ _ hP' hw' hh' (heo')⟩
      | cons d2 sp2 =>
        have hat2 := ft_wT_first ok2 rfl h2 he (by omega) hk
        simp only [List.isEmpty_cons, Bool.false_eq_true, if_false] at hat2
        have hzd2 := ft_okT_zd ok2
        have hT2 : ft_zT (d2 :: sp2) o2 = ft_zR d2.1 + ft_zT sp2 o2 + ft_zR d2.2 := rfl
        obtain ⟨a1, a2, a3⟩ := ft_hd3 h1
        obtain ⟨b1, b2, b3⟩ := ft_hd3 h2
        have hk2 : k < 3 := by
          have : 2 ^ k < 2 ^ 3 := by omega
          exact (Nat.pow_lt_pow_iff_right (by decide)).1 this
        rw [ft_is1 (by omega) ⟨hat2.1, hat2.2.1⟩]
        have hah := ft_ahead ok1.2.2 ok1.1.2.2 ok1.1.1 a1 a2 he (by omega) hk (fun _ => by omega)
        have hpa := ft_past ok2.2.2 ok2.2.1.2.2 ok2.2.1.1 b2 b3 he (by omega) hk (fun _ => by omega)
        refine n_if_eq X 97 d_M_join_28 rfl (by omega) (fun hc => absurd hc (by decide)) (fun hc => ?_)
        refine x_iload_n X d_M_join_31 rfl hl rfl ?_
        refine x_istore X d_M_join_32 hl (by decide) rfl (fun ls hl => ?_)
        have down : ∀ (i : Nat) (locs : List Loc) (ls : Array Slot), i ≤ ft_zR d.2 → lz ls 7 [some (.ref (a 0)), some (.int p0), some (.int (nI (f + ft_zT (d :: sp) o))), some (.int (nI (f + ft_zT (d :: sp) o + ft_zR row))), some (.int (nI k)), some (.int (nI ((f + ft_zR d.1 + ft_zT sp o) + i))), v6] → va_S (mFr a) H0 H1 locs →
            (∀ (locs : List Loc) (ls : Array Slot), lz ls 7 [some (.ref (a 0)), some (.int p0), some (.int (nI (f + ft_zT (d :: sp) o))), some (.int (nI (f + ft_zT (d :: sp) o + ft_zR row))), some (.int (nI k)), some (.int (nI (f + ft_zR d.1 + ft_zT sp o))), v6] → va_S (mFr a) H0 H1 locs → W p_ l e_ (x_rm 5 0 0) s_ m_ ar_ bl_ me_ c_ H1 locs 0 0 (MQ bl_ (xQ (mFr a) (q0 Post)) ar_ s_ 0 0 (mFr a)) (F0 m_ 54 ls [])) → W p_ l e_ (x_rm 5 0 0) s_ m_ ar_ bl_ me_ c_ H1 locs 0 0 (MQ bl_ (xQ (mFr a) (q0 Post)) ar_ s_ 0 0 (mFr a)) (F0 m_ 34 ls []) := by
          intro i
          induction i with
          | zero =>
            intro locs ls hi2 hl hS kk
            rw [Nat.add_zero] at hl
            refine x_aload_n X d_M_join_34 rfl hl rfl ?_
            refine x_iload X d_M_join_35 hl rfl ?_
            refine x_iconst (v := nI 1) X d_M_join_37 rfl ?_
            refine x_isub X d_M_join_38 ?_
            refine x_iload X d_M_join_39 hl rfl ?_
            refine x_iconst (v := nI 1) X d_M_join_41 rfl ?_
            refine x_goR (x_runV X (C_M_isb l D A _ a lo hi en md vs n zf mk pl ct w hP hw hn (f + ft_zR d.1 + ft_zT sp o) k 1 (by omega) (by omega) (by decide)) b_M_is s_M_is v_M_is e_M_64 (m_at hP) rfl rfl hl rfl (Nat.le_of_ble_eq_true rfl) d_M_join_42 (Nat.le_of_ble_eq_true rfl) (Nat.le_of_ble_eq_true rfl) ⟨Nat.le_of_ble_eq_true rfl, Nat.le_of_ble_eq_true rfl⟩) hS (fun locs hS => ?_)
            rw [ft_isb0 (fun h3 h4 => by omega)]
            refine n_if_eq X 54 d_M_join_45 rfl (by omega) (fun hc => ?_) (fun hc => absurd rfl hc)
            exact kk _ _ hl hS
          | succ i ih2 =>
            intro locs ls hi2 hl hS kk
            have hati := ft_wR_at (i := i) ok1.2.1.2.2 a3 he (by omega) hk (by decide) (by omega)
            refine x_aload_n X d_M_join_34 rfl hl rfl ?_
            refine x_iload X d_M_join_35 hl rfl ?_
            refine x_iconst (v := nI 1) X d_M_join_37 rfl ?_
            refine x_isub X d_M_join_38 ?_
            refine x_iload X d_M_join_39 hl rfl ?_
            refine x_iconst (v := nI 1) X d_M_join_41 rfl ?_
            refine x_goR (x_runV X (C_M_isb l D A _ a lo hi en md vs n zf mk pl ct w hP hw hn ((f + ft_zR d.1 + ft_zT sp o) + (i + 1)) k 1 (by omega) (by omega) (by decide)) b_M_is s_M_is v_M_is e_M_64 (m_at hP) rfl rfl hl rfl (Nat.le_of_ble_eq_true rfl) d_M_join_42 (Nat.le_of_ble_eq_true rfl) (Nat.le_of_ble_eq_true rfl) ⟨Nat.le_of_ble_eq_true rfl, Nat.le_of_ble_eq_true rfl⟩) hS (fun locs hS => ?_)
            rw [ft_isb1 (by omega) (by omega) ⟨hati.2.1, hati.1⟩]
            refine n_if_eq X 54 d_M_join_45 rfl (by omega) (fun hc => absurd hc (by decide)) (fun hc => ?_)
            refine n_idec X d_M_join_48 (by omega) hl rfl (by decide) rfl (fun ls hl => ?_)
            refine x_goto X 34 d_M_join_51 rfl ?_
            exact ih2 _ _ (by omega) hl hS kk
        refine down (ft_zR d.2) _ _ (Nat.le_refl _) (by rw [show (f + ft_zR d.1 + ft_zT sp o) + ft_zR d.2 = (f + ft_zT (d :: sp) o) from by omega]; exact hl) hS (fun locs ls hl hS => ?_)
        clear down
        refine x_iload_n X d_M_join_54 rfl hl rfl ?_
        refine x_istore X d_M_join_55 hl (by decide) rfl (fun ls hl => ?_)
        have up : ∀ (g i : Nat) (locs : List Loc) (ls : Array Slot), ft_zR d2.1 - i = g → i ≤ ft_zR d2.1 → lz ls 7 [some (.ref (a 0)), some (.int p0), some (.int (nI (f + ft_zT (d :: sp) o))), some (.int (nI (f + ft_zT (d :: sp) o + ft_zR row))), some (.int (nI k)), some (.int (nI (f + ft_zR d.1 + ft_zT sp o))), some (.int (nI ((f + ft_zT (d :: sp) o + ft_zR row) + i)))] → va_S (mFr a) H0 H1 locs →
            (∀ (locs : List Loc) (ls : Array Slot), lz ls 7 [some (.ref (a 0)), some (.int p0), some (.int (nI (f + ft_zT (d :: sp) o))), some (.int (nI (f + ft_zT (d :: sp) o + ft_zR row))), some (.int (nI k)), some (.int (nI (f + ft_zR d.1 + ft_zT sp o))), some (.int (nI ((f + ft_zT (d :: sp) o + ft_zR row) + ft_zR d2.1)))] → va_S (mFr a) H0 H1 locs → W p_ l e_ (x_rm 5 0 0) s_ m_ ar_ bl_ me_ c_ H1 locs 0 0 (MQ bl_ (xQ (mFr a) (q0 Post)) ar_ s_ 0 0 (mFr a)) (F0 m_ 75 ls [])) → W p_ l e_ (x_rm 5 0 0) s_ m_ ar_ bl_ me_ c_ H1 locs 0 0 (MQ bl_ (xQ (mFr a) (q0 Post)) ar_ s_ 0 0 (mFr a)) (F0 m_ 57 ls []) := by
          intro g
          induction g with
          | zero =>
            intro i locs ls hg hi2 hl hS kk
            have hie : i = ft_zR d2.1 := by omega
            subst hie
            refine x_aload_n X d_M_join_57 rfl hl rfl ?_
            refine x_iload X d_M_join_58 hl rfl ?_
            refine x_iload X d_M_join_60 hl rfl ?_
            refine x_iconst (v := nI 0) X d_M_join_62 rfl ?_
            refine x_goR (x_runV X (C_M_is l D A _ a lo hi en md vs n zf mk pl ct w hP hw hn ((f + ft_zT (d :: sp) o + ft_zR row) + ft_zR d2.1) k 0 (by omega) (by omega) (by decide)) b_M_is s_M_is v_M_is e_M_64 (m_at hP) rfl rfl hl rfl (Nat.le_of_ble_eq_true rfl) d_M_join_63 (Nat.le_of_ble_eq_true rfl) (Nat.le_of_ble_eq_true rfl) ⟨Nat.le_of_ble_eq_true rfl, Nat.le_of_ble_eq_true rfl⟩) hS (fun locs hS => ?_)
            rw [ft_is0 (fun h4 => by omega)]
            refine n_if_eq X 75 d_M_join_66 rfl (by omega) (fun hc => ?_) (fun hc => absurd rfl hc)
            exact kk _ _ hl hS
          | succ g ih2 =>
            intro i locs ls hg hi2 hl hS kk
            have hati := ft_wR_at (i := i) ok2.1.2.2 b1 he (by omega) hk (by decide) (by omega)
            refine x_aload_n X d_M_join_57 rfl hl rfl ?_
            refine x_iload X d_M_join_58 hl rfl ?_
            refine x_iload X d_M_join_60 hl rfl ?_
            refine x_iconst (v := nI 0) X d_M_join_62 rfl ?_
            refine x_goR (x_runV X (C_M_is l D A _ a lo hi en md vs n zf mk pl ct w hP hw hn ((f + ft_zT (d :: sp) o + ft_zR row) + i) k 0 (by omega) (by omega) (by decide)) b_M_is s_M_is v_M_is e_M_64 (m_at hP) rfl rfl hl rfl (Nat.le_of_ble_eq_true rfl) d_M_join_63 (Nat.le_of_ble_eq_true rfl) (Nat.le_of_ble_eq_true rfl) ⟨Nat.le_of_ble_eq_true rfl, Nat.le_of_ble_eq_true rfl⟩) hS (fun locs hS => ?_)
            rw [ft_is1 (by omega) ⟨hati.2.1, hati.1⟩]
            refine n_if_eq X 75 d_M_join_66 rfl (by omega) (fun hc => absurd hc (by decide)) (fun hc => ?_)
            refine n_iinc (d := 1) X d_M_join_69 rfl hl rfl (by decide) rfl (fun ls hl => ?_)
            refine x_goto X 57 d_M_join_72 rfl ?_
            exact ih2 (i + 1) _ _ (by omega) (by omega) hl hS kk
        refine up (ft_zR d2.1) 0 _ _ rfl (Nat.zero_le _) hl hS (fun locs ls hl hS => ?_)
        clear up
        have hzrow : ft_zR (d.2 ++ row ++ d2.1) = ft_zR d.2 + ft_zR row + ft_zR d2.1 := by rw [ft_zR_app, ft_zR_app]
        have hlrow : (d.2 ++ row ++ d2.1).length = d.2.length + row.length + d2.1.length := by simp; omega
        have okrow := ft_okR_app (ft_okR_app ok1.2.1.2.2 okr) ok2.1.2.2
        have q1 := ok1.2.1.1
        have q2 := ok1.2.1.2.1
        have q3 := ok2.1.1
        have q4 := ok2.1.2.1
        obtain ⟨g1, g2, g3, g4, g5⟩ := ft_gr_ok (ne := en) (k := k) 16 (d.2 ++ row ++ d2.1) (md, zf) (by omega) (by omega) okrow
        have hjn : ft_jn (d :: sp) o row (d2 :: sp2) o2 (md, zf) = (((d.1, d2.2) :: (ft_jn sp o (ft_gr 16 (d.2 ++ row ++ d2.1) (md, zf)).1 sp2 o2 (ft_gr 16 (d.2 ++ row ++ d2.1) (md, zf)).2).1.1, (ft_jn sp o (ft_gr 16 (d.2 ++ row ++ d2.1) (md, zf)).1 sp2 o2 (ft_gr 16 (d.2 ++ row ++ d2.1) (md, zf)).2).1.2), (ft_jn sp o (ft_gr 16 (d.2 ++ row ++ d2.1) (md, zf)).1 sp2 o2 (ft_gr 16 (d.2 ++ row ++ d2.1) (md, zf)).2).2) := rfl
        have ok1' := ft_okT_ex g1 ok1.2.2
        have ok2' := ft_okT_ex g1 ok2.2.2
        rw [hjn] at hQ hmd
        have hgl : (ft_gr 16 (d.2 ++ row ++ d2.1) (md, zf)).1.length ≤ 4 := by rw [g3, hlrow]; omega
        have hmdg : (ft_gr 16 (d.2 ++ row ++ d2.1) (md, zf)).2.1 < 4200 := by
          have := (ft_jn_ok (ne := en) sp o (ft_gr 16 (d.2 ++ row ++ d2.1) (md, zf)).1 sp2 o2 (ft_gr 16 (d.2 ++ row ++ d2.1) (md, zf)).2 (k + 1) hgl g2 ok1' ok2').1.1
          exact Nat.lt_of_le_of_lt this hmd
        have hxrow : ft_hx w (f + ft_zR d.1 + ft_zT sp o) (d.2 ++ row ++ d2.1) := by
          rw [ft_hx_app, ft_hx_app, ft_zR_app]
          refine ⟨⟨ft_hx_of (by decide) a3, ?_⟩, ?_⟩
          · rw [show (f + ft_zR d.1 + ft_zT sp o) + ft_zR d.2 = (f + ft_zT (d :: sp) o) from by omega]; exact hr
          · rw [show (f + ft_zR d.1 + ft_zT sp o) + (ft_zR d.2 + ft_zR row) = (f + ft_zT (d :: sp) o + ft_zR row) from by omega]; exact ft_hx_of (by decide) b1
        refine x_aload_n X d_M_join_75 rfl hl rfl ?_
        refine x_iload X d_M_join_76 hl rfl ?_
        refine x_iload X d_M_join_78 hl rfl ?_
        refine x_iload X d_M_join_80 hl rfl ?_
        rw [show (f + ft_zT (d :: sp) o + ft_zR row) + ft_zR d2.1 = (f + ft_zR d.1 + ft_zT sp o) + ft_zR (d.2 ++ row ++ d2.1) from by rw [hzrow]; omega] at hl ⊢
        refine x_go0 (x_runV X (C_M_group l D A _ a lo hi en md vs n zf mk pl ct w hP hd hw hz he hn k (f + ft_zR d.1 + ft_zT sp o) (d.2 ++ row ++ d2.1) okrow hxrow hk2 (by omega) (by omega) (by rw [hzrow]; omega) hmdg) b_M_group s_M_group v_M_group e_M_85 (m_at hP) rfl rfl hl rfl (Nat.le_of_ble_eq_true rfl) d_M_join_82 (Nat.le_of_ble_eq_true rfl) (Nat.le_of_ble_eq_true rfl) ⟨Nat.le_of_ble_eq_true rfl, Nat.le_of_ble_eq_true rfl⟩) hS (fun _ h => h) (fun H locs hP hF hS => ?_)
        obtain ⟨w3, hP, hw3, hh3, heo3⟩ := hP
        have hzg : ft_zR (ft_gr 16 (d.2 ++ row ++ d2.1) (md, zf)).1 = ft_zR d.2 + ft_zR row + ft_zR d2.1 := by rw [g4, hzrow]
        rw [hzrow] at heo3
        rw [hzrow, ← hzg] at hl
        refine x_iload X d_M_join_85 hl rfl ?_
        refine x_istore_n X d_M_join_87 rfl hl (by decide) rfl (fun ls hl => ?_)
        refine x_iload X d_M_join_88 hl rfl ?_
        refine x_istore_n X d_M_join_90 rfl hl (by decide) rfl (fun ls hl => ?_)
        refine n_iinc (d := 1) X d_M_join_91 rfl hl rfl (by decide) rfl (fun ls hl => ?_)
        refine x_goto X 7 d_M_join_94 rfl ?_
        have z1 := ft_wR_at (i := ft_zR d.1 - 1) ok1.1.2.2 a1 he (by omega) hk (by decide) (by omega)
        rw [show f + (ft_zR d.1 - 1) = f + ft_zR d.1 - 1 from by omega] at z1
        have z2 := ft_wR_at (i := 0) ok2.2.1.2.2 b3 he (by omega) hk (by decide) (by omega)
        rw [Nat.add_zero] at z2
        have hce : (f + ft_zT (d :: sp) o + ft_zR row) + ft_zR d2.1 = (f + ft_zR d.1 + ft_zT sp o + (ft_zR d.2 + ft_zR row + ft_zR d2.1)) := by omega
        rw [hce] at b2 b3 z2
        refine ih (ft_gr 16 (d.2 ++ row ++ d2.1) (md, zf)).1 sp2 (k + 1) (f + ft_zR d.1) (ft_gr 16 (d.2 ++ row ++ d2.1) (md, zf)).2.1 (ft_gr 16 (d.2 ++ row ++ d2.1) (md, zf)).2.2 w3 _ _ _ _ _ hl hP hw3 (ft_gr_128 16 _ _ hz (by rw [hzrow]; omega)) g2 ok1' ok2' (ft_eo_hd heo3 a2 (Or.inl (by rw [ft_wT_len]; exact Nat.le_refl _))) (ft_hx_of (by decide) hh3) (by rw [hzg]; exact ft_eo_hd heo3 b2 (Or.inr (Nat.le_refl _))) hgl (by omega) (by rw [Nat.pow_succ, hzg]; omega) (by rw [hzg]; omega) (fun _ => ?_) (fun _ => ?_) hmd ?_ hS
        · rw [hzg, heo3 _ (Or.inr (by omega)), z2.2.1]; omega
        · rw [heo3 _ (Or.inl (by omega)), z1.2.1]; omega
        · intro w4 H4 hP4 hw4 hh4 heo4
          rw [hzg] at heo4
          have hzj := (ft_jn_ok (ne := en) sp o (ft_gr 16 (d.2 ++ row ++ d2.1) (md, zf)).1 sp2 o2 (ft_gr 16 (d.2 ++ row ++ d2.1) (md, zf)).2 (k + 1) hgl g2 ok1' ok2').2.2
          rw [hzg] at hzj
          have heo34 : ft_eo w w4 (f + ft_zR d.1) ((f + ft_zR d.1 + ft_zT sp o + (ft_zR d.2 + ft_zR row + ft_zR d2.1)) + ft_zT sp2 o2) := ft_eo_tr (ft_eo_wd heo3 (by omega) (by omega)) heo4
          refine hQ w4 H4 hP4 hw4 (ft_hd3' ?_ hh4 ?_) (ft_eo_wd heo34 (by omega) (by omega))
          · exact ft_eo_hd heo34 a1 (Or.inl (by rw [ft_wR_len]; exact Nat.le_refl _))
          · rw [hzj, show f + ft_zR d.1 + (ft_zT sp o + (ft_zR d.2 + ft_zR row + ft_zR d2.1) + ft_zT sp2 o2) = (f + ft_zR d.1 + ft_zT sp o + (ft_zR d.2 + ft_zR row + ft_zR d2.1)) + ft_zT sp2 o2 from by omega]
            exact ft_eo_hd heo34 b3 (Or.inr (Nat.le_refl _))
  refine loop (nI (ft_zT sp o)) sp [] sp2 0 0 md zf w none none H0 [] _ ?_ hP hw hz (fun y hy => by simp at hy) ok1 ok2 h1 trivial ?_ (by simp) (by decide) ?_ ?_ (fun h => ?_) (fun h => absurd h (by decide)) hmd (fun w' H1 h1 h2 h3 h4 => by rw [← hPost]; exact ⟨w', h1, h2, h3⟩) hS
  · simp only [ft_zR, Nat.zero_add, Nat.add_zero]; exact hl
  · simp only [ft_zR, Nat.zero_add, Nat.add_zero]; exact h2
  · simp only [ft_zR]; omega
  · simp only [ft_zR]; omega
  · simp only [ft_zR] at h; omega
end
