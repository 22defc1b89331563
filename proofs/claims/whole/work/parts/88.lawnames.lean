/-! The law: names, words, decode rows. -/
theorem tw_152 : Cond.codeWith ⟨"RevisionGroveLaw", "put", "(LRevisionGrove;II[J)I"⟩ method_3_code 5 (some FieldType.int) [(0, 10, 13, 13), (0, 10, 17, 15)] ∈ rg_tbl := rg_mem (List.mem_append_left _ (List.mem_of_getElem? (l := tables_1_1) (i := 152) (by decide +kernel))) (by decide +kernel)
theorem tw_153 : Cond.classLink "RevisionGroveLaw" 13 "java/lang/IllegalArgumentException" ∈ rg_tbl := rg_mem (List.mem_append_left _ (List.mem_of_getElem? (l := tables_1_1) (i := 153) (by decide +kernel))) (by decide +kernel)
theorem tw_154 : Cond.classLink "RevisionGroveLaw" 15 "java/lang/IllegalStateException" ∈ rg_tbl := rg_mem (List.mem_append_left _ (List.mem_of_getElem? (l := tables_1_1) (i := 154) (by decide +kernel))) (by decide +kernel)
theorem tw_297 : Cond.codeWith ⟨"RevisionGroveLaw", "add", "(LRevisionGrove;II[J)I"⟩ method_4_code 5 (some FieldType.int) [(0, 10, 13, 13), (0, 10, 17, 15)] ∈ rg_tbl := rg_mem (List.mem_append_right _ (List.mem_append_left _ (List.mem_of_getElem? (l := tables_1_2) (i := 57) (by decide +kernel)))) (by decide +kernel)
theorem tw_308 : Cond.codeWith ⟨"RevisionGroveLaw", "mark", "(LRevisionGrove;IIZ[J)I"⟩ method_5_code 6 (some FieldType.int) [(0, 12, 15, 13), (0, 12, 19, 15)] ∈ rg_tbl := rg_mem (List.mem_append_right _ (List.mem_append_left _ (List.mem_of_getElem? (l := tables_1_2) (i := 68) (by decide +kernel)))) (by decide +kernel)
theorem tw_317 : Cond.codeWith ⟨"RevisionGroveLaw", "insert", "(LRevisionGrove;III[J)I"⟩ method_6_code 6 (some FieldType.int) [(0, 12, 15, 13), (0, 12, 19, 28), (0, 12, 23, 15)] ∈ rg_tbl := rg_mem (List.mem_append_right _ (List.mem_append_left _ (List.mem_of_getElem? (l := tables_1_2) (i := 77) (by decide +kernel)))) (by decide +kernel)
theorem tw_318 : Cond.classLink "RevisionGroveLaw" 28 "java/lang/IndexOutOfBoundsException" ∈ rg_tbl := rg_mem (List.mem_append_right _ (List.mem_append_left _ (List.mem_of_getElem? (l := tables_1_2) (i := 78) (by decide +kernel)))) (by decide +kernel)
theorem tw_351 : Cond.codeWith ⟨"RevisionGroveLaw", "remove", "(LRevisionGrove;II[J)I"⟩ method_7_code 5 (some FieldType.int) [(0, 10, 13, 13), (0, 10, 17, 28), (0, 10, 21, 15)] ∈ rg_tbl := rg_mem (List.mem_append_right _ (List.mem_append_left _ (List.mem_of_getElem? (l := tables_1_2) (i := 111) (by decide +kernel)))) (by decide +kernel)
theorem tw_367 : Cond.codeWith ⟨"RevisionGroveLaw", "point", "(LRevisionGrove;I)I"⟩ method_8_code 3 (some FieldType.int) [(0, 5, 8, 13)] ∈ rg_tbl := rg_mem (List.mem_append_right _ (List.mem_append_left _ (List.mem_of_getElem? (l := tables_1_2) (i := 127) (by decide +kernel)))) (by decide +kernel)
theorem tw_383 : Cond.codeWith ⟨"RevisionGroveLaw", "turn", "(LRevisionGrove;I[J)I"⟩ method_9_code 4 (some FieldType.int) [(0, 9, 12, 13)] ∈ rg_tbl := rg_mem (List.mem_append_right _ (List.mem_append_left _ (List.mem_of_getElem? (l := tables_1_2) (i := 143) (by decide +kernel)))) (by decide +kernel)
theorem tw_394 : Cond.codeWith ⟨"RevisionGroveLaw", "go", "(LRevisionGrove;I)I"⟩ method_10_code 3 (some FieldType.int) [(0, 5, 8, 13)] ∈ rg_tbl := rg_mem (List.mem_append_right _ (List.mem_append_left _ (List.mem_of_getElem? (l := tables_1_2) (i := 154) (by decide +kernel)))) (by decide +kernel)
theorem tw_410 : Cond.codeWith ⟨"RevisionGroveLaw", "undo", "(LRevisionGrove;[J)I"⟩ method_11_code 3 (some FieldType.int) [(0, 8, 11, 48)] ∈ rg_tbl := rg_mem (List.mem_append_right _ (List.mem_append_left _ (List.mem_of_getElem? (l := tables_1_2) (i := 170) (by decide +kernel)))) (by decide +kernel)
theorem tw_411 : Cond.classLink "RevisionGroveLaw" 48 "java/util/NoSuchElementException" ∈ rg_tbl := rg_mem (List.mem_append_right _ (List.mem_append_left _ (List.mem_of_getElem? (l := tables_1_2) (i := 171) (by decide +kernel)))) (by decide +kernel)
theorem tw_442 : Cond.codeWith ⟨"RevisionGroveLaw", "redo", "(LRevisionGrove;[J)I"⟩ method_12_code 3 (some FieldType.int) [(0, 8, 11, 48)] ∈ rg_tbl := rg_mem (List.mem_append_right _ (List.mem_append_left _ (List.mem_of_getElem? (l := tables_1_2) (i := 202) (by decide +kernel)))) (by decide +kernel)
theorem tw_458 : Cond.codeWith ⟨"RevisionGroveLaw", "merge", "(LRevisionGrove;II[J)I"⟩ method_13_code 5 (some FieldType.int) [(0, 10, 13, 13), (0, 10, 17, 15)] ∈ rg_tbl := rg_mem (List.mem_append_right _ (List.mem_append_left _ (List.mem_of_getElem? (l := tables_1_2) (i := 218) (by decide +kernel)))) (by decide +kernel)
theorem tw_552 : Cond.codeWith ⟨"RevisionGroveLaw", "base", "(LRevisionGrove;I[J)I"⟩ method_14_code 4 (some FieldType.int) [(0, 9, 12, 13)] ∈ rg_tbl := rg_mem (List.mem_append_right _ (List.mem_append_right _ (List.mem_append_left _ (List.mem_of_getElem? (l := tables_1_3) (i := 72) (by decide +kernel))))) (by decide +kernel)
theorem tw_559 : Cond.codeWith ⟨"RevisionGroveLaw", "value", "(LRevisionGrove;III[J)I"⟩ method_15_code 6 (some FieldType.int) [(0, 11, 14, 13), (0, 11, 18, 28)] ∈ rg_tbl := rg_mem (List.mem_append_right _ (List.mem_append_right _ (List.mem_append_left _ (List.mem_of_getElem? (l := tables_1_3) (i := 79) (by decide +kernel))))) (by decide +kernel)
theorem tw_571 : Cond.codeWith ⟨"RevisionGroveLaw", "differ", "(LRevisionGrove;II[J)I"⟩ method_16_code 5 (some FieldType.int) [(0, 10, 13, 13)] ∈ rg_tbl := rg_mem (List.mem_append_right _ (List.mem_append_right _ (List.mem_append_left _ (List.mem_of_getElem? (l := tables_1_3) (i := 91) (by decide +kernel))))) (by decide +kernel)
theorem tw_578 : Cond.codeWith ⟨"RevisionGroveLaw", "parent", "(LRevisionGrove;IZ[J)I"⟩ method_17_code 5 (some FieldType.int) [(0, 10, 13, 13)] ∈ rg_tbl := rg_mem (List.mem_append_right _ (List.mem_append_right _ (List.mem_append_left _ (List.mem_of_getElem? (l := tables_1_3) (i := 98) (by decide +kernel))))) (by decide +kernel)
theorem tw_589 : Cond.codeWith ⟨"RevisionGroveLaw", "figure", "(LRevisionGrove;I[J)I"⟩ method_18_code 4 (some FieldType.int) [(0, 9, 12, 13)] ∈ rg_tbl := rg_mem (List.mem_append_right _ (List.mem_append_right _ (List.mem_append_left _ (List.mem_of_getElem? (l := tables_1_3) (i := 109) (by decide +kernel))))) (by decide +kernel)
abbrev yL_put : MethodName := ⟨"RevisionGroveLaw", "put", "(LRevisionGrove;II[J)I"⟩
abbrev yL_add : MethodName := ⟨"RevisionGroveLaw", "add", "(LRevisionGrove;II[J)I"⟩
abbrev yL_mark : MethodName := ⟨"RevisionGroveLaw", "mark", "(LRevisionGrove;IIZ[J)I"⟩
abbrev yL_insert : MethodName := ⟨"RevisionGroveLaw", "insert", "(LRevisionGrove;III[J)I"⟩
abbrev yL_remove : MethodName := ⟨"RevisionGroveLaw", "remove", "(LRevisionGrove;II[J)I"⟩
abbrev yL_point : MethodName := ⟨"RevisionGroveLaw", "point", "(LRevisionGrove;I)I"⟩
abbrev yL_turn : MethodName := ⟨"RevisionGroveLaw", "turn", "(LRevisionGrove;I[J)I"⟩
abbrev yL_go : MethodName := ⟨"RevisionGroveLaw", "go", "(LRevisionGrove;I)I"⟩
abbrev yL_undo : MethodName := ⟨"RevisionGroveLaw", "undo", "(LRevisionGrove;[J)I"⟩
abbrev yL_redo : MethodName := ⟨"RevisionGroveLaw", "redo", "(LRevisionGrove;[J)I"⟩
abbrev yL_merge : MethodName := ⟨"RevisionGroveLaw", "merge", "(LRevisionGrove;II[J)I"⟩
abbrev yL_base : MethodName := ⟨"RevisionGroveLaw", "base", "(LRevisionGrove;I[J)I"⟩
abbrev yL_value : MethodName := ⟨"RevisionGroveLaw", "value", "(LRevisionGrove;III[J)I"⟩
abbrev yL_differ : MethodName := ⟨"RevisionGroveLaw", "differ", "(LRevisionGrove;II[J)I"⟩
abbrev yL_parent : MethodName := ⟨"RevisionGroveLaw", "parent", "(LRevisionGrove;IZ[J)I"⟩
abbrev yL_figure : MethodName := ⟨"RevisionGroveLaw", "figure", "(LRevisionGrove;I[J)I"⟩
theorem dL_put_0 : decode method_3_code 0 = .ok (.aload_n 3, 1) := by decide +kernel
theorem dL_put_1 : decode method_3_code 1 = .ok (.iconst 0, 1) := by decide +kernel
theorem dL_put_2 : decode method_3_code 2 = .ok (.aload_n 0, 1) := by decide +kernel
theorem dL_put_3 : decode method_3_code 3 = .ok (.iload_n 1, 1) := by decide +kernel
theorem dL_put_4 : decode method_3_code 4 = .ok (.iload_n 2, 1) := by decide +kernel
theorem dL_put_5 : decode method_3_code 5 = .ok (.invokevirtual 7, 3) := by decide +kernel
theorem dL_put_8 : decode method_3_code 8 = .ok (.i2l, 1) := by decide +kernel
theorem dL_put_9 : decode method_3_code 9 = .ok (.lastore, 1) := by decide +kernel
theorem dL_put_10 : decode method_3_code 10 = .ok (.goto 11, 3) := by decide +kernel
theorem dL_put_13 : decode method_3_code 13 = .ok (.astore 4, 2) := by decide +kernel
theorem dL_put_15 : decode method_3_code 15 = .ok (.iconst 1, 1) := by decide +kernel
theorem dL_put_16 : decode method_3_code 16 = .ok (.ireturn, 1) := by decide +kernel
theorem dL_put_17 : decode method_3_code 17 = .ok (.astore 4, 2) := by decide +kernel
theorem dL_put_19 : decode method_3_code 19 = .ok (.iconst 2, 1) := by decide +kernel
theorem dL_put_20 : decode method_3_code 20 = .ok (.ireturn, 1) := by decide +kernel
theorem dL_put_21 : decode method_3_code 21 = .ok (.iconst 0, 1) := by decide +kernel
theorem dL_put_22 : decode method_3_code 22 = .ok (.ireturn, 1) := by decide +kernel
theorem dL_add_0 : decode method_4_code 0 = .ok (.aload_n 3, 1) := by decide +kernel
theorem dL_add_1 : decode method_4_code 1 = .ok (.iconst 0, 1) := by decide +kernel
theorem dL_add_2 : decode method_4_code 2 = .ok (.aload_n 0, 1) := by decide +kernel
theorem dL_add_3 : decode method_4_code 3 = .ok (.iload_n 1, 1) := by decide +kernel
theorem dL_add_4 : decode method_4_code 4 = .ok (.iload_n 2, 1) := by decide +kernel
theorem dL_add_5 : decode method_4_code 5 = .ok (.invokevirtual 17, 3) := by decide +kernel
theorem dL_add_8 : decode method_4_code 8 = .ok (.i2l, 1) := by decide +kernel
theorem dL_add_9 : decode method_4_code 9 = .ok (.lastore, 1) := by decide +kernel
theorem dL_add_10 : decode method_4_code 10 = .ok (.goto 11, 3) := by decide +kernel
theorem dL_add_13 : decode method_4_code 13 = .ok (.astore 4, 2) := by decide +kernel
theorem dL_add_15 : decode method_4_code 15 = .ok (.iconst 1, 1) := by decide +kernel
theorem dL_add_16 : decode method_4_code 16 = .ok (.ireturn, 1) := by decide +kernel
theorem dL_add_17 : decode method_4_code 17 = .ok (.astore 4, 2) := by decide +kernel
theorem dL_add_19 : decode method_4_code 19 = .ok (.iconst 2, 1) := by decide +kernel
theorem dL_add_20 : decode method_4_code 20 = .ok (.ireturn, 1) := by decide +kernel
theorem dL_add_21 : decode method_4_code 21 = .ok (.iconst 0, 1) := by decide +kernel
theorem dL_add_22 : decode method_4_code 22 = .ok (.ireturn, 1) := by decide +kernel
theorem dL_mark_0 : decode method_5_code 0 = .ok (.aload 4, 2) := by decide +kernel
theorem dL_mark_2 : decode method_5_code 2 = .ok (.iconst 0, 1) := by decide +kernel
theorem dL_mark_3 : decode method_5_code 3 = .ok (.aload_n 0, 1) := by decide +kernel
theorem dL_mark_4 : decode method_5_code 4 = .ok (.iload_n 1, 1) := by decide +kernel
theorem dL_mark_5 : decode method_5_code 5 = .ok (.iload_n 2, 1) := by decide +kernel
theorem dL_mark_6 : decode method_5_code 6 = .ok (.iload_n 3, 1) := by decide +kernel
theorem dL_mark_7 : decode method_5_code 7 = .ok (.invokevirtual 20, 3) := by decide +kernel
theorem dL_mark_10 : decode method_5_code 10 = .ok (.i2l, 1) := by decide +kernel
theorem dL_mark_11 : decode method_5_code 11 = .ok (.lastore, 1) := by decide +kernel
theorem dL_mark_12 : decode method_5_code 12 = .ok (.goto 11, 3) := by decide +kernel
theorem dL_mark_15 : decode method_5_code 15 = .ok (.astore 5, 2) := by decide +kernel
theorem dL_mark_17 : decode method_5_code 17 = .ok (.iconst 1, 1) := by decide +kernel
theorem dL_mark_18 : decode method_5_code 18 = .ok (.ireturn, 1) := by decide +kernel
theorem dL_mark_19 : decode method_5_code 19 = .ok (.astore 5, 2) := by decide +kernel
theorem dL_mark_21 : decode method_5_code 21 = .ok (.iconst 2, 1) := by decide +kernel
theorem dL_mark_22 : decode method_5_code 22 = .ok (.ireturn, 1) := by decide +kernel
theorem dL_mark_23 : decode method_5_code 23 = .ok (.iconst 0, 1) := by decide +kernel
theorem dL_mark_24 : decode method_5_code 24 = .ok (.ireturn, 1) := by decide +kernel
theorem dL_insert_0 : decode method_6_code 0 = .ok (.aload 4, 2) := by decide +kernel
theorem dL_insert_2 : decode method_6_code 2 = .ok (.iconst 0, 1) := by decide +kernel
theorem dL_insert_3 : decode method_6_code 3 = .ok (.aload_n 0, 1) := by decide +kernel
theorem dL_insert_4 : decode method_6_code 4 = .ok (.iload_n 1, 1) := by decide +kernel
theorem dL_insert_5 : decode method_6_code 5 = .ok (.iload_n 2, 1) := by decide +kernel
theorem dL_insert_6 : decode method_6_code 6 = .ok (.iload_n 3, 1) := by decide +kernel
theorem dL_insert_7 : decode method_6_code 7 = .ok (.invokevirtual 24, 3) := by decide +kernel
theorem dL_insert_10 : decode method_6_code 10 = .ok (.i2l, 1) := by decide +kernel
theorem dL_insert_11 : decode method_6_code 11 = .ok (.lastore, 1) := by decide +kernel
theorem dL_insert_12 : decode method_6_code 12 = .ok (.goto 15, 3) := by decide +kernel
theorem dL_insert_15 : decode method_6_code 15 = .ok (.astore 5, 2) := by decide +kernel
theorem dL_insert_17 : decode method_6_code 17 = .ok (.iconst 1, 1) := by decide +kernel
theorem dL_insert_18 : decode method_6_code 18 = .ok (.ireturn, 1) := by decide +kernel
theorem dL_insert_19 : decode method_6_code 19 = .ok (.astore 5, 2) := by decide +kernel
theorem dL_insert_21 : decode method_6_code 21 = .ok (.iconst 2, 1) := by decide +kernel
theorem dL_insert_22 : decode method_6_code 22 = .ok (.ireturn, 1) := by decide +kernel
theorem dL_insert_23 : decode method_6_code 23 = .ok (.astore 5, 2) := by decide +kernel
theorem dL_insert_25 : decode method_6_code 25 = .ok (.iconst 3, 1) := by decide +kernel
theorem dL_insert_26 : decode method_6_code 26 = .ok (.ireturn, 1) := by decide +kernel
theorem dL_insert_27 : decode method_6_code 27 = .ok (.iconst 0, 1) := by decide +kernel
theorem dL_insert_28 : decode method_6_code 28 = .ok (.ireturn, 1) := by decide +kernel
theorem dL_remove_0 : decode method_7_code 0 = .ok (.aload_n 3, 1) := by decide +kernel
theorem dL_remove_1 : decode method_7_code 1 = .ok (.iconst 0, 1) := by decide +kernel
theorem dL_remove_2 : decode method_7_code 2 = .ok (.aload_n 0, 1) := by decide +kernel
theorem dL_remove_3 : decode method_7_code 3 = .ok (.iload_n 1, 1) := by decide +kernel
theorem dL_remove_4 : decode method_7_code 4 = .ok (.iload_n 2, 1) := by decide +kernel
theorem dL_remove_5 : decode method_7_code 5 = .ok (.invokevirtual 30, 3) := by decide +kernel
theorem dL_remove_8 : decode method_7_code 8 = .ok (.i2l, 1) := by decide +kernel
theorem dL_remove_9 : decode method_7_code 9 = .ok (.lastore, 1) := by decide +kernel
theorem dL_remove_10 : decode method_7_code 10 = .ok (.goto 15, 3) := by decide +kernel
theorem dL_remove_13 : decode method_7_code 13 = .ok (.astore 4, 2) := by decide +kernel
theorem dL_remove_15 : decode method_7_code 15 = .ok (.iconst 1, 1) := by decide +kernel
theorem dL_remove_16 : decode method_7_code 16 = .ok (.ireturn, 1) := by decide +kernel
theorem dL_remove_17 : decode method_7_code 17 = .ok (.astore 4, 2) := by decide +kernel
theorem dL_remove_19 : decode method_7_code 19 = .ok (.iconst 2, 1) := by decide +kernel
theorem dL_remove_20 : decode method_7_code 20 = .ok (.ireturn, 1) := by decide +kernel
theorem dL_remove_21 : decode method_7_code 21 = .ok (.astore 4, 2) := by decide +kernel
theorem dL_remove_23 : decode method_7_code 23 = .ok (.iconst 3, 1) := by decide +kernel
theorem dL_remove_24 : decode method_7_code 24 = .ok (.ireturn, 1) := by decide +kernel
theorem dL_remove_25 : decode method_7_code 25 = .ok (.iconst 0, 1) := by decide +kernel
theorem dL_remove_26 : decode method_7_code 26 = .ok (.ireturn, 1) := by decide +kernel
theorem dL_point_0 : decode method_8_code 0 = .ok (.aload_n 0, 1) := by decide +kernel
theorem dL_point_1 : decode method_8_code 1 = .ok (.iload_n 1, 1) := by decide +kernel
theorem dL_point_2 : decode method_8_code 2 = .ok (.invokevirtual 33, 3) := by decide +kernel
theorem dL_point_5 : decode method_8_code 5 = .ok (.goto 6, 3) := by decide +kernel
theorem dL_point_8 : decode method_8_code 8 = .ok (.astore_n 2, 1) := by decide +kernel
theorem dL_point_9 : decode method_8_code 9 = .ok (.iconst 1, 1) := by decide +kernel
theorem dL_point_10 : decode method_8_code 10 = .ok (.ireturn, 1) := by decide +kernel
theorem dL_point_11 : decode method_8_code 11 = .ok (.iconst 0, 1) := by decide +kernel
theorem dL_point_12 : decode method_8_code 12 = .ok (.ireturn, 1) := by decide +kernel
theorem dL_turn_0 : decode method_9_code 0 = .ok (.aload_n 2, 1) := by decide +kernel
theorem dL_turn_1 : decode method_9_code 1 = .ok (.iconst 0, 1) := by decide +kernel
theorem dL_turn_2 : decode method_9_code 2 = .ok (.aload_n 0, 1) := by decide +kernel
theorem dL_turn_3 : decode method_9_code 3 = .ok (.iload_n 1, 1) := by decide +kernel
theorem dL_turn_4 : decode method_9_code 4 = .ok (.invokevirtual 37, 3) := by decide +kernel
theorem dL_turn_7 : decode method_9_code 7 = .ok (.i2l, 1) := by decide +kernel
theorem dL_turn_8 : decode method_9_code 8 = .ok (.lastore, 1) := by decide +kernel
theorem dL_turn_9 : decode method_9_code 9 = .ok (.goto 6, 3) := by decide +kernel
theorem dL_turn_12 : decode method_9_code 12 = .ok (.astore_n 3, 1) := by decide +kernel
theorem dL_turn_13 : decode method_9_code 13 = .ok (.iconst 1, 1) := by decide +kernel
theorem dL_turn_14 : decode method_9_code 14 = .ok (.ireturn, 1) := by decide +kernel
theorem dL_turn_15 : decode method_9_code 15 = .ok (.iconst 0, 1) := by decide +kernel
theorem dL_turn_16 : decode method_9_code 16 = .ok (.ireturn, 1) := by decide +kernel
theorem dL_go_0 : decode method_10_code 0 = .ok (.aload_n 0, 1) := by decide +kernel
theorem dL_go_1 : decode method_10_code 1 = .ok (.iload_n 1, 1) := by decide +kernel
theorem dL_go_2 : decode method_10_code 2 = .ok (.invokevirtual 41, 3) := by decide +kernel
theorem dL_go_5 : decode method_10_code 5 = .ok (.goto 6, 3) := by decide +kernel
theorem dL_go_8 : decode method_10_code 8 = .ok (.astore_n 2, 1) := by decide +kernel
theorem dL_go_9 : decode method_10_code 9 = .ok (.iconst 1, 1) := by decide +kernel
theorem dL_go_10 : decode method_10_code 10 = .ok (.ireturn, 1) := by decide +kernel
theorem dL_go_11 : decode method_10_code 11 = .ok (.iconst 0, 1) := by decide +kernel
theorem dL_go_12 : decode method_10_code 12 = .ok (.ireturn, 1) := by decide +kernel
theorem dL_undo_0 : decode method_11_code 0 = .ok (.aload_n 1, 1) := by decide +kernel
theorem dL_undo_1 : decode method_11_code 1 = .ok (.iconst 0, 1) := by decide +kernel
theorem dL_undo_2 : decode method_11_code 2 = .ok (.aload_n 0, 1) := by decide +kernel
theorem dL_undo_3 : decode method_11_code 3 = .ok (.invokevirtual 44, 3) := by decide +kernel
theorem dL_undo_6 : decode method_11_code 6 = .ok (.i2l, 1) := by decide +kernel
theorem dL_undo_7 : decode method_11_code 7 = .ok (.lastore, 1) := by decide +kernel
theorem dL_undo_8 : decode method_11_code 8 = .ok (.goto 6, 3) := by decide +kernel
theorem dL_undo_11 : decode method_11_code 11 = .ok (.astore_n 2, 1) := by decide +kernel
theorem dL_undo_12 : decode method_11_code 12 = .ok (.iconst 1, 1) := by decide +kernel
theorem dL_undo_13 : decode method_11_code 13 = .ok (.ireturn, 1) := by decide +kernel
theorem dL_undo_14 : decode method_11_code 14 = .ok (.iconst 0, 1) := by decide +kernel
theorem dL_undo_15 : decode method_11_code 15 = .ok (.ireturn, 1) := by decide +kernel
theorem dL_redo_0 : decode method_12_code 0 = .ok (.aload_n 1, 1) := by decide +kernel
theorem dL_redo_1 : decode method_12_code 1 = .ok (.iconst 0, 1) := by decide +kernel
theorem dL_redo_2 : decode method_12_code 2 = .ok (.aload_n 0, 1) := by decide +kernel
theorem dL_redo_3 : decode method_12_code 3 = .ok (.invokevirtual 50, 3) := by decide +kernel
theorem dL_redo_6 : decode method_12_code 6 = .ok (.i2l, 1) := by decide +kernel
theorem dL_redo_7 : decode method_12_code 7 = .ok (.lastore, 1) := by decide +kernel
theorem dL_redo_8 : decode method_12_code 8 = .ok (.goto 6, 3) := by decide +kernel
theorem dL_redo_11 : decode method_12_code 11 = .ok (.astore_n 2, 1) := by decide +kernel
theorem dL_redo_12 : decode method_12_code 12 = .ok (.iconst 1, 1) := by decide +kernel
theorem dL_redo_13 : decode method_12_code 13 = .ok (.ireturn, 1) := by decide +kernel
theorem dL_redo_14 : decode method_12_code 14 = .ok (.iconst 0, 1) := by decide +kernel
theorem dL_redo_15 : decode method_12_code 15 = .ok (.ireturn, 1) := by decide +kernel
theorem dL_merge_0 : decode method_13_code 0 = .ok (.aload_n 3, 1) := by decide +kernel
theorem dL_merge_1 : decode method_13_code 1 = .ok (.iconst 0, 1) := by decide +kernel
theorem dL_merge_2 : decode method_13_code 2 = .ok (.aload_n 0, 1) := by decide +kernel
theorem dL_merge_3 : decode method_13_code 3 = .ok (.iload_n 1, 1) := by decide +kernel
theorem dL_merge_4 : decode method_13_code 4 = .ok (.iload_n 2, 1) := by decide +kernel
theorem dL_merge_5 : decode method_13_code 5 = .ok (.invokevirtual 53, 3) := by decide +kernel
theorem dL_merge_8 : decode method_13_code 8 = .ok (.i2l, 1) := by decide +kernel
theorem dL_merge_9 : decode method_13_code 9 = .ok (.lastore, 1) := by decide +kernel
theorem dL_merge_10 : decode method_13_code 10 = .ok (.goto 11, 3) := by decide +kernel
theorem dL_merge_13 : decode method_13_code 13 = .ok (.astore 4, 2) := by decide +kernel
theorem dL_merge_15 : decode method_13_code 15 = .ok (.iconst 1, 1) := by decide +kernel
theorem dL_merge_16 : decode method_13_code 16 = .ok (.ireturn, 1) := by decide +kernel
theorem dL_merge_17 : decode method_13_code 17 = .ok (.astore 4, 2) := by decide +kernel
theorem dL_merge_19 : decode method_13_code 19 = .ok (.iconst 2, 1) := by decide +kernel
theorem dL_merge_20 : decode method_13_code 20 = .ok (.ireturn, 1) := by decide +kernel
theorem dL_merge_21 : decode method_13_code 21 = .ok (.iconst 0, 1) := by decide +kernel
theorem dL_merge_22 : decode method_13_code 22 = .ok (.ireturn, 1) := by decide +kernel
theorem dL_base_0 : decode method_14_code 0 = .ok (.aload_n 2, 1) := by decide +kernel
theorem dL_base_1 : decode method_14_code 1 = .ok (.iconst 0, 1) := by decide +kernel
theorem dL_base_2 : decode method_14_code 2 = .ok (.aload_n 0, 1) := by decide +kernel
theorem dL_base_3 : decode method_14_code 3 = .ok (.iload_n 1, 1) := by decide +kernel
theorem dL_base_4 : decode method_14_code 4 = .ok (.invokevirtual 56, 3) := by decide +kernel
theorem dL_base_7 : decode method_14_code 7 = .ok (.i2l, 1) := by decide +kernel
theorem dL_base_8 : decode method_14_code 8 = .ok (.lastore, 1) := by decide +kernel
theorem dL_base_9 : decode method_14_code 9 = .ok (.goto 6, 3) := by decide +kernel
theorem dL_base_12 : decode method_14_code 12 = .ok (.astore_n 3, 1) := by decide +kernel
theorem dL_base_13 : decode method_14_code 13 = .ok (.iconst 1, 1) := by decide +kernel
theorem dL_base_14 : decode method_14_code 14 = .ok (.ireturn, 1) := by decide +kernel
theorem dL_base_15 : decode method_14_code 15 = .ok (.iconst 0, 1) := by decide +kernel
theorem dL_base_16 : decode method_14_code 16 = .ok (.ireturn, 1) := by decide +kernel
theorem dL_value_0 : decode method_15_code 0 = .ok (.aload 4, 2) := by decide +kernel
theorem dL_value_2 : decode method_15_code 2 = .ok (.iconst 0, 1) := by decide +kernel
theorem dL_value_3 : decode method_15_code 3 = .ok (.aload_n 0, 1) := by decide +kernel
theorem dL_value_4 : decode method_15_code 4 = .ok (.iload_n 1, 1) := by decide +kernel
theorem dL_value_5 : decode method_15_code 5 = .ok (.iload_n 2, 1) := by decide +kernel
theorem dL_value_6 : decode method_15_code 6 = .ok (.iload_n 3, 1) := by decide +kernel
theorem dL_value_7 : decode method_15_code 7 = .ok (.invokevirtual 59, 3) := by decide +kernel
theorem dL_value_10 : decode method_15_code 10 = .ok (.lastore, 1) := by decide +kernel
theorem dL_value_11 : decode method_15_code 11 = .ok (.goto 11, 3) := by decide +kernel
theorem dL_value_14 : decode method_15_code 14 = .ok (.astore 5, 2) := by decide +kernel
theorem dL_value_16 : decode method_15_code 16 = .ok (.iconst 1, 1) := by decide +kernel
theorem dL_value_17 : decode method_15_code 17 = .ok (.ireturn, 1) := by decide +kernel
theorem dL_value_18 : decode method_15_code 18 = .ok (.astore 5, 2) := by decide +kernel
theorem dL_value_20 : decode method_15_code 20 = .ok (.iconst 2, 1) := by decide +kernel
theorem dL_value_21 : decode method_15_code 21 = .ok (.ireturn, 1) := by decide +kernel
theorem dL_value_22 : decode method_15_code 22 = .ok (.iconst 0, 1) := by decide +kernel
theorem dL_value_23 : decode method_15_code 23 = .ok (.ireturn, 1) := by decide +kernel
theorem dL_differ_0 : decode method_16_code 0 = .ok (.aload_n 3, 1) := by decide +kernel
theorem dL_differ_1 : decode method_16_code 1 = .ok (.iconst 0, 1) := by decide +kernel
theorem dL_differ_2 : decode method_16_code 2 = .ok (.aload_n 0, 1) := by decide +kernel
theorem dL_differ_3 : decode method_16_code 3 = .ok (.iload_n 1, 1) := by decide +kernel
theorem dL_differ_4 : decode method_16_code 4 = .ok (.iload_n 2, 1) := by decide +kernel
theorem dL_differ_5 : decode method_16_code 5 = .ok (.invokevirtual 63, 3) := by decide +kernel
theorem dL_differ_8 : decode method_16_code 8 = .ok (.i2l, 1) := by decide +kernel
theorem dL_differ_9 : decode method_16_code 9 = .ok (.lastore, 1) := by decide +kernel
theorem dL_differ_10 : decode method_16_code 10 = .ok (.goto 7, 3) := by decide +kernel
theorem dL_differ_13 : decode method_16_code 13 = .ok (.astore 4, 2) := by decide +kernel
theorem dL_differ_15 : decode method_16_code 15 = .ok (.iconst 1, 1) := by decide +kernel
theorem dL_differ_16 : decode method_16_code 16 = .ok (.ireturn, 1) := by decide +kernel
theorem dL_differ_17 : decode method_16_code 17 = .ok (.iconst 0, 1) := by decide +kernel
theorem dL_differ_18 : decode method_16_code 18 = .ok (.ireturn, 1) := by decide +kernel
theorem dL_parent_0 : decode method_17_code 0 = .ok (.aload_n 3, 1) := by decide +kernel
theorem dL_parent_1 : decode method_17_code 1 = .ok (.iconst 0, 1) := by decide +kernel
theorem dL_parent_2 : decode method_17_code 2 = .ok (.aload_n 0, 1) := by decide +kernel
theorem dL_parent_3 : decode method_17_code 3 = .ok (.iload_n 1, 1) := by decide +kernel
theorem dL_parent_4 : decode method_17_code 4 = .ok (.iload_n 2, 1) := by decide +kernel
theorem dL_parent_5 : decode method_17_code 5 = .ok (.invokevirtual 66, 3) := by decide +kernel
theorem dL_parent_8 : decode method_17_code 8 = .ok (.i2l, 1) := by decide +kernel
theorem dL_parent_9 : decode method_17_code 9 = .ok (.lastore, 1) := by decide +kernel
theorem dL_parent_10 : decode method_17_code 10 = .ok (.goto 7, 3) := by decide +kernel
theorem dL_parent_13 : decode method_17_code 13 = .ok (.astore 4, 2) := by decide +kernel
theorem dL_parent_15 : decode method_17_code 15 = .ok (.iconst 1, 1) := by decide +kernel
theorem dL_parent_16 : decode method_17_code 16 = .ok (.ireturn, 1) := by decide +kernel
theorem dL_parent_17 : decode method_17_code 17 = .ok (.iconst 0, 1) := by decide +kernel
theorem dL_parent_18 : decode method_17_code 18 = .ok (.ireturn, 1) := by decide +kernel
theorem dL_figure_0 : decode method_18_code 0 = .ok (.aload_n 2, 1) := by decide +kernel
theorem dL_figure_1 : decode method_18_code 1 = .ok (.iconst 0, 1) := by decide +kernel
theorem dL_figure_2 : decode method_18_code 2 = .ok (.aload_n 0, 1) := by decide +kernel
theorem dL_figure_3 : decode method_18_code 3 = .ok (.iload_n 1, 1) := by decide +kernel
theorem dL_figure_4 : decode method_18_code 4 = .ok (.invokevirtual 70, 3) := by decide +kernel
theorem dL_figure_7 : decode method_18_code 7 = .ok (.i2l, 1) := by decide +kernel
theorem dL_figure_8 : decode method_18_code 8 = .ok (.lastore, 1) := by decide +kernel
theorem dL_figure_9 : decode method_18_code 9 = .ok (.goto 6, 3) := by decide +kernel
theorem dL_figure_12 : decode method_18_code 12 = .ok (.astore_n 3, 1) := by decide +kernel
theorem dL_figure_13 : decode method_18_code 13 = .ok (.iconst 1, 1) := by decide +kernel
theorem dL_figure_14 : decode method_18_code 14 = .ok (.ireturn, 1) := by decide +kernel
theorem dL_figure_15 : decode method_18_code 15 = .ok (.iconst 0, 1) := by decide +kernel
theorem dL_figure_16 : decode method_18_code 16 = .ok (.ireturn, 1) := by decide +kernel
theorem dl_0 : decode code 0 = .ok (.new 8, 3) := by decide +kernel
theorem dl_3 : decode code 3 = .ok (.dup, 1) := by decide +kernel
theorem dl_4 : decode code 4 = .ok (.invokespecial 73, 3) := by decide +kernel
theorem dl_7 : decode code 7 = .ok (.astore_n 1, 1) := by decide +kernel
theorem dl_8 : decode code 8 = .ok (.new 74, 3) := by decide +kernel
theorem dl_11 : decode code 11 = .ok (.dup, 1) := by decide +kernel
theorem dl_12 : decode code 12 = .ok (.invokespecial 76, 3) := by decide +kernel
theorem dl_15 : decode code 15 = .ok (.astore_n 2, 1) := by decide +kernel
theorem dl_16 : decode code 16 = .ok (.iconst 1, 1) := by decide +kernel
theorem dl_17 : decode code 17 = .ok (.newarray .long, 2) := by decide +kernel
theorem dl_19 : decode code 19 = .ok (.astore_n 3, 1) := by decide +kernel
theorem dl_20 : decode code 20 = .ok (.iconst 0, 1) := by decide +kernel
theorem dl_21 : decode code 21 = .ok (.istore 4, 2) := by decide +kernel
theorem dl_23 : decode code 23 = .ok (.iload 4, 2) := by decide +kernel
theorem dl_25 : decode code 25 = .ok (.aload_n 0, 1) := by decide +kernel
theorem dl_26 : decode code 26 = .ok (.arraylength, 1) := by decide +kernel
theorem dl_27 : decode code 27 = .ok (.iconst 4, 1) := by decide +kernel
theorem dl_28 : decode code 28 = .ok (.isub, 1) := by decide +kernel
theorem dl_29 : decode code 29 = .ok (.if_icmp .gt 1134, 3) := by decide +kernel
theorem dl_32 : decode code 32 = .ok (.aload_n 0, 1) := by decide +kernel
theorem dl_33 : decode code 33 = .ok (.iload 4, 2) := by decide +kernel
theorem dl_35 : decode code 35 = .ok (.iaload, 1) := by decide +kernel
theorem dl_36 : decode code 36 = .ok (.bipush 31, 2) := by decide +kernel
theorem dl_38 : decode code 38 = .ok (.iand, 1) := by decide +kernel
theorem dl_39 : decode code 39 = .ok (.tableswitch 1118 0 17 #[85, 153, 221, 317, 397, 465, 501, 557, 593, 637, 681, 749, 762, 818, 897, 965, 1049, 1062], 85) := by decide +kernel
theorem dl_124 : decode code 124 = .ok (.aload_n 1, 1) := by decide +kernel
theorem dl_125 : decode code 125 = .ok (.aload_n 0, 1) := by decide +kernel
theorem dl_126 : decode code 126 = .ok (.iload 4, 2) := by decide +kernel
theorem dl_128 : decode code 128 = .ok (.iconst 1, 1) := by decide +kernel
theorem dl_129 : decode code 129 = .ok (.iadd, 1) := by decide +kernel
theorem dl_130 : decode code 130 = .ok (.iaload, 1) := by decide +kernel
theorem dl_131 : decode code 131 = .ok (.aload_n 0, 1) := by decide +kernel
theorem dl_132 : decode code 132 = .ok (.iload 4, 2) := by decide +kernel
theorem dl_134 : decode code 134 = .ok (.iconst 2, 1) := by decide +kernel
theorem dl_135 : decode code 135 = .ok (.iadd, 1) := by decide +kernel
theorem dl_136 : decode code 136 = .ok (.iaload, 1) := by decide +kernel
theorem dl_137 : decode code 137 = .ok (.aload_n 3, 1) := by decide +kernel
theorem dl_138 : decode code 138 = .ok (.invokestatic 77, 3) := by decide +kernel
theorem dl_141 : decode code 141 = .ok (.istore 5, 2) := by decide +kernel
theorem dl_143 : decode code 143 = .ok (.aload_n 2, 1) := by decide +kernel
theorem dl_144 : decode code 144 = .ok (.aload_n 0, 1) := by decide +kernel
theorem dl_145 : decode code 145 = .ok (.iload 4, 2) := by decide +kernel
theorem dl_147 : decode code 147 = .ok (.iconst 1, 1) := by decide +kernel
theorem dl_148 : decode code 148 = .ok (.iadd, 1) := by decide +kernel
theorem dl_149 : decode code 149 = .ok (.iaload, 1) := by decide +kernel
theorem dl_150 : decode code 150 = .ok (.aload_n 0, 1) := by decide +kernel
theorem dl_151 : decode code 151 = .ok (.iload 4, 2) := by decide +kernel
theorem dl_153 : decode code 153 = .ok (.iconst 2, 1) := by decide +kernel
theorem dl_154 : decode code 154 = .ok (.iadd, 1) := by decide +kernel
theorem dl_155 : decode code 155 = .ok (.iaload, 1) := by decide +kernel
theorem dl_156 : decode code 156 = .ok (.invokevirtual 82, 3) := by decide +kernel
theorem dl_159 : decode code 159 = .ok (.istore 6, 2) := by decide +kernel
theorem dl_161 : decode code 161 = .ok (.aload_n 2, 1) := by decide +kernel
theorem dl_162 : decode code 162 = .ok (.invokevirtual 83, 3) := by decide +kernel
theorem dl_165 : decode code 165 = .ok (.iload 5, 2) := by decide +kernel
theorem dl_167 : decode code 167 = .ok (.if_icmp .eq 5, 3) := by decide +kernel
theorem dl_170 : decode code 170 = .ok (.iconst 0, 1) := by decide +kernel
theorem dl_171 : decode code 171 = .ok (.ireturn, 1) := by decide +kernel
theorem dl_172 : decode code 172 = .ok (.iload 5, 2) := by decide +kernel
theorem dl_174 : decode code 174 = .ok (.ifCond .ne 15, 3) := by decide +kernel
theorem dl_177 : decode code 177 = .ok (.aload_n 3, 1) := by decide +kernel
theorem dl_178 : decode code 178 = .ok (.iconst 0, 1) := by decide +kernel
theorem dl_179 : decode code 179 = .ok (.laload, 1) := by decide +kernel
theorem dl_180 : decode code 180 = .ok (.iload 6, 2) := by decide +kernel
theorem dl_182 : decode code 182 = .ok (.i2l, 1) := by decide +kernel
theorem dl_183 : decode code 183 = .ok (.lcmp, 1) := by decide +kernel
theorem dl_184 : decode code 184 = .ok (.ifCond .eq 5, 3) := by decide +kernel
theorem dl_187 : decode code 187 = .ok (.iconst 0, 1) := by decide +kernel
theorem dl_188 : decode code 188 = .ok (.ireturn, 1) := by decide +kernel
theorem dl_189 : decode code 189 = .ok (.goto 968, 3) := by decide +kernel
theorem dl_192 : decode code 192 = .ok (.aload_n 1, 1) := by decide +kernel
theorem dl_193 : decode code 193 = .ok (.aload_n 0, 1) := by decide +kernel
theorem dl_194 : decode code 194 = .ok (.iload 4, 2) := by decide +kernel
theorem dl_196 : decode code 196 = .ok (.iconst 1, 1) := by decide +kernel
theorem dl_197 : decode code 197 = .ok (.iadd, 1) := by decide +kernel
theorem dl_198 : decode code 198 = .ok (.iaload, 1) := by decide +kernel
theorem dl_199 : decode code 199 = .ok (.aload_n 0, 1) := by decide +kernel
theorem dl_200 : decode code 200 = .ok (.iload 4, 2) := by decide +kernel
theorem dl_202 : decode code 202 = .ok (.iconst 2, 1) := by decide +kernel
theorem dl_203 : decode code 203 = .ok (.iadd, 1) := by decide +kernel
theorem dl_204 : decode code 204 = .ok (.iaload, 1) := by decide +kernel
theorem dl_205 : decode code 205 = .ok (.aload_n 3, 1) := by decide +kernel
theorem dl_206 : decode code 206 = .ok (.invokestatic 86, 3) := by decide +kernel
theorem dl_209 : decode code 209 = .ok (.istore 5, 2) := by decide +kernel
theorem dl_211 : decode code 211 = .ok (.aload_n 2, 1) := by decide +kernel
theorem dl_212 : decode code 212 = .ok (.aload_n 0, 1) := by decide +kernel
theorem dl_213 : decode code 213 = .ok (.iload 4, 2) := by decide +kernel
theorem dl_215 : decode code 215 = .ok (.iconst 1, 1) := by decide +kernel
theorem dl_216 : decode code 216 = .ok (.iadd, 1) := by decide +kernel
theorem dl_217 : decode code 217 = .ok (.iaload, 1) := by decide +kernel
theorem dl_218 : decode code 218 = .ok (.aload_n 0, 1) := by decide +kernel
theorem dl_219 : decode code 219 = .ok (.iload 4, 2) := by decide +kernel
theorem dl_221 : decode code 221 = .ok (.iconst 2, 1) := by decide +kernel
theorem dl_222 : decode code 222 = .ok (.iadd, 1) := by decide +kernel
theorem dl_223 : decode code 223 = .ok (.iaload, 1) := by decide +kernel
theorem dl_224 : decode code 224 = .ok (.invokevirtual 88, 3) := by decide +kernel
theorem dl_227 : decode code 227 = .ok (.istore 6, 2) := by decide +kernel
theorem dl_229 : decode code 229 = .ok (.aload_n 2, 1) := by decide +kernel
theorem dl_230 : decode code 230 = .ok (.invokevirtual 83, 3) := by decide +kernel
theorem dl_233 : decode code 233 = .ok (.iload 5, 2) := by decide +kernel
theorem dl_235 : decode code 235 = .ok (.if_icmp .eq 5, 3) := by decide +kernel
theorem dl_238 : decode code 238 = .ok (.iconst 0, 1) := by decide +kernel
theorem dl_239 : decode code 239 = .ok (.ireturn, 1) := by decide +kernel
theorem dl_240 : decode code 240 = .ok (.iload 5, 2) := by decide +kernel
theorem dl_242 : decode code 242 = .ok (.ifCond .ne 15, 3) := by decide +kernel
theorem dl_245 : decode code 245 = .ok (.aload_n 3, 1) := by decide +kernel
theorem dl_246 : decode code 246 = .ok (.iconst 0, 1) := by decide +kernel
theorem dl_247 : decode code 247 = .ok (.laload, 1) := by decide +kernel
theorem dl_248 : decode code 248 = .ok (.iload 6, 2) := by decide +kernel
theorem dl_250 : decode code 250 = .ok (.i2l, 1) := by decide +kernel
theorem dl_251 : decode code 251 = .ok (.lcmp, 1) := by decide +kernel
theorem dl_252 : decode code 252 = .ok (.ifCond .eq 5, 3) := by decide +kernel
theorem dl_255 : decode code 255 = .ok (.iconst 0, 1) := by decide +kernel
theorem dl_256 : decode code 256 = .ok (.ireturn, 1) := by decide +kernel
theorem dl_257 : decode code 257 = .ok (.goto 900, 3) := by decide +kernel
theorem dl_260 : decode code 260 = .ok (.aload_n 1, 1) := by decide +kernel
theorem dl_261 : decode code 261 = .ok (.aload_n 0, 1) := by decide +kernel
theorem dl_262 : decode code 262 = .ok (.iload 4, 2) := by decide +kernel
theorem dl_264 : decode code 264 = .ok (.iconst 1, 1) := by decide +kernel
theorem dl_265 : decode code 265 = .ok (.iadd, 1) := by decide +kernel
theorem dl_266 : decode code 266 = .ok (.iaload, 1) := by decide +kernel
theorem dl_267 : decode code 267 = .ok (.aload_n 0, 1) := by decide +kernel
theorem dl_268 : decode code 268 = .ok (.iload 4, 2) := by decide +kernel
theorem dl_270 : decode code 270 = .ok (.iconst 2, 1) := by decide +kernel
theorem dl_271 : decode code 271 = .ok (.iadd, 1) := by decide +kernel
theorem dl_272 : decode code 272 = .ok (.iaload, 1) := by decide +kernel
theorem dl_273 : decode code 273 = .ok (.aload_n 0, 1) := by decide +kernel
theorem dl_274 : decode code 274 = .ok (.iload 4, 2) := by decide +kernel
theorem dl_276 : decode code 276 = .ok (.iconst 3, 1) := by decide +kernel
theorem dl_277 : decode code 277 = .ok (.iadd, 1) := by decide +kernel
theorem dl_278 : decode code 278 = .ok (.iaload, 1) := by decide +kernel
theorem dl_279 : decode code 279 = .ok (.ifCond .eq 7, 3) := by decide +kernel
theorem dl_282 : decode code 282 = .ok (.iconst 1, 1) := by decide +kernel
theorem dl_283 : decode code 283 = .ok (.goto 4, 3) := by decide +kernel
theorem dl_286 : decode code 286 = .ok (.iconst 0, 1) := by decide +kernel
theorem dl_287 : decode code 287 = .ok (.aload_n 3, 1) := by decide +kernel
theorem dl_288 : decode code 288 = .ok (.invokestatic 89, 3) := by decide +kernel
theorem dl_291 : decode code 291 = .ok (.istore 5, 2) := by decide +kernel
theorem dl_293 : decode code 293 = .ok (.aload_n 2, 1) := by decide +kernel
theorem dl_294 : decode code 294 = .ok (.aload_n 0, 1) := by decide +kernel
theorem dl_295 : decode code 295 = .ok (.iload 4, 2) := by decide +kernel
theorem dl_297 : decode code 297 = .ok (.iconst 1, 1) := by decide +kernel
theorem dl_298 : decode code 298 = .ok (.iadd, 1) := by decide +kernel
theorem dl_299 : decode code 299 = .ok (.iaload, 1) := by decide +kernel
theorem dl_300 : decode code 300 = .ok (.aload_n 0, 1) := by decide +kernel
theorem dl_301 : decode code 301 = .ok (.iload 4, 2) := by decide +kernel
theorem dl_303 : decode code 303 = .ok (.iconst 2, 1) := by decide +kernel
theorem dl_304 : decode code 304 = .ok (.iadd, 1) := by decide +kernel
theorem dl_305 : decode code 305 = .ok (.iaload, 1) := by decide +kernel
theorem dl_306 : decode code 306 = .ok (.aload_n 0, 1) := by decide +kernel
theorem dl_307 : decode code 307 = .ok (.iload 4, 2) := by decide +kernel
theorem dl_309 : decode code 309 = .ok (.iconst 3, 1) := by decide +kernel
theorem dl_310 : decode code 310 = .ok (.iadd, 1) := by decide +kernel
theorem dl_311 : decode code 311 = .ok (.iaload, 1) := by decide +kernel
theorem dl_312 : decode code 312 = .ok (.ifCond .eq 7, 3) := by decide +kernel
theorem dl_315 : decode code 315 = .ok (.iconst 1, 1) := by decide +kernel
theorem dl_316 : decode code 316 = .ok (.goto 4, 3) := by decide +kernel
theorem dl_319 : decode code 319 = .ok (.iconst 0, 1) := by decide +kernel
theorem dl_320 : decode code 320 = .ok (.invokevirtual 92, 3) := by decide +kernel
theorem dl_323 : decode code 323 = .ok (.istore 6, 2) := by decide +kernel
theorem dl_325 : decode code 325 = .ok (.aload_n 2, 1) := by decide +kernel
theorem dl_326 : decode code 326 = .ok (.invokevirtual 83, 3) := by decide +kernel
theorem dl_329 : decode code 329 = .ok (.iload 5, 2) := by decide +kernel
theorem dl_331 : decode code 331 = .ok (.if_icmp .eq 5, 3) := by decide +kernel
theorem dl_334 : decode code 334 = .ok (.iconst 0, 1) := by decide +kernel
theorem dl_335 : decode code 335 = .ok (.ireturn, 1) := by decide +kernel
theorem dl_336 : decode code 336 = .ok (.iload 5, 2) := by decide +kernel
theorem dl_338 : decode code 338 = .ok (.ifCond .ne 15, 3) := by decide +kernel
theorem dl_341 : decode code 341 = .ok (.aload_n 3, 1) := by decide +kernel
theorem dl_342 : decode code 342 = .ok (.iconst 0, 1) := by decide +kernel
theorem dl_343 : decode code 343 = .ok (.laload, 1) := by decide +kernel
theorem dl_344 : decode code 344 = .ok (.iload 6, 2) := by decide +kernel
theorem dl_346 : decode code 346 = .ok (.i2l, 1) := by decide +kernel
theorem dl_347 : decode code 347 = .ok (.lcmp, 1) := by decide +kernel
theorem dl_348 : decode code 348 = .ok (.ifCond .eq 5, 3) := by decide +kernel
theorem dl_351 : decode code 351 = .ok (.iconst 0, 1) := by decide +kernel
theorem dl_352 : decode code 352 = .ok (.ireturn, 1) := by decide +kernel
theorem dl_353 : decode code 353 = .ok (.goto 804, 3) := by decide +kernel
theorem dl_356 : decode code 356 = .ok (.aload_n 1, 1) := by decide +kernel
theorem dl_357 : decode code 357 = .ok (.aload_n 0, 1) := by decide +kernel
theorem dl_358 : decode code 358 = .ok (.iload 4, 2) := by decide +kernel
theorem dl_360 : decode code 360 = .ok (.iconst 1, 1) := by decide +kernel
theorem dl_361 : decode code 361 = .ok (.iadd, 1) := by decide +kernel
theorem dl_362 : decode code 362 = .ok (.iaload, 1) := by decide +kernel
theorem dl_363 : decode code 363 = .ok (.aload_n 0, 1) := by decide +kernel
theorem dl_364 : decode code 364 = .ok (.iload 4, 2) := by decide +kernel
theorem dl_366 : decode code 366 = .ok (.iconst 2, 1) := by decide +kernel
theorem dl_367 : decode code 367 = .ok (.iadd, 1) := by decide +kernel
theorem dl_368 : decode code 368 = .ok (.iaload, 1) := by decide +kernel
theorem dl_369 : decode code 369 = .ok (.aload_n 0, 1) := by decide +kernel
theorem dl_370 : decode code 370 = .ok (.iload 4, 2) := by decide +kernel
theorem dl_372 : decode code 372 = .ok (.iconst 3, 1) := by decide +kernel
theorem dl_373 : decode code 373 = .ok (.iadd, 1) := by decide +kernel
theorem dl_374 : decode code 374 = .ok (.iaload, 1) := by decide +kernel
theorem dl_375 : decode code 375 = .ok (.aload_n 3, 1) := by decide +kernel
theorem dl_376 : decode code 376 = .ok (.invokestatic 93, 3) := by decide +kernel
theorem dl_379 : decode code 379 = .ok (.istore 5, 2) := by decide +kernel
theorem dl_381 : decode code 381 = .ok (.aload_n 2, 1) := by decide +kernel
theorem dl_382 : decode code 382 = .ok (.aload_n 0, 1) := by decide +kernel
theorem dl_383 : decode code 383 = .ok (.iload 4, 2) := by decide +kernel
theorem dl_385 : decode code 385 = .ok (.iconst 1, 1) := by decide +kernel
theorem dl_386 : decode code 386 = .ok (.iadd, 1) := by decide +kernel
theorem dl_387 : decode code 387 = .ok (.iaload, 1) := by decide +kernel
theorem dl_388 : decode code 388 = .ok (.aload_n 0, 1) := by decide +kernel
theorem dl_389 : decode code 389 = .ok (.iload 4, 2) := by decide +kernel
theorem dl_391 : decode code 391 = .ok (.iconst 2, 1) := by decide +kernel
theorem dl_392 : decode code 392 = .ok (.iadd, 1) := by decide +kernel
theorem dl_393 : decode code 393 = .ok (.iaload, 1) := by decide +kernel
theorem dl_394 : decode code 394 = .ok (.aload_n 0, 1) := by decide +kernel
theorem dl_395 : decode code 395 = .ok (.iload 4, 2) := by decide +kernel
theorem dl_397 : decode code 397 = .ok (.iconst 3, 1) := by decide +kernel
theorem dl_398 : decode code 398 = .ok (.iadd, 1) := by decide +kernel
theorem dl_399 : decode code 399 = .ok (.iaload, 1) := by decide +kernel
theorem dl_400 : decode code 400 = .ok (.invokevirtual 96, 3) := by decide +kernel
theorem dl_403 : decode code 403 = .ok (.istore 6, 2) := by decide +kernel
theorem dl_405 : decode code 405 = .ok (.aload_n 2, 1) := by decide +kernel
theorem dl_406 : decode code 406 = .ok (.invokevirtual 83, 3) := by decide +kernel
theorem dl_409 : decode code 409 = .ok (.iload 5, 2) := by decide +kernel
theorem dl_411 : decode code 411 = .ok (.if_icmp .eq 5, 3) := by decide +kernel
theorem dl_414 : decode code 414 = .ok (.iconst 0, 1) := by decide +kernel
theorem dl_415 : decode code 415 = .ok (.ireturn, 1) := by decide +kernel
theorem dl_416 : decode code 416 = .ok (.iload 5, 2) := by decide +kernel
theorem dl_418 : decode code 418 = .ok (.ifCond .ne 15, 3) := by decide +kernel
theorem dl_421 : decode code 421 = .ok (.aload_n 3, 1) := by decide +kernel
theorem dl_422 : decode code 422 = .ok (.iconst 0, 1) := by decide +kernel
theorem dl_423 : decode code 423 = .ok (.laload, 1) := by decide +kernel
theorem dl_424 : decode code 424 = .ok (.iload 6, 2) := by decide +kernel
theorem dl_426 : decode code 426 = .ok (.i2l, 1) := by decide +kernel
theorem dl_427 : decode code 427 = .ok (.lcmp, 1) := by decide +kernel
theorem dl_428 : decode code 428 = .ok (.ifCond .eq 5, 3) := by decide +kernel
theorem dl_431 : decode code 431 = .ok (.iconst 0, 1) := by decide +kernel
theorem dl_432 : decode code 432 = .ok (.ireturn, 1) := by decide +kernel
theorem dl_433 : decode code 433 = .ok (.goto 724, 3) := by decide +kernel
theorem dl_436 : decode code 436 = .ok (.aload_n 1, 1) := by decide +kernel
theorem dl_437 : decode code 437 = .ok (.aload_n 0, 1) := by decide +kernel
theorem dl_438 : decode code 438 = .ok (.iload 4, 2) := by decide +kernel
theorem dl_440 : decode code 440 = .ok (.iconst 1, 1) := by decide +kernel
theorem dl_441 : decode code 441 = .ok (.iadd, 1) := by decide +kernel
theorem dl_442 : decode code 442 = .ok (.iaload, 1) := by decide +kernel
theorem dl_443 : decode code 443 = .ok (.aload_n 0, 1) := by decide +kernel
theorem dl_444 : decode code 444 = .ok (.iload 4, 2) := by decide +kernel
theorem dl_446 : decode code 446 = .ok (.iconst 2, 1) := by decide +kernel
theorem dl_447 : decode code 447 = .ok (.iadd, 1) := by decide +kernel
theorem dl_448 : decode code 448 = .ok (.iaload, 1) := by decide +kernel
theorem dl_449 : decode code 449 = .ok (.aload_n 3, 1) := by decide +kernel
theorem dl_450 : decode code 450 = .ok (.invokestatic 97, 3) := by decide +kernel
theorem dl_453 : decode code 453 = .ok (.istore 5, 2) := by decide +kernel
theorem dl_455 : decode code 455 = .ok (.aload_n 2, 1) := by decide +kernel
theorem dl_456 : decode code 456 = .ok (.aload_n 0, 1) := by decide +kernel
theorem dl_457 : decode code 457 = .ok (.iload 4, 2) := by decide +kernel
theorem dl_459 : decode code 459 = .ok (.iconst 1, 1) := by decide +kernel
theorem dl_460 : decode code 460 = .ok (.iadd, 1) := by decide +kernel
theorem dl_461 : decode code 461 = .ok (.iaload, 1) := by decide +kernel
theorem dl_462 : decode code 462 = .ok (.aload_n 0, 1) := by decide +kernel
theorem dl_463 : decode code 463 = .ok (.iload 4, 2) := by decide +kernel
theorem dl_465 : decode code 465 = .ok (.iconst 2, 1) := by decide +kernel
theorem dl_466 : decode code 466 = .ok (.iadd, 1) := by decide +kernel
theorem dl_467 : decode code 467 = .ok (.iaload, 1) := by decide +kernel
theorem dl_468 : decode code 468 = .ok (.invokevirtual 99, 3) := by decide +kernel
theorem dl_471 : decode code 471 = .ok (.istore 6, 2) := by decide +kernel
theorem dl_473 : decode code 473 = .ok (.aload_n 2, 1) := by decide +kernel
theorem dl_474 : decode code 474 = .ok (.invokevirtual 83, 3) := by decide +kernel
theorem dl_477 : decode code 477 = .ok (.iload 5, 2) := by decide +kernel
theorem dl_479 : decode code 479 = .ok (.if_icmp .eq 5, 3) := by decide +kernel
theorem dl_482 : decode code 482 = .ok (.iconst 0, 1) := by decide +kernel
theorem dl_483 : decode code 483 = .ok (.ireturn, 1) := by decide +kernel
theorem dl_484 : decode code 484 = .ok (.iload 5, 2) := by decide +kernel
theorem dl_486 : decode code 486 = .ok (.ifCond .ne 15, 3) := by decide +kernel
theorem dl_489 : decode code 489 = .ok (.aload_n 3, 1) := by decide +kernel
theorem dl_490 : decode code 490 = .ok (.iconst 0, 1) := by decide +kernel
theorem dl_491 : decode code 491 = .ok (.laload, 1) := by decide +kernel
theorem dl_492 : decode code 492 = .ok (.iload 6, 2) := by decide +kernel
theorem dl_494 : decode code 494 = .ok (.i2l, 1) := by decide +kernel
theorem dl_495 : decode code 495 = .ok (.lcmp, 1) := by decide +kernel
theorem dl_496 : decode code 496 = .ok (.ifCond .eq 5, 3) := by decide +kernel
theorem dl_499 : decode code 499 = .ok (.iconst 0, 1) := by decide +kernel
theorem dl_500 : decode code 500 = .ok (.ireturn, 1) := by decide +kernel
theorem dl_501 : decode code 501 = .ok (.goto 656, 3) := by decide +kernel
theorem dl_504 : decode code 504 = .ok (.aload_n 1, 1) := by decide +kernel
theorem dl_505 : decode code 505 = .ok (.aload_n 0, 1) := by decide +kernel
theorem dl_506 : decode code 506 = .ok (.iload 4, 2) := by decide +kernel
theorem dl_508 : decode code 508 = .ok (.iconst 1, 1) := by decide +kernel
theorem dl_509 : decode code 509 = .ok (.iadd, 1) := by decide +kernel
theorem dl_510 : decode code 510 = .ok (.iaload, 1) := by decide +kernel
theorem dl_511 : decode code 511 = .ok (.invokestatic 100, 3) := by decide +kernel
theorem dl_514 : decode code 514 = .ok (.istore 5, 2) := by decide +kernel
theorem dl_516 : decode code 516 = .ok (.aload_n 2, 1) := by decide +kernel
theorem dl_517 : decode code 517 = .ok (.aload_n 0, 1) := by decide +kernel
theorem dl_518 : decode code 518 = .ok (.iload 4, 2) := by decide +kernel
theorem dl_520 : decode code 520 = .ok (.iconst 1, 1) := by decide +kernel
theorem dl_521 : decode code 521 = .ok (.iadd, 1) := by decide +kernel
theorem dl_522 : decode code 522 = .ok (.iaload, 1) := by decide +kernel
theorem dl_523 : decode code 523 = .ok (.invokevirtual 103, 3) := by decide +kernel
theorem dl_526 : decode code 526 = .ok (.aload_n 2, 1) := by decide +kernel
theorem dl_527 : decode code 527 = .ok (.invokevirtual 83, 3) := by decide +kernel
theorem dl_530 : decode code 530 = .ok (.iload 5, 2) := by decide +kernel
theorem dl_532 : decode code 532 = .ok (.if_icmp .eq 5, 3) := by decide +kernel
theorem dl_535 : decode code 535 = .ok (.iconst 0, 1) := by decide +kernel
theorem dl_536 : decode code 536 = .ok (.ireturn, 1) := by decide +kernel
theorem dl_537 : decode code 537 = .ok (.goto 620, 3) := by decide +kernel
theorem dl_540 : decode code 540 = .ok (.aload_n 1, 1) := by decide +kernel
theorem dl_541 : decode code 541 = .ok (.aload_n 0, 1) := by decide +kernel
theorem dl_542 : decode code 542 = .ok (.iload 4, 2) := by decide +kernel
theorem dl_544 : decode code 544 = .ok (.iconst 1, 1) := by decide +kernel
theorem dl_545 : decode code 545 = .ok (.iadd, 1) := by decide +kernel
theorem dl_546 : decode code 546 = .ok (.iaload, 1) := by decide +kernel
theorem dl_547 : decode code 547 = .ok (.aload_n 3, 1) := by decide +kernel
theorem dl_548 : decode code 548 = .ok (.invokestatic 104, 3) := by decide +kernel
theorem dl_551 : decode code 551 = .ok (.istore 5, 2) := by decide +kernel
theorem dl_553 : decode code 553 = .ok (.aload_n 2, 1) := by decide +kernel
theorem dl_554 : decode code 554 = .ok (.aload_n 0, 1) := by decide +kernel
theorem dl_555 : decode code 555 = .ok (.iload 4, 2) := by decide +kernel
theorem dl_557 : decode code 557 = .ok (.iconst 1, 1) := by decide +kernel
theorem dl_558 : decode code 558 = .ok (.iadd, 1) := by decide +kernel
theorem dl_559 : decode code 559 = .ok (.iaload, 1) := by decide +kernel
theorem dl_560 : decode code 560 = .ok (.invokevirtual 107, 3) := by decide +kernel
theorem dl_563 : decode code 563 = .ok (.istore 6, 2) := by decide +kernel
theorem dl_565 : decode code 565 = .ok (.aload_n 2, 1) := by decide +kernel
theorem dl_566 : decode code 566 = .ok (.invokevirtual 83, 3) := by decide +kernel
theorem dl_569 : decode code 569 = .ok (.iload 5, 2) := by decide +kernel
theorem dl_571 : decode code 571 = .ok (.if_icmp .eq 5, 3) := by decide +kernel
theorem dl_574 : decode code 574 = .ok (.iconst 0, 1) := by decide +kernel
theorem dl_575 : decode code 575 = .ok (.ireturn, 1) := by decide +kernel
theorem dl_576 : decode code 576 = .ok (.iload 5, 2) := by decide +kernel
theorem dl_578 : decode code 578 = .ok (.ifCond .ne 15, 3) := by decide +kernel
theorem dl_581 : decode code 581 = .ok (.aload_n 3, 1) := by decide +kernel
theorem dl_582 : decode code 582 = .ok (.iconst 0, 1) := by decide +kernel
theorem dl_583 : decode code 583 = .ok (.laload, 1) := by decide +kernel
theorem dl_584 : decode code 584 = .ok (.iload 6, 2) := by decide +kernel
theorem dl_586 : decode code 586 = .ok (.i2l, 1) := by decide +kernel
theorem dl_587 : decode code 587 = .ok (.lcmp, 1) := by decide +kernel
theorem dl_588 : decode code 588 = .ok (.ifCond .eq 5, 3) := by decide +kernel
theorem dl_591 : decode code 591 = .ok (.iconst 0, 1) := by decide +kernel
theorem dl_592 : decode code 592 = .ok (.ireturn, 1) := by decide +kernel
theorem dl_593 : decode code 593 = .ok (.goto 564, 3) := by decide +kernel
theorem dl_596 : decode code 596 = .ok (.aload_n 1, 1) := by decide +kernel
theorem dl_597 : decode code 597 = .ok (.aload_n 0, 1) := by decide +kernel
theorem dl_598 : decode code 598 = .ok (.iload 4, 2) := by decide +kernel
theorem dl_600 : decode code 600 = .ok (.iconst 1, 1) := by decide +kernel
theorem dl_601 : decode code 601 = .ok (.iadd, 1) := by decide +kernel
theorem dl_602 : decode code 602 = .ok (.iaload, 1) := by decide +kernel
theorem dl_603 : decode code 603 = .ok (.invokestatic 108, 3) := by decide +kernel
theorem dl_606 : decode code 606 = .ok (.istore 5, 2) := by decide +kernel
theorem dl_608 : decode code 608 = .ok (.aload_n 2, 1) := by decide +kernel
theorem dl_609 : decode code 609 = .ok (.aload_n 0, 1) := by decide +kernel
theorem dl_610 : decode code 610 = .ok (.iload 4, 2) := by decide +kernel
theorem dl_612 : decode code 612 = .ok (.iconst 1, 1) := by decide +kernel
theorem dl_613 : decode code 613 = .ok (.iadd, 1) := by decide +kernel
theorem dl_614 : decode code 614 = .ok (.iaload, 1) := by decide +kernel
theorem dl_615 : decode code 615 = .ok (.invokevirtual 110, 3) := by decide +kernel
theorem dl_618 : decode code 618 = .ok (.aload_n 2, 1) := by decide +kernel
theorem dl_619 : decode code 619 = .ok (.invokevirtual 83, 3) := by decide +kernel
theorem dl_622 : decode code 622 = .ok (.iload 5, 2) := by decide +kernel
theorem dl_624 : decode code 624 = .ok (.if_icmp .eq 5, 3) := by decide +kernel
theorem dl_627 : decode code 627 = .ok (.iconst 0, 1) := by decide +kernel
theorem dl_628 : decode code 628 = .ok (.ireturn, 1) := by decide +kernel
theorem dl_629 : decode code 629 = .ok (.goto 528, 3) := by decide +kernel
theorem dl_632 : decode code 632 = .ok (.aload_n 1, 1) := by decide +kernel
theorem dl_633 : decode code 633 = .ok (.aload_n 3, 1) := by decide +kernel
theorem dl_634 : decode code 634 = .ok (.invokestatic 111, 3) := by decide +kernel
theorem dl_637 : decode code 637 = .ok (.istore 5, 2) := by decide +kernel
theorem dl_639 : decode code 639 = .ok (.aload_n 2, 1) := by decide +kernel
theorem dl_640 : decode code 640 = .ok (.invokevirtual 114, 3) := by decide +kernel
theorem dl_643 : decode code 643 = .ok (.istore 6, 2) := by decide +kernel
theorem dl_645 : decode code 645 = .ok (.aload_n 2, 1) := by decide +kernel
theorem dl_646 : decode code 646 = .ok (.invokevirtual 83, 3) := by decide +kernel
theorem dl_649 : decode code 649 = .ok (.iload 5, 2) := by decide +kernel
theorem dl_651 : decode code 651 = .ok (.if_icmp .eq 5, 3) := by decide +kernel
theorem dl_654 : decode code 654 = .ok (.iconst 0, 1) := by decide +kernel
theorem dl_655 : decode code 655 = .ok (.ireturn, 1) := by decide +kernel
theorem dl_656 : decode code 656 = .ok (.iload 5, 2) := by decide +kernel
theorem dl_658 : decode code 658 = .ok (.ifCond .ne 15, 3) := by decide +kernel
theorem dl_661 : decode code 661 = .ok (.aload_n 3, 1) := by decide +kernel
theorem dl_662 : decode code 662 = .ok (.iconst 0, 1) := by decide +kernel
theorem dl_663 : decode code 663 = .ok (.laload, 1) := by decide +kernel
theorem dl_664 : decode code 664 = .ok (.iload 6, 2) := by decide +kernel
theorem dl_666 : decode code 666 = .ok (.i2l, 1) := by decide +kernel
theorem dl_667 : decode code 667 = .ok (.lcmp, 1) := by decide +kernel
theorem dl_668 : decode code 668 = .ok (.ifCond .eq 5, 3) := by decide +kernel
theorem dl_671 : decode code 671 = .ok (.iconst 0, 1) := by decide +kernel
theorem dl_672 : decode code 672 = .ok (.ireturn, 1) := by decide +kernel
theorem dl_673 : decode code 673 = .ok (.goto 484, 3) := by decide +kernel
theorem dl_676 : decode code 676 = .ok (.aload_n 1, 1) := by decide +kernel
theorem dl_677 : decode code 677 = .ok (.aload_n 3, 1) := by decide +kernel
theorem dl_678 : decode code 678 = .ok (.invokestatic 115, 3) := by decide +kernel
theorem dl_681 : decode code 681 = .ok (.istore 5, 2) := by decide +kernel
theorem dl_683 : decode code 683 = .ok (.aload_n 2, 1) := by decide +kernel
theorem dl_684 : decode code 684 = .ok (.invokevirtual 117, 3) := by decide +kernel
theorem dl_687 : decode code 687 = .ok (.istore 6, 2) := by decide +kernel
theorem dl_689 : decode code 689 = .ok (.aload_n 2, 1) := by decide +kernel
theorem dl_690 : decode code 690 = .ok (.invokevirtual 83, 3) := by decide +kernel
theorem dl_693 : decode code 693 = .ok (.iload 5, 2) := by decide +kernel
theorem dl_695 : decode code 695 = .ok (.if_icmp .eq 5, 3) := by decide +kernel
theorem dl_698 : decode code 698 = .ok (.iconst 0, 1) := by decide +kernel
theorem dl_699 : decode code 699 = .ok (.ireturn, 1) := by decide +kernel
theorem dl_700 : decode code 700 = .ok (.iload 5, 2) := by decide +kernel
theorem dl_702 : decode code 702 = .ok (.ifCond .ne 15, 3) := by decide +kernel
theorem dl_705 : decode code 705 = .ok (.aload_n 3, 1) := by decide +kernel
theorem dl_706 : decode code 706 = .ok (.iconst 0, 1) := by decide +kernel
theorem dl_707 : decode code 707 = .ok (.laload, 1) := by decide +kernel
theorem dl_708 : decode code 708 = .ok (.iload 6, 2) := by decide +kernel
theorem dl_710 : decode code 710 = .ok (.i2l, 1) := by decide +kernel
theorem dl_711 : decode code 711 = .ok (.lcmp, 1) := by decide +kernel
theorem dl_712 : decode code 712 = .ok (.ifCond .eq 5, 3) := by decide +kernel
theorem dl_715 : decode code 715 = .ok (.iconst 0, 1) := by decide +kernel
theorem dl_716 : decode code 716 = .ok (.ireturn, 1) := by decide +kernel
theorem dl_717 : decode code 717 = .ok (.goto 440, 3) := by decide +kernel
theorem dl_720 : decode code 720 = .ok (.aload_n 1, 1) := by decide +kernel
theorem dl_721 : decode code 721 = .ok (.aload_n 0, 1) := by decide +kernel
theorem dl_722 : decode code 722 = .ok (.iload 4, 2) := by decide +kernel
theorem dl_724 : decode code 724 = .ok (.iconst 1, 1) := by decide +kernel
theorem dl_725 : decode code 725 = .ok (.iadd, 1) := by decide +kernel
theorem dl_726 : decode code 726 = .ok (.iaload, 1) := by decide +kernel
theorem dl_727 : decode code 727 = .ok (.aload_n 0, 1) := by decide +kernel
theorem dl_728 : decode code 728 = .ok (.iload 4, 2) := by decide +kernel
theorem dl_730 : decode code 730 = .ok (.iconst 2, 1) := by decide +kernel
theorem dl_731 : decode code 731 = .ok (.iadd, 1) := by decide +kernel
theorem dl_732 : decode code 732 = .ok (.iaload, 1) := by decide +kernel
theorem dl_733 : decode code 733 = .ok (.aload_n 3, 1) := by decide +kernel
theorem dl_734 : decode code 734 = .ok (.invokestatic 118, 3) := by decide +kernel
theorem dl_737 : decode code 737 = .ok (.istore 5, 2) := by decide +kernel
theorem dl_739 : decode code 739 = .ok (.aload_n 2, 1) := by decide +kernel
theorem dl_740 : decode code 740 = .ok (.aload_n 0, 1) := by decide +kernel
theorem dl_741 : decode code 741 = .ok (.iload 4, 2) := by decide +kernel
theorem dl_743 : decode code 743 = .ok (.iconst 1, 1) := by decide +kernel
theorem dl_744 : decode code 744 = .ok (.iadd, 1) := by decide +kernel
theorem dl_745 : decode code 745 = .ok (.iaload, 1) := by decide +kernel
theorem dl_746 : decode code 746 = .ok (.aload_n 0, 1) := by decide +kernel
theorem dl_747 : decode code 747 = .ok (.iload 4, 2) := by decide +kernel
theorem dl_749 : decode code 749 = .ok (.iconst 2, 1) := by decide +kernel
theorem dl_750 : decode code 750 = .ok (.iadd, 1) := by decide +kernel
theorem dl_751 : decode code 751 = .ok (.iaload, 1) := by decide +kernel
theorem dl_752 : decode code 752 = .ok (.invokevirtual 120, 3) := by decide +kernel
theorem dl_755 : decode code 755 = .ok (.istore 6, 2) := by decide +kernel
theorem dl_757 : decode code 757 = .ok (.aload_n 2, 1) := by decide +kernel
theorem dl_758 : decode code 758 = .ok (.invokevirtual 83, 3) := by decide +kernel
theorem dl_761 : decode code 761 = .ok (.iload 5, 2) := by decide +kernel
theorem dl_763 : decode code 763 = .ok (.if_icmp .eq 5, 3) := by decide +kernel
theorem dl_766 : decode code 766 = .ok (.iconst 0, 1) := by decide +kernel
theorem dl_767 : decode code 767 = .ok (.ireturn, 1) := by decide +kernel
theorem dl_768 : decode code 768 = .ok (.iload 5, 2) := by decide +kernel
theorem dl_770 : decode code 770 = .ok (.ifCond .ne 15, 3) := by decide +kernel
theorem dl_773 : decode code 773 = .ok (.aload_n 3, 1) := by decide +kernel
theorem dl_774 : decode code 774 = .ok (.iconst 0, 1) := by decide +kernel
theorem dl_775 : decode code 775 = .ok (.laload, 1) := by decide +kernel
theorem dl_776 : decode code 776 = .ok (.iload 6, 2) := by decide +kernel
theorem dl_778 : decode code 778 = .ok (.i2l, 1) := by decide +kernel
theorem dl_779 : decode code 779 = .ok (.lcmp, 1) := by decide +kernel
theorem dl_780 : decode code 780 = .ok (.ifCond .eq 5, 3) := by decide +kernel
theorem dl_783 : decode code 783 = .ok (.iconst 0, 1) := by decide +kernel
theorem dl_784 : decode code 784 = .ok (.ireturn, 1) := by decide +kernel
theorem dl_785 : decode code 785 = .ok (.goto 372, 3) := by decide +kernel
theorem dl_788 : decode code 788 = .ok (.aload_n 1, 1) := by decide +kernel
theorem dl_789 : decode code 789 = .ok (.invokevirtual 121, 3) := by decide +kernel
theorem dl_792 : decode code 792 = .ok (.aload_n 2, 1) := by decide +kernel
theorem dl_793 : decode code 793 = .ok (.invokevirtual 124, 3) := by decide +kernel
theorem dl_796 : decode code 796 = .ok (.if_icmp .eq 361, 3) := by decide +kernel
theorem dl_799 : decode code 799 = .ok (.iconst 0, 1) := by decide +kernel
theorem dl_800 : decode code 800 = .ok (.ireturn, 1) := by decide +kernel
theorem dl_801 : decode code 801 = .ok (.aload_n 1, 1) := by decide +kernel
theorem dl_802 : decode code 802 = .ok (.aload_n 0, 1) := by decide +kernel
theorem dl_803 : decode code 803 = .ok (.iload 4, 2) := by decide +kernel
theorem dl_805 : decode code 805 = .ok (.iconst 1, 1) := by decide +kernel
theorem dl_806 : decode code 806 = .ok (.iadd, 1) := by decide +kernel
theorem dl_807 : decode code 807 = .ok (.iaload, 1) := by decide +kernel
theorem dl_808 : decode code 808 = .ok (.aload_n 3, 1) := by decide +kernel
theorem dl_809 : decode code 809 = .ok (.invokestatic 125, 3) := by decide +kernel
theorem dl_812 : decode code 812 = .ok (.istore 5, 2) := by decide +kernel
theorem dl_814 : decode code 814 = .ok (.aload_n 2, 1) := by decide +kernel
theorem dl_815 : decode code 815 = .ok (.aload_n 0, 1) := by decide +kernel
theorem dl_816 : decode code 816 = .ok (.iload 4, 2) := by decide +kernel
theorem dl_818 : decode code 818 = .ok (.iconst 1, 1) := by decide +kernel
theorem dl_819 : decode code 819 = .ok (.iadd, 1) := by decide +kernel
theorem dl_820 : decode code 820 = .ok (.iaload, 1) := by decide +kernel
theorem dl_821 : decode code 821 = .ok (.invokevirtual 127, 3) := by decide +kernel
theorem dl_824 : decode code 824 = .ok (.istore 6, 2) := by decide +kernel
theorem dl_826 : decode code 826 = .ok (.aload_n 2, 1) := by decide +kernel
theorem dl_827 : decode code 827 = .ok (.invokevirtual 83, 3) := by decide +kernel
theorem dl_830 : decode code 830 = .ok (.iload 5, 2) := by decide +kernel
theorem dl_832 : decode code 832 = .ok (.if_icmp .eq 5, 3) := by decide +kernel
theorem dl_835 : decode code 835 = .ok (.iconst 0, 1) := by decide +kernel
theorem dl_836 : decode code 836 = .ok (.ireturn, 1) := by decide +kernel
theorem dl_837 : decode code 837 = .ok (.iload 5, 2) := by decide +kernel
theorem dl_839 : decode code 839 = .ok (.ifCond .ne 15, 3) := by decide +kernel
theorem dl_842 : decode code 842 = .ok (.aload_n 3, 1) := by decide +kernel
theorem dl_843 : decode code 843 = .ok (.iconst 0, 1) := by decide +kernel
theorem dl_844 : decode code 844 = .ok (.laload, 1) := by decide +kernel
theorem dl_845 : decode code 845 = .ok (.iload 6, 2) := by decide +kernel
theorem dl_847 : decode code 847 = .ok (.i2l, 1) := by decide +kernel
theorem dl_848 : decode code 848 = .ok (.lcmp, 1) := by decide +kernel
theorem dl_849 : decode code 849 = .ok (.ifCond .eq 5, 3) := by decide +kernel
theorem dl_852 : decode code 852 = .ok (.iconst 0, 1) := by decide +kernel
theorem dl_853 : decode code 853 = .ok (.ireturn, 1) := by decide +kernel
theorem dl_854 : decode code 854 = .ok (.goto 303, 3) := by decide +kernel
theorem dl_857 : decode code 857 = .ok (.aload_n 1, 1) := by decide +kernel
theorem dl_858 : decode code 858 = .ok (.aload_n 0, 1) := by decide +kernel
theorem dl_859 : decode code 859 = .ok (.iload 4, 2) := by decide +kernel
theorem dl_861 : decode code 861 = .ok (.iconst 1, 1) := by decide +kernel
theorem dl_862 : decode code 862 = .ok (.iadd, 1) := by decide +kernel
theorem dl_863 : decode code 863 = .ok (.iaload, 1) := by decide +kernel
theorem dl_864 : decode code 864 = .ok (.aload_n 0, 1) := by decide +kernel
theorem dl_865 : decode code 865 = .ok (.iload 4, 2) := by decide +kernel
theorem dl_867 : decode code 867 = .ok (.iconst 2, 1) := by decide +kernel
theorem dl_868 : decode code 868 = .ok (.iadd, 1) := by decide +kernel
theorem dl_869 : decode code 869 = .ok (.iaload, 1) := by decide +kernel
theorem dl_870 : decode code 870 = .ok (.aload_n 0, 1) := by decide +kernel
theorem dl_871 : decode code 871 = .ok (.iload 4, 2) := by decide +kernel
theorem dl_873 : decode code 873 = .ok (.iconst 3, 1) := by decide +kernel
theorem dl_874 : decode code 874 = .ok (.iadd, 1) := by decide +kernel
theorem dl_875 : decode code 875 = .ok (.iaload, 1) := by decide +kernel
theorem dl_876 : decode code 876 = .ok (.aload_n 3, 1) := by decide +kernel
theorem dl_877 : decode code 877 = .ok (.invokestatic 128, 3) := by decide +kernel
theorem dl_880 : decode code 880 = .ok (.istore 5, 2) := by decide +kernel
theorem dl_882 : decode code 882 = .ok (.aload_n 2, 1) := by decide +kernel
theorem dl_883 : decode code 883 = .ok (.aload_n 0, 1) := by decide +kernel
theorem dl_884 : decode code 884 = .ok (.iload 4, 2) := by decide +kernel
theorem dl_886 : decode code 886 = .ok (.iconst 1, 1) := by decide +kernel
theorem dl_887 : decode code 887 = .ok (.iadd, 1) := by decide +kernel
theorem dl_888 : decode code 888 = .ok (.iaload, 1) := by decide +kernel
theorem dl_889 : decode code 889 = .ok (.aload_n 0, 1) := by decide +kernel
theorem dl_890 : decode code 890 = .ok (.iload 4, 2) := by decide +kernel
theorem dl_892 : decode code 892 = .ok (.iconst 2, 1) := by decide +kernel
theorem dl_893 : decode code 893 = .ok (.iadd, 1) := by decide +kernel
theorem dl_894 : decode code 894 = .ok (.iaload, 1) := by decide +kernel
theorem dl_895 : decode code 895 = .ok (.aload_n 0, 1) := by decide +kernel
theorem dl_896 : decode code 896 = .ok (.iload 4, 2) := by decide +kernel
theorem dl_898 : decode code 898 = .ok (.iconst 3, 1) := by decide +kernel
theorem dl_899 : decode code 899 = .ok (.iadd, 1) := by decide +kernel
theorem dl_900 : decode code 900 = .ok (.iaload, 1) := by decide +kernel
theorem dl_901 : decode code 901 = .ok (.invokevirtual 130, 3) := by decide +kernel
theorem dl_904 : decode code 904 = .ok (.lstore 6, 2) := by decide +kernel
theorem dl_906 : decode code 906 = .ok (.aload_n 2, 1) := by decide +kernel
theorem dl_907 : decode code 907 = .ok (.invokevirtual 83, 3) := by decide +kernel
theorem dl_910 : decode code 910 = .ok (.iload 5, 2) := by decide +kernel
theorem dl_912 : decode code 912 = .ok (.if_icmp .eq 5, 3) := by decide +kernel
theorem dl_915 : decode code 915 = .ok (.iconst 0, 1) := by decide +kernel
theorem dl_916 : decode code 916 = .ok (.ireturn, 1) := by decide +kernel
theorem dl_917 : decode code 917 = .ok (.iload 5, 2) := by decide +kernel
theorem dl_919 : decode code 919 = .ok (.ifCond .ne 14, 3) := by decide +kernel
theorem dl_922 : decode code 922 = .ok (.aload_n 3, 1) := by decide +kernel
theorem dl_923 : decode code 923 = .ok (.iconst 0, 1) := by decide +kernel
theorem dl_924 : decode code 924 = .ok (.laload, 1) := by decide +kernel
theorem dl_925 : decode code 925 = .ok (.lload 6, 2) := by decide +kernel
theorem dl_927 : decode code 927 = .ok (.lcmp, 1) := by decide +kernel
theorem dl_928 : decode code 928 = .ok (.ifCond .eq 5, 3) := by decide +kernel
theorem dl_931 : decode code 931 = .ok (.iconst 0, 1) := by decide +kernel
theorem dl_932 : decode code 932 = .ok (.ireturn, 1) := by decide +kernel
theorem dl_933 : decode code 933 = .ok (.goto 224, 3) := by decide +kernel
theorem dl_936 : decode code 936 = .ok (.aload_n 1, 1) := by decide +kernel
theorem dl_937 : decode code 937 = .ok (.aload_n 0, 1) := by decide +kernel
theorem dl_938 : decode code 938 = .ok (.iload 4, 2) := by decide +kernel
theorem dl_940 : decode code 940 = .ok (.iconst 1, 1) := by decide +kernel
theorem dl_941 : decode code 941 = .ok (.iadd, 1) := by decide +kernel
theorem dl_942 : decode code 942 = .ok (.iaload, 1) := by decide +kernel
theorem dl_943 : decode code 943 = .ok (.aload_n 0, 1) := by decide +kernel
theorem dl_944 : decode code 944 = .ok (.iload 4, 2) := by decide +kernel
theorem dl_946 : decode code 946 = .ok (.iconst 2, 1) := by decide +kernel
theorem dl_947 : decode code 947 = .ok (.iadd, 1) := by decide +kernel
theorem dl_948 : decode code 948 = .ok (.iaload, 1) := by decide +kernel
theorem dl_949 : decode code 949 = .ok (.aload_n 3, 1) := by decide +kernel
theorem dl_950 : decode code 950 = .ok (.invokestatic 131, 3) := by decide +kernel
theorem dl_953 : decode code 953 = .ok (.istore 5, 2) := by decide +kernel
theorem dl_955 : decode code 955 = .ok (.aload_n 2, 1) := by decide +kernel
theorem dl_956 : decode code 956 = .ok (.aload_n 0, 1) := by decide +kernel
theorem dl_957 : decode code 957 = .ok (.iload 4, 2) := by decide +kernel
theorem dl_959 : decode code 959 = .ok (.iconst 1, 1) := by decide +kernel
theorem dl_960 : decode code 960 = .ok (.iadd, 1) := by decide +kernel
theorem dl_961 : decode code 961 = .ok (.iaload, 1) := by decide +kernel
theorem dl_962 : decode code 962 = .ok (.aload_n 0, 1) := by decide +kernel
theorem dl_963 : decode code 963 = .ok (.iload 4, 2) := by decide +kernel
theorem dl_965 : decode code 965 = .ok (.iconst 2, 1) := by decide +kernel
theorem dl_966 : decode code 966 = .ok (.iadd, 1) := by decide +kernel
theorem dl_967 : decode code 967 = .ok (.iaload, 1) := by decide +kernel
theorem dl_968 : decode code 968 = .ok (.invokevirtual 133, 3) := by decide +kernel
theorem dl_971 : decode code 971 = .ok (.istore 6, 2) := by decide +kernel
theorem dl_973 : decode code 973 = .ok (.aload_n 2, 1) := by decide +kernel
theorem dl_974 : decode code 974 = .ok (.invokevirtual 83, 3) := by decide +kernel
theorem dl_977 : decode code 977 = .ok (.iload 5, 2) := by decide +kernel
theorem dl_979 : decode code 979 = .ok (.if_icmp .eq 5, 3) := by decide +kernel
theorem dl_982 : decode code 982 = .ok (.iconst 0, 1) := by decide +kernel
theorem dl_983 : decode code 983 = .ok (.ireturn, 1) := by decide +kernel
theorem dl_984 : decode code 984 = .ok (.iload 5, 2) := by decide +kernel
theorem dl_986 : decode code 986 = .ok (.ifCond .ne 15, 3) := by decide +kernel
theorem dl_989 : decode code 989 = .ok (.aload_n 3, 1) := by decide +kernel
theorem dl_990 : decode code 990 = .ok (.iconst 0, 1) := by decide +kernel
theorem dl_991 : decode code 991 = .ok (.laload, 1) := by decide +kernel
theorem dl_992 : decode code 992 = .ok (.iload 6, 2) := by decide +kernel
theorem dl_994 : decode code 994 = .ok (.i2l, 1) := by decide +kernel
theorem dl_995 : decode code 995 = .ok (.lcmp, 1) := by decide +kernel
theorem dl_996 : decode code 996 = .ok (.ifCond .eq 5, 3) := by decide +kernel
theorem dl_999 : decode code 999 = .ok (.iconst 0, 1) := by decide +kernel
theorem dl_1000 : decode code 1000 = .ok (.ireturn, 1) := by decide +kernel
theorem dl_1001 : decode code 1001 = .ok (.goto 156, 3) := by decide +kernel
theorem dl_1004 : decode code 1004 = .ok (.aload_n 1, 1) := by decide +kernel
theorem dl_1005 : decode code 1005 = .ok (.aload_n 0, 1) := by decide +kernel
theorem dl_1006 : decode code 1006 = .ok (.iload 4, 2) := by decide +kernel
theorem dl_1008 : decode code 1008 = .ok (.iconst 1, 1) := by decide +kernel
theorem dl_1009 : decode code 1009 = .ok (.iadd, 1) := by decide +kernel
theorem dl_1010 : decode code 1010 = .ok (.iaload, 1) := by decide +kernel
theorem dl_1011 : decode code 1011 = .ok (.aload_n 0, 1) := by decide +kernel
theorem dl_1012 : decode code 1012 = .ok (.iload 4, 2) := by decide +kernel
theorem dl_1014 : decode code 1014 = .ok (.iconst 2, 1) := by decide +kernel
theorem dl_1015 : decode code 1015 = .ok (.iadd, 1) := by decide +kernel
theorem dl_1016 : decode code 1016 = .ok (.iaload, 1) := by decide +kernel
theorem dl_1017 : decode code 1017 = .ok (.ifCond .eq 7, 3) := by decide +kernel
theorem dl_1020 : decode code 1020 = .ok (.iconst 1, 1) := by decide +kernel
theorem dl_1021 : decode code 1021 = .ok (.goto 4, 3) := by decide +kernel
theorem dl_1024 : decode code 1024 = .ok (.iconst 0, 1) := by decide +kernel
theorem dl_1025 : decode code 1025 = .ok (.aload_n 3, 1) := by decide +kernel
theorem dl_1026 : decode code 1026 = .ok (.invokestatic 134, 3) := by decide +kernel
theorem dl_1029 : decode code 1029 = .ok (.istore 5, 2) := by decide +kernel
theorem dl_1031 : decode code 1031 = .ok (.aload_n 2, 1) := by decide +kernel
theorem dl_1032 : decode code 1032 = .ok (.aload_n 0, 1) := by decide +kernel
theorem dl_1033 : decode code 1033 = .ok (.iload 4, 2) := by decide +kernel
theorem dl_1035 : decode code 1035 = .ok (.iconst 1, 1) := by decide +kernel
theorem dl_1036 : decode code 1036 = .ok (.iadd, 1) := by decide +kernel
theorem dl_1037 : decode code 1037 = .ok (.iaload, 1) := by decide +kernel
theorem dl_1038 : decode code 1038 = .ok (.aload_n 0, 1) := by decide +kernel
theorem dl_1039 : decode code 1039 = .ok (.iload 4, 2) := by decide +kernel
theorem dl_1041 : decode code 1041 = .ok (.iconst 2, 1) := by decide +kernel
theorem dl_1042 : decode code 1042 = .ok (.iadd, 1) := by decide +kernel
theorem dl_1043 : decode code 1043 = .ok (.iaload, 1) := by decide +kernel
theorem dl_1044 : decode code 1044 = .ok (.ifCond .eq 7, 3) := by decide +kernel
theorem dl_1047 : decode code 1047 = .ok (.iconst 1, 1) := by decide +kernel
theorem dl_1048 : decode code 1048 = .ok (.goto 4, 3) := by decide +kernel
theorem dl_1051 : decode code 1051 = .ok (.iconst 0, 1) := by decide +kernel
theorem dl_1052 : decode code 1052 = .ok (.invokevirtual 137, 3) := by decide +kernel
theorem dl_1055 : decode code 1055 = .ok (.istore 6, 2) := by decide +kernel
theorem dl_1057 : decode code 1057 = .ok (.aload_n 2, 1) := by decide +kernel
theorem dl_1058 : decode code 1058 = .ok (.invokevirtual 83, 3) := by decide +kernel
theorem dl_1061 : decode code 1061 = .ok (.iload 5, 2) := by decide +kernel
theorem dl_1063 : decode code 1063 = .ok (.if_icmp .eq 5, 3) := by decide +kernel
theorem dl_1066 : decode code 1066 = .ok (.iconst 0, 1) := by decide +kernel
theorem dl_1067 : decode code 1067 = .ok (.ireturn, 1) := by decide +kernel
theorem dl_1068 : decode code 1068 = .ok (.iload 5, 2) := by decide +kernel
theorem dl_1070 : decode code 1070 = .ok (.ifCond .ne 15, 3) := by decide +kernel
theorem dl_1073 : decode code 1073 = .ok (.aload_n 3, 1) := by decide +kernel
theorem dl_1074 : decode code 1074 = .ok (.iconst 0, 1) := by decide +kernel
theorem dl_1075 : decode code 1075 = .ok (.laload, 1) := by decide +kernel
theorem dl_1076 : decode code 1076 = .ok (.iload 6, 2) := by decide +kernel
theorem dl_1078 : decode code 1078 = .ok (.i2l, 1) := by decide +kernel
theorem dl_1079 : decode code 1079 = .ok (.lcmp, 1) := by decide +kernel
theorem dl_1080 : decode code 1080 = .ok (.ifCond .eq 5, 3) := by decide +kernel
theorem dl_1083 : decode code 1083 = .ok (.iconst 0, 1) := by decide +kernel
theorem dl_1084 : decode code 1084 = .ok (.ireturn, 1) := by decide +kernel
theorem dl_1085 : decode code 1085 = .ok (.goto 72, 3) := by decide +kernel
theorem dl_1088 : decode code 1088 = .ok (.aload_n 1, 1) := by decide +kernel
theorem dl_1089 : decode code 1089 = .ok (.invokevirtual 138, 3) := by decide +kernel
theorem dl_1092 : decode code 1092 = .ok (.aload_n 2, 1) := by decide +kernel
theorem dl_1093 : decode code 1093 = .ok (.invokevirtual 141, 3) := by decide +kernel
theorem dl_1096 : decode code 1096 = .ok (.if_icmp .eq 61, 3) := by decide +kernel
theorem dl_1099 : decode code 1099 = .ok (.iconst 0, 1) := by decide +kernel
theorem dl_1100 : decode code 1100 = .ok (.ireturn, 1) := by decide +kernel
theorem dl_1101 : decode code 1101 = .ok (.aload_n 1, 1) := by decide +kernel
theorem dl_1102 : decode code 1102 = .ok (.aload_n 0, 1) := by decide +kernel
theorem dl_1103 : decode code 1103 = .ok (.iload 4, 2) := by decide +kernel
theorem dl_1105 : decode code 1105 = .ok (.iconst 1, 1) := by decide +kernel
theorem dl_1106 : decode code 1106 = .ok (.iadd, 1) := by decide +kernel
theorem dl_1107 : decode code 1107 = .ok (.iaload, 1) := by decide +kernel
theorem dl_1108 : decode code 1108 = .ok (.aload_n 3, 1) := by decide +kernel
theorem dl_1109 : decode code 1109 = .ok (.invokestatic 142, 3) := by decide +kernel
theorem dl_1112 : decode code 1112 = .ok (.istore 5, 2) := by decide +kernel
theorem dl_1114 : decode code 1114 = .ok (.aload_n 2, 1) := by decide +kernel
theorem dl_1115 : decode code 1115 = .ok (.aload_n 0, 1) := by decide +kernel
theorem dl_1116 : decode code 1116 = .ok (.iload 4, 2) := by decide +kernel
theorem dl_1118 : decode code 1118 = .ok (.iconst 1, 1) := by decide +kernel
theorem dl_1119 : decode code 1119 = .ok (.iadd, 1) := by decide +kernel
theorem dl_1120 : decode code 1120 = .ok (.iaload, 1) := by decide +kernel
theorem dl_1121 : decode code 1121 = .ok (.invokevirtual 144, 3) := by decide +kernel
theorem dl_1124 : decode code 1124 = .ok (.istore 6, 2) := by decide +kernel
theorem dl_1126 : decode code 1126 = .ok (.aload_n 2, 1) := by decide +kernel
theorem dl_1127 : decode code 1127 = .ok (.invokevirtual 83, 3) := by decide +kernel
theorem dl_1130 : decode code 1130 = .ok (.iload 5, 2) := by decide +kernel
theorem dl_1132 : decode code 1132 = .ok (.if_icmp .eq 5, 3) := by decide +kernel
theorem dl_1135 : decode code 1135 = .ok (.iconst 0, 1) := by decide +kernel
theorem dl_1136 : decode code 1136 = .ok (.ireturn, 1) := by decide +kernel
theorem dl_1137 : decode code 1137 = .ok (.iload 5, 2) := by decide +kernel
theorem dl_1139 : decode code 1139 = .ok (.ifCond .ne 15, 3) := by decide +kernel
theorem dl_1142 : decode code 1142 = .ok (.aload_n 3, 1) := by decide +kernel
theorem dl_1143 : decode code 1143 = .ok (.iconst 0, 1) := by decide +kernel
theorem dl_1144 : decode code 1144 = .ok (.laload, 1) := by decide +kernel
theorem dl_1145 : decode code 1145 = .ok (.iload 6, 2) := by decide +kernel
theorem dl_1147 : decode code 1147 = .ok (.i2l, 1) := by decide +kernel
theorem dl_1148 : decode code 1148 = .ok (.lcmp, 1) := by decide +kernel
theorem dl_1149 : decode code 1149 = .ok (.ifCond .eq 5, 3) := by decide +kernel
theorem dl_1152 : decode code 1152 = .ok (.iconst 0, 1) := by decide +kernel
theorem dl_1153 : decode code 1153 = .ok (.ireturn, 1) := by decide +kernel
theorem dl_1154 : decode code 1154 = .ok (.goto 3, 3) := by decide +kernel
theorem dl_1157 : decode code 1157 = .ok (.iinc 4 4, 3) := by decide +kernel
theorem dl_1160 : decode code 1160 = .ok (.goto (-1137), 3) := by decide +kernel
theorem dl_1163 : decode code 1163 = .ok (.iconst 1, 1) := by decide +kernel
theorem dl_1164 : decode code 1164 = .ok (.ireturn, 1) := by decide +kernel
