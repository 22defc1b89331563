/-! The reference: names, fields, decode rows. -/
abbrev yM_init : MethodName := ⟨"RevisionGroveModel", "<init>", "()V"⟩
abbrev yM_thrown : MethodName := ⟨"RevisionGroveModel", "thrown", "()I"⟩
abbrev yM_here : MethodName := ⟨"RevisionGroveModel", "here", "()I"⟩
abbrev yM_copy : MethodName := ⟨"RevisionGroveModel", "copy", "(II)V"⟩
abbrev yM_come : MethodName := ⟨"RevisionGroveModel", "come", "(I)V"⟩
abbrev yM_sameList : MethodName := ⟨"RevisionGroveModel", "sameList", "(III)Z"⟩
abbrev yM_difference : MethodName := ⟨"RevisionGroveModel", "difference", "(II)I"⟩
abbrev yM_finish : MethodName := ⟨"RevisionGroveModel", "finish", "(II)I"⟩
abbrev yM_change : MethodName := ⟨"RevisionGroveModel", "change", "()I"⟩
abbrev yM_put : MethodName := ⟨"RevisionGroveModel", "put", "(II)I"⟩
abbrev yM_add : MethodName := ⟨"RevisionGroveModel", "add", "(II)I"⟩
abbrev yM_mark : MethodName := ⟨"RevisionGroveModel", "mark", "(IIZ)I"⟩
abbrev yM_insert : MethodName := ⟨"RevisionGroveModel", "insert", "(III)I"⟩
abbrev yM_remove : MethodName := ⟨"RevisionGroveModel", "remove", "(II)I"⟩
abbrev yM_isBranch : MethodName := ⟨"RevisionGroveModel", "isBranch", "(I)Z"⟩
abbrev yM_isRevision : MethodName := ⟨"RevisionGroveModel", "isRevision", "(I)Z"⟩
abbrev yM_point : MethodName := ⟨"RevisionGroveModel", "point", "(I)V"⟩
abbrev yM_turn : MethodName := ⟨"RevisionGroveModel", "turn", "(I)I"⟩
abbrev yM_go : MethodName := ⟨"RevisionGroveModel", "go", "(I)V"⟩
abbrev yM_undo : MethodName := ⟨"RevisionGroveModel", "undo", "()I"⟩
abbrev yM_redo : MethodName := ⟨"RevisionGroveModel", "redo", "()I"⟩
abbrev yM_ancestors : MethodName := ⟨"RevisionGroveModel", "ancestors", "(J)J"⟩
abbrev yM_baseOf : MethodName := ⟨"RevisionGroveModel", "baseOf", "(II)I"⟩
abbrev yM_choice : MethodName := ⟨"RevisionGroveModel", "choice", "(ZZZ)I"⟩
abbrev yM_mergeNumber : MethodName := ⟨"RevisionGroveModel", "mergeNumber", "(IIIII)V"⟩
abbrev yM_at : MethodName := ⟨"RevisionGroveModel", "at", "(III)I"⟩
abbrev yM_measure : MethodName := ⟨"RevisionGroveModel", "measure", "(IIII)V"⟩
abbrev yM_take : MethodName := ⟨"RevisionGroveModel", "take", "(IIII)V"⟩
abbrev yM_join : MethodName := ⟨"RevisionGroveModel", "join", "(IIII)Z"⟩
abbrev yM_mergeList : MethodName := ⟨"RevisionGroveModel", "mergeList", "(IIIII)V"⟩
abbrev yM_merge : MethodName := ⟨"RevisionGroveModel", "merge", "(II)I"⟩
abbrev yM_conflicts : MethodName := ⟨"RevisionGroveModel", "conflicts", "()I"⟩
abbrev yM_base : MethodName := ⟨"RevisionGroveModel", "base", "(I)I"⟩
abbrev yM_value : MethodName := ⟨"RevisionGroveModel", "value", "(III)J"⟩
abbrev yM_differ : MethodName := ⟨"RevisionGroveModel", "differ", "(II)I"⟩
abbrev yM_parent : MethodName := ⟨"RevisionGroveModel", "parent", "(IZ)I"⟩
abbrev yM_rank : MethodName := ⟨"RevisionGroveModel", "rank", "(JI)I"⟩
abbrev yM_prune : MethodName := ⟨"RevisionGroveModel", "prune", "()I"⟩
abbrev yM_figure : MethodName := ⟨"RevisionGroveModel", "figure", "(I)I"⟩
def TM : u_T := fun k => match k with
  | 0 => ("RevisionGroveModel", "code", "I", false)
  | 1 => ("RevisionGroveModel", "count", "I", false)
  | 2 => ("RevisionGroveModel", "numbers", "[I", true)
  | 3 => ("RevisionGroveModel", "counters", "[J", true)
  | 4 => ("RevisionGroveModel", "sets", "[I", true)
  | 5 => ("RevisionGroveModel", "lists", "[I", true)
  | 6 => ("RevisionGroveModel", "lengths", "[I", true)
  | 7 => ("RevisionGroveModel", "first", "[I", true)
  | 8 => ("RevisionGroveModel", "second", "[I", true)
  | 9 => ("RevisionGroveModel", "branch", "I", false)
  | 10 => ("RevisionGroveModel", "tips", "[I", true)
  | 11 => ("RevisionGroveModel", "undone", "[I", true)
  | 12 => ("RevisionGroveModel", "many", "[I", true)
  | 13 => ("RevisionGroveModel", "conflicts", "I", false)
  | 14 => ("RevisionGroveModel", "made", "I", false)
  | 15 => ("RevisionGroveModel", "draft", "[I", true)
  | 16 => ("RevisionGroveModel", "from", "[I", true)
  | 17 => ("RevisionGroveModel", "to", "[I", true)
  | _ => ("RevisionGroveModel", "end", "[I", true)
def tyM : Nat → FieldType := fun k => match k with
  | 0 => .int
  | 1 => .int
  | 2 => .array .int
  | 3 => .array .long
  | 4 => .array .int
  | 5 => .array .int
  | 6 => .array .int
  | 7 => .array .int
  | 8 => .array .int
  | 9 => .int
  | 10 => .array .int
  | 11 => .array .int
  | 12 => .array .int
  | 13 => .int
  | 14 => .int
  | 15 => .array .int
  | 16 => .array .int
  | 17 => .array .int
  | _ => .array .int
theorem nmM : ∀ a, a < 19 → ∀ b, b < 19 → a ≠ b → (TM a).2.1 ≠ (TM b).2.1 := by decide +kernel
theorem tyM_ok : ∀ k, k < 19 → parseFieldDescriptor (TM k).2.2.1 = some (tyM k) := by decide +kernel
theorem inM : ∀ w ∈ u_ws "RevisionGroveModel" TM 19, w ∈ rg_tbl := by
  intro w hw
  simp only [u_ws, List.mem_map, List.mem_range] at hw
  obtain ⟨k, hk, rfl⟩ := hw
  rcases (show k = 0 ∨ k = 1 ∨ k = 2 ∨ k = 3 ∨ k = 4 ∨ k = 5 ∨ k = 6 ∨ k = 7 ∨ k = 8 ∨ k = 9 ∨ k = 10 ∨ k = 11 ∨ k = 12 ∨ k = 13 ∨ k = 14 ∨ k = 15 ∨ k = 16 ∨ k = 17 ∨ k = 18 by omega) with rfl | rfl | rfl | rfl | rfl | rfl | rfl | rfl | rfl | rfl | rfl | rfl | rfl | rfl | rfl | rfl | rfl | rfl | rfl
  · exact tw_620
  · exact tw_622
  · exact tw_624
  · exact tw_626
  · exact tw_628
  · exact tw_630
  · exact tw_632
  · exact tw_634
  · exact tw_636
  · exact tw_638
  · exact tw_640
  · exact tw_642
  · exact tw_644
  · exact tw_646
  · exact tw_648
  · exact tw_650
  · exact tw_652
  · exact tw_654
  · exact tw_656
theorem dM_init_0 : decode prog_8_method_1_code 0 = .ok (.aload_n 0, 1) := by decide +kernel
theorem dM_init_1 : decode prog_8_method_1_code 1 = .ok (.invokespecial 1, 3) := by decide +kernel
theorem dM_init_4 : decode prog_8_method_1_code 4 = .ok (.aload_n 0, 1) := by decide +kernel
theorem dM_init_5 : decode prog_8_method_1_code 5 = .ok (.iconst 1, 1) := by decide +kernel
theorem dM_init_6 : decode prog_8_method_1_code 6 = .ok (.putfield 7, 3) := by decide +kernel
theorem dM_init_9 : decode prog_8_method_1_code 9 = .ok (.aload_n 0, 1) := by decide +kernel
theorem dM_init_10 : decode prog_8_method_1_code 10 = .ok (.bipush 122, 2) := by decide +kernel
theorem dM_init_12 : decode prog_8_method_1_code 12 = .ok (.newarray .int, 2) := by decide +kernel
theorem dM_init_14 : decode prog_8_method_1_code 14 = .ok (.putfield 13, 3) := by decide +kernel
theorem dM_init_17 : decode prog_8_method_1_code 17 = .ok (.aload_n 0, 1) := by decide +kernel
theorem dM_init_18 : decode prog_8_method_1_code 18 = .ok (.bipush 122, 2) := by decide +kernel
theorem dM_init_20 : decode prog_8_method_1_code 20 = .ok (.newarray .long, 2) := by decide +kernel
theorem dM_init_22 : decode prog_8_method_1_code 22 = .ok (.putfield 17, 3) := by decide +kernel
theorem dM_init_25 : decode prog_8_method_1_code 25 = .ok (.aload_n 0, 1) := by decide +kernel
theorem dM_init_26 : decode prog_8_method_1_code 26 = .ok (.bipush 122, 2) := by decide +kernel
theorem dM_init_28 : decode prog_8_method_1_code 28 = .ok (.newarray .int, 2) := by decide +kernel
theorem dM_init_30 : decode prog_8_method_1_code 30 = .ok (.putfield 21, 3) := by decide +kernel
theorem dM_init_33 : decode prog_8_method_1_code 33 = .ok (.aload_n 0, 1) := by decide +kernel
theorem dM_init_34 : decode prog_8_method_1_code 34 = .ok (.sipush 976, 3) := by decide +kernel
theorem dM_init_37 : decode prog_8_method_1_code 37 = .ok (.newarray .int, 2) := by decide +kernel
theorem dM_init_39 : decode prog_8_method_1_code 39 = .ok (.putfield 24, 3) := by decide +kernel
theorem dM_init_42 : decode prog_8_method_1_code 42 = .ok (.aload_n 0, 1) := by decide +kernel
theorem dM_init_43 : decode prog_8_method_1_code 43 = .ok (.bipush 122, 2) := by decide +kernel
theorem dM_init_45 : decode prog_8_method_1_code 45 = .ok (.newarray .int, 2) := by decide +kernel
theorem dM_init_47 : decode prog_8_method_1_code 47 = .ok (.putfield 27, 3) := by decide +kernel
theorem dM_init_50 : decode prog_8_method_1_code 50 = .ok (.aload_n 0, 1) := by decide +kernel
theorem dM_init_51 : decode prog_8_method_1_code 51 = .ok (.bipush 61, 2) := by decide +kernel
theorem dM_init_53 : decode prog_8_method_1_code 53 = .ok (.newarray .int, 2) := by decide +kernel
theorem dM_init_55 : decode prog_8_method_1_code 55 = .ok (.putfield 30, 3) := by decide +kernel
theorem dM_init_58 : decode prog_8_method_1_code 58 = .ok (.aload_n 0, 1) := by decide +kernel
theorem dM_init_59 : decode prog_8_method_1_code 59 = .ok (.bipush 61, 2) := by decide +kernel
theorem dM_init_61 : decode prog_8_method_1_code 61 = .ok (.newarray .int, 2) := by decide +kernel
theorem dM_init_63 : decode prog_8_method_1_code 63 = .ok (.putfield 33, 3) := by decide +kernel
theorem dM_init_66 : decode prog_8_method_1_code 66 = .ok (.aload_n 0, 1) := by decide +kernel
theorem dM_init_67 : decode prog_8_method_1_code 67 = .ok (.iconst 4, 1) := by decide +kernel
theorem dM_init_68 : decode prog_8_method_1_code 68 = .ok (.newarray .int, 2) := by decide +kernel
theorem dM_init_70 : decode prog_8_method_1_code 70 = .ok (.putfield 36, 3) := by decide +kernel
theorem dM_init_73 : decode prog_8_method_1_code 73 = .ok (.aload_n 0, 1) := by decide +kernel
theorem dM_init_74 : decode prog_8_method_1_code 74 = .ok (.sipush 240, 3) := by decide +kernel
theorem dM_init_77 : decode prog_8_method_1_code 77 = .ok (.newarray .int, 2) := by decide +kernel
theorem dM_init_79 : decode prog_8_method_1_code 79 = .ok (.putfield 39, 3) := by decide +kernel
theorem dM_init_82 : decode prog_8_method_1_code 82 = .ok (.aload_n 0, 1) := by decide +kernel
theorem dM_init_83 : decode prog_8_method_1_code 83 = .ok (.iconst 4, 1) := by decide +kernel
theorem dM_init_84 : decode prog_8_method_1_code 84 = .ok (.newarray .int, 2) := by decide +kernel
theorem dM_init_86 : decode prog_8_method_1_code 86 = .ok (.putfield 42, 3) := by decide +kernel
theorem dM_init_89 : decode prog_8_method_1_code 89 = .ok (.aload_n 0, 1) := by decide +kernel
theorem dM_init_90 : decode prog_8_method_1_code 90 = .ok (.bipush 24, 2) := by decide +kernel
theorem dM_init_92 : decode prog_8_method_1_code 92 = .ok (.newarray .int, 2) := by decide +kernel
theorem dM_init_94 : decode prog_8_method_1_code 94 = .ok (.putfield 45, 3) := by decide +kernel
theorem dM_init_97 : decode prog_8_method_1_code 97 = .ok (.aload_n 0, 1) := by decide +kernel
theorem dM_init_98 : decode prog_8_method_1_code 98 = .ok (.iconst 2, 1) := by decide +kernel
theorem dM_init_99 : decode prog_8_method_1_code 99 = .ok (.newarray .int, 2) := by decide +kernel
theorem dM_init_101 : decode prog_8_method_1_code 101 = .ok (.putfield 48, 3) := by decide +kernel
theorem dM_init_104 : decode prog_8_method_1_code 104 = .ok (.aload_n 0, 1) := by decide +kernel
theorem dM_init_105 : decode prog_8_method_1_code 105 = .ok (.iconst 2, 1) := by decide +kernel
theorem dM_init_106 : decode prog_8_method_1_code 106 = .ok (.newarray .int, 2) := by decide +kernel
theorem dM_init_108 : decode prog_8_method_1_code 108 = .ok (.putfield 51, 3) := by decide +kernel
theorem dM_init_111 : decode prog_8_method_1_code 111 = .ok (.aload_n 0, 1) := by decide +kernel
theorem dM_init_112 : decode prog_8_method_1_code 112 = .ok (.iconst 2, 1) := by decide +kernel
theorem dM_init_113 : decode prog_8_method_1_code 113 = .ok (.newarray .int, 2) := by decide +kernel
theorem dM_init_115 : decode prog_8_method_1_code 115 = .ok (.putfield 54, 3) := by decide +kernel
theorem dM_init_118 : decode prog_8_method_1_code 118 = .ok (.aload_n 0, 1) := by decide +kernel
theorem dM_init_119 : decode prog_8_method_1_code 119 = .ok (.getfield 30, 3) := by decide +kernel
theorem dM_init_122 : decode prog_8_method_1_code 122 = .ok (.iconst 0, 1) := by decide +kernel
theorem dM_init_123 : decode prog_8_method_1_code 123 = .ok (.iconst (-1), 1) := by decide +kernel
theorem dM_init_124 : decode prog_8_method_1_code 124 = .ok (.iastore, 1) := by decide +kernel
theorem dM_init_125 : decode prog_8_method_1_code 125 = .ok (.aload_n 0, 1) := by decide +kernel
theorem dM_init_126 : decode prog_8_method_1_code 126 = .ok (.getfield 33, 3) := by decide +kernel
theorem dM_init_129 : decode prog_8_method_1_code 129 = .ok (.iconst 0, 1) := by decide +kernel
theorem dM_init_130 : decode prog_8_method_1_code 130 = .ok (.iconst (-1), 1) := by decide +kernel
theorem dM_init_131 : decode prog_8_method_1_code 131 = .ok (.iastore, 1) := by decide +kernel
theorem dM_init_132 : decode prog_8_method_1_code 132 = .ok (.return_, 1) := by decide +kernel
theorem dM_thrown_0 : decode prog_8_method_2_code 0 = .ok (.aload_n 0, 1) := by decide +kernel
theorem dM_thrown_1 : decode prog_8_method_2_code 1 = .ok (.getfield 57, 3) := by decide +kernel
theorem dM_thrown_4 : decode prog_8_method_2_code 4 = .ok (.ireturn, 1) := by decide +kernel
theorem dM_here_0 : decode prog_8_method_3_code 0 = .ok (.aload_n 0, 1) := by decide +kernel
theorem dM_here_1 : decode prog_8_method_3_code 1 = .ok (.getfield 36, 3) := by decide +kernel
theorem dM_here_4 : decode prog_8_method_3_code 4 = .ok (.aload_n 0, 1) := by decide +kernel
theorem dM_here_5 : decode prog_8_method_3_code 5 = .ok (.getfield 60, 3) := by decide +kernel
theorem dM_here_8 : decode prog_8_method_3_code 8 = .ok (.iaload, 1) := by decide +kernel
theorem dM_here_9 : decode prog_8_method_3_code 9 = .ok (.ireturn, 1) := by decide +kernel
theorem dM_copy_0 : decode prog_8_method_4_code 0 = .ok (.iconst 0, 1) := by decide +kernel
theorem dM_copy_1 : decode prog_8_method_4_code 1 = .ok (.istore_n 3, 1) := by decide +kernel
theorem dM_copy_2 : decode prog_8_method_4_code 2 = .ok (.iload_n 3, 1) := by decide +kernel
theorem dM_copy_3 : decode prog_8_method_4_code 3 = .ok (.iconst 2, 1) := by decide +kernel
theorem dM_copy_4 : decode prog_8_method_4_code 4 = .ok (.if_icmp .ge 89, 3) := by decide +kernel
theorem dM_copy_7 : decode prog_8_method_4_code 7 = .ok (.aload_n 0, 1) := by decide +kernel
theorem dM_copy_8 : decode prog_8_method_4_code 8 = .ok (.getfield 13, 3) := by decide +kernel
theorem dM_copy_11 : decode prog_8_method_4_code 11 = .ok (.iconst 2, 1) := by decide +kernel
theorem dM_copy_12 : decode prog_8_method_4_code 12 = .ok (.iload_n 2, 1) := by decide +kernel
theorem dM_copy_13 : decode prog_8_method_4_code 13 = .ok (.imul, 1) := by decide +kernel
theorem dM_copy_14 : decode prog_8_method_4_code 14 = .ok (.iload_n 3, 1) := by decide +kernel
theorem dM_copy_15 : decode prog_8_method_4_code 15 = .ok (.iadd, 1) := by decide +kernel
theorem dM_copy_16 : decode prog_8_method_4_code 16 = .ok (.aload_n 0, 1) := by decide +kernel
theorem dM_copy_17 : decode prog_8_method_4_code 17 = .ok (.getfield 13, 3) := by decide +kernel
theorem dM_copy_20 : decode prog_8_method_4_code 20 = .ok (.iconst 2, 1) := by decide +kernel
theorem dM_copy_21 : decode prog_8_method_4_code 21 = .ok (.iload_n 1, 1) := by decide +kernel
theorem dM_copy_22 : decode prog_8_method_4_code 22 = .ok (.imul, 1) := by decide +kernel
theorem dM_copy_23 : decode prog_8_method_4_code 23 = .ok (.iload_n 3, 1) := by decide +kernel
theorem dM_copy_24 : decode prog_8_method_4_code 24 = .ok (.iadd, 1) := by decide +kernel
theorem dM_copy_25 : decode prog_8_method_4_code 25 = .ok (.iaload, 1) := by decide +kernel
theorem dM_copy_26 : decode prog_8_method_4_code 26 = .ok (.iastore, 1) := by decide +kernel
theorem dM_copy_27 : decode prog_8_method_4_code 27 = .ok (.aload_n 0, 1) := by decide +kernel
theorem dM_copy_28 : decode prog_8_method_4_code 28 = .ok (.getfield 17, 3) := by decide +kernel
theorem dM_copy_31 : decode prog_8_method_4_code 31 = .ok (.iconst 2, 1) := by decide +kernel
theorem dM_copy_32 : decode prog_8_method_4_code 32 = .ok (.iload_n 2, 1) := by decide +kernel
theorem dM_copy_33 : decode prog_8_method_4_code 33 = .ok (.imul, 1) := by decide +kernel
theorem dM_copy_34 : decode prog_8_method_4_code 34 = .ok (.iload_n 3, 1) := by decide +kernel
theorem dM_copy_35 : decode prog_8_method_4_code 35 = .ok (.iadd, 1) := by decide +kernel
theorem dM_copy_36 : decode prog_8_method_4_code 36 = .ok (.aload_n 0, 1) := by decide +kernel
theorem dM_copy_37 : decode prog_8_method_4_code 37 = .ok (.getfield 17, 3) := by decide +kernel
theorem dM_copy_40 : decode prog_8_method_4_code 40 = .ok (.iconst 2, 1) := by decide +kernel
theorem dM_copy_41 : decode prog_8_method_4_code 41 = .ok (.iload_n 1, 1) := by decide +kernel
theorem dM_copy_42 : decode prog_8_method_4_code 42 = .ok (.imul, 1) := by decide +kernel
theorem dM_copy_43 : decode prog_8_method_4_code 43 = .ok (.iload_n 3, 1) := by decide +kernel
theorem dM_copy_44 : decode prog_8_method_4_code 44 = .ok (.iadd, 1) := by decide +kernel
theorem dM_copy_45 : decode prog_8_method_4_code 45 = .ok (.laload, 1) := by decide +kernel
theorem dM_copy_46 : decode prog_8_method_4_code 46 = .ok (.lastore, 1) := by decide +kernel
theorem dM_copy_47 : decode prog_8_method_4_code 47 = .ok (.aload_n 0, 1) := by decide +kernel
theorem dM_copy_48 : decode prog_8_method_4_code 48 = .ok (.getfield 21, 3) := by decide +kernel
theorem dM_copy_51 : decode prog_8_method_4_code 51 = .ok (.iconst 2, 1) := by decide +kernel
theorem dM_copy_52 : decode prog_8_method_4_code 52 = .ok (.iload_n 2, 1) := by decide +kernel
theorem dM_copy_53 : decode prog_8_method_4_code 53 = .ok (.imul, 1) := by decide +kernel
theorem dM_copy_54 : decode prog_8_method_4_code 54 = .ok (.iload_n 3, 1) := by decide +kernel
theorem dM_copy_55 : decode prog_8_method_4_code 55 = .ok (.iadd, 1) := by decide +kernel
theorem dM_copy_56 : decode prog_8_method_4_code 56 = .ok (.aload_n 0, 1) := by decide +kernel
theorem dM_copy_57 : decode prog_8_method_4_code 57 = .ok (.getfield 21, 3) := by decide +kernel
theorem dM_copy_60 : decode prog_8_method_4_code 60 = .ok (.iconst 2, 1) := by decide +kernel
theorem dM_copy_61 : decode prog_8_method_4_code 61 = .ok (.iload_n 1, 1) := by decide +kernel
theorem dM_copy_62 : decode prog_8_method_4_code 62 = .ok (.imul, 1) := by decide +kernel
theorem dM_copy_63 : decode prog_8_method_4_code 63 = .ok (.iload_n 3, 1) := by decide +kernel
theorem dM_copy_64 : decode prog_8_method_4_code 64 = .ok (.iadd, 1) := by decide +kernel
theorem dM_copy_65 : decode prog_8_method_4_code 65 = .ok (.iaload, 1) := by decide +kernel
theorem dM_copy_66 : decode prog_8_method_4_code 66 = .ok (.iastore, 1) := by decide +kernel
theorem dM_copy_67 : decode prog_8_method_4_code 67 = .ok (.aload_n 0, 1) := by decide +kernel
theorem dM_copy_68 : decode prog_8_method_4_code 68 = .ok (.getfield 27, 3) := by decide +kernel
theorem dM_copy_71 : decode prog_8_method_4_code 71 = .ok (.iconst 2, 1) := by decide +kernel
theorem dM_copy_72 : decode prog_8_method_4_code 72 = .ok (.iload_n 2, 1) := by decide +kernel
theorem dM_copy_73 : decode prog_8_method_4_code 73 = .ok (.imul, 1) := by decide +kernel
theorem dM_copy_74 : decode prog_8_method_4_code 74 = .ok (.iload_n 3, 1) := by decide +kernel
theorem dM_copy_75 : decode prog_8_method_4_code 75 = .ok (.iadd, 1) := by decide +kernel
theorem dM_copy_76 : decode prog_8_method_4_code 76 = .ok (.aload_n 0, 1) := by decide +kernel
theorem dM_copy_77 : decode prog_8_method_4_code 77 = .ok (.getfield 27, 3) := by decide +kernel
theorem dM_copy_80 : decode prog_8_method_4_code 80 = .ok (.iconst 2, 1) := by decide +kernel
theorem dM_copy_81 : decode prog_8_method_4_code 81 = .ok (.iload_n 1, 1) := by decide +kernel
theorem dM_copy_82 : decode prog_8_method_4_code 82 = .ok (.imul, 1) := by decide +kernel
theorem dM_copy_83 : decode prog_8_method_4_code 83 = .ok (.iload_n 3, 1) := by decide +kernel
theorem dM_copy_84 : decode prog_8_method_4_code 84 = .ok (.iadd, 1) := by decide +kernel
theorem dM_copy_85 : decode prog_8_method_4_code 85 = .ok (.iaload, 1) := by decide +kernel
theorem dM_copy_86 : decode prog_8_method_4_code 86 = .ok (.iastore, 1) := by decide +kernel
theorem dM_copy_87 : decode prog_8_method_4_code 87 = .ok (.iinc 3 1, 3) := by decide +kernel
theorem dM_copy_90 : decode prog_8_method_4_code 90 = .ok (.goto (-88), 3) := by decide +kernel
theorem dM_copy_93 : decode prog_8_method_4_code 93 = .ok (.iconst 0, 1) := by decide +kernel
theorem dM_copy_94 : decode prog_8_method_4_code 94 = .ok (.istore_n 3, 1) := by decide +kernel
theorem dM_copy_95 : decode prog_8_method_4_code 95 = .ok (.iload_n 3, 1) := by decide +kernel
theorem dM_copy_96 : decode prog_8_method_4_code 96 = .ok (.bipush 16, 2) := by decide +kernel
theorem dM_copy_98 : decode prog_8_method_4_code 98 = .ok (.if_icmp .ge 31, 3) := by decide +kernel
theorem dM_copy_101 : decode prog_8_method_4_code 101 = .ok (.aload_n 0, 1) := by decide +kernel
theorem dM_copy_102 : decode prog_8_method_4_code 102 = .ok (.getfield 24, 3) := by decide +kernel
theorem dM_copy_105 : decode prog_8_method_4_code 105 = .ok (.bipush 16, 2) := by decide +kernel
theorem dM_copy_107 : decode prog_8_method_4_code 107 = .ok (.iload_n 2, 1) := by decide +kernel
theorem dM_copy_108 : decode prog_8_method_4_code 108 = .ok (.imul, 1) := by decide +kernel
theorem dM_copy_109 : decode prog_8_method_4_code 109 = .ok (.iload_n 3, 1) := by decide +kernel
theorem dM_copy_110 : decode prog_8_method_4_code 110 = .ok (.iadd, 1) := by decide +kernel
theorem dM_copy_111 : decode prog_8_method_4_code 111 = .ok (.aload_n 0, 1) := by decide +kernel
theorem dM_copy_112 : decode prog_8_method_4_code 112 = .ok (.getfield 24, 3) := by decide +kernel
theorem dM_copy_115 : decode prog_8_method_4_code 115 = .ok (.bipush 16, 2) := by decide +kernel
theorem dM_copy_117 : decode prog_8_method_4_code 117 = .ok (.iload_n 1, 1) := by decide +kernel
theorem dM_copy_118 : decode prog_8_method_4_code 118 = .ok (.imul, 1) := by decide +kernel
theorem dM_copy_119 : decode prog_8_method_4_code 119 = .ok (.iload_n 3, 1) := by decide +kernel
theorem dM_copy_120 : decode prog_8_method_4_code 120 = .ok (.iadd, 1) := by decide +kernel
theorem dM_copy_121 : decode prog_8_method_4_code 121 = .ok (.iaload, 1) := by decide +kernel
theorem dM_copy_122 : decode prog_8_method_4_code 122 = .ok (.iastore, 1) := by decide +kernel
theorem dM_copy_123 : decode prog_8_method_4_code 123 = .ok (.iinc 3 1, 3) := by decide +kernel
theorem dM_copy_126 : decode prog_8_method_4_code 126 = .ok (.goto (-31), 3) := by decide +kernel
theorem dM_copy_129 : decode prog_8_method_4_code 129 = .ok (.aload_n 0, 1) := by decide +kernel
theorem dM_copy_130 : decode prog_8_method_4_code 130 = .ok (.getfield 30, 3) := by decide +kernel
theorem dM_copy_133 : decode prog_8_method_4_code 133 = .ok (.iload_n 2, 1) := by decide +kernel
theorem dM_copy_134 : decode prog_8_method_4_code 134 = .ok (.aload_n 0, 1) := by decide +kernel
theorem dM_copy_135 : decode prog_8_method_4_code 135 = .ok (.getfield 30, 3) := by decide +kernel
theorem dM_copy_138 : decode prog_8_method_4_code 138 = .ok (.iload_n 1, 1) := by decide +kernel
theorem dM_copy_139 : decode prog_8_method_4_code 139 = .ok (.iaload, 1) := by decide +kernel
theorem dM_copy_140 : decode prog_8_method_4_code 140 = .ok (.iastore, 1) := by decide +kernel
theorem dM_copy_141 : decode prog_8_method_4_code 141 = .ok (.aload_n 0, 1) := by decide +kernel
theorem dM_copy_142 : decode prog_8_method_4_code 142 = .ok (.getfield 33, 3) := by decide +kernel
theorem dM_copy_145 : decode prog_8_method_4_code 145 = .ok (.iload_n 2, 1) := by decide +kernel
theorem dM_copy_146 : decode prog_8_method_4_code 146 = .ok (.aload_n 0, 1) := by decide +kernel
theorem dM_copy_147 : decode prog_8_method_4_code 147 = .ok (.getfield 33, 3) := by decide +kernel
theorem dM_copy_150 : decode prog_8_method_4_code 150 = .ok (.iload_n 1, 1) := by decide +kernel
theorem dM_copy_151 : decode prog_8_method_4_code 151 = .ok (.iaload, 1) := by decide +kernel
theorem dM_copy_152 : decode prog_8_method_4_code 152 = .ok (.iastore, 1) := by decide +kernel
theorem dM_copy_153 : decode prog_8_method_4_code 153 = .ok (.return_, 1) := by decide +kernel
theorem dM_come_0 : decode prog_8_method_5_code 0 = .ok (.aload_n 0, 1) := by decide +kernel
theorem dM_come_1 : decode prog_8_method_5_code 1 = .ok (.getfield 36, 3) := by decide +kernel
theorem dM_come_4 : decode prog_8_method_5_code 4 = .ok (.aload_n 0, 1) := by decide +kernel
theorem dM_come_5 : decode prog_8_method_5_code 5 = .ok (.getfield 60, 3) := by decide +kernel
theorem dM_come_8 : decode prog_8_method_5_code 8 = .ok (.iload_n 1, 1) := by decide +kernel
theorem dM_come_9 : decode prog_8_method_5_code 9 = .ok (.iastore, 1) := by decide +kernel
theorem dM_come_10 : decode prog_8_method_5_code 10 = .ok (.aload_n 0, 1) := by decide +kernel
theorem dM_come_11 : decode prog_8_method_5_code 11 = .ok (.getfield 42, 3) := by decide +kernel
theorem dM_come_14 : decode prog_8_method_5_code 14 = .ok (.aload_n 0, 1) := by decide +kernel
theorem dM_come_15 : decode prog_8_method_5_code 15 = .ok (.getfield 60, 3) := by decide +kernel
theorem dM_come_18 : decode prog_8_method_5_code 18 = .ok (.iconst 0, 1) := by decide +kernel
theorem dM_come_19 : decode prog_8_method_5_code 19 = .ok (.iastore, 1) := by decide +kernel
theorem dM_come_20 : decode prog_8_method_5_code 20 = .ok (.return_, 1) := by decide +kernel
theorem dM_sameList_0 : decode prog_8_method_6_code 0 = .ok (.aload_n 0, 1) := by decide +kernel
theorem dM_sameList_1 : decode prog_8_method_6_code 1 = .ok (.getfield 27, 3) := by decide +kernel
theorem dM_sameList_4 : decode prog_8_method_6_code 4 = .ok (.iconst 2, 1) := by decide +kernel
theorem dM_sameList_5 : decode prog_8_method_6_code 5 = .ok (.iload_n 1, 1) := by decide +kernel
theorem dM_sameList_6 : decode prog_8_method_6_code 6 = .ok (.imul, 1) := by decide +kernel
theorem dM_sameList_7 : decode prog_8_method_6_code 7 = .ok (.iload_n 3, 1) := by decide +kernel
theorem dM_sameList_8 : decode prog_8_method_6_code 8 = .ok (.iadd, 1) := by decide +kernel
theorem dM_sameList_9 : decode prog_8_method_6_code 9 = .ok (.iaload, 1) := by decide +kernel
theorem dM_sameList_10 : decode prog_8_method_6_code 10 = .ok (.aload_n 0, 1) := by decide +kernel
theorem dM_sameList_11 : decode prog_8_method_6_code 11 = .ok (.getfield 27, 3) := by decide +kernel
theorem dM_sameList_14 : decode prog_8_method_6_code 14 = .ok (.iconst 2, 1) := by decide +kernel
theorem dM_sameList_15 : decode prog_8_method_6_code 15 = .ok (.iload_n 2, 1) := by decide +kernel
theorem dM_sameList_16 : decode prog_8_method_6_code 16 = .ok (.imul, 1) := by decide +kernel
theorem dM_sameList_17 : decode prog_8_method_6_code 17 = .ok (.iload_n 3, 1) := by decide +kernel
theorem dM_sameList_18 : decode prog_8_method_6_code 18 = .ok (.iadd, 1) := by decide +kernel
theorem dM_sameList_19 : decode prog_8_method_6_code 19 = .ok (.iaload, 1) := by decide +kernel
theorem dM_sameList_20 : decode prog_8_method_6_code 20 = .ok (.if_icmp .ne 7, 3) := by decide +kernel
theorem dM_sameList_23 : decode prog_8_method_6_code 23 = .ok (.iconst 1, 1) := by decide +kernel
theorem dM_sameList_24 : decode prog_8_method_6_code 24 = .ok (.goto 4, 3) := by decide +kernel
theorem dM_sameList_27 : decode prog_8_method_6_code 27 = .ok (.iconst 0, 1) := by decide +kernel
theorem dM_sameList_28 : decode prog_8_method_6_code 28 = .ok (.istore 4, 2) := by decide +kernel
theorem dM_sameList_30 : decode prog_8_method_6_code 30 = .ok (.iconst 0, 1) := by decide +kernel
theorem dM_sameList_31 : decode prog_8_method_6_code 31 = .ok (.istore 5, 2) := by decide +kernel
theorem dM_sameList_33 : decode prog_8_method_6_code 33 = .ok (.iload 5, 2) := by decide +kernel
theorem dM_sameList_35 : decode prog_8_method_6_code 35 = .ok (.aload_n 0, 1) := by decide +kernel
theorem dM_sameList_36 : decode prog_8_method_6_code 36 = .ok (.getfield 27, 3) := by decide +kernel
theorem dM_sameList_39 : decode prog_8_method_6_code 39 = .ok (.iconst 2, 1) := by decide +kernel
theorem dM_sameList_40 : decode prog_8_method_6_code 40 = .ok (.iload_n 1, 1) := by decide +kernel
theorem dM_sameList_41 : decode prog_8_method_6_code 41 = .ok (.imul, 1) := by decide +kernel
theorem dM_sameList_42 : decode prog_8_method_6_code 42 = .ok (.iload_n 3, 1) := by decide +kernel
theorem dM_sameList_43 : decode prog_8_method_6_code 43 = .ok (.iadd, 1) := by decide +kernel
theorem dM_sameList_44 : decode prog_8_method_6_code 44 = .ok (.iaload, 1) := by decide +kernel
theorem dM_sameList_45 : decode prog_8_method_6_code 45 = .ok (.if_icmp .ge 58, 3) := by decide +kernel
theorem dM_sameList_48 : decode prog_8_method_6_code 48 = .ok (.iload 4, 2) := by decide +kernel
theorem dM_sameList_50 : decode prog_8_method_6_code 50 = .ok (.ifCond .eq 53, 3) := by decide +kernel
theorem dM_sameList_53 : decode prog_8_method_6_code 53 = .ok (.aload_n 0, 1) := by decide +kernel
theorem dM_sameList_54 : decode prog_8_method_6_code 54 = .ok (.getfield 24, 3) := by decide +kernel
theorem dM_sameList_57 : decode prog_8_method_6_code 57 = .ok (.bipush 16, 2) := by decide +kernel
theorem dM_sameList_59 : decode prog_8_method_6_code 59 = .ok (.iload_n 1, 1) := by decide +kernel
theorem dM_sameList_60 : decode prog_8_method_6_code 60 = .ok (.imul, 1) := by decide +kernel
theorem dM_sameList_61 : decode prog_8_method_6_code 61 = .ok (.bipush 8, 2) := by decide +kernel
theorem dM_sameList_63 : decode prog_8_method_6_code 63 = .ok (.iload_n 3, 1) := by decide +kernel
theorem dM_sameList_64 : decode prog_8_method_6_code 64 = .ok (.imul, 1) := by decide +kernel
theorem dM_sameList_65 : decode prog_8_method_6_code 65 = .ok (.iadd, 1) := by decide +kernel
theorem dM_sameList_66 : decode prog_8_method_6_code 66 = .ok (.iload 5, 2) := by decide +kernel
theorem dM_sameList_68 : decode prog_8_method_6_code 68 = .ok (.iadd, 1) := by decide +kernel
theorem dM_sameList_69 : decode prog_8_method_6_code 69 = .ok (.iaload, 1) := by decide +kernel
theorem dM_sameList_70 : decode prog_8_method_6_code 70 = .ok (.aload_n 0, 1) := by decide +kernel
theorem dM_sameList_71 : decode prog_8_method_6_code 71 = .ok (.getfield 24, 3) := by decide +kernel
theorem dM_sameList_74 : decode prog_8_method_6_code 74 = .ok (.bipush 16, 2) := by decide +kernel
theorem dM_sameList_76 : decode prog_8_method_6_code 76 = .ok (.iload_n 2, 1) := by decide +kernel
theorem dM_sameList_77 : decode prog_8_method_6_code 77 = .ok (.imul, 1) := by decide +kernel
theorem dM_sameList_78 : decode prog_8_method_6_code 78 = .ok (.bipush 8, 2) := by decide +kernel
theorem dM_sameList_80 : decode prog_8_method_6_code 80 = .ok (.iload_n 3, 1) := by decide +kernel
theorem dM_sameList_81 : decode prog_8_method_6_code 81 = .ok (.imul, 1) := by decide +kernel
theorem dM_sameList_82 : decode prog_8_method_6_code 82 = .ok (.iadd, 1) := by decide +kernel
theorem dM_sameList_83 : decode prog_8_method_6_code 83 = .ok (.iload 5, 2) := by decide +kernel
theorem dM_sameList_85 : decode prog_8_method_6_code 85 = .ok (.iadd, 1) := by decide +kernel
theorem dM_sameList_86 : decode prog_8_method_6_code 86 = .ok (.iaload, 1) := by decide +kernel
theorem dM_sameList_87 : decode prog_8_method_6_code 87 = .ok (.if_icmp .ne 7, 3) := by decide +kernel
theorem dM_sameList_90 : decode prog_8_method_6_code 90 = .ok (.iconst 1, 1) := by decide +kernel
theorem dM_sameList_91 : decode prog_8_method_6_code 91 = .ok (.goto 4, 3) := by decide +kernel
theorem dM_sameList_94 : decode prog_8_method_6_code 94 = .ok (.iconst 0, 1) := by decide +kernel
theorem dM_sameList_95 : decode prog_8_method_6_code 95 = .ok (.istore 4, 2) := by decide +kernel
theorem dM_sameList_97 : decode prog_8_method_6_code 97 = .ok (.iinc 5 1, 3) := by decide +kernel
theorem dM_sameList_100 : decode prog_8_method_6_code 100 = .ok (.goto (-67), 3) := by decide +kernel
theorem dM_sameList_103 : decode prog_8_method_6_code 103 = .ok (.iload 4, 2) := by decide +kernel
theorem dM_sameList_105 : decode prog_8_method_6_code 105 = .ok (.ireturn, 1) := by decide +kernel
theorem dM_difference_0 : decode prog_8_method_7_code 0 = .ok (.iconst 0, 1) := by decide +kernel
theorem dM_difference_1 : decode prog_8_method_7_code 1 = .ok (.istore_n 3, 1) := by decide +kernel
theorem dM_difference_2 : decode prog_8_method_7_code 2 = .ok (.iconst 0, 1) := by decide +kernel
theorem dM_difference_3 : decode prog_8_method_7_code 3 = .ok (.istore 4, 2) := by decide +kernel
theorem dM_difference_5 : decode prog_8_method_7_code 5 = .ok (.iload 4, 2) := by decide +kernel
theorem dM_difference_7 : decode prog_8_method_7_code 7 = .ok (.iconst 2, 1) := by decide +kernel
theorem dM_difference_8 : decode prog_8_method_7_code 8 = .ok (.if_icmp .ge 142, 3) := by decide +kernel
theorem dM_difference_11 : decode prog_8_method_7_code 11 = .ok (.iload_n 3, 1) := by decide +kernel
theorem dM_difference_12 : decode prog_8_method_7_code 12 = .ok (.aload_n 0, 1) := by decide +kernel
theorem dM_difference_13 : decode prog_8_method_7_code 13 = .ok (.getfield 13, 3) := by decide +kernel
theorem dM_difference_16 : decode prog_8_method_7_code 16 = .ok (.iconst 2, 1) := by decide +kernel
theorem dM_difference_17 : decode prog_8_method_7_code 17 = .ok (.iload_n 1, 1) := by decide +kernel
theorem dM_difference_18 : decode prog_8_method_7_code 18 = .ok (.imul, 1) := by decide +kernel
theorem dM_difference_19 : decode prog_8_method_7_code 19 = .ok (.iload 4, 2) := by decide +kernel
theorem dM_difference_21 : decode prog_8_method_7_code 21 = .ok (.iadd, 1) := by decide +kernel
theorem dM_difference_22 : decode prog_8_method_7_code 22 = .ok (.iaload, 1) := by decide +kernel
theorem dM_difference_23 : decode prog_8_method_7_code 23 = .ok (.aload_n 0, 1) := by decide +kernel
theorem dM_difference_24 : decode prog_8_method_7_code 24 = .ok (.getfield 13, 3) := by decide +kernel
theorem dM_difference_27 : decode prog_8_method_7_code 27 = .ok (.iconst 2, 1) := by decide +kernel
theorem dM_difference_28 : decode prog_8_method_7_code 28 = .ok (.iload_n 2, 1) := by decide +kernel
theorem dM_difference_29 : decode prog_8_method_7_code 29 = .ok (.imul, 1) := by decide +kernel
theorem dM_difference_30 : decode prog_8_method_7_code 30 = .ok (.iload 4, 2) := by decide +kernel
theorem dM_difference_32 : decode prog_8_method_7_code 32 = .ok (.iadd, 1) := by decide +kernel
theorem dM_difference_33 : decode prog_8_method_7_code 33 = .ok (.iaload, 1) := by decide +kernel
theorem dM_difference_34 : decode prog_8_method_7_code 34 = .ok (.if_icmp .eq 10, 3) := by decide +kernel
theorem dM_difference_37 : decode prog_8_method_7_code 37 = .ok (.iconst 1, 1) := by decide +kernel
theorem dM_difference_38 : decode prog_8_method_7_code 38 = .ok (.iload 4, 2) := by decide +kernel
theorem dM_difference_40 : decode prog_8_method_7_code 40 = .ok (.ishl, 1) := by decide +kernel
theorem dM_difference_41 : decode prog_8_method_7_code 41 = .ok (.goto 4, 3) := by decide +kernel
theorem dM_difference_44 : decode prog_8_method_7_code 44 = .ok (.iconst 0, 1) := by decide +kernel
theorem dM_difference_45 : decode prog_8_method_7_code 45 = .ok (.ior, 1) := by decide +kernel
theorem dM_difference_46 : decode prog_8_method_7_code 46 = .ok (.istore_n 3, 1) := by decide +kernel
theorem dM_difference_47 : decode prog_8_method_7_code 47 = .ok (.iload_n 3, 1) := by decide +kernel
theorem dM_difference_48 : decode prog_8_method_7_code 48 = .ok (.aload_n 0, 1) := by decide +kernel
theorem dM_difference_49 : decode prog_8_method_7_code 49 = .ok (.getfield 17, 3) := by decide +kernel
theorem dM_difference_52 : decode prog_8_method_7_code 52 = .ok (.iconst 2, 1) := by decide +kernel
theorem dM_difference_53 : decode prog_8_method_7_code 53 = .ok (.iload_n 1, 1) := by decide +kernel
theorem dM_difference_54 : decode prog_8_method_7_code 54 = .ok (.imul, 1) := by decide +kernel
theorem dM_difference_55 : decode prog_8_method_7_code 55 = .ok (.iload 4, 2) := by decide +kernel
theorem dM_difference_57 : decode prog_8_method_7_code 57 = .ok (.iadd, 1) := by decide +kernel
theorem dM_difference_58 : decode prog_8_method_7_code 58 = .ok (.laload, 1) := by decide +kernel
theorem dM_difference_59 : decode prog_8_method_7_code 59 = .ok (.aload_n 0, 1) := by decide +kernel
theorem dM_difference_60 : decode prog_8_method_7_code 60 = .ok (.getfield 17, 3) := by decide +kernel
theorem dM_difference_63 : decode prog_8_method_7_code 63 = .ok (.iconst 2, 1) := by decide +kernel
theorem dM_difference_64 : decode prog_8_method_7_code 64 = .ok (.iload_n 2, 1) := by decide +kernel
theorem dM_difference_65 : decode prog_8_method_7_code 65 = .ok (.imul, 1) := by decide +kernel
theorem dM_difference_66 : decode prog_8_method_7_code 66 = .ok (.iload 4, 2) := by decide +kernel
theorem dM_difference_68 : decode prog_8_method_7_code 68 = .ok (.iadd, 1) := by decide +kernel
theorem dM_difference_69 : decode prog_8_method_7_code 69 = .ok (.laload, 1) := by decide +kernel
theorem dM_difference_70 : decode prog_8_method_7_code 70 = .ok (.lcmp, 1) := by decide +kernel
theorem dM_difference_71 : decode prog_8_method_7_code 71 = .ok (.ifCond .eq 10, 3) := by decide +kernel
theorem dM_difference_74 : decode prog_8_method_7_code 74 = .ok (.iconst 4, 1) := by decide +kernel
theorem dM_difference_75 : decode prog_8_method_7_code 75 = .ok (.iload 4, 2) := by decide +kernel
theorem dM_difference_77 : decode prog_8_method_7_code 77 = .ok (.ishl, 1) := by decide +kernel
theorem dM_difference_78 : decode prog_8_method_7_code 78 = .ok (.goto 4, 3) := by decide +kernel
theorem dM_difference_81 : decode prog_8_method_7_code 81 = .ok (.iconst 0, 1) := by decide +kernel
theorem dM_difference_82 : decode prog_8_method_7_code 82 = .ok (.ior, 1) := by decide +kernel
theorem dM_difference_83 : decode prog_8_method_7_code 83 = .ok (.istore_n 3, 1) := by decide +kernel
theorem dM_difference_84 : decode prog_8_method_7_code 84 = .ok (.iload_n 3, 1) := by decide +kernel
theorem dM_difference_85 : decode prog_8_method_7_code 85 = .ok (.aload_n 0, 1) := by decide +kernel
theorem dM_difference_86 : decode prog_8_method_7_code 86 = .ok (.getfield 21, 3) := by decide +kernel
theorem dM_difference_89 : decode prog_8_method_7_code 89 = .ok (.iconst 2, 1) := by decide +kernel
theorem dM_difference_90 : decode prog_8_method_7_code 90 = .ok (.iload_n 1, 1) := by decide +kernel
theorem dM_difference_91 : decode prog_8_method_7_code 91 = .ok (.imul, 1) := by decide +kernel
theorem dM_difference_92 : decode prog_8_method_7_code 92 = .ok (.iload 4, 2) := by decide +kernel
theorem dM_difference_94 : decode prog_8_method_7_code 94 = .ok (.iadd, 1) := by decide +kernel
theorem dM_difference_95 : decode prog_8_method_7_code 95 = .ok (.iaload, 1) := by decide +kernel
theorem dM_difference_96 : decode prog_8_method_7_code 96 = .ok (.aload_n 0, 1) := by decide +kernel
theorem dM_difference_97 : decode prog_8_method_7_code 97 = .ok (.getfield 21, 3) := by decide +kernel
theorem dM_difference_100 : decode prog_8_method_7_code 100 = .ok (.iconst 2, 1) := by decide +kernel
theorem dM_difference_101 : decode prog_8_method_7_code 101 = .ok (.iload_n 2, 1) := by decide +kernel
theorem dM_difference_102 : decode prog_8_method_7_code 102 = .ok (.imul, 1) := by decide +kernel
theorem dM_difference_103 : decode prog_8_method_7_code 103 = .ok (.iload 4, 2) := by decide +kernel
theorem dM_difference_105 : decode prog_8_method_7_code 105 = .ok (.iadd, 1) := by decide +kernel
theorem dM_difference_106 : decode prog_8_method_7_code 106 = .ok (.iaload, 1) := by decide +kernel
theorem dM_difference_107 : decode prog_8_method_7_code 107 = .ok (.if_icmp .eq 11, 3) := by decide +kernel
theorem dM_difference_110 : decode prog_8_method_7_code 110 = .ok (.bipush 16, 2) := by decide +kernel
theorem dM_difference_112 : decode prog_8_method_7_code 112 = .ok (.iload 4, 2) := by decide +kernel
theorem dM_difference_114 : decode prog_8_method_7_code 114 = .ok (.ishl, 1) := by decide +kernel
theorem dM_difference_115 : decode prog_8_method_7_code 115 = .ok (.goto 4, 3) := by decide +kernel
theorem dM_difference_118 : decode prog_8_method_7_code 118 = .ok (.iconst 0, 1) := by decide +kernel
theorem dM_difference_119 : decode prog_8_method_7_code 119 = .ok (.ior, 1) := by decide +kernel
theorem dM_difference_120 : decode prog_8_method_7_code 120 = .ok (.istore_n 3, 1) := by decide +kernel
theorem dM_difference_121 : decode prog_8_method_7_code 121 = .ok (.iload_n 3, 1) := by decide +kernel
theorem dM_difference_122 : decode prog_8_method_7_code 122 = .ok (.aload_n 0, 1) := by decide +kernel
theorem dM_difference_123 : decode prog_8_method_7_code 123 = .ok (.iload_n 1, 1) := by decide +kernel
theorem dM_difference_124 : decode prog_8_method_7_code 124 = .ok (.iload_n 2, 1) := by decide +kernel
theorem dM_difference_125 : decode prog_8_method_7_code 125 = .ok (.iload 4, 2) := by decide +kernel
theorem dM_difference_127 : decode prog_8_method_7_code 127 = .ok (.invokevirtual 63, 3) := by decide +kernel
theorem dM_difference_130 : decode prog_8_method_7_code 130 = .ok (.ifCond .eq 7, 3) := by decide +kernel
theorem dM_difference_133 : decode prog_8_method_7_code 133 = .ok (.iconst 0, 1) := by decide +kernel
theorem dM_difference_134 : decode prog_8_method_7_code 134 = .ok (.goto 8, 3) := by decide +kernel
theorem dM_difference_137 : decode prog_8_method_7_code 137 = .ok (.bipush 64, 2) := by decide +kernel
theorem dM_difference_139 : decode prog_8_method_7_code 139 = .ok (.iload 4, 2) := by decide +kernel
theorem dM_difference_141 : decode prog_8_method_7_code 141 = .ok (.ishl, 1) := by decide +kernel
theorem dM_difference_142 : decode prog_8_method_7_code 142 = .ok (.ior, 1) := by decide +kernel
theorem dM_difference_143 : decode prog_8_method_7_code 143 = .ok (.istore_n 3, 1) := by decide +kernel
theorem dM_difference_144 : decode prog_8_method_7_code 144 = .ok (.iinc 4 1, 3) := by decide +kernel
theorem dM_difference_147 : decode prog_8_method_7_code 147 = .ok (.goto (-142), 3) := by decide +kernel
theorem dM_difference_150 : decode prog_8_method_7_code 150 = .ok (.iload_n 3, 1) := by decide +kernel
theorem dM_difference_151 : decode prog_8_method_7_code 151 = .ok (.ireturn, 1) := by decide +kernel
theorem dM_finish_0 : decode prog_8_method_8_code 0 = .ok (.aload_n 0, 1) := by decide +kernel
theorem dM_finish_1 : decode prog_8_method_8_code 1 = .ok (.getfield 30, 3) := by decide +kernel
theorem dM_finish_4 : decode prog_8_method_8_code 4 = .ok (.aload_n 0, 1) := by decide +kernel
theorem dM_finish_5 : decode prog_8_method_8_code 5 = .ok (.getfield 7, 3) := by decide +kernel
theorem dM_finish_8 : decode prog_8_method_8_code 8 = .ok (.iload_n 1, 1) := by decide +kernel
theorem dM_finish_9 : decode prog_8_method_8_code 9 = .ok (.iastore, 1) := by decide +kernel
theorem dM_finish_10 : decode prog_8_method_8_code 10 = .ok (.aload_n 0, 1) := by decide +kernel
theorem dM_finish_11 : decode prog_8_method_8_code 11 = .ok (.getfield 33, 3) := by decide +kernel
theorem dM_finish_14 : decode prog_8_method_8_code 14 = .ok (.aload_n 0, 1) := by decide +kernel
theorem dM_finish_15 : decode prog_8_method_8_code 15 = .ok (.getfield 7, 3) := by decide +kernel
theorem dM_finish_18 : decode prog_8_method_8_code 18 = .ok (.iload_n 2, 1) := by decide +kernel
theorem dM_finish_19 : decode prog_8_method_8_code 19 = .ok (.iastore, 1) := by decide +kernel
theorem dM_finish_20 : decode prog_8_method_8_code 20 = .ok (.aload_n 0, 1) := by decide +kernel
theorem dM_finish_21 : decode prog_8_method_8_code 21 = .ok (.dup, 1) := by decide +kernel
theorem dM_finish_22 : decode prog_8_method_8_code 22 = .ok (.getfield 7, 3) := by decide +kernel
theorem dM_finish_25 : decode prog_8_method_8_code 25 = .ok (.iconst 1, 1) := by decide +kernel
theorem dM_finish_26 : decode prog_8_method_8_code 26 = .ok (.iadd, 1) := by decide +kernel
theorem dM_finish_27 : decode prog_8_method_8_code 27 = .ok (.putfield 7, 3) := by decide +kernel
theorem dM_finish_30 : decode prog_8_method_8_code 30 = .ok (.aload_n 0, 1) := by decide +kernel
theorem dM_finish_31 : decode prog_8_method_8_code 31 = .ok (.aload_n 0, 1) := by decide +kernel
theorem dM_finish_32 : decode prog_8_method_8_code 32 = .ok (.getfield 7, 3) := by decide +kernel
theorem dM_finish_35 : decode prog_8_method_8_code 35 = .ok (.iconst 1, 1) := by decide +kernel
theorem dM_finish_36 : decode prog_8_method_8_code 36 = .ok (.isub, 1) := by decide +kernel
theorem dM_finish_37 : decode prog_8_method_8_code 37 = .ok (.invokevirtual 67, 3) := by decide +kernel
theorem dM_finish_40 : decode prog_8_method_8_code 40 = .ok (.aload_n 0, 1) := by decide +kernel
theorem dM_finish_41 : decode prog_8_method_8_code 41 = .ok (.getfield 7, 3) := by decide +kernel
theorem dM_finish_44 : decode prog_8_method_8_code 44 = .ok (.iconst 1, 1) := by decide +kernel
theorem dM_finish_45 : decode prog_8_method_8_code 45 = .ok (.isub, 1) := by decide +kernel
theorem dM_finish_46 : decode prog_8_method_8_code 46 = .ok (.ireturn, 1) := by decide +kernel
theorem dM_change_0 : decode prog_8_method_9_code 0 = .ok (.aload_n 0, 1) := by decide +kernel
theorem dM_change_1 : decode prog_8_method_9_code 1 = .ok (.aload_n 0, 1) := by decide +kernel
theorem dM_change_2 : decode prog_8_method_9_code 2 = .ok (.getfield 7, 3) := by decide +kernel
theorem dM_change_5 : decode prog_8_method_9_code 5 = .ok (.aload_n 0, 1) := by decide +kernel
theorem dM_change_6 : decode prog_8_method_9_code 6 = .ok (.invokevirtual 71, 3) := by decide +kernel
theorem dM_change_9 : decode prog_8_method_9_code 9 = .ok (.invokevirtual 75, 3) := by decide +kernel
theorem dM_change_12 : decode prog_8_method_9_code 12 = .ok (.ifCond .ne 8, 3) := by decide +kernel
theorem dM_change_15 : decode prog_8_method_9_code 15 = .ok (.aload_n 0, 1) := by decide +kernel
theorem dM_change_16 : decode prog_8_method_9_code 16 = .ok (.invokevirtual 71, 3) := by decide +kernel
theorem dM_change_19 : decode prog_8_method_9_code 19 = .ok (.ireturn, 1) := by decide +kernel
theorem dM_change_20 : decode prog_8_method_9_code 20 = .ok (.aload_n 0, 1) := by decide +kernel
theorem dM_change_21 : decode prog_8_method_9_code 21 = .ok (.aload_n 0, 1) := by decide +kernel
theorem dM_change_22 : decode prog_8_method_9_code 22 = .ok (.getfield 7, 3) := by decide +kernel
theorem dM_change_25 : decode prog_8_method_9_code 25 = .ok (.bipush 60, 2) := by decide +kernel
theorem dM_change_27 : decode prog_8_method_9_code 27 = .ok (.if_icmp .ne 7, 3) := by decide +kernel
theorem dM_change_30 : decode prog_8_method_9_code 30 = .ok (.iconst 2, 1) := by decide +kernel
theorem dM_change_31 : decode prog_8_method_9_code 31 = .ok (.goto 4, 3) := by decide +kernel
theorem dM_change_34 : decode prog_8_method_9_code 34 = .ok (.iconst 0, 1) := by decide +kernel
theorem dM_change_35 : decode prog_8_method_9_code 35 = .ok (.putfield 57, 3) := by decide +kernel
theorem dM_change_38 : decode prog_8_method_9_code 38 = .ok (.aload_n 0, 1) := by decide +kernel
theorem dM_change_39 : decode prog_8_method_9_code 39 = .ok (.getfield 57, 3) := by decide +kernel
theorem dM_change_42 : decode prog_8_method_9_code 42 = .ok (.ifCond .le 7, 3) := by decide +kernel
theorem dM_change_45 : decode prog_8_method_9_code 45 = .ok (.iconst 0, 1) := by decide +kernel
theorem dM_change_46 : decode prog_8_method_9_code 46 = .ok (.goto 12, 3) := by decide +kernel
theorem dM_change_49 : decode prog_8_method_9_code 49 = .ok (.aload_n 0, 1) := by decide +kernel
theorem dM_change_50 : decode prog_8_method_9_code 50 = .ok (.aload_n 0, 1) := by decide +kernel
theorem dM_change_51 : decode prog_8_method_9_code 51 = .ok (.invokevirtual 71, 3) := by decide +kernel
theorem dM_change_54 : decode prog_8_method_9_code 54 = .ok (.iconst (-1), 1) := by decide +kernel
theorem dM_change_55 : decode prog_8_method_9_code 55 = .ok (.invokevirtual 79, 3) := by decide +kernel
theorem dM_change_58 : decode prog_8_method_9_code 58 = .ok (.ireturn, 1) := by decide +kernel
theorem dM_put_0 : decode prog_8_method_10_code 0 = .ok (.aload_n 0, 1) := by decide +kernel
theorem dM_put_1 : decode prog_8_method_10_code 1 = .ok (.iload_n 1, 1) := by decide +kernel
theorem dM_put_2 : decode prog_8_method_10_code 2 = .ok (.ifCond .eq 8, 3) := by decide +kernel
theorem dM_put_5 : decode prog_8_method_10_code 5 = .ok (.iload_n 1, 1) := by decide +kernel
theorem dM_put_6 : decode prog_8_method_10_code 6 = .ok (.iconst 1, 1) := by decide +kernel
theorem dM_put_7 : decode prog_8_method_10_code 7 = .ok (.if_icmp .ne 7, 3) := by decide +kernel
theorem dM_put_10 : decode prog_8_method_10_code 10 = .ok (.iconst 0, 1) := by decide +kernel
theorem dM_put_11 : decode prog_8_method_10_code 11 = .ok (.goto 4, 3) := by decide +kernel
theorem dM_put_14 : decode prog_8_method_10_code 14 = .ok (.iconst 1, 1) := by decide +kernel
theorem dM_put_15 : decode prog_8_method_10_code 15 = .ok (.putfield 57, 3) := by decide +kernel
theorem dM_put_18 : decode prog_8_method_10_code 18 = .ok (.aload_n 0, 1) := by decide +kernel
theorem dM_put_19 : decode prog_8_method_10_code 19 = .ok (.getfield 57, 3) := by decide +kernel
theorem dM_put_22 : decode prog_8_method_10_code 22 = .ok (.ifCond .le 5, 3) := by decide +kernel
theorem dM_put_25 : decode prog_8_method_10_code 25 = .ok (.iconst 0, 1) := by decide +kernel
theorem dM_put_26 : decode prog_8_method_10_code 26 = .ok (.ireturn, 1) := by decide +kernel
theorem dM_put_27 : decode prog_8_method_10_code 27 = .ok (.aload_n 0, 1) := by decide +kernel
theorem dM_put_28 : decode prog_8_method_10_code 28 = .ok (.aload_n 0, 1) := by decide +kernel
theorem dM_put_29 : decode prog_8_method_10_code 29 = .ok (.invokevirtual 71, 3) := by decide +kernel
theorem dM_put_32 : decode prog_8_method_10_code 32 = .ok (.aload_n 0, 1) := by decide +kernel
theorem dM_put_33 : decode prog_8_method_10_code 33 = .ok (.getfield 7, 3) := by decide +kernel
theorem dM_put_36 : decode prog_8_method_10_code 36 = .ok (.invokevirtual 82, 3) := by decide +kernel
theorem dM_put_39 : decode prog_8_method_10_code 39 = .ok (.aload_n 0, 1) := by decide +kernel
theorem dM_put_40 : decode prog_8_method_10_code 40 = .ok (.getfield 13, 3) := by decide +kernel
theorem dM_put_43 : decode prog_8_method_10_code 43 = .ok (.iconst 2, 1) := by decide +kernel
theorem dM_put_44 : decode prog_8_method_10_code 44 = .ok (.aload_n 0, 1) := by decide +kernel
theorem dM_put_45 : decode prog_8_method_10_code 45 = .ok (.getfield 7, 3) := by decide +kernel
theorem dM_put_48 : decode prog_8_method_10_code 48 = .ok (.imul, 1) := by decide +kernel
theorem dM_put_49 : decode prog_8_method_10_code 49 = .ok (.iload_n 1, 1) := by decide +kernel
theorem dM_put_50 : decode prog_8_method_10_code 50 = .ok (.iadd, 1) := by decide +kernel
theorem dM_put_51 : decode prog_8_method_10_code 51 = .ok (.iload_n 2, 1) := by decide +kernel
theorem dM_put_52 : decode prog_8_method_10_code 52 = .ok (.iastore, 1) := by decide +kernel
theorem dM_put_53 : decode prog_8_method_10_code 53 = .ok (.aload_n 0, 1) := by decide +kernel
theorem dM_put_54 : decode prog_8_method_10_code 54 = .ok (.invokevirtual 86, 3) := by decide +kernel
theorem dM_put_57 : decode prog_8_method_10_code 57 = .ok (.ireturn, 1) := by decide +kernel
theorem dM_add_0 : decode prog_8_method_11_code 0 = .ok (.aload_n 0, 1) := by decide +kernel
theorem dM_add_1 : decode prog_8_method_11_code 1 = .ok (.iload_n 1, 1) := by decide +kernel
theorem dM_add_2 : decode prog_8_method_11_code 2 = .ok (.iconst 2, 1) := by decide +kernel
theorem dM_add_3 : decode prog_8_method_11_code 3 = .ok (.if_icmp .eq 8, 3) := by decide +kernel
theorem dM_add_6 : decode prog_8_method_11_code 6 = .ok (.iload_n 1, 1) := by decide +kernel
theorem dM_add_7 : decode prog_8_method_11_code 7 = .ok (.iconst 3, 1) := by decide +kernel
theorem dM_add_8 : decode prog_8_method_11_code 8 = .ok (.if_icmp .ne 7, 3) := by decide +kernel
theorem dM_add_11 : decode prog_8_method_11_code 11 = .ok (.iconst 0, 1) := by decide +kernel
theorem dM_add_12 : decode prog_8_method_11_code 12 = .ok (.goto 4, 3) := by decide +kernel
theorem dM_add_15 : decode prog_8_method_11_code 15 = .ok (.iconst 1, 1) := by decide +kernel
theorem dM_add_16 : decode prog_8_method_11_code 16 = .ok (.putfield 57, 3) := by decide +kernel
theorem dM_add_19 : decode prog_8_method_11_code 19 = .ok (.aload_n 0, 1) := by decide +kernel
theorem dM_add_20 : decode prog_8_method_11_code 20 = .ok (.getfield 57, 3) := by decide +kernel
theorem dM_add_23 : decode prog_8_method_11_code 23 = .ok (.ifCond .le 5, 3) := by decide +kernel
theorem dM_add_26 : decode prog_8_method_11_code 26 = .ok (.iconst 0, 1) := by decide +kernel
theorem dM_add_27 : decode prog_8_method_11_code 27 = .ok (.ireturn, 1) := by decide +kernel
theorem dM_add_28 : decode prog_8_method_11_code 28 = .ok (.aload_n 0, 1) := by decide +kernel
theorem dM_add_29 : decode prog_8_method_11_code 29 = .ok (.aload_n 0, 1) := by decide +kernel
theorem dM_add_30 : decode prog_8_method_11_code 30 = .ok (.invokevirtual 71, 3) := by decide +kernel
theorem dM_add_33 : decode prog_8_method_11_code 33 = .ok (.aload_n 0, 1) := by decide +kernel
theorem dM_add_34 : decode prog_8_method_11_code 34 = .ok (.getfield 7, 3) := by decide +kernel
theorem dM_add_37 : decode prog_8_method_11_code 37 = .ok (.invokevirtual 82, 3) := by decide +kernel
theorem dM_add_40 : decode prog_8_method_11_code 40 = .ok (.aload_n 0, 1) := by decide +kernel
theorem dM_add_41 : decode prog_8_method_11_code 41 = .ok (.getfield 17, 3) := by decide +kernel
theorem dM_add_44 : decode prog_8_method_11_code 44 = .ok (.iconst 2, 1) := by decide +kernel
theorem dM_add_45 : decode prog_8_method_11_code 45 = .ok (.aload_n 0, 1) := by decide +kernel
theorem dM_add_46 : decode prog_8_method_11_code 46 = .ok (.getfield 7, 3) := by decide +kernel
theorem dM_add_49 : decode prog_8_method_11_code 49 = .ok (.imul, 1) := by decide +kernel
theorem dM_add_50 : decode prog_8_method_11_code 50 = .ok (.iload_n 1, 1) := by decide +kernel
theorem dM_add_51 : decode prog_8_method_11_code 51 = .ok (.iadd, 1) := by decide +kernel
theorem dM_add_52 : decode prog_8_method_11_code 52 = .ok (.iconst 2, 1) := by decide +kernel
theorem dM_add_53 : decode prog_8_method_11_code 53 = .ok (.isub, 1) := by decide +kernel
theorem dM_add_54 : decode prog_8_method_11_code 54 = .ok (.dup2, 1) := by decide +kernel
theorem dM_add_55 : decode prog_8_method_11_code 55 = .ok (.laload, 1) := by decide +kernel
theorem dM_add_56 : decode prog_8_method_11_code 56 = .ok (.iload_n 2, 1) := by decide +kernel
theorem dM_add_57 : decode prog_8_method_11_code 57 = .ok (.i2l, 1) := by decide +kernel
theorem dM_add_58 : decode prog_8_method_11_code 58 = .ok (.ladd, 1) := by decide +kernel
theorem dM_add_59 : decode prog_8_method_11_code 59 = .ok (.lastore, 1) := by decide +kernel
theorem dM_add_60 : decode prog_8_method_11_code 60 = .ok (.aload_n 0, 1) := by decide +kernel
theorem dM_add_61 : decode prog_8_method_11_code 61 = .ok (.invokevirtual 86, 3) := by decide +kernel
theorem dM_add_64 : decode prog_8_method_11_code 64 = .ok (.ireturn, 1) := by decide +kernel
theorem dM_mark_0 : decode prog_8_method_12_code 0 = .ok (.aload_n 0, 1) := by decide +kernel
theorem dM_mark_1 : decode prog_8_method_12_code 1 = .ok (.iload_n 1, 1) := by decide +kernel
theorem dM_mark_2 : decode prog_8_method_12_code 2 = .ok (.iconst 4, 1) := by decide +kernel
theorem dM_mark_3 : decode prog_8_method_12_code 3 = .ok (.if_icmp .eq 8, 3) := by decide +kernel
theorem dM_mark_6 : decode prog_8_method_12_code 6 = .ok (.iload_n 1, 1) := by decide +kernel
theorem dM_mark_7 : decode prog_8_method_12_code 7 = .ok (.iconst 5, 1) := by decide +kernel
theorem dM_mark_8 : decode prog_8_method_12_code 8 = .ok (.if_icmp .ne 17, 3) := by decide +kernel
theorem dM_mark_11 : decode prog_8_method_12_code 11 = .ok (.iload_n 2, 1) := by decide +kernel
theorem dM_mark_12 : decode prog_8_method_12_code 12 = .ok (.ifCond .lt 13, 3) := by decide +kernel
theorem dM_mark_15 : decode prog_8_method_12_code 15 = .ok (.iload_n 2, 1) := by decide +kernel
theorem dM_mark_16 : decode prog_8_method_12_code 16 = .ok (.bipush 31, 2) := by decide +kernel
theorem dM_mark_18 : decode prog_8_method_12_code 18 = .ok (.if_icmp .gt 7, 3) := by decide +kernel
theorem dM_mark_21 : decode prog_8_method_12_code 21 = .ok (.iconst 0, 1) := by decide +kernel
theorem dM_mark_22 : decode prog_8_method_12_code 22 = .ok (.goto 4, 3) := by decide +kernel
theorem dM_mark_25 : decode prog_8_method_12_code 25 = .ok (.iconst 1, 1) := by decide +kernel
theorem dM_mark_26 : decode prog_8_method_12_code 26 = .ok (.putfield 57, 3) := by decide +kernel
theorem dM_mark_29 : decode prog_8_method_12_code 29 = .ok (.aload_n 0, 1) := by decide +kernel
theorem dM_mark_30 : decode prog_8_method_12_code 30 = .ok (.getfield 57, 3) := by decide +kernel
theorem dM_mark_33 : decode prog_8_method_12_code 33 = .ok (.ifCond .le 5, 3) := by decide +kernel
theorem dM_mark_36 : decode prog_8_method_12_code 36 = .ok (.iconst 0, 1) := by decide +kernel
theorem dM_mark_37 : decode prog_8_method_12_code 37 = .ok (.ireturn, 1) := by decide +kernel
theorem dM_mark_38 : decode prog_8_method_12_code 38 = .ok (.aload_n 0, 1) := by decide +kernel
theorem dM_mark_39 : decode prog_8_method_12_code 39 = .ok (.aload_n 0, 1) := by decide +kernel
theorem dM_mark_40 : decode prog_8_method_12_code 40 = .ok (.invokevirtual 71, 3) := by decide +kernel
theorem dM_mark_43 : decode prog_8_method_12_code 43 = .ok (.aload_n 0, 1) := by decide +kernel
theorem dM_mark_44 : decode prog_8_method_12_code 44 = .ok (.getfield 7, 3) := by decide +kernel
theorem dM_mark_47 : decode prog_8_method_12_code 47 = .ok (.invokevirtual 82, 3) := by decide +kernel
theorem dM_mark_50 : decode prog_8_method_12_code 50 = .ok (.aload_n 0, 1) := by decide +kernel
theorem dM_mark_51 : decode prog_8_method_12_code 51 = .ok (.getfield 21, 3) := by decide +kernel
theorem dM_mark_54 : decode prog_8_method_12_code 54 = .ok (.iconst 2, 1) := by decide +kernel
theorem dM_mark_55 : decode prog_8_method_12_code 55 = .ok (.aload_n 0, 1) := by decide +kernel
theorem dM_mark_56 : decode prog_8_method_12_code 56 = .ok (.getfield 7, 3) := by decide +kernel
theorem dM_mark_59 : decode prog_8_method_12_code 59 = .ok (.imul, 1) := by decide +kernel
theorem dM_mark_60 : decode prog_8_method_12_code 60 = .ok (.iload_n 1, 1) := by decide +kernel
theorem dM_mark_61 : decode prog_8_method_12_code 61 = .ok (.iadd, 1) := by decide +kernel
theorem dM_mark_62 : decode prog_8_method_12_code 62 = .ok (.iconst 4, 1) := by decide +kernel
theorem dM_mark_63 : decode prog_8_method_12_code 63 = .ok (.isub, 1) := by decide +kernel
theorem dM_mark_64 : decode prog_8_method_12_code 64 = .ok (.iaload, 1) := by decide +kernel
theorem dM_mark_65 : decode prog_8_method_12_code 65 = .ok (.istore 4, 2) := by decide +kernel
theorem dM_mark_67 : decode prog_8_method_12_code 67 = .ok (.aload_n 0, 1) := by decide +kernel
theorem dM_mark_68 : decode prog_8_method_12_code 68 = .ok (.getfield 21, 3) := by decide +kernel
theorem dM_mark_71 : decode prog_8_method_12_code 71 = .ok (.iconst 2, 1) := by decide +kernel
theorem dM_mark_72 : decode prog_8_method_12_code 72 = .ok (.aload_n 0, 1) := by decide +kernel
theorem dM_mark_73 : decode prog_8_method_12_code 73 = .ok (.getfield 7, 3) := by decide +kernel
theorem dM_mark_76 : decode prog_8_method_12_code 76 = .ok (.imul, 1) := by decide +kernel
theorem dM_mark_77 : decode prog_8_method_12_code 77 = .ok (.iload_n 1, 1) := by decide +kernel
theorem dM_mark_78 : decode prog_8_method_12_code 78 = .ok (.iadd, 1) := by decide +kernel
theorem dM_mark_79 : decode prog_8_method_12_code 79 = .ok (.iconst 4, 1) := by decide +kernel
theorem dM_mark_80 : decode prog_8_method_12_code 80 = .ok (.isub, 1) := by decide +kernel
theorem dM_mark_81 : decode prog_8_method_12_code 81 = .ok (.iload_n 3, 1) := by decide +kernel
theorem dM_mark_82 : decode prog_8_method_12_code 82 = .ok (.ifCond .eq 12, 3) := by decide +kernel
theorem dM_mark_85 : decode prog_8_method_12_code 85 = .ok (.iload 4, 2) := by decide +kernel
theorem dM_mark_87 : decode prog_8_method_12_code 87 = .ok (.iconst 1, 1) := by decide +kernel
theorem dM_mark_88 : decode prog_8_method_12_code 88 = .ok (.iload_n 2, 1) := by decide +kernel
theorem dM_mark_89 : decode prog_8_method_12_code 89 = .ok (.ishl, 1) := by decide +kernel
theorem dM_mark_90 : decode prog_8_method_12_code 90 = .ok (.ior, 1) := by decide +kernel
theorem dM_mark_91 : decode prog_8_method_12_code 91 = .ok (.goto 11, 3) := by decide +kernel
theorem dM_mark_94 : decode prog_8_method_12_code 94 = .ok (.iload 4, 2) := by decide +kernel
theorem dM_mark_96 : decode prog_8_method_12_code 96 = .ok (.iconst 1, 1) := by decide +kernel
theorem dM_mark_97 : decode prog_8_method_12_code 97 = .ok (.iload_n 2, 1) := by decide +kernel
theorem dM_mark_98 : decode prog_8_method_12_code 98 = .ok (.ishl, 1) := by decide +kernel
theorem dM_mark_99 : decode prog_8_method_12_code 99 = .ok (.iconst (-1), 1) := by decide +kernel
theorem dM_mark_100 : decode prog_8_method_12_code 100 = .ok (.ixor, 1) := by decide +kernel
theorem dM_mark_101 : decode prog_8_method_12_code 101 = .ok (.iand, 1) := by decide +kernel
theorem dM_mark_102 : decode prog_8_method_12_code 102 = .ok (.iastore, 1) := by decide +kernel
theorem dM_mark_103 : decode prog_8_method_12_code 103 = .ok (.aload_n 0, 1) := by decide +kernel
theorem dM_mark_104 : decode prog_8_method_12_code 104 = .ok (.invokevirtual 86, 3) := by decide +kernel
theorem dM_mark_107 : decode prog_8_method_12_code 107 = .ok (.ireturn, 1) := by decide +kernel
theorem dM_insert_0 : decode prog_8_method_13_code 0 = .ok (.aload_n 0, 1) := by decide +kernel
theorem dM_insert_1 : decode prog_8_method_13_code 1 = .ok (.iload_n 1, 1) := by decide +kernel
theorem dM_insert_2 : decode prog_8_method_13_code 2 = .ok (.bipush 6, 2) := by decide +kernel
theorem dM_insert_4 : decode prog_8_method_13_code 4 = .ok (.if_icmp .eq 9, 3) := by decide +kernel
theorem dM_insert_7 : decode prog_8_method_13_code 7 = .ok (.iload_n 1, 1) := by decide +kernel
theorem dM_insert_8 : decode prog_8_method_13_code 8 = .ok (.bipush 7, 2) := by decide +kernel
theorem dM_insert_10 : decode prog_8_method_13_code 10 = .ok (.if_icmp .ne 7, 3) := by decide +kernel
theorem dM_insert_13 : decode prog_8_method_13_code 13 = .ok (.iconst 0, 1) := by decide +kernel
theorem dM_insert_14 : decode prog_8_method_13_code 14 = .ok (.goto 4, 3) := by decide +kernel
theorem dM_insert_17 : decode prog_8_method_13_code 17 = .ok (.iconst 1, 1) := by decide +kernel
theorem dM_insert_18 : decode prog_8_method_13_code 18 = .ok (.putfield 57, 3) := by decide +kernel
theorem dM_insert_21 : decode prog_8_method_13_code 21 = .ok (.aload_n 0, 1) := by decide +kernel
theorem dM_insert_22 : decode prog_8_method_13_code 22 = .ok (.getfield 57, 3) := by decide +kernel
theorem dM_insert_25 : decode prog_8_method_13_code 25 = .ok (.ifCond .le 5, 3) := by decide +kernel
theorem dM_insert_28 : decode prog_8_method_13_code 28 = .ok (.iconst 0, 1) := by decide +kernel
theorem dM_insert_29 : decode prog_8_method_13_code 29 = .ok (.ireturn, 1) := by decide +kernel
theorem dM_insert_30 : decode prog_8_method_13_code 30 = .ok (.aload_n 0, 1) := by decide +kernel
theorem dM_insert_31 : decode prog_8_method_13_code 31 = .ok (.aload_n 0, 1) := by decide +kernel
theorem dM_insert_32 : decode prog_8_method_13_code 32 = .ok (.invokevirtual 71, 3) := by decide +kernel
theorem dM_insert_35 : decode prog_8_method_13_code 35 = .ok (.aload_n 0, 1) := by decide +kernel
theorem dM_insert_36 : decode prog_8_method_13_code 36 = .ok (.getfield 7, 3) := by decide +kernel
theorem dM_insert_39 : decode prog_8_method_13_code 39 = .ok (.invokevirtual 82, 3) := by decide +kernel
theorem dM_insert_42 : decode prog_8_method_13_code 42 = .ok (.aload_n 0, 1) := by decide +kernel
theorem dM_insert_43 : decode prog_8_method_13_code 43 = .ok (.getfield 27, 3) := by decide +kernel
theorem dM_insert_46 : decode prog_8_method_13_code 46 = .ok (.iconst 2, 1) := by decide +kernel
theorem dM_insert_47 : decode prog_8_method_13_code 47 = .ok (.aload_n 0, 1) := by decide +kernel
theorem dM_insert_48 : decode prog_8_method_13_code 48 = .ok (.getfield 7, 3) := by decide +kernel
theorem dM_insert_51 : decode prog_8_method_13_code 51 = .ok (.imul, 1) := by decide +kernel
theorem dM_insert_52 : decode prog_8_method_13_code 52 = .ok (.iload_n 1, 1) := by decide +kernel
theorem dM_insert_53 : decode prog_8_method_13_code 53 = .ok (.iadd, 1) := by decide +kernel
theorem dM_insert_54 : decode prog_8_method_13_code 54 = .ok (.bipush 6, 2) := by decide +kernel
theorem dM_insert_56 : decode prog_8_method_13_code 56 = .ok (.isub, 1) := by decide +kernel
theorem dM_insert_57 : decode prog_8_method_13_code 57 = .ok (.iaload, 1) := by decide +kernel
theorem dM_insert_58 : decode prog_8_method_13_code 58 = .ok (.istore 4, 2) := by decide +kernel
theorem dM_insert_60 : decode prog_8_method_13_code 60 = .ok (.aload_n 0, 1) := by decide +kernel
theorem dM_insert_61 : decode prog_8_method_13_code 61 = .ok (.iload_n 2, 1) := by decide +kernel
theorem dM_insert_62 : decode prog_8_method_13_code 62 = .ok (.ifCond .lt 9, 3) := by decide +kernel
theorem dM_insert_65 : decode prog_8_method_13_code 65 = .ok (.iload_n 2, 1) := by decide +kernel
theorem dM_insert_66 : decode prog_8_method_13_code 66 = .ok (.iload 4, 2) := by decide +kernel
theorem dM_insert_68 : decode prog_8_method_13_code 68 = .ok (.if_icmp .le 7, 3) := by decide +kernel
theorem dM_insert_71 : decode prog_8_method_13_code 71 = .ok (.iconst 2, 1) := by decide +kernel
theorem dM_insert_72 : decode prog_8_method_13_code 72 = .ok (.goto 24, 3) := by decide +kernel
theorem dM_insert_75 : decode prog_8_method_13_code 75 = .ok (.iload 4, 2) := by decide +kernel
theorem dM_insert_77 : decode prog_8_method_13_code 77 = .ok (.bipush 8, 2) := by decide +kernel
theorem dM_insert_79 : decode prog_8_method_13_code 79 = .ok (.if_icmp .eq 12, 3) := by decide +kernel
theorem dM_insert_82 : decode prog_8_method_13_code 82 = .ok (.aload_n 0, 1) := by decide +kernel
theorem dM_insert_83 : decode prog_8_method_13_code 83 = .ok (.getfield 7, 3) := by decide +kernel
theorem dM_insert_86 : decode prog_8_method_13_code 86 = .ok (.bipush 60, 2) := by decide +kernel
theorem dM_insert_88 : decode prog_8_method_13_code 88 = .ok (.if_icmp .ne 7, 3) := by decide +kernel
theorem dM_insert_91 : decode prog_8_method_13_code 91 = .ok (.iconst 3, 1) := by decide +kernel
theorem dM_insert_92 : decode prog_8_method_13_code 92 = .ok (.goto 4, 3) := by decide +kernel
theorem dM_insert_95 : decode prog_8_method_13_code 95 = .ok (.iconst 0, 1) := by decide +kernel
theorem dM_insert_96 : decode prog_8_method_13_code 96 = .ok (.putfield 57, 3) := by decide +kernel
theorem dM_insert_99 : decode prog_8_method_13_code 99 = .ok (.aload_n 0, 1) := by decide +kernel
theorem dM_insert_100 : decode prog_8_method_13_code 100 = .ok (.getfield 57, 3) := by decide +kernel
theorem dM_insert_103 : decode prog_8_method_13_code 103 = .ok (.ifCond .le 5, 3) := by decide +kernel
theorem dM_insert_106 : decode prog_8_method_13_code 106 = .ok (.iconst 0, 1) := by decide +kernel
theorem dM_insert_107 : decode prog_8_method_13_code 107 = .ok (.ireturn, 1) := by decide +kernel
theorem dM_insert_108 : decode prog_8_method_13_code 108 = .ok (.bipush 16, 2) := by decide +kernel
theorem dM_insert_110 : decode prog_8_method_13_code 110 = .ok (.aload_n 0, 1) := by decide +kernel
theorem dM_insert_111 : decode prog_8_method_13_code 111 = .ok (.getfield 7, 3) := by decide +kernel
theorem dM_insert_114 : decode prog_8_method_13_code 114 = .ok (.imul, 1) := by decide +kernel
theorem dM_insert_115 : decode prog_8_method_13_code 115 = .ok (.bipush 8, 2) := by decide +kernel
theorem dM_insert_117 : decode prog_8_method_13_code 117 = .ok (.iload_n 1, 1) := by decide +kernel
theorem dM_insert_118 : decode prog_8_method_13_code 118 = .ok (.bipush 6, 2) := by decide +kernel
theorem dM_insert_120 : decode prog_8_method_13_code 120 = .ok (.isub, 1) := by decide +kernel
theorem dM_insert_121 : decode prog_8_method_13_code 121 = .ok (.imul, 1) := by decide +kernel
theorem dM_insert_122 : decode prog_8_method_13_code 122 = .ok (.iadd, 1) := by decide +kernel
theorem dM_insert_123 : decode prog_8_method_13_code 123 = .ok (.istore 5, 2) := by decide +kernel
theorem dM_insert_125 : decode prog_8_method_13_code 125 = .ok (.iload 4, 2) := by decide +kernel
theorem dM_insert_127 : decode prog_8_method_13_code 127 = .ok (.istore 6, 2) := by decide +kernel
theorem dM_insert_129 : decode prog_8_method_13_code 129 = .ok (.iload 6, 2) := by decide +kernel
theorem dM_insert_131 : decode prog_8_method_13_code 131 = .ok (.iload_n 2, 1) := by decide +kernel
theorem dM_insert_132 : decode prog_8_method_13_code 132 = .ok (.if_icmp .le 31, 3) := by decide +kernel
theorem dM_insert_135 : decode prog_8_method_13_code 135 = .ok (.aload_n 0, 1) := by decide +kernel
theorem dM_insert_136 : decode prog_8_method_13_code 136 = .ok (.getfield 24, 3) := by decide +kernel
theorem dM_insert_139 : decode prog_8_method_13_code 139 = .ok (.iload 5, 2) := by decide +kernel
theorem dM_insert_141 : decode prog_8_method_13_code 141 = .ok (.iload 6, 2) := by decide +kernel
theorem dM_insert_143 : decode prog_8_method_13_code 143 = .ok (.iadd, 1) := by decide +kernel
theorem dM_insert_144 : decode prog_8_method_13_code 144 = .ok (.aload_n 0, 1) := by decide +kernel
theorem dM_insert_145 : decode prog_8_method_13_code 145 = .ok (.getfield 24, 3) := by decide +kernel
theorem dM_insert_148 : decode prog_8_method_13_code 148 = .ok (.iload 5, 2) := by decide +kernel
theorem dM_insert_150 : decode prog_8_method_13_code 150 = .ok (.iload 6, 2) := by decide +kernel
theorem dM_insert_152 : decode prog_8_method_13_code 152 = .ok (.iadd, 1) := by decide +kernel
theorem dM_insert_153 : decode prog_8_method_13_code 153 = .ok (.iconst 1, 1) := by decide +kernel
theorem dM_insert_154 : decode prog_8_method_13_code 154 = .ok (.isub, 1) := by decide +kernel
theorem dM_insert_155 : decode prog_8_method_13_code 155 = .ok (.iaload, 1) := by decide +kernel
theorem dM_insert_156 : decode prog_8_method_13_code 156 = .ok (.iastore, 1) := by decide +kernel
theorem dM_insert_157 : decode prog_8_method_13_code 157 = .ok (.iinc 6 (-1), 3) := by decide +kernel
theorem dM_insert_160 : decode prog_8_method_13_code 160 = .ok (.goto (-31), 3) := by decide +kernel
theorem dM_insert_163 : decode prog_8_method_13_code 163 = .ok (.aload_n 0, 1) := by decide +kernel
theorem dM_insert_164 : decode prog_8_method_13_code 164 = .ok (.getfield 24, 3) := by decide +kernel
theorem dM_insert_167 : decode prog_8_method_13_code 167 = .ok (.iload 5, 2) := by decide +kernel
theorem dM_insert_169 : decode prog_8_method_13_code 169 = .ok (.iload_n 2, 1) := by decide +kernel
theorem dM_insert_170 : decode prog_8_method_13_code 170 = .ok (.iadd, 1) := by decide +kernel
theorem dM_insert_171 : decode prog_8_method_13_code 171 = .ok (.iload_n 3, 1) := by decide +kernel
theorem dM_insert_172 : decode prog_8_method_13_code 172 = .ok (.iastore, 1) := by decide +kernel
theorem dM_insert_173 : decode prog_8_method_13_code 173 = .ok (.aload_n 0, 1) := by decide +kernel
theorem dM_insert_174 : decode prog_8_method_13_code 174 = .ok (.getfield 27, 3) := by decide +kernel
theorem dM_insert_177 : decode prog_8_method_13_code 177 = .ok (.iconst 2, 1) := by decide +kernel
theorem dM_insert_178 : decode prog_8_method_13_code 178 = .ok (.aload_n 0, 1) := by decide +kernel
theorem dM_insert_179 : decode prog_8_method_13_code 179 = .ok (.getfield 7, 3) := by decide +kernel
theorem dM_insert_182 : decode prog_8_method_13_code 182 = .ok (.imul, 1) := by decide +kernel
theorem dM_insert_183 : decode prog_8_method_13_code 183 = .ok (.iload_n 1, 1) := by decide +kernel
theorem dM_insert_184 : decode prog_8_method_13_code 184 = .ok (.iadd, 1) := by decide +kernel
theorem dM_insert_185 : decode prog_8_method_13_code 185 = .ok (.bipush 6, 2) := by decide +kernel
theorem dM_insert_187 : decode prog_8_method_13_code 187 = .ok (.isub, 1) := by decide +kernel
theorem dM_insert_188 : decode prog_8_method_13_code 188 = .ok (.dup2, 1) := by decide +kernel
theorem dM_insert_189 : decode prog_8_method_13_code 189 = .ok (.iaload, 1) := by decide +kernel
theorem dM_insert_190 : decode prog_8_method_13_code 190 = .ok (.iconst 1, 1) := by decide +kernel
theorem dM_insert_191 : decode prog_8_method_13_code 191 = .ok (.iadd, 1) := by decide +kernel
theorem dM_insert_192 : decode prog_8_method_13_code 192 = .ok (.iastore, 1) := by decide +kernel
theorem dM_insert_193 : decode prog_8_method_13_code 193 = .ok (.aload_n 0, 1) := by decide +kernel
theorem dM_insert_194 : decode prog_8_method_13_code 194 = .ok (.invokevirtual 86, 3) := by decide +kernel
theorem dM_insert_197 : decode prog_8_method_13_code 197 = .ok (.ireturn, 1) := by decide +kernel
theorem dM_remove_0 : decode prog_8_method_14_code 0 = .ok (.aload_n 0, 1) := by decide +kernel
theorem dM_remove_1 : decode prog_8_method_14_code 1 = .ok (.iload_n 1, 1) := by decide +kernel
theorem dM_remove_2 : decode prog_8_method_14_code 2 = .ok (.bipush 6, 2) := by decide +kernel
theorem dM_remove_4 : decode prog_8_method_14_code 4 = .ok (.if_icmp .eq 9, 3) := by decide +kernel
theorem dM_remove_7 : decode prog_8_method_14_code 7 = .ok (.iload_n 1, 1) := by decide +kernel
theorem dM_remove_8 : decode prog_8_method_14_code 8 = .ok (.bipush 7, 2) := by decide +kernel
theorem dM_remove_10 : decode prog_8_method_14_code 10 = .ok (.if_icmp .ne 7, 3) := by decide +kernel
theorem dM_remove_13 : decode prog_8_method_14_code 13 = .ok (.iconst 0, 1) := by decide +kernel
theorem dM_remove_14 : decode prog_8_method_14_code 14 = .ok (.goto 4, 3) := by decide +kernel
theorem dM_remove_17 : decode prog_8_method_14_code 17 = .ok (.iconst 1, 1) := by decide +kernel
theorem dM_remove_18 : decode prog_8_method_14_code 18 = .ok (.putfield 57, 3) := by decide +kernel
theorem dM_remove_21 : decode prog_8_method_14_code 21 = .ok (.aload_n 0, 1) := by decide +kernel
theorem dM_remove_22 : decode prog_8_method_14_code 22 = .ok (.getfield 57, 3) := by decide +kernel
theorem dM_remove_25 : decode prog_8_method_14_code 25 = .ok (.ifCond .le 5, 3) := by decide +kernel
theorem dM_remove_28 : decode prog_8_method_14_code 28 = .ok (.iconst 0, 1) := by decide +kernel
theorem dM_remove_29 : decode prog_8_method_14_code 29 = .ok (.ireturn, 1) := by decide +kernel
theorem dM_remove_30 : decode prog_8_method_14_code 30 = .ok (.aload_n 0, 1) := by decide +kernel
theorem dM_remove_31 : decode prog_8_method_14_code 31 = .ok (.aload_n 0, 1) := by decide +kernel
theorem dM_remove_32 : decode prog_8_method_14_code 32 = .ok (.invokevirtual 71, 3) := by decide +kernel
theorem dM_remove_35 : decode prog_8_method_14_code 35 = .ok (.aload_n 0, 1) := by decide +kernel
theorem dM_remove_36 : decode prog_8_method_14_code 36 = .ok (.getfield 7, 3) := by decide +kernel
theorem dM_remove_39 : decode prog_8_method_14_code 39 = .ok (.invokevirtual 82, 3) := by decide +kernel
theorem dM_remove_42 : decode prog_8_method_14_code 42 = .ok (.aload_n 0, 1) := by decide +kernel
theorem dM_remove_43 : decode prog_8_method_14_code 43 = .ok (.getfield 27, 3) := by decide +kernel
theorem dM_remove_46 : decode prog_8_method_14_code 46 = .ok (.iconst 2, 1) := by decide +kernel
theorem dM_remove_47 : decode prog_8_method_14_code 47 = .ok (.aload_n 0, 1) := by decide +kernel
theorem dM_remove_48 : decode prog_8_method_14_code 48 = .ok (.getfield 7, 3) := by decide +kernel
theorem dM_remove_51 : decode prog_8_method_14_code 51 = .ok (.imul, 1) := by decide +kernel
theorem dM_remove_52 : decode prog_8_method_14_code 52 = .ok (.iload_n 1, 1) := by decide +kernel
theorem dM_remove_53 : decode prog_8_method_14_code 53 = .ok (.iadd, 1) := by decide +kernel
theorem dM_remove_54 : decode prog_8_method_14_code 54 = .ok (.bipush 6, 2) := by decide +kernel
theorem dM_remove_56 : decode prog_8_method_14_code 56 = .ok (.isub, 1) := by decide +kernel
theorem dM_remove_57 : decode prog_8_method_14_code 57 = .ok (.iaload, 1) := by decide +kernel
theorem dM_remove_58 : decode prog_8_method_14_code 58 = .ok (.istore_n 3, 1) := by decide +kernel
theorem dM_remove_59 : decode prog_8_method_14_code 59 = .ok (.aload_n 0, 1) := by decide +kernel
theorem dM_remove_60 : decode prog_8_method_14_code 60 = .ok (.iload_n 2, 1) := by decide +kernel
theorem dM_remove_61 : decode prog_8_method_14_code 61 = .ok (.ifCond .lt 8, 3) := by decide +kernel
theorem dM_remove_64 : decode prog_8_method_14_code 64 = .ok (.iload_n 2, 1) := by decide +kernel
theorem dM_remove_65 : decode prog_8_method_14_code 65 = .ok (.iload_n 3, 1) := by decide +kernel
theorem dM_remove_66 : decode prog_8_method_14_code 66 = .ok (.if_icmp .lt 7, 3) := by decide +kernel
theorem dM_remove_69 : decode prog_8_method_14_code 69 = .ok (.iconst 2, 1) := by decide +kernel
theorem dM_remove_70 : decode prog_8_method_14_code 70 = .ok (.goto 17, 3) := by decide +kernel
theorem dM_remove_73 : decode prog_8_method_14_code 73 = .ok (.aload_n 0, 1) := by decide +kernel
theorem dM_remove_74 : decode prog_8_method_14_code 74 = .ok (.getfield 7, 3) := by decide +kernel
theorem dM_remove_77 : decode prog_8_method_14_code 77 = .ok (.bipush 60, 2) := by decide +kernel
theorem dM_remove_79 : decode prog_8_method_14_code 79 = .ok (.if_icmp .ne 7, 3) := by decide +kernel
theorem dM_remove_82 : decode prog_8_method_14_code 82 = .ok (.iconst 3, 1) := by decide +kernel
theorem dM_remove_83 : decode prog_8_method_14_code 83 = .ok (.goto 4, 3) := by decide +kernel
theorem dM_remove_86 : decode prog_8_method_14_code 86 = .ok (.iconst 0, 1) := by decide +kernel
theorem dM_remove_87 : decode prog_8_method_14_code 87 = .ok (.putfield 57, 3) := by decide +kernel
theorem dM_remove_90 : decode prog_8_method_14_code 90 = .ok (.aload_n 0, 1) := by decide +kernel
theorem dM_remove_91 : decode prog_8_method_14_code 91 = .ok (.getfield 57, 3) := by decide +kernel
theorem dM_remove_94 : decode prog_8_method_14_code 94 = .ok (.ifCond .le 5, 3) := by decide +kernel
theorem dM_remove_97 : decode prog_8_method_14_code 97 = .ok (.iconst 0, 1) := by decide +kernel
theorem dM_remove_98 : decode prog_8_method_14_code 98 = .ok (.ireturn, 1) := by decide +kernel
theorem dM_remove_99 : decode prog_8_method_14_code 99 = .ok (.bipush 16, 2) := by decide +kernel
theorem dM_remove_101 : decode prog_8_method_14_code 101 = .ok (.aload_n 0, 1) := by decide +kernel
theorem dM_remove_102 : decode prog_8_method_14_code 102 = .ok (.getfield 7, 3) := by decide +kernel
theorem dM_remove_105 : decode prog_8_method_14_code 105 = .ok (.imul, 1) := by decide +kernel
theorem dM_remove_106 : decode prog_8_method_14_code 106 = .ok (.bipush 8, 2) := by decide +kernel
theorem dM_remove_108 : decode prog_8_method_14_code 108 = .ok (.iload_n 1, 1) := by decide +kernel
theorem dM_remove_109 : decode prog_8_method_14_code 109 = .ok (.bipush 6, 2) := by decide +kernel
theorem dM_remove_111 : decode prog_8_method_14_code 111 = .ok (.isub, 1) := by decide +kernel
theorem dM_remove_112 : decode prog_8_method_14_code 112 = .ok (.imul, 1) := by decide +kernel
theorem dM_remove_113 : decode prog_8_method_14_code 113 = .ok (.iadd, 1) := by decide +kernel
theorem dM_remove_114 : decode prog_8_method_14_code 114 = .ok (.istore 4, 2) := by decide +kernel
theorem dM_remove_116 : decode prog_8_method_14_code 116 = .ok (.iload_n 2, 1) := by decide +kernel
theorem dM_remove_117 : decode prog_8_method_14_code 117 = .ok (.istore 5, 2) := by decide +kernel
theorem dM_remove_119 : decode prog_8_method_14_code 119 = .ok (.iload 5, 2) := by decide +kernel
theorem dM_remove_121 : decode prog_8_method_14_code 121 = .ok (.iload_n 3, 1) := by decide +kernel
theorem dM_remove_122 : decode prog_8_method_14_code 122 = .ok (.iconst 1, 1) := by decide +kernel
theorem dM_remove_123 : decode prog_8_method_14_code 123 = .ok (.isub, 1) := by decide +kernel
theorem dM_remove_124 : decode prog_8_method_14_code 124 = .ok (.if_icmp .ge 31, 3) := by decide +kernel
theorem dM_remove_127 : decode prog_8_method_14_code 127 = .ok (.aload_n 0, 1) := by decide +kernel
theorem dM_remove_128 : decode prog_8_method_14_code 128 = .ok (.getfield 24, 3) := by decide +kernel
theorem dM_remove_131 : decode prog_8_method_14_code 131 = .ok (.iload 4, 2) := by decide +kernel
theorem dM_remove_133 : decode prog_8_method_14_code 133 = .ok (.iload 5, 2) := by decide +kernel
theorem dM_remove_135 : decode prog_8_method_14_code 135 = .ok (.iadd, 1) := by decide +kernel
theorem dM_remove_136 : decode prog_8_method_14_code 136 = .ok (.aload_n 0, 1) := by decide +kernel
theorem dM_remove_137 : decode prog_8_method_14_code 137 = .ok (.getfield 24, 3) := by decide +kernel
theorem dM_remove_140 : decode prog_8_method_14_code 140 = .ok (.iload 4, 2) := by decide +kernel
theorem dM_remove_142 : decode prog_8_method_14_code 142 = .ok (.iload 5, 2) := by decide +kernel
theorem dM_remove_144 : decode prog_8_method_14_code 144 = .ok (.iadd, 1) := by decide +kernel
theorem dM_remove_145 : decode prog_8_method_14_code 145 = .ok (.iconst 1, 1) := by decide +kernel
theorem dM_remove_146 : decode prog_8_method_14_code 146 = .ok (.iadd, 1) := by decide +kernel
theorem dM_remove_147 : decode prog_8_method_14_code 147 = .ok (.iaload, 1) := by decide +kernel
theorem dM_remove_148 : decode prog_8_method_14_code 148 = .ok (.iastore, 1) := by decide +kernel
theorem dM_remove_149 : decode prog_8_method_14_code 149 = .ok (.iinc 5 1, 3) := by decide +kernel
theorem dM_remove_152 : decode prog_8_method_14_code 152 = .ok (.goto (-33), 3) := by decide +kernel
theorem dM_remove_155 : decode prog_8_method_14_code 155 = .ok (.aload_n 0, 1) := by decide +kernel
theorem dM_remove_156 : decode prog_8_method_14_code 156 = .ok (.getfield 27, 3) := by decide +kernel
theorem dM_remove_159 : decode prog_8_method_14_code 159 = .ok (.iconst 2, 1) := by decide +kernel
theorem dM_remove_160 : decode prog_8_method_14_code 160 = .ok (.aload_n 0, 1) := by decide +kernel
theorem dM_remove_161 : decode prog_8_method_14_code 161 = .ok (.getfield 7, 3) := by decide +kernel
theorem dM_remove_164 : decode prog_8_method_14_code 164 = .ok (.imul, 1) := by decide +kernel
theorem dM_remove_165 : decode prog_8_method_14_code 165 = .ok (.iload_n 1, 1) := by decide +kernel
theorem dM_remove_166 : decode prog_8_method_14_code 166 = .ok (.iadd, 1) := by decide +kernel
theorem dM_remove_167 : decode prog_8_method_14_code 167 = .ok (.bipush 6, 2) := by decide +kernel
theorem dM_remove_169 : decode prog_8_method_14_code 169 = .ok (.isub, 1) := by decide +kernel
theorem dM_remove_170 : decode prog_8_method_14_code 170 = .ok (.dup2, 1) := by decide +kernel
theorem dM_remove_171 : decode prog_8_method_14_code 171 = .ok (.iaload, 1) := by decide +kernel
theorem dM_remove_172 : decode prog_8_method_14_code 172 = .ok (.iconst 1, 1) := by decide +kernel
theorem dM_remove_173 : decode prog_8_method_14_code 173 = .ok (.isub, 1) := by decide +kernel
theorem dM_remove_174 : decode prog_8_method_14_code 174 = .ok (.iastore, 1) := by decide +kernel
theorem dM_remove_175 : decode prog_8_method_14_code 175 = .ok (.aload_n 0, 1) := by decide +kernel
theorem dM_remove_176 : decode prog_8_method_14_code 176 = .ok (.invokevirtual 86, 3) := by decide +kernel
theorem dM_remove_179 : decode prog_8_method_14_code 179 = .ok (.ireturn, 1) := by decide +kernel
theorem dM_isBranch_0 : decode prog_8_method_15_code 0 = .ok (.iload_n 0, 1) := by decide +kernel
theorem dM_isBranch_1 : decode prog_8_method_15_code 1 = .ok (.ifCond .lt 12, 3) := by decide +kernel
theorem dM_isBranch_4 : decode prog_8_method_15_code 4 = .ok (.iload_n 0, 1) := by decide +kernel
theorem dM_isBranch_5 : decode prog_8_method_15_code 5 = .ok (.iconst 3, 1) := by decide +kernel
theorem dM_isBranch_6 : decode prog_8_method_15_code 6 = .ok (.if_icmp .gt 7, 3) := by decide +kernel
theorem dM_isBranch_9 : decode prog_8_method_15_code 9 = .ok (.iconst 1, 1) := by decide +kernel
theorem dM_isBranch_10 : decode prog_8_method_15_code 10 = .ok (.goto 4, 3) := by decide +kernel
theorem dM_isBranch_13 : decode prog_8_method_15_code 13 = .ok (.iconst 0, 1) := by decide +kernel
theorem dM_isBranch_14 : decode prog_8_method_15_code 14 = .ok (.ireturn, 1) := by decide +kernel
theorem dM_isRevision_0 : decode prog_8_method_16_code 0 = .ok (.iload_n 1, 1) := by decide +kernel
theorem dM_isRevision_1 : decode prog_8_method_16_code 1 = .ok (.ifCond .lt 15, 3) := by decide +kernel
theorem dM_isRevision_4 : decode prog_8_method_16_code 4 = .ok (.iload_n 1, 1) := by decide +kernel
theorem dM_isRevision_5 : decode prog_8_method_16_code 5 = .ok (.aload_n 0, 1) := by decide +kernel
theorem dM_isRevision_6 : decode prog_8_method_16_code 6 = .ok (.getfield 7, 3) := by decide +kernel
theorem dM_isRevision_9 : decode prog_8_method_16_code 9 = .ok (.if_icmp .ge 7, 3) := by decide +kernel
theorem dM_isRevision_12 : decode prog_8_method_16_code 12 = .ok (.iconst 1, 1) := by decide +kernel
theorem dM_isRevision_13 : decode prog_8_method_16_code 13 = .ok (.goto 4, 3) := by decide +kernel
theorem dM_isRevision_16 : decode prog_8_method_16_code 16 = .ok (.iconst 0, 1) := by decide +kernel
theorem dM_isRevision_17 : decode prog_8_method_16_code 17 = .ok (.ireturn, 1) := by decide +kernel
theorem dM_point_0 : decode prog_8_method_17_code 0 = .ok (.aload_n 0, 1) := by decide +kernel
theorem dM_point_1 : decode prog_8_method_17_code 1 = .ok (.iload_n 1, 1) := by decide +kernel
theorem dM_point_2 : decode prog_8_method_17_code 2 = .ok (.invokestatic 89, 3) := by decide +kernel
theorem dM_point_5 : decode prog_8_method_17_code 5 = .ok (.ifCond .eq 7, 3) := by decide +kernel
theorem dM_point_8 : decode prog_8_method_17_code 8 = .ok (.iconst 0, 1) := by decide +kernel
theorem dM_point_9 : decode prog_8_method_17_code 9 = .ok (.goto 4, 3) := by decide +kernel
theorem dM_point_12 : decode prog_8_method_17_code 12 = .ok (.iconst 1, 1) := by decide +kernel
theorem dM_point_13 : decode prog_8_method_17_code 13 = .ok (.putfield 57, 3) := by decide +kernel
theorem dM_point_16 : decode prog_8_method_17_code 16 = .ok (.aload_n 0, 1) := by decide +kernel
theorem dM_point_17 : decode prog_8_method_17_code 17 = .ok (.getfield 57, 3) := by decide +kernel
theorem dM_point_20 : decode prog_8_method_17_code 20 = .ok (.ifCond .le 4, 3) := by decide +kernel
theorem dM_point_23 : decode prog_8_method_17_code 23 = .ok (.return_, 1) := by decide +kernel
theorem dM_point_24 : decode prog_8_method_17_code 24 = .ok (.aload_n 0, 1) := by decide +kernel
theorem dM_point_25 : decode prog_8_method_17_code 25 = .ok (.getfield 36, 3) := by decide +kernel
theorem dM_point_28 : decode prog_8_method_17_code 28 = .ok (.iload_n 1, 1) := by decide +kernel
theorem dM_point_29 : decode prog_8_method_17_code 29 = .ok (.aload_n 0, 1) := by decide +kernel
theorem dM_point_30 : decode prog_8_method_17_code 30 = .ok (.invokevirtual 71, 3) := by decide +kernel
theorem dM_point_33 : decode prog_8_method_17_code 33 = .ok (.iastore, 1) := by decide +kernel
theorem dM_point_34 : decode prog_8_method_17_code 34 = .ok (.aload_n 0, 1) := by decide +kernel
theorem dM_point_35 : decode prog_8_method_17_code 35 = .ok (.getfield 42, 3) := by decide +kernel
theorem dM_point_38 : decode prog_8_method_17_code 38 = .ok (.iload_n 1, 1) := by decide +kernel
theorem dM_point_39 : decode prog_8_method_17_code 39 = .ok (.iload_n 1, 1) := by decide +kernel
theorem dM_point_40 : decode prog_8_method_17_code 40 = .ok (.aload_n 0, 1) := by decide +kernel
theorem dM_point_41 : decode prog_8_method_17_code 41 = .ok (.getfield 60, 3) := by decide +kernel
theorem dM_point_44 : decode prog_8_method_17_code 44 = .ok (.if_icmp .ne 12, 3) := by decide +kernel
theorem dM_point_47 : decode prog_8_method_17_code 47 = .ok (.aload_n 0, 1) := by decide +kernel
theorem dM_point_48 : decode prog_8_method_17_code 48 = .ok (.getfield 42, 3) := by decide +kernel
theorem dM_point_51 : decode prog_8_method_17_code 51 = .ok (.iload_n 1, 1) := by decide +kernel
theorem dM_point_52 : decode prog_8_method_17_code 52 = .ok (.iaload, 1) := by decide +kernel
theorem dM_point_53 : decode prog_8_method_17_code 53 = .ok (.goto 4, 3) := by decide +kernel
theorem dM_point_56 : decode prog_8_method_17_code 56 = .ok (.iconst 0, 1) := by decide +kernel
theorem dM_point_57 : decode prog_8_method_17_code 57 = .ok (.iastore, 1) := by decide +kernel
theorem dM_point_58 : decode prog_8_method_17_code 58 = .ok (.return_, 1) := by decide +kernel
theorem dM_turn_0 : decode prog_8_method_18_code 0 = .ok (.aload_n 0, 1) := by decide +kernel
theorem dM_turn_1 : decode prog_8_method_18_code 1 = .ok (.iload_n 1, 1) := by decide +kernel
theorem dM_turn_2 : decode prog_8_method_18_code 2 = .ok (.invokestatic 89, 3) := by decide +kernel
theorem dM_turn_5 : decode prog_8_method_18_code 5 = .ok (.ifCond .eq 7, 3) := by decide +kernel
theorem dM_turn_8 : decode prog_8_method_18_code 8 = .ok (.iconst 0, 1) := by decide +kernel
theorem dM_turn_9 : decode prog_8_method_18_code 9 = .ok (.goto 4, 3) := by decide +kernel
theorem dM_turn_12 : decode prog_8_method_18_code 12 = .ok (.iconst 1, 1) := by decide +kernel
theorem dM_turn_13 : decode prog_8_method_18_code 13 = .ok (.putfield 57, 3) := by decide +kernel
theorem dM_turn_16 : decode prog_8_method_18_code 16 = .ok (.aload_n 0, 1) := by decide +kernel
theorem dM_turn_17 : decode prog_8_method_18_code 17 = .ok (.aload_n 0, 1) := by decide +kernel
theorem dM_turn_18 : decode prog_8_method_18_code 18 = .ok (.getfield 57, 3) := by decide +kernel
theorem dM_turn_21 : decode prog_8_method_18_code 21 = .ok (.ifCond .le 10, 3) := by decide +kernel
theorem dM_turn_24 : decode prog_8_method_18_code 24 = .ok (.aload_n 0, 1) := by decide +kernel
theorem dM_turn_25 : decode prog_8_method_18_code 25 = .ok (.getfield 60, 3) := by decide +kernel
theorem dM_turn_28 : decode prog_8_method_18_code 28 = .ok (.goto 4, 3) := by decide +kernel
theorem dM_turn_31 : decode prog_8_method_18_code 31 = .ok (.iload_n 1, 1) := by decide +kernel
theorem dM_turn_32 : decode prog_8_method_18_code 32 = .ok (.putfield 60, 3) := by decide +kernel
theorem dM_turn_35 : decode prog_8_method_18_code 35 = .ok (.aload_n 0, 1) := by decide +kernel
theorem dM_turn_36 : decode prog_8_method_18_code 36 = .ok (.getfield 57, 3) := by decide +kernel
theorem dM_turn_39 : decode prog_8_method_18_code 39 = .ok (.ifCond .le 7, 3) := by decide +kernel
theorem dM_turn_42 : decode prog_8_method_18_code 42 = .ok (.iconst 0, 1) := by decide +kernel
theorem dM_turn_43 : decode prog_8_method_18_code 43 = .ok (.goto 7, 3) := by decide +kernel
theorem dM_turn_46 : decode prog_8_method_18_code 46 = .ok (.aload_n 0, 1) := by decide +kernel
theorem dM_turn_47 : decode prog_8_method_18_code 47 = .ok (.invokevirtual 71, 3) := by decide +kernel
theorem dM_turn_50 : decode prog_8_method_18_code 50 = .ok (.ireturn, 1) := by decide +kernel
theorem dM_go_0 : decode prog_8_method_19_code 0 = .ok (.aload_n 0, 1) := by decide +kernel
theorem dM_go_1 : decode prog_8_method_19_code 1 = .ok (.aload_n 0, 1) := by decide +kernel
theorem dM_go_2 : decode prog_8_method_19_code 2 = .ok (.iload_n 1, 1) := by decide +kernel
theorem dM_go_3 : decode prog_8_method_19_code 3 = .ok (.invokevirtual 93, 3) := by decide +kernel
theorem dM_go_6 : decode prog_8_method_19_code 6 = .ok (.ifCond .eq 7, 3) := by decide +kernel
theorem dM_go_9 : decode prog_8_method_19_code 9 = .ok (.iconst 0, 1) := by decide +kernel
theorem dM_go_10 : decode prog_8_method_19_code 10 = .ok (.goto 4, 3) := by decide +kernel
theorem dM_go_13 : decode prog_8_method_19_code 13 = .ok (.iconst 1, 1) := by decide +kernel
theorem dM_go_14 : decode prog_8_method_19_code 14 = .ok (.putfield 57, 3) := by decide +kernel
theorem dM_go_17 : decode prog_8_method_19_code 17 = .ok (.aload_n 0, 1) := by decide +kernel
theorem dM_go_18 : decode prog_8_method_19_code 18 = .ok (.getfield 57, 3) := by decide +kernel
theorem dM_go_21 : decode prog_8_method_19_code 21 = .ok (.ifCond .ne 8, 3) := by decide +kernel
theorem dM_go_24 : decode prog_8_method_19_code 24 = .ok (.aload_n 0, 1) := by decide +kernel
theorem dM_go_25 : decode prog_8_method_19_code 25 = .ok (.iload_n 1, 1) := by decide +kernel
theorem dM_go_26 : decode prog_8_method_19_code 26 = .ok (.invokevirtual 67, 3) := by decide +kernel
theorem dM_go_29 : decode prog_8_method_19_code 29 = .ok (.return_, 1) := by decide +kernel
theorem dM_undo_0 : decode prog_8_method_20_code 0 = .ok (.aload_n 0, 1) := by decide +kernel
theorem dM_undo_1 : decode prog_8_method_20_code 1 = .ok (.aload_n 0, 1) := by decide +kernel
theorem dM_undo_2 : decode prog_8_method_20_code 2 = .ok (.invokevirtual 71, 3) := by decide +kernel
theorem dM_undo_5 : decode prog_8_method_20_code 5 = .ok (.ifCond .ne 7, 3) := by decide +kernel
theorem dM_undo_8 : decode prog_8_method_20_code 8 = .ok (.iconst 1, 1) := by decide +kernel
theorem dM_undo_9 : decode prog_8_method_20_code 9 = .ok (.goto 4, 3) := by decide +kernel
theorem dM_undo_12 : decode prog_8_method_20_code 12 = .ok (.iconst 0, 1) := by decide +kernel
theorem dM_undo_13 : decode prog_8_method_20_code 13 = .ok (.putfield 57, 3) := by decide +kernel
theorem dM_undo_16 : decode prog_8_method_20_code 16 = .ok (.aload_n 0, 1) := by decide +kernel
theorem dM_undo_17 : decode prog_8_method_20_code 17 = .ok (.getfield 57, 3) := by decide +kernel
theorem dM_undo_20 : decode prog_8_method_20_code 20 = .ok (.ifCond .le 5, 3) := by decide +kernel
theorem dM_undo_23 : decode prog_8_method_20_code 23 = .ok (.iconst 0, 1) := by decide +kernel
theorem dM_undo_24 : decode prog_8_method_20_code 24 = .ok (.ireturn, 1) := by decide +kernel
theorem dM_undo_25 : decode prog_8_method_20_code 25 = .ok (.aload_n 0, 1) := by decide +kernel
theorem dM_undo_26 : decode prog_8_method_20_code 26 = .ok (.getfield 39, 3) := by decide +kernel
theorem dM_undo_29 : decode prog_8_method_20_code 29 = .ok (.bipush 60, 2) := by decide +kernel
theorem dM_undo_31 : decode prog_8_method_20_code 31 = .ok (.aload_n 0, 1) := by decide +kernel
theorem dM_undo_32 : decode prog_8_method_20_code 32 = .ok (.getfield 60, 3) := by decide +kernel
theorem dM_undo_35 : decode prog_8_method_20_code 35 = .ok (.imul, 1) := by decide +kernel
theorem dM_undo_36 : decode prog_8_method_20_code 36 = .ok (.aload_n 0, 1) := by decide +kernel
theorem dM_undo_37 : decode prog_8_method_20_code 37 = .ok (.getfield 42, 3) := by decide +kernel
theorem dM_undo_40 : decode prog_8_method_20_code 40 = .ok (.aload_n 0, 1) := by decide +kernel
theorem dM_undo_41 : decode prog_8_method_20_code 41 = .ok (.getfield 60, 3) := by decide +kernel
theorem dM_undo_44 : decode prog_8_method_20_code 44 = .ok (.iaload, 1) := by decide +kernel
theorem dM_undo_45 : decode prog_8_method_20_code 45 = .ok (.iadd, 1) := by decide +kernel
theorem dM_undo_46 : decode prog_8_method_20_code 46 = .ok (.aload_n 0, 1) := by decide +kernel
theorem dM_undo_47 : decode prog_8_method_20_code 47 = .ok (.invokevirtual 71, 3) := by decide +kernel
theorem dM_undo_50 : decode prog_8_method_20_code 50 = .ok (.iastore, 1) := by decide +kernel
theorem dM_undo_51 : decode prog_8_method_20_code 51 = .ok (.aload_n 0, 1) := by decide +kernel
theorem dM_undo_52 : decode prog_8_method_20_code 52 = .ok (.getfield 42, 3) := by decide +kernel
theorem dM_undo_55 : decode prog_8_method_20_code 55 = .ok (.aload_n 0, 1) := by decide +kernel
theorem dM_undo_56 : decode prog_8_method_20_code 56 = .ok (.getfield 60, 3) := by decide +kernel
theorem dM_undo_59 : decode prog_8_method_20_code 59 = .ok (.dup2, 1) := by decide +kernel
theorem dM_undo_60 : decode prog_8_method_20_code 60 = .ok (.iaload, 1) := by decide +kernel
theorem dM_undo_61 : decode prog_8_method_20_code 61 = .ok (.iconst 1, 1) := by decide +kernel
theorem dM_undo_62 : decode prog_8_method_20_code 62 = .ok (.iadd, 1) := by decide +kernel
theorem dM_undo_63 : decode prog_8_method_20_code 63 = .ok (.iastore, 1) := by decide +kernel
theorem dM_undo_64 : decode prog_8_method_20_code 64 = .ok (.aload_n 0, 1) := by decide +kernel
theorem dM_undo_65 : decode prog_8_method_20_code 65 = .ok (.getfield 36, 3) := by decide +kernel
theorem dM_undo_68 : decode prog_8_method_20_code 68 = .ok (.aload_n 0, 1) := by decide +kernel
theorem dM_undo_69 : decode prog_8_method_20_code 69 = .ok (.getfield 60, 3) := by decide +kernel
theorem dM_undo_72 : decode prog_8_method_20_code 72 = .ok (.aload_n 0, 1) := by decide +kernel
theorem dM_undo_73 : decode prog_8_method_20_code 73 = .ok (.getfield 30, 3) := by decide +kernel
theorem dM_undo_76 : decode prog_8_method_20_code 76 = .ok (.aload_n 0, 1) := by decide +kernel
theorem dM_undo_77 : decode prog_8_method_20_code 77 = .ok (.invokevirtual 71, 3) := by decide +kernel
theorem dM_undo_80 : decode prog_8_method_20_code 80 = .ok (.iaload, 1) := by decide +kernel
theorem dM_undo_81 : decode prog_8_method_20_code 81 = .ok (.iastore, 1) := by decide +kernel
theorem dM_undo_82 : decode prog_8_method_20_code 82 = .ok (.aload_n 0, 1) := by decide +kernel
theorem dM_undo_83 : decode prog_8_method_20_code 83 = .ok (.invokevirtual 71, 3) := by decide +kernel
theorem dM_undo_86 : decode prog_8_method_20_code 86 = .ok (.ireturn, 1) := by decide +kernel
theorem dM_redo_0 : decode prog_8_method_21_code 0 = .ok (.aload_n 0, 1) := by decide +kernel
theorem dM_redo_1 : decode prog_8_method_21_code 1 = .ok (.aload_n 0, 1) := by decide +kernel
theorem dM_redo_2 : decode prog_8_method_21_code 2 = .ok (.getfield 42, 3) := by decide +kernel
theorem dM_redo_5 : decode prog_8_method_21_code 5 = .ok (.aload_n 0, 1) := by decide +kernel
theorem dM_redo_6 : decode prog_8_method_21_code 6 = .ok (.getfield 60, 3) := by decide +kernel
theorem dM_redo_9 : decode prog_8_method_21_code 9 = .ok (.iaload, 1) := by decide +kernel
theorem dM_redo_10 : decode prog_8_method_21_code 10 = .ok (.ifCond .ne 7, 3) := by decide +kernel
theorem dM_redo_13 : decode prog_8_method_21_code 13 = .ok (.iconst 1, 1) := by decide +kernel
theorem dM_redo_14 : decode prog_8_method_21_code 14 = .ok (.goto 4, 3) := by decide +kernel
theorem dM_redo_17 : decode prog_8_method_21_code 17 = .ok (.iconst 0, 1) := by decide +kernel
theorem dM_redo_18 : decode prog_8_method_21_code 18 = .ok (.putfield 57, 3) := by decide +kernel
theorem dM_redo_21 : decode prog_8_method_21_code 21 = .ok (.aload_n 0, 1) := by decide +kernel
theorem dM_redo_22 : decode prog_8_method_21_code 22 = .ok (.getfield 57, 3) := by decide +kernel
theorem dM_redo_25 : decode prog_8_method_21_code 25 = .ok (.ifCond .le 5, 3) := by decide +kernel
theorem dM_redo_28 : decode prog_8_method_21_code 28 = .ok (.iconst 0, 1) := by decide +kernel
theorem dM_redo_29 : decode prog_8_method_21_code 29 = .ok (.ireturn, 1) := by decide +kernel
theorem dM_redo_30 : decode prog_8_method_21_code 30 = .ok (.aload_n 0, 1) := by decide +kernel
theorem dM_redo_31 : decode prog_8_method_21_code 31 = .ok (.getfield 42, 3) := by decide +kernel
theorem dM_redo_34 : decode prog_8_method_21_code 34 = .ok (.aload_n 0, 1) := by decide +kernel
theorem dM_redo_35 : decode prog_8_method_21_code 35 = .ok (.getfield 60, 3) := by decide +kernel
theorem dM_redo_38 : decode prog_8_method_21_code 38 = .ok (.dup2, 1) := by decide +kernel
theorem dM_redo_39 : decode prog_8_method_21_code 39 = .ok (.iaload, 1) := by decide +kernel
theorem dM_redo_40 : decode prog_8_method_21_code 40 = .ok (.iconst 1, 1) := by decide +kernel
theorem dM_redo_41 : decode prog_8_method_21_code 41 = .ok (.isub, 1) := by decide +kernel
theorem dM_redo_42 : decode prog_8_method_21_code 42 = .ok (.iastore, 1) := by decide +kernel
theorem dM_redo_43 : decode prog_8_method_21_code 43 = .ok (.aload_n 0, 1) := by decide +kernel
theorem dM_redo_44 : decode prog_8_method_21_code 44 = .ok (.getfield 36, 3) := by decide +kernel
theorem dM_redo_47 : decode prog_8_method_21_code 47 = .ok (.aload_n 0, 1) := by decide +kernel
theorem dM_redo_48 : decode prog_8_method_21_code 48 = .ok (.getfield 60, 3) := by decide +kernel
theorem dM_redo_51 : decode prog_8_method_21_code 51 = .ok (.aload_n 0, 1) := by decide +kernel
theorem dM_redo_52 : decode prog_8_method_21_code 52 = .ok (.getfield 39, 3) := by decide +kernel
theorem dM_redo_55 : decode prog_8_method_21_code 55 = .ok (.bipush 60, 2) := by decide +kernel
theorem dM_redo_57 : decode prog_8_method_21_code 57 = .ok (.aload_n 0, 1) := by decide +kernel
theorem dM_redo_58 : decode prog_8_method_21_code 58 = .ok (.getfield 60, 3) := by decide +kernel
theorem dM_redo_61 : decode prog_8_method_21_code 61 = .ok (.imul, 1) := by decide +kernel
theorem dM_redo_62 : decode prog_8_method_21_code 62 = .ok (.aload_n 0, 1) := by decide +kernel
theorem dM_redo_63 : decode prog_8_method_21_code 63 = .ok (.getfield 42, 3) := by decide +kernel
theorem dM_redo_66 : decode prog_8_method_21_code 66 = .ok (.aload_n 0, 1) := by decide +kernel
theorem dM_redo_67 : decode prog_8_method_21_code 67 = .ok (.getfield 60, 3) := by decide +kernel
theorem dM_redo_70 : decode prog_8_method_21_code 70 = .ok (.iaload, 1) := by decide +kernel
theorem dM_redo_71 : decode prog_8_method_21_code 71 = .ok (.iadd, 1) := by decide +kernel
theorem dM_redo_72 : decode prog_8_method_21_code 72 = .ok (.iaload, 1) := by decide +kernel
theorem dM_redo_73 : decode prog_8_method_21_code 73 = .ok (.iastore, 1) := by decide +kernel
theorem dM_redo_74 : decode prog_8_method_21_code 74 = .ok (.aload_n 0, 1) := by decide +kernel
theorem dM_redo_75 : decode prog_8_method_21_code 75 = .ok (.invokevirtual 71, 3) := by decide +kernel
theorem dM_redo_78 : decode prog_8_method_21_code 78 = .ok (.ireturn, 1) := by decide +kernel
theorem dM_ancestors_0 : decode prog_8_method_22_code 0 = .ok (.lload_n 1, 1) := by decide +kernel
theorem dM_ancestors_1 : decode prog_8_method_22_code 1 = .ok (.lstore_n 3, 1) := by decide +kernel
theorem dM_ancestors_2 : decode prog_8_method_22_code 2 = .ok (.bipush 59, 2) := by decide +kernel
theorem dM_ancestors_4 : decode prog_8_method_22_code 4 = .ok (.istore 5, 2) := by decide +kernel
theorem dM_ancestors_6 : decode prog_8_method_22_code 6 = .ok (.iload 5, 2) := by decide +kernel
theorem dM_ancestors_8 : decode prog_8_method_22_code 8 = .ok (.ifCond .lt 72, 3) := by decide +kernel
theorem dM_ancestors_11 : decode prog_8_method_22_code 11 = .ok (.lload_n 3, 1) := by decide +kernel
theorem dM_ancestors_12 : decode prog_8_method_22_code 12 = .ok (.iload 5, 2) := by decide +kernel
theorem dM_ancestors_14 : decode prog_8_method_22_code 14 = .ok (.lshr, 1) := by decide +kernel
theorem dM_ancestors_15 : decode prog_8_method_22_code 15 = .ok (.lconst 1, 1) := by decide +kernel
theorem dM_ancestors_16 : decode prog_8_method_22_code 16 = .ok (.land, 1) := by decide +kernel
theorem dM_ancestors_17 : decode prog_8_method_22_code 17 = .ok (.lconst 1, 1) := by decide +kernel
theorem dM_ancestors_18 : decode prog_8_method_22_code 18 = .ok (.lcmp, 1) := by decide +kernel
theorem dM_ancestors_19 : decode prog_8_method_22_code 19 = .ok (.ifCond .ne 55, 3) := by decide +kernel
theorem dM_ancestors_22 : decode prog_8_method_22_code 22 = .ok (.lload_n 3, 1) := by decide +kernel
theorem dM_ancestors_23 : decode prog_8_method_22_code 23 = .ok (.aload_n 0, 1) := by decide +kernel
theorem dM_ancestors_24 : decode prog_8_method_22_code 24 = .ok (.getfield 30, 3) := by decide +kernel
theorem dM_ancestors_27 : decode prog_8_method_22_code 27 = .ok (.iload 5, 2) := by decide +kernel
theorem dM_ancestors_29 : decode prog_8_method_22_code 29 = .ok (.iaload, 1) := by decide +kernel
theorem dM_ancestors_30 : decode prog_8_method_22_code 30 = .ok (.ifCond .ge 7, 3) := by decide +kernel
theorem dM_ancestors_33 : decode prog_8_method_22_code 33 = .ok (.lconst 0, 1) := by decide +kernel
theorem dM_ancestors_34 : decode prog_8_method_22_code 34 = .ok (.goto 12, 3) := by decide +kernel
theorem dM_ancestors_37 : decode prog_8_method_22_code 37 = .ok (.lconst 1, 1) := by decide +kernel
theorem dM_ancestors_38 : decode prog_8_method_22_code 38 = .ok (.aload_n 0, 1) := by decide +kernel
theorem dM_ancestors_39 : decode prog_8_method_22_code 39 = .ok (.getfield 30, 3) := by decide +kernel
theorem dM_ancestors_42 : decode prog_8_method_22_code 42 = .ok (.iload 5, 2) := by decide +kernel
theorem dM_ancestors_44 : decode prog_8_method_22_code 44 = .ok (.iaload, 1) := by decide +kernel
theorem dM_ancestors_45 : decode prog_8_method_22_code 45 = .ok (.lshl, 1) := by decide +kernel
theorem dM_ancestors_46 : decode prog_8_method_22_code 46 = .ok (.lor, 1) := by decide +kernel
theorem dM_ancestors_47 : decode prog_8_method_22_code 47 = .ok (.lstore_n 3, 1) := by decide +kernel
theorem dM_ancestors_48 : decode prog_8_method_22_code 48 = .ok (.lload_n 3, 1) := by decide +kernel
theorem dM_ancestors_49 : decode prog_8_method_22_code 49 = .ok (.aload_n 0, 1) := by decide +kernel
theorem dM_ancestors_50 : decode prog_8_method_22_code 50 = .ok (.getfield 33, 3) := by decide +kernel
theorem dM_ancestors_53 : decode prog_8_method_22_code 53 = .ok (.iload 5, 2) := by decide +kernel
theorem dM_ancestors_55 : decode prog_8_method_22_code 55 = .ok (.iaload, 1) := by decide +kernel
theorem dM_ancestors_56 : decode prog_8_method_22_code 56 = .ok (.ifCond .ge 7, 3) := by decide +kernel
theorem dM_ancestors_59 : decode prog_8_method_22_code 59 = .ok (.lconst 0, 1) := by decide +kernel
theorem dM_ancestors_60 : decode prog_8_method_22_code 60 = .ok (.goto 12, 3) := by decide +kernel
theorem dM_ancestors_63 : decode prog_8_method_22_code 63 = .ok (.lconst 1, 1) := by decide +kernel
theorem dM_ancestors_64 : decode prog_8_method_22_code 64 = .ok (.aload_n 0, 1) := by decide +kernel
theorem dM_ancestors_65 : decode prog_8_method_22_code 65 = .ok (.getfield 33, 3) := by decide +kernel
theorem dM_ancestors_68 : decode prog_8_method_22_code 68 = .ok (.iload 5, 2) := by decide +kernel
theorem dM_ancestors_70 : decode prog_8_method_22_code 70 = .ok (.iaload, 1) := by decide +kernel
theorem dM_ancestors_71 : decode prog_8_method_22_code 71 = .ok (.lshl, 1) := by decide +kernel
theorem dM_ancestors_72 : decode prog_8_method_22_code 72 = .ok (.lor, 1) := by decide +kernel
theorem dM_ancestors_73 : decode prog_8_method_22_code 73 = .ok (.lstore_n 3, 1) := by decide +kernel
theorem dM_ancestors_74 : decode prog_8_method_22_code 74 = .ok (.iinc 5 (-1), 3) := by decide +kernel
theorem dM_ancestors_77 : decode prog_8_method_22_code 77 = .ok (.goto (-71), 3) := by decide +kernel
theorem dM_ancestors_80 : decode prog_8_method_22_code 80 = .ok (.lload_n 3, 1) := by decide +kernel
theorem dM_ancestors_81 : decode prog_8_method_22_code 81 = .ok (.lreturn, 1) := by decide +kernel
theorem dM_baseOf_0 : decode prog_8_method_23_code 0 = .ok (.aload_n 0, 1) := by decide +kernel
theorem dM_baseOf_1 : decode prog_8_method_23_code 1 = .ok (.lconst 1, 1) := by decide +kernel
theorem dM_baseOf_2 : decode prog_8_method_23_code 2 = .ok (.iload_n 1, 1) := by decide +kernel
theorem dM_baseOf_3 : decode prog_8_method_23_code 3 = .ok (.lshl, 1) := by decide +kernel
theorem dM_baseOf_4 : decode prog_8_method_23_code 4 = .ok (.invokevirtual 96, 3) := by decide +kernel
theorem dM_baseOf_7 : decode prog_8_method_23_code 7 = .ok (.aload_n 0, 1) := by decide +kernel
theorem dM_baseOf_8 : decode prog_8_method_23_code 8 = .ok (.lconst 1, 1) := by decide +kernel
theorem dM_baseOf_9 : decode prog_8_method_23_code 9 = .ok (.iload_n 2, 1) := by decide +kernel
theorem dM_baseOf_10 : decode prog_8_method_23_code 10 = .ok (.lshl, 1) := by decide +kernel
theorem dM_baseOf_11 : decode prog_8_method_23_code 11 = .ok (.invokevirtual 96, 3) := by decide +kernel
theorem dM_baseOf_14 : decode prog_8_method_23_code 14 = .ok (.land, 1) := by decide +kernel
theorem dM_baseOf_15 : decode prog_8_method_23_code 15 = .ok (.lstore_n 3, 1) := by decide +kernel
theorem dM_baseOf_16 : decode prog_8_method_23_code 16 = .ok (.bipush 59, 2) := by decide +kernel
theorem dM_baseOf_18 : decode prog_8_method_23_code 18 = .ok (.istore 5, 2) := by decide +kernel
theorem dM_baseOf_20 : decode prog_8_method_23_code 20 = .ok (.lload_n 3, 1) := by decide +kernel
theorem dM_baseOf_21 : decode prog_8_method_23_code 21 = .ok (.iload 5, 2) := by decide +kernel
theorem dM_baseOf_23 : decode prog_8_method_23_code 23 = .ok (.lshr, 1) := by decide +kernel
theorem dM_baseOf_24 : decode prog_8_method_23_code 24 = .ok (.lconst 1, 1) := by decide +kernel
theorem dM_baseOf_25 : decode prog_8_method_23_code 25 = .ok (.land, 1) := by decide +kernel
theorem dM_baseOf_26 : decode prog_8_method_23_code 26 = .ok (.lconst 0, 1) := by decide +kernel
theorem dM_baseOf_27 : decode prog_8_method_23_code 27 = .ok (.lcmp, 1) := by decide +kernel
theorem dM_baseOf_28 : decode prog_8_method_23_code 28 = .ok (.ifCond .ne 9, 3) := by decide +kernel
theorem dM_baseOf_31 : decode prog_8_method_23_code 31 = .ok (.iinc 5 (-1), 3) := by decide +kernel
theorem dM_baseOf_34 : decode prog_8_method_23_code 34 = .ok (.goto (-14), 3) := by decide +kernel
theorem dM_baseOf_37 : decode prog_8_method_23_code 37 = .ok (.iload 5, 2) := by decide +kernel
theorem dM_baseOf_39 : decode prog_8_method_23_code 39 = .ok (.ireturn, 1) := by decide +kernel
theorem dM_choice_0 : decode prog_8_method_24_code 0 = .ok (.iload_n 0, 1) := by decide +kernel
theorem dM_choice_1 : decode prog_8_method_24_code 1 = .ok (.ifCond .ne 15, 3) := by decide +kernel
theorem dM_choice_4 : decode prog_8_method_24_code 4 = .ok (.iload_n 1, 1) := by decide +kernel
theorem dM_choice_5 : decode prog_8_method_24_code 5 = .ok (.ifCond .ne 11, 3) := by decide +kernel
theorem dM_choice_8 : decode prog_8_method_24_code 8 = .ok (.iload_n 2, 1) := by decide +kernel
theorem dM_choice_9 : decode prog_8_method_24_code 9 = .ok (.ifCond .ne 7, 3) := by decide +kernel
theorem dM_choice_12 : decode prog_8_method_24_code 12 = .ok (.iconst 3, 1) := by decide +kernel
theorem dM_choice_13 : decode prog_8_method_24_code 13 = .ok (.goto 20, 3) := by decide +kernel
theorem dM_choice_16 : decode prog_8_method_24_code 16 = .ok (.iload_n 0, 1) := by decide +kernel
theorem dM_choice_17 : decode prog_8_method_24_code 17 = .ok (.ifCond .ne 7, 3) := by decide +kernel
theorem dM_choice_20 : decode prog_8_method_24_code 20 = .ok (.iconst 1, 1) := by decide +kernel
theorem dM_choice_21 : decode prog_8_method_24_code 21 = .ok (.goto 12, 3) := by decide +kernel
theorem dM_choice_24 : decode prog_8_method_24_code 24 = .ok (.iload_n 1, 1) := by decide +kernel
theorem dM_choice_25 : decode prog_8_method_24_code 25 = .ok (.ifCond .ne 7, 3) := by decide +kernel
theorem dM_choice_28 : decode prog_8_method_24_code 28 = .ok (.iconst 2, 1) := by decide +kernel
theorem dM_choice_29 : decode prog_8_method_24_code 29 = .ok (.goto 4, 3) := by decide +kernel
theorem dM_choice_32 : decode prog_8_method_24_code 32 = .ok (.iconst 0, 1) := by decide +kernel
theorem dM_choice_33 : decode prog_8_method_24_code 33 = .ok (.ireturn, 1) := by decide +kernel
theorem dM_mergeNumber_0 : decode prog_8_method_25_code 0 = .ok (.aload_n 0, 1) := by decide +kernel
theorem dM_mergeNumber_1 : decode prog_8_method_25_code 1 = .ok (.getfield 13, 3) := by decide +kernel
theorem dM_mergeNumber_4 : decode prog_8_method_25_code 4 = .ok (.iconst 2, 1) := by decide +kernel
theorem dM_mergeNumber_5 : decode prog_8_method_25_code 5 = .ok (.iload_n 2, 1) := by decide +kernel
theorem dM_mergeNumber_6 : decode prog_8_method_25_code 6 = .ok (.imul, 1) := by decide +kernel
theorem dM_mergeNumber_7 : decode prog_8_method_25_code 7 = .ok (.iload_n 1, 1) := by decide +kernel
theorem dM_mergeNumber_8 : decode prog_8_method_25_code 8 = .ok (.iadd, 1) := by decide +kernel
theorem dM_mergeNumber_9 : decode prog_8_method_25_code 9 = .ok (.iaload, 1) := by decide +kernel
theorem dM_mergeNumber_10 : decode prog_8_method_25_code 10 = .ok (.aload_n 0, 1) := by decide +kernel
theorem dM_mergeNumber_11 : decode prog_8_method_25_code 11 = .ok (.getfield 13, 3) := by decide +kernel
theorem dM_mergeNumber_14 : decode prog_8_method_25_code 14 = .ok (.iconst 2, 1) := by decide +kernel
theorem dM_mergeNumber_15 : decode prog_8_method_25_code 15 = .ok (.iload_n 3, 1) := by decide +kernel
theorem dM_mergeNumber_16 : decode prog_8_method_25_code 16 = .ok (.imul, 1) := by decide +kernel
theorem dM_mergeNumber_17 : decode prog_8_method_25_code 17 = .ok (.iload_n 1, 1) := by decide +kernel
theorem dM_mergeNumber_18 : decode prog_8_method_25_code 18 = .ok (.iadd, 1) := by decide +kernel
theorem dM_mergeNumber_19 : decode prog_8_method_25_code 19 = .ok (.iaload, 1) := by decide +kernel
theorem dM_mergeNumber_20 : decode prog_8_method_25_code 20 = .ok (.if_icmp .ne 7, 3) := by decide +kernel
theorem dM_mergeNumber_23 : decode prog_8_method_25_code 23 = .ok (.iconst 1, 1) := by decide +kernel
theorem dM_mergeNumber_24 : decode prog_8_method_25_code 24 = .ok (.goto 4, 3) := by decide +kernel
theorem dM_mergeNumber_27 : decode prog_8_method_25_code 27 = .ok (.iconst 0, 1) := by decide +kernel
theorem dM_mergeNumber_28 : decode prog_8_method_25_code 28 = .ok (.aload_n 0, 1) := by decide +kernel
theorem dM_mergeNumber_29 : decode prog_8_method_25_code 29 = .ok (.getfield 13, 3) := by decide +kernel
theorem dM_mergeNumber_32 : decode prog_8_method_25_code 32 = .ok (.iconst 2, 1) := by decide +kernel
theorem dM_mergeNumber_33 : decode prog_8_method_25_code 33 = .ok (.iload_n 2, 1) := by decide +kernel
theorem dM_mergeNumber_34 : decode prog_8_method_25_code 34 = .ok (.imul, 1) := by decide +kernel
theorem dM_mergeNumber_35 : decode prog_8_method_25_code 35 = .ok (.iload_n 1, 1) := by decide +kernel
theorem dM_mergeNumber_36 : decode prog_8_method_25_code 36 = .ok (.iadd, 1) := by decide +kernel
theorem dM_mergeNumber_37 : decode prog_8_method_25_code 37 = .ok (.iaload, 1) := by decide +kernel
theorem dM_mergeNumber_38 : decode prog_8_method_25_code 38 = .ok (.aload_n 0, 1) := by decide +kernel
theorem dM_mergeNumber_39 : decode prog_8_method_25_code 39 = .ok (.getfield 13, 3) := by decide +kernel
theorem dM_mergeNumber_42 : decode prog_8_method_25_code 42 = .ok (.iconst 2, 1) := by decide +kernel
theorem dM_mergeNumber_43 : decode prog_8_method_25_code 43 = .ok (.iload 4, 2) := by decide +kernel
theorem dM_mergeNumber_45 : decode prog_8_method_25_code 45 = .ok (.imul, 1) := by decide +kernel
theorem dM_mergeNumber_46 : decode prog_8_method_25_code 46 = .ok (.iload_n 1, 1) := by decide +kernel
theorem dM_mergeNumber_47 : decode prog_8_method_25_code 47 = .ok (.iadd, 1) := by decide +kernel
theorem dM_mergeNumber_48 : decode prog_8_method_25_code 48 = .ok (.iaload, 1) := by decide +kernel
theorem dM_mergeNumber_49 : decode prog_8_method_25_code 49 = .ok (.if_icmp .ne 7, 3) := by decide +kernel
theorem dM_mergeNumber_52 : decode prog_8_method_25_code 52 = .ok (.iconst 1, 1) := by decide +kernel
theorem dM_mergeNumber_53 : decode prog_8_method_25_code 53 = .ok (.goto 4, 3) := by decide +kernel
theorem dM_mergeNumber_56 : decode prog_8_method_25_code 56 = .ok (.iconst 0, 1) := by decide +kernel
theorem dM_mergeNumber_57 : decode prog_8_method_25_code 57 = .ok (.aload_n 0, 1) := by decide +kernel
theorem dM_mergeNumber_58 : decode prog_8_method_25_code 58 = .ok (.getfield 13, 3) := by decide +kernel
theorem dM_mergeNumber_61 : decode prog_8_method_25_code 61 = .ok (.iconst 2, 1) := by decide +kernel
theorem dM_mergeNumber_62 : decode prog_8_method_25_code 62 = .ok (.iload_n 3, 1) := by decide +kernel
theorem dM_mergeNumber_63 : decode prog_8_method_25_code 63 = .ok (.imul, 1) := by decide +kernel
theorem dM_mergeNumber_64 : decode prog_8_method_25_code 64 = .ok (.iload_n 1, 1) := by decide +kernel
theorem dM_mergeNumber_65 : decode prog_8_method_25_code 65 = .ok (.iadd, 1) := by decide +kernel
theorem dM_mergeNumber_66 : decode prog_8_method_25_code 66 = .ok (.iaload, 1) := by decide +kernel
theorem dM_mergeNumber_67 : decode prog_8_method_25_code 67 = .ok (.aload_n 0, 1) := by decide +kernel
theorem dM_mergeNumber_68 : decode prog_8_method_25_code 68 = .ok (.getfield 13, 3) := by decide +kernel
theorem dM_mergeNumber_71 : decode prog_8_method_25_code 71 = .ok (.iconst 2, 1) := by decide +kernel
theorem dM_mergeNumber_72 : decode prog_8_method_25_code 72 = .ok (.iload 4, 2) := by decide +kernel
theorem dM_mergeNumber_74 : decode prog_8_method_25_code 74 = .ok (.imul, 1) := by decide +kernel
theorem dM_mergeNumber_75 : decode prog_8_method_25_code 75 = .ok (.iload_n 1, 1) := by decide +kernel
theorem dM_mergeNumber_76 : decode prog_8_method_25_code 76 = .ok (.iadd, 1) := by decide +kernel
theorem dM_mergeNumber_77 : decode prog_8_method_25_code 77 = .ok (.iaload, 1) := by decide +kernel
theorem dM_mergeNumber_78 : decode prog_8_method_25_code 78 = .ok (.if_icmp .ne 7, 3) := by decide +kernel
theorem dM_mergeNumber_81 : decode prog_8_method_25_code 81 = .ok (.iconst 1, 1) := by decide +kernel
theorem dM_mergeNumber_82 : decode prog_8_method_25_code 82 = .ok (.goto 4, 3) := by decide +kernel
theorem dM_mergeNumber_85 : decode prog_8_method_25_code 85 = .ok (.iconst 0, 1) := by decide +kernel
theorem dM_mergeNumber_86 : decode prog_8_method_25_code 86 = .ok (.invokestatic 100, 3) := by decide +kernel
theorem dM_mergeNumber_89 : decode prog_8_method_25_code 89 = .ok (.istore 6, 2) := by decide +kernel
theorem dM_mergeNumber_91 : decode prog_8_method_25_code 91 = .ok (.aload_n 0, 1) := by decide +kernel
theorem dM_mergeNumber_92 : decode prog_8_method_25_code 92 = .ok (.dup, 1) := by decide +kernel
theorem dM_mergeNumber_93 : decode prog_8_method_25_code 93 = .ok (.getfield 104, 3) := by decide +kernel
theorem dM_mergeNumber_96 : decode prog_8_method_25_code 96 = .ok (.iload 6, 2) := by decide +kernel
theorem dM_mergeNumber_98 : decode prog_8_method_25_code 98 = .ok (.iconst 3, 1) := by decide +kernel
theorem dM_mergeNumber_99 : decode prog_8_method_25_code 99 = .ok (.if_icmp .ne 9, 3) := by decide +kernel
theorem dM_mergeNumber_102 : decode prog_8_method_25_code 102 = .ok (.iconst 1, 1) := by decide +kernel
theorem dM_mergeNumber_103 : decode prog_8_method_25_code 103 = .ok (.iload_n 1, 1) := by decide +kernel
theorem dM_mergeNumber_104 : decode prog_8_method_25_code 104 = .ok (.ishl, 1) := by decide +kernel
theorem dM_mergeNumber_105 : decode prog_8_method_25_code 105 = .ok (.goto 4, 3) := by decide +kernel
theorem dM_mergeNumber_108 : decode prog_8_method_25_code 108 = .ok (.iconst 0, 1) := by decide +kernel
theorem dM_mergeNumber_109 : decode prog_8_method_25_code 109 = .ok (.ior, 1) := by decide +kernel
theorem dM_mergeNumber_110 : decode prog_8_method_25_code 110 = .ok (.putfield 104, 3) := by decide +kernel
theorem dM_mergeNumber_113 : decode prog_8_method_25_code 113 = .ok (.iload 6, 2) := by decide +kernel
theorem dM_mergeNumber_115 : decode prog_8_method_25_code 115 = .ok (.iconst 3, 1) := by decide +kernel
theorem dM_mergeNumber_116 : decode prog_8_method_25_code 116 = .ok (.if_icmp .ne 18, 3) := by decide +kernel
theorem dM_mergeNumber_119 : decode prog_8_method_25_code 119 = .ok (.iload 5, 2) := by decide +kernel
theorem dM_mergeNumber_121 : decode prog_8_method_25_code 121 = .ok (.iconst 2, 1) := by decide +kernel
theorem dM_mergeNumber_122 : decode prog_8_method_25_code 122 = .ok (.if_icmp .ne 8, 3) := by decide +kernel
theorem dM_mergeNumber_125 : decode prog_8_method_25_code 125 = .ok (.iload 4, 2) := by decide +kernel
theorem dM_mergeNumber_127 : decode prog_8_method_25_code 127 = .ok (.goto 29, 3) := by decide +kernel
theorem dM_mergeNumber_130 : decode prog_8_method_25_code 130 = .ok (.iload_n 3, 1) := by decide +kernel
theorem dM_mergeNumber_131 : decode prog_8_method_25_code 131 = .ok (.goto 25, 3) := by decide +kernel
theorem dM_mergeNumber_134 : decode prog_8_method_25_code 134 = .ok (.iload 6, 2) := by decide +kernel
theorem dM_mergeNumber_136 : decode prog_8_method_25_code 136 = .ok (.iconst 1, 1) := by decide +kernel
theorem dM_mergeNumber_137 : decode prog_8_method_25_code 137 = .ok (.if_icmp .ne 7, 3) := by decide +kernel
theorem dM_mergeNumber_140 : decode prog_8_method_25_code 140 = .ok (.iload_n 3, 1) := by decide +kernel
theorem dM_mergeNumber_141 : decode prog_8_method_25_code 141 = .ok (.goto 15, 3) := by decide +kernel
theorem dM_mergeNumber_144 : decode prog_8_method_25_code 144 = .ok (.iload 6, 2) := by decide +kernel
theorem dM_mergeNumber_146 : decode prog_8_method_25_code 146 = .ok (.iconst 2, 1) := by decide +kernel
theorem dM_mergeNumber_147 : decode prog_8_method_25_code 147 = .ok (.if_icmp .ne 8, 3) := by decide +kernel
theorem dM_mergeNumber_150 : decode prog_8_method_25_code 150 = .ok (.iload 4, 2) := by decide +kernel
theorem dM_mergeNumber_152 : decode prog_8_method_25_code 152 = .ok (.goto 4, 3) := by decide +kernel
theorem dM_mergeNumber_155 : decode prog_8_method_25_code 155 = .ok (.iload_n 2, 1) := by decide +kernel
theorem dM_mergeNumber_156 : decode prog_8_method_25_code 156 = .ok (.istore 7, 2) := by decide +kernel
theorem dM_mergeNumber_158 : decode prog_8_method_25_code 158 = .ok (.aload_n 0, 1) := by decide +kernel
theorem dM_mergeNumber_159 : decode prog_8_method_25_code 159 = .ok (.getfield 13, 3) := by decide +kernel
theorem dM_mergeNumber_162 : decode prog_8_method_25_code 162 = .ok (.iconst 2, 1) := by decide +kernel
theorem dM_mergeNumber_163 : decode prog_8_method_25_code 163 = .ok (.aload_n 0, 1) := by decide +kernel
theorem dM_mergeNumber_164 : decode prog_8_method_25_code 164 = .ok (.getfield 7, 3) := by decide +kernel
theorem dM_mergeNumber_167 : decode prog_8_method_25_code 167 = .ok (.imul, 1) := by decide +kernel
theorem dM_mergeNumber_168 : decode prog_8_method_25_code 168 = .ok (.iload_n 1, 1) := by decide +kernel
theorem dM_mergeNumber_169 : decode prog_8_method_25_code 169 = .ok (.iadd, 1) := by decide +kernel
theorem dM_mergeNumber_170 : decode prog_8_method_25_code 170 = .ok (.aload_n 0, 1) := by decide +kernel
theorem dM_mergeNumber_171 : decode prog_8_method_25_code 171 = .ok (.getfield 13, 3) := by decide +kernel
theorem dM_mergeNumber_174 : decode prog_8_method_25_code 174 = .ok (.iconst 2, 1) := by decide +kernel
theorem dM_mergeNumber_175 : decode prog_8_method_25_code 175 = .ok (.iload 7, 2) := by decide +kernel
theorem dM_mergeNumber_177 : decode prog_8_method_25_code 177 = .ok (.imul, 1) := by decide +kernel
theorem dM_mergeNumber_178 : decode prog_8_method_25_code 178 = .ok (.iload_n 1, 1) := by decide +kernel
theorem dM_mergeNumber_179 : decode prog_8_method_25_code 179 = .ok (.iadd, 1) := by decide +kernel
theorem dM_mergeNumber_180 : decode prog_8_method_25_code 180 = .ok (.iaload, 1) := by decide +kernel
theorem dM_mergeNumber_181 : decode prog_8_method_25_code 181 = .ok (.iastore, 1) := by decide +kernel
theorem dM_mergeNumber_182 : decode prog_8_method_25_code 182 = .ok (.return_, 1) := by decide +kernel
theorem dM_at_0 : decode prog_8_method_26_code 0 = .ok (.aload_n 0, 1) := by decide +kernel
theorem dM_at_1 : decode prog_8_method_26_code 1 = .ok (.getfield 24, 3) := by decide +kernel
theorem dM_at_4 : decode prog_8_method_26_code 4 = .ok (.bipush 16, 2) := by decide +kernel
theorem dM_at_6 : decode prog_8_method_26_code 6 = .ok (.iload_n 1, 1) := by decide +kernel
theorem dM_at_7 : decode prog_8_method_26_code 7 = .ok (.imul, 1) := by decide +kernel
theorem dM_at_8 : decode prog_8_method_26_code 8 = .ok (.bipush 8, 2) := by decide +kernel
theorem dM_at_10 : decode prog_8_method_26_code 10 = .ok (.iload_n 2, 1) := by decide +kernel
theorem dM_at_11 : decode prog_8_method_26_code 11 = .ok (.imul, 1) := by decide +kernel
theorem dM_at_12 : decode prog_8_method_26_code 12 = .ok (.iadd, 1) := by decide +kernel
theorem dM_at_13 : decode prog_8_method_26_code 13 = .ok (.iload_n 3, 1) := by decide +kernel
theorem dM_at_14 : decode prog_8_method_26_code 14 = .ok (.iadd, 1) := by decide +kernel
theorem dM_at_15 : decode prog_8_method_26_code 15 = .ok (.iaload, 1) := by decide +kernel
theorem dM_at_16 : decode prog_8_method_26_code 16 = .ok (.ireturn, 1) := by decide +kernel
theorem dM_measure_0 : decode prog_8_method_27_code 0 = .ok (.aload_n 0, 1) := by decide +kernel
theorem dM_measure_1 : decode prog_8_method_27_code 1 = .ok (.getfield 27, 3) := by decide +kernel
theorem dM_measure_4 : decode prog_8_method_27_code 4 = .ok (.iconst 2, 1) := by decide +kernel
theorem dM_measure_5 : decode prog_8_method_27_code 5 = .ok (.iload_n 2, 1) := by decide +kernel
theorem dM_measure_6 : decode prog_8_method_27_code 6 = .ok (.imul, 1) := by decide +kernel
theorem dM_measure_7 : decode prog_8_method_27_code 7 = .ok (.iload_n 1, 1) := by decide +kernel
theorem dM_measure_8 : decode prog_8_method_27_code 8 = .ok (.iadd, 1) := by decide +kernel
theorem dM_measure_9 : decode prog_8_method_27_code 9 = .ok (.iaload, 1) := by decide +kernel
theorem dM_measure_10 : decode prog_8_method_27_code 10 = .ok (.istore 5, 2) := by decide +kernel
theorem dM_measure_12 : decode prog_8_method_27_code 12 = .ok (.aload_n 0, 1) := by decide +kernel
theorem dM_measure_13 : decode prog_8_method_27_code 13 = .ok (.getfield 27, 3) := by decide +kernel
theorem dM_measure_16 : decode prog_8_method_27_code 16 = .ok (.iconst 2, 1) := by decide +kernel
theorem dM_measure_17 : decode prog_8_method_27_code 17 = .ok (.iload_n 3, 1) := by decide +kernel
theorem dM_measure_18 : decode prog_8_method_27_code 18 = .ok (.imul, 1) := by decide +kernel
theorem dM_measure_19 : decode prog_8_method_27_code 19 = .ok (.iload_n 1, 1) := by decide +kernel
theorem dM_measure_20 : decode prog_8_method_27_code 20 = .ok (.iadd, 1) := by decide +kernel
theorem dM_measure_21 : decode prog_8_method_27_code 21 = .ok (.iaload, 1) := by decide +kernel
theorem dM_measure_22 : decode prog_8_method_27_code 22 = .ok (.istore 6, 2) := by decide +kernel
theorem dM_measure_24 : decode prog_8_method_27_code 24 = .ok (.iconst 0, 1) := by decide +kernel
theorem dM_measure_25 : decode prog_8_method_27_code 25 = .ok (.istore 7, 2) := by decide +kernel
theorem dM_measure_27 : decode prog_8_method_27_code 27 = .ok (.iload 7, 2) := by decide +kernel
theorem dM_measure_29 : decode prog_8_method_27_code 29 = .ok (.iload 5, 2) := by decide +kernel
theorem dM_measure_31 : decode prog_8_method_27_code 31 = .ok (.if_icmp .ge 35, 3) := by decide +kernel
theorem dM_measure_34 : decode prog_8_method_27_code 34 = .ok (.iload 7, 2) := by decide +kernel
theorem dM_measure_36 : decode prog_8_method_27_code 36 = .ok (.iload 6, 2) := by decide +kernel
theorem dM_measure_38 : decode prog_8_method_27_code 38 = .ok (.if_icmp .ge 28, 3) := by decide +kernel
theorem dM_measure_41 : decode prog_8_method_27_code 41 = .ok (.aload_n 0, 1) := by decide +kernel
theorem dM_measure_42 : decode prog_8_method_27_code 42 = .ok (.iload_n 2, 1) := by decide +kernel
theorem dM_measure_43 : decode prog_8_method_27_code 43 = .ok (.iload_n 1, 1) := by decide +kernel
theorem dM_measure_44 : decode prog_8_method_27_code 44 = .ok (.iload 7, 2) := by decide +kernel
theorem dM_measure_46 : decode prog_8_method_27_code 46 = .ok (.invokevirtual 107, 3) := by decide +kernel
theorem dM_measure_49 : decode prog_8_method_27_code 49 = .ok (.aload_n 0, 1) := by decide +kernel
theorem dM_measure_50 : decode prog_8_method_27_code 50 = .ok (.iload_n 3, 1) := by decide +kernel
theorem dM_measure_51 : decode prog_8_method_27_code 51 = .ok (.iload_n 1, 1) := by decide +kernel
theorem dM_measure_52 : decode prog_8_method_27_code 52 = .ok (.iload 7, 2) := by decide +kernel
theorem dM_measure_54 : decode prog_8_method_27_code 54 = .ok (.invokevirtual 107, 3) := by decide +kernel
theorem dM_measure_57 : decode prog_8_method_27_code 57 = .ok (.if_icmp .ne 9, 3) := by decide +kernel
theorem dM_measure_60 : decode prog_8_method_27_code 60 = .ok (.iinc 7 1, 3) := by decide +kernel
theorem dM_measure_63 : decode prog_8_method_27_code 63 = .ok (.goto (-36), 3) := by decide +kernel
theorem dM_measure_66 : decode prog_8_method_27_code 66 = .ok (.iconst 0, 1) := by decide +kernel
theorem dM_measure_67 : decode prog_8_method_27_code 67 = .ok (.istore 8, 2) := by decide +kernel
theorem dM_measure_69 : decode prog_8_method_27_code 69 = .ok (.iload 8, 2) := by decide +kernel
theorem dM_measure_71 : decode prog_8_method_27_code 71 = .ok (.iload 5, 2) := by decide +kernel
theorem dM_measure_73 : decode prog_8_method_27_code 73 = .ok (.iload 7, 2) := by decide +kernel
theorem dM_measure_75 : decode prog_8_method_27_code 75 = .ok (.isub, 1) := by decide +kernel
theorem dM_measure_76 : decode prog_8_method_27_code 76 = .ok (.if_icmp .ge 48, 3) := by decide +kernel
theorem dM_measure_79 : decode prog_8_method_27_code 79 = .ok (.iload 8, 2) := by decide +kernel
theorem dM_measure_81 : decode prog_8_method_27_code 81 = .ok (.iload 6, 2) := by decide +kernel
theorem dM_measure_83 : decode prog_8_method_27_code 83 = .ok (.iload 7, 2) := by decide +kernel
theorem dM_measure_85 : decode prog_8_method_27_code 85 = .ok (.isub, 1) := by decide +kernel
theorem dM_measure_86 : decode prog_8_method_27_code 86 = .ok (.if_icmp .ge 38, 3) := by decide +kernel
theorem dM_measure_89 : decode prog_8_method_27_code 89 = .ok (.aload_n 0, 1) := by decide +kernel
theorem dM_measure_90 : decode prog_8_method_27_code 90 = .ok (.iload_n 2, 1) := by decide +kernel
theorem dM_measure_91 : decode prog_8_method_27_code 91 = .ok (.iload_n 1, 1) := by decide +kernel
theorem dM_measure_92 : decode prog_8_method_27_code 92 = .ok (.iload 5, 2) := by decide +kernel
theorem dM_measure_94 : decode prog_8_method_27_code 94 = .ok (.iconst 1, 1) := by decide +kernel
theorem dM_measure_95 : decode prog_8_method_27_code 95 = .ok (.isub, 1) := by decide +kernel
theorem dM_measure_96 : decode prog_8_method_27_code 96 = .ok (.iload 8, 2) := by decide +kernel
theorem dM_measure_98 : decode prog_8_method_27_code 98 = .ok (.isub, 1) := by decide +kernel
theorem dM_measure_99 : decode prog_8_method_27_code 99 = .ok (.invokevirtual 107, 3) := by decide +kernel
theorem dM_measure_102 : decode prog_8_method_27_code 102 = .ok (.aload_n 0, 1) := by decide +kernel
theorem dM_measure_103 : decode prog_8_method_27_code 103 = .ok (.iload_n 3, 1) := by decide +kernel
theorem dM_measure_104 : decode prog_8_method_27_code 104 = .ok (.iload_n 1, 1) := by decide +kernel
theorem dM_measure_105 : decode prog_8_method_27_code 105 = .ok (.iload 6, 2) := by decide +kernel
theorem dM_measure_107 : decode prog_8_method_27_code 107 = .ok (.iconst 1, 1) := by decide +kernel
theorem dM_measure_108 : decode prog_8_method_27_code 108 = .ok (.isub, 1) := by decide +kernel
theorem dM_measure_109 : decode prog_8_method_27_code 109 = .ok (.iload 8, 2) := by decide +kernel
theorem dM_measure_111 : decode prog_8_method_27_code 111 = .ok (.isub, 1) := by decide +kernel
theorem dM_measure_112 : decode prog_8_method_27_code 112 = .ok (.invokevirtual 107, 3) := by decide +kernel
theorem dM_measure_115 : decode prog_8_method_27_code 115 = .ok (.if_icmp .ne 9, 3) := by decide +kernel
theorem dM_measure_118 : decode prog_8_method_27_code 118 = .ok (.iinc 8 1, 3) := by decide +kernel
theorem dM_measure_121 : decode prog_8_method_27_code 121 = .ok (.goto (-52), 3) := by decide +kernel
theorem dM_measure_124 : decode prog_8_method_27_code 124 = .ok (.aload_n 0, 1) := by decide +kernel
theorem dM_measure_125 : decode prog_8_method_27_code 125 = .ok (.getfield 48, 3) := by decide +kernel
theorem dM_measure_128 : decode prog_8_method_27_code 128 = .ok (.iload 4, 2) := by decide +kernel
theorem dM_measure_130 : decode prog_8_method_27_code 130 = .ok (.iload 7, 2) := by decide +kernel
theorem dM_measure_132 : decode prog_8_method_27_code 132 = .ok (.iastore, 1) := by decide +kernel
theorem dM_measure_133 : decode prog_8_method_27_code 133 = .ok (.aload_n 0, 1) := by decide +kernel
theorem dM_measure_134 : decode prog_8_method_27_code 134 = .ok (.getfield 51, 3) := by decide +kernel
theorem dM_measure_137 : decode prog_8_method_27_code 137 = .ok (.iload 4, 2) := by decide +kernel
theorem dM_measure_139 : decode prog_8_method_27_code 139 = .ok (.iload 5, 2) := by decide +kernel
theorem dM_measure_141 : decode prog_8_method_27_code 141 = .ok (.iload 8, 2) := by decide +kernel
theorem dM_measure_143 : decode prog_8_method_27_code 143 = .ok (.isub, 1) := by decide +kernel
theorem dM_measure_144 : decode prog_8_method_27_code 144 = .ok (.iastore, 1) := by decide +kernel
theorem dM_measure_145 : decode prog_8_method_27_code 145 = .ok (.aload_n 0, 1) := by decide +kernel
theorem dM_measure_146 : decode prog_8_method_27_code 146 = .ok (.getfield 54, 3) := by decide +kernel
theorem dM_measure_149 : decode prog_8_method_27_code 149 = .ok (.iload 4, 2) := by decide +kernel
theorem dM_measure_151 : decode prog_8_method_27_code 151 = .ok (.iload 6, 2) := by decide +kernel
theorem dM_measure_153 : decode prog_8_method_27_code 153 = .ok (.iload 8, 2) := by decide +kernel
theorem dM_measure_155 : decode prog_8_method_27_code 155 = .ok (.isub, 1) := by decide +kernel
theorem dM_measure_156 : decode prog_8_method_27_code 156 = .ok (.iastore, 1) := by decide +kernel
theorem dM_measure_157 : decode prog_8_method_27_code 157 = .ok (.return_, 1) := by decide +kernel
theorem dM_take_0 : decode prog_8_method_28_code 0 = .ok (.iload_n 3, 1) := by decide +kernel
theorem dM_take_1 : decode prog_8_method_28_code 1 = .ok (.istore 5, 2) := by decide +kernel
theorem dM_take_3 : decode prog_8_method_28_code 3 = .ok (.iload 5, 2) := by decide +kernel
theorem dM_take_5 : decode prog_8_method_28_code 5 = .ok (.iload 4, 2) := by decide +kernel
theorem dM_take_7 : decode prog_8_method_28_code 7 = .ok (.if_icmp .ge 36, 3) := by decide +kernel
theorem dM_take_10 : decode prog_8_method_28_code 10 = .ok (.aload_n 0, 1) := by decide +kernel
theorem dM_take_11 : decode prog_8_method_28_code 11 = .ok (.getfield 45, 3) := by decide +kernel
theorem dM_take_14 : decode prog_8_method_28_code 14 = .ok (.aload_n 0, 1) := by decide +kernel
theorem dM_take_15 : decode prog_8_method_28_code 15 = .ok (.getfield 111, 3) := by decide +kernel
theorem dM_take_18 : decode prog_8_method_28_code 18 = .ok (.aload_n 0, 1) := by decide +kernel
theorem dM_take_19 : decode prog_8_method_28_code 19 = .ok (.iload_n 1, 1) := by decide +kernel
theorem dM_take_20 : decode prog_8_method_28_code 20 = .ok (.iload_n 2, 1) := by decide +kernel
theorem dM_take_21 : decode prog_8_method_28_code 21 = .ok (.iload 5, 2) := by decide +kernel
theorem dM_take_23 : decode prog_8_method_28_code 23 = .ok (.invokevirtual 107, 3) := by decide +kernel
theorem dM_take_26 : decode prog_8_method_28_code 26 = .ok (.iastore, 1) := by decide +kernel
theorem dM_take_27 : decode prog_8_method_28_code 27 = .ok (.aload_n 0, 1) := by decide +kernel
theorem dM_take_28 : decode prog_8_method_28_code 28 = .ok (.dup, 1) := by decide +kernel
theorem dM_take_29 : decode prog_8_method_28_code 29 = .ok (.getfield 111, 3) := by decide +kernel
theorem dM_take_32 : decode prog_8_method_28_code 32 = .ok (.iconst 1, 1) := by decide +kernel
theorem dM_take_33 : decode prog_8_method_28_code 33 = .ok (.iadd, 1) := by decide +kernel
theorem dM_take_34 : decode prog_8_method_28_code 34 = .ok (.putfield 111, 3) := by decide +kernel
theorem dM_take_37 : decode prog_8_method_28_code 37 = .ok (.iinc 5 1, 3) := by decide +kernel
theorem dM_take_40 : decode prog_8_method_28_code 40 = .ok (.goto (-37), 3) := by decide +kernel
theorem dM_take_43 : decode prog_8_method_28_code 43 = .ok (.return_, 1) := by decide +kernel
theorem dM_join_0 : decode prog_8_method_29_code 0 = .ok (.aload_n 0, 1) := by decide +kernel
theorem dM_join_1 : decode prog_8_method_29_code 1 = .ok (.iload_n 1, 1) := by decide +kernel
theorem dM_join_2 : decode prog_8_method_29_code 2 = .ok (.iload_n 2, 1) := by decide +kernel
theorem dM_join_3 : decode prog_8_method_29_code 3 = .ok (.iload_n 3, 1) := by decide +kernel
theorem dM_join_4 : decode prog_8_method_29_code 4 = .ok (.iconst 0, 1) := by decide +kernel
theorem dM_join_5 : decode prog_8_method_29_code 5 = .ok (.invokevirtual 114, 3) := by decide +kernel
theorem dM_join_8 : decode prog_8_method_29_code 8 = .ok (.aload_n 0, 1) := by decide +kernel
theorem dM_join_9 : decode prog_8_method_29_code 9 = .ok (.iload_n 1, 1) := by decide +kernel
theorem dM_join_10 : decode prog_8_method_29_code 10 = .ok (.iload_n 2, 1) := by decide +kernel
theorem dM_join_11 : decode prog_8_method_29_code 11 = .ok (.iload 4, 2) := by decide +kernel
theorem dM_join_13 : decode prog_8_method_29_code 13 = .ok (.iconst 1, 1) := by decide +kernel
theorem dM_join_14 : decode prog_8_method_29_code 14 = .ok (.invokevirtual 114, 3) := by decide +kernel
theorem dM_join_17 : decode prog_8_method_29_code 17 = .ok (.aload_n 0, 1) := by decide +kernel
theorem dM_join_18 : decode prog_8_method_29_code 18 = .ok (.getfield 51, 3) := by decide +kernel
theorem dM_join_21 : decode prog_8_method_29_code 21 = .ok (.iconst 0, 1) := by decide +kernel
theorem dM_join_22 : decode prog_8_method_29_code 22 = .ok (.iaload, 1) := by decide +kernel
theorem dM_join_23 : decode prog_8_method_29_code 23 = .ok (.aload_n 0, 1) := by decide +kernel
theorem dM_join_24 : decode prog_8_method_29_code 24 = .ok (.getfield 48, 3) := by decide +kernel
theorem dM_join_27 : decode prog_8_method_29_code 27 = .ok (.iconst 1, 1) := by decide +kernel
theorem dM_join_28 : decode prog_8_method_29_code 28 = .ok (.iaload, 1) := by decide +kernel
theorem dM_join_29 : decode prog_8_method_29_code 29 = .ok (.if_icmp .gt 7, 3) := by decide +kernel
theorem dM_join_32 : decode prog_8_method_29_code 32 = .ok (.iconst 1, 1) := by decide +kernel
theorem dM_join_33 : decode prog_8_method_29_code 33 = .ok (.goto 4, 3) := by decide +kernel
theorem dM_join_36 : decode prog_8_method_29_code 36 = .ok (.iconst 0, 1) := by decide +kernel
theorem dM_join_37 : decode prog_8_method_29_code 37 = .ok (.istore 5, 2) := by decide +kernel
theorem dM_join_39 : decode prog_8_method_29_code 39 = .ok (.aload_n 0, 1) := by decide +kernel
theorem dM_join_40 : decode prog_8_method_29_code 40 = .ok (.getfield 51, 3) := by decide +kernel
theorem dM_join_43 : decode prog_8_method_29_code 43 = .ok (.iconst 1, 1) := by decide +kernel
theorem dM_join_44 : decode prog_8_method_29_code 44 = .ok (.iaload, 1) := by decide +kernel
theorem dM_join_45 : decode prog_8_method_29_code 45 = .ok (.aload_n 0, 1) := by decide +kernel
theorem dM_join_46 : decode prog_8_method_29_code 46 = .ok (.getfield 48, 3) := by decide +kernel
theorem dM_join_49 : decode prog_8_method_29_code 49 = .ok (.iconst 0, 1) := by decide +kernel
theorem dM_join_50 : decode prog_8_method_29_code 50 = .ok (.iaload, 1) := by decide +kernel
theorem dM_join_51 : decode prog_8_method_29_code 51 = .ok (.if_icmp .gt 7, 3) := by decide +kernel
theorem dM_join_54 : decode prog_8_method_29_code 54 = .ok (.iconst 1, 1) := by decide +kernel
theorem dM_join_55 : decode prog_8_method_29_code 55 = .ok (.goto 4, 3) := by decide +kernel
theorem dM_join_58 : decode prog_8_method_29_code 58 = .ok (.iconst 0, 1) := by decide +kernel
theorem dM_join_59 : decode prog_8_method_29_code 59 = .ok (.istore 6, 2) := by decide +kernel
theorem dM_join_61 : decode prog_8_method_29_code 61 = .ok (.iload 5, 2) := by decide +kernel
theorem dM_join_63 : decode prog_8_method_29_code 63 = .ok (.iload 6, 2) := by decide +kernel
theorem dM_join_65 : decode prog_8_method_29_code 65 = .ok (.if_icmp .ne 5, 3) := by decide +kernel
theorem dM_join_68 : decode prog_8_method_29_code 68 = .ok (.iconst 0, 1) := by decide +kernel
theorem dM_join_69 : decode prog_8_method_29_code 69 = .ok (.ireturn, 1) := by decide +kernel
theorem dM_join_70 : decode prog_8_method_29_code 70 = .ok (.iload 5, 2) := by decide +kernel
theorem dM_join_72 : decode prog_8_method_29_code 72 = .ok (.ifCond .eq 7, 3) := by decide +kernel
theorem dM_join_75 : decode prog_8_method_29_code 75 = .ok (.iconst 0, 1) := by decide +kernel
theorem dM_join_76 : decode prog_8_method_29_code 76 = .ok (.goto 4, 3) := by decide +kernel
theorem dM_join_79 : decode prog_8_method_29_code 79 = .ok (.iconst 1, 1) := by decide +kernel
theorem dM_join_80 : decode prog_8_method_29_code 80 = .ok (.istore 7, 2) := by decide +kernel
theorem dM_join_82 : decode prog_8_method_29_code 82 = .ok (.aload_n 0, 1) := by decide +kernel
theorem dM_join_83 : decode prog_8_method_29_code 83 = .ok (.iconst 0, 1) := by decide +kernel
theorem dM_join_84 : decode prog_8_method_29_code 84 = .ok (.putfield 111, 3) := by decide +kernel
theorem dM_join_87 : decode prog_8_method_29_code 87 = .ok (.aload_n 0, 1) := by decide +kernel
theorem dM_join_88 : decode prog_8_method_29_code 88 = .ok (.iload_n 2, 1) := by decide +kernel
theorem dM_join_89 : decode prog_8_method_29_code 89 = .ok (.iload_n 1, 1) := by decide +kernel
theorem dM_join_90 : decode prog_8_method_29_code 90 = .ok (.iconst 0, 1) := by decide +kernel
theorem dM_join_91 : decode prog_8_method_29_code 91 = .ok (.aload_n 0, 1) := by decide +kernel
theorem dM_join_92 : decode prog_8_method_29_code 92 = .ok (.getfield 48, 3) := by decide +kernel
theorem dM_join_95 : decode prog_8_method_29_code 95 = .ok (.iload 7, 2) := by decide +kernel
theorem dM_join_97 : decode prog_8_method_29_code 97 = .ok (.iaload, 1) := by decide +kernel
theorem dM_join_98 : decode prog_8_method_29_code 98 = .ok (.invokevirtual 118, 3) := by decide +kernel
theorem dM_join_101 : decode prog_8_method_29_code 101 = .ok (.aload_n 0, 1) := by decide +kernel
theorem dM_join_102 : decode prog_8_method_29_code 102 = .ok (.iload 5, 2) := by decide +kernel
theorem dM_join_104 : decode prog_8_method_29_code 104 = .ok (.ifCond .eq 7, 3) := by decide +kernel
theorem dM_join_107 : decode prog_8_method_29_code 107 = .ok (.iload_n 3, 1) := by decide +kernel
theorem dM_join_108 : decode prog_8_method_29_code 108 = .ok (.goto 5, 3) := by decide +kernel
theorem dM_join_111 : decode prog_8_method_29_code 111 = .ok (.iload 4, 2) := by decide +kernel
theorem dM_join_113 : decode prog_8_method_29_code 113 = .ok (.iload_n 1, 1) := by decide +kernel
theorem dM_join_114 : decode prog_8_method_29_code 114 = .ok (.aload_n 0, 1) := by decide +kernel
theorem dM_join_115 : decode prog_8_method_29_code 115 = .ok (.getfield 48, 3) := by decide +kernel
theorem dM_join_118 : decode prog_8_method_29_code 118 = .ok (.iload 7, 2) := by decide +kernel
theorem dM_join_120 : decode prog_8_method_29_code 120 = .ok (.iaload, 1) := by decide +kernel
theorem dM_join_121 : decode prog_8_method_29_code 121 = .ok (.aload_n 0, 1) := by decide +kernel
theorem dM_join_122 : decode prog_8_method_29_code 122 = .ok (.getfield 54, 3) := by decide +kernel
theorem dM_join_125 : decode prog_8_method_29_code 125 = .ok (.iload 7, 2) := by decide +kernel
theorem dM_join_127 : decode prog_8_method_29_code 127 = .ok (.iaload, 1) := by decide +kernel
theorem dM_join_128 : decode prog_8_method_29_code 128 = .ok (.invokevirtual 118, 3) := by decide +kernel
theorem dM_join_131 : decode prog_8_method_29_code 131 = .ok (.aload_n 0, 1) := by decide +kernel
theorem dM_join_132 : decode prog_8_method_29_code 132 = .ok (.iload_n 2, 1) := by decide +kernel
theorem dM_join_133 : decode prog_8_method_29_code 133 = .ok (.iload_n 1, 1) := by decide +kernel
theorem dM_join_134 : decode prog_8_method_29_code 134 = .ok (.aload_n 0, 1) := by decide +kernel
theorem dM_join_135 : decode prog_8_method_29_code 135 = .ok (.getfield 51, 3) := by decide +kernel
theorem dM_join_138 : decode prog_8_method_29_code 138 = .ok (.iload 7, 2) := by decide +kernel
theorem dM_join_140 : decode prog_8_method_29_code 140 = .ok (.iaload, 1) := by decide +kernel
theorem dM_join_141 : decode prog_8_method_29_code 141 = .ok (.aload_n 0, 1) := by decide +kernel
theorem dM_join_142 : decode prog_8_method_29_code 142 = .ok (.getfield 48, 3) := by decide +kernel
theorem dM_join_145 : decode prog_8_method_29_code 145 = .ok (.iconst 1, 1) := by decide +kernel
theorem dM_join_146 : decode prog_8_method_29_code 146 = .ok (.iload 7, 2) := by decide +kernel
theorem dM_join_148 : decode prog_8_method_29_code 148 = .ok (.isub, 1) := by decide +kernel
theorem dM_join_149 : decode prog_8_method_29_code 149 = .ok (.iaload, 1) := by decide +kernel
theorem dM_join_150 : decode prog_8_method_29_code 150 = .ok (.invokevirtual 118, 3) := by decide +kernel
theorem dM_join_153 : decode prog_8_method_29_code 153 = .ok (.aload_n 0, 1) := by decide +kernel
theorem dM_join_154 : decode prog_8_method_29_code 154 = .ok (.iload 5, 2) := by decide +kernel
theorem dM_join_156 : decode prog_8_method_29_code 156 = .ok (.ifCond .eq 8, 3) := by decide +kernel
theorem dM_join_159 : decode prog_8_method_29_code 159 = .ok (.iload 4, 2) := by decide +kernel
theorem dM_join_161 : decode prog_8_method_29_code 161 = .ok (.goto 4, 3) := by decide +kernel
theorem dM_join_164 : decode prog_8_method_29_code 164 = .ok (.iload_n 3, 1) := by decide +kernel
theorem dM_join_165 : decode prog_8_method_29_code 165 = .ok (.iload_n 1, 1) := by decide +kernel
theorem dM_join_166 : decode prog_8_method_29_code 166 = .ok (.aload_n 0, 1) := by decide +kernel
theorem dM_join_167 : decode prog_8_method_29_code 167 = .ok (.getfield 48, 3) := by decide +kernel
theorem dM_join_170 : decode prog_8_method_29_code 170 = .ok (.iconst 1, 1) := by decide +kernel
theorem dM_join_171 : decode prog_8_method_29_code 171 = .ok (.iload 7, 2) := by decide +kernel
theorem dM_join_173 : decode prog_8_method_29_code 173 = .ok (.isub, 1) := by decide +kernel
theorem dM_join_174 : decode prog_8_method_29_code 174 = .ok (.iaload, 1) := by decide +kernel
theorem dM_join_175 : decode prog_8_method_29_code 175 = .ok (.aload_n 0, 1) := by decide +kernel
theorem dM_join_176 : decode prog_8_method_29_code 176 = .ok (.getfield 54, 3) := by decide +kernel
theorem dM_join_179 : decode prog_8_method_29_code 179 = .ok (.iconst 1, 1) := by decide +kernel
theorem dM_join_180 : decode prog_8_method_29_code 180 = .ok (.iload 7, 2) := by decide +kernel
theorem dM_join_182 : decode prog_8_method_29_code 182 = .ok (.isub, 1) := by decide +kernel
theorem dM_join_183 : decode prog_8_method_29_code 183 = .ok (.iaload, 1) := by decide +kernel
theorem dM_join_184 : decode prog_8_method_29_code 184 = .ok (.invokevirtual 118, 3) := by decide +kernel
theorem dM_join_187 : decode prog_8_method_29_code 187 = .ok (.aload_n 0, 1) := by decide +kernel
theorem dM_join_188 : decode prog_8_method_29_code 188 = .ok (.iload_n 2, 1) := by decide +kernel
theorem dM_join_189 : decode prog_8_method_29_code 189 = .ok (.iload_n 1, 1) := by decide +kernel
theorem dM_join_190 : decode prog_8_method_29_code 190 = .ok (.aload_n 0, 1) := by decide +kernel
theorem dM_join_191 : decode prog_8_method_29_code 191 = .ok (.getfield 51, 3) := by decide +kernel
theorem dM_join_194 : decode prog_8_method_29_code 194 = .ok (.iconst 1, 1) := by decide +kernel
theorem dM_join_195 : decode prog_8_method_29_code 195 = .ok (.iload 7, 2) := by decide +kernel
theorem dM_join_197 : decode prog_8_method_29_code 197 = .ok (.isub, 1) := by decide +kernel
theorem dM_join_198 : decode prog_8_method_29_code 198 = .ok (.iaload, 1) := by decide +kernel
theorem dM_join_199 : decode prog_8_method_29_code 199 = .ok (.aload_n 0, 1) := by decide +kernel
theorem dM_join_200 : decode prog_8_method_29_code 200 = .ok (.getfield 27, 3) := by decide +kernel
theorem dM_join_203 : decode prog_8_method_29_code 203 = .ok (.iconst 2, 1) := by decide +kernel
theorem dM_join_204 : decode prog_8_method_29_code 204 = .ok (.iload_n 2, 1) := by decide +kernel
theorem dM_join_205 : decode prog_8_method_29_code 205 = .ok (.imul, 1) := by decide +kernel
theorem dM_join_206 : decode prog_8_method_29_code 206 = .ok (.iload_n 1, 1) := by decide +kernel
theorem dM_join_207 : decode prog_8_method_29_code 207 = .ok (.iadd, 1) := by decide +kernel
theorem dM_join_208 : decode prog_8_method_29_code 208 = .ok (.iaload, 1) := by decide +kernel
theorem dM_join_209 : decode prog_8_method_29_code 209 = .ok (.invokevirtual 118, 3) := by decide +kernel
theorem dM_join_212 : decode prog_8_method_29_code 212 = .ok (.aload_n 0, 1) := by decide +kernel
theorem dM_join_213 : decode prog_8_method_29_code 213 = .ok (.getfield 111, 3) := by decide +kernel
theorem dM_join_216 : decode prog_8_method_29_code 216 = .ok (.bipush 8, 2) := by decide +kernel
theorem dM_join_218 : decode prog_8_method_29_code 218 = .ok (.if_icmp .gt 7, 3) := by decide +kernel
theorem dM_join_221 : decode prog_8_method_29_code 221 = .ok (.iconst 1, 1) := by decide +kernel
theorem dM_join_222 : decode prog_8_method_29_code 222 = .ok (.goto 4, 3) := by decide +kernel
theorem dM_join_225 : decode prog_8_method_29_code 225 = .ok (.iconst 0, 1) := by decide +kernel
theorem dM_join_226 : decode prog_8_method_29_code 226 = .ok (.ireturn, 1) := by decide +kernel
theorem dM_mergeList_0 : decode prog_8_method_30_code 0 = .ok (.aload_n 0, 1) := by decide +kernel
theorem dM_mergeList_1 : decode prog_8_method_30_code 1 = .ok (.iload_n 2, 1) := by decide +kernel
theorem dM_mergeList_2 : decode prog_8_method_30_code 2 = .ok (.iload_n 3, 1) := by decide +kernel
theorem dM_mergeList_3 : decode prog_8_method_30_code 3 = .ok (.iload_n 1, 1) := by decide +kernel
theorem dM_mergeList_4 : decode prog_8_method_30_code 4 = .ok (.invokevirtual 63, 3) := by decide +kernel
theorem dM_mergeList_7 : decode prog_8_method_30_code 7 = .ok (.aload_n 0, 1) := by decide +kernel
theorem dM_mergeList_8 : decode prog_8_method_30_code 8 = .ok (.iload_n 2, 1) := by decide +kernel
theorem dM_mergeList_9 : decode prog_8_method_30_code 9 = .ok (.iload 4, 2) := by decide +kernel
theorem dM_mergeList_11 : decode prog_8_method_30_code 11 = .ok (.iload_n 1, 1) := by decide +kernel
theorem dM_mergeList_12 : decode prog_8_method_30_code 12 = .ok (.invokevirtual 63, 3) := by decide +kernel
theorem dM_mergeList_15 : decode prog_8_method_30_code 15 = .ok (.aload_n 0, 1) := by decide +kernel
theorem dM_mergeList_16 : decode prog_8_method_30_code 16 = .ok (.iload_n 3, 1) := by decide +kernel
theorem dM_mergeList_17 : decode prog_8_method_30_code 17 = .ok (.iload 4, 2) := by decide +kernel
theorem dM_mergeList_19 : decode prog_8_method_30_code 19 = .ok (.iload_n 1, 1) := by decide +kernel
theorem dM_mergeList_20 : decode prog_8_method_30_code 20 = .ok (.invokevirtual 63, 3) := by decide +kernel
theorem dM_mergeList_23 : decode prog_8_method_30_code 23 = .ok (.invokestatic 100, 3) := by decide +kernel
theorem dM_mergeList_26 : decode prog_8_method_30_code 26 = .ok (.istore 6, 2) := by decide +kernel
theorem dM_mergeList_28 : decode prog_8_method_30_code 28 = .ok (.iload 6, 2) := by decide +kernel
theorem dM_mergeList_30 : decode prog_8_method_30_code 30 = .ok (.iconst 3, 1) := by decide +kernel
theorem dM_mergeList_31 : decode prog_8_method_30_code 31 = .ok (.if_icmp .ne 19, 3) := by decide +kernel
theorem dM_mergeList_34 : decode prog_8_method_30_code 34 = .ok (.aload_n 0, 1) := by decide +kernel
theorem dM_mergeList_35 : decode prog_8_method_30_code 35 = .ok (.iload_n 1, 1) := by decide +kernel
theorem dM_mergeList_36 : decode prog_8_method_30_code 36 = .ok (.iload_n 2, 1) := by decide +kernel
theorem dM_mergeList_37 : decode prog_8_method_30_code 37 = .ok (.iload_n 3, 1) := by decide +kernel
theorem dM_mergeList_38 : decode prog_8_method_30_code 38 = .ok (.iload 4, 2) := by decide +kernel
theorem dM_mergeList_40 : decode prog_8_method_30_code 40 = .ok (.invokevirtual 121, 3) := by decide +kernel
theorem dM_mergeList_43 : decode prog_8_method_30_code 43 = .ok (.ifCond .eq 7, 3) := by decide +kernel
theorem dM_mergeList_46 : decode prog_8_method_30_code 46 = .ok (.iconst 1, 1) := by decide +kernel
theorem dM_mergeList_47 : decode prog_8_method_30_code 47 = .ok (.goto 4, 3) := by decide +kernel
theorem dM_mergeList_50 : decode prog_8_method_30_code 50 = .ok (.iconst 0, 1) := by decide +kernel
theorem dM_mergeList_51 : decode prog_8_method_30_code 51 = .ok (.istore 7, 2) := by decide +kernel
theorem dM_mergeList_53 : decode prog_8_method_30_code 53 = .ok (.aload_n 0, 1) := by decide +kernel
theorem dM_mergeList_54 : decode prog_8_method_30_code 54 = .ok (.dup, 1) := by decide +kernel
theorem dM_mergeList_55 : decode prog_8_method_30_code 55 = .ok (.getfield 104, 3) := by decide +kernel
theorem dM_mergeList_58 : decode prog_8_method_30_code 58 = .ok (.iload 6, 2) := by decide +kernel
theorem dM_mergeList_60 : decode prog_8_method_30_code 60 = .ok (.iconst 3, 1) := by decide +kernel
theorem dM_mergeList_61 : decode prog_8_method_30_code 61 = .ok (.if_icmp .ne 15, 3) := by decide +kernel
theorem dM_mergeList_64 : decode prog_8_method_30_code 64 = .ok (.iload 7, 2) := by decide +kernel
theorem dM_mergeList_66 : decode prog_8_method_30_code 66 = .ok (.ifCond .ne 10, 3) := by decide +kernel
theorem dM_mergeList_69 : decode prog_8_method_30_code 69 = .ok (.bipush 64, 2) := by decide +kernel
theorem dM_mergeList_71 : decode prog_8_method_30_code 71 = .ok (.iload_n 1, 1) := by decide +kernel
theorem dM_mergeList_72 : decode prog_8_method_30_code 72 = .ok (.ishl, 1) := by decide +kernel
theorem dM_mergeList_73 : decode prog_8_method_30_code 73 = .ok (.goto 4, 3) := by decide +kernel
theorem dM_mergeList_76 : decode prog_8_method_30_code 76 = .ok (.iconst 0, 1) := by decide +kernel
theorem dM_mergeList_77 : decode prog_8_method_30_code 77 = .ok (.ior, 1) := by decide +kernel
theorem dM_mergeList_78 : decode prog_8_method_30_code 78 = .ok (.putfield 104, 3) := by decide +kernel
theorem dM_mergeList_81 : decode prog_8_method_30_code 81 = .ok (.iload 7, 2) := by decide +kernel
theorem dM_mergeList_83 : decode prog_8_method_30_code 83 = .ok (.ifCond .ne 72, 3) := by decide +kernel
theorem dM_mergeList_86 : decode prog_8_method_30_code 86 = .ok (.aload_n 0, 1) := by decide +kernel
theorem dM_mergeList_87 : decode prog_8_method_30_code 87 = .ok (.iconst 0, 1) := by decide +kernel
theorem dM_mergeList_88 : decode prog_8_method_30_code 88 = .ok (.putfield 111, 3) := by decide +kernel
theorem dM_mergeList_91 : decode prog_8_method_30_code 91 = .ok (.iload 6, 2) := by decide +kernel
theorem dM_mergeList_93 : decode prog_8_method_30_code 93 = .ok (.iconst 3, 1) := by decide +kernel
theorem dM_mergeList_94 : decode prog_8_method_30_code 94 = .ok (.if_icmp .ne 18, 3) := by decide +kernel
theorem dM_mergeList_97 : decode prog_8_method_30_code 97 = .ok (.iload 5, 2) := by decide +kernel
theorem dM_mergeList_99 : decode prog_8_method_30_code 99 = .ok (.iconst 2, 1) := by decide +kernel
theorem dM_mergeList_100 : decode prog_8_method_30_code 100 = .ok (.if_icmp .ne 8, 3) := by decide +kernel
theorem dM_mergeList_103 : decode prog_8_method_30_code 103 = .ok (.iload 4, 2) := by decide +kernel
theorem dM_mergeList_105 : decode prog_8_method_30_code 105 = .ok (.goto 29, 3) := by decide +kernel
theorem dM_mergeList_108 : decode prog_8_method_30_code 108 = .ok (.iload_n 3, 1) := by decide +kernel
theorem dM_mergeList_109 : decode prog_8_method_30_code 109 = .ok (.goto 25, 3) := by decide +kernel
theorem dM_mergeList_112 : decode prog_8_method_30_code 112 = .ok (.iload 6, 2) := by decide +kernel
theorem dM_mergeList_114 : decode prog_8_method_30_code 114 = .ok (.iconst 1, 1) := by decide +kernel
theorem dM_mergeList_115 : decode prog_8_method_30_code 115 = .ok (.if_icmp .ne 7, 3) := by decide +kernel
theorem dM_mergeList_118 : decode prog_8_method_30_code 118 = .ok (.iload_n 3, 1) := by decide +kernel
theorem dM_mergeList_119 : decode prog_8_method_30_code 119 = .ok (.goto 15, 3) := by decide +kernel
theorem dM_mergeList_122 : decode prog_8_method_30_code 122 = .ok (.iload 6, 2) := by decide +kernel
theorem dM_mergeList_124 : decode prog_8_method_30_code 124 = .ok (.iconst 2, 1) := by decide +kernel
theorem dM_mergeList_125 : decode prog_8_method_30_code 125 = .ok (.if_icmp .ne 8, 3) := by decide +kernel
theorem dM_mergeList_128 : decode prog_8_method_30_code 128 = .ok (.iload 4, 2) := by decide +kernel
theorem dM_mergeList_130 : decode prog_8_method_30_code 130 = .ok (.goto 4, 3) := by decide +kernel
theorem dM_mergeList_133 : decode prog_8_method_30_code 133 = .ok (.iload_n 2, 1) := by decide +kernel
theorem dM_mergeList_134 : decode prog_8_method_30_code 134 = .ok (.istore 8, 2) := by decide +kernel
theorem dM_mergeList_136 : decode prog_8_method_30_code 136 = .ok (.aload_n 0, 1) := by decide +kernel
theorem dM_mergeList_137 : decode prog_8_method_30_code 137 = .ok (.iload 8, 2) := by decide +kernel
theorem dM_mergeList_139 : decode prog_8_method_30_code 139 = .ok (.iload_n 1, 1) := by decide +kernel
theorem dM_mergeList_140 : decode prog_8_method_30_code 140 = .ok (.iconst 0, 1) := by decide +kernel
theorem dM_mergeList_141 : decode prog_8_method_30_code 141 = .ok (.aload_n 0, 1) := by decide +kernel
theorem dM_mergeList_142 : decode prog_8_method_30_code 142 = .ok (.getfield 27, 3) := by decide +kernel
theorem dM_mergeList_145 : decode prog_8_method_30_code 145 = .ok (.iconst 2, 1) := by decide +kernel
theorem dM_mergeList_146 : decode prog_8_method_30_code 146 = .ok (.iload 8, 2) := by decide +kernel
theorem dM_mergeList_148 : decode prog_8_method_30_code 148 = .ok (.imul, 1) := by decide +kernel
theorem dM_mergeList_149 : decode prog_8_method_30_code 149 = .ok (.iload_n 1, 1) := by decide +kernel
theorem dM_mergeList_150 : decode prog_8_method_30_code 150 = .ok (.iadd, 1) := by decide +kernel
theorem dM_mergeList_151 : decode prog_8_method_30_code 151 = .ok (.iaload, 1) := by decide +kernel
theorem dM_mergeList_152 : decode prog_8_method_30_code 152 = .ok (.invokevirtual 118, 3) := by decide +kernel
theorem dM_mergeList_155 : decode prog_8_method_30_code 155 = .ok (.iconst 0, 1) := by decide +kernel
theorem dM_mergeList_156 : decode prog_8_method_30_code 156 = .ok (.istore 8, 2) := by decide +kernel
theorem dM_mergeList_158 : decode prog_8_method_30_code 158 = .ok (.iload 8, 2) := by decide +kernel
theorem dM_mergeList_160 : decode prog_8_method_30_code 160 = .ok (.aload_n 0, 1) := by decide +kernel
theorem dM_mergeList_161 : decode prog_8_method_30_code 161 = .ok (.getfield 111, 3) := by decide +kernel
theorem dM_mergeList_164 : decode prog_8_method_30_code 164 = .ok (.if_icmp .ge 36, 3) := by decide +kernel
theorem dM_mergeList_167 : decode prog_8_method_30_code 167 = .ok (.aload_n 0, 1) := by decide +kernel
theorem dM_mergeList_168 : decode prog_8_method_30_code 168 = .ok (.getfield 24, 3) := by decide +kernel
theorem dM_mergeList_171 : decode prog_8_method_30_code 171 = .ok (.bipush 16, 2) := by decide +kernel
theorem dM_mergeList_173 : decode prog_8_method_30_code 173 = .ok (.aload_n 0, 1) := by decide +kernel
theorem dM_mergeList_174 : decode prog_8_method_30_code 174 = .ok (.getfield 7, 3) := by decide +kernel
theorem dM_mergeList_177 : decode prog_8_method_30_code 177 = .ok (.imul, 1) := by decide +kernel
theorem dM_mergeList_178 : decode prog_8_method_30_code 178 = .ok (.bipush 8, 2) := by decide +kernel
theorem dM_mergeList_180 : decode prog_8_method_30_code 180 = .ok (.iload_n 1, 1) := by decide +kernel
theorem dM_mergeList_181 : decode prog_8_method_30_code 181 = .ok (.imul, 1) := by decide +kernel
theorem dM_mergeList_182 : decode prog_8_method_30_code 182 = .ok (.iadd, 1) := by decide +kernel
theorem dM_mergeList_183 : decode prog_8_method_30_code 183 = .ok (.iload 8, 2) := by decide +kernel
theorem dM_mergeList_185 : decode prog_8_method_30_code 185 = .ok (.iadd, 1) := by decide +kernel
theorem dM_mergeList_186 : decode prog_8_method_30_code 186 = .ok (.aload_n 0, 1) := by decide +kernel
theorem dM_mergeList_187 : decode prog_8_method_30_code 187 = .ok (.getfield 45, 3) := by decide +kernel
theorem dM_mergeList_190 : decode prog_8_method_30_code 190 = .ok (.iload 8, 2) := by decide +kernel
theorem dM_mergeList_192 : decode prog_8_method_30_code 192 = .ok (.iaload, 1) := by decide +kernel
theorem dM_mergeList_193 : decode prog_8_method_30_code 193 = .ok (.iastore, 1) := by decide +kernel
theorem dM_mergeList_194 : decode prog_8_method_30_code 194 = .ok (.iinc 8 1, 3) := by decide +kernel
theorem dM_mergeList_197 : decode prog_8_method_30_code 197 = .ok (.goto (-39), 3) := by decide +kernel
theorem dM_mergeList_200 : decode prog_8_method_30_code 200 = .ok (.aload_n 0, 1) := by decide +kernel
theorem dM_mergeList_201 : decode prog_8_method_30_code 201 = .ok (.getfield 27, 3) := by decide +kernel
theorem dM_mergeList_204 : decode prog_8_method_30_code 204 = .ok (.iconst 2, 1) := by decide +kernel
theorem dM_mergeList_205 : decode prog_8_method_30_code 205 = .ok (.aload_n 0, 1) := by decide +kernel
theorem dM_mergeList_206 : decode prog_8_method_30_code 206 = .ok (.getfield 7, 3) := by decide +kernel
theorem dM_mergeList_209 : decode prog_8_method_30_code 209 = .ok (.imul, 1) := by decide +kernel
theorem dM_mergeList_210 : decode prog_8_method_30_code 210 = .ok (.iload_n 1, 1) := by decide +kernel
theorem dM_mergeList_211 : decode prog_8_method_30_code 211 = .ok (.iadd, 1) := by decide +kernel
theorem dM_mergeList_212 : decode prog_8_method_30_code 212 = .ok (.aload_n 0, 1) := by decide +kernel
theorem dM_mergeList_213 : decode prog_8_method_30_code 213 = .ok (.getfield 111, 3) := by decide +kernel
theorem dM_mergeList_216 : decode prog_8_method_30_code 216 = .ok (.iastore, 1) := by decide +kernel
theorem dM_mergeList_217 : decode prog_8_method_30_code 217 = .ok (.return_, 1) := by decide +kernel
theorem dM_merge_0 : decode prog_8_method_31_code 0 = .ok (.aload_n 0, 1) := by decide +kernel
theorem dM_merge_1 : decode prog_8_method_31_code 1 = .ok (.iconst 0, 1) := by decide +kernel
theorem dM_merge_2 : decode prog_8_method_31_code 2 = .ok (.putfield 104, 3) := by decide +kernel
theorem dM_merge_5 : decode prog_8_method_31_code 5 = .ok (.aload_n 0, 1) := by decide +kernel
theorem dM_merge_6 : decode prog_8_method_31_code 6 = .ok (.iload_n 1, 1) := by decide +kernel
theorem dM_merge_7 : decode prog_8_method_31_code 7 = .ok (.invokestatic 89, 3) := by decide +kernel
theorem dM_merge_10 : decode prog_8_method_31_code 10 = .ok (.ifCond .eq 16, 3) := by decide +kernel
theorem dM_merge_13 : decode prog_8_method_31_code 13 = .ok (.iload_n 2, 1) := by decide +kernel
theorem dM_merge_14 : decode prog_8_method_31_code 14 = .ok (.ifCond .lt 12, 3) := by decide +kernel
theorem dM_merge_17 : decode prog_8_method_31_code 17 = .ok (.iload_n 2, 1) := by decide +kernel
theorem dM_merge_18 : decode prog_8_method_31_code 18 = .ok (.iconst 2, 1) := by decide +kernel
theorem dM_merge_19 : decode prog_8_method_31_code 19 = .ok (.if_icmp .gt 7, 3) := by decide +kernel
theorem dM_merge_22 : decode prog_8_method_31_code 22 = .ok (.iconst 0, 1) := by decide +kernel
theorem dM_merge_23 : decode prog_8_method_31_code 23 = .ok (.goto 4, 3) := by decide +kernel
theorem dM_merge_26 : decode prog_8_method_31_code 26 = .ok (.iconst 1, 1) := by decide +kernel
theorem dM_merge_27 : decode prog_8_method_31_code 27 = .ok (.putfield 57, 3) := by decide +kernel
theorem dM_merge_30 : decode prog_8_method_31_code 30 = .ok (.aload_n 0, 1) := by decide +kernel
theorem dM_merge_31 : decode prog_8_method_31_code 31 = .ok (.getfield 57, 3) := by decide +kernel
theorem dM_merge_34 : decode prog_8_method_31_code 34 = .ok (.ifCond .le 5, 3) := by decide +kernel
theorem dM_merge_37 : decode prog_8_method_31_code 37 = .ok (.iconst 0, 1) := by decide +kernel
theorem dM_merge_38 : decode prog_8_method_31_code 38 = .ok (.ireturn, 1) := by decide +kernel
theorem dM_merge_39 : decode prog_8_method_31_code 39 = .ok (.aload_n 0, 1) := by decide +kernel
theorem dM_merge_40 : decode prog_8_method_31_code 40 = .ok (.invokevirtual 71, 3) := by decide +kernel
theorem dM_merge_43 : decode prog_8_method_31_code 43 = .ok (.istore_n 3, 1) := by decide +kernel
theorem dM_merge_44 : decode prog_8_method_31_code 44 = .ok (.aload_n 0, 1) := by decide +kernel
theorem dM_merge_45 : decode prog_8_method_31_code 45 = .ok (.getfield 36, 3) := by decide +kernel
theorem dM_merge_48 : decode prog_8_method_31_code 48 = .ok (.iload_n 1, 1) := by decide +kernel
theorem dM_merge_49 : decode prog_8_method_31_code 49 = .ok (.iaload, 1) := by decide +kernel
theorem dM_merge_50 : decode prog_8_method_31_code 50 = .ok (.istore 4, 2) := by decide +kernel
theorem dM_merge_52 : decode prog_8_method_31_code 52 = .ok (.aload_n 0, 1) := by decide +kernel
theorem dM_merge_53 : decode prog_8_method_31_code 53 = .ok (.lconst 1, 1) := by decide +kernel
theorem dM_merge_54 : decode prog_8_method_31_code 54 = .ok (.iload_n 3, 1) := by decide +kernel
theorem dM_merge_55 : decode prog_8_method_31_code 55 = .ok (.lshl, 1) := by decide +kernel
theorem dM_merge_56 : decode prog_8_method_31_code 56 = .ok (.invokevirtual 96, 3) := by decide +kernel
theorem dM_merge_59 : decode prog_8_method_31_code 59 = .ok (.iload 4, 2) := by decide +kernel
theorem dM_merge_61 : decode prog_8_method_31_code 61 = .ok (.lshr, 1) := by decide +kernel
theorem dM_merge_62 : decode prog_8_method_31_code 62 = .ok (.lconst 1, 1) := by decide +kernel
theorem dM_merge_63 : decode prog_8_method_31_code 63 = .ok (.land, 1) := by decide +kernel
theorem dM_merge_64 : decode prog_8_method_31_code 64 = .ok (.lconst 1, 1) := by decide +kernel
theorem dM_merge_65 : decode prog_8_method_31_code 65 = .ok (.lcmp, 1) := by decide +kernel
theorem dM_merge_66 : decode prog_8_method_31_code 66 = .ok (.ifCond .ne 5, 3) := by decide +kernel
theorem dM_merge_69 : decode prog_8_method_31_code 69 = .ok (.iconst 0, 1) := by decide +kernel
theorem dM_merge_70 : decode prog_8_method_31_code 70 = .ok (.ireturn, 1) := by decide +kernel
theorem dM_merge_71 : decode prog_8_method_31_code 71 = .ok (.aload_n 0, 1) := by decide +kernel
theorem dM_merge_72 : decode prog_8_method_31_code 72 = .ok (.lconst 1, 1) := by decide +kernel
theorem dM_merge_73 : decode prog_8_method_31_code 73 = .ok (.iload 4, 2) := by decide +kernel
theorem dM_merge_75 : decode prog_8_method_31_code 75 = .ok (.lshl, 1) := by decide +kernel
theorem dM_merge_76 : decode prog_8_method_31_code 76 = .ok (.invokevirtual 96, 3) := by decide +kernel
theorem dM_merge_79 : decode prog_8_method_31_code 79 = .ok (.iload_n 3, 1) := by decide +kernel
theorem dM_merge_80 : decode prog_8_method_31_code 80 = .ok (.lshr, 1) := by decide +kernel
theorem dM_merge_81 : decode prog_8_method_31_code 81 = .ok (.lconst 1, 1) := by decide +kernel
theorem dM_merge_82 : decode prog_8_method_31_code 82 = .ok (.land, 1) := by decide +kernel
theorem dM_merge_83 : decode prog_8_method_31_code 83 = .ok (.lconst 1, 1) := by decide +kernel
theorem dM_merge_84 : decode prog_8_method_31_code 84 = .ok (.lcmp, 1) := by decide +kernel
theorem dM_merge_85 : decode prog_8_method_31_code 85 = .ok (.ifCond .ne 11, 3) := by decide +kernel
theorem dM_merge_88 : decode prog_8_method_31_code 88 = .ok (.aload_n 0, 1) := by decide +kernel
theorem dM_merge_89 : decode prog_8_method_31_code 89 = .ok (.iload 4, 2) := by decide +kernel
theorem dM_merge_91 : decode prog_8_method_31_code 91 = .ok (.invokevirtual 67, 3) := by decide +kernel
theorem dM_merge_94 : decode prog_8_method_31_code 94 = .ok (.iconst 1, 1) := by decide +kernel
theorem dM_merge_95 : decode prog_8_method_31_code 95 = .ok (.ireturn, 1) := by decide +kernel
theorem dM_merge_96 : decode prog_8_method_31_code 96 = .ok (.aload_n 0, 1) := by decide +kernel
theorem dM_merge_97 : decode prog_8_method_31_code 97 = .ok (.iload_n 3, 1) := by decide +kernel
theorem dM_merge_98 : decode prog_8_method_31_code 98 = .ok (.iload 4, 2) := by decide +kernel
theorem dM_merge_100 : decode prog_8_method_31_code 100 = .ok (.invokevirtual 125, 3) := by decide +kernel
theorem dM_merge_103 : decode prog_8_method_31_code 103 = .ok (.istore 5, 2) := by decide +kernel
theorem dM_merge_105 : decode prog_8_method_31_code 105 = .ok (.iconst 0, 1) := by decide +kernel
theorem dM_merge_106 : decode prog_8_method_31_code 106 = .ok (.istore 6, 2) := by decide +kernel
theorem dM_merge_108 : decode prog_8_method_31_code 108 = .ok (.iload 6, 2) := by decide +kernel
theorem dM_merge_110 : decode prog_8_method_31_code 110 = .ok (.iconst 2, 1) := by decide +kernel
theorem dM_merge_111 : decode prog_8_method_31_code 111 = .ok (.if_icmp .ge 151, 3) := by decide +kernel
theorem dM_merge_114 : decode prog_8_method_31_code 114 = .ok (.aload_n 0, 1) := by decide +kernel
theorem dM_merge_115 : decode prog_8_method_31_code 115 = .ok (.iload 6, 2) := by decide +kernel
theorem dM_merge_117 : decode prog_8_method_31_code 117 = .ok (.iload 5, 2) := by decide +kernel
theorem dM_merge_119 : decode prog_8_method_31_code 119 = .ok (.iload_n 3, 1) := by decide +kernel
theorem dM_merge_120 : decode prog_8_method_31_code 120 = .ok (.iload 4, 2) := by decide +kernel
theorem dM_merge_122 : decode prog_8_method_31_code 122 = .ok (.iload_n 2, 1) := by decide +kernel
theorem dM_merge_123 : decode prog_8_method_31_code 123 = .ok (.invokevirtual 128, 3) := by decide +kernel
theorem dM_merge_126 : decode prog_8_method_31_code 126 = .ok (.aload_n 0, 1) := by decide +kernel
theorem dM_merge_127 : decode prog_8_method_31_code 127 = .ok (.getfield 17, 3) := by decide +kernel
theorem dM_merge_130 : decode prog_8_method_31_code 130 = .ok (.iconst 2, 1) := by decide +kernel
theorem dM_merge_131 : decode prog_8_method_31_code 131 = .ok (.aload_n 0, 1) := by decide +kernel
theorem dM_merge_132 : decode prog_8_method_31_code 132 = .ok (.getfield 7, 3) := by decide +kernel
theorem dM_merge_135 : decode prog_8_method_31_code 135 = .ok (.imul, 1) := by decide +kernel
theorem dM_merge_136 : decode prog_8_method_31_code 136 = .ok (.iload 6, 2) := by decide +kernel
theorem dM_merge_138 : decode prog_8_method_31_code 138 = .ok (.iadd, 1) := by decide +kernel
theorem dM_merge_139 : decode prog_8_method_31_code 139 = .ok (.aload_n 0, 1) := by decide +kernel
theorem dM_merge_140 : decode prog_8_method_31_code 140 = .ok (.getfield 17, 3) := by decide +kernel
theorem dM_merge_143 : decode prog_8_method_31_code 143 = .ok (.iconst 2, 1) := by decide +kernel
theorem dM_merge_144 : decode prog_8_method_31_code 144 = .ok (.iload_n 3, 1) := by decide +kernel
theorem dM_merge_145 : decode prog_8_method_31_code 145 = .ok (.imul, 1) := by decide +kernel
theorem dM_merge_146 : decode prog_8_method_31_code 146 = .ok (.iload 6, 2) := by decide +kernel
theorem dM_merge_148 : decode prog_8_method_31_code 148 = .ok (.iadd, 1) := by decide +kernel
theorem dM_merge_149 : decode prog_8_method_31_code 149 = .ok (.laload, 1) := by decide +kernel
theorem dM_merge_150 : decode prog_8_method_31_code 150 = .ok (.aload_n 0, 1) := by decide +kernel
theorem dM_merge_151 : decode prog_8_method_31_code 151 = .ok (.getfield 17, 3) := by decide +kernel
theorem dM_merge_154 : decode prog_8_method_31_code 154 = .ok (.iconst 2, 1) := by decide +kernel
theorem dM_merge_155 : decode prog_8_method_31_code 155 = .ok (.iload 4, 2) := by decide +kernel
theorem dM_merge_157 : decode prog_8_method_31_code 157 = .ok (.imul, 1) := by decide +kernel
theorem dM_merge_158 : decode prog_8_method_31_code 158 = .ok (.iload 6, 2) := by decide +kernel
theorem dM_merge_160 : decode prog_8_method_31_code 160 = .ok (.iadd, 1) := by decide +kernel
theorem dM_merge_161 : decode prog_8_method_31_code 161 = .ok (.laload, 1) := by decide +kernel
theorem dM_merge_162 : decode prog_8_method_31_code 162 = .ok (.ladd, 1) := by decide +kernel
theorem dM_merge_163 : decode prog_8_method_31_code 163 = .ok (.aload_n 0, 1) := by decide +kernel
theorem dM_merge_164 : decode prog_8_method_31_code 164 = .ok (.getfield 17, 3) := by decide +kernel
theorem dM_merge_167 : decode prog_8_method_31_code 167 = .ok (.iconst 2, 1) := by decide +kernel
theorem dM_merge_168 : decode prog_8_method_31_code 168 = .ok (.iload 5, 2) := by decide +kernel
theorem dM_merge_170 : decode prog_8_method_31_code 170 = .ok (.imul, 1) := by decide +kernel
theorem dM_merge_171 : decode prog_8_method_31_code 171 = .ok (.iload 6, 2) := by decide +kernel
theorem dM_merge_173 : decode prog_8_method_31_code 173 = .ok (.iadd, 1) := by decide +kernel
theorem dM_merge_174 : decode prog_8_method_31_code 174 = .ok (.laload, 1) := by decide +kernel
theorem dM_merge_175 : decode prog_8_method_31_code 175 = .ok (.lsub, 1) := by decide +kernel
theorem dM_merge_176 : decode prog_8_method_31_code 176 = .ok (.lastore, 1) := by decide +kernel
theorem dM_merge_177 : decode prog_8_method_31_code 177 = .ok (.aload_n 0, 1) := by decide +kernel
theorem dM_merge_178 : decode prog_8_method_31_code 178 = .ok (.getfield 21, 3) := by decide +kernel
theorem dM_merge_181 : decode prog_8_method_31_code 181 = .ok (.iconst 2, 1) := by decide +kernel
theorem dM_merge_182 : decode prog_8_method_31_code 182 = .ok (.iload_n 3, 1) := by decide +kernel
theorem dM_merge_183 : decode prog_8_method_31_code 183 = .ok (.imul, 1) := by decide +kernel
theorem dM_merge_184 : decode prog_8_method_31_code 184 = .ok (.iload 6, 2) := by decide +kernel
theorem dM_merge_186 : decode prog_8_method_31_code 186 = .ok (.iadd, 1) := by decide +kernel
theorem dM_merge_187 : decode prog_8_method_31_code 187 = .ok (.iaload, 1) := by decide +kernel
theorem dM_merge_188 : decode prog_8_method_31_code 188 = .ok (.istore 7, 2) := by decide +kernel
theorem dM_merge_190 : decode prog_8_method_31_code 190 = .ok (.aload_n 0, 1) := by decide +kernel
theorem dM_merge_191 : decode prog_8_method_31_code 191 = .ok (.getfield 21, 3) := by decide +kernel
theorem dM_merge_194 : decode prog_8_method_31_code 194 = .ok (.iconst 2, 1) := by decide +kernel
theorem dM_merge_195 : decode prog_8_method_31_code 195 = .ok (.iload 4, 2) := by decide +kernel
theorem dM_merge_197 : decode prog_8_method_31_code 197 = .ok (.imul, 1) := by decide +kernel
theorem dM_merge_198 : decode prog_8_method_31_code 198 = .ok (.iload 6, 2) := by decide +kernel
theorem dM_merge_200 : decode prog_8_method_31_code 200 = .ok (.iadd, 1) := by decide +kernel
theorem dM_merge_201 : decode prog_8_method_31_code 201 = .ok (.iaload, 1) := by decide +kernel
theorem dM_merge_202 : decode prog_8_method_31_code 202 = .ok (.istore 8, 2) := by decide +kernel
theorem dM_merge_204 : decode prog_8_method_31_code 204 = .ok (.aload_n 0, 1) := by decide +kernel
theorem dM_merge_205 : decode prog_8_method_31_code 205 = .ok (.getfield 21, 3) := by decide +kernel
theorem dM_merge_208 : decode prog_8_method_31_code 208 = .ok (.iconst 2, 1) := by decide +kernel
theorem dM_merge_209 : decode prog_8_method_31_code 209 = .ok (.aload_n 0, 1) := by decide +kernel
theorem dM_merge_210 : decode prog_8_method_31_code 210 = .ok (.getfield 7, 3) := by decide +kernel
theorem dM_merge_213 : decode prog_8_method_31_code 213 = .ok (.imul, 1) := by decide +kernel
theorem dM_merge_214 : decode prog_8_method_31_code 214 = .ok (.iload 6, 2) := by decide +kernel
theorem dM_merge_216 : decode prog_8_method_31_code 216 = .ok (.iadd, 1) := by decide +kernel
theorem dM_merge_217 : decode prog_8_method_31_code 217 = .ok (.iload 7, 2) := by decide +kernel
theorem dM_merge_219 : decode prog_8_method_31_code 219 = .ok (.iload 8, 2) := by decide +kernel
theorem dM_merge_221 : decode prog_8_method_31_code 221 = .ok (.iand, 1) := by decide +kernel
theorem dM_merge_222 : decode prog_8_method_31_code 222 = .ok (.iload 7, 2) := by decide +kernel
theorem dM_merge_224 : decode prog_8_method_31_code 224 = .ok (.iload 8, 2) := by decide +kernel
theorem dM_merge_226 : decode prog_8_method_31_code 226 = .ok (.ior, 1) := by decide +kernel
theorem dM_merge_227 : decode prog_8_method_31_code 227 = .ok (.aload_n 0, 1) := by decide +kernel
theorem dM_merge_228 : decode prog_8_method_31_code 228 = .ok (.getfield 21, 3) := by decide +kernel
theorem dM_merge_231 : decode prog_8_method_31_code 231 = .ok (.iconst 2, 1) := by decide +kernel
theorem dM_merge_232 : decode prog_8_method_31_code 232 = .ok (.iload 5, 2) := by decide +kernel
theorem dM_merge_234 : decode prog_8_method_31_code 234 = .ok (.imul, 1) := by decide +kernel
theorem dM_merge_235 : decode prog_8_method_31_code 235 = .ok (.iload 6, 2) := by decide +kernel
theorem dM_merge_237 : decode prog_8_method_31_code 237 = .ok (.iadd, 1) := by decide +kernel
theorem dM_merge_238 : decode prog_8_method_31_code 238 = .ok (.iaload, 1) := by decide +kernel
theorem dM_merge_239 : decode prog_8_method_31_code 239 = .ok (.iconst (-1), 1) := by decide +kernel
theorem dM_merge_240 : decode prog_8_method_31_code 240 = .ok (.ixor, 1) := by decide +kernel
theorem dM_merge_241 : decode prog_8_method_31_code 241 = .ok (.iand, 1) := by decide +kernel
theorem dM_merge_242 : decode prog_8_method_31_code 242 = .ok (.ior, 1) := by decide +kernel
theorem dM_merge_243 : decode prog_8_method_31_code 243 = .ok (.iastore, 1) := by decide +kernel
theorem dM_merge_244 : decode prog_8_method_31_code 244 = .ok (.aload_n 0, 1) := by decide +kernel
theorem dM_merge_245 : decode prog_8_method_31_code 245 = .ok (.iload 6, 2) := by decide +kernel
theorem dM_merge_247 : decode prog_8_method_31_code 247 = .ok (.iload 5, 2) := by decide +kernel
theorem dM_merge_249 : decode prog_8_method_31_code 249 = .ok (.iload_n 3, 1) := by decide +kernel
theorem dM_merge_250 : decode prog_8_method_31_code 250 = .ok (.iload 4, 2) := by decide +kernel
theorem dM_merge_252 : decode prog_8_method_31_code 252 = .ok (.iload_n 2, 1) := by decide +kernel
theorem dM_merge_253 : decode prog_8_method_31_code 253 = .ok (.invokevirtual 132, 3) := by decide +kernel
theorem dM_merge_256 : decode prog_8_method_31_code 256 = .ok (.iinc 6 1, 3) := by decide +kernel
theorem dM_merge_259 : decode prog_8_method_31_code 259 = .ok (.goto (-151), 3) := by decide +kernel
theorem dM_merge_262 : decode prog_8_method_31_code 262 = .ok (.aload_n 0, 1) := by decide +kernel
theorem dM_merge_263 : decode prog_8_method_31_code 263 = .ok (.aload_n 0, 1) := by decide +kernel
theorem dM_merge_264 : decode prog_8_method_31_code 264 = .ok (.getfield 104, 3) := by decide +kernel
theorem dM_merge_267 : decode prog_8_method_31_code 267 = .ok (.ifCond .eq 7, 3) := by decide +kernel
theorem dM_merge_270 : decode prog_8_method_31_code 270 = .ok (.iload_n 2, 1) := by decide +kernel
theorem dM_merge_271 : decode prog_8_method_31_code 271 = .ok (.ifCond .eq 12, 3) := by decide +kernel
theorem dM_merge_274 : decode prog_8_method_31_code 274 = .ok (.aload_n 0, 1) := by decide +kernel
theorem dM_merge_275 : decode prog_8_method_31_code 275 = .ok (.getfield 7, 3) := by decide +kernel
theorem dM_merge_278 : decode prog_8_method_31_code 278 = .ok (.bipush 60, 2) := by decide +kernel
theorem dM_merge_280 : decode prog_8_method_31_code 280 = .ok (.if_icmp .ne 7, 3) := by decide +kernel
theorem dM_merge_283 : decode prog_8_method_31_code 283 = .ok (.iconst 2, 1) := by decide +kernel
theorem dM_merge_284 : decode prog_8_method_31_code 284 = .ok (.goto 4, 3) := by decide +kernel
theorem dM_merge_287 : decode prog_8_method_31_code 287 = .ok (.iconst 0, 1) := by decide +kernel
theorem dM_merge_288 : decode prog_8_method_31_code 288 = .ok (.putfield 57, 3) := by decide +kernel
theorem dM_merge_291 : decode prog_8_method_31_code 291 = .ok (.aload_n 0, 1) := by decide +kernel
theorem dM_merge_292 : decode prog_8_method_31_code 292 = .ok (.getfield 57, 3) := by decide +kernel
theorem dM_merge_295 : decode prog_8_method_31_code 295 = .ok (.ifCond .le 5, 3) := by decide +kernel
theorem dM_merge_298 : decode prog_8_method_31_code 298 = .ok (.iconst 0, 1) := by decide +kernel
theorem dM_merge_299 : decode prog_8_method_31_code 299 = .ok (.ireturn, 1) := by decide +kernel
theorem dM_merge_300 : decode prog_8_method_31_code 300 = .ok (.aload_n 0, 1) := by decide +kernel
theorem dM_merge_301 : decode prog_8_method_31_code 301 = .ok (.iload_n 3, 1) := by decide +kernel
theorem dM_merge_302 : decode prog_8_method_31_code 302 = .ok (.iload 4, 2) := by decide +kernel
theorem dM_merge_304 : decode prog_8_method_31_code 304 = .ok (.invokevirtual 79, 3) := by decide +kernel
theorem dM_merge_307 : decode prog_8_method_31_code 307 = .ok (.pop, 1) := by decide +kernel
theorem dM_merge_308 : decode prog_8_method_31_code 308 = .ok (.iconst 2, 1) := by decide +kernel
theorem dM_merge_309 : decode prog_8_method_31_code 309 = .ok (.ireturn, 1) := by decide +kernel
theorem dM_conflicts_0 : decode prog_8_method_32_code 0 = .ok (.aload_n 0, 1) := by decide +kernel
theorem dM_conflicts_1 : decode prog_8_method_32_code 1 = .ok (.iconst 0, 1) := by decide +kernel
theorem dM_conflicts_2 : decode prog_8_method_32_code 2 = .ok (.putfield 57, 3) := by decide +kernel
theorem dM_conflicts_5 : decode prog_8_method_32_code 5 = .ok (.aload_n 0, 1) := by decide +kernel
theorem dM_conflicts_6 : decode prog_8_method_32_code 6 = .ok (.getfield 104, 3) := by decide +kernel
theorem dM_conflicts_9 : decode prog_8_method_32_code 9 = .ok (.ireturn, 1) := by decide +kernel
theorem dM_base_0 : decode prog_8_method_33_code 0 = .ok (.aload_n 0, 1) := by decide +kernel
theorem dM_base_1 : decode prog_8_method_33_code 1 = .ok (.iload_n 1, 1) := by decide +kernel
theorem dM_base_2 : decode prog_8_method_33_code 2 = .ok (.invokestatic 89, 3) := by decide +kernel
theorem dM_base_5 : decode prog_8_method_33_code 5 = .ok (.ifCond .eq 7, 3) := by decide +kernel
theorem dM_base_8 : decode prog_8_method_33_code 8 = .ok (.iconst 0, 1) := by decide +kernel
theorem dM_base_9 : decode prog_8_method_33_code 9 = .ok (.goto 4, 3) := by decide +kernel
theorem dM_base_12 : decode prog_8_method_33_code 12 = .ok (.iconst 1, 1) := by decide +kernel
theorem dM_base_13 : decode prog_8_method_33_code 13 = .ok (.putfield 57, 3) := by decide +kernel
theorem dM_base_16 : decode prog_8_method_33_code 16 = .ok (.aload_n 0, 1) := by decide +kernel
theorem dM_base_17 : decode prog_8_method_33_code 17 = .ok (.getfield 57, 3) := by decide +kernel
theorem dM_base_20 : decode prog_8_method_33_code 20 = .ok (.ifCond .ne 20, 3) := by decide +kernel
theorem dM_base_23 : decode prog_8_method_33_code 23 = .ok (.aload_n 0, 1) := by decide +kernel
theorem dM_base_24 : decode prog_8_method_33_code 24 = .ok (.aload_n 0, 1) := by decide +kernel
theorem dM_base_25 : decode prog_8_method_33_code 25 = .ok (.invokevirtual 71, 3) := by decide +kernel
theorem dM_base_28 : decode prog_8_method_33_code 28 = .ok (.aload_n 0, 1) := by decide +kernel
theorem dM_base_29 : decode prog_8_method_33_code 29 = .ok (.getfield 36, 3) := by decide +kernel
theorem dM_base_32 : decode prog_8_method_33_code 32 = .ok (.iload_n 1, 1) := by decide +kernel
theorem dM_base_33 : decode prog_8_method_33_code 33 = .ok (.iaload, 1) := by decide +kernel
theorem dM_base_34 : decode prog_8_method_33_code 34 = .ok (.invokevirtual 125, 3) := by decide +kernel
theorem dM_base_37 : decode prog_8_method_33_code 37 = .ok (.goto 4, 3) := by decide +kernel
theorem dM_base_40 : decode prog_8_method_33_code 40 = .ok (.iconst 0, 1) := by decide +kernel
theorem dM_base_41 : decode prog_8_method_33_code 41 = .ok (.ireturn, 1) := by decide +kernel
theorem dM_value_0 : decode prog_8_method_34_code 0 = .ok (.aload_n 0, 1) := by decide +kernel
theorem dM_value_1 : decode prog_8_method_34_code 1 = .ok (.aload_n 0, 1) := by decide +kernel
theorem dM_value_2 : decode prog_8_method_34_code 2 = .ok (.iload_n 1, 1) := by decide +kernel
theorem dM_value_3 : decode prog_8_method_34_code 3 = .ok (.invokevirtual 93, 3) := by decide +kernel
theorem dM_value_6 : decode prog_8_method_34_code 6 = .ok (.ifCond .eq 13, 3) := by decide +kernel
theorem dM_value_9 : decode prog_8_method_34_code 9 = .ok (.iload_n 2, 1) := by decide +kernel
theorem dM_value_10 : decode prog_8_method_34_code 10 = .ok (.ifCond .lt 9, 3) := by decide +kernel
theorem dM_value_13 : decode prog_8_method_34_code 13 = .ok (.iload_n 2, 1) := by decide +kernel
theorem dM_value_14 : decode prog_8_method_34_code 14 = .ok (.bipush 7, 2) := by decide +kernel
theorem dM_value_16 : decode prog_8_method_34_code 16 = .ok (.if_icmp .le 7, 3) := by decide +kernel
theorem dM_value_19 : decode prog_8_method_34_code 19 = .ok (.iconst 1, 1) := by decide +kernel
theorem dM_value_20 : decode prog_8_method_34_code 20 = .ok (.goto 4, 3) := by decide +kernel
theorem dM_value_23 : decode prog_8_method_34_code 23 = .ok (.iconst 0, 1) := by decide +kernel
theorem dM_value_24 : decode prog_8_method_34_code 24 = .ok (.putfield 57, 3) := by decide +kernel
theorem dM_value_27 : decode prog_8_method_34_code 27 = .ok (.aload_n 0, 1) := by decide +kernel
theorem dM_value_28 : decode prog_8_method_34_code 28 = .ok (.getfield 57, 3) := by decide +kernel
theorem dM_value_31 : decode prog_8_method_34_code 31 = .ok (.ifCond .le 5, 3) := by decide +kernel
theorem dM_value_34 : decode prog_8_method_34_code 34 = .ok (.lconst 0, 1) := by decide +kernel
theorem dM_value_35 : decode prog_8_method_34_code 35 = .ok (.lreturn, 1) := by decide +kernel
theorem dM_value_36 : decode prog_8_method_34_code 36 = .ok (.iconst 2, 1) := by decide +kernel
theorem dM_value_37 : decode prog_8_method_34_code 37 = .ok (.iload_n 1, 1) := by decide +kernel
theorem dM_value_38 : decode prog_8_method_34_code 38 = .ok (.imul, 1) := by decide +kernel
theorem dM_value_39 : decode prog_8_method_34_code 39 = .ok (.iload_n 2, 1) := by decide +kernel
theorem dM_value_40 : decode prog_8_method_34_code 40 = .ok (.iconst 2, 1) := by decide +kernel
theorem dM_value_41 : decode prog_8_method_34_code 41 = .ok (.irem, 1) := by decide +kernel
theorem dM_value_42 : decode prog_8_method_34_code 42 = .ok (.iadd, 1) := by decide +kernel
theorem dM_value_43 : decode prog_8_method_34_code 43 = .ok (.istore 4, 2) := by decide +kernel
theorem dM_value_45 : decode prog_8_method_34_code 45 = .ok (.iload_n 2, 1) := by decide +kernel
theorem dM_value_46 : decode prog_8_method_34_code 46 = .ok (.bipush 6, 2) := by decide +kernel
theorem dM_value_48 : decode prog_8_method_34_code 48 = .ok (.if_icmp .ge 47, 3) := by decide +kernel
theorem dM_value_51 : decode prog_8_method_34_code 51 = .ok (.iload_n 2, 1) := by decide +kernel
theorem dM_value_52 : decode prog_8_method_34_code 52 = .ok (.iconst 2, 1) := by decide +kernel
theorem dM_value_53 : decode prog_8_method_34_code 53 = .ok (.if_icmp .ge 14, 3) := by decide +kernel
theorem dM_value_56 : decode prog_8_method_34_code 56 = .ok (.aload_n 0, 1) := by decide +kernel
theorem dM_value_57 : decode prog_8_method_34_code 57 = .ok (.getfield 13, 3) := by decide +kernel
theorem dM_value_60 : decode prog_8_method_34_code 60 = .ok (.iload 4, 2) := by decide +kernel
theorem dM_value_62 : decode prog_8_method_34_code 62 = .ok (.iaload, 1) := by decide +kernel
theorem dM_value_63 : decode prog_8_method_34_code 63 = .ok (.i2l, 1) := by decide +kernel
theorem dM_value_64 : decode prog_8_method_34_code 64 = .ok (.goto 30, 3) := by decide +kernel
theorem dM_value_67 : decode prog_8_method_34_code 67 = .ok (.iload_n 2, 1) := by decide +kernel
theorem dM_value_68 : decode prog_8_method_34_code 68 = .ok (.iconst 4, 1) := by decide +kernel
theorem dM_value_69 : decode prog_8_method_34_code 69 = .ok (.if_icmp .ge 13, 3) := by decide +kernel
theorem dM_value_72 : decode prog_8_method_34_code 72 = .ok (.aload_n 0, 1) := by decide +kernel
theorem dM_value_73 : decode prog_8_method_34_code 73 = .ok (.getfield 17, 3) := by decide +kernel
theorem dM_value_76 : decode prog_8_method_34_code 76 = .ok (.iload 4, 2) := by decide +kernel
theorem dM_value_78 : decode prog_8_method_34_code 78 = .ok (.laload, 1) := by decide +kernel
theorem dM_value_79 : decode prog_8_method_34_code 79 = .ok (.goto 15, 3) := by decide +kernel
theorem dM_value_82 : decode prog_8_method_34_code 82 = .ok (.aload_n 0, 1) := by decide +kernel
theorem dM_value_83 : decode prog_8_method_34_code 83 = .ok (.getfield 21, 3) := by decide +kernel
theorem dM_value_86 : decode prog_8_method_34_code 86 = .ok (.iload 4, 2) := by decide +kernel
theorem dM_value_88 : decode prog_8_method_34_code 88 = .ok (.iaload, 1) := by decide +kernel
theorem dM_value_89 : decode prog_8_method_34_code 89 = .ok (.i2l, 1) := by decide +kernel
theorem dM_value_90 : decode prog_8_method_34_code 90 = .ok (.ldc2_w 135, 3) := by decide +kernel
theorem dM_value_93 : decode prog_8_method_34_code 93 = .ok (.land, 1) := by decide +kernel
theorem dM_value_94 : decode prog_8_method_34_code 94 = .ok (.lreturn, 1) := by decide +kernel
theorem dM_value_95 : decode prog_8_method_34_code 95 = .ok (.aload_n 0, 1) := by decide +kernel
theorem dM_value_96 : decode prog_8_method_34_code 96 = .ok (.iload_n 3, 1) := by decide +kernel
theorem dM_value_97 : decode prog_8_method_34_code 97 = .ok (.iconst (-1), 1) := by decide +kernel
theorem dM_value_98 : decode prog_8_method_34_code 98 = .ok (.if_icmp .lt 14, 3) := by decide +kernel
theorem dM_value_101 : decode prog_8_method_34_code 101 = .ok (.iload_n 3, 1) := by decide +kernel
theorem dM_value_102 : decode prog_8_method_34_code 102 = .ok (.aload_n 0, 1) := by decide +kernel
theorem dM_value_103 : decode prog_8_method_34_code 103 = .ok (.getfield 27, 3) := by decide +kernel
theorem dM_value_106 : decode prog_8_method_34_code 106 = .ok (.iload 4, 2) := by decide +kernel
theorem dM_value_108 : decode prog_8_method_34_code 108 = .ok (.iaload, 1) := by decide +kernel
theorem dM_value_109 : decode prog_8_method_34_code 109 = .ok (.if_icmp .lt 7, 3) := by decide +kernel
theorem dM_value_112 : decode prog_8_method_34_code 112 = .ok (.iconst 2, 1) := by decide +kernel
theorem dM_value_113 : decode prog_8_method_34_code 113 = .ok (.goto 4, 3) := by decide +kernel
theorem dM_value_116 : decode prog_8_method_34_code 116 = .ok (.iconst 0, 1) := by decide +kernel
theorem dM_value_117 : decode prog_8_method_34_code 117 = .ok (.putfield 57, 3) := by decide +kernel
theorem dM_value_120 : decode prog_8_method_34_code 120 = .ok (.aload_n 0, 1) := by decide +kernel
theorem dM_value_121 : decode prog_8_method_34_code 121 = .ok (.getfield 57, 3) := by decide +kernel
theorem dM_value_124 : decode prog_8_method_34_code 124 = .ok (.ifCond .le 7, 3) := by decide +kernel
theorem dM_value_127 : decode prog_8_method_34_code 127 = .ok (.lconst 0, 1) := by decide +kernel
theorem dM_value_128 : decode prog_8_method_34_code 128 = .ok (.goto 29, 3) := by decide +kernel
theorem dM_value_131 : decode prog_8_method_34_code 131 = .ok (.iload_n 3, 1) := by decide +kernel
theorem dM_value_132 : decode prog_8_method_34_code 132 = .ok (.ifCond .ge 14, 3) := by decide +kernel
theorem dM_value_135 : decode prog_8_method_34_code 135 = .ok (.aload_n 0, 1) := by decide +kernel
theorem dM_value_136 : decode prog_8_method_34_code 136 = .ok (.getfield 27, 3) := by decide +kernel
theorem dM_value_139 : decode prog_8_method_34_code 139 = .ok (.iload 4, 2) := by decide +kernel
theorem dM_value_141 : decode prog_8_method_34_code 141 = .ok (.iaload, 1) := by decide +kernel
theorem dM_value_142 : decode prog_8_method_34_code 142 = .ok (.i2l, 1) := by decide +kernel
theorem dM_value_143 : decode prog_8_method_34_code 143 = .ok (.goto 14, 3) := by decide +kernel
theorem dM_value_146 : decode prog_8_method_34_code 146 = .ok (.aload_n 0, 1) := by decide +kernel
theorem dM_value_147 : decode prog_8_method_34_code 147 = .ok (.iload_n 1, 1) := by decide +kernel
theorem dM_value_148 : decode prog_8_method_34_code 148 = .ok (.iload_n 2, 1) := by decide +kernel
theorem dM_value_149 : decode prog_8_method_34_code 149 = .ok (.bipush 6, 2) := by decide +kernel
theorem dM_value_151 : decode prog_8_method_34_code 151 = .ok (.isub, 1) := by decide +kernel
theorem dM_value_152 : decode prog_8_method_34_code 152 = .ok (.iload_n 3, 1) := by decide +kernel
theorem dM_value_153 : decode prog_8_method_34_code 153 = .ok (.invokevirtual 107, 3) := by decide +kernel
theorem dM_value_156 : decode prog_8_method_34_code 156 = .ok (.i2l, 1) := by decide +kernel
theorem dM_value_157 : decode prog_8_method_34_code 157 = .ok (.lreturn, 1) := by decide +kernel
theorem dM_differ_0 : decode prog_8_method_35_code 0 = .ok (.aload_n 0, 1) := by decide +kernel
theorem dM_differ_1 : decode prog_8_method_35_code 1 = .ok (.aload_n 0, 1) := by decide +kernel
theorem dM_differ_2 : decode prog_8_method_35_code 2 = .ok (.iload_n 1, 1) := by decide +kernel
theorem dM_differ_3 : decode prog_8_method_35_code 3 = .ok (.invokevirtual 93, 3) := by decide +kernel
theorem dM_differ_6 : decode prog_8_method_35_code 6 = .ok (.ifCond .eq 15, 3) := by decide +kernel
theorem dM_differ_9 : decode prog_8_method_35_code 9 = .ok (.aload_n 0, 1) := by decide +kernel
theorem dM_differ_10 : decode prog_8_method_35_code 10 = .ok (.iload_n 2, 1) := by decide +kernel
theorem dM_differ_11 : decode prog_8_method_35_code 11 = .ok (.invokevirtual 93, 3) := by decide +kernel
theorem dM_differ_14 : decode prog_8_method_35_code 14 = .ok (.ifCond .eq 7, 3) := by decide +kernel
theorem dM_differ_17 : decode prog_8_method_35_code 17 = .ok (.iconst 0, 1) := by decide +kernel
theorem dM_differ_18 : decode prog_8_method_35_code 18 = .ok (.goto 4, 3) := by decide +kernel
theorem dM_differ_21 : decode prog_8_method_35_code 21 = .ok (.iconst 1, 1) := by decide +kernel
theorem dM_differ_22 : decode prog_8_method_35_code 22 = .ok (.putfield 57, 3) := by decide +kernel
theorem dM_differ_25 : decode prog_8_method_35_code 25 = .ok (.aload_n 0, 1) := by decide +kernel
theorem dM_differ_26 : decode prog_8_method_35_code 26 = .ok (.getfield 57, 3) := by decide +kernel
theorem dM_differ_29 : decode prog_8_method_35_code 29 = .ok (.ifCond .ne 12, 3) := by decide +kernel
theorem dM_differ_32 : decode prog_8_method_35_code 32 = .ok (.aload_n 0, 1) := by decide +kernel
theorem dM_differ_33 : decode prog_8_method_35_code 33 = .ok (.iload_n 1, 1) := by decide +kernel
theorem dM_differ_34 : decode prog_8_method_35_code 34 = .ok (.iload_n 2, 1) := by decide +kernel
theorem dM_differ_35 : decode prog_8_method_35_code 35 = .ok (.invokevirtual 75, 3) := by decide +kernel
theorem dM_differ_38 : decode prog_8_method_35_code 38 = .ok (.goto 4, 3) := by decide +kernel
theorem dM_differ_41 : decode prog_8_method_35_code 41 = .ok (.iconst 0, 1) := by decide +kernel
theorem dM_differ_42 : decode prog_8_method_35_code 42 = .ok (.ireturn, 1) := by decide +kernel
theorem dM_parent_0 : decode prog_8_method_36_code 0 = .ok (.aload_n 0, 1) := by decide +kernel
theorem dM_parent_1 : decode prog_8_method_36_code 1 = .ok (.aload_n 0, 1) := by decide +kernel
theorem dM_parent_2 : decode prog_8_method_36_code 2 = .ok (.iload_n 1, 1) := by decide +kernel
theorem dM_parent_3 : decode prog_8_method_36_code 3 = .ok (.invokevirtual 93, 3) := by decide +kernel
theorem dM_parent_6 : decode prog_8_method_36_code 6 = .ok (.ifCond .eq 7, 3) := by decide +kernel
theorem dM_parent_9 : decode prog_8_method_36_code 9 = .ok (.iconst 0, 1) := by decide +kernel
theorem dM_parent_10 : decode prog_8_method_36_code 10 = .ok (.goto 4, 3) := by decide +kernel
theorem dM_parent_13 : decode prog_8_method_36_code 13 = .ok (.iconst 1, 1) := by decide +kernel
theorem dM_parent_14 : decode prog_8_method_36_code 14 = .ok (.putfield 57, 3) := by decide +kernel
theorem dM_parent_17 : decode prog_8_method_36_code 17 = .ok (.aload_n 0, 1) := by decide +kernel
theorem dM_parent_18 : decode prog_8_method_36_code 18 = .ok (.getfield 57, 3) := by decide +kernel
theorem dM_parent_21 : decode prog_8_method_36_code 21 = .ok (.ifCond .le 7, 3) := by decide +kernel
theorem dM_parent_24 : decode prog_8_method_36_code 24 = .ok (.iconst 0, 1) := by decide +kernel
theorem dM_parent_25 : decode prog_8_method_36_code 25 = .ok (.goto 22, 3) := by decide +kernel
theorem dM_parent_28 : decode prog_8_method_36_code 28 = .ok (.iload_n 2, 1) := by decide +kernel
theorem dM_parent_29 : decode prog_8_method_36_code 29 = .ok (.ifCond .eq 12, 3) := by decide +kernel
theorem dM_parent_32 : decode prog_8_method_36_code 32 = .ok (.aload_n 0, 1) := by decide +kernel
theorem dM_parent_33 : decode prog_8_method_36_code 33 = .ok (.getfield 33, 3) := by decide +kernel
theorem dM_parent_36 : decode prog_8_method_36_code 36 = .ok (.iload_n 1, 1) := by decide +kernel
theorem dM_parent_37 : decode prog_8_method_36_code 37 = .ok (.iaload, 1) := by decide +kernel
theorem dM_parent_38 : decode prog_8_method_36_code 38 = .ok (.goto 9, 3) := by decide +kernel
theorem dM_parent_41 : decode prog_8_method_36_code 41 = .ok (.aload_n 0, 1) := by decide +kernel
theorem dM_parent_42 : decode prog_8_method_36_code 42 = .ok (.getfield 30, 3) := by decide +kernel
theorem dM_parent_45 : decode prog_8_method_36_code 45 = .ok (.iload_n 1, 1) := by decide +kernel
theorem dM_parent_46 : decode prog_8_method_36_code 46 = .ok (.iaload, 1) := by decide +kernel
theorem dM_parent_47 : decode prog_8_method_36_code 47 = .ok (.ireturn, 1) := by decide +kernel
theorem dM_rank_0 : decode prog_8_method_37_code 0 = .ok (.iconst 0, 1) := by decide +kernel
theorem dM_rank_1 : decode prog_8_method_37_code 1 = .ok (.istore_n 3, 1) := by decide +kernel
theorem dM_rank_2 : decode prog_8_method_37_code 2 = .ok (.iconst 0, 1) := by decide +kernel
theorem dM_rank_3 : decode prog_8_method_37_code 3 = .ok (.istore 4, 2) := by decide +kernel
theorem dM_rank_5 : decode prog_8_method_37_code 5 = .ok (.iload 4, 2) := by decide +kernel
theorem dM_rank_7 : decode prog_8_method_37_code 7 = .ok (.iload_n 2, 1) := by decide +kernel
theorem dM_rank_8 : decode prog_8_method_37_code 8 = .ok (.if_icmp .ge 28, 3) := by decide +kernel
theorem dM_rank_11 : decode prog_8_method_37_code 11 = .ok (.iload_n 3, 1) := by decide +kernel
theorem dM_rank_12 : decode prog_8_method_37_code 12 = .ok (.lload_n 0, 1) := by decide +kernel
theorem dM_rank_13 : decode prog_8_method_37_code 13 = .ok (.iload 4, 2) := by decide +kernel
theorem dM_rank_15 : decode prog_8_method_37_code 15 = .ok (.lshr, 1) := by decide +kernel
theorem dM_rank_16 : decode prog_8_method_37_code 16 = .ok (.lconst 1, 1) := by decide +kernel
theorem dM_rank_17 : decode prog_8_method_37_code 17 = .ok (.land, 1) := by decide +kernel
theorem dM_rank_18 : decode prog_8_method_37_code 18 = .ok (.lconst 1, 1) := by decide +kernel
theorem dM_rank_19 : decode prog_8_method_37_code 19 = .ok (.lcmp, 1) := by decide +kernel
theorem dM_rank_20 : decode prog_8_method_37_code 20 = .ok (.ifCond .ne 7, 3) := by decide +kernel
theorem dM_rank_23 : decode prog_8_method_37_code 23 = .ok (.iconst 1, 1) := by decide +kernel
theorem dM_rank_24 : decode prog_8_method_37_code 24 = .ok (.goto 4, 3) := by decide +kernel
theorem dM_rank_27 : decode prog_8_method_37_code 27 = .ok (.iconst 0, 1) := by decide +kernel
theorem dM_rank_28 : decode prog_8_method_37_code 28 = .ok (.iadd, 1) := by decide +kernel
theorem dM_rank_29 : decode prog_8_method_37_code 29 = .ok (.istore_n 3, 1) := by decide +kernel
theorem dM_rank_30 : decode prog_8_method_37_code 30 = .ok (.iinc 4 1, 3) := by decide +kernel
theorem dM_rank_33 : decode prog_8_method_37_code 33 = .ok (.goto (-28), 3) := by decide +kernel
theorem dM_rank_36 : decode prog_8_method_37_code 36 = .ok (.iload_n 3, 1) := by decide +kernel
theorem dM_rank_37 : decode prog_8_method_37_code 37 = .ok (.ireturn, 1) := by decide +kernel
theorem dM_prune_0 : decode prog_8_method_38_code 0 = .ok (.aload_n 0, 1) := by decide +kernel
theorem dM_prune_1 : decode prog_8_method_38_code 1 = .ok (.iconst 0, 1) := by decide +kernel
theorem dM_prune_2 : decode prog_8_method_38_code 2 = .ok (.putfield 57, 3) := by decide +kernel
theorem dM_prune_5 : decode prog_8_method_38_code 5 = .ok (.lconst 0, 1) := by decide +kernel
theorem dM_prune_6 : decode prog_8_method_38_code 6 = .ok (.lstore_n 1, 1) := by decide +kernel
theorem dM_prune_7 : decode prog_8_method_38_code 7 = .ok (.iconst 0, 1) := by decide +kernel
theorem dM_prune_8 : decode prog_8_method_38_code 8 = .ok (.istore_n 3, 1) := by decide +kernel
theorem dM_prune_9 : decode prog_8_method_38_code 9 = .ok (.iload_n 3, 1) := by decide +kernel
theorem dM_prune_10 : decode prog_8_method_38_code 10 = .ok (.iconst 4, 1) := by decide +kernel
theorem dM_prune_11 : decode prog_8_method_38_code 11 = .ok (.if_icmp .ge 57, 3) := by decide +kernel
theorem dM_prune_14 : decode prog_8_method_38_code 14 = .ok (.lload_n 1, 1) := by decide +kernel
theorem dM_prune_15 : decode prog_8_method_38_code 15 = .ok (.lconst 1, 1) := by decide +kernel
theorem dM_prune_16 : decode prog_8_method_38_code 16 = .ok (.aload_n 0, 1) := by decide +kernel
theorem dM_prune_17 : decode prog_8_method_38_code 17 = .ok (.getfield 36, 3) := by decide +kernel
theorem dM_prune_20 : decode prog_8_method_38_code 20 = .ok (.iload_n 3, 1) := by decide +kernel
theorem dM_prune_21 : decode prog_8_method_38_code 21 = .ok (.iaload, 1) := by decide +kernel
theorem dM_prune_22 : decode prog_8_method_38_code 22 = .ok (.lshl, 1) := by decide +kernel
theorem dM_prune_23 : decode prog_8_method_38_code 23 = .ok (.lor, 1) := by decide +kernel
theorem dM_prune_24 : decode prog_8_method_38_code 24 = .ok (.lstore_n 1, 1) := by decide +kernel
theorem dM_prune_25 : decode prog_8_method_38_code 25 = .ok (.iconst 0, 1) := by decide +kernel
theorem dM_prune_26 : decode prog_8_method_38_code 26 = .ok (.istore 4, 2) := by decide +kernel
theorem dM_prune_28 : decode prog_8_method_38_code 28 = .ok (.iload 4, 2) := by decide +kernel
theorem dM_prune_30 : decode prog_8_method_38_code 30 = .ok (.aload_n 0, 1) := by decide +kernel
theorem dM_prune_31 : decode prog_8_method_38_code 31 = .ok (.getfield 42, 3) := by decide +kernel
theorem dM_prune_34 : decode prog_8_method_38_code 34 = .ok (.iload_n 3, 1) := by decide +kernel
theorem dM_prune_35 : decode prog_8_method_38_code 35 = .ok (.iaload, 1) := by decide +kernel
theorem dM_prune_36 : decode prog_8_method_38_code 36 = .ok (.if_icmp .ge 26, 3) := by decide +kernel
theorem dM_prune_39 : decode prog_8_method_38_code 39 = .ok (.lload_n 1, 1) := by decide +kernel
theorem dM_prune_40 : decode prog_8_method_38_code 40 = .ok (.lconst 1, 1) := by decide +kernel
theorem dM_prune_41 : decode prog_8_method_38_code 41 = .ok (.aload_n 0, 1) := by decide +kernel
theorem dM_prune_42 : decode prog_8_method_38_code 42 = .ok (.getfield 39, 3) := by decide +kernel
theorem dM_prune_45 : decode prog_8_method_38_code 45 = .ok (.bipush 60, 2) := by decide +kernel
theorem dM_prune_47 : decode prog_8_method_38_code 47 = .ok (.iload_n 3, 1) := by decide +kernel
theorem dM_prune_48 : decode prog_8_method_38_code 48 = .ok (.imul, 1) := by decide +kernel
theorem dM_prune_49 : decode prog_8_method_38_code 49 = .ok (.iload 4, 2) := by decide +kernel
theorem dM_prune_51 : decode prog_8_method_38_code 51 = .ok (.iadd, 1) := by decide +kernel
theorem dM_prune_52 : decode prog_8_method_38_code 52 = .ok (.iaload, 1) := by decide +kernel
theorem dM_prune_53 : decode prog_8_method_38_code 53 = .ok (.lshl, 1) := by decide +kernel
theorem dM_prune_54 : decode prog_8_method_38_code 54 = .ok (.lor, 1) := by decide +kernel
theorem dM_prune_55 : decode prog_8_method_38_code 55 = .ok (.lstore_n 1, 1) := by decide +kernel
theorem dM_prune_56 : decode prog_8_method_38_code 56 = .ok (.iinc 4 1, 3) := by decide +kernel
theorem dM_prune_59 : decode prog_8_method_38_code 59 = .ok (.goto (-31), 3) := by decide +kernel
theorem dM_prune_62 : decode prog_8_method_38_code 62 = .ok (.iinc 3 1, 3) := by decide +kernel
theorem dM_prune_65 : decode prog_8_method_38_code 65 = .ok (.goto (-56), 3) := by decide +kernel
theorem dM_prune_68 : decode prog_8_method_38_code 68 = .ok (.aload_n 0, 1) := by decide +kernel
theorem dM_prune_69 : decode prog_8_method_38_code 69 = .ok (.lload_n 1, 1) := by decide +kernel
theorem dM_prune_70 : decode prog_8_method_38_code 70 = .ok (.invokevirtual 96, 3) := by decide +kernel
theorem dM_prune_73 : decode prog_8_method_38_code 73 = .ok (.lstore_n 1, 1) := by decide +kernel
theorem dM_prune_74 : decode prog_8_method_38_code 74 = .ok (.iconst 0, 1) := by decide +kernel
theorem dM_prune_75 : decode prog_8_method_38_code 75 = .ok (.istore_n 3, 1) := by decide +kernel
theorem dM_prune_76 : decode prog_8_method_38_code 76 = .ok (.iconst 0, 1) := by decide +kernel
theorem dM_prune_77 : decode prog_8_method_38_code 77 = .ok (.istore 4, 2) := by decide +kernel
theorem dM_prune_79 : decode prog_8_method_38_code 79 = .ok (.iload 4, 2) := by decide +kernel
theorem dM_prune_81 : decode prog_8_method_38_code 81 = .ok (.aload_n 0, 1) := by decide +kernel
theorem dM_prune_82 : decode prog_8_method_38_code 82 = .ok (.getfield 7, 3) := by decide +kernel
theorem dM_prune_85 : decode prog_8_method_38_code 85 = .ok (.if_icmp .ge 88, 3) := by decide +kernel
theorem dM_prune_88 : decode prog_8_method_38_code 88 = .ok (.lload_n 1, 1) := by decide +kernel
theorem dM_prune_89 : decode prog_8_method_38_code 89 = .ok (.iload 4, 2) := by decide +kernel
theorem dM_prune_91 : decode prog_8_method_38_code 91 = .ok (.lshr, 1) := by decide +kernel
theorem dM_prune_92 : decode prog_8_method_38_code 92 = .ok (.lconst 1, 1) := by decide +kernel
theorem dM_prune_93 : decode prog_8_method_38_code 93 = .ok (.land, 1) := by decide +kernel
theorem dM_prune_94 : decode prog_8_method_38_code 94 = .ok (.lconst 1, 1) := by decide +kernel
theorem dM_prune_95 : decode prog_8_method_38_code 95 = .ok (.lcmp, 1) := by decide +kernel
theorem dM_prune_96 : decode prog_8_method_38_code 96 = .ok (.ifCond .ne 71, 3) := by decide +kernel
theorem dM_prune_99 : decode prog_8_method_38_code 99 = .ok (.aload_n 0, 1) := by decide +kernel
theorem dM_prune_100 : decode prog_8_method_38_code 100 = .ok (.iload 4, 2) := by decide +kernel
theorem dM_prune_102 : decode prog_8_method_38_code 102 = .ok (.iload_n 3, 1) := by decide +kernel
theorem dM_prune_103 : decode prog_8_method_38_code 103 = .ok (.invokevirtual 82, 3) := by decide +kernel
theorem dM_prune_106 : decode prog_8_method_38_code 106 = .ok (.aload_n 0, 1) := by decide +kernel
theorem dM_prune_107 : decode prog_8_method_38_code 107 = .ok (.getfield 30, 3) := by decide +kernel
theorem dM_prune_110 : decode prog_8_method_38_code 110 = .ok (.iload_n 3, 1) := by decide +kernel
theorem dM_prune_111 : decode prog_8_method_38_code 111 = .ok (.aload_n 0, 1) := by decide +kernel
theorem dM_prune_112 : decode prog_8_method_38_code 112 = .ok (.getfield 30, 3) := by decide +kernel
theorem dM_prune_115 : decode prog_8_method_38_code 115 = .ok (.iload_n 3, 1) := by decide +kernel
theorem dM_prune_116 : decode prog_8_method_38_code 116 = .ok (.iaload, 1) := by decide +kernel
theorem dM_prune_117 : decode prog_8_method_38_code 117 = .ok (.ifCond .ge 7, 3) := by decide +kernel
theorem dM_prune_120 : decode prog_8_method_38_code 120 = .ok (.iconst (-1), 1) := by decide +kernel
theorem dM_prune_121 : decode prog_8_method_38_code 121 = .ok (.goto 13, 3) := by decide +kernel
theorem dM_prune_124 : decode prog_8_method_38_code 124 = .ok (.lload_n 1, 1) := by decide +kernel
theorem dM_prune_125 : decode prog_8_method_38_code 125 = .ok (.aload_n 0, 1) := by decide +kernel
theorem dM_prune_126 : decode prog_8_method_38_code 126 = .ok (.getfield 30, 3) := by decide +kernel
theorem dM_prune_129 : decode prog_8_method_38_code 129 = .ok (.iload_n 3, 1) := by decide +kernel
theorem dM_prune_130 : decode prog_8_method_38_code 130 = .ok (.iaload, 1) := by decide +kernel
theorem dM_prune_131 : decode prog_8_method_38_code 131 = .ok (.invokestatic 137, 3) := by decide +kernel
theorem dM_prune_134 : decode prog_8_method_38_code 134 = .ok (.iastore, 1) := by decide +kernel
theorem dM_prune_135 : decode prog_8_method_38_code 135 = .ok (.aload_n 0, 1) := by decide +kernel
theorem dM_prune_136 : decode prog_8_method_38_code 136 = .ok (.getfield 33, 3) := by decide +kernel
theorem dM_prune_139 : decode prog_8_method_38_code 139 = .ok (.iload_n 3, 1) := by decide +kernel
theorem dM_prune_140 : decode prog_8_method_38_code 140 = .ok (.aload_n 0, 1) := by decide +kernel
theorem dM_prune_141 : decode prog_8_method_38_code 141 = .ok (.getfield 33, 3) := by decide +kernel
theorem dM_prune_144 : decode prog_8_method_38_code 144 = .ok (.iload_n 3, 1) := by decide +kernel
theorem dM_prune_145 : decode prog_8_method_38_code 145 = .ok (.iaload, 1) := by decide +kernel
theorem dM_prune_146 : decode prog_8_method_38_code 146 = .ok (.ifCond .ge 7, 3) := by decide +kernel
theorem dM_prune_149 : decode prog_8_method_38_code 149 = .ok (.iconst (-1), 1) := by decide +kernel
theorem dM_prune_150 : decode prog_8_method_38_code 150 = .ok (.goto 13, 3) := by decide +kernel
theorem dM_prune_153 : decode prog_8_method_38_code 153 = .ok (.lload_n 1, 1) := by decide +kernel
theorem dM_prune_154 : decode prog_8_method_38_code 154 = .ok (.aload_n 0, 1) := by decide +kernel
theorem dM_prune_155 : decode prog_8_method_38_code 155 = .ok (.getfield 33, 3) := by decide +kernel
theorem dM_prune_158 : decode prog_8_method_38_code 158 = .ok (.iload_n 3, 1) := by decide +kernel
theorem dM_prune_159 : decode prog_8_method_38_code 159 = .ok (.iaload, 1) := by decide +kernel
theorem dM_prune_160 : decode prog_8_method_38_code 160 = .ok (.invokestatic 137, 3) := by decide +kernel
theorem dM_prune_163 : decode prog_8_method_38_code 163 = .ok (.iastore, 1) := by decide +kernel
theorem dM_prune_164 : decode prog_8_method_38_code 164 = .ok (.iinc 3 1, 3) := by decide +kernel
theorem dM_prune_167 : decode prog_8_method_38_code 167 = .ok (.iinc 4 1, 3) := by decide +kernel
theorem dM_prune_170 : decode prog_8_method_38_code 170 = .ok (.goto (-91), 3) := by decide +kernel
theorem dM_prune_173 : decode prog_8_method_38_code 173 = .ok (.iconst 0, 1) := by decide +kernel
theorem dM_prune_174 : decode prog_8_method_38_code 174 = .ok (.istore 4, 2) := by decide +kernel
theorem dM_prune_176 : decode prog_8_method_38_code 176 = .ok (.iload 4, 2) := by decide +kernel
theorem dM_prune_178 : decode prog_8_method_38_code 178 = .ok (.iconst 4, 1) := by decide +kernel
theorem dM_prune_179 : decode prog_8_method_38_code 179 = .ok (.if_icmp .ge 78, 3) := by decide +kernel
theorem dM_prune_182 : decode prog_8_method_38_code 182 = .ok (.aload_n 0, 1) := by decide +kernel
theorem dM_prune_183 : decode prog_8_method_38_code 183 = .ok (.getfield 36, 3) := by decide +kernel
theorem dM_prune_186 : decode prog_8_method_38_code 186 = .ok (.iload 4, 2) := by decide +kernel
theorem dM_prune_188 : decode prog_8_method_38_code 188 = .ok (.lload_n 1, 1) := by decide +kernel
theorem dM_prune_189 : decode prog_8_method_38_code 189 = .ok (.aload_n 0, 1) := by decide +kernel
theorem dM_prune_190 : decode prog_8_method_38_code 190 = .ok (.getfield 36, 3) := by decide +kernel
theorem dM_prune_193 : decode prog_8_method_38_code 193 = .ok (.iload 4, 2) := by decide +kernel
theorem dM_prune_195 : decode prog_8_method_38_code 195 = .ok (.iaload, 1) := by decide +kernel
theorem dM_prune_196 : decode prog_8_method_38_code 196 = .ok (.invokestatic 137, 3) := by decide +kernel
theorem dM_prune_199 : decode prog_8_method_38_code 199 = .ok (.iastore, 1) := by decide +kernel
theorem dM_prune_200 : decode prog_8_method_38_code 200 = .ok (.iconst 0, 1) := by decide +kernel
theorem dM_prune_201 : decode prog_8_method_38_code 201 = .ok (.istore 5, 2) := by decide +kernel
theorem dM_prune_203 : decode prog_8_method_38_code 203 = .ok (.iload 5, 2) := by decide +kernel
theorem dM_prune_205 : decode prog_8_method_38_code 205 = .ok (.aload_n 0, 1) := by decide +kernel
theorem dM_prune_206 : decode prog_8_method_38_code 206 = .ok (.getfield 42, 3) := by decide +kernel
theorem dM_prune_209 : decode prog_8_method_38_code 209 = .ok (.iload 4, 2) := by decide +kernel
theorem dM_prune_211 : decode prog_8_method_38_code 211 = .ok (.iaload, 1) := by decide +kernel
theorem dM_prune_212 : decode prog_8_method_38_code 212 = .ok (.if_icmp .ge 39, 3) := by decide +kernel
theorem dM_prune_215 : decode prog_8_method_38_code 215 = .ok (.aload_n 0, 1) := by decide +kernel
theorem dM_prune_216 : decode prog_8_method_38_code 216 = .ok (.getfield 39, 3) := by decide +kernel
theorem dM_prune_219 : decode prog_8_method_38_code 219 = .ok (.bipush 60, 2) := by decide +kernel
theorem dM_prune_221 : decode prog_8_method_38_code 221 = .ok (.iload 4, 2) := by decide +kernel
theorem dM_prune_223 : decode prog_8_method_38_code 223 = .ok (.imul, 1) := by decide +kernel
theorem dM_prune_224 : decode prog_8_method_38_code 224 = .ok (.iload 5, 2) := by decide +kernel
theorem dM_prune_226 : decode prog_8_method_38_code 226 = .ok (.iadd, 1) := by decide +kernel
theorem dM_prune_227 : decode prog_8_method_38_code 227 = .ok (.lload_n 1, 1) := by decide +kernel
theorem dM_prune_228 : decode prog_8_method_38_code 228 = .ok (.aload_n 0, 1) := by decide +kernel
theorem dM_prune_229 : decode prog_8_method_38_code 229 = .ok (.getfield 39, 3) := by decide +kernel
theorem dM_prune_232 : decode prog_8_method_38_code 232 = .ok (.bipush 60, 2) := by decide +kernel
theorem dM_prune_234 : decode prog_8_method_38_code 234 = .ok (.iload 4, 2) := by decide +kernel
theorem dM_prune_236 : decode prog_8_method_38_code 236 = .ok (.imul, 1) := by decide +kernel
theorem dM_prune_237 : decode prog_8_method_38_code 237 = .ok (.iload 5, 2) := by decide +kernel
theorem dM_prune_239 : decode prog_8_method_38_code 239 = .ok (.iadd, 1) := by decide +kernel
theorem dM_prune_240 : decode prog_8_method_38_code 240 = .ok (.iaload, 1) := by decide +kernel
theorem dM_prune_241 : decode prog_8_method_38_code 241 = .ok (.invokestatic 137, 3) := by decide +kernel
theorem dM_prune_244 : decode prog_8_method_38_code 244 = .ok (.iastore, 1) := by decide +kernel
theorem dM_prune_245 : decode prog_8_method_38_code 245 = .ok (.iinc 5 1, 3) := by decide +kernel
theorem dM_prune_248 : decode prog_8_method_38_code 248 = .ok (.goto (-45), 3) := by decide +kernel
theorem dM_prune_251 : decode prog_8_method_38_code 251 = .ok (.iinc 4 1, 3) := by decide +kernel
theorem dM_prune_254 : decode prog_8_method_38_code 254 = .ok (.goto (-78), 3) := by decide +kernel
theorem dM_prune_257 : decode prog_8_method_38_code 257 = .ok (.aload_n 0, 1) := by decide +kernel
theorem dM_prune_258 : decode prog_8_method_38_code 258 = .ok (.getfield 7, 3) := by decide +kernel
theorem dM_prune_261 : decode prog_8_method_38_code 261 = .ok (.iload_n 3, 1) := by decide +kernel
theorem dM_prune_262 : decode prog_8_method_38_code 262 = .ok (.isub, 1) := by decide +kernel
theorem dM_prune_263 : decode prog_8_method_38_code 263 = .ok (.istore 4, 2) := by decide +kernel
theorem dM_prune_265 : decode prog_8_method_38_code 265 = .ok (.aload_n 0, 1) := by decide +kernel
theorem dM_prune_266 : decode prog_8_method_38_code 266 = .ok (.iload_n 3, 1) := by decide +kernel
theorem dM_prune_267 : decode prog_8_method_38_code 267 = .ok (.putfield 7, 3) := by decide +kernel
theorem dM_prune_270 : decode prog_8_method_38_code 270 = .ok (.iload 4, 2) := by decide +kernel
theorem dM_prune_272 : decode prog_8_method_38_code 272 = .ok (.ireturn, 1) := by decide +kernel
theorem dM_figure_0 : decode prog_8_method_39_code 0 = .ok (.aload_n 0, 1) := by decide +kernel
theorem dM_figure_1 : decode prog_8_method_39_code 1 = .ok (.iload_n 1, 1) := by decide +kernel
theorem dM_figure_2 : decode prog_8_method_39_code 2 = .ok (.ifCond .lt 9, 3) := by decide +kernel
theorem dM_figure_5 : decode prog_8_method_39_code 5 = .ok (.iload_n 1, 1) := by decide +kernel
theorem dM_figure_6 : decode prog_8_method_39_code 6 = .ok (.bipush 7, 2) := by decide +kernel
theorem dM_figure_8 : decode prog_8_method_39_code 8 = .ok (.if_icmp .le 7, 3) := by decide +kernel
theorem dM_figure_11 : decode prog_8_method_39_code 11 = .ok (.iconst 1, 1) := by decide +kernel
theorem dM_figure_12 : decode prog_8_method_39_code 12 = .ok (.goto 4, 3) := by decide +kernel
theorem dM_figure_15 : decode prog_8_method_39_code 15 = .ok (.iconst 0, 1) := by decide +kernel
theorem dM_figure_16 : decode prog_8_method_39_code 16 = .ok (.putfield 57, 3) := by decide +kernel
theorem dM_figure_19 : decode prog_8_method_39_code 19 = .ok (.iload_n 1, 1) := by decide +kernel
theorem dM_figure_20 : decode prog_8_method_39_code 20 = .ok (.tableswitch 82 0 7 #[48, 53, 58, 63, 73, 73, 73, 73], 48) := by decide +kernel
theorem dM_figure_68 : decode prog_8_method_39_code 68 = .ok (.aload_n 0, 1) := by decide +kernel
theorem dM_figure_69 : decode prog_8_method_39_code 69 = .ok (.invokevirtual 71, 3) := by decide +kernel
theorem dM_figure_72 : decode prog_8_method_39_code 72 = .ok (.ireturn, 1) := by decide +kernel
theorem dM_figure_73 : decode prog_8_method_39_code 73 = .ok (.aload_n 0, 1) := by decide +kernel
theorem dM_figure_74 : decode prog_8_method_39_code 74 = .ok (.getfield 7, 3) := by decide +kernel
theorem dM_figure_77 : decode prog_8_method_39_code 77 = .ok (.ireturn, 1) := by decide +kernel
theorem dM_figure_78 : decode prog_8_method_39_code 78 = .ok (.aload_n 0, 1) := by decide +kernel
theorem dM_figure_79 : decode prog_8_method_39_code 79 = .ok (.getfield 60, 3) := by decide +kernel
theorem dM_figure_82 : decode prog_8_method_39_code 82 = .ok (.ireturn, 1) := by decide +kernel
theorem dM_figure_83 : decode prog_8_method_39_code 83 = .ok (.aload_n 0, 1) := by decide +kernel
theorem dM_figure_84 : decode prog_8_method_39_code 84 = .ok (.getfield 42, 3) := by decide +kernel
theorem dM_figure_87 : decode prog_8_method_39_code 87 = .ok (.aload_n 0, 1) := by decide +kernel
theorem dM_figure_88 : decode prog_8_method_39_code 88 = .ok (.getfield 60, 3) := by decide +kernel
theorem dM_figure_91 : decode prog_8_method_39_code 91 = .ok (.iaload, 1) := by decide +kernel
theorem dM_figure_92 : decode prog_8_method_39_code 92 = .ok (.ireturn, 1) := by decide +kernel
theorem dM_figure_93 : decode prog_8_method_39_code 93 = .ok (.aload_n 0, 1) := by decide +kernel
theorem dM_figure_94 : decode prog_8_method_39_code 94 = .ok (.getfield 36, 3) := by decide +kernel
theorem dM_figure_97 : decode prog_8_method_39_code 97 = .ok (.iload_n 1, 1) := by decide +kernel
theorem dM_figure_98 : decode prog_8_method_39_code 98 = .ok (.iconst 4, 1) := by decide +kernel
theorem dM_figure_99 : decode prog_8_method_39_code 99 = .ok (.isub, 1) := by decide +kernel
theorem dM_figure_100 : decode prog_8_method_39_code 100 = .ok (.iaload, 1) := by decide +kernel
theorem dM_figure_101 : decode prog_8_method_39_code 101 = .ok (.ireturn, 1) := by decide +kernel
theorem dM_figure_102 : decode prog_8_method_39_code 102 = .ok (.iconst 0, 1) := by decide +kernel
theorem dM_figure_103 : decode prog_8_method_39_code 103 = .ok (.ireturn, 1) := by decide +kernel
