section
/-! The tables' words: the skeleton's part A; those of them that every state keeps, in one list; each by its place. -/
/-- a private method of a class that the tables say can be made, by its rows of tables_1 -/
def lw_okq (q : MethodName × Nat) : Prop := (q.1.cls ≠ "java/lang/invoke/MethodHandle" ∧ q.1.cls ≠ "java/lang/invoke/VarHandle") ∧ Cond.instantiable q.1.cls q.2 ∈ tables_1 ∧ Cond.privateMethod q.1 ∈ tables_1 ∧ Cond.instanceMethod q.1 ∈ tables_1
theorem lw_p0 : lw_okq (⟨"RevisionGrove$Revisions", "link", "(III)V"⟩, 6) := ⟨⟨by decide +kernel, by decide +kernel⟩, List.mem_of_getElem? (i := 26) (by decide +kernel), List.mem_of_getElem? (i := 138) (by decide +kernel), List.mem_of_getElem? (i := 139) (by decide +kernel)⟩
theorem lw_p1 : lw_okq (⟨"RevisionGrove$Revisions", "ancestorsOrNone", "(I)J"⟩, 6) := ⟨⟨by decide +kernel, by decide +kernel⟩, List.mem_of_getElem? (i := 26) (by decide +kernel), List.mem_of_getElem? (i := 142) (by decide +kernel), List.mem_of_getElem? (i := 143) (by decide +kernel)⟩
theorem lw_p2 : lw_okq (⟨"java/lang/Throwable", "fillInStackTrace", "(I)Ljava/lang/Throwable;"⟩, 6) := ⟨⟨by decide +kernel, by decide +kernel⟩, List.mem_of_getElem? (i := 202) (by decide +kernel), List.mem_of_getElem? (i := 200) (by decide +kernel), List.mem_of_getElem? (i := 201) (by decide +kernel)⟩
theorem lw_p3 : lw_okq (⟨"RevisionGrove", "draftPresent", "()V"⟩, 4) := ⟨⟨by decide +kernel, by decide +kernel⟩, List.mem_of_getElem? (i := 18) (by decide +kernel), List.mem_of_getElem? (i := 232) (by decide +kernel), List.mem_of_getElem? (i := 233) (by decide +kernel)⟩
theorem lw_p4 : lw_okq (⟨"RevisionGrove", "comeToChanged", "(I)I"⟩, 4) := ⟨⟨by decide +kernel, by decide +kernel⟩, List.mem_of_getElem? (i := 18) (by decide +kernel), List.mem_of_getElem? (i := 249) (by decide +kernel), List.mem_of_getElem? (i := 250) (by decide +kernel)⟩
theorem lw_p5 : lw_okq (⟨"RevisionGrove$Fields", "hasSamePlaces", "(LRevisionGrove$Fields;I)Z"⟩, 1) := ⟨⟨by decide +kernel, by decide +kernel⟩, List.mem_of_getElem? (i := 33) (by decide +kernel), List.mem_of_getElem? (i := 260) (by decide +kernel), List.mem_of_getElem? (i := 261) (by decide +kernel)⟩
theorem lw_p6 : lw_okq (⟨"RevisionGrove", "comeToDraft", "(I)V"⟩, 4) := ⟨⟨by decide +kernel, by decide +kernel⟩, List.mem_of_getElem? (i := 18) (by decide +kernel), List.mem_of_getElem? (i := 264) (by decide +kernel), List.mem_of_getElem? (i := 265) (by decide +kernel)⟩
theorem lw_p7 : lw_okq (⟨"RevisionGrove", "requireRevision", "(I)V"⟩, 4) := ⟨⟨by decide +kernel, by decide +kernel⟩, List.mem_of_getElem? (i := 18) (by decide +kernel), List.mem_of_getElem? (i := 400) (by decide +kernel), List.mem_of_getElem? (i := 401) (by decide +kernel)⟩
theorem lw_p8 : lw_okq (⟨"RevisionGrove", "draftJoined", "(III)I"⟩, 4) := ⟨⟨by decide +kernel, by decide +kernel⟩, List.mem_of_getElem? (i := 18) (by decide +kernel), List.mem_of_getElem? (i := 473) (by decide +kernel), List.mem_of_getElem? (i := 474) (by decide +kernel)⟩
theorem lw_p9 : lw_okq (⟨"RevisionGroveModel", "here", "()I"⟩, 19) := ⟨⟨by decide +kernel, by decide +kernel⟩, List.mem_of_getElem? (i := 596) (by decide +kernel), List.mem_of_getElem? (i := 668) (by decide +kernel), List.mem_of_getElem? (i := 669) (by decide +kernel)⟩
theorem lw_p10 : lw_okq (⟨"RevisionGroveModel", "copy", "(II)V"⟩, 19) := ⟨⟨by decide +kernel, by decide +kernel⟩, List.mem_of_getElem? (i := 596) (by decide +kernel), List.mem_of_getElem? (i := 672) (by decide +kernel), List.mem_of_getElem? (i := 673) (by decide +kernel)⟩
theorem lw_p11 : lw_okq (⟨"RevisionGroveModel", "change", "()I"⟩, 19) := ⟨⟨by decide +kernel, by decide +kernel⟩, List.mem_of_getElem? (i := 596) (by decide +kernel), List.mem_of_getElem? (i := 676) (by decide +kernel), List.mem_of_getElem? (i := 677) (by decide +kernel)⟩
theorem lw_p12 : lw_okq (⟨"RevisionGroveModel", "difference", "(II)I"⟩, 19) := ⟨⟨by decide +kernel, by decide +kernel⟩, List.mem_of_getElem? (i := 596) (by decide +kernel), List.mem_of_getElem? (i := 680) (by decide +kernel), List.mem_of_getElem? (i := 681) (by decide +kernel)⟩
theorem lw_p13 : lw_okq (⟨"RevisionGroveModel", "sameList", "(III)Z"⟩, 19) := ⟨⟨by decide +kernel, by decide +kernel⟩, List.mem_of_getElem? (i := 596) (by decide +kernel), List.mem_of_getElem? (i := 684) (by decide +kernel), List.mem_of_getElem? (i := 685) (by decide +kernel)⟩
theorem lw_p14 : lw_okq (⟨"RevisionGroveModel", "finish", "(II)I"⟩, 19) := ⟨⟨by decide +kernel, by decide +kernel⟩, List.mem_of_getElem? (i := 596) (by decide +kernel), List.mem_of_getElem? (i := 688) (by decide +kernel), List.mem_of_getElem? (i := 689) (by decide +kernel)⟩
theorem lw_p15 : lw_okq (⟨"RevisionGroveModel", "come", "(I)V"⟩, 19) := ⟨⟨by decide +kernel, by decide +kernel⟩, List.mem_of_getElem? (i := 596) (by decide +kernel), List.mem_of_getElem? (i := 692) (by decide +kernel), List.mem_of_getElem? (i := 693) (by decide +kernel)⟩
def lw_privs_1 : List (MethodName × Nat) := [(⟨"RevisionGrove$Revisions", "link", "(III)V"⟩, 6), (⟨"RevisionGrove$Revisions", "ancestorsOrNone", "(I)J"⟩, 6), (⟨"java/lang/Throwable", "fillInStackTrace", "(I)Ljava/lang/Throwable;"⟩, 6), (⟨"RevisionGrove", "draftPresent", "()V"⟩, 4), (⟨"RevisionGrove", "comeToChanged", "(I)I"⟩, 4), (⟨"RevisionGrove$Fields", "hasSamePlaces", "(LRevisionGrove$Fields;I)Z"⟩, 1), (⟨"RevisionGrove", "comeToDraft", "(I)V"⟩, 4), (⟨"RevisionGrove", "requireRevision", "(I)V"⟩, 4), (⟨"RevisionGrove", "draftJoined", "(III)I"⟩, 4), (⟨"RevisionGroveModel", "here", "()I"⟩, 19), (⟨"RevisionGroveModel", "copy", "(II)V"⟩, 19), (⟨"RevisionGroveModel", "change", "()I"⟩, 19), (⟨"RevisionGroveModel", "difference", "(II)I"⟩, 19), (⟨"RevisionGroveModel", "sameList", "(III)Z"⟩, 19), (⟨"RevisionGroveModel", "finish", "(II)I"⟩, 19), (⟨"RevisionGroveModel", "come", "(I)V"⟩, 19)]
theorem lw_r1 : ∀ q ∈ lw_privs_1, lw_okq q := List.forall_mem_cons.mpr ⟨lw_p0, List.forall_mem_cons.mpr ⟨lw_p1, List.forall_mem_cons.mpr ⟨lw_p2, List.forall_mem_cons.mpr ⟨lw_p3, List.forall_mem_cons.mpr ⟨lw_p4, List.forall_mem_cons.mpr ⟨lw_p5, List.forall_mem_cons.mpr ⟨lw_p6, List.forall_mem_cons.mpr ⟨lw_p7, List.forall_mem_cons.mpr ⟨lw_p8, List.forall_mem_cons.mpr ⟨lw_p9, List.forall_mem_cons.mpr ⟨lw_p10, List.forall_mem_cons.mpr ⟨lw_p11, List.forall_mem_cons.mpr ⟨lw_p12, List.forall_mem_cons.mpr ⟨lw_p13, List.forall_mem_cons.mpr ⟨lw_p14, List.forall_mem_cons.mpr ⟨lw_p15, fun _ h => absurd h List.not_mem_nil⟩⟩⟩⟩⟩⟩⟩⟩⟩⟩⟩⟩⟩⟩⟩⟩
theorem lw_p16 : lw_okq (⟨"RevisionGroveModel", "isRevision", "(I)Z"⟩, 19) := ⟨⟨by decide +kernel, by decide +kernel⟩, List.mem_of_getElem? (i := 596) (by decide +kernel), List.mem_of_getElem? (i := 727) (by decide +kernel), List.mem_of_getElem? (i := 728) (by decide +kernel)⟩
theorem lw_p17 : lw_okq (⟨"RevisionGroveModel", "ancestors", "(J)J"⟩, 19) := ⟨⟨by decide +kernel, by decide +kernel⟩, List.mem_of_getElem? (i := 596) (by decide +kernel), List.mem_of_getElem? (i := 743) (by decide +kernel), List.mem_of_getElem? (i := 744) (by decide +kernel)⟩
theorem lw_p18 : lw_okq (⟨"RevisionGroveModel", "baseOf", "(II)I"⟩, 19) := ⟨⟨by decide +kernel, by decide +kernel⟩, List.mem_of_getElem? (i := 596) (by decide +kernel), List.mem_of_getElem? (i := 747) (by decide +kernel), List.mem_of_getElem? (i := 748) (by decide +kernel)⟩
theorem lw_p19 : lw_okq (⟨"RevisionGroveModel", "mergeNumber", "(IIIII)V"⟩, 19) := ⟨⟨by decide +kernel, by decide +kernel⟩, List.mem_of_getElem? (i := 596) (by decide +kernel), List.mem_of_getElem? (i := 751) (by decide +kernel), List.mem_of_getElem? (i := 752) (by decide +kernel)⟩
theorem lw_p20 : lw_okq (⟨"RevisionGroveModel", "mergeList", "(IIIII)V"⟩, 19) := ⟨⟨by decide +kernel, by decide +kernel⟩, List.mem_of_getElem? (i := 596) (by decide +kernel), List.mem_of_getElem? (i := 758) (by decide +kernel), List.mem_of_getElem? (i := 759) (by decide +kernel)⟩
theorem lw_p21 : lw_okq (⟨"RevisionGroveModel", "join", "(IIII)Z"⟩, 19) := ⟨⟨by decide +kernel, by decide +kernel⟩, List.mem_of_getElem? (i := 596) (by decide +kernel), List.mem_of_getElem? (i := 762) (by decide +kernel), List.mem_of_getElem? (i := 763) (by decide +kernel)⟩
theorem lw_p22 : lw_okq (⟨"RevisionGroveModel", "measure", "(IIII)V"⟩, 19) := ⟨⟨by decide +kernel, by decide +kernel⟩, List.mem_of_getElem? (i := 596) (by decide +kernel), List.mem_of_getElem? (i := 766) (by decide +kernel), List.mem_of_getElem? (i := 767) (by decide +kernel)⟩
theorem lw_p23 : lw_okq (⟨"RevisionGroveModel", "at", "(III)I"⟩, 19) := ⟨⟨by decide +kernel, by decide +kernel⟩, List.mem_of_getElem? (i := 596) (by decide +kernel), List.mem_of_getElem? (i := 770) (by decide +kernel), List.mem_of_getElem? (i := 771) (by decide +kernel)⟩
theorem lw_p24 : lw_okq (⟨"RevisionGroveModel", "take", "(IIII)V"⟩, 19) := ⟨⟨by decide +kernel, by decide +kernel⟩, List.mem_of_getElem? (i := 596) (by decide +kernel), List.mem_of_getElem? (i := 774) (by decide +kernel), List.mem_of_getElem? (i := 775) (by decide +kernel)⟩
def lw_privs_2 : List (MethodName × Nat) := [(⟨"RevisionGroveModel", "isRevision", "(I)Z"⟩, 19), (⟨"RevisionGroveModel", "ancestors", "(J)J"⟩, 19), (⟨"RevisionGroveModel", "baseOf", "(II)I"⟩, 19), (⟨"RevisionGroveModel", "mergeNumber", "(IIIII)V"⟩, 19), (⟨"RevisionGroveModel", "mergeList", "(IIIII)V"⟩, 19), (⟨"RevisionGroveModel", "join", "(IIII)Z"⟩, 19), (⟨"RevisionGroveModel", "measure", "(IIII)V"⟩, 19), (⟨"RevisionGroveModel", "at", "(III)I"⟩, 19), (⟨"RevisionGroveModel", "take", "(IIII)V"⟩, 19)]
theorem lw_r2 : ∀ q ∈ lw_privs_2, lw_okq q := List.forall_mem_cons.mpr ⟨lw_p16, List.forall_mem_cons.mpr ⟨lw_p17, List.forall_mem_cons.mpr ⟨lw_p18, List.forall_mem_cons.mpr ⟨lw_p19, List.forall_mem_cons.mpr ⟨lw_p20, List.forall_mem_cons.mpr ⟨lw_p21, List.forall_mem_cons.mpr ⟨lw_p22, List.forall_mem_cons.mpr ⟨lw_p23, List.forall_mem_cons.mpr ⟨lw_p24, fun _ h => absurd h List.not_mem_nil⟩⟩⟩⟩⟩⟩⟩⟩⟩
def lw_privs : List (MethodName × Nat) := lw_privs_1 ++ (lw_privs_2)
def lw_tbl : List Cond := k2_sels lw_privs ++ tables_1
theorem lw_privs_ok : ∀ q ∈ lw_privs, lw_okq q := by
  show ∀ q ∈ lw_privs_1 ++ (lw_privs_2), lw_okq q
  exact List.forall_mem_append.mpr ⟨lw_r1, lw_r2⟩

def rg_tbl : List Cond := lw_tbl.filter goodWord
theorem rg_mem {w : Cond} (h : w ∈ tables_1) (hg : goodWord w = true) : w ∈ rg_tbl := List.mem_filter.mpr ⟨List.mem_append_right _ h, hg⟩
theorem rg_mems {y : MethodName} {n : Nat} (h : (y, n) ∈ lw_privs) (hg : goodWord (Cond.selects y.cls y y) = true) : Cond.selects y.cls y y ∈ rg_tbl := List.mem_filter.mpr ⟨List.mem_append_left _ (List.mem_map.mpr ⟨(y, n), h, rfl⟩), hg⟩
theorem rg_good {w : Cond} (h : w ∈ rg_tbl) : (w.onTables && w.keeps) = true ∨ ∃ ty, w = .arrayClass ty := good_of_word (List.mem_filter.mp h).2
theorem tw_0 : Cond.initialized "RevisionGroveLaw" ∈ rg_tbl := rg_mem (List.mem_append_left _ (List.mem_of_getElem? (l := tables_1_1) (i := 0) (by decide +kernel))) (by decide +kernel)
theorem tw_1 : Cond.initialized "RevisionGrove" ∈ rg_tbl := rg_mem (List.mem_append_left _ (List.mem_of_getElem? (l := tables_1_1) (i := 1) (by decide +kernel))) (by decide +kernel)
theorem tw_2 : Cond.initialized "RevisionGrove$Revisions" ∈ rg_tbl := rg_mem (List.mem_append_left _ (List.mem_of_getElem? (l := tables_1_1) (i := 2) (by decide +kernel))) (by decide +kernel)
theorem tw_3 : Cond.initialized "RevisionGrove$Fields" ∈ rg_tbl := rg_mem (List.mem_append_left _ (List.mem_of_getElem? (l := tables_1_1) (i := 3) (by decide +kernel))) (by decide +kernel)
theorem tw_4 : Cond.initialized "RevisionGrove$Branches" ∈ rg_tbl := rg_mem (List.mem_append_left _ (List.mem_of_getElem? (l := tables_1_1) (i := 4) (by decide +kernel))) (by decide +kernel)
theorem tw_5 : Cond.initialized "RevisionGroveModel" ∈ rg_tbl := rg_mem (List.mem_append_left _ (List.mem_of_getElem? (l := tables_1_1) (i := 5) (by decide +kernel))) (by decide +kernel)
theorem tw_10 : Cond.initialized "java/lang/System" ∈ rg_tbl := rg_mem (List.mem_append_left _ (List.mem_of_getElem? (l := tables_1_1) (i := 10) (by decide +kernel))) (by decide +kernel)
theorem tw_14 : Cond.initialized "java/lang/Math" ∈ rg_tbl := rg_mem (List.mem_append_left _ (List.mem_of_getElem? (l := tables_1_1) (i := 14) (by decide +kernel))) (by decide +kernel)
theorem tw_15 : Cond.initialized "RevisionGrove$Joining" ∈ rg_tbl := rg_mem (List.mem_append_left _ (List.mem_of_getElem? (l := tables_1_1) (i := 15) (by decide +kernel))) (by decide +kernel)
theorem tw_16 : Cond.initialized "RevisionGrove$Change" ∈ rg_tbl := rg_mem (List.mem_append_left _ (List.mem_of_getElem? (l := tables_1_1) (i := 16) (by decide +kernel))) (by decide +kernel)
theorem tw_17 : Cond.classLink "RevisionGroveLaw" 8 "RevisionGrove" ∈ rg_tbl := rg_mem (List.mem_append_left _ (List.mem_of_getElem? (l := tables_1_1) (i := 17) (by decide +kernel))) (by decide +kernel)
theorem tw_18 : Cond.instantiable "RevisionGrove" 4 ∈ rg_tbl := rg_mem (List.mem_append_left _ (List.mem_of_getElem? (l := tables_1_1) (i := 18) (by decide +kernel))) (by decide +kernel)
theorem tw_19 : Cond.methodLink "RevisionGroveLaw" 73 ⟨"RevisionGrove", "<init>", "()V"⟩ ∈ rg_tbl := rg_mem (List.mem_append_left _ (List.mem_of_getElem? (l := tables_1_1) (i := 19) (by decide +kernel))) (by decide +kernel)
theorem tw_20 : Cond.instanceMethod ⟨"RevisionGrove", "<init>", "()V"⟩ ∈ rg_tbl := rg_mem (List.mem_append_left _ (List.mem_of_getElem? (l := tables_1_1) (i := 20) (by decide +kernel))) (by decide +kernel)
theorem tw_21 : Cond.code ⟨"RevisionGrove", "<init>", "()V"⟩ prog_1_method_1_code 1 (none : Option FieldType) ∈ rg_tbl := rg_mem (List.mem_append_left _ (List.mem_of_getElem? (l := tables_1_1) (i := 21) (by decide +kernel))) (by decide +kernel)
theorem tw_22 : Cond.methodLink "RevisionGrove" 3 ⟨"java/lang/Object", "<init>", "()V"⟩ ∈ rg_tbl := rg_mem (List.mem_append_left _ (List.mem_of_getElem? (l := tables_1_1) (i := 22) (by decide +kernel))) (by decide +kernel)
theorem tw_23 : Cond.instanceMethod ⟨"java/lang/Object", "<init>", "()V"⟩ ∈ rg_tbl := rg_mem (List.mem_append_left _ (List.mem_of_getElem? (l := tables_1_1) (i := 23) (by decide +kernel))) (by decide +kernel)
theorem tw_24 : Cond.code ⟨"java/lang/Object", "<init>", "()V"⟩ object_method_1_code 1 (none : Option FieldType) ∈ rg_tbl := rg_mem (List.mem_append_left _ (List.mem_of_getElem? (l := tables_1_1) (i := 24) (by decide +kernel))) (by decide +kernel)
theorem tw_25 : Cond.classLink "RevisionGrove" 9 "RevisionGrove$Revisions" ∈ rg_tbl := rg_mem (List.mem_append_left _ (List.mem_of_getElem? (l := tables_1_1) (i := 25) (by decide +kernel))) (by decide +kernel)
theorem tw_26 : Cond.instantiable "RevisionGrove$Revisions" 6 ∈ rg_tbl := rg_mem (List.mem_append_left _ (List.mem_of_getElem? (l := tables_1_1) (i := 26) (by decide +kernel))) (by decide +kernel)
theorem tw_27 : Cond.methodLink "RevisionGrove" 11 ⟨"RevisionGrove$Revisions", "<init>", "()V"⟩ ∈ rg_tbl := rg_mem (List.mem_append_left _ (List.mem_of_getElem? (l := tables_1_1) (i := 27) (by decide +kernel))) (by decide +kernel)
theorem tw_28 : Cond.instanceMethod ⟨"RevisionGrove$Revisions", "<init>", "()V"⟩ ∈ rg_tbl := rg_mem (List.mem_append_left _ (List.mem_of_getElem? (l := tables_1_1) (i := 28) (by decide +kernel))) (by decide +kernel)
theorem tw_29 : Cond.code ⟨"RevisionGrove$Revisions", "<init>", "()V"⟩ prog_6_method_1_code 2 (none : Option FieldType) ∈ rg_tbl := rg_mem (List.mem_append_left _ (List.mem_of_getElem? (l := tables_1_1) (i := 29) (by decide +kernel))) (by decide +kernel)
theorem tw_30 : Cond.methodLink "RevisionGrove$Revisions" 3 ⟨"java/lang/Object", "<init>", "()V"⟩ ∈ rg_tbl := rg_mem (List.mem_append_left _ (List.mem_of_getElem? (l := tables_1_1) (i := 30) (by decide +kernel))) (by decide +kernel)
theorem tw_31 : Cond.classLink "RevisionGrove$Revisions" 9 "RevisionGrove$Fields" ∈ rg_tbl := rg_mem (List.mem_append_left _ (List.mem_of_getElem? (l := tables_1_1) (i := 31) (by decide +kernel))) (by decide +kernel)
theorem tw_33 : Cond.instantiable "RevisionGrove$Fields" 1 ∈ rg_tbl := rg_mem (List.mem_append_left _ (List.mem_of_getElem? (l := tables_1_1) (i := 33) (by decide +kernel))) (by decide +kernel)
theorem tw_35 : Cond.instanceMethod ⟨"RevisionGrove$Fields", "<init>", "()V"⟩ ∈ rg_tbl := rg_mem (List.mem_append_left _ (List.mem_of_getElem? (l := tables_1_1) (i := 35) (by decide +kernel))) (by decide +kernel)
theorem tw_36 : Cond.code ⟨"RevisionGrove$Fields", "<init>", "()V"⟩ prog_4_method_1_code 1 (none : Option FieldType) ∈ rg_tbl := rg_mem (List.mem_append_left _ (List.mem_of_getElem? (l := tables_1_1) (i := 36) (by decide +kernel))) (by decide +kernel)
theorem tw_37 : Cond.methodLink "RevisionGrove$Fields" 3 ⟨"java/lang/Object", "<init>", "()V"⟩ ∈ rg_tbl := rg_mem (List.mem_append_left _ (List.mem_of_getElem? (l := tables_1_1) (i := 37) (by decide +kernel))) (by decide +kernel)
theorem tw_38 : Cond.fieldLink "RevisionGrove$Fields" 9 "RevisionGrove$Fields" "cells" "[J" ∈ rg_tbl := rg_mem (List.mem_append_left _ (List.mem_of_getElem? (l := tables_1_1) (i := 38) (by decide +kernel))) (by decide +kernel)
theorem tw_39 : Cond.laysFinal "RevisionGrove$Fields" "RevisionGrove$Fields" "cells" "[J" ∈ rg_tbl := rg_mem (List.mem_append_left _ (List.mem_of_getElem? (l := tables_1_1) (i := 39) (by decide +kernel))) (by decide +kernel)
theorem tw_42 : Cond.arrayClass FieldType.int ∈ rg_tbl := rg_mem (List.mem_append_left _ (List.mem_of_getElem? (l := tables_1_1) (i := 42) (by decide +kernel))) (by decide +kernel)
theorem tw_43 : Cond.arrayClass FieldType.long ∈ rg_tbl := rg_mem (List.mem_append_left _ (List.mem_of_getElem? (l := tables_1_1) (i := 43) (by decide +kernel))) (by decide +kernel)
theorem tw_44 : Cond.fieldLink "RevisionGrove$Revisions" 11 "RevisionGrove$Revisions" "records" "[LRevisionGrove$Fields;" ∈ rg_tbl := rg_mem (List.mem_append_left _ (List.mem_of_getElem? (l := tables_1_1) (i := 44) (by decide +kernel))) (by decide +kernel)
theorem tw_45 : Cond.fieldLink "RevisionGrove$Revisions" 17 "RevisionGrove$Revisions" "firstParents" "[I" ∈ rg_tbl := rg_mem (List.mem_append_left _ (List.mem_of_getElem? (l := tables_1_1) (i := 45) (by decide +kernel))) (by decide +kernel)
theorem tw_46 : Cond.fieldLink "RevisionGrove$Revisions" 21 "RevisionGrove$Revisions" "secondParents" "[I" ∈ rg_tbl := rg_mem (List.mem_append_left _ (List.mem_of_getElem? (l := tables_1_1) (i := 46) (by decide +kernel))) (by decide +kernel)
theorem tw_47 : Cond.fieldLink "RevisionGrove$Revisions" 24 "RevisionGrove$Revisions" "ancestors" "[J" ∈ rg_tbl := rg_mem (List.mem_append_left _ (List.mem_of_getElem? (l := tables_1_1) (i := 47) (by decide +kernel))) (by decide +kernel)
theorem tw_48 : Cond.fieldLink "RevisionGrove$Revisions" 28 "RevisionGrove$Revisions" "newNumbers" "[I" ∈ rg_tbl := rg_mem (List.mem_append_left _ (List.mem_of_getElem? (l := tables_1_1) (i := 48) (by decide +kernel))) (by decide +kernel)
theorem tw_49 : Cond.fieldLink "RevisionGrove$Revisions" 32 "RevisionGrove$Revisions" "count" "I" ∈ rg_tbl := rg_mem (List.mem_append_left _ (List.mem_of_getElem? (l := tables_1_1) (i := 49) (by decide +kernel))) (by decide +kernel)
theorem tw_50 : Cond.laysFinal "RevisionGrove$Revisions" "RevisionGrove$Revisions" "records" "[LRevisionGrove$Fields;" ∈ rg_tbl := rg_mem (List.mem_append_left _ (List.mem_of_getElem? (l := tables_1_1) (i := 50) (by decide +kernel))) (by decide +kernel)
theorem tw_52 : Cond.laysFinal "RevisionGrove$Revisions" "RevisionGrove$Revisions" "firstParents" "[I" ∈ rg_tbl := rg_mem (List.mem_append_left _ (List.mem_of_getElem? (l := tables_1_1) (i := 52) (by decide +kernel))) (by decide +kernel)
theorem tw_54 : Cond.laysFinal "RevisionGrove$Revisions" "RevisionGrove$Revisions" "secondParents" "[I" ∈ rg_tbl := rg_mem (List.mem_append_left _ (List.mem_of_getElem? (l := tables_1_1) (i := 54) (by decide +kernel))) (by decide +kernel)
theorem tw_56 : Cond.laysFinal "RevisionGrove$Revisions" "RevisionGrove$Revisions" "ancestors" "[J" ∈ rg_tbl := rg_mem (List.mem_append_left _ (List.mem_of_getElem? (l := tables_1_1) (i := 56) (by decide +kernel))) (by decide +kernel)
theorem tw_58 : Cond.laysFinal "RevisionGrove$Revisions" "RevisionGrove$Revisions" "newNumbers" "[I" ∈ rg_tbl := rg_mem (List.mem_append_left _ (List.mem_of_getElem? (l := tables_1_1) (i := 58) (by decide +kernel))) (by decide +kernel)
theorem tw_60 : Cond.lays "RevisionGrove$Revisions" "RevisionGrove$Revisions" "count" "I" ∈ rg_tbl := rg_mem (List.mem_append_left _ (List.mem_of_getElem? (l := tables_1_1) (i := 60) (by decide +kernel))) (by decide +kernel)
theorem tw_63 : Cond.classLink "RevisionGrove" 16 "RevisionGrove$Branches" ∈ rg_tbl := rg_mem (List.mem_append_left _ (List.mem_of_getElem? (l := tables_1_1) (i := 63) (by decide +kernel))) (by decide +kernel)
theorem tw_64 : Cond.instantiable "RevisionGrove$Branches" 4 ∈ rg_tbl := rg_mem (List.mem_append_left _ (List.mem_of_getElem? (l := tables_1_1) (i := 64) (by decide +kernel))) (by decide +kernel)
theorem tw_66 : Cond.instanceMethod ⟨"RevisionGrove$Branches", "<init>", "()V"⟩ ∈ rg_tbl := rg_mem (List.mem_append_left _ (List.mem_of_getElem? (l := tables_1_1) (i := 66) (by decide +kernel))) (by decide +kernel)
theorem tw_67 : Cond.code ⟨"RevisionGrove$Branches", "<init>", "()V"⟩ prog_2_method_1_code 1 (none : Option FieldType) ∈ rg_tbl := rg_mem (List.mem_append_left _ (List.mem_of_getElem? (l := tables_1_1) (i := 67) (by decide +kernel))) (by decide +kernel)
theorem tw_68 : Cond.methodLink "RevisionGrove$Branches" 3 ⟨"java/lang/Object", "<init>", "()V"⟩ ∈ rg_tbl := rg_mem (List.mem_append_left _ (List.mem_of_getElem? (l := tables_1_1) (i := 68) (by decide +kernel))) (by decide +kernel)
theorem tw_69 : Cond.classLink "RevisionGrove$Branches" 15 "[[I" ∈ rg_tbl := rg_mem (List.mem_append_left _ (List.mem_of_getElem? (l := tables_1_1) (i := 69) (by decide +kernel))) (by decide +kernel)
theorem tw_71 : Cond.fieldLink "RevisionGrove$Branches" 9 "RevisionGrove$Branches" "pointed" "[I" ∈ rg_tbl := rg_mem (List.mem_append_left _ (List.mem_of_getElem? (l := tables_1_1) (i := 71) (by decide +kernel))) (by decide +kernel)
theorem tw_72 : Cond.fieldLink "RevisionGrove$Branches" 17 "RevisionGrove$Branches" "undone" "[[I" ∈ rg_tbl := rg_mem (List.mem_append_left _ (List.mem_of_getElem? (l := tables_1_1) (i := 72) (by decide +kernel))) (by decide +kernel)
theorem tw_73 : Cond.fieldLink "RevisionGrove$Branches" 20 "RevisionGrove$Branches" "undoneCounts" "[I" ∈ rg_tbl := rg_mem (List.mem_append_left _ (List.mem_of_getElem? (l := tables_1_1) (i := 73) (by decide +kernel))) (by decide +kernel)
theorem tw_74 : Cond.fieldLink "RevisionGrove$Branches" 23 "RevisionGrove$Branches" "present" "I" ∈ rg_tbl := rg_mem (List.mem_append_left _ (List.mem_of_getElem? (l := tables_1_1) (i := 74) (by decide +kernel))) (by decide +kernel)
theorem tw_75 : Cond.laysFinal "RevisionGrove$Branches" "RevisionGrove$Branches" "pointed" "[I" ∈ rg_tbl := rg_mem (List.mem_append_left _ (List.mem_of_getElem? (l := tables_1_1) (i := 75) (by decide +kernel))) (by decide +kernel)
theorem tw_77 : Cond.laysFinal "RevisionGrove$Branches" "RevisionGrove$Branches" "undone" "[[I" ∈ rg_tbl := rg_mem (List.mem_append_left _ (List.mem_of_getElem? (l := tables_1_1) (i := 77) (by decide +kernel))) (by decide +kernel)
theorem tw_79 : Cond.laysFinal "RevisionGrove$Branches" "RevisionGrove$Branches" "undoneCounts" "[I" ∈ rg_tbl := rg_mem (List.mem_append_left _ (List.mem_of_getElem? (l := tables_1_1) (i := 79) (by decide +kernel))) (by decide +kernel)
theorem tw_81 : Cond.lays "RevisionGrove$Branches" "RevisionGrove$Branches" "present" "I" ∈ rg_tbl := rg_mem (List.mem_append_left _ (List.mem_of_getElem? (l := tables_1_1) (i := 81) (by decide +kernel))) (by decide +kernel)
theorem tw_84 : Cond.classLink "RevisionGrove" 23 "RevisionGrove$Fields" ∈ rg_tbl := rg_mem (List.mem_append_left _ (List.mem_of_getElem? (l := tables_1_1) (i := 84) (by decide +kernel))) (by decide +kernel)
theorem tw_86 : Cond.fieldLink "RevisionGrove" 12 "RevisionGrove" "revisions" "LRevisionGrove$Revisions;" ∈ rg_tbl := rg_mem (List.mem_append_left _ (List.mem_of_getElem? (l := tables_1_1) (i := 86) (by decide +kernel))) (by decide +kernel)
theorem tw_87 : Cond.fieldLink "RevisionGrove" 19 "RevisionGrove" "branches" "LRevisionGrove$Branches;" ∈ rg_tbl := rg_mem (List.mem_append_left _ (List.mem_of_getElem? (l := tables_1_1) (i := 87) (by decide +kernel))) (by decide +kernel)
theorem tw_88 : Cond.fieldLink "RevisionGrove" 26 "RevisionGrove" "draft" "LRevisionGrove$Fields;" ∈ rg_tbl := rg_mem (List.mem_append_left _ (List.mem_of_getElem? (l := tables_1_1) (i := 88) (by decide +kernel))) (by decide +kernel)
theorem tw_89 : Cond.fieldLink "RevisionGrove" 30 "RevisionGrove" "latestConflicts" "I" ∈ rg_tbl := rg_mem (List.mem_append_left _ (List.mem_of_getElem? (l := tables_1_1) (i := 89) (by decide +kernel))) (by decide +kernel)
theorem tw_90 : Cond.laysFinal "RevisionGrove" "RevisionGrove" "revisions" "LRevisionGrove$Revisions;" ∈ rg_tbl := rg_mem (List.mem_append_left _ (List.mem_of_getElem? (l := tables_1_1) (i := 90) (by decide +kernel))) (by decide +kernel)
theorem tw_92 : Cond.laysFinal "RevisionGrove" "RevisionGrove" "branches" "LRevisionGrove$Branches;" ∈ rg_tbl := rg_mem (List.mem_append_left _ (List.mem_of_getElem? (l := tables_1_1) (i := 92) (by decide +kernel))) (by decide +kernel)
theorem tw_94 : Cond.laysFinal "RevisionGrove" "RevisionGrove" "draft" "LRevisionGrove$Fields;" ∈ rg_tbl := rg_mem (List.mem_append_left _ (List.mem_of_getElem? (l := tables_1_1) (i := 94) (by decide +kernel))) (by decide +kernel)
theorem tw_96 : Cond.lays "RevisionGrove" "RevisionGrove" "latestConflicts" "I" ∈ rg_tbl := rg_mem (List.mem_append_left _ (List.mem_of_getElem? (l := tables_1_1) (i := 96) (by decide +kernel))) (by decide +kernel)
theorem tw_99 : Cond.methodLink "RevisionGroveLaw" 121 ⟨"RevisionGrove", "conflicts", "()I"⟩ ∈ rg_tbl := rg_mem (List.mem_append_left _ (List.mem_of_getElem? (l := tables_1_1) (i := 99) (by decide +kernel))) (by decide +kernel)
theorem tw_100 : Cond.instanceMethod ⟨"RevisionGrove", "conflicts", "()I"⟩ ∈ rg_tbl := rg_mem (List.mem_append_left _ (List.mem_of_getElem? (l := tables_1_1) (i := 100) (by decide +kernel))) (by decide +kernel)
theorem tw_101 : Cond.selects "RevisionGrove" ⟨"RevisionGrove", "conflicts", "()I"⟩ ⟨"RevisionGrove", "conflicts", "()I"⟩ ∈ rg_tbl := rg_mem (List.mem_append_left _ (List.mem_of_getElem? (l := tables_1_1) (i := 101) (by decide +kernel))) (by decide +kernel)
theorem tw_102 : Cond.code ⟨"RevisionGrove", "conflicts", "()I"⟩ prog_1_method_13_code 1 (some FieldType.int) ∈ rg_tbl := rg_mem (List.mem_append_left _ (List.mem_of_getElem? (l := tables_1_1) (i := 102) (by decide +kernel))) (by decide +kernel)
theorem tw_103 : Cond.methodLink "RevisionGroveLaw" 138 ⟨"RevisionGrove", "prune", "()I"⟩ ∈ rg_tbl := rg_mem (List.mem_append_left _ (List.mem_of_getElem? (l := tables_1_1) (i := 103) (by decide +kernel))) (by decide +kernel)
theorem tw_104 : Cond.instanceMethod ⟨"RevisionGrove", "prune", "()I"⟩ ∈ rg_tbl := rg_mem (List.mem_append_left _ (List.mem_of_getElem? (l := tables_1_1) (i := 104) (by decide +kernel))) (by decide +kernel)
theorem tw_105 : Cond.selects "RevisionGrove" ⟨"RevisionGrove", "prune", "()I"⟩ ⟨"RevisionGrove", "prune", "()I"⟩ ∈ rg_tbl := rg_mem (List.mem_append_left _ (List.mem_of_getElem? (l := tables_1_1) (i := 105) (by decide +kernel))) (by decide +kernel)
theorem tw_106 : Cond.code ⟨"RevisionGrove", "prune", "()I"⟩ prog_1_method_18_code 2 (some FieldType.int) ∈ rg_tbl := rg_mem (List.mem_append_left _ (List.mem_of_getElem? (l := tables_1_1) (i := 106) (by decide +kernel))) (by decide +kernel)
theorem tw_107 : Cond.methodLink "RevisionGrove" 168 ⟨"RevisionGrove$Revisions", "count", "()I"⟩ ∈ rg_tbl := rg_mem (List.mem_append_left _ (List.mem_of_getElem? (l := tables_1_1) (i := 107) (by decide +kernel))) (by decide +kernel)
theorem tw_108 : Cond.instanceMethod ⟨"RevisionGrove$Revisions", "count", "()I"⟩ ∈ rg_tbl := rg_mem (List.mem_append_left _ (List.mem_of_getElem? (l := tables_1_1) (i := 108) (by decide +kernel))) (by decide +kernel)
theorem tw_109 : Cond.selects "RevisionGrove$Revisions" ⟨"RevisionGrove$Revisions", "count", "()I"⟩ ⟨"RevisionGrove$Revisions", "count", "()I"⟩ ∈ rg_tbl := rg_mem (List.mem_append_left _ (List.mem_of_getElem? (l := tables_1_1) (i := 109) (by decide +kernel))) (by decide +kernel)
theorem tw_110 : Cond.code ⟨"RevisionGrove$Revisions", "count", "()I"⟩ prog_6_method_2_code 1 (some FieldType.int) ∈ rg_tbl := rg_mem (List.mem_append_left _ (List.mem_of_getElem? (l := tables_1_1) (i := 110) (by decide +kernel))) (by decide +kernel)
theorem tw_111 : Cond.methodLink "RevisionGrove" 171 ⟨"RevisionGrove$Branches", "needed", "(LRevisionGrove$Revisions;)J"⟩ ∈ rg_tbl := rg_mem (List.mem_append_left _ (List.mem_of_getElem? (l := tables_1_1) (i := 111) (by decide +kernel))) (by decide +kernel)
theorem tw_112 : Cond.instanceMethod ⟨"RevisionGrove$Branches", "needed", "(LRevisionGrove$Revisions;)J"⟩ ∈ rg_tbl := rg_mem (List.mem_append_left _ (List.mem_of_getElem? (l := tables_1_1) (i := 112) (by decide +kernel))) (by decide +kernel)
theorem tw_113 : Cond.selects "RevisionGrove$Branches" ⟨"RevisionGrove$Branches", "needed", "(LRevisionGrove$Revisions;)J"⟩ ⟨"RevisionGrove$Branches", "needed", "(LRevisionGrove$Revisions;)J"⟩ ∈ rg_tbl := rg_mem (List.mem_append_left _ (List.mem_of_getElem? (l := tables_1_1) (i := 113) (by decide +kernel))) (by decide +kernel)
theorem tw_114 : Cond.code ⟨"RevisionGrove$Branches", "needed", "(LRevisionGrove$Revisions;)J"⟩ prog_2_method_11_code 6 (some FieldType.long) ∈ rg_tbl := rg_mem (List.mem_append_left _ (List.mem_of_getElem? (l := tables_1_1) (i := 114) (by decide +kernel))) (by decide +kernel)
theorem tw_115 : Cond.methodLink "RevisionGrove$Branches" 31 ⟨"RevisionGrove$Revisions", "ancestorsOf", "(I)J"⟩ ∈ rg_tbl := rg_mem (List.mem_append_left _ (List.mem_of_getElem? (l := tables_1_1) (i := 115) (by decide +kernel))) (by decide +kernel)
theorem tw_116 : Cond.instanceMethod ⟨"RevisionGrove$Revisions", "ancestorsOf", "(I)J"⟩ ∈ rg_tbl := rg_mem (List.mem_append_left _ (List.mem_of_getElem? (l := tables_1_1) (i := 116) (by decide +kernel))) (by decide +kernel)
theorem tw_117 : Cond.selects "RevisionGrove$Revisions" ⟨"RevisionGrove$Revisions", "ancestorsOf", "(I)J"⟩ ⟨"RevisionGrove$Revisions", "ancestorsOf", "(I)J"⟩ ∈ rg_tbl := rg_mem (List.mem_append_left _ (List.mem_of_getElem? (l := tables_1_1) (i := 117) (by decide +kernel))) (by decide +kernel)
theorem tw_118 : Cond.code ⟨"RevisionGrove$Revisions", "ancestorsOf", "(I)J"⟩ prog_6_method_7_code 2 (some FieldType.long) ∈ rg_tbl := rg_mem (List.mem_append_left _ (List.mem_of_getElem? (l := tables_1_1) (i := 118) (by decide +kernel))) (by decide +kernel)
theorem tw_119 : Cond.methodLink "RevisionGrove" 175 ⟨"RevisionGrove$Revisions", "keepOnly", "(J)V"⟩ ∈ rg_tbl := rg_mem (List.mem_append_left _ (List.mem_of_getElem? (l := tables_1_1) (i := 119) (by decide +kernel))) (by decide +kernel)
theorem tw_120 : Cond.instanceMethod ⟨"RevisionGrove$Revisions", "keepOnly", "(J)V"⟩ ∈ rg_tbl := rg_mem (List.mem_append_left _ (List.mem_of_getElem? (l := tables_1_1) (i := 120) (by decide +kernel))) (by decide +kernel)
theorem tw_121 : Cond.selects "RevisionGrove$Revisions" ⟨"RevisionGrove$Revisions", "keepOnly", "(J)V"⟩ ⟨"RevisionGrove$Revisions", "keepOnly", "(J)V"⟩ ∈ rg_tbl := rg_mem (List.mem_append_left _ (List.mem_of_getElem? (l := tables_1_1) (i := 121) (by decide +kernel))) (by decide +kernel)
theorem tw_122 : Cond.code ⟨"RevisionGrove$Revisions", "keepOnly", "(J)V"⟩ prog_6_method_11_code 5 (none : Option FieldType) ∈ rg_tbl := rg_mem (List.mem_append_left _ (List.mem_of_getElem? (l := tables_1_1) (i := 122) (by decide +kernel))) (by decide +kernel)
theorem tw_123 : Cond.methodLink "RevisionGrove$Revisions" 36 ⟨"RevisionGrove$Revisions", "holds", "(JI)Z"⟩ ∈ rg_tbl := rg_mem (List.mem_append_left _ (List.mem_of_getElem? (l := tables_1_1) (i := 123) (by decide +kernel))) (by decide +kernel)
theorem tw_124 : Cond.static ⟨"RevisionGrove$Revisions", "holds", "(JI)Z"⟩ ∈ rg_tbl := rg_mem (List.mem_append_left _ (List.mem_of_getElem? (l := tables_1_1) (i := 124) (by decide +kernel))) (by decide +kernel)
theorem tw_125 : Cond.code ⟨"RevisionGrove$Revisions", "holds", "(JI)Z"⟩ prog_6_method_15_code 3 (some FieldType.boolean) ∈ rg_tbl := rg_mem (List.mem_append_left _ (List.mem_of_getElem? (l := tables_1_1) (i := 125) (by decide +kernel))) (by decide +kernel)
theorem tw_126 : Cond.methodLink "RevisionGrove$Revisions" 46 ⟨"RevisionGrove$Fields", "takeAll", "(LRevisionGrove$Fields;)V"⟩ ∈ rg_tbl := rg_mem (List.mem_append_left _ (List.mem_of_getElem? (l := tables_1_1) (i := 126) (by decide +kernel))) (by decide +kernel)
theorem tw_127 : Cond.instanceMethod ⟨"RevisionGrove$Fields", "takeAll", "(LRevisionGrove$Fields;)V"⟩ ∈ rg_tbl := rg_mem (List.mem_append_left _ (List.mem_of_getElem? (l := tables_1_1) (i := 127) (by decide +kernel))) (by decide +kernel)
theorem tw_128 : Cond.selects "RevisionGrove$Fields" ⟨"RevisionGrove$Fields", "takeAll", "(LRevisionGrove$Fields;)V"⟩ ⟨"RevisionGrove$Fields", "takeAll", "(LRevisionGrove$Fields;)V"⟩ ∈ rg_tbl := rg_mem (List.mem_append_left _ (List.mem_of_getElem? (l := tables_1_1) (i := 128) (by decide +kernel))) (by decide +kernel)
theorem tw_129 : Cond.code ⟨"RevisionGrove$Fields", "takeAll", "(LRevisionGrove$Fields;)V"⟩ prog_4_method_15_code 2 (none : Option FieldType) ∈ rg_tbl := rg_mem (List.mem_append_left _ (List.mem_of_getElem? (l := tables_1_1) (i := 129) (by decide +kernel))) (by decide +kernel)
theorem tw_130 : Cond.methodLink "RevisionGrove$Fields" 22 ⟨"java/lang/System", "arraycopy", "(Ljava/lang/Object;ILjava/lang/Object;II)V"⟩ ∈ rg_tbl := rg_mem (List.mem_append_left _ (List.mem_of_getElem? (l := tables_1_1) (i := 130) (by decide +kernel))) (by decide +kernel)
theorem tw_131 : Cond.static ⟨"java/lang/System", "arraycopy", "(Ljava/lang/Object;ILjava/lang/Object;II)V"⟩ ∈ rg_tbl := rg_mem (List.mem_append_left _ (List.mem_of_getElem? (l := tables_1_1) (i := 131) (by decide +kernel))) (by decide +kernel)
theorem tw_132 : Cond.native ⟨"java/lang/System", "arraycopy", "(Ljava/lang/Object;ILjava/lang/Object;II)V"⟩ ∈ rg_tbl := rg_mem (List.mem_append_left _ (List.mem_of_getElem? (l := tables_1_1) (i := 132) (by decide +kernel))) (by decide +kernel)
theorem tw_133 : Cond.methodLink "RevisionGrove$Revisions" 54 ⟨"RevisionGrove$Revisions", "newNumber", "(I)I"⟩ ∈ rg_tbl := rg_mem (List.mem_append_left _ (List.mem_of_getElem? (l := tables_1_1) (i := 133) (by decide +kernel))) (by decide +kernel)
theorem tw_134 : Cond.instanceMethod ⟨"RevisionGrove$Revisions", "newNumber", "(I)I"⟩ ∈ rg_tbl := rg_mem (List.mem_append_left _ (List.mem_of_getElem? (l := tables_1_1) (i := 134) (by decide +kernel))) (by decide +kernel)
theorem tw_135 : Cond.selects "RevisionGrove$Revisions" ⟨"RevisionGrove$Revisions", "newNumber", "(I)I"⟩ ⟨"RevisionGrove$Revisions", "newNumber", "(I)I"⟩ ∈ rg_tbl := rg_mem (List.mem_append_left _ (List.mem_of_getElem? (l := tables_1_1) (i := 135) (by decide +kernel))) (by decide +kernel)
theorem tw_136 : Cond.code ⟨"RevisionGrove$Revisions", "newNumber", "(I)I"⟩ prog_6_method_12_code 2 (some FieldType.int) ∈ rg_tbl := rg_mem (List.mem_append_left _ (List.mem_of_getElem? (l := tables_1_1) (i := 136) (by decide +kernel))) (by decide +kernel)
theorem tw_137 : Cond.methodLink "RevisionGrove$Revisions" 50 ⟨"RevisionGrove$Revisions", "link", "(III)V"⟩ ∈ rg_tbl := rg_mem (List.mem_append_left _ (List.mem_of_getElem? (l := tables_1_1) (i := 137) (by decide +kernel))) (by decide +kernel)
theorem tw_139 : Cond.instanceMethod ⟨"RevisionGrove$Revisions", "link", "(III)V"⟩ ∈ rg_tbl := rg_mem (List.mem_append_left _ (List.mem_of_getElem? (l := tables_1_1) (i := 139) (by decide +kernel))) (by decide +kernel)
theorem tw_140 : Cond.code ⟨"RevisionGrove$Revisions", "link", "(III)V"⟩ prog_6_method_13_code 4 (none : Option FieldType) ∈ rg_tbl := rg_mem (List.mem_append_left _ (List.mem_of_getElem? (l := tables_1_1) (i := 140) (by decide +kernel))) (by decide +kernel)
theorem tw_141 : Cond.methodLink "RevisionGrove$Revisions" 58 ⟨"RevisionGrove$Revisions", "ancestorsOrNone", "(I)J"⟩ ∈ rg_tbl := rg_mem (List.mem_append_left _ (List.mem_of_getElem? (l := tables_1_1) (i := 141) (by decide +kernel))) (by decide +kernel)
theorem tw_143 : Cond.instanceMethod ⟨"RevisionGrove$Revisions", "ancestorsOrNone", "(I)J"⟩ ∈ rg_tbl := rg_mem (List.mem_append_left _ (List.mem_of_getElem? (l := tables_1_1) (i := 143) (by decide +kernel))) (by decide +kernel)
theorem tw_144 : Cond.code ⟨"RevisionGrove$Revisions", "ancestorsOrNone", "(I)J"⟩ prog_6_method_14_code 2 (some FieldType.long) ∈ rg_tbl := rg_mem (List.mem_append_left _ (List.mem_of_getElem? (l := tables_1_1) (i := 144) (by decide +kernel))) (by decide +kernel)
theorem tw_145 : Cond.methodLink "RevisionGrove" 179 ⟨"RevisionGrove$Branches", "renumber", "(LRevisionGrove$Revisions;)V"⟩ ∈ rg_tbl := rg_mem (List.mem_append_left _ (List.mem_of_getElem? (l := tables_1_1) (i := 145) (by decide +kernel))) (by decide +kernel)
theorem tw_146 : Cond.instanceMethod ⟨"RevisionGrove$Branches", "renumber", "(LRevisionGrove$Revisions;)V"⟩ ∈ rg_tbl := rg_mem (List.mem_append_left _ (List.mem_of_getElem? (l := tables_1_1) (i := 146) (by decide +kernel))) (by decide +kernel)
theorem tw_147 : Cond.selects "RevisionGrove$Branches" ⟨"RevisionGrove$Branches", "renumber", "(LRevisionGrove$Revisions;)V"⟩ ⟨"RevisionGrove$Branches", "renumber", "(LRevisionGrove$Revisions;)V"⟩ ∈ rg_tbl := rg_mem (List.mem_append_left _ (List.mem_of_getElem? (l := tables_1_1) (i := 147) (by decide +kernel))) (by decide +kernel)
theorem tw_148 : Cond.code ⟨"RevisionGrove$Branches", "renumber", "(LRevisionGrove$Revisions;)V"⟩ prog_2_method_12_code 4 (none : Option FieldType) ∈ rg_tbl := rg_mem (List.mem_append_left _ (List.mem_of_getElem? (l := tables_1_1) (i := 148) (by decide +kernel))) (by decide +kernel)
theorem tw_149 : Cond.methodLink "RevisionGrove$Branches" 37 ⟨"RevisionGrove$Revisions", "newNumber", "(I)I"⟩ ∈ rg_tbl := rg_mem (List.mem_append_left _ (List.mem_of_getElem? (l := tables_1_1) (i := 149) (by decide +kernel))) (by decide +kernel)
theorem tw_150 : Cond.methodLink "RevisionGroveLaw" 77 ⟨"RevisionGroveLaw", "put", "(LRevisionGrove;II[J)I"⟩ ∈ rg_tbl := rg_mem (List.mem_append_left _ (List.mem_of_getElem? (l := tables_1_1) (i := 150) (by decide +kernel))) (by decide +kernel)
theorem tw_151 : Cond.static ⟨"RevisionGroveLaw", "put", "(LRevisionGrove;II[J)I"⟩ ∈ rg_tbl := rg_mem (List.mem_append_left _ (List.mem_of_getElem? (l := tables_1_1) (i := 151) (by decide +kernel))) (by decide +kernel)
theorem tw_155 : Cond.methodLink "RevisionGroveLaw" 7 ⟨"RevisionGrove", "put", "(II)I"⟩ ∈ rg_tbl := rg_mem (List.mem_append_left _ (List.mem_of_getElem? (l := tables_1_1) (i := 155) (by decide +kernel))) (by decide +kernel)
theorem tw_156 : Cond.instanceMethod ⟨"RevisionGrove", "put", "(II)I"⟩ ∈ rg_tbl := rg_mem (List.mem_append_left _ (List.mem_of_getElem? (l := tables_1_1) (i := 156) (by decide +kernel))) (by decide +kernel)
theorem tw_157 : Cond.selects "RevisionGrove" ⟨"RevisionGrove", "put", "(II)I"⟩ ⟨"RevisionGrove", "put", "(II)I"⟩ ∈ rg_tbl := rg_mem (List.mem_append_left _ (List.mem_of_getElem? (l := tables_1_1) (i := 157) (by decide +kernel))) (by decide +kernel)
theorem tw_158 : Cond.code ⟨"RevisionGrove", "put", "(II)I"⟩ prog_1_method_2_code 3 (some FieldType.int) ∈ rg_tbl := rg_mem (List.mem_append_left _ (List.mem_of_getElem? (l := tables_1_1) (i := 158) (by decide +kernel))) (by decide +kernel)
theorem tw_159 : Cond.methodLink "RevisionGrove" 34 ⟨"RevisionGrove", "requireKind", "(II)V"⟩ ∈ rg_tbl := rg_mem (List.mem_append_left _ (List.mem_of_getElem? (l := tables_1_1) (i := 159) (by decide +kernel))) (by decide +kernel)
theorem tw_160 : Cond.static ⟨"RevisionGrove", "requireKind", "(II)V"⟩ ∈ rg_tbl := rg_mem (List.mem_append_left _ (List.mem_of_getElem? (l := tables_1_1) (i := 160) (by decide +kernel))) (by decide +kernel)
theorem tw_161 : Cond.code ⟨"RevisionGrove", "requireKind", "(II)V"⟩ prog_1_method_20_code 2 (none : Option FieldType) ∈ rg_tbl := rg_mem (List.mem_append_left _ (List.mem_of_getElem? (l := tables_1_1) (i := 161) (by decide +kernel))) (by decide +kernel)
theorem tw_230 : Cond.arrayClass FieldType.byte ∈ rg_tbl := rg_mem (List.mem_append_left _ (List.mem_of_getElem? (l := tables_1_1) (i := 230) (by decide +kernel))) (by decide +kernel)
theorem tw_231 : Cond.methodLink "RevisionGrove" 38 ⟨"RevisionGrove", "draftPresent", "()V"⟩ ∈ rg_tbl := rg_mem (List.mem_append_left _ (List.mem_of_getElem? (l := tables_1_1) (i := 231) (by decide +kernel))) (by decide +kernel)
theorem tw_233 : Cond.instanceMethod ⟨"RevisionGrove", "draftPresent", "()V"⟩ ∈ rg_tbl := rg_mem (List.mem_append_left _ (List.mem_of_getElem? (l := tables_1_1) (i := 233) (by decide +kernel))) (by decide +kernel)
theorem tw_234 : Cond.code ⟨"RevisionGrove", "draftPresent", "()V"⟩ prog_1_method_23_code 1 (none : Option FieldType) ∈ rg_tbl := rg_mem (List.mem_append_left _ (List.mem_of_getElem? (l := tables_1_1) (i := 234) (by decide +kernel))) (by decide +kernel)
theorem tw_235 : Cond.methodLink "RevisionGrove" 96 ⟨"RevisionGrove$Branches", "presentRevision", "()I"⟩ ∈ rg_tbl := rg_mem (List.mem_append_left _ (List.mem_of_getElem? (l := tables_1_1) (i := 235) (by decide +kernel))) (by decide +kernel)
theorem tw_236 : Cond.instanceMethod ⟨"RevisionGrove$Branches", "presentRevision", "()I"⟩ ∈ rg_tbl := rg_mem (List.mem_append_left _ (List.mem_of_getElem? (l := tables_1_1) (i := 236) (by decide +kernel))) (by decide +kernel)
theorem tw_237 : Cond.selects "RevisionGrove$Branches" ⟨"RevisionGrove$Branches", "presentRevision", "()I"⟩ ⟨"RevisionGrove$Branches", "presentRevision", "()I"⟩ ∈ rg_tbl := rg_mem (List.mem_append_left _ (List.mem_of_getElem? (l := tables_1_1) (i := 237) (by decide +kernel))) (by decide +kernel)
theorem tw_238 : Cond.code ⟨"RevisionGrove$Branches", "presentRevision", "()I"⟩ prog_2_method_3_code 1 (some FieldType.int) ∈ rg_tbl := rg_mem (List.mem_append_left _ (List.mem_of_getElem? (l := tables_1_1) (i := 238) (by decide +kernel))) (by decide +kernel)
theorem tw_239 : Cond.methodLink "RevisionGrove" 153 ⟨"RevisionGrove$Revisions", "fields", "(I)LRevisionGrove$Fields;"⟩ ∈ rg_tbl := rg_mem (List.mem_append_left _ (List.mem_of_getElem? (l := tables_1_1) (i := 239) (by decide +kernel))) (by decide +kernel)
theorem tw_240 : Cond.instanceMethod ⟨"RevisionGrove$Revisions", "fields", "(I)LRevisionGrove$Fields;"⟩ ∈ rg_tbl := rg_mem (List.mem_append_right _ (List.mem_append_left _ (List.mem_of_getElem? (l := tables_1_2) (i := 0) (by decide +kernel)))) (by decide +kernel)
theorem tw_241 : Cond.selects "RevisionGrove$Revisions" ⟨"RevisionGrove$Revisions", "fields", "(I)LRevisionGrove$Fields;"⟩ ⟨"RevisionGrove$Revisions", "fields", "(I)LRevisionGrove$Fields;"⟩ ∈ rg_tbl := rg_mem (List.mem_append_right _ (List.mem_append_left _ (List.mem_of_getElem? (l := tables_1_2) (i := 1) (by decide +kernel)))) (by decide +kernel)
theorem tw_242 : Cond.code ⟨"RevisionGrove$Revisions", "fields", "(I)LRevisionGrove$Fields;"⟩ prog_6_method_4_code 2 (some (FieldType.object "RevisionGrove$Fields")) ∈ rg_tbl := rg_mem (List.mem_append_right _ (List.mem_append_left _ (List.mem_of_getElem? (l := tables_1_2) (i := 2) (by decide +kernel)))) (by decide +kernel)
theorem tw_243 : Cond.methodLink "RevisionGrove" 195 ⟨"RevisionGrove$Fields", "takeAll", "(LRevisionGrove$Fields;)V"⟩ ∈ rg_tbl := rg_mem (List.mem_append_right _ (List.mem_append_left _ (List.mem_of_getElem? (l := tables_1_2) (i := 3) (by decide +kernel)))) (by decide +kernel)
theorem tw_244 : Cond.methodLink "RevisionGrove" 41 ⟨"RevisionGrove$Fields", "setCell", "(IJ)V"⟩ ∈ rg_tbl := rg_mem (List.mem_append_right _ (List.mem_append_left _ (List.mem_of_getElem? (l := tables_1_2) (i := 4) (by decide +kernel)))) (by decide +kernel)
theorem tw_245 : Cond.instanceMethod ⟨"RevisionGrove$Fields", "setCell", "(IJ)V"⟩ ∈ rg_tbl := rg_mem (List.mem_append_right _ (List.mem_append_left _ (List.mem_of_getElem? (l := tables_1_2) (i := 5) (by decide +kernel)))) (by decide +kernel)
theorem tw_246 : Cond.selects "RevisionGrove$Fields" ⟨"RevisionGrove$Fields", "setCell", "(IJ)V"⟩ ⟨"RevisionGrove$Fields", "setCell", "(IJ)V"⟩ ∈ rg_tbl := rg_mem (List.mem_append_right _ (List.mem_append_left _ (List.mem_of_getElem? (l := tables_1_2) (i := 6) (by decide +kernel)))) (by decide +kernel)
theorem tw_247 : Cond.code ⟨"RevisionGrove$Fields", "setCell", "(IJ)V"⟩ prog_4_method_3_code 4 (none : Option FieldType) ∈ rg_tbl := rg_mem (List.mem_append_right _ (List.mem_append_left _ (List.mem_of_getElem? (l := tables_1_2) (i := 7) (by decide +kernel)))) (by decide +kernel)
theorem tw_248 : Cond.methodLink "RevisionGrove" 45 ⟨"RevisionGrove", "comeToChanged", "(I)I"⟩ ∈ rg_tbl := rg_mem (List.mem_append_right _ (List.mem_append_left _ (List.mem_of_getElem? (l := tables_1_2) (i := 8) (by decide +kernel)))) (by decide +kernel)
theorem tw_250 : Cond.instanceMethod ⟨"RevisionGrove", "comeToChanged", "(I)I"⟩ ∈ rg_tbl := rg_mem (List.mem_append_right _ (List.mem_append_left _ (List.mem_of_getElem? (l := tables_1_2) (i := 10) (by decide +kernel)))) (by decide +kernel)
theorem tw_251 : Cond.code ⟨"RevisionGrove", "comeToChanged", "(I)I"⟩ prog_1_method_25_code 3 (some FieldType.int) ∈ rg_tbl := rg_mem (List.mem_append_right _ (List.mem_append_left _ (List.mem_of_getElem? (l := tables_1_2) (i := 11) (by decide +kernel)))) (by decide +kernel)
theorem tw_252 : Cond.methodLink "RevisionGrove" 161 ⟨"RevisionGrove$Fields", "isSame", "(LRevisionGrove$Fields;I)Z"⟩ ∈ rg_tbl := rg_mem (List.mem_append_right _ (List.mem_append_left _ (List.mem_of_getElem? (l := tables_1_2) (i := 12) (by decide +kernel)))) (by decide +kernel)
theorem tw_253 : Cond.instanceMethod ⟨"RevisionGrove$Fields", "isSame", "(LRevisionGrove$Fields;I)Z"⟩ ∈ rg_tbl := rg_mem (List.mem_append_right _ (List.mem_append_left _ (List.mem_of_getElem? (l := tables_1_2) (i := 13) (by decide +kernel)))) (by decide +kernel)
theorem tw_254 : Cond.selects "RevisionGrove$Fields" ⟨"RevisionGrove$Fields", "isSame", "(LRevisionGrove$Fields;I)Z"⟩ ⟨"RevisionGrove$Fields", "isSame", "(LRevisionGrove$Fields;I)Z"⟩ ∈ rg_tbl := rg_mem (List.mem_append_right _ (List.mem_append_left _ (List.mem_of_getElem? (l := tables_1_2) (i := 14) (by decide +kernel)))) (by decide +kernel)
theorem tw_255 : Cond.code ⟨"RevisionGrove$Fields", "isSame", "(LRevisionGrove$Fields;I)Z"⟩ prog_4_method_11_code 3 (some FieldType.boolean) ∈ rg_tbl := rg_mem (List.mem_append_right _ (List.mem_append_left _ (List.mem_of_getElem? (l := tables_1_2) (i := 15) (by decide +kernel)))) (by decide +kernel)
theorem tw_256 : Cond.methodLink "RevisionGrove$Fields" 19 ⟨"RevisionGrove$Fields", "firstPlace", "(I)I"⟩ ∈ rg_tbl := rg_mem (List.mem_append_right _ (List.mem_append_left _ (List.mem_of_getElem? (l := tables_1_2) (i := 16) (by decide +kernel)))) (by decide +kernel)
theorem tw_257 : Cond.static ⟨"RevisionGrove$Fields", "firstPlace", "(I)I"⟩ ∈ rg_tbl := rg_mem (List.mem_append_right _ (List.mem_append_left _ (List.mem_of_getElem? (l := tables_1_2) (i := 17) (by decide +kernel)))) (by decide +kernel)
theorem tw_258 : Cond.code ⟨"RevisionGrove$Fields", "firstPlace", "(I)I"⟩ prog_4_method_17_code 1 (some FieldType.int) ∈ rg_tbl := rg_mem (List.mem_append_right _ (List.mem_append_left _ (List.mem_of_getElem? (l := tables_1_2) (i := 18) (by decide +kernel)))) (by decide +kernel)
theorem tw_259 : Cond.methodLink "RevisionGrove$Fields" 28 ⟨"RevisionGrove$Fields", "hasSamePlaces", "(LRevisionGrove$Fields;I)Z"⟩ ∈ rg_tbl := rg_mem (List.mem_append_right _ (List.mem_append_left _ (List.mem_of_getElem? (l := tables_1_2) (i := 19) (by decide +kernel)))) (by decide +kernel)
theorem tw_261 : Cond.instanceMethod ⟨"RevisionGrove$Fields", "hasSamePlaces", "(LRevisionGrove$Fields;I)Z"⟩ ∈ rg_tbl := rg_mem (List.mem_append_right _ (List.mem_append_left _ (List.mem_of_getElem? (l := tables_1_2) (i := 21) (by decide +kernel)))) (by decide +kernel)
theorem tw_262 : Cond.code ⟨"RevisionGrove$Fields", "hasSamePlaces", "(LRevisionGrove$Fields;I)Z"⟩ prog_4_method_16_code 4 (some FieldType.boolean) ∈ rg_tbl := rg_mem (List.mem_append_right _ (List.mem_append_left _ (List.mem_of_getElem? (l := tables_1_2) (i := 22) (by decide +kernel)))) (by decide +kernel)
theorem tw_263 : Cond.methodLink "RevisionGrove" 144 ⟨"RevisionGrove", "comeToDraft", "(I)V"⟩ ∈ rg_tbl := rg_mem (List.mem_append_right _ (List.mem_append_left _ (List.mem_of_getElem? (l := tables_1_2) (i := 23) (by decide +kernel)))) (by decide +kernel)
theorem tw_265 : Cond.instanceMethod ⟨"RevisionGrove", "comeToDraft", "(I)V"⟩ ∈ rg_tbl := rg_mem (List.mem_append_right _ (List.mem_append_left _ (List.mem_of_getElem? (l := tables_1_2) (i := 25) (by decide +kernel)))) (by decide +kernel)
theorem tw_266 : Cond.code ⟨"RevisionGrove", "comeToDraft", "(I)V"⟩ prog_1_method_26_code 2 (none : Option FieldType) ∈ rg_tbl := rg_mem (List.mem_append_right _ (List.mem_append_left _ (List.mem_of_getElem? (l := tables_1_2) (i := 26) (by decide +kernel)))) (by decide +kernel)
theorem tw_283 : Cond.methodLink "RevisionGrove" 207 ⟨"RevisionGrove$Revisions", "make", "(LRevisionGrove$Fields;II)I"⟩ ∈ rg_tbl := rg_mem (List.mem_append_right _ (List.mem_append_left _ (List.mem_of_getElem? (l := tables_1_2) (i := 43) (by decide +kernel)))) (by decide +kernel)
theorem tw_284 : Cond.instanceMethod ⟨"RevisionGrove$Revisions", "make", "(LRevisionGrove$Fields;II)I"⟩ ∈ rg_tbl := rg_mem (List.mem_append_right _ (List.mem_append_left _ (List.mem_of_getElem? (l := tables_1_2) (i := 44) (by decide +kernel)))) (by decide +kernel)
theorem tw_285 : Cond.selects "RevisionGrove$Revisions" ⟨"RevisionGrove$Revisions", "make", "(LRevisionGrove$Fields;II)I"⟩ ⟨"RevisionGrove$Revisions", "make", "(LRevisionGrove$Fields;II)I"⟩ ∈ rg_tbl := rg_mem (List.mem_append_right _ (List.mem_append_left _ (List.mem_of_getElem? (l := tables_1_2) (i := 45) (by decide +kernel)))) (by decide +kernel)
theorem tw_286 : Cond.code ⟨"RevisionGrove$Revisions", "make", "(LRevisionGrove$Fields;II)I"⟩ prog_6_method_10_code 5 (some FieldType.int) ∈ rg_tbl := rg_mem (List.mem_append_right _ (List.mem_append_left _ (List.mem_of_getElem? (l := tables_1_2) (i := 46) (by decide +kernel)))) (by decide +kernel)
theorem tw_287 : Cond.methodLink "RevisionGrove" 108 ⟨"RevisionGrove$Branches", "come", "(I)V"⟩ ∈ rg_tbl := rg_mem (List.mem_append_right _ (List.mem_append_left _ (List.mem_of_getElem? (l := tables_1_2) (i := 47) (by decide +kernel)))) (by decide +kernel)
theorem tw_288 : Cond.instanceMethod ⟨"RevisionGrove$Branches", "come", "(I)V"⟩ ∈ rg_tbl := rg_mem (List.mem_append_right _ (List.mem_append_left _ (List.mem_of_getElem? (l := tables_1_2) (i := 48) (by decide +kernel)))) (by decide +kernel)
theorem tw_289 : Cond.selects "RevisionGrove$Branches" ⟨"RevisionGrove$Branches", "come", "(I)V"⟩ ⟨"RevisionGrove$Branches", "come", "(I)V"⟩ ∈ rg_tbl := rg_mem (List.mem_append_right _ (List.mem_append_left _ (List.mem_of_getElem? (l := tables_1_2) (i := 49) (by decide +kernel)))) (by decide +kernel)
theorem tw_290 : Cond.code ⟨"RevisionGrove$Branches", "come", "(I)V"⟩ prog_2_method_8_code 2 (none : Option FieldType) ∈ rg_tbl := rg_mem (List.mem_append_right _ (List.mem_append_left _ (List.mem_of_getElem? (l := tables_1_2) (i := 50) (by decide +kernel)))) (by decide +kernel)
theorem tw_291 : Cond.methodLink "RevisionGrove$Branches" 27 ⟨"RevisionGrove$Branches", "lead", "(II)V"⟩ ∈ rg_tbl := rg_mem (List.mem_append_right _ (List.mem_append_left _ (List.mem_of_getElem? (l := tables_1_2) (i := 51) (by decide +kernel)))) (by decide +kernel)
theorem tw_292 : Cond.instanceMethod ⟨"RevisionGrove$Branches", "lead", "(II)V"⟩ ∈ rg_tbl := rg_mem (List.mem_append_right _ (List.mem_append_left _ (List.mem_of_getElem? (l := tables_1_2) (i := 52) (by decide +kernel)))) (by decide +kernel)
theorem tw_293 : Cond.selects "RevisionGrove$Branches" ⟨"RevisionGrove$Branches", "lead", "(II)V"⟩ ⟨"RevisionGrove$Branches", "lead", "(II)V"⟩ ∈ rg_tbl := rg_mem (List.mem_append_right _ (List.mem_append_left _ (List.mem_of_getElem? (l := tables_1_2) (i := 53) (by decide +kernel)))) (by decide +kernel)
theorem tw_294 : Cond.code ⟨"RevisionGrove$Branches", "lead", "(II)V"⟩ prog_2_method_7_code 3 (none : Option FieldType) ∈ rg_tbl := rg_mem (List.mem_append_right _ (List.mem_append_left _ (List.mem_of_getElem? (l := tables_1_2) (i := 54) (by decide +kernel)))) (by decide +kernel)
theorem tw_295 : Cond.methodLink "RevisionGroveLaw" 86 ⟨"RevisionGroveLaw", "add", "(LRevisionGrove;II[J)I"⟩ ∈ rg_tbl := rg_mem (List.mem_append_right _ (List.mem_append_left _ (List.mem_of_getElem? (l := tables_1_2) (i := 55) (by decide +kernel)))) (by decide +kernel)
theorem tw_296 : Cond.static ⟨"RevisionGroveLaw", "add", "(LRevisionGrove;II[J)I"⟩ ∈ rg_tbl := rg_mem (List.mem_append_right _ (List.mem_append_left _ (List.mem_of_getElem? (l := tables_1_2) (i := 56) (by decide +kernel)))) (by decide +kernel)
theorem tw_298 : Cond.methodLink "RevisionGroveLaw" 17 ⟨"RevisionGrove", "add", "(II)I"⟩ ∈ rg_tbl := rg_mem (List.mem_append_right _ (List.mem_append_left _ (List.mem_of_getElem? (l := tables_1_2) (i := 58) (by decide +kernel)))) (by decide +kernel)
theorem tw_299 : Cond.instanceMethod ⟨"RevisionGrove", "add", "(II)I"⟩ ∈ rg_tbl := rg_mem (List.mem_append_right _ (List.mem_append_left _ (List.mem_of_getElem? (l := tables_1_2) (i := 59) (by decide +kernel)))) (by decide +kernel)
theorem tw_300 : Cond.selects "RevisionGrove" ⟨"RevisionGrove", "add", "(II)I"⟩ ⟨"RevisionGrove", "add", "(II)I"⟩ ∈ rg_tbl := rg_mem (List.mem_append_right _ (List.mem_append_left _ (List.mem_of_getElem? (l := tables_1_2) (i := 60) (by decide +kernel)))) (by decide +kernel)
theorem tw_301 : Cond.code ⟨"RevisionGrove", "add", "(II)I"⟩ prog_1_method_3_code 3 (some FieldType.int) ∈ rg_tbl := rg_mem (List.mem_append_right _ (List.mem_append_left _ (List.mem_of_getElem? (l := tables_1_2) (i := 61) (by decide +kernel)))) (by decide +kernel)
theorem tw_302 : Cond.methodLink "RevisionGrove" 49 ⟨"RevisionGrove$Fields", "cell", "(I)J"⟩ ∈ rg_tbl := rg_mem (List.mem_append_right _ (List.mem_append_left _ (List.mem_of_getElem? (l := tables_1_2) (i := 62) (by decide +kernel)))) (by decide +kernel)
theorem tw_303 : Cond.instanceMethod ⟨"RevisionGrove$Fields", "cell", "(I)J"⟩ ∈ rg_tbl := rg_mem (List.mem_append_right _ (List.mem_append_left _ (List.mem_of_getElem? (l := tables_1_2) (i := 63) (by decide +kernel)))) (by decide +kernel)
theorem tw_304 : Cond.selects "RevisionGrove$Fields" ⟨"RevisionGrove$Fields", "cell", "(I)J"⟩ ⟨"RevisionGrove$Fields", "cell", "(I)J"⟩ ∈ rg_tbl := rg_mem (List.mem_append_right _ (List.mem_append_left _ (List.mem_of_getElem? (l := tables_1_2) (i := 64) (by decide +kernel)))) (by decide +kernel)
theorem tw_305 : Cond.code ⟨"RevisionGrove$Fields", "cell", "(I)J"⟩ prog_4_method_2_code 2 (some FieldType.long) ∈ rg_tbl := rg_mem (List.mem_append_right _ (List.mem_append_left _ (List.mem_of_getElem? (l := tables_1_2) (i := 65) (by decide +kernel)))) (by decide +kernel)
theorem tw_306 : Cond.methodLink "RevisionGroveLaw" 89 ⟨"RevisionGroveLaw", "mark", "(LRevisionGrove;IIZ[J)I"⟩ ∈ rg_tbl := rg_mem (List.mem_append_right _ (List.mem_append_left _ (List.mem_of_getElem? (l := tables_1_2) (i := 66) (by decide +kernel)))) (by decide +kernel)
theorem tw_307 : Cond.static ⟨"RevisionGroveLaw", "mark", "(LRevisionGrove;IIZ[J)I"⟩ ∈ rg_tbl := rg_mem (List.mem_append_right _ (List.mem_append_left _ (List.mem_of_getElem? (l := tables_1_2) (i := 67) (by decide +kernel)))) (by decide +kernel)
theorem tw_309 : Cond.methodLink "RevisionGroveLaw" 20 ⟨"RevisionGrove", "mark", "(IIZ)I"⟩ ∈ rg_tbl := rg_mem (List.mem_append_right _ (List.mem_append_left _ (List.mem_of_getElem? (l := tables_1_2) (i := 69) (by decide +kernel)))) (by decide +kernel)
theorem tw_310 : Cond.instanceMethod ⟨"RevisionGrove", "mark", "(IIZ)I"⟩ ∈ rg_tbl := rg_mem (List.mem_append_right _ (List.mem_append_left _ (List.mem_of_getElem? (l := tables_1_2) (i := 70) (by decide +kernel)))) (by decide +kernel)
theorem tw_311 : Cond.selects "RevisionGrove" ⟨"RevisionGrove", "mark", "(IIZ)I"⟩ ⟨"RevisionGrove", "mark", "(IIZ)I"⟩ ∈ rg_tbl := rg_mem (List.mem_append_right _ (List.mem_append_left _ (List.mem_of_getElem? (l := tables_1_2) (i := 71) (by decide +kernel)))) (by decide +kernel)
theorem tw_312 : Cond.code ⟨"RevisionGrove", "mark", "(IIZ)I"⟩ prog_1_method_4_code 6 (some FieldType.int) ∈ rg_tbl := rg_mem (List.mem_append_right _ (List.mem_append_left _ (List.mem_of_getElem? (l := tables_1_2) (i := 72) (by decide +kernel)))) (by decide +kernel)
theorem tw_314 : Cond.constantLong "RevisionGrove" 60 (-1 : Int64) ∈ rg_tbl := rg_mem (List.mem_append_right _ (List.mem_append_left _ (List.mem_of_getElem? (l := tables_1_2) (i := 74) (by decide +kernel)))) (by decide +kernel)
theorem tw_315 : Cond.methodLink "RevisionGroveLaw" 93 ⟨"RevisionGroveLaw", "insert", "(LRevisionGrove;III[J)I"⟩ ∈ rg_tbl := rg_mem (List.mem_append_right _ (List.mem_append_left _ (List.mem_of_getElem? (l := tables_1_2) (i := 75) (by decide +kernel)))) (by decide +kernel)
theorem tw_316 : Cond.static ⟨"RevisionGroveLaw", "insert", "(LRevisionGrove;III[J)I"⟩ ∈ rg_tbl := rg_mem (List.mem_append_right _ (List.mem_append_left _ (List.mem_of_getElem? (l := tables_1_2) (i := 76) (by decide +kernel)))) (by decide +kernel)
theorem tw_319 : Cond.methodLink "RevisionGroveLaw" 24 ⟨"RevisionGrove", "insert", "(III)I"⟩ ∈ rg_tbl := rg_mem (List.mem_append_right _ (List.mem_append_left _ (List.mem_of_getElem? (l := tables_1_2) (i := 79) (by decide +kernel)))) (by decide +kernel)
theorem tw_320 : Cond.instanceMethod ⟨"RevisionGrove", "insert", "(III)I"⟩ ∈ rg_tbl := rg_mem (List.mem_append_right _ (List.mem_append_left _ (List.mem_of_getElem? (l := tables_1_2) (i := 80) (by decide +kernel)))) (by decide +kernel)
theorem tw_321 : Cond.selects "RevisionGrove" ⟨"RevisionGrove", "insert", "(III)I"⟩ ⟨"RevisionGrove", "insert", "(III)I"⟩ ∈ rg_tbl := rg_mem (List.mem_append_right _ (List.mem_append_left _ (List.mem_of_getElem? (l := tables_1_2) (i := 81) (by decide +kernel)))) (by decide +kernel)
theorem tw_322 : Cond.code ⟨"RevisionGrove", "insert", "(III)I"⟩ prog_1_method_5_code 4 (some FieldType.int) ∈ rg_tbl := rg_mem (List.mem_append_right _ (List.mem_append_left _ (List.mem_of_getElem? (l := tables_1_2) (i := 82) (by decide +kernel)))) (by decide +kernel)
theorem tw_323 : Cond.methodLink "RevisionGrove" 62 ⟨"RevisionGrove$Fields", "length", "(I)I"⟩ ∈ rg_tbl := rg_mem (List.mem_append_right _ (List.mem_append_left _ (List.mem_of_getElem? (l := tables_1_2) (i := 83) (by decide +kernel)))) (by decide +kernel)
theorem tw_324 : Cond.instanceMethod ⟨"RevisionGrove$Fields", "length", "(I)I"⟩ ∈ rg_tbl := rg_mem (List.mem_append_right _ (List.mem_append_left _ (List.mem_of_getElem? (l := tables_1_2) (i := 84) (by decide +kernel)))) (by decide +kernel)
theorem tw_325 : Cond.selects "RevisionGrove$Fields" ⟨"RevisionGrove$Fields", "length", "(I)I"⟩ ⟨"RevisionGrove$Fields", "length", "(I)I"⟩ ∈ rg_tbl := rg_mem (List.mem_append_right _ (List.mem_append_left _ (List.mem_of_getElem? (l := tables_1_2) (i := 85) (by decide +kernel)))) (by decide +kernel)
theorem tw_326 : Cond.code ⟨"RevisionGrove$Fields", "length", "(I)I"⟩ prog_4_method_4_code 2 (some FieldType.int) ∈ rg_tbl := rg_mem (List.mem_append_right _ (List.mem_append_left _ (List.mem_of_getElem? (l := tables_1_2) (i := 86) (by decide +kernel)))) (by decide +kernel)
theorem tw_344 : Cond.methodLink "RevisionGrove" 75 ⟨"RevisionGrove$Fields", "insertInt", "(III)V"⟩ ∈ rg_tbl := rg_mem (List.mem_append_right _ (List.mem_append_left _ (List.mem_of_getElem? (l := tables_1_2) (i := 104) (by decide +kernel)))) (by decide +kernel)
theorem tw_345 : Cond.instanceMethod ⟨"RevisionGrove$Fields", "insertInt", "(III)V"⟩ ∈ rg_tbl := rg_mem (List.mem_append_right _ (List.mem_append_left _ (List.mem_of_getElem? (l := tables_1_2) (i := 105) (by decide +kernel)))) (by decide +kernel)
theorem tw_346 : Cond.selects "RevisionGrove$Fields" ⟨"RevisionGrove$Fields", "insertInt", "(III)V"⟩ ⟨"RevisionGrove$Fields", "insertInt", "(III)V"⟩ ∈ rg_tbl := rg_mem (List.mem_append_right _ (List.mem_append_left _ (List.mem_of_getElem? (l := tables_1_2) (i := 106) (by decide +kernel)))) (by decide +kernel)
theorem tw_347 : Cond.code ⟨"RevisionGrove$Fields", "insertInt", "(III)V"⟩ prog_4_method_7_code 5 (none : Option FieldType) ∈ rg_tbl := rg_mem (List.mem_append_right _ (List.mem_append_left _ (List.mem_of_getElem? (l := tables_1_2) (i := 107) (by decide +kernel)))) (by decide +kernel)
theorem tw_348 : Cond.methodLink "RevisionGrove$Fields" 15 ⟨"RevisionGrove$Fields", "length", "(I)I"⟩ ∈ rg_tbl := rg_mem (List.mem_append_right _ (List.mem_append_left _ (List.mem_of_getElem? (l := tables_1_2) (i := 108) (by decide +kernel)))) (by decide +kernel)
theorem tw_349 : Cond.methodLink "RevisionGroveLaw" 97 ⟨"RevisionGroveLaw", "remove", "(LRevisionGrove;II[J)I"⟩ ∈ rg_tbl := rg_mem (List.mem_append_right _ (List.mem_append_left _ (List.mem_of_getElem? (l := tables_1_2) (i := 109) (by decide +kernel)))) (by decide +kernel)
theorem tw_350 : Cond.static ⟨"RevisionGroveLaw", "remove", "(LRevisionGrove;II[J)I"⟩ ∈ rg_tbl := rg_mem (List.mem_append_right _ (List.mem_append_left _ (List.mem_of_getElem? (l := tables_1_2) (i := 110) (by decide +kernel)))) (by decide +kernel)
theorem tw_352 : Cond.methodLink "RevisionGroveLaw" 30 ⟨"RevisionGrove", "remove", "(II)I"⟩ ∈ rg_tbl := rg_mem (List.mem_append_right _ (List.mem_append_left _ (List.mem_of_getElem? (l := tables_1_2) (i := 112) (by decide +kernel)))) (by decide +kernel)
theorem tw_353 : Cond.instanceMethod ⟨"RevisionGrove", "remove", "(II)I"⟩ ∈ rg_tbl := rg_mem (List.mem_append_right _ (List.mem_append_left _ (List.mem_of_getElem? (l := tables_1_2) (i := 113) (by decide +kernel)))) (by decide +kernel)
theorem tw_354 : Cond.selects "RevisionGrove" ⟨"RevisionGrove", "remove", "(II)I"⟩ ⟨"RevisionGrove", "remove", "(II)I"⟩ ∈ rg_tbl := rg_mem (List.mem_append_right _ (List.mem_append_left _ (List.mem_of_getElem? (l := tables_1_2) (i := 114) (by decide +kernel)))) (by decide +kernel)
theorem tw_355 : Cond.code ⟨"RevisionGrove", "remove", "(II)I"⟩ prog_1_method_6_code 3 (some FieldType.int) ∈ rg_tbl := rg_mem (List.mem_append_right _ (List.mem_append_left _ (List.mem_of_getElem? (l := tables_1_2) (i := 115) (by decide +kernel)))) (by decide +kernel)
theorem tw_356 : Cond.methodLink "RevisionGrove" 79 ⟨"RevisionGrove$Fields", "hasPlace", "(II)Z"⟩ ∈ rg_tbl := rg_mem (List.mem_append_right _ (List.mem_append_left _ (List.mem_of_getElem? (l := tables_1_2) (i := 116) (by decide +kernel)))) (by decide +kernel)
theorem tw_357 : Cond.instanceMethod ⟨"RevisionGrove$Fields", "hasPlace", "(II)Z"⟩ ∈ rg_tbl := rg_mem (List.mem_append_right _ (List.mem_append_left _ (List.mem_of_getElem? (l := tables_1_2) (i := 117) (by decide +kernel)))) (by decide +kernel)
theorem tw_358 : Cond.selects "RevisionGrove$Fields" ⟨"RevisionGrove$Fields", "hasPlace", "(II)Z"⟩ ⟨"RevisionGrove$Fields", "hasPlace", "(II)Z"⟩ ∈ rg_tbl := rg_mem (List.mem_append_right _ (List.mem_append_left _ (List.mem_of_getElem? (l := tables_1_2) (i := 118) (by decide +kernel)))) (by decide +kernel)
theorem tw_359 : Cond.code ⟨"RevisionGrove$Fields", "hasPlace", "(II)Z"⟩ prog_4_method_5_code 3 (some FieldType.boolean) ∈ rg_tbl := rg_mem (List.mem_append_right _ (List.mem_append_left _ (List.mem_of_getElem? (l := tables_1_2) (i := 119) (by decide +kernel)))) (by decide +kernel)
theorem tw_361 : Cond.methodLink "RevisionGrove" 85 ⟨"RevisionGrove$Fields", "removeInt", "(II)V"⟩ ∈ rg_tbl := rg_mem (List.mem_append_right _ (List.mem_append_left _ (List.mem_of_getElem? (l := tables_1_2) (i := 121) (by decide +kernel)))) (by decide +kernel)
theorem tw_362 : Cond.instanceMethod ⟨"RevisionGrove$Fields", "removeInt", "(II)V"⟩ ∈ rg_tbl := rg_mem (List.mem_append_right _ (List.mem_append_left _ (List.mem_of_getElem? (l := tables_1_2) (i := 122) (by decide +kernel)))) (by decide +kernel)
theorem tw_363 : Cond.selects "RevisionGrove$Fields" ⟨"RevisionGrove$Fields", "removeInt", "(II)V"⟩ ⟨"RevisionGrove$Fields", "removeInt", "(II)V"⟩ ∈ rg_tbl := rg_mem (List.mem_append_right _ (List.mem_append_left _ (List.mem_of_getElem? (l := tables_1_2) (i := 123) (by decide +kernel)))) (by decide +kernel)
theorem tw_364 : Cond.code ⟨"RevisionGrove$Fields", "removeInt", "(II)V"⟩ prog_4_method_8_code 4 (none : Option FieldType) ∈ rg_tbl := rg_mem (List.mem_append_right _ (List.mem_append_left _ (List.mem_of_getElem? (l := tables_1_2) (i := 124) (by decide +kernel)))) (by decide +kernel)
theorem tw_365 : Cond.methodLink "RevisionGroveLaw" 100 ⟨"RevisionGroveLaw", "point", "(LRevisionGrove;I)I"⟩ ∈ rg_tbl := rg_mem (List.mem_append_right _ (List.mem_append_left _ (List.mem_of_getElem? (l := tables_1_2) (i := 125) (by decide +kernel)))) (by decide +kernel)
theorem tw_366 : Cond.static ⟨"RevisionGroveLaw", "point", "(LRevisionGrove;I)I"⟩ ∈ rg_tbl := rg_mem (List.mem_append_right _ (List.mem_append_left _ (List.mem_of_getElem? (l := tables_1_2) (i := 126) (by decide +kernel)))) (by decide +kernel)
theorem tw_368 : Cond.methodLink "RevisionGroveLaw" 33 ⟨"RevisionGrove", "point", "(I)V"⟩ ∈ rg_tbl := rg_mem (List.mem_append_right _ (List.mem_append_left _ (List.mem_of_getElem? (l := tables_1_2) (i := 128) (by decide +kernel)))) (by decide +kernel)
theorem tw_369 : Cond.instanceMethod ⟨"RevisionGrove", "point", "(I)V"⟩ ∈ rg_tbl := rg_mem (List.mem_append_right _ (List.mem_append_left _ (List.mem_of_getElem? (l := tables_1_2) (i := 129) (by decide +kernel)))) (by decide +kernel)
theorem tw_370 : Cond.selects "RevisionGrove" ⟨"RevisionGrove", "point", "(I)V"⟩ ⟨"RevisionGrove", "point", "(I)V"⟩ ∈ rg_tbl := rg_mem (List.mem_append_right _ (List.mem_append_left _ (List.mem_of_getElem? (l := tables_1_2) (i := 130) (by decide +kernel)))) (by decide +kernel)
theorem tw_371 : Cond.code ⟨"RevisionGrove", "point", "(I)V"⟩ prog_1_method_7_code 2 (none : Option FieldType) ∈ rg_tbl := rg_mem (List.mem_append_right _ (List.mem_append_left _ (List.mem_of_getElem? (l := tables_1_2) (i := 131) (by decide +kernel)))) (by decide +kernel)
theorem tw_372 : Cond.methodLink "RevisionGrove" 88 ⟨"RevisionGrove", "requireBranch", "(I)V"⟩ ∈ rg_tbl := rg_mem (List.mem_append_right _ (List.mem_append_left _ (List.mem_of_getElem? (l := tables_1_2) (i := 132) (by decide +kernel)))) (by decide +kernel)
theorem tw_373 : Cond.static ⟨"RevisionGrove", "requireBranch", "(I)V"⟩ ∈ rg_tbl := rg_mem (List.mem_append_right _ (List.mem_append_left _ (List.mem_of_getElem? (l := tables_1_2) (i := 133) (by decide +kernel)))) (by decide +kernel)
theorem tw_374 : Cond.code ⟨"RevisionGrove", "requireBranch", "(I)V"⟩ prog_1_method_21_code 1 (none : Option FieldType) ∈ rg_tbl := rg_mem (List.mem_append_right _ (List.mem_append_left _ (List.mem_of_getElem? (l := tables_1_2) (i := 134) (by decide +kernel)))) (by decide +kernel)
theorem tw_376 : Cond.methodLink "RevisionGrove" 92 ⟨"RevisionGrove$Branches", "presentBranch", "()I"⟩ ∈ rg_tbl := rg_mem (List.mem_append_right _ (List.mem_append_left _ (List.mem_of_getElem? (l := tables_1_2) (i := 136) (by decide +kernel)))) (by decide +kernel)
theorem tw_377 : Cond.instanceMethod ⟨"RevisionGrove$Branches", "presentBranch", "()I"⟩ ∈ rg_tbl := rg_mem (List.mem_append_right _ (List.mem_append_left _ (List.mem_of_getElem? (l := tables_1_2) (i := 137) (by decide +kernel)))) (by decide +kernel)
theorem tw_378 : Cond.selects "RevisionGrove$Branches" ⟨"RevisionGrove$Branches", "presentBranch", "()I"⟩ ⟨"RevisionGrove$Branches", "presentBranch", "()I"⟩ ∈ rg_tbl := rg_mem (List.mem_append_right _ (List.mem_append_left _ (List.mem_of_getElem? (l := tables_1_2) (i := 138) (by decide +kernel)))) (by decide +kernel)
theorem tw_379 : Cond.code ⟨"RevisionGrove$Branches", "presentBranch", "()I"⟩ prog_2_method_2_code 1 (some FieldType.int) ∈ rg_tbl := rg_mem (List.mem_append_right _ (List.mem_append_left _ (List.mem_of_getElem? (l := tables_1_2) (i := 139) (by decide +kernel)))) (by decide +kernel)
theorem tw_380 : Cond.methodLink "RevisionGrove" 99 ⟨"RevisionGrove$Branches", "lead", "(II)V"⟩ ∈ rg_tbl := rg_mem (List.mem_append_right _ (List.mem_append_left _ (List.mem_of_getElem? (l := tables_1_2) (i := 140) (by decide +kernel)))) (by decide +kernel)
theorem tw_381 : Cond.methodLink "RevisionGroveLaw" 104 ⟨"RevisionGroveLaw", "turn", "(LRevisionGrove;I[J)I"⟩ ∈ rg_tbl := rg_mem (List.mem_append_right _ (List.mem_append_left _ (List.mem_of_getElem? (l := tables_1_2) (i := 141) (by decide +kernel)))) (by decide +kernel)
theorem tw_382 : Cond.static ⟨"RevisionGroveLaw", "turn", "(LRevisionGrove;I[J)I"⟩ ∈ rg_tbl := rg_mem (List.mem_append_right _ (List.mem_append_left _ (List.mem_of_getElem? (l := tables_1_2) (i := 142) (by decide +kernel)))) (by decide +kernel)
theorem tw_384 : Cond.methodLink "RevisionGroveLaw" 37 ⟨"RevisionGrove", "turn", "(I)I"⟩ ∈ rg_tbl := rg_mem (List.mem_append_right _ (List.mem_append_left _ (List.mem_of_getElem? (l := tables_1_2) (i := 144) (by decide +kernel)))) (by decide +kernel)
theorem tw_385 : Cond.instanceMethod ⟨"RevisionGrove", "turn", "(I)I"⟩ ∈ rg_tbl := rg_mem (List.mem_append_right _ (List.mem_append_left _ (List.mem_of_getElem? (l := tables_1_2) (i := 145) (by decide +kernel)))) (by decide +kernel)
theorem tw_386 : Cond.selects "RevisionGrove" ⟨"RevisionGrove", "turn", "(I)I"⟩ ⟨"RevisionGrove", "turn", "(I)I"⟩ ∈ rg_tbl := rg_mem (List.mem_append_right _ (List.mem_append_left _ (List.mem_of_getElem? (l := tables_1_2) (i := 146) (by decide +kernel)))) (by decide +kernel)
theorem tw_387 : Cond.code ⟨"RevisionGrove", "turn", "(I)I"⟩ prog_1_method_8_code 2 (some FieldType.int) ∈ rg_tbl := rg_mem (List.mem_append_right _ (List.mem_append_left _ (List.mem_of_getElem? (l := tables_1_2) (i := 147) (by decide +kernel)))) (by decide +kernel)
theorem tw_388 : Cond.methodLink "RevisionGrove" 102 ⟨"RevisionGrove$Branches", "makePresent", "(I)V"⟩ ∈ rg_tbl := rg_mem (List.mem_append_right _ (List.mem_append_left _ (List.mem_of_getElem? (l := tables_1_2) (i := 148) (by decide +kernel)))) (by decide +kernel)
theorem tw_389 : Cond.instanceMethod ⟨"RevisionGrove$Branches", "makePresent", "(I)V"⟩ ∈ rg_tbl := rg_mem (List.mem_append_right _ (List.mem_append_left _ (List.mem_of_getElem? (l := tables_1_2) (i := 149) (by decide +kernel)))) (by decide +kernel)
theorem tw_390 : Cond.selects "RevisionGrove$Branches" ⟨"RevisionGrove$Branches", "makePresent", "(I)V"⟩ ⟨"RevisionGrove$Branches", "makePresent", "(I)V"⟩ ∈ rg_tbl := rg_mem (List.mem_append_right _ (List.mem_append_left _ (List.mem_of_getElem? (l := tables_1_2) (i := 150) (by decide +kernel)))) (by decide +kernel)
theorem tw_391 : Cond.code ⟨"RevisionGrove$Branches", "makePresent", "(I)V"⟩ prog_2_method_6_code 2 (none : Option FieldType) ∈ rg_tbl := rg_mem (List.mem_append_right _ (List.mem_append_left _ (List.mem_of_getElem? (l := tables_1_2) (i := 151) (by decide +kernel)))) (by decide +kernel)
theorem tw_392 : Cond.methodLink "RevisionGroveLaw" 108 ⟨"RevisionGroveLaw", "go", "(LRevisionGrove;I)I"⟩ ∈ rg_tbl := rg_mem (List.mem_append_right _ (List.mem_append_left _ (List.mem_of_getElem? (l := tables_1_2) (i := 152) (by decide +kernel)))) (by decide +kernel)
theorem tw_393 : Cond.static ⟨"RevisionGroveLaw", "go", "(LRevisionGrove;I)I"⟩ ∈ rg_tbl := rg_mem (List.mem_append_right _ (List.mem_append_left _ (List.mem_of_getElem? (l := tables_1_2) (i := 153) (by decide +kernel)))) (by decide +kernel)
theorem tw_395 : Cond.methodLink "RevisionGroveLaw" 41 ⟨"RevisionGrove", "go", "(I)V"⟩ ∈ rg_tbl := rg_mem (List.mem_append_right _ (List.mem_append_left _ (List.mem_of_getElem? (l := tables_1_2) (i := 155) (by decide +kernel)))) (by decide +kernel)
theorem tw_396 : Cond.instanceMethod ⟨"RevisionGrove", "go", "(I)V"⟩ ∈ rg_tbl := rg_mem (List.mem_append_right _ (List.mem_append_left _ (List.mem_of_getElem? (l := tables_1_2) (i := 156) (by decide +kernel)))) (by decide +kernel)
theorem tw_397 : Cond.selects "RevisionGrove" ⟨"RevisionGrove", "go", "(I)V"⟩ ⟨"RevisionGrove", "go", "(I)V"⟩ ∈ rg_tbl := rg_mem (List.mem_append_right _ (List.mem_append_left _ (List.mem_of_getElem? (l := tables_1_2) (i := 157) (by decide +kernel)))) (by decide +kernel)
theorem tw_398 : Cond.code ⟨"RevisionGrove", "go", "(I)V"⟩ prog_1_method_9_code 2 (none : Option FieldType) ∈ rg_tbl := rg_mem (List.mem_append_right _ (List.mem_append_left _ (List.mem_of_getElem? (l := tables_1_2) (i := 158) (by decide +kernel)))) (by decide +kernel)
theorem tw_399 : Cond.methodLink "RevisionGrove" 105 ⟨"RevisionGrove", "requireRevision", "(I)V"⟩ ∈ rg_tbl := rg_mem (List.mem_append_right _ (List.mem_append_left _ (List.mem_of_getElem? (l := tables_1_2) (i := 159) (by decide +kernel)))) (by decide +kernel)
theorem tw_401 : Cond.instanceMethod ⟨"RevisionGrove", "requireRevision", "(I)V"⟩ ∈ rg_tbl := rg_mem (List.mem_append_right _ (List.mem_append_left _ (List.mem_of_getElem? (l := tables_1_2) (i := 161) (by decide +kernel)))) (by decide +kernel)
theorem tw_402 : Cond.code ⟨"RevisionGrove", "requireRevision", "(I)V"⟩ prog_1_method_22_code 2 (none : Option FieldType) ∈ rg_tbl := rg_mem (List.mem_append_right _ (List.mem_append_left _ (List.mem_of_getElem? (l := tables_1_2) (i := 162) (by decide +kernel)))) (by decide +kernel)
theorem tw_403 : Cond.methodLink "RevisionGrove" 189 ⟨"RevisionGrove$Revisions", "has", "(I)Z"⟩ ∈ rg_tbl := rg_mem (List.mem_append_right _ (List.mem_append_left _ (List.mem_of_getElem? (l := tables_1_2) (i := 163) (by decide +kernel)))) (by decide +kernel)
theorem tw_404 : Cond.instanceMethod ⟨"RevisionGrove$Revisions", "has", "(I)Z"⟩ ∈ rg_tbl := rg_mem (List.mem_append_right _ (List.mem_append_left _ (List.mem_of_getElem? (l := tables_1_2) (i := 164) (by decide +kernel)))) (by decide +kernel)
theorem tw_405 : Cond.selects "RevisionGrove$Revisions" ⟨"RevisionGrove$Revisions", "has", "(I)Z"⟩ ⟨"RevisionGrove$Revisions", "has", "(I)Z"⟩ ∈ rg_tbl := rg_mem (List.mem_append_right _ (List.mem_append_left _ (List.mem_of_getElem? (l := tables_1_2) (i := 165) (by decide +kernel)))) (by decide +kernel)
theorem tw_406 : Cond.code ⟨"RevisionGrove$Revisions", "has", "(I)Z"⟩ prog_6_method_3_code 2 (some FieldType.boolean) ∈ rg_tbl := rg_mem (List.mem_append_right _ (List.mem_append_left _ (List.mem_of_getElem? (l := tables_1_2) (i := 166) (by decide +kernel)))) (by decide +kernel)
theorem tw_408 : Cond.methodLink "RevisionGroveLaw" 111 ⟨"RevisionGroveLaw", "undo", "(LRevisionGrove;[J)I"⟩ ∈ rg_tbl := rg_mem (List.mem_append_right _ (List.mem_append_left _ (List.mem_of_getElem? (l := tables_1_2) (i := 168) (by decide +kernel)))) (by decide +kernel)
theorem tw_409 : Cond.static ⟨"RevisionGroveLaw", "undo", "(LRevisionGrove;[J)I"⟩ ∈ rg_tbl := rg_mem (List.mem_append_right _ (List.mem_append_left _ (List.mem_of_getElem? (l := tables_1_2) (i := 169) (by decide +kernel)))) (by decide +kernel)
theorem tw_412 : Cond.methodLink "RevisionGroveLaw" 44 ⟨"RevisionGrove", "undo", "()I"⟩ ∈ rg_tbl := rg_mem (List.mem_append_right _ (List.mem_append_left _ (List.mem_of_getElem? (l := tables_1_2) (i := 172) (by decide +kernel)))) (by decide +kernel)
theorem tw_413 : Cond.instanceMethod ⟨"RevisionGrove", "undo", "()I"⟩ ∈ rg_tbl := rg_mem (List.mem_append_right _ (List.mem_append_left _ (List.mem_of_getElem? (l := tables_1_2) (i := 173) (by decide +kernel)))) (by decide +kernel)
theorem tw_414 : Cond.selects "RevisionGrove" ⟨"RevisionGrove", "undo", "()I"⟩ ⟨"RevisionGrove", "undo", "()I"⟩ ∈ rg_tbl := rg_mem (List.mem_append_right _ (List.mem_append_left _ (List.mem_of_getElem? (l := tables_1_2) (i := 174) (by decide +kernel)))) (by decide +kernel)
theorem tw_415 : Cond.code ⟨"RevisionGrove", "undo", "()I"⟩ prog_1_method_10_code 2 (some FieldType.int) ∈ rg_tbl := rg_mem (List.mem_append_right _ (List.mem_append_left _ (List.mem_of_getElem? (l := tables_1_2) (i := 175) (by decide +kernel)))) (by decide +kernel)
theorem tw_416 : Cond.methodLink "RevisionGrove" 111 ⟨"RevisionGrove$Revisions", "firstParent", "(I)I"⟩ ∈ rg_tbl := rg_mem (List.mem_append_right _ (List.mem_append_left _ (List.mem_of_getElem? (l := tables_1_2) (i := 176) (by decide +kernel)))) (by decide +kernel)
theorem tw_417 : Cond.instanceMethod ⟨"RevisionGrove$Revisions", "firstParent", "(I)I"⟩ ∈ rg_tbl := rg_mem (List.mem_append_right _ (List.mem_append_left _ (List.mem_of_getElem? (l := tables_1_2) (i := 177) (by decide +kernel)))) (by decide +kernel)
theorem tw_418 : Cond.selects "RevisionGrove$Revisions" ⟨"RevisionGrove$Revisions", "firstParent", "(I)I"⟩ ⟨"RevisionGrove$Revisions", "firstParent", "(I)I"⟩ ∈ rg_tbl := rg_mem (List.mem_append_right _ (List.mem_append_left _ (List.mem_of_getElem? (l := tables_1_2) (i := 178) (by decide +kernel)))) (by decide +kernel)
theorem tw_419 : Cond.code ⟨"RevisionGrove$Revisions", "firstParent", "(I)I"⟩ prog_6_method_5_code 2 (some FieldType.int) ∈ rg_tbl := rg_mem (List.mem_append_right _ (List.mem_append_left _ (List.mem_of_getElem? (l := tables_1_2) (i := 179) (by decide +kernel)))) (by decide +kernel)
theorem tw_436 : Cond.methodLink "RevisionGrove" 119 ⟨"RevisionGrove$Branches", "stepBack", "(I)V"⟩ ∈ rg_tbl := rg_mem (List.mem_append_right _ (List.mem_append_left _ (List.mem_of_getElem? (l := tables_1_2) (i := 196) (by decide +kernel)))) (by decide +kernel)
theorem tw_437 : Cond.instanceMethod ⟨"RevisionGrove$Branches", "stepBack", "(I)V"⟩ ∈ rg_tbl := rg_mem (List.mem_append_right _ (List.mem_append_left _ (List.mem_of_getElem? (l := tables_1_2) (i := 197) (by decide +kernel)))) (by decide +kernel)
theorem tw_438 : Cond.selects "RevisionGrove$Branches" ⟨"RevisionGrove$Branches", "stepBack", "(I)V"⟩ ⟨"RevisionGrove$Branches", "stepBack", "(I)V"⟩ ∈ rg_tbl := rg_mem (List.mem_append_right _ (List.mem_append_left _ (List.mem_of_getElem? (l := tables_1_2) (i := 198) (by decide +kernel)))) (by decide +kernel)
theorem tw_439 : Cond.code ⟨"RevisionGrove$Branches", "stepBack", "(I)V"⟩ prog_2_method_9_code 2 (none : Option FieldType) ∈ rg_tbl := rg_mem (List.mem_append_right _ (List.mem_append_left _ (List.mem_of_getElem? (l := tables_1_2) (i := 199) (by decide +kernel)))) (by decide +kernel)
theorem tw_440 : Cond.methodLink "RevisionGroveLaw" 115 ⟨"RevisionGroveLaw", "redo", "(LRevisionGrove;[J)I"⟩ ∈ rg_tbl := rg_mem (List.mem_append_right _ (List.mem_append_left _ (List.mem_of_getElem? (l := tables_1_2) (i := 200) (by decide +kernel)))) (by decide +kernel)
theorem tw_441 : Cond.static ⟨"RevisionGroveLaw", "redo", "(LRevisionGrove;[J)I"⟩ ∈ rg_tbl := rg_mem (List.mem_append_right _ (List.mem_append_left _ (List.mem_of_getElem? (l := tables_1_2) (i := 201) (by decide +kernel)))) (by decide +kernel)
theorem tw_443 : Cond.methodLink "RevisionGroveLaw" 50 ⟨"RevisionGrove", "redo", "()I"⟩ ∈ rg_tbl := rg_mem (List.mem_append_right _ (List.mem_append_left _ (List.mem_of_getElem? (l := tables_1_2) (i := 203) (by decide +kernel)))) (by decide +kernel)
theorem tw_444 : Cond.instanceMethod ⟨"RevisionGrove", "redo", "()I"⟩ ∈ rg_tbl := rg_mem (List.mem_append_right _ (List.mem_append_left _ (List.mem_of_getElem? (l := tables_1_2) (i := 204) (by decide +kernel)))) (by decide +kernel)
theorem tw_445 : Cond.selects "RevisionGrove" ⟨"RevisionGrove", "redo", "()I"⟩ ⟨"RevisionGrove", "redo", "()I"⟩ ∈ rg_tbl := rg_mem (List.mem_append_right _ (List.mem_append_left _ (List.mem_of_getElem? (l := tables_1_2) (i := 205) (by decide +kernel)))) (by decide +kernel)
theorem tw_446 : Cond.code ⟨"RevisionGrove", "redo", "()I"⟩ prog_1_method_11_code 1 (some FieldType.int) ∈ rg_tbl := rg_mem (List.mem_append_right _ (List.mem_append_left _ (List.mem_of_getElem? (l := tables_1_2) (i := 206) (by decide +kernel)))) (by decide +kernel)
theorem tw_447 : Cond.methodLink "RevisionGrove" 122 ⟨"RevisionGrove$Branches", "undoneCount", "()I"⟩ ∈ rg_tbl := rg_mem (List.mem_append_right _ (List.mem_append_left _ (List.mem_of_getElem? (l := tables_1_2) (i := 207) (by decide +kernel)))) (by decide +kernel)
theorem tw_448 : Cond.instanceMethod ⟨"RevisionGrove$Branches", "undoneCount", "()I"⟩ ∈ rg_tbl := rg_mem (List.mem_append_right _ (List.mem_append_left _ (List.mem_of_getElem? (l := tables_1_2) (i := 208) (by decide +kernel)))) (by decide +kernel)
theorem tw_449 : Cond.selects "RevisionGrove$Branches" ⟨"RevisionGrove$Branches", "undoneCount", "()I"⟩ ⟨"RevisionGrove$Branches", "undoneCount", "()I"⟩ ∈ rg_tbl := rg_mem (List.mem_append_right _ (List.mem_append_left _ (List.mem_of_getElem? (l := tables_1_2) (i := 209) (by decide +kernel)))) (by decide +kernel)
theorem tw_450 : Cond.code ⟨"RevisionGrove$Branches", "undoneCount", "()I"⟩ prog_2_method_5_code 1 (some FieldType.int) ∈ rg_tbl := rg_mem (List.mem_append_right _ (List.mem_append_left _ (List.mem_of_getElem? (l := tables_1_2) (i := 210) (by decide +kernel)))) (by decide +kernel)
theorem tw_452 : Cond.methodLink "RevisionGrove" 127 ⟨"RevisionGrove$Branches", "stepForward", "()V"⟩ ∈ rg_tbl := rg_mem (List.mem_append_right _ (List.mem_append_left _ (List.mem_of_getElem? (l := tables_1_2) (i := 212) (by decide +kernel)))) (by decide +kernel)
theorem tw_453 : Cond.instanceMethod ⟨"RevisionGrove$Branches", "stepForward", "()V"⟩ ∈ rg_tbl := rg_mem (List.mem_append_right _ (List.mem_append_left _ (List.mem_of_getElem? (l := tables_1_2) (i := 213) (by decide +kernel)))) (by decide +kernel)
theorem tw_454 : Cond.selects "RevisionGrove$Branches" ⟨"RevisionGrove$Branches", "stepForward", "()V"⟩ ⟨"RevisionGrove$Branches", "stepForward", "()V"⟩ ∈ rg_tbl := rg_mem (List.mem_append_right _ (List.mem_append_left _ (List.mem_of_getElem? (l := tables_1_2) (i := 214) (by decide +kernel)))) (by decide +kernel)
theorem tw_455 : Cond.code ⟨"RevisionGrove$Branches", "stepForward", "()V"⟩ prog_2_method_10_code 1 (none : Option FieldType) ∈ rg_tbl := rg_mem (List.mem_append_right _ (List.mem_append_left _ (List.mem_of_getElem? (l := tables_1_2) (i := 215) (by decide +kernel)))) (by decide +kernel)
theorem tw_456 : Cond.methodLink "RevisionGroveLaw" 118 ⟨"RevisionGroveLaw", "merge", "(LRevisionGrove;II[J)I"⟩ ∈ rg_tbl := rg_mem (List.mem_append_right _ (List.mem_append_left _ (List.mem_of_getElem? (l := tables_1_2) (i := 216) (by decide +kernel)))) (by decide +kernel)
theorem tw_457 : Cond.static ⟨"RevisionGroveLaw", "merge", "(LRevisionGrove;II[J)I"⟩ ∈ rg_tbl := rg_mem (List.mem_append_right _ (List.mem_append_left _ (List.mem_of_getElem? (l := tables_1_2) (i := 217) (by decide +kernel)))) (by decide +kernel)
theorem tw_459 : Cond.methodLink "RevisionGroveLaw" 53 ⟨"RevisionGrove", "merge", "(II)I"⟩ ∈ rg_tbl := rg_mem (List.mem_append_right _ (List.mem_append_left _ (List.mem_of_getElem? (l := tables_1_2) (i := 219) (by decide +kernel)))) (by decide +kernel)
theorem tw_460 : Cond.instanceMethod ⟨"RevisionGrove", "merge", "(II)I"⟩ ∈ rg_tbl := rg_mem (List.mem_append_right _ (List.mem_append_left _ (List.mem_of_getElem? (l := tables_1_2) (i := 220) (by decide +kernel)))) (by decide +kernel)
theorem tw_461 : Cond.selects "RevisionGrove" ⟨"RevisionGrove", "merge", "(II)I"⟩ ⟨"RevisionGrove", "merge", "(II)I"⟩ ∈ rg_tbl := rg_mem (List.mem_append_right _ (List.mem_append_left _ (List.mem_of_getElem? (l := tables_1_2) (i := 221) (by decide +kernel)))) (by decide +kernel)
theorem tw_462 : Cond.code ⟨"RevisionGrove", "merge", "(II)I"⟩ prog_1_method_12_code 5 (some FieldType.int) ∈ rg_tbl := rg_mem (List.mem_append_right _ (List.mem_append_left _ (List.mem_of_getElem? (l := tables_1_2) (i := 222) (by decide +kernel)))) (by decide +kernel)
theorem tw_464 : Cond.methodLink "RevisionGrove" 132 ⟨"RevisionGrove$Branches", "revisionOf", "(I)I"⟩ ∈ rg_tbl := rg_mem (List.mem_append_right _ (List.mem_append_left _ (List.mem_of_getElem? (l := tables_1_2) (i := 224) (by decide +kernel)))) (by decide +kernel)
theorem tw_465 : Cond.instanceMethod ⟨"RevisionGrove$Branches", "revisionOf", "(I)I"⟩ ∈ rg_tbl := rg_mem (List.mem_append_right _ (List.mem_append_left _ (List.mem_of_getElem? (l := tables_1_2) (i := 225) (by decide +kernel)))) (by decide +kernel)
theorem tw_466 : Cond.selects "RevisionGrove$Branches" ⟨"RevisionGrove$Branches", "revisionOf", "(I)I"⟩ ⟨"RevisionGrove$Branches", "revisionOf", "(I)I"⟩ ∈ rg_tbl := rg_mem (List.mem_append_right _ (List.mem_append_left _ (List.mem_of_getElem? (l := tables_1_2) (i := 226) (by decide +kernel)))) (by decide +kernel)
theorem tw_467 : Cond.code ⟨"RevisionGrove$Branches", "revisionOf", "(I)I"⟩ prog_2_method_4_code 2 (some FieldType.int) ∈ rg_tbl := rg_mem (List.mem_append_right _ (List.mem_append_left _ (List.mem_of_getElem? (l := tables_1_2) (i := 227) (by decide +kernel)))) (by decide +kernel)
theorem tw_468 : Cond.methodLink "RevisionGrove" 135 ⟨"RevisionGrove$Revisions", "isAncestor", "(II)Z"⟩ ∈ rg_tbl := rg_mem (List.mem_append_right _ (List.mem_append_left _ (List.mem_of_getElem? (l := tables_1_2) (i := 228) (by decide +kernel)))) (by decide +kernel)
theorem tw_469 : Cond.instanceMethod ⟨"RevisionGrove$Revisions", "isAncestor", "(II)Z"⟩ ∈ rg_tbl := rg_mem (List.mem_append_right _ (List.mem_append_left _ (List.mem_of_getElem? (l := tables_1_2) (i := 229) (by decide +kernel)))) (by decide +kernel)
theorem tw_470 : Cond.selects "RevisionGrove$Revisions" ⟨"RevisionGrove$Revisions", "isAncestor", "(II)Z"⟩ ⟨"RevisionGrove$Revisions", "isAncestor", "(II)Z"⟩ ∈ rg_tbl := rg_mem (List.mem_append_right _ (List.mem_append_left _ (List.mem_of_getElem? (l := tables_1_2) (i := 230) (by decide +kernel)))) (by decide +kernel)
theorem tw_471 : Cond.code ⟨"RevisionGrove$Revisions", "isAncestor", "(II)Z"⟩ prog_6_method_8_code 3 (some FieldType.boolean) ∈ rg_tbl := rg_mem (List.mem_append_right _ (List.mem_append_left _ (List.mem_of_getElem? (l := tables_1_2) (i := 231) (by decide +kernel)))) (by decide +kernel)
theorem tw_472 : Cond.methodLink "RevisionGrove" 138 ⟨"RevisionGrove", "draftJoined", "(III)I"⟩ ∈ rg_tbl := rg_mem (List.mem_append_right _ (List.mem_append_left _ (List.mem_of_getElem? (l := tables_1_2) (i := 232) (by decide +kernel)))) (by decide +kernel)
theorem tw_474 : Cond.instanceMethod ⟨"RevisionGrove", "draftJoined", "(III)I"⟩ ∈ rg_tbl := rg_mem (List.mem_append_right _ (List.mem_append_left _ (List.mem_of_getElem? (l := tables_1_2) (i := 234) (by decide +kernel)))) (by decide +kernel)
theorem tw_475 : Cond.code ⟨"RevisionGrove", "draftJoined", "(III)I"⟩ prog_1_method_24_code 7 (some FieldType.int) ∈ rg_tbl := rg_mem (List.mem_append_right _ (List.mem_append_left _ (List.mem_of_getElem? (l := tables_1_2) (i := 235) (by decide +kernel)))) (by decide +kernel)
theorem tw_476 : Cond.methodLink "RevisionGrove" 147 ⟨"RevisionGrove$Revisions", "latestShared", "(II)I"⟩ ∈ rg_tbl := rg_mem (List.mem_append_right _ (List.mem_append_left _ (List.mem_of_getElem? (l := tables_1_2) (i := 236) (by decide +kernel)))) (by decide +kernel)
theorem tw_477 : Cond.instanceMethod ⟨"RevisionGrove$Revisions", "latestShared", "(II)I"⟩ ∈ rg_tbl := rg_mem (List.mem_append_right _ (List.mem_append_left _ (List.mem_of_getElem? (l := tables_1_2) (i := 237) (by decide +kernel)))) (by decide +kernel)
theorem tw_478 : Cond.selects "RevisionGrove$Revisions" ⟨"RevisionGrove$Revisions", "latestShared", "(II)I"⟩ ⟨"RevisionGrove$Revisions", "latestShared", "(II)I"⟩ ∈ rg_tbl := rg_mem (List.mem_append_right _ (List.mem_append_left _ (List.mem_of_getElem? (l := tables_1_2) (i := 238) (by decide +kernel)))) (by decide +kernel)
theorem tw_479 : Cond.code ⟨"RevisionGrove$Revisions", "latestShared", "(II)I"⟩ prog_6_method_9_code 6 (some FieldType.int) ∈ rg_tbl := rg_mem (List.mem_append_right _ (List.mem_append_left _ (List.mem_of_getElem? (l := tables_1_2) (i := 239) (by decide +kernel)))) (by decide +kernel)
theorem tw_480 : Cond.methodLink "RevisionGrove$Revisions" 40 ⟨"java/lang/Math", "min", "(II)I"⟩ ∈ rg_tbl := rg_mem (List.mem_append_right _ (List.mem_append_right _ (List.mem_append_left _ (List.mem_of_getElem? (l := tables_1_3) (i := 0) (by decide +kernel))))) (by decide +kernel)
theorem tw_481 : Cond.static ⟨"java/lang/Math", "min", "(II)I"⟩ ∈ rg_tbl := rg_mem (List.mem_append_right _ (List.mem_append_right _ (List.mem_append_left _ (List.mem_of_getElem? (l := tables_1_3) (i := 1) (by decide +kernel))))) (by decide +kernel)
theorem tw_482 : Cond.code ⟨"java/lang/Math", "min", "(II)I"⟩ prog_13_method_69_code 2 (some FieldType.int) ∈ rg_tbl := rg_mem (List.mem_append_right _ (List.mem_append_right _ (List.mem_append_left _ (List.mem_of_getElem? (l := tables_1_3) (i := 2) (by decide +kernel))))) (by decide +kernel)
theorem tw_483 : Cond.methodLink "RevisionGrove" 199 ⟨"RevisionGrove$Joining", "join", "(LRevisionGrove$Fields;LRevisionGrove$Fields;LRevisionGrove$Fields;LRevisionGrove$Fields;LRevisionGrove$Fields;)I"⟩ ∈ rg_tbl := rg_mem (List.mem_append_right _ (List.mem_append_right _ (List.mem_append_left _ (List.mem_of_getElem? (l := tables_1_3) (i := 3) (by decide +kernel))))) (by decide +kernel)
theorem tw_484 : Cond.static ⟨"RevisionGrove$Joining", "join", "(LRevisionGrove$Fields;LRevisionGrove$Fields;LRevisionGrove$Fields;LRevisionGrove$Fields;LRevisionGrove$Fields;)I"⟩ ∈ rg_tbl := rg_mem (List.mem_append_right _ (List.mem_append_right _ (List.mem_append_left _ (List.mem_of_getElem? (l := tables_1_3) (i := 4) (by decide +kernel))))) (by decide +kernel)
theorem tw_485 : Cond.code ⟨"RevisionGrove$Joining", "join", "(LRevisionGrove$Fields;LRevisionGrove$Fields;LRevisionGrove$Fields;LRevisionGrove$Fields;LRevisionGrove$Fields;)I"⟩ prog_5_method_2_code 7 (some FieldType.int) ∈ rg_tbl := rg_mem (List.mem_append_right _ (List.mem_append_right _ (List.mem_append_left _ (List.mem_of_getElem? (l := tables_1_3) (i := 5) (by decide +kernel))))) (by decide +kernel)
theorem tw_486 : Cond.methodLink "RevisionGrove$Joining" 9 ⟨"RevisionGrove$Joining", "joinField", "(LRevisionGrove$Fields;LRevisionGrove$Fields;LRevisionGrove$Fields;LRevisionGrove$Fields;I)Z"⟩ ∈ rg_tbl := rg_mem (List.mem_append_right _ (List.mem_append_right _ (List.mem_append_left _ (List.mem_of_getElem? (l := tables_1_3) (i := 6) (by decide +kernel))))) (by decide +kernel)
theorem tw_487 : Cond.static ⟨"RevisionGrove$Joining", "joinField", "(LRevisionGrove$Fields;LRevisionGrove$Fields;LRevisionGrove$Fields;LRevisionGrove$Fields;I)Z"⟩ ∈ rg_tbl := rg_mem (List.mem_append_right _ (List.mem_append_right _ (List.mem_append_left _ (List.mem_of_getElem? (l := tables_1_3) (i := 7) (by decide +kernel))))) (by decide +kernel)
theorem tw_488 : Cond.code ⟨"RevisionGrove$Joining", "joinField", "(LRevisionGrove$Fields;LRevisionGrove$Fields;LRevisionGrove$Fields;LRevisionGrove$Fields;I)Z"⟩ prog_5_method_3_code 5 (some FieldType.boolean) ∈ rg_tbl := rg_mem (List.mem_append_right _ (List.mem_append_right _ (List.mem_append_left _ (List.mem_of_getElem? (l := tables_1_3) (i := 8) (by decide +kernel))))) (by decide +kernel)
theorem tw_489 : Cond.methodLink "RevisionGrove$Joining" 21 ⟨"RevisionGrove$Fields", "cell", "(I)J"⟩ ∈ rg_tbl := rg_mem (List.mem_append_right _ (List.mem_append_right _ (List.mem_append_left _ (List.mem_of_getElem? (l := tables_1_3) (i := 9) (by decide +kernel))))) (by decide +kernel)
theorem tw_490 : Cond.methodLink "RevisionGrove$Joining" 25 ⟨"RevisionGrove$Fields", "setCell", "(IJ)V"⟩ ∈ rg_tbl := rg_mem (List.mem_append_right _ (List.mem_append_right _ (List.mem_append_left _ (List.mem_of_getElem? (l := tables_1_3) (i := 10) (by decide +kernel))))) (by decide +kernel)
theorem tw_491 : Cond.methodLink "RevisionGrove$Joining" 29 ⟨"RevisionGrove$Joining", "joinedSet", "(JJJ)J"⟩ ∈ rg_tbl := rg_mem (List.mem_append_right _ (List.mem_append_right _ (List.mem_append_left _ (List.mem_of_getElem? (l := tables_1_3) (i := 11) (by decide +kernel))))) (by decide +kernel)
theorem tw_492 : Cond.static ⟨"RevisionGrove$Joining", "joinedSet", "(JJJ)J"⟩ ∈ rg_tbl := rg_mem (List.mem_append_right _ (List.mem_append_right _ (List.mem_append_left _ (List.mem_of_getElem? (l := tables_1_3) (i := 12) (by decide +kernel))))) (by decide +kernel)
theorem tw_493 : Cond.code ⟨"RevisionGrove$Joining", "joinedSet", "(JJJ)J"⟩ prog_5_method_4_code 6 (some FieldType.long) ∈ rg_tbl := rg_mem (List.mem_append_right _ (List.mem_append_right _ (List.mem_append_left _ (List.mem_of_getElem? (l := tables_1_3) (i := 13) (by decide +kernel))))) (by decide +kernel)
theorem tw_494 : Cond.constantLong "RevisionGrove$Joining" 46 (-1 : Int64) ∈ rg_tbl := rg_mem (List.mem_append_right _ (List.mem_append_right _ (List.mem_append_left _ (List.mem_of_getElem? (l := tables_1_3) (i := 14) (by decide +kernel))))) (by decide +kernel)
theorem tw_495 : Cond.methodLink "RevisionGrove$Joining" 33 ⟨"RevisionGrove$Fields", "isSame", "(LRevisionGrove$Fields;I)Z"⟩ ∈ rg_tbl := rg_mem (List.mem_append_right _ (List.mem_append_right _ (List.mem_append_left _ (List.mem_of_getElem? (l := tables_1_3) (i := 15) (by decide +kernel))))) (by decide +kernel)
theorem tw_496 : Cond.methodLink "RevisionGrove$Joining" 15 ⟨"RevisionGrove$Fields", "take", "(LRevisionGrove$Fields;I)V"⟩ ∈ rg_tbl := rg_mem (List.mem_append_right _ (List.mem_append_right _ (List.mem_append_left _ (List.mem_of_getElem? (l := tables_1_3) (i := 16) (by decide +kernel))))) (by decide +kernel)
theorem tw_497 : Cond.instanceMethod ⟨"RevisionGrove$Fields", "take", "(LRevisionGrove$Fields;I)V"⟩ ∈ rg_tbl := rg_mem (List.mem_append_right _ (List.mem_append_right _ (List.mem_append_left _ (List.mem_of_getElem? (l := tables_1_3) (i := 17) (by decide +kernel))))) (by decide +kernel)
theorem tw_498 : Cond.selects "RevisionGrove$Fields" ⟨"RevisionGrove$Fields", "take", "(LRevisionGrove$Fields;I)V"⟩ ⟨"RevisionGrove$Fields", "take", "(LRevisionGrove$Fields;I)V"⟩ ∈ rg_tbl := rg_mem (List.mem_append_right _ (List.mem_append_right _ (List.mem_append_left _ (List.mem_of_getElem? (l := tables_1_3) (i := 18) (by decide +kernel))))) (by decide +kernel)
theorem tw_499 : Cond.code ⟨"RevisionGrove$Fields", "take", "(LRevisionGrove$Fields;I)V"⟩ prog_4_method_14_code 3 (none : Option FieldType) ∈ rg_tbl := rg_mem (List.mem_append_right _ (List.mem_append_right _ (List.mem_append_left _ (List.mem_of_getElem? (l := tables_1_3) (i := 19) (by decide +kernel))))) (by decide +kernel)
theorem tw_500 : Cond.classLink "RevisionGrove$Joining" 37 "RevisionGrove$Change" ∈ rg_tbl := rg_mem (List.mem_append_right _ (List.mem_append_right _ (List.mem_append_left _ (List.mem_of_getElem? (l := tables_1_3) (i := 20) (by decide +kernel))))) (by decide +kernel)
theorem tw_501 : Cond.instantiable "RevisionGrove$Change" 4 ∈ rg_tbl := rg_mem (List.mem_append_right _ (List.mem_append_right _ (List.mem_append_left _ (List.mem_of_getElem? (l := tables_1_3) (i := 21) (by decide +kernel))))) (by decide +kernel)
theorem tw_502 : Cond.methodLink "RevisionGrove$Joining" 39 ⟨"RevisionGrove$Change", "<init>", "(LRevisionGrove$Fields;LRevisionGrove$Fields;I)V"⟩ ∈ rg_tbl := rg_mem (List.mem_append_right _ (List.mem_append_right _ (List.mem_append_left _ (List.mem_of_getElem? (l := tables_1_3) (i := 22) (by decide +kernel))))) (by decide +kernel)
theorem tw_503 : Cond.instanceMethod ⟨"RevisionGrove$Change", "<init>", "(LRevisionGrove$Fields;LRevisionGrove$Fields;I)V"⟩ ∈ rg_tbl := rg_mem (List.mem_append_right _ (List.mem_append_right _ (List.mem_append_left _ (List.mem_of_getElem? (l := tables_1_3) (i := 23) (by decide +kernel))))) (by decide +kernel)
theorem tw_504 : Cond.code ⟨"RevisionGrove$Change", "<init>", "(LRevisionGrove$Fields;LRevisionGrove$Fields;I)V"⟩ prog_3_method_1_code 6 (none : Option FieldType) ∈ rg_tbl := rg_mem (List.mem_append_right _ (List.mem_append_right _ (List.mem_append_left _ (List.mem_of_getElem? (l := tables_1_3) (i := 24) (by decide +kernel))))) (by decide +kernel)
theorem tw_505 : Cond.methodLink "RevisionGrove$Change" 1 ⟨"java/lang/Object", "<init>", "()V"⟩ ∈ rg_tbl := rg_mem (List.mem_append_right _ (List.mem_append_right _ (List.mem_append_left _ (List.mem_of_getElem? (l := tables_1_3) (i := 25) (by decide +kernel))))) (by decide +kernel)
theorem tw_506 : Cond.methodLink "RevisionGrove$Change" 7 ⟨"RevisionGrove$Fields", "sameAtBeginning", "(LRevisionGrove$Fields;I)I"⟩ ∈ rg_tbl := rg_mem (List.mem_append_right _ (List.mem_append_right _ (List.mem_append_left _ (List.mem_of_getElem? (l := tables_1_3) (i := 26) (by decide +kernel))))) (by decide +kernel)
theorem tw_507 : Cond.instanceMethod ⟨"RevisionGrove$Fields", "sameAtBeginning", "(LRevisionGrove$Fields;I)I"⟩ ∈ rg_tbl := rg_mem (List.mem_append_right _ (List.mem_append_right _ (List.mem_append_left _ (List.mem_of_getElem? (l := tables_1_3) (i := 27) (by decide +kernel))))) (by decide +kernel)
theorem tw_508 : Cond.selects "RevisionGrove$Fields" ⟨"RevisionGrove$Fields", "sameAtBeginning", "(LRevisionGrove$Fields;I)I"⟩ ⟨"RevisionGrove$Fields", "sameAtBeginning", "(LRevisionGrove$Fields;I)I"⟩ ∈ rg_tbl := rg_mem (List.mem_append_right _ (List.mem_append_right _ (List.mem_append_left _ (List.mem_of_getElem? (l := tables_1_3) (i := 28) (by decide +kernel))))) (by decide +kernel)
theorem tw_509 : Cond.code ⟨"RevisionGrove$Fields", "sameAtBeginning", "(LRevisionGrove$Fields;I)I"⟩ prog_4_method_12_code 6 (some FieldType.int) ∈ rg_tbl := rg_mem (List.mem_append_right _ (List.mem_append_right _ (List.mem_append_left _ (List.mem_of_getElem? (l := tables_1_3) (i := 29) (by decide +kernel))))) (by decide +kernel)
theorem tw_510 : Cond.methodLink "RevisionGrove$Fields" 32 ⟨"java/lang/Math", "min", "(II)I"⟩ ∈ rg_tbl := rg_mem (List.mem_append_right _ (List.mem_append_right _ (List.mem_append_left _ (List.mem_of_getElem? (l := tables_1_3) (i := 30) (by decide +kernel))))) (by decide +kernel)
theorem tw_511 : Cond.methodLink "RevisionGrove$Change" 13 ⟨"RevisionGrove$Fields", "sameAtEnd", "(LRevisionGrove$Fields;II)I"⟩ ∈ rg_tbl := rg_mem (List.mem_append_right _ (List.mem_append_right _ (List.mem_append_left _ (List.mem_of_getElem? (l := tables_1_3) (i := 31) (by decide +kernel))))) (by decide +kernel)
theorem tw_512 : Cond.instanceMethod ⟨"RevisionGrove$Fields", "sameAtEnd", "(LRevisionGrove$Fields;II)I"⟩ ∈ rg_tbl := rg_mem (List.mem_append_right _ (List.mem_append_right _ (List.mem_append_left _ (List.mem_of_getElem? (l := tables_1_3) (i := 32) (by decide +kernel))))) (by decide +kernel)
theorem tw_513 : Cond.selects "RevisionGrove$Fields" ⟨"RevisionGrove$Fields", "sameAtEnd", "(LRevisionGrove$Fields;II)I"⟩ ⟨"RevisionGrove$Fields", "sameAtEnd", "(LRevisionGrove$Fields;II)I"⟩ ∈ rg_tbl := rg_mem (List.mem_append_right _ (List.mem_append_right _ (List.mem_append_left _ (List.mem_of_getElem? (l := tables_1_3) (i := 33) (by decide +kernel))))) (by decide +kernel)
theorem tw_514 : Cond.code ⟨"RevisionGrove$Fields", "sameAtEnd", "(LRevisionGrove$Fields;II)I"⟩ prog_4_method_13_code 8 (some FieldType.int) ∈ rg_tbl := rg_mem (List.mem_append_right _ (List.mem_append_right _ (List.mem_append_left _ (List.mem_of_getElem? (l := tables_1_3) (i := 34) (by decide +kernel))))) (by decide +kernel)
theorem tw_515 : Cond.methodLink "RevisionGrove$Change" 27 ⟨"RevisionGrove$Fields", "length", "(I)I"⟩ ∈ rg_tbl := rg_mem (List.mem_append_right _ (List.mem_append_right _ (List.mem_append_left _ (List.mem_of_getElem? (l := tables_1_3) (i := 35) (by decide +kernel))))) (by decide +kernel)
theorem tw_516 : Cond.fieldLink "RevisionGrove$Change" 17 "RevisionGrove$Change" "version" "LRevisionGrove$Fields;" ∈ rg_tbl := rg_mem (List.mem_append_right _ (List.mem_append_right _ (List.mem_append_left _ (List.mem_of_getElem? (l := tables_1_3) (i := 36) (by decide +kernel))))) (by decide +kernel)
theorem tw_518 : Cond.fieldLink "RevisionGrove$Change" 23 "RevisionGrove$Change" "begin" "I" ∈ rg_tbl := rg_mem (List.mem_append_right _ (List.mem_append_right _ (List.mem_append_left _ (List.mem_of_getElem? (l := tables_1_3) (i := 38) (by decide +kernel))))) (by decide +kernel)
theorem tw_520 : Cond.fieldLink "RevisionGrove$Change" 31 "RevisionGrove$Change" "end" "I" ∈ rg_tbl := rg_mem (List.mem_append_right _ (List.mem_append_right _ (List.mem_append_left _ (List.mem_of_getElem? (l := tables_1_3) (i := 40) (by decide +kernel))))) (by decide +kernel)
theorem tw_522 : Cond.fieldLink "RevisionGrove$Change" 34 "RevisionGrove$Change" "versionEnd" "I" ∈ rg_tbl := rg_mem (List.mem_append_right _ (List.mem_append_right _ (List.mem_append_left _ (List.mem_of_getElem? (l := tables_1_3) (i := 42) (by decide +kernel))))) (by decide +kernel)
theorem tw_524 : Cond.laysFinal "RevisionGrove$Change" "RevisionGrove$Change" "version" "LRevisionGrove$Fields;" ∈ rg_tbl := rg_mem (List.mem_append_right _ (List.mem_append_right _ (List.mem_append_left _ (List.mem_of_getElem? (l := tables_1_3) (i := 44) (by decide +kernel))))) (by decide +kernel)
theorem tw_526 : Cond.laysFinal "RevisionGrove$Change" "RevisionGrove$Change" "begin" "I" ∈ rg_tbl := rg_mem (List.mem_append_right _ (List.mem_append_right _ (List.mem_append_left _ (List.mem_of_getElem? (l := tables_1_3) (i := 46) (by decide +kernel))))) (by decide +kernel)
theorem tw_528 : Cond.laysFinal "RevisionGrove$Change" "RevisionGrove$Change" "end" "I" ∈ rg_tbl := rg_mem (List.mem_append_right _ (List.mem_append_right _ (List.mem_append_left _ (List.mem_of_getElem? (l := tables_1_3) (i := 48) (by decide +kernel))))) (by decide +kernel)
theorem tw_530 : Cond.laysFinal "RevisionGrove$Change" "RevisionGrove$Change" "versionEnd" "I" ∈ rg_tbl := rg_mem (List.mem_append_right _ (List.mem_append_right _ (List.mem_append_left _ (List.mem_of_getElem? (l := tables_1_3) (i := 50) (by decide +kernel))))) (by decide +kernel)
theorem tw_533 : Cond.methodLink "RevisionGrove$Joining" 42 ⟨"RevisionGrove$Joining", "joinList", "(LRevisionGrove$Fields;LRevisionGrove$Fields;LRevisionGrove$Change;LRevisionGrove$Change;I)Z"⟩ ∈ rg_tbl := rg_mem (List.mem_append_right _ (List.mem_append_right _ (List.mem_append_left _ (List.mem_of_getElem? (l := tables_1_3) (i := 53) (by decide +kernel))))) (by decide +kernel)
theorem tw_534 : Cond.static ⟨"RevisionGrove$Joining", "joinList", "(LRevisionGrove$Fields;LRevisionGrove$Fields;LRevisionGrove$Change;LRevisionGrove$Change;I)Z"⟩ ∈ rg_tbl := rg_mem (List.mem_append_right _ (List.mem_append_right _ (List.mem_append_left _ (List.mem_of_getElem? (l := tables_1_3) (i := 54) (by decide +kernel))))) (by decide +kernel)
theorem tw_535 : Cond.code ⟨"RevisionGrove$Joining", "joinList", "(LRevisionGrove$Fields;LRevisionGrove$Fields;LRevisionGrove$Change;LRevisionGrove$Change;I)Z"⟩ prog_5_method_5_code 9 (some FieldType.boolean) ∈ rg_tbl := rg_mem (List.mem_append_right _ (List.mem_append_right _ (List.mem_append_left _ (List.mem_of_getElem? (l := tables_1_3) (i := 55) (by decide +kernel))))) (by decide +kernel)
theorem tw_536 : Cond.methodLink "RevisionGrove$Joining" 55 ⟨"RevisionGrove$Fields", "length", "(I)I"⟩ ∈ rg_tbl := rg_mem (List.mem_append_right _ (List.mem_append_right _ (List.mem_append_left _ (List.mem_of_getElem? (l := tables_1_3) (i := 56) (by decide +kernel))))) (by decide +kernel)
theorem tw_537 : Cond.methodLink "RevisionGrove$Joining" 59 ⟨"RevisionGrove$Change", "growth", "()I"⟩ ∈ rg_tbl := rg_mem (List.mem_append_right _ (List.mem_append_right _ (List.mem_append_left _ (List.mem_of_getElem? (l := tables_1_3) (i := 57) (by decide +kernel))))) (by decide +kernel)
theorem tw_538 : Cond.instanceMethod ⟨"RevisionGrove$Change", "growth", "()I"⟩ ∈ rg_tbl := rg_mem (List.mem_append_right _ (List.mem_append_right _ (List.mem_append_left _ (List.mem_of_getElem? (l := tables_1_3) (i := 58) (by decide +kernel))))) (by decide +kernel)
theorem tw_539 : Cond.selects "RevisionGrove$Change" ⟨"RevisionGrove$Change", "growth", "()I"⟩ ⟨"RevisionGrove$Change", "growth", "()I"⟩ ∈ rg_tbl := rg_mem (List.mem_append_right _ (List.mem_append_right _ (List.mem_append_left _ (List.mem_of_getElem? (l := tables_1_3) (i := 59) (by decide +kernel))))) (by decide +kernel)
theorem tw_540 : Cond.code ⟨"RevisionGrove$Change", "growth", "()I"⟩ prog_3_method_2_code 1 (some FieldType.int) ∈ rg_tbl := rg_mem (List.mem_append_right _ (List.mem_append_right _ (List.mem_append_left _ (List.mem_of_getElem? (l := tables_1_3) (i := 60) (by decide +kernel))))) (by decide +kernel)
theorem tw_541 : Cond.methodLink "RevisionGrove$Joining" 63 ⟨"RevisionGrove$Fields", "clearList", "(I)V"⟩ ∈ rg_tbl := rg_mem (List.mem_append_right _ (List.mem_append_right _ (List.mem_append_left _ (List.mem_of_getElem? (l := tables_1_3) (i := 61) (by decide +kernel))))) (by decide +kernel)
theorem tw_542 : Cond.instanceMethod ⟨"RevisionGrove$Fields", "clearList", "(I)V"⟩ ∈ rg_tbl := rg_mem (List.mem_append_right _ (List.mem_append_right _ (List.mem_append_left _ (List.mem_of_getElem? (l := tables_1_3) (i := 62) (by decide +kernel))))) (by decide +kernel)
theorem tw_543 : Cond.selects "RevisionGrove$Fields" ⟨"RevisionGrove$Fields", "clearList", "(I)V"⟩ ⟨"RevisionGrove$Fields", "clearList", "(I)V"⟩ ∈ rg_tbl := rg_mem (List.mem_append_right _ (List.mem_append_right _ (List.mem_append_left _ (List.mem_of_getElem? (l := tables_1_3) (i := 63) (by decide +kernel))))) (by decide +kernel)
theorem tw_544 : Cond.code ⟨"RevisionGrove$Fields", "clearList", "(I)V"⟩ prog_4_method_9_code 3 (none : Option FieldType) ∈ rg_tbl := rg_mem (List.mem_append_right _ (List.mem_append_right _ (List.mem_append_left _ (List.mem_of_getElem? (l := tables_1_3) (i := 64) (by decide +kernel))))) (by decide +kernel)
theorem tw_545 : Cond.methodLink "RevisionGrove$Joining" 67 ⟨"RevisionGrove$Fields", "append", "(ILRevisionGrove$Fields;II)V"⟩ ∈ rg_tbl := rg_mem (List.mem_append_right _ (List.mem_append_right _ (List.mem_append_left _ (List.mem_of_getElem? (l := tables_1_3) (i := 65) (by decide +kernel))))) (by decide +kernel)
theorem tw_546 : Cond.instanceMethod ⟨"RevisionGrove$Fields", "append", "(ILRevisionGrove$Fields;II)V"⟩ ∈ rg_tbl := rg_mem (List.mem_append_right _ (List.mem_append_right _ (List.mem_append_left _ (List.mem_of_getElem? (l := tables_1_3) (i := 66) (by decide +kernel))))) (by decide +kernel)
theorem tw_547 : Cond.selects "RevisionGrove$Fields" ⟨"RevisionGrove$Fields", "append", "(ILRevisionGrove$Fields;II)V"⟩ ⟨"RevisionGrove$Fields", "append", "(ILRevisionGrove$Fields;II)V"⟩ ∈ rg_tbl := rg_mem (List.mem_append_right _ (List.mem_append_right _ (List.mem_append_left _ (List.mem_of_getElem? (l := tables_1_3) (i := 67) (by decide +kernel))))) (by decide +kernel)
theorem tw_548 : Cond.code ⟨"RevisionGrove$Fields", "append", "(ILRevisionGrove$Fields;II)V"⟩ prog_4_method_10_code 6 (none : Option FieldType) ∈ rg_tbl := rg_mem (List.mem_append_right _ (List.mem_append_right _ (List.mem_append_left _ (List.mem_of_getElem? (l := tables_1_3) (i := 68) (by decide +kernel))))) (by decide +kernel)
theorem tw_550 : Cond.methodLink "RevisionGroveLaw" 125 ⟨"RevisionGroveLaw", "base", "(LRevisionGrove;I[J)I"⟩ ∈ rg_tbl := rg_mem (List.mem_append_right _ (List.mem_append_right _ (List.mem_append_left _ (List.mem_of_getElem? (l := tables_1_3) (i := 70) (by decide +kernel))))) (by decide +kernel)
theorem tw_551 : Cond.static ⟨"RevisionGroveLaw", "base", "(LRevisionGrove;I[J)I"⟩ ∈ rg_tbl := rg_mem (List.mem_append_right _ (List.mem_append_right _ (List.mem_append_left _ (List.mem_of_getElem? (l := tables_1_3) (i := 71) (by decide +kernel))))) (by decide +kernel)
theorem tw_553 : Cond.methodLink "RevisionGroveLaw" 56 ⟨"RevisionGrove", "base", "(I)I"⟩ ∈ rg_tbl := rg_mem (List.mem_append_right _ (List.mem_append_right _ (List.mem_append_left _ (List.mem_of_getElem? (l := tables_1_3) (i := 73) (by decide +kernel))))) (by decide +kernel)
theorem tw_554 : Cond.instanceMethod ⟨"RevisionGrove", "base", "(I)I"⟩ ∈ rg_tbl := rg_mem (List.mem_append_right _ (List.mem_append_right _ (List.mem_append_left _ (List.mem_of_getElem? (l := tables_1_3) (i := 74) (by decide +kernel))))) (by decide +kernel)
theorem tw_555 : Cond.selects "RevisionGrove" ⟨"RevisionGrove", "base", "(I)I"⟩ ⟨"RevisionGrove", "base", "(I)I"⟩ ∈ rg_tbl := rg_mem (List.mem_append_right _ (List.mem_append_right _ (List.mem_append_left _ (List.mem_of_getElem? (l := tables_1_3) (i := 75) (by decide +kernel))))) (by decide +kernel)
theorem tw_556 : Cond.code ⟨"RevisionGrove", "base", "(I)I"⟩ prog_1_method_14_code 2 (some FieldType.int) ∈ rg_tbl := rg_mem (List.mem_append_right _ (List.mem_append_right _ (List.mem_append_left _ (List.mem_of_getElem? (l := tables_1_3) (i := 76) (by decide +kernel))))) (by decide +kernel)
theorem tw_557 : Cond.methodLink "RevisionGroveLaw" 128 ⟨"RevisionGroveLaw", "value", "(LRevisionGrove;III[J)I"⟩ ∈ rg_tbl := rg_mem (List.mem_append_right _ (List.mem_append_right _ (List.mem_append_left _ (List.mem_of_getElem? (l := tables_1_3) (i := 77) (by decide +kernel))))) (by decide +kernel)
theorem tw_558 : Cond.static ⟨"RevisionGroveLaw", "value", "(LRevisionGrove;III[J)I"⟩ ∈ rg_tbl := rg_mem (List.mem_append_right _ (List.mem_append_right _ (List.mem_append_left _ (List.mem_of_getElem? (l := tables_1_3) (i := 78) (by decide +kernel))))) (by decide +kernel)
theorem tw_560 : Cond.methodLink "RevisionGroveLaw" 59 ⟨"RevisionGrove", "value", "(III)J"⟩ ∈ rg_tbl := rg_mem (List.mem_append_right _ (List.mem_append_right _ (List.mem_append_left _ (List.mem_of_getElem? (l := tables_1_3) (i := 80) (by decide +kernel))))) (by decide +kernel)
theorem tw_561 : Cond.instanceMethod ⟨"RevisionGrove", "value", "(III)J"⟩ ∈ rg_tbl := rg_mem (List.mem_append_right _ (List.mem_append_right _ (List.mem_append_left _ (List.mem_of_getElem? (l := tables_1_3) (i := 81) (by decide +kernel))))) (by decide +kernel)
theorem tw_562 : Cond.selects "RevisionGrove" ⟨"RevisionGrove", "value", "(III)J"⟩ ⟨"RevisionGrove", "value", "(III)J"⟩ ∈ rg_tbl := rg_mem (List.mem_append_right _ (List.mem_append_right _ (List.mem_append_left _ (List.mem_of_getElem? (l := tables_1_3) (i := 82) (by decide +kernel))))) (by decide +kernel)
theorem tw_563 : Cond.code ⟨"RevisionGrove", "value", "(III)J"⟩ prog_1_method_15_code 5 (some FieldType.long) ∈ rg_tbl := rg_mem (List.mem_append_right _ (List.mem_append_right _ (List.mem_append_left _ (List.mem_of_getElem? (l := tables_1_3) (i := 83) (by decide +kernel))))) (by decide +kernel)
theorem tw_565 : Cond.methodLink "RevisionGrove" 157 ⟨"RevisionGrove$Fields", "intAt", "(II)J"⟩ ∈ rg_tbl := rg_mem (List.mem_append_right _ (List.mem_append_right _ (List.mem_append_left _ (List.mem_of_getElem? (l := tables_1_3) (i := 85) (by decide +kernel))))) (by decide +kernel)
theorem tw_566 : Cond.instanceMethod ⟨"RevisionGrove$Fields", "intAt", "(II)J"⟩ ∈ rg_tbl := rg_mem (List.mem_append_right _ (List.mem_append_right _ (List.mem_append_left _ (List.mem_of_getElem? (l := tables_1_3) (i := 86) (by decide +kernel))))) (by decide +kernel)
theorem tw_567 : Cond.selects "RevisionGrove$Fields" ⟨"RevisionGrove$Fields", "intAt", "(II)J"⟩ ⟨"RevisionGrove$Fields", "intAt", "(II)J"⟩ ∈ rg_tbl := rg_mem (List.mem_append_right _ (List.mem_append_right _ (List.mem_append_left _ (List.mem_of_getElem? (l := tables_1_3) (i := 87) (by decide +kernel))))) (by decide +kernel)
theorem tw_568 : Cond.code ⟨"RevisionGrove$Fields", "intAt", "(II)J"⟩ prog_4_method_6_code 3 (some FieldType.long) ∈ rg_tbl := rg_mem (List.mem_append_right _ (List.mem_append_right _ (List.mem_append_left _ (List.mem_of_getElem? (l := tables_1_3) (i := 88) (by decide +kernel))))) (by decide +kernel)
theorem tw_569 : Cond.methodLink "RevisionGroveLaw" 131 ⟨"RevisionGroveLaw", "differ", "(LRevisionGrove;II[J)I"⟩ ∈ rg_tbl := rg_mem (List.mem_append_right _ (List.mem_append_right _ (List.mem_append_left _ (List.mem_of_getElem? (l := tables_1_3) (i := 89) (by decide +kernel))))) (by decide +kernel)
theorem tw_570 : Cond.static ⟨"RevisionGroveLaw", "differ", "(LRevisionGrove;II[J)I"⟩ ∈ rg_tbl := rg_mem (List.mem_append_right _ (List.mem_append_right _ (List.mem_append_left _ (List.mem_of_getElem? (l := tables_1_3) (i := 90) (by decide +kernel))))) (by decide +kernel)
theorem tw_572 : Cond.methodLink "RevisionGroveLaw" 63 ⟨"RevisionGrove", "differ", "(II)I"⟩ ∈ rg_tbl := rg_mem (List.mem_append_right _ (List.mem_append_right _ (List.mem_append_left _ (List.mem_of_getElem? (l := tables_1_3) (i := 92) (by decide +kernel))))) (by decide +kernel)
theorem tw_573 : Cond.instanceMethod ⟨"RevisionGrove", "differ", "(II)I"⟩ ∈ rg_tbl := rg_mem (List.mem_append_right _ (List.mem_append_right _ (List.mem_append_left _ (List.mem_of_getElem? (l := tables_1_3) (i := 93) (by decide +kernel))))) (by decide +kernel)
theorem tw_574 : Cond.selects "RevisionGrove" ⟨"RevisionGrove", "differ", "(II)I"⟩ ⟨"RevisionGrove", "differ", "(II)I"⟩ ∈ rg_tbl := rg_mem (List.mem_append_right _ (List.mem_append_right _ (List.mem_append_left _ (List.mem_of_getElem? (l := tables_1_3) (i := 94) (by decide +kernel))))) (by decide +kernel)
theorem tw_575 : Cond.code ⟨"RevisionGrove", "differ", "(II)I"⟩ prog_1_method_16_code 7 (some FieldType.int) ∈ rg_tbl := rg_mem (List.mem_append_right _ (List.mem_append_right _ (List.mem_append_left _ (List.mem_of_getElem? (l := tables_1_3) (i := 95) (by decide +kernel))))) (by decide +kernel)
theorem tw_576 : Cond.methodLink "RevisionGroveLaw" 134 ⟨"RevisionGroveLaw", "parent", "(LRevisionGrove;IZ[J)I"⟩ ∈ rg_tbl := rg_mem (List.mem_append_right _ (List.mem_append_right _ (List.mem_append_left _ (List.mem_of_getElem? (l := tables_1_3) (i := 96) (by decide +kernel))))) (by decide +kernel)
theorem tw_577 : Cond.static ⟨"RevisionGroveLaw", "parent", "(LRevisionGrove;IZ[J)I"⟩ ∈ rg_tbl := rg_mem (List.mem_append_right _ (List.mem_append_right _ (List.mem_append_left _ (List.mem_of_getElem? (l := tables_1_3) (i := 97) (by decide +kernel))))) (by decide +kernel)
theorem tw_579 : Cond.methodLink "RevisionGroveLaw" 66 ⟨"RevisionGrove", "parent", "(IZ)I"⟩ ∈ rg_tbl := rg_mem (List.mem_append_right _ (List.mem_append_right _ (List.mem_append_left _ (List.mem_of_getElem? (l := tables_1_3) (i := 99) (by decide +kernel))))) (by decide +kernel)
theorem tw_580 : Cond.instanceMethod ⟨"RevisionGrove", "parent", "(IZ)I"⟩ ∈ rg_tbl := rg_mem (List.mem_append_right _ (List.mem_append_right _ (List.mem_append_left _ (List.mem_of_getElem? (l := tables_1_3) (i := 100) (by decide +kernel))))) (by decide +kernel)
theorem tw_581 : Cond.selects "RevisionGrove" ⟨"RevisionGrove", "parent", "(IZ)I"⟩ ⟨"RevisionGrove", "parent", "(IZ)I"⟩ ∈ rg_tbl := rg_mem (List.mem_append_right _ (List.mem_append_right _ (List.mem_append_left _ (List.mem_of_getElem? (l := tables_1_3) (i := 101) (by decide +kernel))))) (by decide +kernel)
theorem tw_582 : Cond.code ⟨"RevisionGrove", "parent", "(IZ)I"⟩ prog_1_method_17_code 3 (some FieldType.int) ∈ rg_tbl := rg_mem (List.mem_append_right _ (List.mem_append_right _ (List.mem_append_left _ (List.mem_of_getElem? (l := tables_1_3) (i := 102) (by decide +kernel))))) (by decide +kernel)
theorem tw_583 : Cond.methodLink "RevisionGrove" 165 ⟨"RevisionGrove$Revisions", "secondParent", "(I)I"⟩ ∈ rg_tbl := rg_mem (List.mem_append_right _ (List.mem_append_right _ (List.mem_append_left _ (List.mem_of_getElem? (l := tables_1_3) (i := 103) (by decide +kernel))))) (by decide +kernel)
theorem tw_584 : Cond.instanceMethod ⟨"RevisionGrove$Revisions", "secondParent", "(I)I"⟩ ∈ rg_tbl := rg_mem (List.mem_append_right _ (List.mem_append_right _ (List.mem_append_left _ (List.mem_of_getElem? (l := tables_1_3) (i := 104) (by decide +kernel))))) (by decide +kernel)
theorem tw_585 : Cond.selects "RevisionGrove$Revisions" ⟨"RevisionGrove$Revisions", "secondParent", "(I)I"⟩ ⟨"RevisionGrove$Revisions", "secondParent", "(I)I"⟩ ∈ rg_tbl := rg_mem (List.mem_append_right _ (List.mem_append_right _ (List.mem_append_left _ (List.mem_of_getElem? (l := tables_1_3) (i := 105) (by decide +kernel))))) (by decide +kernel)
theorem tw_586 : Cond.code ⟨"RevisionGrove$Revisions", "secondParent", "(I)I"⟩ prog_6_method_6_code 2 (some FieldType.int) ∈ rg_tbl := rg_mem (List.mem_append_right _ (List.mem_append_right _ (List.mem_append_left _ (List.mem_of_getElem? (l := tables_1_3) (i := 106) (by decide +kernel))))) (by decide +kernel)
theorem tw_587 : Cond.methodLink "RevisionGroveLaw" 142 ⟨"RevisionGroveLaw", "figure", "(LRevisionGrove;I[J)I"⟩ ∈ rg_tbl := rg_mem (List.mem_append_right _ (List.mem_append_right _ (List.mem_append_left _ (List.mem_of_getElem? (l := tables_1_3) (i := 107) (by decide +kernel))))) (by decide +kernel)
theorem tw_588 : Cond.static ⟨"RevisionGroveLaw", "figure", "(LRevisionGrove;I[J)I"⟩ ∈ rg_tbl := rg_mem (List.mem_append_right _ (List.mem_append_right _ (List.mem_append_left _ (List.mem_of_getElem? (l := tables_1_3) (i := 108) (by decide +kernel))))) (by decide +kernel)
theorem tw_590 : Cond.methodLink "RevisionGroveLaw" 70 ⟨"RevisionGrove", "figure", "(I)I"⟩ ∈ rg_tbl := rg_mem (List.mem_append_right _ (List.mem_append_right _ (List.mem_append_left _ (List.mem_of_getElem? (l := tables_1_3) (i := 110) (by decide +kernel))))) (by decide +kernel)
theorem tw_591 : Cond.instanceMethod ⟨"RevisionGrove", "figure", "(I)I"⟩ ∈ rg_tbl := rg_mem (List.mem_append_right _ (List.mem_append_right _ (List.mem_append_left _ (List.mem_of_getElem? (l := tables_1_3) (i := 111) (by decide +kernel))))) (by decide +kernel)
theorem tw_592 : Cond.selects "RevisionGrove" ⟨"RevisionGrove", "figure", "(I)I"⟩ ⟨"RevisionGrove", "figure", "(I)I"⟩ ∈ rg_tbl := rg_mem (List.mem_append_right _ (List.mem_append_right _ (List.mem_append_left _ (List.mem_of_getElem? (l := tables_1_3) (i := 112) (by decide +kernel))))) (by decide +kernel)
theorem tw_593 : Cond.code ⟨"RevisionGrove", "figure", "(I)I"⟩ prog_1_method_19_code 2 (some FieldType.int) ∈ rg_tbl := rg_mem (List.mem_append_right _ (List.mem_append_right _ (List.mem_append_left _ (List.mem_of_getElem? (l := tables_1_3) (i := 113) (by decide +kernel))))) (by decide +kernel)
theorem tw_595 : Cond.classLink "RevisionGroveLaw" 74 "RevisionGroveModel" ∈ rg_tbl := rg_mem (List.mem_append_right _ (List.mem_append_right _ (List.mem_append_left _ (List.mem_of_getElem? (l := tables_1_3) (i := 115) (by decide +kernel))))) (by decide +kernel)
theorem tw_596 : Cond.instantiable "RevisionGroveModel" 19 ∈ rg_tbl := rg_mem (List.mem_append_right _ (List.mem_append_right _ (List.mem_append_left _ (List.mem_of_getElem? (l := tables_1_3) (i := 116) (by decide +kernel))))) (by decide +kernel)
theorem tw_597 : Cond.methodLink "RevisionGroveLaw" 76 ⟨"RevisionGroveModel", "<init>", "()V"⟩ ∈ rg_tbl := rg_mem (List.mem_append_right _ (List.mem_append_right _ (List.mem_append_left _ (List.mem_of_getElem? (l := tables_1_3) (i := 117) (by decide +kernel))))) (by decide +kernel)
theorem tw_598 : Cond.instanceMethod ⟨"RevisionGroveModel", "<init>", "()V"⟩ ∈ rg_tbl := rg_mem (List.mem_append_right _ (List.mem_append_right _ (List.mem_append_left _ (List.mem_of_getElem? (l := tables_1_3) (i := 118) (by decide +kernel))))) (by decide +kernel)
theorem tw_599 : Cond.code ⟨"RevisionGroveModel", "<init>", "()V"⟩ prog_8_method_1_code 1 (none : Option FieldType) ∈ rg_tbl := rg_mem (List.mem_append_right _ (List.mem_append_right _ (List.mem_append_left _ (List.mem_of_getElem? (l := tables_1_3) (i := 119) (by decide +kernel))))) (by decide +kernel)
theorem tw_600 : Cond.methodLink "RevisionGroveModel" 1 ⟨"java/lang/Object", "<init>", "()V"⟩ ∈ rg_tbl := rg_mem (List.mem_append_right _ (List.mem_append_right _ (List.mem_append_left _ (List.mem_of_getElem? (l := tables_1_3) (i := 120) (by decide +kernel))))) (by decide +kernel)
theorem tw_601 : Cond.fieldLink "RevisionGroveModel" 57 "RevisionGroveModel" "code" "I" ∈ rg_tbl := rg_mem (List.mem_append_right _ (List.mem_append_right _ (List.mem_append_left _ (List.mem_of_getElem? (l := tables_1_3) (i := 121) (by decide +kernel))))) (by decide +kernel)
theorem tw_602 : Cond.fieldLink "RevisionGroveModel" 7 "RevisionGroveModel" "count" "I" ∈ rg_tbl := rg_mem (List.mem_append_right _ (List.mem_append_right _ (List.mem_append_left _ (List.mem_of_getElem? (l := tables_1_3) (i := 122) (by decide +kernel))))) (by decide +kernel)
theorem tw_603 : Cond.fieldLink "RevisionGroveModel" 13 "RevisionGroveModel" "numbers" "[I" ∈ rg_tbl := rg_mem (List.mem_append_right _ (List.mem_append_right _ (List.mem_append_left _ (List.mem_of_getElem? (l := tables_1_3) (i := 123) (by decide +kernel))))) (by decide +kernel)
theorem tw_604 : Cond.fieldLink "RevisionGroveModel" 17 "RevisionGroveModel" "counters" "[J" ∈ rg_tbl := rg_mem (List.mem_append_right _ (List.mem_append_right _ (List.mem_append_left _ (List.mem_of_getElem? (l := tables_1_3) (i := 124) (by decide +kernel))))) (by decide +kernel)
theorem tw_605 : Cond.fieldLink "RevisionGroveModel" 21 "RevisionGroveModel" "sets" "[I" ∈ rg_tbl := rg_mem (List.mem_append_right _ (List.mem_append_right _ (List.mem_append_left _ (List.mem_of_getElem? (l := tables_1_3) (i := 125) (by decide +kernel))))) (by decide +kernel)
theorem tw_606 : Cond.fieldLink "RevisionGroveModel" 24 "RevisionGroveModel" "lists" "[I" ∈ rg_tbl := rg_mem (List.mem_append_right _ (List.mem_append_right _ (List.mem_append_left _ (List.mem_of_getElem? (l := tables_1_3) (i := 126) (by decide +kernel))))) (by decide +kernel)
theorem tw_607 : Cond.fieldLink "RevisionGroveModel" 27 "RevisionGroveModel" "lengths" "[I" ∈ rg_tbl := rg_mem (List.mem_append_right _ (List.mem_append_right _ (List.mem_append_left _ (List.mem_of_getElem? (l := tables_1_3) (i := 127) (by decide +kernel))))) (by decide +kernel)
theorem tw_608 : Cond.fieldLink "RevisionGroveModel" 30 "RevisionGroveModel" "first" "[I" ∈ rg_tbl := rg_mem (List.mem_append_right _ (List.mem_append_right _ (List.mem_append_left _ (List.mem_of_getElem? (l := tables_1_3) (i := 128) (by decide +kernel))))) (by decide +kernel)
theorem tw_609 : Cond.fieldLink "RevisionGroveModel" 33 "RevisionGroveModel" "second" "[I" ∈ rg_tbl := rg_mem (List.mem_append_right _ (List.mem_append_right _ (List.mem_append_left _ (List.mem_of_getElem? (l := tables_1_3) (i := 129) (by decide +kernel))))) (by decide +kernel)
theorem tw_610 : Cond.fieldLink "RevisionGroveModel" 60 "RevisionGroveModel" "branch" "I" ∈ rg_tbl := rg_mem (List.mem_append_right _ (List.mem_append_right _ (List.mem_append_left _ (List.mem_of_getElem? (l := tables_1_3) (i := 130) (by decide +kernel))))) (by decide +kernel)
theorem tw_611 : Cond.fieldLink "RevisionGroveModel" 36 "RevisionGroveModel" "tips" "[I" ∈ rg_tbl := rg_mem (List.mem_append_right _ (List.mem_append_right _ (List.mem_append_left _ (List.mem_of_getElem? (l := tables_1_3) (i := 131) (by decide +kernel))))) (by decide +kernel)
theorem tw_612 : Cond.fieldLink "RevisionGroveModel" 39 "RevisionGroveModel" "undone" "[I" ∈ rg_tbl := rg_mem (List.mem_append_right _ (List.mem_append_right _ (List.mem_append_left _ (List.mem_of_getElem? (l := tables_1_3) (i := 132) (by decide +kernel))))) (by decide +kernel)
theorem tw_613 : Cond.fieldLink "RevisionGroveModel" 42 "RevisionGroveModel" "many" "[I" ∈ rg_tbl := rg_mem (List.mem_append_right _ (List.mem_append_right _ (List.mem_append_left _ (List.mem_of_getElem? (l := tables_1_3) (i := 133) (by decide +kernel))))) (by decide +kernel)
theorem tw_614 : Cond.fieldLink "RevisionGroveModel" 104 "RevisionGroveModel" "conflicts" "I" ∈ rg_tbl := rg_mem (List.mem_append_right _ (List.mem_append_right _ (List.mem_append_left _ (List.mem_of_getElem? (l := tables_1_3) (i := 134) (by decide +kernel))))) (by decide +kernel)
theorem tw_615 : Cond.fieldLink "RevisionGroveModel" 111 "RevisionGroveModel" "made" "I" ∈ rg_tbl := rg_mem (List.mem_append_right _ (List.mem_append_right _ (List.mem_append_left _ (List.mem_of_getElem? (l := tables_1_3) (i := 135) (by decide +kernel))))) (by decide +kernel)
theorem tw_616 : Cond.fieldLink "RevisionGroveModel" 45 "RevisionGroveModel" "draft" "[I" ∈ rg_tbl := rg_mem (List.mem_append_right _ (List.mem_append_right _ (List.mem_append_left _ (List.mem_of_getElem? (l := tables_1_3) (i := 136) (by decide +kernel))))) (by decide +kernel)
theorem tw_617 : Cond.fieldLink "RevisionGroveModel" 48 "RevisionGroveModel" "from" "[I" ∈ rg_tbl := rg_mem (List.mem_append_right _ (List.mem_append_right _ (List.mem_append_left _ (List.mem_of_getElem? (l := tables_1_3) (i := 137) (by decide +kernel))))) (by decide +kernel)
theorem tw_618 : Cond.fieldLink "RevisionGroveModel" 51 "RevisionGroveModel" "to" "[I" ∈ rg_tbl := rg_mem (List.mem_append_right _ (List.mem_append_right _ (List.mem_append_left _ (List.mem_of_getElem? (l := tables_1_3) (i := 138) (by decide +kernel))))) (by decide +kernel)
theorem tw_619 : Cond.fieldLink "RevisionGroveModel" 54 "RevisionGroveModel" "end" "[I" ∈ rg_tbl := rg_mem (List.mem_append_right _ (List.mem_append_right _ (List.mem_append_left _ (List.mem_of_getElem? (l := tables_1_3) (i := 139) (by decide +kernel))))) (by decide +kernel)
theorem tw_620 : Cond.lays "RevisionGroveModel" "RevisionGroveModel" "code" "I" ∈ rg_tbl := rg_mem (List.mem_append_right _ (List.mem_append_right _ (List.mem_append_left _ (List.mem_of_getElem? (l := tables_1_3) (i := 140) (by decide +kernel))))) (by decide +kernel)
theorem tw_622 : Cond.lays "RevisionGroveModel" "RevisionGroveModel" "count" "I" ∈ rg_tbl := rg_mem (List.mem_append_right _ (List.mem_append_right _ (List.mem_append_left _ (List.mem_of_getElem? (l := tables_1_3) (i := 142) (by decide +kernel))))) (by decide +kernel)
theorem tw_624 : Cond.laysFinal "RevisionGroveModel" "RevisionGroveModel" "numbers" "[I" ∈ rg_tbl := rg_mem (List.mem_append_right _ (List.mem_append_right _ (List.mem_append_left _ (List.mem_of_getElem? (l := tables_1_3) (i := 144) (by decide +kernel))))) (by decide +kernel)
theorem tw_626 : Cond.laysFinal "RevisionGroveModel" "RevisionGroveModel" "counters" "[J" ∈ rg_tbl := rg_mem (List.mem_append_right _ (List.mem_append_right _ (List.mem_append_left _ (List.mem_of_getElem? (l := tables_1_3) (i := 146) (by decide +kernel))))) (by decide +kernel)
theorem tw_628 : Cond.laysFinal "RevisionGroveModel" "RevisionGroveModel" "sets" "[I" ∈ rg_tbl := rg_mem (List.mem_append_right _ (List.mem_append_right _ (List.mem_append_left _ (List.mem_of_getElem? (l := tables_1_3) (i := 148) (by decide +kernel))))) (by decide +kernel)
theorem tw_630 : Cond.laysFinal "RevisionGroveModel" "RevisionGroveModel" "lists" "[I" ∈ rg_tbl := rg_mem (List.mem_append_right _ (List.mem_append_right _ (List.mem_append_left _ (List.mem_of_getElem? (l := tables_1_3) (i := 150) (by decide +kernel))))) (by decide +kernel)
theorem tw_632 : Cond.laysFinal "RevisionGroveModel" "RevisionGroveModel" "lengths" "[I" ∈ rg_tbl := rg_mem (List.mem_append_right _ (List.mem_append_right _ (List.mem_append_left _ (List.mem_of_getElem? (l := tables_1_3) (i := 152) (by decide +kernel))))) (by decide +kernel)
theorem tw_634 : Cond.laysFinal "RevisionGroveModel" "RevisionGroveModel" "first" "[I" ∈ rg_tbl := rg_mem (List.mem_append_right _ (List.mem_append_right _ (List.mem_append_left _ (List.mem_of_getElem? (l := tables_1_3) (i := 154) (by decide +kernel))))) (by decide +kernel)
theorem tw_636 : Cond.laysFinal "RevisionGroveModel" "RevisionGroveModel" "second" "[I" ∈ rg_tbl := rg_mem (List.mem_append_right _ (List.mem_append_right _ (List.mem_append_left _ (List.mem_of_getElem? (l := tables_1_3) (i := 156) (by decide +kernel))))) (by decide +kernel)
theorem tw_638 : Cond.lays "RevisionGroveModel" "RevisionGroveModel" "branch" "I" ∈ rg_tbl := rg_mem (List.mem_append_right _ (List.mem_append_right _ (List.mem_append_left _ (List.mem_of_getElem? (l := tables_1_3) (i := 158) (by decide +kernel))))) (by decide +kernel)
theorem tw_640 : Cond.laysFinal "RevisionGroveModel" "RevisionGroveModel" "tips" "[I" ∈ rg_tbl := rg_mem (List.mem_append_right _ (List.mem_append_right _ (List.mem_append_left _ (List.mem_of_getElem? (l := tables_1_3) (i := 160) (by decide +kernel))))) (by decide +kernel)
theorem tw_642 : Cond.laysFinal "RevisionGroveModel" "RevisionGroveModel" "undone" "[I" ∈ rg_tbl := rg_mem (List.mem_append_right _ (List.mem_append_right _ (List.mem_append_left _ (List.mem_of_getElem? (l := tables_1_3) (i := 162) (by decide +kernel))))) (by decide +kernel)
theorem tw_644 : Cond.laysFinal "RevisionGroveModel" "RevisionGroveModel" "many" "[I" ∈ rg_tbl := rg_mem (List.mem_append_right _ (List.mem_append_right _ (List.mem_append_left _ (List.mem_of_getElem? (l := tables_1_3) (i := 164) (by decide +kernel))))) (by decide +kernel)
theorem tw_646 : Cond.lays "RevisionGroveModel" "RevisionGroveModel" "conflicts" "I" ∈ rg_tbl := rg_mem (List.mem_append_right _ (List.mem_append_right _ (List.mem_append_left _ (List.mem_of_getElem? (l := tables_1_3) (i := 166) (by decide +kernel))))) (by decide +kernel)
theorem tw_648 : Cond.lays "RevisionGroveModel" "RevisionGroveModel" "made" "I" ∈ rg_tbl := rg_mem (List.mem_append_right _ (List.mem_append_right _ (List.mem_append_left _ (List.mem_of_getElem? (l := tables_1_3) (i := 168) (by decide +kernel))))) (by decide +kernel)
theorem tw_650 : Cond.laysFinal "RevisionGroveModel" "RevisionGroveModel" "draft" "[I" ∈ rg_tbl := rg_mem (List.mem_append_right _ (List.mem_append_right _ (List.mem_append_left _ (List.mem_of_getElem? (l := tables_1_3) (i := 170) (by decide +kernel))))) (by decide +kernel)
theorem tw_652 : Cond.laysFinal "RevisionGroveModel" "RevisionGroveModel" "from" "[I" ∈ rg_tbl := rg_mem (List.mem_append_right _ (List.mem_append_right _ (List.mem_append_left _ (List.mem_of_getElem? (l := tables_1_3) (i := 172) (by decide +kernel))))) (by decide +kernel)
theorem tw_654 : Cond.laysFinal "RevisionGroveModel" "RevisionGroveModel" "to" "[I" ∈ rg_tbl := rg_mem (List.mem_append_right _ (List.mem_append_right _ (List.mem_append_left _ (List.mem_of_getElem? (l := tables_1_3) (i := 174) (by decide +kernel))))) (by decide +kernel)
theorem tw_656 : Cond.laysFinal "RevisionGroveModel" "RevisionGroveModel" "end" "[I" ∈ rg_tbl := rg_mem (List.mem_append_right _ (List.mem_append_right _ (List.mem_append_left _ (List.mem_of_getElem? (l := tables_1_3) (i := 176) (by decide +kernel))))) (by decide +kernel)
theorem tw_659 : Cond.methodLink "RevisionGroveLaw" 83 ⟨"RevisionGroveModel", "thrown", "()I"⟩ ∈ rg_tbl := rg_mem (List.mem_append_right _ (List.mem_append_right _ (List.mem_append_left _ (List.mem_of_getElem? (l := tables_1_3) (i := 179) (by decide +kernel))))) (by decide +kernel)
theorem tw_660 : Cond.instanceMethod ⟨"RevisionGroveModel", "thrown", "()I"⟩ ∈ rg_tbl := rg_mem (List.mem_append_right _ (List.mem_append_right _ (List.mem_append_left _ (List.mem_of_getElem? (l := tables_1_3) (i := 180) (by decide +kernel))))) (by decide +kernel)
theorem tw_661 : Cond.selects "RevisionGroveModel" ⟨"RevisionGroveModel", "thrown", "()I"⟩ ⟨"RevisionGroveModel", "thrown", "()I"⟩ ∈ rg_tbl := rg_mem (List.mem_append_right _ (List.mem_append_right _ (List.mem_append_left _ (List.mem_of_getElem? (l := tables_1_3) (i := 181) (by decide +kernel))))) (by decide +kernel)
theorem tw_662 : Cond.code ⟨"RevisionGroveModel", "thrown", "()I"⟩ prog_8_method_2_code 1 (some FieldType.int) ∈ rg_tbl := rg_mem (List.mem_append_right _ (List.mem_append_right _ (List.mem_append_left _ (List.mem_of_getElem? (l := tables_1_3) (i := 182) (by decide +kernel))))) (by decide +kernel)
theorem tw_663 : Cond.methodLink "RevisionGroveLaw" 82 ⟨"RevisionGroveModel", "put", "(II)I"⟩ ∈ rg_tbl := rg_mem (List.mem_append_right _ (List.mem_append_right _ (List.mem_append_left _ (List.mem_of_getElem? (l := tables_1_3) (i := 183) (by decide +kernel))))) (by decide +kernel)
theorem tw_664 : Cond.instanceMethod ⟨"RevisionGroveModel", "put", "(II)I"⟩ ∈ rg_tbl := rg_mem (List.mem_append_right _ (List.mem_append_right _ (List.mem_append_left _ (List.mem_of_getElem? (l := tables_1_3) (i := 184) (by decide +kernel))))) (by decide +kernel)
theorem tw_665 : Cond.selects "RevisionGroveModel" ⟨"RevisionGroveModel", "put", "(II)I"⟩ ⟨"RevisionGroveModel", "put", "(II)I"⟩ ∈ rg_tbl := rg_mem (List.mem_append_right _ (List.mem_append_right _ (List.mem_append_left _ (List.mem_of_getElem? (l := tables_1_3) (i := 185) (by decide +kernel))))) (by decide +kernel)
theorem tw_666 : Cond.code ⟨"RevisionGroveModel", "put", "(II)I"⟩ prog_8_method_10_code 3 (some FieldType.int) ∈ rg_tbl := rg_mem (List.mem_append_right _ (List.mem_append_right _ (List.mem_append_left _ (List.mem_of_getElem? (l := tables_1_3) (i := 186) (by decide +kernel))))) (by decide +kernel)
theorem tw_667 : Cond.methodLink "RevisionGroveModel" 71 ⟨"RevisionGroveModel", "here", "()I"⟩ ∈ rg_tbl := rg_mem (List.mem_append_right _ (List.mem_append_right _ (List.mem_append_left _ (List.mem_of_getElem? (l := tables_1_3) (i := 187) (by decide +kernel))))) (by decide +kernel)
theorem tw_669 : Cond.instanceMethod ⟨"RevisionGroveModel", "here", "()I"⟩ ∈ rg_tbl := rg_mem (List.mem_append_right _ (List.mem_append_right _ (List.mem_append_left _ (List.mem_of_getElem? (l := tables_1_3) (i := 189) (by decide +kernel))))) (by decide +kernel)
theorem tw_670 : Cond.code ⟨"RevisionGroveModel", "here", "()I"⟩ prog_8_method_3_code 1 (some FieldType.int) ∈ rg_tbl := rg_mem (List.mem_append_right _ (List.mem_append_right _ (List.mem_append_left _ (List.mem_of_getElem? (l := tables_1_3) (i := 190) (by decide +kernel))))) (by decide +kernel)
theorem tw_671 : Cond.methodLink "RevisionGroveModel" 82 ⟨"RevisionGroveModel", "copy", "(II)V"⟩ ∈ rg_tbl := rg_mem (List.mem_append_right _ (List.mem_append_right _ (List.mem_append_left _ (List.mem_of_getElem? (l := tables_1_3) (i := 191) (by decide +kernel))))) (by decide +kernel)
theorem tw_673 : Cond.instanceMethod ⟨"RevisionGroveModel", "copy", "(II)V"⟩ ∈ rg_tbl := rg_mem (List.mem_append_right _ (List.mem_append_right _ (List.mem_append_left _ (List.mem_of_getElem? (l := tables_1_3) (i := 193) (by decide +kernel))))) (by decide +kernel)
theorem tw_674 : Cond.code ⟨"RevisionGroveModel", "copy", "(II)V"⟩ prog_8_method_4_code 4 (none : Option FieldType) ∈ rg_tbl := rg_mem (List.mem_append_right _ (List.mem_append_right _ (List.mem_append_left _ (List.mem_of_getElem? (l := tables_1_3) (i := 194) (by decide +kernel))))) (by decide +kernel)
theorem tw_675 : Cond.methodLink "RevisionGroveModel" 86 ⟨"RevisionGroveModel", "change", "()I"⟩ ∈ rg_tbl := rg_mem (List.mem_append_right _ (List.mem_append_right _ (List.mem_append_left _ (List.mem_of_getElem? (l := tables_1_3) (i := 195) (by decide +kernel))))) (by decide +kernel)
theorem tw_677 : Cond.instanceMethod ⟨"RevisionGroveModel", "change", "()I"⟩ ∈ rg_tbl := rg_mem (List.mem_append_right _ (List.mem_append_right _ (List.mem_append_left _ (List.mem_of_getElem? (l := tables_1_3) (i := 197) (by decide +kernel))))) (by decide +kernel)
theorem tw_678 : Cond.code ⟨"RevisionGroveModel", "change", "()I"⟩ prog_8_method_9_code 1 (some FieldType.int) ∈ rg_tbl := rg_mem (List.mem_append_right _ (List.mem_append_right _ (List.mem_append_left _ (List.mem_of_getElem? (l := tables_1_3) (i := 198) (by decide +kernel))))) (by decide +kernel)
theorem tw_679 : Cond.methodLink "RevisionGroveModel" 75 ⟨"RevisionGroveModel", "difference", "(II)I"⟩ ∈ rg_tbl := rg_mem (List.mem_append_right _ (List.mem_append_right _ (List.mem_append_left _ (List.mem_of_getElem? (l := tables_1_3) (i := 199) (by decide +kernel))))) (by decide +kernel)
theorem tw_681 : Cond.instanceMethod ⟨"RevisionGroveModel", "difference", "(II)I"⟩ ∈ rg_tbl := rg_mem (List.mem_append_right _ (List.mem_append_right _ (List.mem_append_left _ (List.mem_of_getElem? (l := tables_1_3) (i := 201) (by decide +kernel))))) (by decide +kernel)
theorem tw_682 : Cond.code ⟨"RevisionGroveModel", "difference", "(II)I"⟩ prog_8_method_7_code 5 (some FieldType.int) ∈ rg_tbl := rg_mem (List.mem_append_right _ (List.mem_append_right _ (List.mem_append_left _ (List.mem_of_getElem? (l := tables_1_3) (i := 202) (by decide +kernel))))) (by decide +kernel)
theorem tw_683 : Cond.methodLink "RevisionGroveModel" 63 ⟨"RevisionGroveModel", "sameList", "(III)Z"⟩ ∈ rg_tbl := rg_mem (List.mem_append_right _ (List.mem_append_right _ (List.mem_append_left _ (List.mem_of_getElem? (l := tables_1_3) (i := 203) (by decide +kernel))))) (by decide +kernel)
theorem tw_685 : Cond.instanceMethod ⟨"RevisionGroveModel", "sameList", "(III)Z"⟩ ∈ rg_tbl := rg_mem (List.mem_append_right _ (List.mem_append_right _ (List.mem_append_left _ (List.mem_of_getElem? (l := tables_1_3) (i := 205) (by decide +kernel))))) (by decide +kernel)
theorem tw_686 : Cond.code ⟨"RevisionGroveModel", "sameList", "(III)Z"⟩ prog_8_method_6_code 6 (some FieldType.boolean) ∈ rg_tbl := rg_mem (List.mem_append_right _ (List.mem_append_right _ (List.mem_append_left _ (List.mem_of_getElem? (l := tables_1_3) (i := 206) (by decide +kernel))))) (by decide +kernel)
theorem tw_687 : Cond.methodLink "RevisionGroveModel" 79 ⟨"RevisionGroveModel", "finish", "(II)I"⟩ ∈ rg_tbl := rg_mem (List.mem_append_right _ (List.mem_append_right _ (List.mem_append_left _ (List.mem_of_getElem? (l := tables_1_3) (i := 207) (by decide +kernel))))) (by decide +kernel)
theorem tw_689 : Cond.instanceMethod ⟨"RevisionGroveModel", "finish", "(II)I"⟩ ∈ rg_tbl := rg_mem (List.mem_append_right _ (List.mem_append_right _ (List.mem_append_left _ (List.mem_of_getElem? (l := tables_1_3) (i := 209) (by decide +kernel))))) (by decide +kernel)
theorem tw_690 : Cond.code ⟨"RevisionGroveModel", "finish", "(II)I"⟩ prog_8_method_8_code 3 (some FieldType.int) ∈ rg_tbl := rg_mem (List.mem_append_right _ (List.mem_append_right _ (List.mem_append_left _ (List.mem_of_getElem? (l := tables_1_3) (i := 210) (by decide +kernel))))) (by decide +kernel)
theorem tw_691 : Cond.methodLink "RevisionGroveModel" 67 ⟨"RevisionGroveModel", "come", "(I)V"⟩ ∈ rg_tbl := rg_mem (List.mem_append_right _ (List.mem_append_right _ (List.mem_append_left _ (List.mem_of_getElem? (l := tables_1_3) (i := 211) (by decide +kernel))))) (by decide +kernel)
theorem tw_693 : Cond.instanceMethod ⟨"RevisionGroveModel", "come", "(I)V"⟩ ∈ rg_tbl := rg_mem (List.mem_append_right _ (List.mem_append_right _ (List.mem_append_left _ (List.mem_of_getElem? (l := tables_1_3) (i := 213) (by decide +kernel))))) (by decide +kernel)
theorem tw_694 : Cond.code ⟨"RevisionGroveModel", "come", "(I)V"⟩ prog_8_method_5_code 2 (none : Option FieldType) ∈ rg_tbl := rg_mem (List.mem_append_right _ (List.mem_append_right _ (List.mem_append_left _ (List.mem_of_getElem? (l := tables_1_3) (i := 214) (by decide +kernel))))) (by decide +kernel)
theorem tw_695 : Cond.methodLink "RevisionGroveLaw" 88 ⟨"RevisionGroveModel", "add", "(II)I"⟩ ∈ rg_tbl := rg_mem (List.mem_append_right _ (List.mem_append_right _ (List.mem_append_left _ (List.mem_of_getElem? (l := tables_1_3) (i := 215) (by decide +kernel))))) (by decide +kernel)
theorem tw_696 : Cond.instanceMethod ⟨"RevisionGroveModel", "add", "(II)I"⟩ ∈ rg_tbl := rg_mem (List.mem_append_right _ (List.mem_append_right _ (List.mem_append_left _ (List.mem_of_getElem? (l := tables_1_3) (i := 216) (by decide +kernel))))) (by decide +kernel)
theorem tw_697 : Cond.selects "RevisionGroveModel" ⟨"RevisionGroveModel", "add", "(II)I"⟩ ⟨"RevisionGroveModel", "add", "(II)I"⟩ ∈ rg_tbl := rg_mem (List.mem_append_right _ (List.mem_append_right _ (List.mem_append_left _ (List.mem_of_getElem? (l := tables_1_3) (i := 217) (by decide +kernel))))) (by decide +kernel)
theorem tw_698 : Cond.code ⟨"RevisionGroveModel", "add", "(II)I"⟩ prog_8_method_11_code 3 (some FieldType.int) ∈ rg_tbl := rg_mem (List.mem_append_right _ (List.mem_append_right _ (List.mem_append_left _ (List.mem_of_getElem? (l := tables_1_3) (i := 218) (by decide +kernel))))) (by decide +kernel)
theorem tw_699 : Cond.methodLink "RevisionGroveLaw" 92 ⟨"RevisionGroveModel", "mark", "(IIZ)I"⟩ ∈ rg_tbl := rg_mem (List.mem_append_right _ (List.mem_append_right _ (List.mem_append_left _ (List.mem_of_getElem? (l := tables_1_3) (i := 219) (by decide +kernel))))) (by decide +kernel)
theorem tw_700 : Cond.instanceMethod ⟨"RevisionGroveModel", "mark", "(IIZ)I"⟩ ∈ rg_tbl := rg_mem (List.mem_append_right _ (List.mem_append_right _ (List.mem_append_left _ (List.mem_of_getElem? (l := tables_1_3) (i := 220) (by decide +kernel))))) (by decide +kernel)
theorem tw_701 : Cond.selects "RevisionGroveModel" ⟨"RevisionGroveModel", "mark", "(IIZ)I"⟩ ⟨"RevisionGroveModel", "mark", "(IIZ)I"⟩ ∈ rg_tbl := rg_mem (List.mem_append_right _ (List.mem_append_right _ (List.mem_append_left _ (List.mem_of_getElem? (l := tables_1_3) (i := 221) (by decide +kernel))))) (by decide +kernel)
theorem tw_702 : Cond.code ⟨"RevisionGroveModel", "mark", "(IIZ)I"⟩ prog_8_method_12_code 5 (some FieldType.int) ∈ rg_tbl := rg_mem (List.mem_append_right _ (List.mem_append_right _ (List.mem_append_left _ (List.mem_of_getElem? (l := tables_1_3) (i := 222) (by decide +kernel))))) (by decide +kernel)
theorem tw_703 : Cond.methodLink "RevisionGroveLaw" 96 ⟨"RevisionGroveModel", "insert", "(III)I"⟩ ∈ rg_tbl := rg_mem (List.mem_append_right _ (List.mem_append_right _ (List.mem_append_left _ (List.mem_of_getElem? (l := tables_1_3) (i := 223) (by decide +kernel))))) (by decide +kernel)
theorem tw_704 : Cond.instanceMethod ⟨"RevisionGroveModel", "insert", "(III)I"⟩ ∈ rg_tbl := rg_mem (List.mem_append_right _ (List.mem_append_right _ (List.mem_append_left _ (List.mem_of_getElem? (l := tables_1_3) (i := 224) (by decide +kernel))))) (by decide +kernel)
theorem tw_705 : Cond.selects "RevisionGroveModel" ⟨"RevisionGroveModel", "insert", "(III)I"⟩ ⟨"RevisionGroveModel", "insert", "(III)I"⟩ ∈ rg_tbl := rg_mem (List.mem_append_right _ (List.mem_append_right _ (List.mem_append_left _ (List.mem_of_getElem? (l := tables_1_3) (i := 225) (by decide +kernel))))) (by decide +kernel)
theorem tw_706 : Cond.code ⟨"RevisionGroveModel", "insert", "(III)I"⟩ prog_8_method_13_code 7 (some FieldType.int) ∈ rg_tbl := rg_mem (List.mem_append_right _ (List.mem_append_right _ (List.mem_append_left _ (List.mem_of_getElem? (l := tables_1_3) (i := 226) (by decide +kernel))))) (by decide +kernel)
theorem tw_707 : Cond.methodLink "RevisionGroveLaw" 99 ⟨"RevisionGroveModel", "remove", "(II)I"⟩ ∈ rg_tbl := rg_mem (List.mem_append_right _ (List.mem_append_right _ (List.mem_append_left _ (List.mem_of_getElem? (l := tables_1_3) (i := 227) (by decide +kernel))))) (by decide +kernel)
theorem tw_708 : Cond.instanceMethod ⟨"RevisionGroveModel", "remove", "(II)I"⟩ ∈ rg_tbl := rg_mem (List.mem_append_right _ (List.mem_append_right _ (List.mem_append_left _ (List.mem_of_getElem? (l := tables_1_3) (i := 228) (by decide +kernel))))) (by decide +kernel)
theorem tw_709 : Cond.selects "RevisionGroveModel" ⟨"RevisionGroveModel", "remove", "(II)I"⟩ ⟨"RevisionGroveModel", "remove", "(II)I"⟩ ∈ rg_tbl := rg_mem (List.mem_append_right _ (List.mem_append_right _ (List.mem_append_left _ (List.mem_of_getElem? (l := tables_1_3) (i := 229) (by decide +kernel))))) (by decide +kernel)
theorem tw_710 : Cond.code ⟨"RevisionGroveModel", "remove", "(II)I"⟩ prog_8_method_14_code 6 (some FieldType.int) ∈ rg_tbl := rg_mem (List.mem_append_right _ (List.mem_append_right _ (List.mem_append_left _ (List.mem_of_getElem? (l := tables_1_3) (i := 230) (by decide +kernel))))) (by decide +kernel)
theorem tw_711 : Cond.methodLink "RevisionGroveLaw" 103 ⟨"RevisionGroveModel", "point", "(I)V"⟩ ∈ rg_tbl := rg_mem (List.mem_append_right _ (List.mem_append_right _ (List.mem_append_left _ (List.mem_of_getElem? (l := tables_1_3) (i := 231) (by decide +kernel))))) (by decide +kernel)
theorem tw_712 : Cond.instanceMethod ⟨"RevisionGroveModel", "point", "(I)V"⟩ ∈ rg_tbl := rg_mem (List.mem_append_right _ (List.mem_append_right _ (List.mem_append_left _ (List.mem_of_getElem? (l := tables_1_3) (i := 232) (by decide +kernel))))) (by decide +kernel)
theorem tw_713 : Cond.selects "RevisionGroveModel" ⟨"RevisionGroveModel", "point", "(I)V"⟩ ⟨"RevisionGroveModel", "point", "(I)V"⟩ ∈ rg_tbl := rg_mem (List.mem_append_right _ (List.mem_append_right _ (List.mem_append_left _ (List.mem_of_getElem? (l := tables_1_3) (i := 233) (by decide +kernel))))) (by decide +kernel)
theorem tw_714 : Cond.code ⟨"RevisionGroveModel", "point", "(I)V"⟩ prog_8_method_17_code 2 (none : Option FieldType) ∈ rg_tbl := rg_mem (List.mem_append_right _ (List.mem_append_right _ (List.mem_append_left _ (List.mem_of_getElem? (l := tables_1_3) (i := 234) (by decide +kernel))))) (by decide +kernel)
theorem tw_715 : Cond.methodLink "RevisionGroveModel" 89 ⟨"RevisionGroveModel", "isBranch", "(I)Z"⟩ ∈ rg_tbl := rg_mem (List.mem_append_right _ (List.mem_append_right _ (List.mem_append_left _ (List.mem_of_getElem? (l := tables_1_3) (i := 235) (by decide +kernel))))) (by decide +kernel)
theorem tw_716 : Cond.static ⟨"RevisionGroveModel", "isBranch", "(I)Z"⟩ ∈ rg_tbl := rg_mem (List.mem_append_right _ (List.mem_append_right _ (List.mem_append_left _ (List.mem_of_getElem? (l := tables_1_3) (i := 236) (by decide +kernel))))) (by decide +kernel)
theorem tw_717 : Cond.code ⟨"RevisionGroveModel", "isBranch", "(I)Z"⟩ prog_8_method_15_code 1 (some FieldType.boolean) ∈ rg_tbl := rg_mem (List.mem_append_right _ (List.mem_append_right _ (List.mem_append_left _ (List.mem_of_getElem? (l := tables_1_3) (i := 237) (by decide +kernel))))) (by decide +kernel)
theorem tw_718 : Cond.methodLink "RevisionGroveLaw" 107 ⟨"RevisionGroveModel", "turn", "(I)I"⟩ ∈ rg_tbl := rg_mem (List.mem_append_right _ (List.mem_append_right _ (List.mem_append_left _ (List.mem_of_getElem? (l := tables_1_3) (i := 238) (by decide +kernel))))) (by decide +kernel)
theorem tw_719 : Cond.instanceMethod ⟨"RevisionGroveModel", "turn", "(I)I"⟩ ∈ rg_tbl := rg_mem (List.mem_append_right _ (List.mem_append_right _ (List.mem_append_left _ (List.mem_of_getElem? (l := tables_1_3) (i := 239) (by decide +kernel))))) (by decide +kernel)
theorem tw_720 : Cond.selects "RevisionGroveModel" ⟨"RevisionGroveModel", "turn", "(I)I"⟩ ⟨"RevisionGroveModel", "turn", "(I)I"⟩ ∈ rg_tbl := rg_mem (List.mem_append_right _ (List.mem_append_right _ (List.mem_append_right _ (List.mem_of_getElem? (l := tables_1_4) (i := 0) (by decide +kernel))))) (by decide +kernel)
theorem tw_721 : Cond.code ⟨"RevisionGroveModel", "turn", "(I)I"⟩ prog_8_method_18_code 2 (some FieldType.int) ∈ rg_tbl := rg_mem (List.mem_append_right _ (List.mem_append_right _ (List.mem_append_right _ (List.mem_of_getElem? (l := tables_1_4) (i := 1) (by decide +kernel))))) (by decide +kernel)
theorem tw_722 : Cond.methodLink "RevisionGroveLaw" 110 ⟨"RevisionGroveModel", "go", "(I)V"⟩ ∈ rg_tbl := rg_mem (List.mem_append_right _ (List.mem_append_right _ (List.mem_append_right _ (List.mem_of_getElem? (l := tables_1_4) (i := 2) (by decide +kernel))))) (by decide +kernel)
theorem tw_723 : Cond.instanceMethod ⟨"RevisionGroveModel", "go", "(I)V"⟩ ∈ rg_tbl := rg_mem (List.mem_append_right _ (List.mem_append_right _ (List.mem_append_right _ (List.mem_of_getElem? (l := tables_1_4) (i := 3) (by decide +kernel))))) (by decide +kernel)
theorem tw_724 : Cond.selects "RevisionGroveModel" ⟨"RevisionGroveModel", "go", "(I)V"⟩ ⟨"RevisionGroveModel", "go", "(I)V"⟩ ∈ rg_tbl := rg_mem (List.mem_append_right _ (List.mem_append_right _ (List.mem_append_right _ (List.mem_of_getElem? (l := tables_1_4) (i := 4) (by decide +kernel))))) (by decide +kernel)
theorem tw_725 : Cond.code ⟨"RevisionGroveModel", "go", "(I)V"⟩ prog_8_method_19_code 2 (none : Option FieldType) ∈ rg_tbl := rg_mem (List.mem_append_right _ (List.mem_append_right _ (List.mem_append_right _ (List.mem_of_getElem? (l := tables_1_4) (i := 5) (by decide +kernel))))) (by decide +kernel)
theorem tw_726 : Cond.methodLink "RevisionGroveModel" 93 ⟨"RevisionGroveModel", "isRevision", "(I)Z"⟩ ∈ rg_tbl := rg_mem (List.mem_append_right _ (List.mem_append_right _ (List.mem_append_right _ (List.mem_of_getElem? (l := tables_1_4) (i := 6) (by decide +kernel))))) (by decide +kernel)
theorem tw_728 : Cond.instanceMethod ⟨"RevisionGroveModel", "isRevision", "(I)Z"⟩ ∈ rg_tbl := rg_mem (List.mem_append_right _ (List.mem_append_right _ (List.mem_append_right _ (List.mem_of_getElem? (l := tables_1_4) (i := 8) (by decide +kernel))))) (by decide +kernel)
theorem tw_729 : Cond.code ⟨"RevisionGroveModel", "isRevision", "(I)Z"⟩ prog_8_method_16_code 2 (some FieldType.boolean) ∈ rg_tbl := rg_mem (List.mem_append_right _ (List.mem_append_right _ (List.mem_append_right _ (List.mem_of_getElem? (l := tables_1_4) (i := 9) (by decide +kernel))))) (by decide +kernel)
theorem tw_730 : Cond.methodLink "RevisionGroveLaw" 114 ⟨"RevisionGroveModel", "undo", "()I"⟩ ∈ rg_tbl := rg_mem (List.mem_append_right _ (List.mem_append_right _ (List.mem_append_right _ (List.mem_of_getElem? (l := tables_1_4) (i := 10) (by decide +kernel))))) (by decide +kernel)
theorem tw_731 : Cond.instanceMethod ⟨"RevisionGroveModel", "undo", "()I"⟩ ∈ rg_tbl := rg_mem (List.mem_append_right _ (List.mem_append_right _ (List.mem_append_right _ (List.mem_of_getElem? (l := tables_1_4) (i := 11) (by decide +kernel))))) (by decide +kernel)
theorem tw_732 : Cond.selects "RevisionGroveModel" ⟨"RevisionGroveModel", "undo", "()I"⟩ ⟨"RevisionGroveModel", "undo", "()I"⟩ ∈ rg_tbl := rg_mem (List.mem_append_right _ (List.mem_append_right _ (List.mem_append_right _ (List.mem_of_getElem? (l := tables_1_4) (i := 12) (by decide +kernel))))) (by decide +kernel)
theorem tw_733 : Cond.code ⟨"RevisionGroveModel", "undo", "()I"⟩ prog_8_method_20_code 1 (some FieldType.int) ∈ rg_tbl := rg_mem (List.mem_append_right _ (List.mem_append_right _ (List.mem_append_right _ (List.mem_of_getElem? (l := tables_1_4) (i := 13) (by decide +kernel))))) (by decide +kernel)
theorem tw_734 : Cond.methodLink "RevisionGroveLaw" 117 ⟨"RevisionGroveModel", "redo", "()I"⟩ ∈ rg_tbl := rg_mem (List.mem_append_right _ (List.mem_append_right _ (List.mem_append_right _ (List.mem_of_getElem? (l := tables_1_4) (i := 14) (by decide +kernel))))) (by decide +kernel)
theorem tw_735 : Cond.instanceMethod ⟨"RevisionGroveModel", "redo", "()I"⟩ ∈ rg_tbl := rg_mem (List.mem_append_right _ (List.mem_append_right _ (List.mem_append_right _ (List.mem_of_getElem? (l := tables_1_4) (i := 15) (by decide +kernel))))) (by decide +kernel)
theorem tw_736 : Cond.selects "RevisionGroveModel" ⟨"RevisionGroveModel", "redo", "()I"⟩ ⟨"RevisionGroveModel", "redo", "()I"⟩ ∈ rg_tbl := rg_mem (List.mem_append_right _ (List.mem_append_right _ (List.mem_append_right _ (List.mem_of_getElem? (l := tables_1_4) (i := 16) (by decide +kernel))))) (by decide +kernel)
theorem tw_737 : Cond.code ⟨"RevisionGroveModel", "redo", "()I"⟩ prog_8_method_21_code 1 (some FieldType.int) ∈ rg_tbl := rg_mem (List.mem_append_right _ (List.mem_append_right _ (List.mem_append_right _ (List.mem_of_getElem? (l := tables_1_4) (i := 17) (by decide +kernel))))) (by decide +kernel)
theorem tw_738 : Cond.methodLink "RevisionGroveLaw" 120 ⟨"RevisionGroveModel", "merge", "(II)I"⟩ ∈ rg_tbl := rg_mem (List.mem_append_right _ (List.mem_append_right _ (List.mem_append_right _ (List.mem_of_getElem? (l := tables_1_4) (i := 18) (by decide +kernel))))) (by decide +kernel)
theorem tw_739 : Cond.instanceMethod ⟨"RevisionGroveModel", "merge", "(II)I"⟩ ∈ rg_tbl := rg_mem (List.mem_append_right _ (List.mem_append_right _ (List.mem_append_right _ (List.mem_of_getElem? (l := tables_1_4) (i := 19) (by decide +kernel))))) (by decide +kernel)
theorem tw_740 : Cond.selects "RevisionGroveModel" ⟨"RevisionGroveModel", "merge", "(II)I"⟩ ⟨"RevisionGroveModel", "merge", "(II)I"⟩ ∈ rg_tbl := rg_mem (List.mem_append_right _ (List.mem_append_right _ (List.mem_append_right _ (List.mem_of_getElem? (l := tables_1_4) (i := 20) (by decide +kernel))))) (by decide +kernel)
theorem tw_741 : Cond.code ⟨"RevisionGroveModel", "merge", "(II)I"⟩ prog_8_method_31_code 9 (some FieldType.int) ∈ rg_tbl := rg_mem (List.mem_append_right _ (List.mem_append_right _ (List.mem_append_right _ (List.mem_of_getElem? (l := tables_1_4) (i := 21) (by decide +kernel))))) (by decide +kernel)
theorem tw_742 : Cond.methodLink "RevisionGroveModel" 96 ⟨"RevisionGroveModel", "ancestors", "(J)J"⟩ ∈ rg_tbl := rg_mem (List.mem_append_right _ (List.mem_append_right _ (List.mem_append_right _ (List.mem_of_getElem? (l := tables_1_4) (i := 22) (by decide +kernel))))) (by decide +kernel)
theorem tw_744 : Cond.instanceMethod ⟨"RevisionGroveModel", "ancestors", "(J)J"⟩ ∈ rg_tbl := rg_mem (List.mem_append_right _ (List.mem_append_right _ (List.mem_append_right _ (List.mem_of_getElem? (l := tables_1_4) (i := 24) (by decide +kernel))))) (by decide +kernel)
theorem tw_745 : Cond.code ⟨"RevisionGroveModel", "ancestors", "(J)J"⟩ prog_8_method_22_code 6 (some FieldType.long) ∈ rg_tbl := rg_mem (List.mem_append_right _ (List.mem_append_right _ (List.mem_append_right _ (List.mem_of_getElem? (l := tables_1_4) (i := 25) (by decide +kernel))))) (by decide +kernel)
theorem tw_746 : Cond.methodLink "RevisionGroveModel" 125 ⟨"RevisionGroveModel", "baseOf", "(II)I"⟩ ∈ rg_tbl := rg_mem (List.mem_append_right _ (List.mem_append_right _ (List.mem_append_right _ (List.mem_of_getElem? (l := tables_1_4) (i := 26) (by decide +kernel))))) (by decide +kernel)
theorem tw_748 : Cond.instanceMethod ⟨"RevisionGroveModel", "baseOf", "(II)I"⟩ ∈ rg_tbl := rg_mem (List.mem_append_right _ (List.mem_append_right _ (List.mem_append_right _ (List.mem_of_getElem? (l := tables_1_4) (i := 28) (by decide +kernel))))) (by decide +kernel)
theorem tw_749 : Cond.code ⟨"RevisionGroveModel", "baseOf", "(II)I"⟩ prog_8_method_23_code 6 (some FieldType.int) ∈ rg_tbl := rg_mem (List.mem_append_right _ (List.mem_append_right _ (List.mem_append_right _ (List.mem_of_getElem? (l := tables_1_4) (i := 29) (by decide +kernel))))) (by decide +kernel)
theorem tw_750 : Cond.methodLink "RevisionGroveModel" 128 ⟨"RevisionGroveModel", "mergeNumber", "(IIIII)V"⟩ ∈ rg_tbl := rg_mem (List.mem_append_right _ (List.mem_append_right _ (List.mem_append_right _ (List.mem_of_getElem? (l := tables_1_4) (i := 30) (by decide +kernel))))) (by decide +kernel)
theorem tw_752 : Cond.instanceMethod ⟨"RevisionGroveModel", "mergeNumber", "(IIIII)V"⟩ ∈ rg_tbl := rg_mem (List.mem_append_right _ (List.mem_append_right _ (List.mem_append_right _ (List.mem_of_getElem? (l := tables_1_4) (i := 32) (by decide +kernel))))) (by decide +kernel)
theorem tw_753 : Cond.code ⟨"RevisionGroveModel", "mergeNumber", "(IIIII)V"⟩ prog_8_method_25_code 8 (none : Option FieldType) ∈ rg_tbl := rg_mem (List.mem_append_right _ (List.mem_append_right _ (List.mem_append_right _ (List.mem_of_getElem? (l := tables_1_4) (i := 33) (by decide +kernel))))) (by decide +kernel)
theorem tw_754 : Cond.methodLink "RevisionGroveModel" 100 ⟨"RevisionGroveModel", "choice", "(ZZZ)I"⟩ ∈ rg_tbl := rg_mem (List.mem_append_right _ (List.mem_append_right _ (List.mem_append_right _ (List.mem_of_getElem? (l := tables_1_4) (i := 34) (by decide +kernel))))) (by decide +kernel)
theorem tw_755 : Cond.static ⟨"RevisionGroveModel", "choice", "(ZZZ)I"⟩ ∈ rg_tbl := rg_mem (List.mem_append_right _ (List.mem_append_right _ (List.mem_append_right _ (List.mem_of_getElem? (l := tables_1_4) (i := 35) (by decide +kernel))))) (by decide +kernel)
theorem tw_756 : Cond.code ⟨"RevisionGroveModel", "choice", "(ZZZ)I"⟩ prog_8_method_24_code 3 (some FieldType.int) ∈ rg_tbl := rg_mem (List.mem_append_right _ (List.mem_append_right _ (List.mem_append_right _ (List.mem_of_getElem? (l := tables_1_4) (i := 36) (by decide +kernel))))) (by decide +kernel)
theorem tw_757 : Cond.methodLink "RevisionGroveModel" 132 ⟨"RevisionGroveModel", "mergeList", "(IIIII)V"⟩ ∈ rg_tbl := rg_mem (List.mem_append_right _ (List.mem_append_right _ (List.mem_append_right _ (List.mem_of_getElem? (l := tables_1_4) (i := 37) (by decide +kernel))))) (by decide +kernel)
theorem tw_759 : Cond.instanceMethod ⟨"RevisionGroveModel", "mergeList", "(IIIII)V"⟩ ∈ rg_tbl := rg_mem (List.mem_append_right _ (List.mem_append_right _ (List.mem_append_right _ (List.mem_of_getElem? (l := tables_1_4) (i := 39) (by decide +kernel))))) (by decide +kernel)
theorem tw_760 : Cond.code ⟨"RevisionGroveModel", "mergeList", "(IIIII)V"⟩ prog_8_method_30_code 9 (none : Option FieldType) ∈ rg_tbl := rg_mem (List.mem_append_right _ (List.mem_append_right _ (List.mem_append_right _ (List.mem_of_getElem? (l := tables_1_4) (i := 40) (by decide +kernel))))) (by decide +kernel)
theorem tw_761 : Cond.methodLink "RevisionGroveModel" 121 ⟨"RevisionGroveModel", "join", "(IIII)Z"⟩ ∈ rg_tbl := rg_mem (List.mem_append_right _ (List.mem_append_right _ (List.mem_append_right _ (List.mem_of_getElem? (l := tables_1_4) (i := 41) (by decide +kernel))))) (by decide +kernel)
theorem tw_763 : Cond.instanceMethod ⟨"RevisionGroveModel", "join", "(IIII)Z"⟩ ∈ rg_tbl := rg_mem (List.mem_append_right _ (List.mem_append_right _ (List.mem_append_right _ (List.mem_of_getElem? (l := tables_1_4) (i := 43) (by decide +kernel))))) (by decide +kernel)
theorem tw_764 : Cond.code ⟨"RevisionGroveModel", "join", "(IIII)Z"⟩ prog_8_method_29_code 8 (some FieldType.boolean) ∈ rg_tbl := rg_mem (List.mem_append_right _ (List.mem_append_right _ (List.mem_append_right _ (List.mem_of_getElem? (l := tables_1_4) (i := 44) (by decide +kernel))))) (by decide +kernel)
theorem tw_765 : Cond.methodLink "RevisionGroveModel" 114 ⟨"RevisionGroveModel", "measure", "(IIII)V"⟩ ∈ rg_tbl := rg_mem (List.mem_append_right _ (List.mem_append_right _ (List.mem_append_right _ (List.mem_of_getElem? (l := tables_1_4) (i := 45) (by decide +kernel))))) (by decide +kernel)
theorem tw_767 : Cond.instanceMethod ⟨"RevisionGroveModel", "measure", "(IIII)V"⟩ ∈ rg_tbl := rg_mem (List.mem_append_right _ (List.mem_append_right _ (List.mem_append_right _ (List.mem_of_getElem? (l := tables_1_4) (i := 47) (by decide +kernel))))) (by decide +kernel)
theorem tw_768 : Cond.code ⟨"RevisionGroveModel", "measure", "(IIII)V"⟩ prog_8_method_27_code 9 (none : Option FieldType) ∈ rg_tbl := rg_mem (List.mem_append_right _ (List.mem_append_right _ (List.mem_append_right _ (List.mem_of_getElem? (l := tables_1_4) (i := 48) (by decide +kernel))))) (by decide +kernel)
theorem tw_769 : Cond.methodLink "RevisionGroveModel" 107 ⟨"RevisionGroveModel", "at", "(III)I"⟩ ∈ rg_tbl := rg_mem (List.mem_append_right _ (List.mem_append_right _ (List.mem_append_right _ (List.mem_of_getElem? (l := tables_1_4) (i := 49) (by decide +kernel))))) (by decide +kernel)
theorem tw_771 : Cond.instanceMethod ⟨"RevisionGroveModel", "at", "(III)I"⟩ ∈ rg_tbl := rg_mem (List.mem_append_right _ (List.mem_append_right _ (List.mem_append_right _ (List.mem_of_getElem? (l := tables_1_4) (i := 51) (by decide +kernel))))) (by decide +kernel)
theorem tw_772 : Cond.code ⟨"RevisionGroveModel", "at", "(III)I"⟩ prog_8_method_26_code 4 (some FieldType.int) ∈ rg_tbl := rg_mem (List.mem_append_right _ (List.mem_append_right _ (List.mem_append_right _ (List.mem_of_getElem? (l := tables_1_4) (i := 52) (by decide +kernel))))) (by decide +kernel)
theorem tw_773 : Cond.methodLink "RevisionGroveModel" 118 ⟨"RevisionGroveModel", "take", "(IIII)V"⟩ ∈ rg_tbl := rg_mem (List.mem_append_right _ (List.mem_append_right _ (List.mem_append_right _ (List.mem_of_getElem? (l := tables_1_4) (i := 53) (by decide +kernel))))) (by decide +kernel)
theorem tw_775 : Cond.instanceMethod ⟨"RevisionGroveModel", "take", "(IIII)V"⟩ ∈ rg_tbl := rg_mem (List.mem_append_right _ (List.mem_append_right _ (List.mem_append_right _ (List.mem_of_getElem? (l := tables_1_4) (i := 55) (by decide +kernel))))) (by decide +kernel)
theorem tw_776 : Cond.code ⟨"RevisionGroveModel", "take", "(IIII)V"⟩ prog_8_method_28_code 6 (none : Option FieldType) ∈ rg_tbl := rg_mem (List.mem_append_right _ (List.mem_append_right _ (List.mem_append_right _ (List.mem_of_getElem? (l := tables_1_4) (i := 56) (by decide +kernel))))) (by decide +kernel)
theorem tw_777 : Cond.methodLink "RevisionGroveLaw" 124 ⟨"RevisionGroveModel", "conflicts", "()I"⟩ ∈ rg_tbl := rg_mem (List.mem_append_right _ (List.mem_append_right _ (List.mem_append_right _ (List.mem_of_getElem? (l := tables_1_4) (i := 57) (by decide +kernel))))) (by decide +kernel)
theorem tw_778 : Cond.instanceMethod ⟨"RevisionGroveModel", "conflicts", "()I"⟩ ∈ rg_tbl := rg_mem (List.mem_append_right _ (List.mem_append_right _ (List.mem_append_right _ (List.mem_of_getElem? (l := tables_1_4) (i := 58) (by decide +kernel))))) (by decide +kernel)
theorem tw_779 : Cond.selects "RevisionGroveModel" ⟨"RevisionGroveModel", "conflicts", "()I"⟩ ⟨"RevisionGroveModel", "conflicts", "()I"⟩ ∈ rg_tbl := rg_mem (List.mem_append_right _ (List.mem_append_right _ (List.mem_append_right _ (List.mem_of_getElem? (l := tables_1_4) (i := 59) (by decide +kernel))))) (by decide +kernel)
theorem tw_780 : Cond.code ⟨"RevisionGroveModel", "conflicts", "()I"⟩ prog_8_method_32_code 1 (some FieldType.int) ∈ rg_tbl := rg_mem (List.mem_append_right _ (List.mem_append_right _ (List.mem_append_right _ (List.mem_of_getElem? (l := tables_1_4) (i := 60) (by decide +kernel))))) (by decide +kernel)
theorem tw_781 : Cond.methodLink "RevisionGroveLaw" 127 ⟨"RevisionGroveModel", "base", "(I)I"⟩ ∈ rg_tbl := rg_mem (List.mem_append_right _ (List.mem_append_right _ (List.mem_append_right _ (List.mem_of_getElem? (l := tables_1_4) (i := 61) (by decide +kernel))))) (by decide +kernel)
theorem tw_782 : Cond.instanceMethod ⟨"RevisionGroveModel", "base", "(I)I"⟩ ∈ rg_tbl := rg_mem (List.mem_append_right _ (List.mem_append_right _ (List.mem_append_right _ (List.mem_of_getElem? (l := tables_1_4) (i := 62) (by decide +kernel))))) (by decide +kernel)
theorem tw_783 : Cond.selects "RevisionGroveModel" ⟨"RevisionGroveModel", "base", "(I)I"⟩ ⟨"RevisionGroveModel", "base", "(I)I"⟩ ∈ rg_tbl := rg_mem (List.mem_append_right _ (List.mem_append_right _ (List.mem_append_right _ (List.mem_of_getElem? (l := tables_1_4) (i := 63) (by decide +kernel))))) (by decide +kernel)
theorem tw_784 : Cond.code ⟨"RevisionGroveModel", "base", "(I)I"⟩ prog_8_method_33_code 2 (some FieldType.int) ∈ rg_tbl := rg_mem (List.mem_append_right _ (List.mem_append_right _ (List.mem_append_right _ (List.mem_of_getElem? (l := tables_1_4) (i := 64) (by decide +kernel))))) (by decide +kernel)
theorem tw_785 : Cond.methodLink "RevisionGroveLaw" 130 ⟨"RevisionGroveModel", "value", "(III)J"⟩ ∈ rg_tbl := rg_mem (List.mem_append_right _ (List.mem_append_right _ (List.mem_append_right _ (List.mem_of_getElem? (l := tables_1_4) (i := 65) (by decide +kernel))))) (by decide +kernel)
theorem tw_786 : Cond.instanceMethod ⟨"RevisionGroveModel", "value", "(III)J"⟩ ∈ rg_tbl := rg_mem (List.mem_append_right _ (List.mem_append_right _ (List.mem_append_right _ (List.mem_of_getElem? (l := tables_1_4) (i := 66) (by decide +kernel))))) (by decide +kernel)
theorem tw_787 : Cond.selects "RevisionGroveModel" ⟨"RevisionGroveModel", "value", "(III)J"⟩ ⟨"RevisionGroveModel", "value", "(III)J"⟩ ∈ rg_tbl := rg_mem (List.mem_append_right _ (List.mem_append_right _ (List.mem_append_right _ (List.mem_of_getElem? (l := tables_1_4) (i := 67) (by decide +kernel))))) (by decide +kernel)
theorem tw_788 : Cond.code ⟨"RevisionGroveModel", "value", "(III)J"⟩ prog_8_method_34_code 5 (some FieldType.long) ∈ rg_tbl := rg_mem (List.mem_append_right _ (List.mem_append_right _ (List.mem_append_right _ (List.mem_of_getElem? (l := tables_1_4) (i := 68) (by decide +kernel))))) (by decide +kernel)
theorem tw_789 : Cond.constantLong "RevisionGroveModel" 135 (4294967295 : Int64) ∈ rg_tbl := rg_mem (List.mem_append_right _ (List.mem_append_right _ (List.mem_append_right _ (List.mem_of_getElem? (l := tables_1_4) (i := 69) (by decide +kernel))))) (by decide +kernel)
theorem tw_790 : Cond.methodLink "RevisionGroveLaw" 133 ⟨"RevisionGroveModel", "differ", "(II)I"⟩ ∈ rg_tbl := rg_mem (List.mem_append_right _ (List.mem_append_right _ (List.mem_append_right _ (List.mem_of_getElem? (l := tables_1_4) (i := 70) (by decide +kernel))))) (by decide +kernel)
theorem tw_791 : Cond.instanceMethod ⟨"RevisionGroveModel", "differ", "(II)I"⟩ ∈ rg_tbl := rg_mem (List.mem_append_right _ (List.mem_append_right _ (List.mem_append_right _ (List.mem_of_getElem? (l := tables_1_4) (i := 71) (by decide +kernel))))) (by decide +kernel)
theorem tw_792 : Cond.selects "RevisionGroveModel" ⟨"RevisionGroveModel", "differ", "(II)I"⟩ ⟨"RevisionGroveModel", "differ", "(II)I"⟩ ∈ rg_tbl := rg_mem (List.mem_append_right _ (List.mem_append_right _ (List.mem_append_right _ (List.mem_of_getElem? (l := tables_1_4) (i := 72) (by decide +kernel))))) (by decide +kernel)
theorem tw_793 : Cond.code ⟨"RevisionGroveModel", "differ", "(II)I"⟩ prog_8_method_35_code 3 (some FieldType.int) ∈ rg_tbl := rg_mem (List.mem_append_right _ (List.mem_append_right _ (List.mem_append_right _ (List.mem_of_getElem? (l := tables_1_4) (i := 73) (by decide +kernel))))) (by decide +kernel)
theorem tw_794 : Cond.methodLink "RevisionGroveLaw" 137 ⟨"RevisionGroveModel", "parent", "(IZ)I"⟩ ∈ rg_tbl := rg_mem (List.mem_append_right _ (List.mem_append_right _ (List.mem_append_right _ (List.mem_of_getElem? (l := tables_1_4) (i := 74) (by decide +kernel))))) (by decide +kernel)
theorem tw_795 : Cond.instanceMethod ⟨"RevisionGroveModel", "parent", "(IZ)I"⟩ ∈ rg_tbl := rg_mem (List.mem_append_right _ (List.mem_append_right _ (List.mem_append_right _ (List.mem_of_getElem? (l := tables_1_4) (i := 75) (by decide +kernel))))) (by decide +kernel)
theorem tw_796 : Cond.selects "RevisionGroveModel" ⟨"RevisionGroveModel", "parent", "(IZ)I"⟩ ⟨"RevisionGroveModel", "parent", "(IZ)I"⟩ ∈ rg_tbl := rg_mem (List.mem_append_right _ (List.mem_append_right _ (List.mem_append_right _ (List.mem_of_getElem? (l := tables_1_4) (i := 76) (by decide +kernel))))) (by decide +kernel)
theorem tw_797 : Cond.code ⟨"RevisionGroveModel", "parent", "(IZ)I"⟩ prog_8_method_36_code 3 (some FieldType.int) ∈ rg_tbl := rg_mem (List.mem_append_right _ (List.mem_append_right _ (List.mem_append_right _ (List.mem_of_getElem? (l := tables_1_4) (i := 77) (by decide +kernel))))) (by decide +kernel)
theorem tw_798 : Cond.methodLink "RevisionGroveLaw" 141 ⟨"RevisionGroveModel", "prune", "()I"⟩ ∈ rg_tbl := rg_mem (List.mem_append_right _ (List.mem_append_right _ (List.mem_append_right _ (List.mem_of_getElem? (l := tables_1_4) (i := 78) (by decide +kernel))))) (by decide +kernel)
theorem tw_799 : Cond.instanceMethod ⟨"RevisionGroveModel", "prune", "()I"⟩ ∈ rg_tbl := rg_mem (List.mem_append_right _ (List.mem_append_right _ (List.mem_append_right _ (List.mem_of_getElem? (l := tables_1_4) (i := 79) (by decide +kernel))))) (by decide +kernel)
theorem tw_800 : Cond.selects "RevisionGroveModel" ⟨"RevisionGroveModel", "prune", "()I"⟩ ⟨"RevisionGroveModel", "prune", "()I"⟩ ∈ rg_tbl := rg_mem (List.mem_append_right _ (List.mem_append_right _ (List.mem_append_right _ (List.mem_of_getElem? (l := tables_1_4) (i := 80) (by decide +kernel))))) (by decide +kernel)
theorem tw_801 : Cond.code ⟨"RevisionGroveModel", "prune", "()I"⟩ prog_8_method_38_code 6 (some FieldType.int) ∈ rg_tbl := rg_mem (List.mem_append_right _ (List.mem_append_right _ (List.mem_append_right _ (List.mem_of_getElem? (l := tables_1_4) (i := 81) (by decide +kernel))))) (by decide +kernel)
theorem tw_802 : Cond.methodLink "RevisionGroveModel" 137 ⟨"RevisionGroveModel", "rank", "(JI)I"⟩ ∈ rg_tbl := rg_mem (List.mem_append_right _ (List.mem_append_right _ (List.mem_append_right _ (List.mem_of_getElem? (l := tables_1_4) (i := 82) (by decide +kernel))))) (by decide +kernel)
theorem tw_803 : Cond.static ⟨"RevisionGroveModel", "rank", "(JI)I"⟩ ∈ rg_tbl := rg_mem (List.mem_append_right _ (List.mem_append_right _ (List.mem_append_right _ (List.mem_of_getElem? (l := tables_1_4) (i := 83) (by decide +kernel))))) (by decide +kernel)
theorem tw_804 : Cond.code ⟨"RevisionGroveModel", "rank", "(JI)I"⟩ prog_8_method_37_code 5 (some FieldType.int) ∈ rg_tbl := rg_mem (List.mem_append_right _ (List.mem_append_right _ (List.mem_append_right _ (List.mem_of_getElem? (l := tables_1_4) (i := 84) (by decide +kernel))))) (by decide +kernel)
theorem tw_805 : Cond.methodLink "RevisionGroveLaw" 144 ⟨"RevisionGroveModel", "figure", "(I)I"⟩ ∈ rg_tbl := rg_mem (List.mem_append_right _ (List.mem_append_right _ (List.mem_append_right _ (List.mem_of_getElem? (l := tables_1_4) (i := 85) (by decide +kernel))))) (by decide +kernel)
theorem tw_806 : Cond.instanceMethod ⟨"RevisionGroveModel", "figure", "(I)I"⟩ ∈ rg_tbl := rg_mem (List.mem_append_right _ (List.mem_append_right _ (List.mem_append_right _ (List.mem_of_getElem? (l := tables_1_4) (i := 86) (by decide +kernel))))) (by decide +kernel)
theorem tw_807 : Cond.selects "RevisionGroveModel" ⟨"RevisionGroveModel", "figure", "(I)I"⟩ ⟨"RevisionGroveModel", "figure", "(I)I"⟩ ∈ rg_tbl := rg_mem (List.mem_append_right _ (List.mem_append_right _ (List.mem_append_right _ (List.mem_of_getElem? (l := tables_1_4) (i := 87) (by decide +kernel))))) (by decide +kernel)
theorem tw_808 : Cond.code ⟨"RevisionGroveModel", "figure", "(I)I"⟩ prog_8_method_39_code 2 (some FieldType.int) ∈ rg_tbl := rg_mem (List.mem_append_right _ (List.mem_append_right _ (List.mem_append_right _ (List.mem_of_getElem? (l := tables_1_4) (i := 88) (by decide +kernel))))) (by decide +kernel)
theorem ts_R_link : Cond.selects "RevisionGrove$Revisions" ⟨"RevisionGrove$Revisions", "link", "(III)V"⟩ ⟨"RevisionGrove$Revisions", "link", "(III)V"⟩ ∈ rg_tbl := rg_mems (y := ⟨"RevisionGrove$Revisions", "link", "(III)V"⟩) (n := 6) (List.mem_of_getElem? (i := 0) (by decide +kernel)) (by decide +kernel)
theorem ts_R_ancestorsOrNone : Cond.selects "RevisionGrove$Revisions" ⟨"RevisionGrove$Revisions", "ancestorsOrNone", "(I)J"⟩ ⟨"RevisionGrove$Revisions", "ancestorsOrNone", "(I)J"⟩ ∈ rg_tbl := rg_mems (y := ⟨"RevisionGrove$Revisions", "ancestorsOrNone", "(I)J"⟩) (n := 6) (List.mem_of_getElem? (i := 1) (by decide +kernel)) (by decide +kernel)
theorem ts_G_draftPresent : Cond.selects "RevisionGrove" ⟨"RevisionGrove", "draftPresent", "()V"⟩ ⟨"RevisionGrove", "draftPresent", "()V"⟩ ∈ rg_tbl := rg_mems (y := ⟨"RevisionGrove", "draftPresent", "()V"⟩) (n := 4) (List.mem_of_getElem? (i := 3) (by decide +kernel)) (by decide +kernel)
theorem ts_G_comeToChanged : Cond.selects "RevisionGrove" ⟨"RevisionGrove", "comeToChanged", "(I)I"⟩ ⟨"RevisionGrove", "comeToChanged", "(I)I"⟩ ∈ rg_tbl := rg_mems (y := ⟨"RevisionGrove", "comeToChanged", "(I)I"⟩) (n := 4) (List.mem_of_getElem? (i := 4) (by decide +kernel)) (by decide +kernel)
theorem ts_F_hasSamePlaces : Cond.selects "RevisionGrove$Fields" ⟨"RevisionGrove$Fields", "hasSamePlaces", "(LRevisionGrove$Fields;I)Z"⟩ ⟨"RevisionGrove$Fields", "hasSamePlaces", "(LRevisionGrove$Fields;I)Z"⟩ ∈ rg_tbl := rg_mems (y := ⟨"RevisionGrove$Fields", "hasSamePlaces", "(LRevisionGrove$Fields;I)Z"⟩) (n := 1) (List.mem_of_getElem? (i := 5) (by decide +kernel)) (by decide +kernel)
theorem ts_G_comeToDraft : Cond.selects "RevisionGrove" ⟨"RevisionGrove", "comeToDraft", "(I)V"⟩ ⟨"RevisionGrove", "comeToDraft", "(I)V"⟩ ∈ rg_tbl := rg_mems (y := ⟨"RevisionGrove", "comeToDraft", "(I)V"⟩) (n := 4) (List.mem_of_getElem? (i := 6) (by decide +kernel)) (by decide +kernel)
theorem ts_G_requireRevision : Cond.selects "RevisionGrove" ⟨"RevisionGrove", "requireRevision", "(I)V"⟩ ⟨"RevisionGrove", "requireRevision", "(I)V"⟩ ∈ rg_tbl := rg_mems (y := ⟨"RevisionGrove", "requireRevision", "(I)V"⟩) (n := 4) (List.mem_of_getElem? (i := 7) (by decide +kernel)) (by decide +kernel)
theorem ts_G_draftJoined : Cond.selects "RevisionGrove" ⟨"RevisionGrove", "draftJoined", "(III)I"⟩ ⟨"RevisionGrove", "draftJoined", "(III)I"⟩ ∈ rg_tbl := rg_mems (y := ⟨"RevisionGrove", "draftJoined", "(III)I"⟩) (n := 4) (List.mem_of_getElem? (i := 8) (by decide +kernel)) (by decide +kernel)
theorem ts_M_here : Cond.selects "RevisionGroveModel" ⟨"RevisionGroveModel", "here", "()I"⟩ ⟨"RevisionGroveModel", "here", "()I"⟩ ∈ rg_tbl := rg_mems (y := ⟨"RevisionGroveModel", "here", "()I"⟩) (n := 19) (List.mem_of_getElem? (i := 9) (by decide +kernel)) (by decide +kernel)
theorem ts_M_copy : Cond.selects "RevisionGroveModel" ⟨"RevisionGroveModel", "copy", "(II)V"⟩ ⟨"RevisionGroveModel", "copy", "(II)V"⟩ ∈ rg_tbl := rg_mems (y := ⟨"RevisionGroveModel", "copy", "(II)V"⟩) (n := 19) (List.mem_of_getElem? (i := 10) (by decide +kernel)) (by decide +kernel)
theorem ts_M_change : Cond.selects "RevisionGroveModel" ⟨"RevisionGroveModel", "change", "()I"⟩ ⟨"RevisionGroveModel", "change", "()I"⟩ ∈ rg_tbl := rg_mems (y := ⟨"RevisionGroveModel", "change", "()I"⟩) (n := 19) (List.mem_of_getElem? (i := 11) (by decide +kernel)) (by decide +kernel)
theorem ts_M_difference : Cond.selects "RevisionGroveModel" ⟨"RevisionGroveModel", "difference", "(II)I"⟩ ⟨"RevisionGroveModel", "difference", "(II)I"⟩ ∈ rg_tbl := rg_mems (y := ⟨"RevisionGroveModel", "difference", "(II)I"⟩) (n := 19) (List.mem_of_getElem? (i := 12) (by decide +kernel)) (by decide +kernel)
theorem ts_M_sameList : Cond.selects "RevisionGroveModel" ⟨"RevisionGroveModel", "sameList", "(III)Z"⟩ ⟨"RevisionGroveModel", "sameList", "(III)Z"⟩ ∈ rg_tbl := rg_mems (y := ⟨"RevisionGroveModel", "sameList", "(III)Z"⟩) (n := 19) (List.mem_of_getElem? (i := 13) (by decide +kernel)) (by decide +kernel)
theorem ts_M_finish : Cond.selects "RevisionGroveModel" ⟨"RevisionGroveModel", "finish", "(II)I"⟩ ⟨"RevisionGroveModel", "finish", "(II)I"⟩ ∈ rg_tbl := rg_mems (y := ⟨"RevisionGroveModel", "finish", "(II)I"⟩) (n := 19) (List.mem_of_getElem? (i := 14) (by decide +kernel)) (by decide +kernel)
theorem ts_M_come : Cond.selects "RevisionGroveModel" ⟨"RevisionGroveModel", "come", "(I)V"⟩ ⟨"RevisionGroveModel", "come", "(I)V"⟩ ∈ rg_tbl := rg_mems (y := ⟨"RevisionGroveModel", "come", "(I)V"⟩) (n := 19) (List.mem_of_getElem? (i := 15) (by decide +kernel)) (by decide +kernel)
theorem ts_M_isRevision : Cond.selects "RevisionGroveModel" ⟨"RevisionGroveModel", "isRevision", "(I)Z"⟩ ⟨"RevisionGroveModel", "isRevision", "(I)Z"⟩ ∈ rg_tbl := rg_mems (y := ⟨"RevisionGroveModel", "isRevision", "(I)Z"⟩) (n := 19) (List.mem_of_getElem? (i := 16) (by decide +kernel)) (by decide +kernel)
theorem ts_M_ancestors : Cond.selects "RevisionGroveModel" ⟨"RevisionGroveModel", "ancestors", "(J)J"⟩ ⟨"RevisionGroveModel", "ancestors", "(J)J"⟩ ∈ rg_tbl := rg_mems (y := ⟨"RevisionGroveModel", "ancestors", "(J)J"⟩) (n := 19) (List.mem_of_getElem? (i := 17) (by decide +kernel)) (by decide +kernel)
theorem ts_M_baseOf : Cond.selects "RevisionGroveModel" ⟨"RevisionGroveModel", "baseOf", "(II)I"⟩ ⟨"RevisionGroveModel", "baseOf", "(II)I"⟩ ∈ rg_tbl := rg_mems (y := ⟨"RevisionGroveModel", "baseOf", "(II)I"⟩) (n := 19) (List.mem_of_getElem? (i := 18) (by decide +kernel)) (by decide +kernel)
theorem ts_M_mergeNumber : Cond.selects "RevisionGroveModel" ⟨"RevisionGroveModel", "mergeNumber", "(IIIII)V"⟩ ⟨"RevisionGroveModel", "mergeNumber", "(IIIII)V"⟩ ∈ rg_tbl := rg_mems (y := ⟨"RevisionGroveModel", "mergeNumber", "(IIIII)V"⟩) (n := 19) (List.mem_of_getElem? (i := 19) (by decide +kernel)) (by decide +kernel)
theorem ts_M_mergeList : Cond.selects "RevisionGroveModel" ⟨"RevisionGroveModel", "mergeList", "(IIIII)V"⟩ ⟨"RevisionGroveModel", "mergeList", "(IIIII)V"⟩ ∈ rg_tbl := rg_mems (y := ⟨"RevisionGroveModel", "mergeList", "(IIIII)V"⟩) (n := 19) (List.mem_of_getElem? (i := 20) (by decide +kernel)) (by decide +kernel)
theorem ts_M_join : Cond.selects "RevisionGroveModel" ⟨"RevisionGroveModel", "join", "(IIII)Z"⟩ ⟨"RevisionGroveModel", "join", "(IIII)Z"⟩ ∈ rg_tbl := rg_mems (y := ⟨"RevisionGroveModel", "join", "(IIII)Z"⟩) (n := 19) (List.mem_of_getElem? (i := 21) (by decide +kernel)) (by decide +kernel)
theorem ts_M_measure : Cond.selects "RevisionGroveModel" ⟨"RevisionGroveModel", "measure", "(IIII)V"⟩ ⟨"RevisionGroveModel", "measure", "(IIII)V"⟩ ∈ rg_tbl := rg_mems (y := ⟨"RevisionGroveModel", "measure", "(IIII)V"⟩) (n := 19) (List.mem_of_getElem? (i := 22) (by decide +kernel)) (by decide +kernel)
theorem ts_M_at : Cond.selects "RevisionGroveModel" ⟨"RevisionGroveModel", "at", "(III)I"⟩ ⟨"RevisionGroveModel", "at", "(III)I"⟩ ∈ rg_tbl := rg_mems (y := ⟨"RevisionGroveModel", "at", "(III)I"⟩) (n := 19) (List.mem_of_getElem? (i := 23) (by decide +kernel)) (by decide +kernel)
theorem ts_M_take : Cond.selects "RevisionGroveModel" ⟨"RevisionGroveModel", "take", "(IIII)V"⟩ ⟨"RevisionGroveModel", "take", "(IIII)V"⟩ ∈ rg_tbl := rg_mems (y := ⟨"RevisionGroveModel", "take", "(IIII)V"⟩) (n := 19) (List.mem_of_getElem? (i := 24) (by decide +kernel)) (by decide +kernel)
end
section
/-! Own rows: contracts over one whole world, entry, exit and call in a line each; numbers as nI k throughout. -/
-- a method's start: the heap is of size sz and holds the world ws
def rg_in (D : va_G) (cl : List vw_C) (tys : List (ClassId × FieldType)) (ws : va_W) (sz : Nat) (U : State) : Prop :=
  U.heap.size = sz ∧ va_P D cl ws U.heap ∧ va_K D cl tys U ∧ va_D (fun _ => True) ws
-- a method's end: the heap holds the world w1 u
def rg_B (D : va_G) (cl : List vw_C) (tys : List (ClassId × FieldType)) (A : Nat → Prop) {S : Type} (w1 : S → va_W) (u : S) (t : State) : Prop :=
  va_P D cl (w1 u) t.heap ∧ va_K D cl tys t ∧ va_D A (w1 u)
-- the ends of methods that answer an int, a long, nothing
def rg_QI (D : va_G) (cl : List vw_C) (tys : List (ClassId × FieldType)) {S : Type} (post : Int32 → S → Prop) (w1 : S → va_W) (A : Nat → Prop) : Array Value → State → Outcome → State → Prop :=
  va_Qi post (rg_B D cl tys A w1) A
def rg_QL (D : va_G) (cl : List vw_C) (tys : List (ClassId × FieldType)) {S : Type} (post : Int64 → S → Prop) (w1 : S → va_W) (A : Nat → Prop) : Array Value → State → Outcome → State → Prop :=
  va_Ql post (rg_B D cl tys A w1) A
def rg_QV (D : va_G) (cl : List vw_C) (tys : List (ClassId × FieldType)) {S : Type} (post : S → Prop) (w1 : S → va_W) (A : Nat → Prop) : Array Value → State → Outcome → State → Prop :=
  va_Qv post (rg_B D cl tys A w1) A
-- a contract: from the world ws with the arguments av
def rg_M (l : Launch) (y : MethodName) (wd : List Cond) (rm : Room) (D : va_G) (cl : List vw_C) (tys : List (ClassId × FieldType)) (ws : va_W) (av : List Value) (Qc : (Nat → Prop) → Array Value → State → Outcome → State → Prop) (mc ms : Nat) : Prop :=
  ∀ sz : Nat, Met l y wd rm (va_Pc av (rg_in D cl tys ws sz)) (Qc (va_A ws sz)) mc ms (va_A ws sz)
theorem rg_of {l : Launch} {y : MethodName} {wd wd' : List Cond} {rm : Room} {D : va_G} {cl : List vw_C} {tys : List (ClassId × FieldType)} {ws : va_W} {av : List Value} {Qc : (Nat → Prop) → Array Value → State → Outcome → State → Prop} {mc ms : Nat} (cc : ByteArray) (maxL : Nat) (ret : Option FieldType)
    (hy : plainName y.cls = true) (hw : wd = Cond.code y cc maxL ret :: wd') (hlen : (lg_sl av).length ≤ maxL)
    (body : ∀ (p : Program) (e : Env) (R : Room) (s : State) (m : MethodId) (args : Array Value) (below : List Frame) (meth : Method) (c : Code) (Q : State → Prop) (A : Nat → Prop) (H : Heap) (locs : List Loc) (ls : Array Slot), R = rm → Q = MQ below (Qc A) args s mc ms A → p.tables.exec = Jvm.exec → c.code = cc → c.maxLocals = maxL → meth.sig.returnType = ret → (∀ w ∈ wd, w.before args s = true) → s.vm.findClass y.cls = some m.cls → meth.locks = false → meth.name = y.name →
      va_P D cl ws H → va_K D cl tys s → va_D A ws → (∀ q : Nat, s.heap.size ≤ q → A q) → va_S A s.heap H locs → lv_has ls maxL (lv_args 0 av) →
      W p l e R s m args below meth c H locs 0 0 Q (F0 m 0 ls [])) : rg_M l y wd rm D cl tys ws av Qc mc ms := by
  intro sz
  refine Met.ofW (cc := cc) (maxL := maxL) (ret := ret) hy hw ?_
  intro p e s m args below meth c s₁ B hml hv
  obtain ⟨rfl, hsz, hP, hK, hD0⟩ := hv
  subst hsz
  have hl := lv_entry av (n := maxL) hlen
  rw [lg_entry_eq]
  exact body p e _ s m _ below meth c _ (va_A ws s.heap.size) s.heap [] _ rfl rfl B.exec B.bytes hml B.returns (atoms_spec (ws := wd) B.pre) (findClass_of_methodNamed B.named) B.notSynchronized (name_of_methodNamed B.named B.method).1 hP hK (hD0.self (sz := s.heap.size)) (fun q h => Or.inr h) va_S.rf hl
section RGA
variable {p : Program} {l : Launch} {e : Env} {R : Room} {s : State} {m : MethodId} {args : Array Value} {below : List Frame} {meth : Method} {c : Code} {H : Heap} {locs : List Loc} {cells slots : Nat} {Q : State → Prop}
variable {cc : ByteArray} {pc : Nat} {ls : Array Slot} {rest st0 : List Value} {D : va_G} {cl : List vw_C} {A : Nat → Prop} {a : Nat} {tys : List (ClassId × FieldType)} {ws wr : va_W} {H0 : Heap} {aa : Array Value} {mc ms : Nat}
-- ends
theorem rg_iret {S : Type} {post : Int32 → S → Prop} {w1 : S → va_W} {v : Int32} (hx : p.tables.exec = Jvm.exec) (hb : c.code = cc) (hr : meth.sig.returnType = some .int) (hlk : meth.locks = false) (hK : va_K D cl tys s) (hP : va_P D cl ws H) (hD : va_D A ws) (hS : va_S A s.heap H locs)
    (hdg : decode cc pc = .ok (.ireturn, 1)) (u : S) (hw : w1 u = ws) (hp : post v u) : W p l e R s m args below meth c H locs cells slots (MQ below (rg_QI D cl tys post w1 A) args s cells slots A) (F0 m pc ls [.int v]) := by
  subst hw
  exact W.iret hx hb hr (fun t ht hW => ⟨⟨v, u, rfl, hp, by rw [ht]; exact hP, va_K.moved hW.alike hK, hD⟩, hS.F ht⟩) hS.2.2 hdg hlk
theorem rg_zret {S : Type} {post : Int32 → S → Prop} {w1 : S → va_W} {v : Int32} (hx : p.tables.exec = Jvm.exec) (hb : c.code = cc) (hr : meth.sig.returnType = some .boolean) (hlk : meth.locks = false) (hK : va_K D cl tys s) (hP : va_P D cl ws H) (hD : va_D A ws) (hS : va_S A s.heap H locs)
    (hv : v = 0 ∨ v = 1) (hdg : decode cc pc = .ok (.ireturn, 1)) (u : S) (hw : w1 u = ws) (hp : post v u) : W p l e R s m args below meth c H locs cells slots (MQ below (rg_QI D cl tys post w1 A) args s cells slots A) (F0 m pc ls [.int v]) := by
  subst hw
  exact W.zret (ty := .boolean) hx hb hr (by rcases hv with rfl | rfl <;> rfl) (fun t ht hW => ⟨⟨v, u, rfl, hp, by rw [ht]; exact hP, va_K.moved hW.alike hK, hD⟩, hS.F ht⟩) hS.2.2 hdg hlk
theorem rg_lret {S : Type} {post : Int64 → S → Prop} {w1 : S → va_W} {v : Int64} (hx : p.tables.exec = Jvm.exec) (hb : c.code = cc) (hr : meth.sig.returnType = some .long) (hlk : meth.locks = false) (hK : va_K D cl tys s) (hP : va_P D cl ws H) (hD : va_D A ws) (hS : va_S A s.heap H locs)
    (hdg : decode cc pc = .ok (.lreturn, 1)) (u : S) (hw : w1 u = ws) (hp : post v u) : W p l e R s m args below meth c H locs cells slots (MQ below (rg_QL D cl tys post w1 A) args s cells slots A) (F0 m pc ls [.long v]) := by
  subst hw
  exact W.lret hx hb hr (fun t ht hW => ⟨⟨v, u, rfl, hp, by rw [ht]; exact hP, va_K.moved hW.alike hK, hD⟩, hS.F ht⟩) hS.2.2 hdg hlk
theorem rg_vret {S : Type} {post : S → Prop} {w1 : S → va_W} (hx : p.tables.exec = Jvm.exec) (hb : c.code = cc) (hr : meth.sig.returnType = none) (hlk : meth.locks = false) (hK : va_K D cl tys s) (hP : va_P D cl ws H) (hD : va_D A ws) (hS : va_S A s.heap H locs)
    (hdg : decode cc pc = .ok (.return_, 1)) (u : S) (hw : w1 u = ws) (hp : post u) : W p l e R s m args below meth c H locs cells slots (MQ below (rg_QV D cl tys post w1 A) args s cells slots A) (F0 m pc ls []) := by
  subst hw
  exact W.vret hx hb hr (fun t ht hW => ⟨⟨u, rfl, hp, by rw [ht]; exact hP, va_K.moved hW.alike hK, hD⟩, hS.F ht⟩) hS.2.2 hdg hlk
-- calls over the whole world
theorem rg_free (hD : va_D A ws) (hS : va_S A H0 H locs) (hA : ∀ q : Nat, H0.size ≤ q → A q) : ∀ q, va_A ws H.size q → A q := by
  intro q h
  rcases h with ⟨k, e, h⟩ | h
  · exact hD.2 k (q, e) h
  · exact hA q (Nat.le_trans hS.1 h)
theorem rg_calli {S : Type} {post : Int32 → S → Prop} {w1 : S → va_W} (hD : va_D A ws) (hS : va_S A H0 H locs) (hA : ∀ q : Nat, H0.size ≤ q → A q)
    (hr : va_Run p l e R s m args below meth c H locs cells slots mc ms (F0 m pc ls st0) rest (rg_QI D cl tys post w1 (va_A ws H.size) aa) (va_A ws H.size))
    (kk : ∀ (r : Int32) (u : S) (H1 : Heap) (locs1 : List Loc), post r u → va_P D cl (w1 u) H1 → va_D A (w1 u) → va_S A H0 H1 locs1 → W p l e R s m args below meth c H1 locs1 (cells + mc) (slots + ms) Q (F0 m (pc + 3) ls (.int r :: rest))) : W p l e R s m args below meth c H locs cells slots Q (F0 m pc ls st0) := by
  have hF := rg_free hD hS hA
  refine va_calli hr hS (fun q _ h => hF q h) hF (fun r u t H1 locs1 ht _ hw hB _ _ hS1 => ?_)
  obtain ⟨hP1, -, hD1⟩ := hB
  rw [ht] at hP1
  exact kk r u H1 locs1 hw hP1 (hD1.weaken (fun _ q _ h => hF q.1 h)) hS1
theorem rg_calll {S : Type} {post : Int64 → S → Prop} {w1 : S → va_W} (hD : va_D A ws) (hS : va_S A H0 H locs) (hA : ∀ q : Nat, H0.size ≤ q → A q)
    (hr : va_Run p l e R s m args below meth c H locs cells slots mc ms (F0 m pc ls st0) rest (rg_QL D cl tys post w1 (va_A ws H.size) aa) (va_A ws H.size))
    (kk : ∀ (r : Int64) (u : S) (H1 : Heap) (locs1 : List Loc), post r u → va_P D cl (w1 u) H1 → va_D A (w1 u) → va_S A H0 H1 locs1 → W p l e R s m args below meth c H1 locs1 (cells + mc) (slots + ms) Q (F0 m (pc + 3) ls (.long r :: rest))) : W p l e R s m args below meth c H locs cells slots Q (F0 m pc ls st0) := by
  have hF := rg_free hD hS hA
  refine va_calll hr hS (fun q _ h => hF q h) hF (fun r u t H1 locs1 ht _ hw hB _ _ hS1 => ?_)
  obtain ⟨hP1, -, hD1⟩ := hB
  rw [ht] at hP1
  exact kk r u H1 locs1 hw hP1 (hD1.weaken (fun _ q _ h => hF q.1 h)) hS1
theorem rg_callv {S : Type} {post : S → Prop} {w1 : S → va_W} (hD : va_D A ws) (hS : va_S A H0 H locs) (hA : ∀ q : Nat, H0.size ≤ q → A q)
    (hr : va_Run p l e R s m args below meth c H locs cells slots mc ms (F0 m pc ls st0) rest (rg_QV D cl tys post w1 (va_A ws H.size) aa) (va_A ws H.size))
    (kk : ∀ (u : S) (H1 : Heap) (locs1 : List Loc), post u → va_P D cl (w1 u) H1 → va_D A (w1 u) → va_S A H0 H1 locs1 → W p l e R s m args below meth c H1 locs1 (cells + mc) (slots + ms) Q (F0 m (pc + 3) ls rest)) : W p l e R s m args below meth c H locs cells slots Q (F0 m pc ls st0) := by
  have hF := rg_free hD hS hA
  refine va_callv hr hS (fun q _ h => hF q h) hF (fun u t H1 locs1 ht _ hw hB _ _ hS1 => ?_)
  obtain ⟨hP1, -, hD1⟩ := hB
  rw [ht] at hP1
  exact kk u H1 locs1 hw hP1 (hD1.weaken (fun _ q _ h => hF q.1 h)) hS1
-- a callee's start out of the caller's world
theorem rg_preS {av : List Value} {vs : List Value} (he : vs = av) (hK : va_K D cl tys s) (hP : va_P D cl ws H) (hD : va_D A ws) : PreS s H (va_Pc av (rg_in D cl tys ws H.size)) vs := by
  subst he
  refine ⟨fun a U g mk q => ?_, fun U hU hW => ⟨rfl, by rw [hU], by rw [hU]; exact hP, va_K.moved hW.alike hK, hD.weaken (fun _ _ _ _ => trivial)⟩⟩
  obtain ⟨q0, q1, qP, qK, qD⟩ := q
  exact ⟨q0, q1, qP, va_K.moved (u := U) (U := U.calling g mk a) (Vm.Alike.refl U.vm) qK, qD⟩
theorem rg_preV {av : List Value} {b ci q0 : Nat} {q : vw_C} {fs : List Value} {vs : List Value} (he : (.ref b :: vs) = av) (hK : va_K D cl tys s) (hP : va_P D cl ws H) (hD : va_D A ws) (hc : cl[ci]? = some q) (hq : ws[q0]? = some (b, .inr (ci, fs))) : PreV s H q.1 b (va_Pc av (rg_in D cl tys ws H.size)) vs := by
  subst he
  refine ⟨fun a U g mk q => ?_, va_recv hK hP hc hq, fun U hU hW => ⟨rfl, by rw [hU], by rw [hU]; exact hP, va_K.moved hW.alike hK, hD.weaken (fun _ _ _ _ => trivial)⟩⟩
  obtain ⟨q0, q1, qP, qK, qD⟩ := q
  exact ⟨q0, q1, qP, va_K.moved (u := U) (U := U.calling g mk a) (Vm.Alike.refl U.vm) qK, qD⟩
-- arrays at a number
theorem rg_iald (hx : p.tables.exec = Jvm.exec) (hb : c.code = cc) (hK : va_K D cl tys s) (hP : va_P D cl ws H) (q0 t0 : Nat) {cA : ClassId} {n : Nat} {f : Nat → Int32} (ha : ws[q0]? = some (a, .inl (cA, n, .inl f))) (ht : tys[t0]? = some (cA, .int)) (hn : n < 2 ^ 31) {k : Nat} (hk : k < n) (hdg : decode cc pc = .ok (.iaload, 1))
    (kk : W p l e R s m args below meth c H locs cells slots Q (F0 m (pc + 1) ls (.int (f k) :: rest))) : W p l e R s m args below meth c H locs cells slots Q (F0 m pc ls (.int (nI k) :: .ref a :: rest)) := by
  refine va_iald hx hb hK hP q0 t0 ha ht (vp_in_nI hk hn) hdg ?_
  rw [nI_clamp (Nat.lt_trans hk hn)]
  exact kk
theorem rg_lald (hx : p.tables.exec = Jvm.exec) (hb : c.code = cc) (hK : va_K D cl tys s) (hP : va_P D cl ws H) (q0 t0 : Nat) {cA : ClassId} {n : Nat} {f : Nat → Int64} (ha : ws[q0]? = some (a, .inl (cA, n, .inr (.inl f)))) (ht : tys[t0]? = some (cA, .long)) (hn : n < 2 ^ 31) {k : Nat} (hk : k < n) (hdg : decode cc pc = .ok (.laload, 1))
    (kk : W p l e R s m args below meth c H locs cells slots Q (F0 m (pc + 1) ls (.long (f k) :: rest))) : W p l e R s m args below meth c H locs cells slots Q (F0 m pc ls (.int (nI k) :: .ref a :: rest)) := by
  refine va_lald hx hb hK hP q0 t0 ha ht (vp_in_nI hk hn) hdg ?_
  rw [nI_clamp (Nat.lt_trans hk hn)]
  exact kk
theorem rg_aldq (hx : p.tables.exec = Jvm.exec) (hb : c.code = cc) (hK : va_K D cl tys s) (hP : va_P D cl ws H) (q0 t0 : Nat) {cA : ClassId} {C : String} {n : Nat} {f : Nat → Option Nat} (ha : ws[q0]? = some (a, .inl (cA, n, .inr (.inr (.inr (.inr f)))))) (ht : tys[t0]? = some (cA, .object C)) (hn : n < 2 ^ 31) {k : Nat} (hk : k < n) (hdg : decode cc pc = .ok (.aaload, 1))
    (kk : W p l e R s m args below meth c H locs cells slots Q (F0 m (pc + 1) ls (va_rf (f k) :: rest))) : W p l e R s m args below meth c H locs cells slots Q (F0 m pc ls (.int (nI k) :: .ref a :: rest)) := by
  refine va_aldq hx hb hK hP q0 t0 ha ht (vp_in_nI hk hn) hdg ?_
  rw [nI_clamp (Nat.lt_trans hk hn)]
  exact kk
theorem rg_iast (hx : p.tables.exec = Jvm.exec) (hb : c.code = cc) (hK : va_K D cl tys s) (hP : va_P D cl ws H) (hD : va_D A ws) (hS : va_S A H0 H locs) (q0 t0 : Nat) {cA : ClassId} {n : Nat} {f : Nat → Int32} (ha : ws[q0]? = some (a, .inl (cA, n, .inl f))) (ht : tys[t0]? = some (cA, .int)) (hn : n < 2 ^ 31) {k : Nat} (hk : k < n) {x : Int32} (hdg : decode cc pc = .ok (.iastore, 1))
    (kk : ∀ (H1 : Heap) (locs1 : List Loc), va_P D cl (ws.set q0 (a, .inl (cA, n, .inl (upd f k x)))) H1 → va_D A (ws.set q0 (a, .inl (cA, n, .inl (upd f k x)))) → va_S A H0 H1 locs1 → W p l e R s m args below meth c H1 locs1 cells slots Q (F0 m (pc + 1) ls rest)) : W p l e R s m args below meth c H locs cells slots Q (F0 m pc ls (.int x :: .int (nI k) :: .ref a :: rest)) := by
  refine va_iast hx hb hK hP hD hS q0 t0 ha ht (vp_in_nI hk hn) hdg ?_
  rw [nI_clamp (Nat.lt_trans hk hn)]
  exact kk
theorem rg_last (hx : p.tables.exec = Jvm.exec) (hb : c.code = cc) (hK : va_K D cl tys s) (hP : va_P D cl ws H) (hD : va_D A ws) (hS : va_S A H0 H locs) (q0 t0 : Nat) {cA : ClassId} {n : Nat} {f : Nat → Int64} (ha : ws[q0]? = some (a, .inl (cA, n, .inr (.inl f)))) (ht : tys[t0]? = some (cA, .long)) (hn : n < 2 ^ 31) {k : Nat} (hk : k < n) {x : Int64} (hdg : decode cc pc = .ok (.lastore, 1))
    (kk : ∀ (H1 : Heap) (locs1 : List Loc), va_P D cl (ws.set q0 (a, .inl (cA, n, .inr (.inl (vp_updL f k x))))) H1 → va_D A (ws.set q0 (a, .inl (cA, n, .inr (.inl (vp_updL f k x))))) → va_S A H0 H1 locs1 → W p l e R s m args below meth c H1 locs1 cells slots Q (F0 m (pc + 1) ls rest)) : W p l e R s m args below meth c H locs cells slots Q (F0 m pc ls (.long x :: .int (nI k) :: .ref a :: rest)) := by
  refine va_last hx hb hK hP hD hS q0 t0 ha ht (vp_in_nI hk hn) hdg ?_
  rw [nI_clamp (Nat.lt_trans hk hn)]
  exact kk
-- numbers
theorem rg_iadd {x y : Nat} (hx : p.tables.exec = Jvm.exec) (hb : c.code = cc) (hdg : decode cc pc = .ok (.iadd, 1)) (kk : W p l e R s m args below meth c H locs cells slots Q (F0 m (pc + 1) ls (.int (nI (x + y)) :: rest))) : W p l e R s m args below meth c H locs cells slots Q (F0 m pc ls (.int (nI y) :: .int (nI x) :: rest)) := by
  refine lv_iadd hx hb hdg ?_
  rw [nI_add]
  exact kk
theorem rg_isub {x y : Nat} (hx : p.tables.exec = Jvm.exec) (hb : c.code = cc) (hdg : decode cc pc = .ok (.isub, 1)) (h : y ≤ x) (kk : W p l e R s m args below meth c H locs cells slots Q (F0 m (pc + 1) ls (.int (nI (x - y)) :: rest))) : W p l e R s m args below meth c H locs cells slots Q (F0 m pc ls (.int (nI y) :: .int (nI x) :: rest)) := by
  refine lv_isub hx hb hdg ?_
  rw [pk_sub h]
  exact kk
theorem rg_imul {x y : Nat} (hx : p.tables.exec = Jvm.exec) (hb : c.code = cc) (hdg : decode cc pc = .ok (.imul, 1)) (kk : W p l e R s m args below meth c H locs cells slots Q (F0 m (pc + 1) ls (.int (nI (x * y)) :: rest))) : W p l e R s m args below meth c H locs cells slots Q (F0 m pc ls (.int (nI y) :: .int (nI x) :: rest)) := by
  refine lv_imul hx hb hdg ?_
  rw [pk_mul]
  exact kk
-- the number on top by another name
theorem rg_top {v v' : Value} (h : v = v') (kk : W p l e R s m args below meth c H locs cells slots Q (F0 m pc ls (v' :: rest))) : W p l e R s m args below meth c H locs cells slots Q (F0 m pc ls (v :: rest)) := by
  rw [h]
  exact kk
theorem rg_top2 {v w v' w' : Value} (h : v = v') (h2 : w = w') (kk : W p l e R s m args below meth c H locs cells slots Q (F0 m pc ls (v' :: w' :: rest))) : W p l e R s m args below meth c H locs cells slots Q (F0 m pc ls (v :: w :: rest)) := by
  rw [h, h2]
  exact kk
-- branches on numbers
theorem rg_icmp_ge {x y : Nat} {off : Int} {tgt : Nat} (hx : p.tables.exec = Jvm.exec) (hb : c.code = cc) (hdg : decode cc pc = .ok (.if_icmp .ge off, 3)) (ht : (pc : Int) + off = (tgt : Int)) (h1 : x < 2 ^ 31) (h2 : y < 2 ^ 31)
    (kt : y ≤ x → W p l e R s m args below meth c H locs cells slots Q (F0 m tgt ls rest)) (kf : x < y → W p l e R s m args below meth c H locs cells slots Q (F0 m (pc + 3) ls rest)) : W p l e R s m args below meth c H locs cells slots Q (F0 m pc ls (.int (nI y) :: .int (nI x) :: rest)) := by
  refine lv_icmp_ge hx hb hdg ht (fun h => kt ((nI_leI h2 h1).mp h)) (fun h => kf (Nat.lt_of_not_le fun q => h ((nI_leI h2 h1).mpr q)))
theorem rg_icmp_lt {x y : Nat} {off : Int} {tgt : Nat} (hx : p.tables.exec = Jvm.exec) (hb : c.code = cc) (hdg : decode cc pc = .ok (.if_icmp .lt off, 3)) (ht : (pc : Int) + off = (tgt : Int)) (h1 : x < 2 ^ 31) (h2 : y < 2 ^ 31)
    (kt : x < y → W p l e R s m args below meth c H locs cells slots Q (F0 m tgt ls rest)) (kf : y ≤ x → W p l e R s m args below meth c H locs cells slots Q (F0 m (pc + 3) ls rest)) : W p l e R s m args below meth c H locs cells slots Q (F0 m pc ls (.int (nI y) :: .int (nI x) :: rest)) := by
  refine lv_icmp_lt hx hb hdg ht (fun h => kt ((nI_ltI h1 h2).mp h)) (fun h => kf (Nat.le_of_not_lt fun q => h ((nI_ltI h1 h2).mpr q)))
theorem rg_icmp_gt {x y : Nat} {off : Int} {tgt : Nat} (hx : p.tables.exec = Jvm.exec) (hb : c.code = cc) (hdg : decode cc pc = .ok (.if_icmp .gt off, 3)) (ht : (pc : Int) + off = (tgt : Int)) (h1 : x < 2 ^ 31) (h2 : y < 2 ^ 31)
    (kt : y < x → W p l e R s m args below meth c H locs cells slots Q (F0 m tgt ls rest)) (kf : x ≤ y → W p l e R s m args below meth c H locs cells slots Q (F0 m (pc + 3) ls rest)) : W p l e R s m args below meth c H locs cells slots Q (F0 m pc ls (.int (nI y) :: .int (nI x) :: rest)) := by
  refine lv_icmp_gt hx hb hdg ht (fun h => kt ((nI_ltI h2 h1).mp h)) (fun h => kf (Nat.le_of_not_lt fun q => h ((nI_ltI h2 h1).mpr q)))
theorem rg_icmp_le {x y : Nat} {off : Int} {tgt : Nat} (hx : p.tables.exec = Jvm.exec) (hb : c.code = cc) (hdg : decode cc pc = .ok (.if_icmp .le off, 3)) (ht : (pc : Int) + off = (tgt : Int)) (h1 : x < 2 ^ 31) (h2 : y < 2 ^ 31)
    (kt : x ≤ y → W p l e R s m args below meth c H locs cells slots Q (F0 m tgt ls rest)) (kf : y < x → W p l e R s m args below meth c H locs cells slots Q (F0 m (pc + 3) ls rest)) : W p l e R s m args below meth c H locs cells slots Q (F0 m pc ls (.int (nI y) :: .int (nI x) :: rest)) := by
  refine lv_icmp_le hx hb hdg ht (fun h => kt ((nI_leI h1 h2).mp h)) (fun h => kf (Nat.lt_of_not_le fun q => h ((nI_leI h1 h2).mpr q)))
theorem rg_icmp_eq {x y : Nat} {off : Int} {tgt : Nat} (hx : p.tables.exec = Jvm.exec) (hb : c.code = cc) (hdg : decode cc pc = .ok (.if_icmp .eq off, 3)) (ht : (pc : Int) + off = (tgt : Int)) (h1 : x < 2 ^ 31) (h2 : y < 2 ^ 31)
    (kt : x = y → W p l e R s m args below meth c H locs cells slots Q (F0 m tgt ls rest)) (kf : ¬ x = y → W p l e R s m args below meth c H locs cells slots Q (F0 m (pc + 3) ls rest)) : W p l e R s m args below meth c H locs cells slots Q (F0 m pc ls (.int (nI y) :: .int (nI x) :: rest)) := by
  refine lv_icmp_eq hx hb hdg ht (fun h => kt ((nI_eq h1 h2).mp h)) (fun h => kf (fun q => h ((nI_eq h1 h2).mpr q)))
theorem rg_icmp_ne {x y : Nat} {off : Int} {tgt : Nat} (hx : p.tables.exec = Jvm.exec) (hb : c.code = cc) (hdg : decode cc pc = .ok (.if_icmp .ne off, 3)) (ht : (pc : Int) + off = (tgt : Int)) (h1 : x < 2 ^ 31) (h2 : y < 2 ^ 31)
    (kt : ¬ x = y → W p l e R s m args below meth c H locs cells slots Q (F0 m tgt ls rest)) (kf : x = y → W p l e R s m args below meth c H locs cells slots Q (F0 m (pc + 3) ls rest)) : W p l e R s m args below meth c H locs cells slots Q (F0 m pc ls (.int (nI y) :: .int (nI x) :: rest)) := by
  refine lv_icmp_ne hx hb hdg ht (fun h => kt (fun q => h ((nI_eq h1 h2).mpr q))) (fun h => kf ((nI_eq h1 h2).mp h))
-- branches on a truth value
theorem rg_ifz_eq {b : Bool} {off : Int} {tgt : Nat} (hx : p.tables.exec = Jvm.exec) (hb : c.code = cc) (hdg : decode cc pc = .ok (.ifCond .eq off, 3)) (ht : (pc : Int) + off = (tgt : Int))
    (kt : b = false → W p l e R s m args below meth c H locs cells slots Q (F0 m tgt ls rest)) (kf : b = true → W p l e R s m args below meth c H locs cells slots Q (F0 m (pc + 3) ls rest)) : W p l e R s m args below meth c H locs cells slots Q (F0 m pc ls (.int (bif b then 1 else 0) :: rest)) := by
  refine lv_if_eq hx hb hdg ht (fun h => kt ?_) (fun h => kf ?_)
  · cases b
    · rfl
    · exact absurd h (by decide)
  · cases b
    · exact absurd rfl h
    · rfl
theorem rg_ifz_ne {b : Bool} {off : Int} {tgt : Nat} (hx : p.tables.exec = Jvm.exec) (hb : c.code = cc) (hdg : decode cc pc = .ok (.ifCond .ne off, 3)) (ht : (pc : Int) + off = (tgt : Int))
    (kt : b = true → W p l e R s m args below meth c H locs cells slots Q (F0 m tgt ls rest)) (kf : b = false → W p l e R s m args below meth c H locs cells slots Q (F0 m (pc + 3) ls rest)) : W p l e R s m args below meth c H locs cells slots Q (F0 m pc ls (.int (bif b then 1 else 0) :: rest)) := by
  refine lv_if_ne hx hb hdg ht (fun h => kt ?_) (fun h => kf ?_)
  · cases b
    · exact absurd rfl h
    · rfl
  · cases b
    · rfl
    · exact absurd h (by decide)
end RGA
end
section
/-! Records and how the reference's arrays hold them; copies. -/
abbrev rg_R : Type := (Nat → Int32) × (Nat → Int64) × (Nat → Int32) × (Nat → List Int32)
-- slot r of the reference's arrays holds the record X
def rg_MR (nu : Nat → Int32) (co : Nat → Int64) (se le li : Nat → Int32) (r : Nat) (X : rg_R) : Prop :=
  ∀ f, f < 2 → nu (2 * r + f) = X.1 f ∧ co (2 * r + f) = X.2.1 f ∧ se (2 * r + f) = X.2.2.1 f ∧ (X.2.2.2 f).length ≤ 8 ∧ le (2 * r + f) = nI (X.2.2.2 f).length ∧ ∀ k, k < (X.2.2.2 f).length → li (16 * r + 8 * f + k) = (X.2.2.2 f).getD k 0
theorem rg_cpyI (g : Nat → Int32) (s d k : Nat) (h : s + k < d ∨ d + k ≤ s + k) : upd (va_cpy g g s d k) (d + k) (va_cpy g g s d k (s + k)) = va_cpy g g s d (k + 1) := by
  funext j
  rw [pk_cpy_out h]
  by_cases hj : j = d + k
  · subst hj
    rw [pk_us, pk_cpy_in (Nat.le_add_right d k) (by omega), Nat.add_sub_cancel_left]
  · rw [pk_un hj]
    by_cases h2 : d ≤ j ∧ j < d + k
    · rw [pk_cpy_in h2.1 h2.2, pk_cpy_in h2.1 (by omega)]
    · rw [pk_cpy_out (by omega), pk_cpy_out (by omega)]
theorem rg_cpyL (g : Nat → Int64) (s d k : Nat) (h : s + k < d ∨ d + k ≤ s + k) : vp_updL (va_cpy g g s d k) (d + k) (va_cpy g g s d k (s + k)) = va_cpy g g s d (k + 1) := by
  funext j
  rw [pk_cpy_out h]
  by_cases hj : j = d + k
  · subst hj
    rw [pk_uLs, pk_cpy_in (Nat.le_add_right d k) (by omega), Nat.add_sub_cancel_left]
  · rw [pk_uLn hj]
    by_cases h2 : d ≤ j ∧ j < d + k
    · rw [pk_cpy_in h2.1 h2.2, pk_cpy_in h2.1 (by omega)]
    · rw [pk_cpy_out (by omega), pk_cpy_out (by omega)]
theorem rg_cpy0 {α : Type} (g : Nat → α) (s d : Nat) : va_cpy g g s d 0 = g := by
  funext j
  exact pk_cpy_out (by omega)
theorem rg_cin {α : Type} {g h : Nat → α} {s d n j : Nat} (i : Nat) (hi : i < n) (hj : j = d + i) : va_cpy g h s d n j = g (s + i) := by
  subst hj
  rw [pk_cpy_in (Nat.le_add_right d i) (by omega), Nat.add_sub_cancel_left]
-- the copied slot
theorem rg_MR_copy {nu : Nat → Int32} {co : Nat → Int64} {se le li : Nat → Int32} {r t : Nat} {X : rg_R} (h : rg_MR nu co se le li r X) :
    rg_MR (va_cpy nu nu (2 * r) (2 * t) 2) (va_cpy co co (2 * r) (2 * t) 2) (va_cpy se se (2 * r) (2 * t) 2) (va_cpy le le (2 * r) (2 * t) 2) (va_cpy li li (16 * r) (16 * t) 16) t X := by
  intro f hf
  obtain ⟨h1, h2, h3, h4, h5, h6⟩ := h f hf
  refine ⟨?_, ?_, ?_, h4, ?_, fun k hk => ?_⟩
  · rw [rg_cin f hf rfl]; exact h1
  · rw [rg_cin f hf rfl]; exact h2
  · rw [rg_cin f hf rfl]; exact h3
  · rw [rg_cin f hf rfl]; exact h5
  · rw [rg_cin (8 * f + k) (by omega) (by omega), ← Nat.add_assoc]; exact h6 k hk
-- another slot stays
theorem rg_MR_keep {nu nu' : Nat → Int32} {co co' : Nat → Int64} {se le li se' le' li' : Nat → Int32} {q t : Nat} {X : rg_R} (h : rg_MR nu co se le li q X) (hq : q ≠ t)
    (e1 : ∀ j, j < 2 * t ∨ 2 * t + 2 ≤ j → nu' j = nu j) (e2 : ∀ j, j < 2 * t ∨ 2 * t + 2 ≤ j → co' j = co j) (e3 : ∀ j, j < 2 * t ∨ 2 * t + 2 ≤ j → se' j = se j) (e4 : ∀ j, j < 2 * t ∨ 2 * t + 2 ≤ j → le' j = le j) (e5 : ∀ j, j < 16 * t ∨ 16 * t + 16 ≤ j → li' j = li j) : rg_MR nu' co' se' le' li' q X := by
  intro f hf
  obtain ⟨h1, h2, h3, h4, h5, h6⟩ := h f hf
  refine ⟨?_, ?_, ?_, h4, ?_, fun k hk => ?_⟩
  · rw [e1 _ (by omega)]; exact h1
  · rw [e2 _ (by omega)]; exact h2
  · rw [e3 _ (by omega)]; exact h3
  · rw [e4 _ (by omega)]; exact h5
  · rw [e5 _ (by omega)]; exact h6 k hk
-- the bits of the fields in which two records differ, of the first k fields of each kind
def rg_difK (X Y : rg_R) : Nat → Int32
  | 0 => nI 0
  | f + 1 => (((rg_difK X Y f ||| (bif decide (X.1 f = Y.1 f) then nI 0 else nI 1 <<< (nI f &&& 31))) ||| (bif decide (X.2.1 f = Y.2.1 f) then nI 0 else nI 4 <<< (nI f &&& 31))) ||| (bif decide (X.2.2.1 f = Y.2.2.1 f) then nI 0 else nI 16 <<< (nI f &&& 31))) ||| (bif decide (X.2.2.2 f = Y.2.2.2 f) then nI 0 else nI 64 <<< (nI f &&& 31))
def rg_dif (X Y : rg_R) : Int32 := rg_difK X Y 2
-- two records are the same in all fields
def rg_eq (X Y : rg_R) : Prop := ∀ f, f < 2 → X.1 f = Y.1 f ∧ X.2.1 f = Y.2.1 f ∧ X.2.2.1 f = Y.2.2.1 f ∧ X.2.2.2 f = Y.2.2.2 f
theorem rg_dif8 : ∀ a b c d e f g h : Bool, ((((((((nI 0 ||| (bif a then nI 0 else nI 1 <<< (nI 0 &&& 31))) ||| (bif b then nI 0 else nI 4 <<< (nI 0 &&& 31))) ||| (bif c then nI 0 else nI 16 <<< (nI 0 &&& 31))) ||| (bif d then nI 0 else nI 64 <<< (nI 0 &&& 31))) ||| (bif e then nI 0 else nI 1 <<< (nI 1 &&& 31))) ||| (bif f then nI 0 else nI 4 <<< (nI 1 &&& 31))) ||| (bif g then nI 0 else nI 16 <<< (nI 1 &&& 31))) ||| (bif h then nI 0 else nI 64 <<< (nI 1 &&& 31))) = 0 ↔ (a && b && c && d && e && f && g && h) = true := by decide +kernel
theorem rg_dif_0 (X Y : rg_R) : rg_dif X Y = 0 ↔ rg_eq X Y := by
  unfold rg_dif
  simp only [rg_difK]
  rw [rg_dif8]
  simp only [Bool.and_eq_true, decide_eq_true_eq]
  constructor
  · rintro ⟨⟨⟨⟨⟨⟨⟨a, b⟩, c⟩, d⟩, e⟩, f⟩, g⟩, h⟩ k hk
    rcases (show k = 0 ∨ k = 1 by omega) with rfl | rfl
    · exact ⟨a, b, c, d⟩
    · exact ⟨e, f, g, h⟩
  · intro h
    obtain ⟨a, b, c, d⟩ := h 0 (by omega)
    obtain ⟨e, f, g, i⟩ := h 1 (by omega)
    exact ⟨⟨⟨⟨⟨⟨⟨a, b⟩, c⟩, d⟩, e⟩, f⟩, g⟩, i⟩
theorem rg_list_eq {x y : List Int32} (h : x.length = y.length) (h2 : ∀ j, j < x.length → x.getD j 0 = y.getD j 0) : x = y := by
  apply List.ext_getElem h
  intro i h1 h3
  have := h2 i h1
  simpa [List.getD_eq_getElem?_getD, h1, h3] using this
theorem rg_b01 (b : Bool) : (bif b then (1 : Int32) else 0) = 0 ∨ (bif b then (1 : Int32) else 0) = 1 := by
  cases b
  · exact Or.inl rfl
  · exact Or.inr rfl
theorem rg_same_end {x y : List Int32} {b : Bool} {k : Nat} (hk : x.length ≤ k) (h1 : b = true → x.length = y.length ∧ ∀ j, j < k → x.getD j 0 = y.getD j 0) (h0 : b = false → ¬ x = y) : (bif b then (1 : Int32) else 0) = bif decide (x = y) then 1 else 0 := by
  cases b with
  | false => rw [decide_eq_false (h0 rfl)]
  | true =>
    obtain ⟨e, g⟩ := h1 rfl
    rw [decide_eq_true (rg_list_eq e (fun j hj => g j (by omega)))]
theorem rg_same_f {x y : List Int32} {b : Bool} (hb : b = false) (h0 : b = false → ¬ x = y) : (bif b then (1 : Int32) else 0) = bif decide (x = y) then 1 else 0 := by
  subst hb
  rw [decide_eq_false (h0 rfl)]
end
section
/-! Sets of numbers in a long, by their bits; ancestors. -/
def rg_has (x : Int64) (j : Nat) : Bool := x.toBitVec.getLsbD j
theorem rg_has_or (x y : Int64) (j : Nat) : rg_has (x ||| y) j = (rg_has x j || rg_has y j) := by unfold rg_has; rw [Int64.toBitVec_or, BitVec.getLsbD_or]
theorem rg_has_and (x y : Int64) (j : Nat) : rg_has (x &&& y) j = (rg_has x j && rg_has y j) := by unfold rg_has; rw [Int64.toBitVec_and, BitVec.getLsbD_and]
theorem rg_has_0 (j : Nat) : rg_has 0 j = false := BitVec.getLsbD_zero
theorem rg_has_big {x : Int64} {j : Nat} (h : 64 ≤ j) : rg_has x j = false := BitVec.getLsbD_of_ge _ _ h
theorem rg_sl : ∀ n, n < 64 → (((nI n).toInt64 &&& 63).toBitVec.smod 64).toNat = n := by decide +kernel
theorem rg_su : ∀ n, n < 64 → (((nI n).toInt64.toUInt64 &&& Int64.toUInt64 63).toBitVec % 64).toNat = n := by decide +kernel
theorem rg_one (i : Nat) : (1 : Int64).toBitVec.getLsbD i = decide (i = 0) := by
  show (1#64).getLsbD i = _
  rw [BitVec.getLsbD_one]
  simp
theorem rg_has_1 {r : Nat} (hr : r < 64) (j : Nat) : rg_has ((1 : Int64) <<< ((nI r).toInt64 &&& 63)) j = decide (j = r) := by
  unfold rg_has
  rw [Int64.toBitVec_shiftLeft]
  show ((1 : Int64).toBitVec <<< (((nI r).toInt64 &&& 63).toBitVec.smod 64).toNat).getLsbD j = _
  rw [rg_sl r hr, BitVec.getLsbD_shiftLeft, rg_one]
  rcases Nat.lt_or_ge j 64 with h | h
  · rcases Nat.lt_trichotomy j r with h2 | h2 | h2
    · rw [decide_eq_false (show ¬ j = r by omega)]
      simp [h2]
    · subst h2
      simp [h]
    · rw [decide_eq_false (show ¬ j = r by omega), decide_eq_false (show ¬ j - r = 0 by omega)]
      simp
  · rw [decide_eq_false (show ¬ j = r by omega)]
    simp [Nat.not_lt.mpr h]
theorem rg_bit_low (b : BitVec 64) (c : Bool) (h : b.getLsbD 0 = c) : b &&& 1#64 = bif c then 1#64 else 0#64 := by
  apply BitVec.eq_of_getLsbD_eq
  intro i hi
  rw [BitVec.getLsbD_and, BitVec.getLsbD_one]
  cases i with
  | zero => rw [h]; cases c <;> rfl
  | succ i => cases c <;> simp
theorem rg_bif64 (c : Bool) : (bif c then 1#64 else 0#64) = (bif c then (1 : Int64) else 0).toBitVec := by cases c <;> rfl
-- bit r, by the shift that keeps the sign
theorem rg_bit_s (x : Int64) {r : Nat} (hr : r < 64) : ((x >>> ((nI r).toInt64 &&& 63)) &&& 1) = bif rg_has x r then 1 else 0 := by
  apply Int64.toBitVec_inj.mp
  rw [Int64.toBitVec_and, Int64.toBitVec_shiftRight]
  show (x.toBitVec.sshiftRight (((nI r).toInt64 &&& 63).toBitVec.smod 64).toNat) &&& 1#64 = _
  rw [rg_sl r hr, rg_bit_low _ (rg_has x r) (by rw [BitVec.getLsbD_sshiftRight]; simp [hr, rg_has]), rg_bif64]
-- bit r, by the shift that fills with zeros
theorem rg_bit_u (x : Int64) {r : Nat} (hr : r < 64) : ((x.toUInt64 >>> ((nI r).toInt64.toUInt64 &&& Int64.toUInt64 63)).toInt64 &&& 1) = bif rg_has x r then 1 else 0 := by
  apply Int64.toBitVec_inj.mp
  rw [Int64.toBitVec_and]
  show (x.toUInt64 >>> ((nI r).toInt64.toUInt64 &&& Int64.toUInt64 63)).toBitVec &&& 1#64 = _
  rw [UInt64.toBitVec_shiftRight]
  show (x.toUInt64.toBitVec >>> (((nI r).toInt64.toUInt64 &&& Int64.toUInt64 63).toBitVec % 64).toNat) &&& 1#64 = _
  rw [rg_su r hr, rg_bit_low _ (rg_has x r) (by rw [BitVec.getLsbD_ushiftRight]; rfl), rg_bif64]
theorem rg_cmp0 (x y : Int64) : lg_cmp x y = 0 ↔ x = y := by
  unfold lg_cmp
  constructor
  · intro h
    split at h
    · exact absurd h (by decide)
    · split at h
      · assumption
      · exact absurd h (by decide)
  · rintro rfl
    simp [Int64.lt_irrefl]
theorem rg_ext {x y : Int64} (h : ∀ j, j < 64 → rg_has x j = rg_has y j) : x = y := Int64.toBitVec_inj.mp (BitVec.eq_of_getLsbD_eq (fun i hi => h i hi))
-- j is an ancestor of r: it is in every set that holds r and, of each of its members, the parents
def rg_An (P1 P2 : Nat → Int32) (r j : Nat) : Prop := ∀ S : Nat → Prop, S r → (∀ q p, S q → p < q → (P1 q = nI p ∨ P2 q = nI p) → S p) → S j
theorem rg_An_rf (P1 P2 : Nat → Int32) (r : Nat) : rg_An P1 P2 r r := fun _ h _ => h
theorem rg_An_up {P1 P2 : Nat → Int32} {r p j : Nat} (h : rg_An P1 P2 p j) (hp : p < r) (hq : P1 r = nI p ∨ P2 r = nI p) : rg_An P1 P2 r j := fun S hr hc => h S (hc r p hr hp hq) hc
theorem rg_An_le {P1 P2 : Nat → Int32} {r j : Nat} (h : rg_An P1 P2 r j) : j ≤ r := h (fun q => q ≤ r) (Nat.le_refl r) (fun q p hq hp _ => by omega)
theorem rg_An_eq {P1 P2 : Nat → Int32} {r j : Nat} : rg_An P1 P2 r j ↔ j = r ∨ ∃ p, p < r ∧ (P1 r = nI p ∨ P2 r = nI p) ∧ rg_An P1 P2 p j := by
  constructor
  · intro h
    refine h (fun q => q = r ∨ ∃ p, p < r ∧ (P1 r = nI p ∨ P2 r = nI p) ∧ rg_An P1 P2 p q) (Or.inl rfl) (fun q p hq hp hx => ?_)
    rcases hq with rfl | ⟨p2, h1, h2, h3⟩
    · exact Or.inr ⟨p, hp, hx, rg_An_rf P1 P2 p⟩
    · exact Or.inr ⟨p2, h1, h2, fun S a b => b q p (h3 S a b) hp hx⟩
  · rintro (rfl | ⟨p, h1, h2, h3⟩)
    · exact rg_An_rf P1 P2 j
    · exact rg_An_up h3 h1 h2
theorem rg_An_tr {P1 P2 : Nat → Int32} {r q j : Nat} (h : rg_An P1 P2 r q) (h2 : rg_An P1 P2 q j) : rg_An P1 P2 r j := fun S a b => h2 S (h S a b) b
-- only the parents of numbers up to r matter
theorem rg_An_same {P1 P2 Q1 Q2 : Nat → Int32} {r j : Nat} (e : ∀ q, q ≤ r → P1 q = Q1 q ∧ P2 q = Q2 q) (h : rg_An P1 P2 r j) : rg_An Q1 Q2 r j := by
  have := h (fun q => q ≤ r ∧ rg_An Q1 Q2 r q) ⟨Nat.le_refl r, rg_An_rf Q1 Q2 r⟩ (fun q p hq hp hx => by
    obtain ⟨h1, h2⟩ := hq
    obtain ⟨e1, e2⟩ := e q h1
    rw [e1, e2] at hx
    exact ⟨by omega, fun S a b => b q p (h2 S a b) hp hx⟩)
  exact this.2
end
section
/-! What the grove is, as a value; what each call makes of it. -/
-- number of revisions, their records, first and second parents (-1: none), the branches' revisions, their undone ones, the present branch, the latest conflicts
abbrev rg_A : Type := Nat × (Nat → rg_R) × (Nat → Int32) × (Nat → Int32) × (Nat → Nat) × (Nat → List Nat) × Nat × Int32
abbrev ra_n (a : rg_A) : Nat := a.1
abbrev ra_R (a : rg_A) : Nat → rg_R := a.2.1
abbrev ra_P (a : rg_A) : Nat → Int32 := a.2.2.1
abbrev ra_Q (a : rg_A) : Nat → Int32 := a.2.2.2.1
abbrev ra_T (a : rg_A) : Nat → Nat := a.2.2.2.2.1
abbrev ra_U (a : rg_A) : Nat → List Nat := a.2.2.2.2.2.1
abbrev ra_B (a : rg_A) : Nat := a.2.2.2.2.2.2.1
abbrev ra_c (a : rg_A) : Int32 := a.2.2.2.2.2.2.2
-- the present revision
abbrev ra_t (a : rg_A) : Nat := ra_T a (ra_B a)
-- each value falls, and stays ahead of t
def rg_fall (l : List Nat) (t : Nat) : Prop := (l ++ [t]).Pairwise (fun x y => y < x)
def rg_Ok (a : rg_A) : Prop :=
  1 ≤ ra_n a ∧ ra_n a ≤ 60 ∧ ra_P a 0 = -1 ∧ ra_Q a 0 = -1 ∧ (∀ r, 0 < r → r < ra_n a → ∃ p, p < r ∧ ra_P a r = nI p) ∧ (∀ r, r < ra_n a → ra_Q a r = -1 ∨ ∃ p, p < r ∧ ra_Q a r = nI p) ∧
  (∀ b, b < 4 → ra_T a b < ra_n a ∧ (∀ u ∈ ra_U a b, u < ra_n a) ∧ rg_fall (ra_U a b) (ra_T a b)) ∧ ra_B a < 4 ∧ ∀ r, r < ra_n a → ∀ f, f < 2 → ((ra_R a r).2.2.2 f).length ≤ 8
def rg_come (a : rg_A) (r : Nat) : rg_A := (ra_n a, ra_R a, ra_P a, ra_Q a, va_up (ra_T a) (ra_B a) r, va_up (ra_U a) (ra_B a) [], ra_B a, ra_c a)
def rg_new (a : rg_A) (X : rg_R) (q : Int32) : rg_A :=
  (ra_n a + 1, va_up (ra_R a) (ra_n a) X, upd (ra_P a) (ra_n a) (nI (ra_t a)), upd (ra_Q a) (ra_n a) q, va_up (ra_T a) (ra_B a) (ra_n a), va_up (ra_U a) (ra_B a) [], ra_B a, ra_c a)
-- a changed record: code, answer, the grove behind it
def rg_chg (full : Int32) (a : rg_A) (X : rg_R) : Int32 × Int32 × rg_A :=
  if rg_dif X (ra_R a (ra_t a)) = 0 then (0, nI (ra_t a), a) else if ra_n a = 60 then (full, 0, a) else (0, nI (ra_n a), rg_new a X (-1))
theorem rg_fall_len {l : List Nat} {t : Nat} (h : rg_fall l t) : ∀ n, (∀ u ∈ l, u < n) → l.length + t < n + (if l = [] then t + 1 else 0) := by
  intro n hn
  induction l generalizing n with
  | nil => simp; omega
  | cons x l ih =>
    have hx : x < n := hn x List.mem_cons_self
    unfold rg_fall at h
    rw [List.cons_append, List.pairwise_cons] at h
    have h2 := ih h.2 x (fun u hu => h.1 u (List.mem_append_left _ hu))
    have h3 : t < x := h.1 t (List.mem_append_right _ List.mem_cons_self)
    have : l.length + 1 + t < n + 0 := by
      split at h2
      · rename_i e; subst e; simp; omega
      · omega
    simpa using this
theorem rg_fall_lt {l : List Nat} {t n : Nat} (h : rg_fall l t) (hn : ∀ u ∈ l, u < n) (ht : t < n) : l.length + t < n := by
  have h2 := rg_fall_len h n hn
  by_cases e : l = []
  · subst e; simpa using ht
  · rw [if_neg e] at h2; exact h2
theorem rg_fall_nil (t : Nat) : rg_fall [] t := by simp [rg_fall]
theorem rg_fall_push {l : List Nat} {t p : Nat} (h : rg_fall l t) (hp : p < t) : rg_fall (l ++ [t]) p := by
  unfold rg_fall at h ⊢
  rw [List.pairwise_append]
  refine ⟨h, by simp, fun x hx y hy => ?_⟩
  have hy : y = p := by simpa using hy
  subst hy
  rcases List.mem_append.mp hx with h1 | h1
  · have := (List.pairwise_append.mp h).2.2 x h1 t (by simp)
    omega
  · have : x = t := by simpa using h1
    omega
end
section
/-! The calls' spec; the reference's state as a picture of the grove. -/
def rg_setN (X : rg_R) (k : Nat) (v : Int32) : rg_R := (upd X.1 k v, X.2)
def rg_setK (X : rg_R) (k : Nat) (v : Int64) : rg_R := (X.1, vp_updL X.2.1 k v, X.2.2)
def rg_setE (X : rg_R) (k : Nat) (v : Int32) : rg_R := (X.1, X.2.1, upd X.2.2.1 k v, X.2.2.2)
def rg_setL (X : rg_R) (k : Nat) (l : List Int32) : rg_R := (X.1, X.2.1, X.2.2.1, va_up X.2.2.2 k l)
theorem rg_MR_setN {nu : Nat → Int32} {co : Nat → Int64} {se le li : Nat → Int32} {r k : Nat} {X : rg_R} {v : Int32} (h : rg_MR nu co se le li r X) : rg_MR (upd nu (2 * r + k) v) co se le li r (rg_setN X k v) := by
  intro f hf
  obtain ⟨h1, h2⟩ := h f hf
  refine ⟨?_, h2⟩
  show upd nu (2 * r + k) v (2 * r + f) = upd X.1 k v f
  by_cases e : f = k
  · subst e; rw [pk_us, pk_us]
  · rw [pk_un (by omega), pk_un e]; exact h1
theorem rg_MR_setK {nu : Nat → Int32} {co : Nat → Int64} {se le li : Nat → Int32} {r k : Nat} {X : rg_R} {v : Int64} (h : rg_MR nu co se le li r X) : rg_MR nu (vp_updL co (2 * r + k) v) se le li r (rg_setK X k v) := by
  intro f hf
  obtain ⟨h1, h2, h3⟩ := h f hf
  refine ⟨h1, ?_, h3⟩
  show vp_updL co (2 * r + k) v (2 * r + f) = vp_updL X.2.1 k v f
  by_cases e : f = k
  · subst e; rw [pk_uLs, pk_uLs]
  · rw [pk_uLn (by omega), pk_uLn e]; exact h2
theorem rg_MR_setE {nu : Nat → Int32} {co : Nat → Int64} {se le li : Nat → Int32} {r k : Nat} {X : rg_R} {v : Int32} (h : rg_MR nu co se le li r X) : rg_MR nu co (upd se (2 * r + k) v) le li r (rg_setE X k v) := by
  intro f hf
  obtain ⟨h1, h2, h3, h4⟩ := h f hf
  refine ⟨h1, h2, ?_, h4⟩
  show upd se (2 * r + k) v (2 * r + f) = upd X.2.2.1 k v f
  by_cases e : f = k
  · subst e; rw [pk_us, pk_us]
  · rw [pk_un (by omega), pk_un e]; exact h3
theorem rg_MR_setL {nu : Nat → Int32} {co : Nat → Int64} {se le li le' li' : Nat → Int32} {r k : Nat} {X : rg_R} {l : List Int32} (h : rg_MR nu co se le li r X) (hk : k < 2) (hl : l.length ≤ 8) (e1 : le' (2 * r + k) = nI l.length) (e2 : ∀ j, j ≠ 2 * r + k → le' j = le j) (e3 : ∀ i, i < l.length → li' (16 * r + 8 * k + i) = l.getD i 0) (e4 : ∀ j, j < 16 * r + 8 * k ∨ 16 * r + 8 * k + 8 ≤ j → li' j = li j) : rg_MR nu co se le' li' r (rg_setL X k l) := by
  intro f hf
  obtain ⟨h1, h2, h3, h4, h5, h6⟩ := h f hf
  refine ⟨h1, h2, h3, ?_⟩
  show (va_up X.2.2.2 k l f).length ≤ 8 ∧ le' (2 * r + f) = nI (va_up X.2.2.2 k l f).length ∧ ∀ i, i < (va_up X.2.2.2 k l f).length → li' (16 * r + 8 * f + i) = (va_up X.2.2.2 k l f).getD i 0
  by_cases e : f = k
  · subst e
    have : va_up X.2.2.2 f l f = l := by simp [va_up]
    rw [this]
    exact ⟨hl, e1, e3⟩
  · have : va_up X.2.2.2 k l f = X.2.2.2 f := by simp [va_up, e]
    rw [this]
    refine ⟨h4, by rw [e2 _ (by omega)]; exact h5, fun i hi => ?_⟩
    rw [e4 _ (by omega)]
    exact h6 i hi
-- the reference's variables hold the grove g
def rm_Rep (cnt bra cof : Int32) (nu : Nat → Int32) (co : Nat → Int64) (se li le fi sc ti un ma : Nat → Int32) (g : rg_A) : Prop :=
  rg_Ok g ∧ cnt = nI (ra_n g) ∧ bra = nI (ra_B g) ∧ cof = ra_c g ∧ (∀ r, r < ra_n g → rg_MR nu co se le li r (ra_R g r)) ∧ (∀ r, r < ra_n g → fi r = ra_P g r ∧ sc r = ra_Q g r) ∧
  (∀ b, b < 4 → ti b = nI (ra_T g b) ∧ ma b = nI (ra_U g b).length ∧ ∀ k, k < (ra_U g b).length → un (60 * b + k) = nI ((ra_U g b).getD k 0))
-- what lies in slot n and behind does not matter
theorem rm_Rep_junk {cnt bra cof : Int32} {nu nu' : Nat → Int32} {co co' : Nat → Int64} {se li le fi sc se' li' le' fi' sc' ti un ma : Nat → Int32} {g : rg_A} (h : rm_Rep cnt bra cof nu co se li le fi sc ti un ma g)
    (e1 : ∀ j, j < 2 * ra_n g → nu' j = nu j) (e2 : ∀ j, j < 2 * ra_n g → co' j = co j) (e3 : ∀ j, j < 2 * ra_n g → se' j = se j) (e4 : ∀ j, j < 2 * ra_n g → le' j = le j) (e5 : ∀ j, j < 16 * ra_n g → li' j = li j) (e6 : ∀ j, j < ra_n g → fi' j = fi j) (e7 : ∀ j, j < ra_n g → sc' j = sc j) : rm_Rep cnt bra cof nu' co' se' li' le' fi' sc' ti un ma g := by
  obtain ⟨h1, h2, h3, h4, h5, h6, h7⟩ := h
  refine ⟨h1, h2, h3, h4, fun r hr f hf => ?_, fun r hr => ?_, h7⟩
  · obtain ⟨a1, a2, a3, a4, a5, a6⟩ := h5 r hr f hf
    refine ⟨by rw [e1 _ (by omega)]; exact a1, by rw [e2 _ (by omega)]; exact a2, by rw [e3 _ (by omega)]; exact a3, a4, by rw [e4 _ (by omega)]; exact a5, fun k hk => ?_⟩
    rw [e5 _ (by omega)]
    exact a6 k hk
  · rw [e6 r hr, e7 r hr]
    exact h6 r hr
-- a new revision out of slot n
theorem rm_Rep_new {cof : Int32} {nu : Nat → Int32} {co : Nat → Int64} {se li le fi sc ti un ma : Nat → Int32} {g : rg_A} {X : rg_R} {q : Int32} (h : rm_Rep (nI (ra_n g)) (nI (ra_B g)) cof nu co se li le fi sc ti un ma g) (hX : rg_MR nu co se le li (ra_n g) X) (hn : ra_n g < 60) (hq : q = -1 ∨ ∃ p, p < ra_n g ∧ q = nI p) :
    rm_Rep (nI (ra_n g + 1)) (nI (ra_B g)) cof nu co se li le (upd fi (ra_n g) (nI (ra_t g))) (upd sc (ra_n g) q) (upd ti (ra_B g) (nI (ra_n g))) un (upd ma (ra_B g) (nI 0)) (rg_new g X q) := by
  obtain ⟨⟨o1, o2, o3, o4, o5, o6, o7, o8, o9⟩, -, -, h4, h5, h6, h7⟩ := h
  obtain ⟨t1, t2, t3⟩ := o7 _ o8
  refine ⟨⟨?_, ?_, ?_, ?_, ?_, ?_, ?_, o8, ?_⟩, rfl, rfl, h4, ?_, ?_, ?_⟩
  · show 1 ≤ ra_n g + 1; omega
  · show ra_n g + 1 ≤ 60; omega
  · show upd (ra_P g) (ra_n g) _ 0 = -1
    rw [pk_un (by omega)]; exact o3
  · show upd (ra_Q g) (ra_n g) _ 0 = -1
    rw [pk_un (by omega)]; exact o4
  · intro r hr hr2
    have hr2 : r < ra_n g + 1 := hr2
    show ∃ p, p < r ∧ upd (ra_P g) (ra_n g) (nI (ra_t g)) r = nI p
    by_cases e : r = ra_n g
    · subst e; exact ⟨ra_t g, t1, by rw [pk_us]⟩
    · rw [pk_un e]; exact o5 r hr (by omega)
  · intro r hr2
    have hr2 : r < ra_n g + 1 := hr2
    show upd (ra_Q g) (ra_n g) q r = -1 ∨ ∃ p, p < r ∧ upd (ra_Q g) (ra_n g) q r = nI p
    by_cases e : r = ra_n g
    · subst e; rw [pk_us]; exact hq
    · rw [pk_un e]; exact o6 r (by omega)
  · intro b hb
    show va_up (ra_T g) (ra_B g) (ra_n g) b < ra_n g + 1 ∧ (∀ u ∈ va_up (ra_U g) (ra_B g) [] b, u < ra_n g + 1) ∧ rg_fall (va_up (ra_U g) (ra_B g) [] b) (va_up (ra_T g) (ra_B g) (ra_n g) b)
    by_cases e : b = ra_B g
    · subst e; simp [va_up, rg_fall]
    · obtain ⟨a1, a2, a3⟩ := o7 b hb
      simp only [va_up, e, if_false]
      exact ⟨by omega, fun u hu => Nat.lt_succ_of_lt (a2 u hu), a3⟩
  · intro r hr f hf
    have hr : r < ra_n g + 1 := hr
    show ((va_up (ra_R g) (ra_n g) X r).2.2.2 f).length ≤ 8
    by_cases e : r = ra_n g
    · subst e; simp only [va_up, if_true]; exact (hX f hf).2.2.2.1
    · simp only [va_up, e, if_false]; exact o9 r (by omega) f hf
  · intro r hr
    have hr : r < ra_n g + 1 := hr
    show rg_MR nu co se le li r (va_up (ra_R g) (ra_n g) X r)
    by_cases e : r = ra_n g
    · subst e; simp only [va_up, if_true]; exact hX
    · simp only [va_up, e, if_false]; exact h5 r (by omega)
  · intro r hr
    have hr : r < ra_n g + 1 := hr
    show upd fi (ra_n g) (nI (ra_t g)) r = upd (ra_P g) (ra_n g) (nI (ra_t g)) r ∧ upd sc (ra_n g) q r = upd (ra_Q g) (ra_n g) q r
    by_cases e : r = ra_n g
    · subst e; rw [pk_us, pk_us, pk_us, pk_us]; exact ⟨rfl, rfl⟩
    · rw [pk_un e, pk_un e, pk_un e, pk_un e]; exact h6 r (by omega)
  · intro b hb
    show upd ti (ra_B g) (nI (ra_n g)) b = nI (va_up (ra_T g) (ra_B g) (ra_n g) b) ∧ upd ma (ra_B g) (nI 0) b = nI (va_up (ra_U g) (ra_B g) [] b).length ∧ ∀ k, k < (va_up (ra_U g) (ra_B g) [] b).length → un (60 * b + k) = nI ((va_up (ra_U g) (ra_B g) [] b).getD k 0)
    by_cases e : b = ra_B g
    · subst e; simp [va_up, pk_us]
    · rw [pk_un e, pk_un e]; simp only [va_up, e, if_false]; exact h7 b hb
end
section
/-! The reference: names, fields, decode rows. -/
abbrev yM_init : MethodName := ⟨"RevisionGroveModel", "<init>", "()V"⟩
abbrev yM_thrown : MethodName := ⟨"RevisionGroveModel", "thrown", "()I"⟩
abbrev yM_here : MethodName := ⟨"RevisionGroveModel", "here", "()I"⟩
abbrev yM_copy : MethodName := ⟨"RevisionGroveModel", "copy", "(II)V"⟩
abbrev yM_come : MethodName := ⟨"RevisionGroveModel", "come", "(I)V"⟩
abbrev yM_sameList : MethodName := ⟨"RevisionGroveModel", "sameList", "(III)Z"⟩
abbrev yM_difference : MethodName := ⟨"RevisionGroveModel", "difference", "(II)I"⟩
abbrev yM_finish : MethodName := ⟨"RevisionGroveModel", "finish", "(II)I"⟩
abbrev yM_change : MethodName := ⟨"RevisionGroveModel", "change", "()I"⟩
abbrev yM_put : MethodName := ⟨"RevisionGroveModel", "put", "(II)I"⟩
abbrev yM_add : MethodName := ⟨"RevisionGroveModel", "add", "(II)I"⟩
abbrev yM_mark : MethodName := ⟨"RevisionGroveModel", "mark", "(IIZ)I"⟩
abbrev yM_insert : MethodName := ⟨"RevisionGroveModel", "insert", "(III)I"⟩
abbrev yM_remove : MethodName := ⟨"RevisionGroveModel", "remove", "(II)I"⟩
abbrev yM_isBranch : MethodName := ⟨"RevisionGroveModel", "isBranch", "(I)Z"⟩
abbrev yM_isRevision : MethodName := ⟨"RevisionGroveModel", "isRevision", "(I)Z"⟩
abbrev yM_point : MethodName := ⟨"RevisionGroveModel", "point", "(I)V"⟩
abbrev yM_turn : MethodName := ⟨"RevisionGroveModel", "turn", "(I)I"⟩
abbrev yM_go : MethodName := ⟨"RevisionGroveModel", "go", "(I)V"⟩
abbrev yM_undo : MethodName := ⟨"RevisionGroveModel", "undo", "()I"⟩
abbrev yM_redo : MethodName := ⟨"RevisionGroveModel", "redo", "()I"⟩
abbrev yM_ancestors : MethodName := ⟨"RevisionGroveModel", "ancestors", "(J)J"⟩
abbrev yM_baseOf : MethodName := ⟨"RevisionGroveModel", "baseOf", "(II)I"⟩
abbrev yM_choice : MethodName := ⟨"RevisionGroveModel", "choice", "(ZZZ)I"⟩
abbrev yM_mergeNumber : MethodName := ⟨"RevisionGroveModel", "mergeNumber", "(IIIII)V"⟩
abbrev yM_at : MethodName := ⟨"RevisionGroveModel", "at", "(III)I"⟩
abbrev yM_measure : MethodName := ⟨"RevisionGroveModel", "measure", "(IIII)V"⟩
abbrev yM_take : MethodName := ⟨"RevisionGroveModel", "take", "(IIII)V"⟩
abbrev yM_join : MethodName := ⟨"RevisionGroveModel", "join", "(IIII)Z"⟩
abbrev yM_mergeList : MethodName := ⟨"RevisionGroveModel", "mergeList", "(IIIII)V"⟩
abbrev yM_merge : MethodName := ⟨"RevisionGroveModel", "merge", "(II)I"⟩
abbrev yM_conflicts : MethodName := ⟨"RevisionGroveModel", "conflicts", "()I"⟩
abbrev yM_base : MethodName := ⟨"RevisionGroveModel", "base", "(I)I"⟩
abbrev yM_value : MethodName := ⟨"RevisionGroveModel", "value", "(III)J"⟩
abbrev yM_differ : MethodName := ⟨"RevisionGroveModel", "differ", "(II)I"⟩
abbrev yM_parent : MethodName := ⟨"RevisionGroveModel", "parent", "(IZ)I"⟩
abbrev yM_rank : MethodName := ⟨"RevisionGroveModel", "rank", "(JI)I"⟩
abbrev yM_prune : MethodName := ⟨"RevisionGroveModel", "prune", "()I"⟩
abbrev yM_figure : MethodName := ⟨"RevisionGroveModel", "figure", "(I)I"⟩
def TM : u_T := fun k => match k with
  | 0 => ("RevisionGroveModel", "code", "I", false)
  | 1 => ("RevisionGroveModel", "count", "I", false)
  | 2 => ("RevisionGroveModel", "numbers", "[I", true)
  | 3 => ("RevisionGroveModel", "counters", "[J", true)
  | 4 => ("RevisionGroveModel", "sets", "[I", true)
  | 5 => ("RevisionGroveModel", "lists", "[I", true)
  | 6 => ("RevisionGroveModel", "lengths", "[I", true)
  | 7 => ("RevisionGroveModel", "first", "[I", true)
  | 8 => ("RevisionGroveModel", "second", "[I", true)
  | 9 => ("RevisionGroveModel", "branch", "I", false)
  | 10 => ("RevisionGroveModel", "tips", "[I", true)
  | 11 => ("RevisionGroveModel", "undone", "[I", true)
  | 12 => ("RevisionGroveModel", "many", "[I", true)
  | 13 => ("RevisionGroveModel", "conflicts", "I", false)
  | 14 => ("RevisionGroveModel", "made", "I", false)
  | 15 => ("RevisionGroveModel", "draft", "[I", true)
  | 16 => ("RevisionGroveModel", "from", "[I", true)
  | 17 => ("RevisionGroveModel", "to", "[I", true)
  | _ => ("RevisionGroveModel", "end", "[I", true)
def tyM : Nat → FieldType := fun k => match k with
  | 0 => .int
  | 1 => .int
  | 2 => .array .int
  | 3 => .array .long
  | 4 => .array .int
  | 5 => .array .int
  | 6 => .array .int
  | 7 => .array .int
  | 8 => .array .int
  | 9 => .int
  | 10 => .array .int
  | 11 => .array .int
  | 12 => .array .int
  | 13 => .int
  | 14 => .int
  | 15 => .array .int
  | 16 => .array .int
  | 17 => .array .int
  | _ => .array .int
theorem nmM : ∀ a, a < 19 → ∀ b, b < 19 → a ≠ b → (TM a).2.1 ≠ (TM b).2.1 := by decide +kernel
theorem tyM_ok : ∀ k, k < 19 → parseFieldDescriptor (TM k).2.2.1 = some (tyM k) := by decide +kernel
theorem inM : ∀ w ∈ u_ws "RevisionGroveModel" TM 19, w ∈ rg_tbl := by
  intro w hw
  simp only [u_ws, List.mem_map, List.mem_range] at hw
  obtain ⟨k, hk, rfl⟩ := hw
  rcases (show k = 0 ∨ k = 1 ∨ k = 2 ∨ k = 3 ∨ k = 4 ∨ k = 5 ∨ k = 6 ∨ k = 7 ∨ k = 8 ∨ k = 9 ∨ k = 10 ∨ k = 11 ∨ k = 12 ∨ k = 13 ∨ k = 14 ∨ k = 15 ∨ k = 16 ∨ k = 17 ∨ k = 18 by omega) with rfl | rfl | rfl | rfl | rfl | rfl | rfl | rfl | rfl | rfl | rfl | rfl | rfl | rfl | rfl | rfl | rfl | rfl | rfl
  · exact tw_620
  · exact tw_622
  · exact tw_624
  · exact tw_626
  · exact tw_628
  · exact tw_630
  · exact tw_632
  · exact tw_634
  · exact tw_636
  · exact tw_638
  · exact tw_640
  · exact tw_642
  · exact tw_644
  · exact tw_646
  · exact tw_648
  · exact tw_650
  · exact tw_652
  · exact tw_654
  · exact tw_656
theorem dM_init_0 : decode prog_8_method_1_code 0 = .ok (.aload_n 0, 1) := by decide +kernel
theorem dM_init_1 : decode prog_8_method_1_code 1 = .ok (.invokespecial 1, 3) := by decide +kernel
theorem dM_init_4 : decode prog_8_method_1_code 4 = .ok (.aload_n 0, 1) := by decide +kernel
theorem dM_init_5 : decode prog_8_method_1_code 5 = .ok (.iconst 1, 1) := by decide +kernel
theorem dM_init_6 : decode prog_8_method_1_code 6 = .ok (.putfield 7, 3) := by decide +kernel
theorem dM_init_9 : decode prog_8_method_1_code 9 = .ok (.aload_n 0, 1) := by decide +kernel
theorem dM_init_10 : decode prog_8_method_1_code 10 = .ok (.bipush 122, 2) := by decide +kernel
theorem dM_init_12 : decode prog_8_method_1_code 12 = .ok (.newarray .int, 2) := by decide +kernel
theorem dM_init_14 : decode prog_8_method_1_code 14 = .ok (.putfield 13, 3) := by decide +kernel
theorem dM_init_17 : decode prog_8_method_1_code 17 = .ok (.aload_n 0, 1) := by decide +kernel
theorem dM_init_18 : decode prog_8_method_1_code 18 = .ok (.bipush 122, 2) := by decide +kernel
theorem dM_init_20 : decode prog_8_method_1_code 20 = .ok (.newarray .long, 2) := by decide +kernel
theorem dM_init_22 : decode prog_8_method_1_code 22 = .ok (.putfield 17, 3) := by decide +kernel
theorem dM_init_25 : decode prog_8_method_1_code 25 = .ok (.aload_n 0, 1) := by decide +kernel
theorem dM_init_26 : decode prog_8_method_1_code 26 = .ok (.bipush 122, 2) := by decide +kernel
theorem dM_init_28 : decode prog_8_method_1_code 28 = .ok (.newarray .int, 2) := by decide +kernel
theorem dM_init_30 : decode prog_8_method_1_code 30 = .ok (.putfield 21, 3) := by decide +kernel
theorem dM_init_33 : decode prog_8_method_1_code 33 = .ok (.aload_n 0, 1) := by decide +kernel
theorem dM_init_34 : decode prog_8_method_1_code 34 = .ok (.sipush 976, 3) := by decide +kernel
theorem dM_init_37 : decode prog_8_method_1_code 37 = .ok (.newarray .int, 2) := by decide +kernel
theorem dM_init_39 : decode prog_8_method_1_code 39 = .ok (.putfield 24, 3) := by decide +kernel
theorem dM_init_42 : decode prog_8_method_1_code 42 = .ok (.aload_n 0, 1) := by decide +kernel
theorem dM_init_43 : decode prog_8_method_1_code 43 = .ok (.bipush 122, 2) := by decide +kernel
theorem dM_init_45 : decode prog_8_method_1_code 45 = .ok (.newarray .int, 2) := by decide +kernel
theorem dM_init_47 : decode prog_8_method_1_code 47 = .ok (.putfield 27, 3) := by decide +kernel
theorem dM_init_50 : decode prog_8_method_1_code 50 = .ok (.aload_n 0, 1) := by decide +kernel
theorem dM_init_51 : decode prog_8_method_1_code 51 = .ok (.bipush 61, 2) := by decide +kernel
theorem dM_init_53 : decode prog_8_method_1_code 53 = .ok (.newarray .int, 2) := by decide +kernel
theorem dM_init_55 : decode prog_8_method_1_code 55 = .ok (.putfield 30, 3) := by decide +kernel
theorem dM_init_58 : decode prog_8_method_1_code 58 = .ok (.aload_n 0, 1) := by decide +kernel
theorem dM_init_59 : decode prog_8_method_1_code 59 = .ok (.bipush 61, 2) := by decide +kernel
theorem dM_init_61 : decode prog_8_method_1_code 61 = .ok (.newarray .int, 2) := by decide +kernel
theorem dM_init_63 : decode prog_8_method_1_code 63 = .ok (.putfield 33, 3) := by decide +kernel
theorem dM_init_66 : decode prog_8_method_1_code 66 = .ok (.aload_n 0, 1) := by decide +kernel
theorem dM_init_67 : decode prog_8_method_1_code 67 = .ok (.iconst 4, 1) := by decide +kernel
theorem dM_init_68 : decode prog_8_method_1_code 68 = .ok (.newarray .int, 2) := by decide +kernel
theorem dM_init_70 : decode prog_8_method_1_code 70 = .ok (.putfield 36, 3) := by decide +kernel
theorem dM_init_73 : decode prog_8_method_1_code 73 = .ok (.aload_n 0, 1) := by decide +kernel
theorem dM_init_74 : decode prog_8_method_1_code 74 = .ok (.sipush 240, 3) := by decide +kernel
theorem dM_init_77 : decode prog_8_method_1_code 77 = .ok (.newarray .int, 2) := by decide +kernel
theorem dM_init_79 : decode prog_8_method_1_code 79 = .ok (.putfield 39, 3) := by decide +kernel
theorem dM_init_82 : decode prog_8_method_1_code 82 = .ok (.aload_n 0, 1) := by decide +kernel
theorem dM_init_83 : decode prog_8_method_1_code 83 = .ok (.iconst 4, 1) := by decide +kernel
theorem dM_init_84 : decode prog_8_method_1_code 84 = .ok (.newarray .int, 2) := by decide +kernel
theorem dM_init_86 : decode prog_8_method_1_code 86 = .ok (.putfield 42, 3) := by decide +kernel
theorem dM_init_89 : decode prog_8_method_1_code 89 = .ok (.aload_n 0, 1) := by decide +kernel
theorem dM_init_90 : decode prog_8_method_1_code 90 = .ok (.bipush 24, 2) := by decide +kernel
theorem dM_init_92 : decode prog_8_method_1_code 92 = .ok (.newarray .int, 2) := by decide +kernel
theorem dM_init_94 : decode prog_8_method_1_code 94 = .ok (.putfield 45, 3) := by decide +kernel
theorem dM_init_97 : decode prog_8_method_1_code 97 = .ok (.aload_n 0, 1) := by decide +kernel
theorem dM_init_98 : decode prog_8_method_1_code 98 = .ok (.iconst 2, 1) := by decide +kernel
theorem dM_init_99 : decode prog_8_method_1_code 99 = .ok (.newarray .int, 2) := by decide +kernel
theorem dM_init_101 : decode prog_8_method_1_code 101 = .ok (.putfield 48, 3) := by decide +kernel
theorem dM_init_104 : decode prog_8_method_1_code 104 = .ok (.aload_n 0, 1) := by decide +kernel
theorem dM_init_105 : decode prog_8_method_1_code 105 = .ok (.iconst 2, 1) := by decide +kernel
theorem dM_init_106 : decode prog_8_method_1_code 106 = .ok (.newarray .int, 2) := by decide +kernel
theorem dM_init_108 : decode prog_8_method_1_code 108 = .ok (.putfield 51, 3) := by decide +kernel
theorem dM_init_111 : decode prog_8_method_1_code 111 = .ok (.aload_n 0, 1) := by decide +kernel
theorem dM_init_112 : decode prog_8_method_1_code 112 = .ok (.iconst 2, 1) := by decide +kernel
theorem dM_init_113 : decode prog_8_method_1_code 113 = .ok (.newarray .int, 2) := by decide +kernel
theorem dM_init_115 : decode prog_8_method_1_code 115 = .ok (.putfield 54, 3) := by decide +kernel
theorem dM_init_118 : decode prog_8_method_1_code 118 = .ok (.aload_n 0, 1) := by decide +kernel
theorem dM_init_119 : decode prog_8_method_1_code 119 = .ok (.getfield 30, 3) := by decide +kernel
theorem dM_init_122 : decode prog_8_method_1_code 122 = .ok (.iconst 0, 1) := by decide +kernel
theorem dM_init_123 : decode prog_8_method_1_code 123 = .ok (.iconst (-1), 1) := by decide +kernel
theorem dM_init_124 : decode prog_8_method_1_code 124 = .ok (.iastore, 1) := by decide +kernel
theorem dM_init_125 : decode prog_8_method_1_code 125 = .ok (.aload_n 0, 1) := by decide +kernel
theorem dM_init_126 : decode prog_8_method_1_code 126 = .ok (.getfield 33, 3) := by decide +kernel
theorem dM_init_129 : decode prog_8_method_1_code 129 = .ok (.iconst 0, 1) := by decide +kernel
theorem dM_init_130 : decode prog_8_method_1_code 130 = .ok (.iconst (-1), 1) := by decide +kernel
theorem dM_init_131 : decode prog_8_method_1_code 131 = .ok (.iastore, 1) := by decide +kernel
theorem dM_init_132 : decode prog_8_method_1_code 132 = .ok (.return_, 1) := by decide +kernel
theorem dM_thrown_0 : decode prog_8_method_2_code 0 = .ok (.aload_n 0, 1) := by decide +kernel
theorem dM_thrown_1 : decode prog_8_method_2_code 1 = .ok (.getfield 57, 3) := by decide +kernel
theorem dM_thrown_4 : decode prog_8_method_2_code 4 = .ok (.ireturn, 1) := by decide +kernel
theorem dM_here_0 : decode prog_8_method_3_code 0 = .ok (.aload_n 0, 1) := by decide +kernel
theorem dM_here_1 : decode prog_8_method_3_code 1 = .ok (.getfield 36, 3) := by decide +kernel
theorem dM_here_4 : decode prog_8_method_3_code 4 = .ok (.aload_n 0, 1) := by decide +kernel
theorem dM_here_5 : decode prog_8_method_3_code 5 = .ok (.getfield 60, 3) := by decide +kernel
theorem dM_here_8 : decode prog_8_method_3_code 8 = .ok (.iaload, 1) := by decide +kernel
theorem dM_here_9 : decode prog_8_method_3_code 9 = .ok (.ireturn, 1) := by decide +kernel
theorem dM_copy_0 : decode prog_8_method_4_code 0 = .ok (.iconst 0, 1) := by decide +kernel
theorem dM_copy_1 : decode prog_8_method_4_code 1 = .ok (.istore_n 3, 1) := by decide +kernel
theorem dM_copy_2 : decode prog_8_method_4_code 2 = .ok (.iload_n 3, 1) := by decide +kernel
theorem dM_copy_3 : decode prog_8_method_4_code 3 = .ok (.iconst 2, 1) := by decide +kernel
theorem dM_copy_4 : decode prog_8_method_4_code 4 = .ok (.if_icmp .ge 89, 3) := by decide +kernel
theorem dM_copy_7 : decode prog_8_method_4_code 7 = .ok (.aload_n 0, 1) := by decide +kernel
theorem dM_copy_8 : decode prog_8_method_4_code 8 = .ok (.getfield 13, 3) := by decide +kernel
theorem dM_copy_11 : decode prog_8_method_4_code 11 = .ok (.iconst 2, 1) := by decide +kernel
theorem dM_copy_12 : decode prog_8_method_4_code 12 = .ok (.iload_n 2, 1) := by decide +kernel
theorem dM_copy_13 : decode prog_8_method_4_code 13 = .ok (.imul, 1) := by decide +kernel
theorem dM_copy_14 : decode prog_8_method_4_code 14 = .ok (.iload_n 3, 1) := by decide +kernel
theorem dM_copy_15 : decode prog_8_method_4_code 15 = .ok (.iadd, 1) := by decide +kernel
theorem dM_copy_16 : decode prog_8_method_4_code 16 = .ok (.aload_n 0, 1) := by decide +kernel
theorem dM_copy_17 : decode prog_8_method_4_code 17 = .ok (.getfield 13, 3) := by decide +kernel
theorem dM_copy_20 : decode prog_8_method_4_code 20 = .ok (.iconst 2, 1) := by decide +kernel
theorem dM_copy_21 : decode prog_8_method_4_code 21 = .ok (.iload_n 1, 1) := by decide +kernel
theorem dM_copy_22 : decode prog_8_method_4_code 22 = .ok (.imul, 1) := by decide +kernel
theorem dM_copy_23 : decode prog_8_method_4_code 23 = .ok (.iload_n 3, 1) := by decide +kernel
theorem dM_copy_24 : decode prog_8_method_4_code 24 = .ok (.iadd, 1) := by decide +kernel
theorem dM_copy_25 : decode prog_8_method_4_code 25 = .ok (.iaload, 1) := by decide +kernel
theorem dM_copy_26 : decode prog_8_method_4_code 26 = .ok (.iastore, 1) := by decide +kernel
theorem dM_copy_27 : decode prog_8_method_4_code 27 = .ok (.aload_n 0, 1) := by decide +kernel
theorem dM_copy_28 : decode prog_8_method_4_code 28 = .ok (.getfield 17, 3) := by decide +kernel
theorem dM_copy_31 : decode prog_8_method_4_code 31 = .ok (.iconst 2, 1) := by decide +kernel
theorem dM_copy_32 : decode prog_8_method_4_code 32 = .ok (.iload_n 2, 1) := by decide +kernel
theorem dM_copy_33 : decode prog_8_method_4_code 33 = .ok (.imul, 1) := by decide +kernel
theorem dM_copy_34 : decode prog_8_method_4_code 34 = .ok (.iload_n 3, 1) := by decide +kernel
theorem dM_copy_35 : decode prog_8_method_4_code 35 = .ok (.iadd, 1) := by decide +kernel
theorem dM_copy_36 : decode prog_8_method_4_code 36 = .ok (.aload_n 0, 1) := by decide +kernel
theorem dM_copy_37 : decode prog_8_method_4_code 37 = .ok (.getfield 17, 3) := by decide +kernel
theorem dM_copy_40 : decode prog_8_method_4_code 40 = .ok (.iconst 2, 1) := by decide +kernel
theorem dM_copy_41 : decode prog_8_method_4_code 41 = .ok (.iload_n 1, 1) := by decide +kernel
theorem dM_copy_42 : decode prog_8_method_4_code 42 = .ok (.imul, 1) := by decide +kernel
theorem dM_copy_43 : decode prog_8_method_4_code 43 = .ok (.iload_n 3, 1) := by decide +kernel
theorem dM_copy_44 : decode prog_8_method_4_code 44 = .ok (.iadd, 1) := by decide +kernel
theorem dM_copy_45 : decode prog_8_method_4_code 45 = .ok (.laload, 1) := by decide +kernel
theorem dM_copy_46 : decode prog_8_method_4_code 46 = .ok (.lastore, 1) := by decide +kernel
theorem dM_copy_47 : decode prog_8_method_4_code 47 = .ok (.aload_n 0, 1) := by decide +kernel
theorem dM_copy_48 : decode prog_8_method_4_code 48 = .ok (.getfield 21, 3) := by decide +kernel
theorem dM_copy_51 : decode prog_8_method_4_code 51 = .ok (.iconst 2, 1) := by decide +kernel
theorem dM_copy_52 : decode prog_8_method_4_code 52 = .ok (.iload_n 2, 1) := by decide +kernel
theorem dM_copy_53 : decode prog_8_method_4_code 53 = .ok (.imul, 1) := by decide +kernel
theorem dM_copy_54 : decode prog_8_method_4_code 54 = .ok (.iload_n 3, 1) := by decide +kernel
theorem dM_copy_55 : decode prog_8_method_4_code 55 = .ok (.iadd, 1) := by decide +kernel
theorem dM_copy_56 : decode prog_8_method_4_code 56 = .ok (.aload_n 0, 1) := by decide +kernel
theorem dM_copy_57 : decode prog_8_method_4_code 57 = .ok (.getfield 21, 3) := by decide +kernel
theorem dM_copy_60 : decode prog_8_method_4_code 60 = .ok (.iconst 2, 1) := by decide +kernel
theorem dM_copy_61 : decode prog_8_method_4_code 61 = .ok (.iload_n 1, 1) := by decide +kernel
theorem dM_copy_62 : decode prog_8_method_4_code 62 = .ok (.imul, 1) := by decide +kernel
theorem dM_copy_63 : decode prog_8_method_4_code 63 = .ok (.iload_n 3, 1) := by decide +kernel
theorem dM_copy_64 : decode prog_8_method_4_code 64 = .ok (.iadd, 1) := by decide +kernel
theorem dM_copy_65 : decode prog_8_method_4_code 65 = .ok (.iaload, 1) := by decide +kernel
theorem dM_copy_66 : decode prog_8_method_4_code 66 = .ok (.iastore, 1) := by decide +kernel
theorem dM_copy_67 : decode prog_8_method_4_code 67 = .ok (.aload_n 0, 1) := by decide +kernel
theorem dM_copy_68 : decode prog_8_method_4_code 68 = .ok (.getfield 27, 3) := by decide +kernel
theorem dM_copy_71 : decode prog_8_method_4_code 71 = .ok (.iconst 2, 1) := by decide +kernel
theorem dM_copy_72 : decode prog_8_method_4_code 72 = .ok (.iload_n 2, 1) := by decide +kernel
theorem dM_copy_73 : decode prog_8_method_4_code 73 = .ok (.imul, 1) := by decide +kernel
theorem dM_copy_74 : decode prog_8_method_4_code 74 = .ok (.iload_n 3, 1) := by decide +kernel
theorem dM_copy_75 : decode prog_8_method_4_code 75 = .ok (.iadd, 1) := by decide +kernel
theorem dM_copy_76 : decode prog_8_method_4_code 76 = .ok (.aload_n 0, 1) := by decide +kernel
theorem dM_copy_77 : decode prog_8_method_4_code 77 = .ok (.getfield 27, 3) := by decide +kernel
theorem dM_copy_80 : decode prog_8_method_4_code 80 = .ok (.iconst 2, 1) := by decide +kernel
theorem dM_copy_81 : decode prog_8_method_4_code 81 = .ok (.iload_n 1, 1) := by decide +kernel
theorem dM_copy_82 : decode prog_8_method_4_code 82 = .ok (.imul, 1) := by decide +kernel
theorem dM_copy_83 : decode prog_8_method_4_code 83 = .ok (.iload_n 3, 1) := by decide +kernel
theorem dM_copy_84 : decode prog_8_method_4_code 84 = .ok (.iadd, 1) := by decide +kernel
theorem dM_copy_85 : decode prog_8_method_4_code 85 = .ok (.iaload, 1) := by decide +kernel
theorem dM_copy_86 : decode prog_8_method_4_code 86 = .ok (.iastore, 1) := by decide +kernel
theorem dM_copy_87 : decode prog_8_method_4_code 87 = .ok (.iinc 3 1, 3) := by decide +kernel
theorem dM_copy_90 : decode prog_8_method_4_code 90 = .ok (.goto (-88), 3) := by decide +kernel
theorem dM_copy_93 : decode prog_8_method_4_code 93 = .ok (.iconst 0, 1) := by decide +kernel
theorem dM_copy_94 : decode prog_8_method_4_code 94 = .ok (.istore_n 3, 1) := by decide +kernel
theorem dM_copy_95 : decode prog_8_method_4_code 95 = .ok (.iload_n 3, 1) := by decide +kernel
theorem dM_copy_96 : decode prog_8_method_4_code 96 = .ok (.bipush 16, 2) := by decide +kernel
theorem dM_copy_98 : decode prog_8_method_4_code 98 = .ok (.if_icmp .ge 31, 3) := by decide +kernel
theorem dM_copy_101 : decode prog_8_method_4_code 101 = .ok (.aload_n 0, 1) := by decide +kernel
theorem dM_copy_102 : decode prog_8_method_4_code 102 = .ok (.getfield 24, 3) := by decide +kernel
theorem dM_copy_105 : decode prog_8_method_4_code 105 = .ok (.bipush 16, 2) := by decide +kernel
theorem dM_copy_107 : decode prog_8_method_4_code 107 = .ok (.iload_n 2, 1) := by decide +kernel
theorem dM_copy_108 : decode prog_8_method_4_code 108 = .ok (.imul, 1) := by decide +kernel
theorem dM_copy_109 : decode prog_8_method_4_code 109 = .ok (.iload_n 3, 1) := by decide +kernel
theorem dM_copy_110 : decode prog_8_method_4_code 110 = .ok (.iadd, 1) := by decide +kernel
theorem dM_copy_111 : decode prog_8_method_4_code 111 = .ok (.aload_n 0, 1) := by decide +kernel
theorem dM_copy_112 : decode prog_8_method_4_code 112 = .ok (.getfield 24, 3) := by decide +kernel
theorem dM_copy_115 : decode prog_8_method_4_code 115 = .ok (.bipush 16, 2) := by decide +kernel
theorem dM_copy_117 : decode prog_8_method_4_code 117 = .ok (.iload_n 1, 1) := by decide +kernel
theorem dM_copy_118 : decode prog_8_method_4_code 118 = .ok (.imul, 1) := by decide +kernel
theorem dM_copy_119 : decode prog_8_method_4_code 119 = .ok (.iload_n 3, 1) := by decide +kernel
theorem dM_copy_120 : decode prog_8_method_4_code 120 = .ok (.iadd, 1) := by decide +kernel
theorem dM_copy_121 : decode prog_8_method_4_code 121 = .ok (.iaload, 1) := by decide +kernel
theorem dM_copy_122 : decode prog_8_method_4_code 122 = .ok (.iastore, 1) := by decide +kernel
theorem dM_copy_123 : decode prog_8_method_4_code 123 = .ok (.iinc 3 1, 3) := by decide +kernel
theorem dM_copy_126 : decode prog_8_method_4_code 126 = .ok (.goto (-31), 3) := by decide +kernel
theorem dM_copy_129 : decode prog_8_method_4_code 129 = .ok (.aload_n 0, 1) := by decide +kernel
theorem dM_copy_130 : decode prog_8_method_4_code 130 = .ok (.getfield 30, 3) := by decide +kernel
theorem dM_copy_133 : decode prog_8_method_4_code 133 = .ok (.iload_n 2, 1) := by decide +kernel
theorem dM_copy_134 : decode prog_8_method_4_code 134 = .ok (.aload_n 0, 1) := by decide +kernel
theorem dM_copy_135 : decode prog_8_method_4_code 135 = .ok (.getfield 30, 3) := by decide +kernel
theorem dM_copy_138 : decode prog_8_method_4_code 138 = .ok (.iload_n 1, 1) := by decide +kernel
theorem dM_copy_139 : decode prog_8_method_4_code 139 = .ok (.iaload, 1) := by decide +kernel
theorem dM_copy_140 : decode prog_8_method_4_code 140 = .ok (.iastore, 1) := by decide +kernel
theorem dM_copy_141 : decode prog_8_method_4_code 141 = .ok (.aload_n 0, 1) := by decide +kernel
theorem dM_copy_142 : decode prog_8_method_4_code 142 = .ok (.getfield 33, 3) := by decide +kernel
theorem dM_copy_145 : decode prog_8_method_4_code 145 = .ok (.iload_n 2, 1) := by decide +kernel
theorem dM_copy_146 : decode prog_8_method_4_code 146 = .ok (.aload_n 0, 1) := by decide +kernel
theorem dM_copy_147 : decode prog_8_method_4_code 147 = .ok (.getfield 33, 3) := by decide +kernel
theorem dM_copy_150 : decode prog_8_method_4_code 150 = .ok (.iload_n 1, 1) := by decide +kernel
theorem dM_copy_151 : decode prog_8_method_4_code 151 = .ok (.iaload, 1) := by decide +kernel
theorem dM_copy_152 : decode prog_8_method_4_code 152 = .ok (.iastore, 1) := by decide +kernel
theorem dM_copy_153 : decode prog_8_method_4_code 153 = .ok (.return_, 1) := by decide +kernel
theorem dM_come_0 : decode prog_8_method_5_code 0 = .ok (.aload_n 0, 1) := by decide +kernel
theorem dM_come_1 : decode prog_8_method_5_code 1 = .ok (.getfield 36, 3) := by decide +kernel
theorem dM_come_4 : decode prog_8_method_5_code 4 = .ok (.aload_n 0, 1) := by decide +kernel
theorem dM_come_5 : decode prog_8_method_5_code 5 = .ok (.getfield 60, 3) := by decide +kernel
theorem dM_come_8 : decode prog_8_method_5_code 8 = .ok (.iload_n 1, 1) := by decide +kernel
theorem dM_come_9 : decode prog_8_method_5_code 9 = .ok (.iastore, 1) := by decide +kernel
theorem dM_come_10 : decode prog_8_method_5_code 10 = .ok (.aload_n 0, 1) := by decide +kernel
theorem dM_come_11 : decode prog_8_method_5_code 11 = .ok (.getfield 42, 3) := by decide +kernel
theorem dM_come_14 : decode prog_8_method_5_code 14 = .ok (.aload_n 0, 1) := by decide +kernel
theorem dM_come_15 : decode prog_8_method_5_code 15 = .ok (.getfield 60, 3) := by decide +kernel
theorem dM_come_18 : decode prog_8_method_5_code 18 = .ok (.iconst 0, 1) := by decide +kernel
theorem dM_come_19 : decode prog_8_method_5_code 19 = .ok (.iastore, 1) := by decide +kernel
theorem dM_come_20 : decode prog_8_method_5_code 20 = .ok (.return_, 1) := by decide +kernel
theorem dM_sameList_0 : decode prog_8_method_6_code 0 = .ok (.aload_n 0, 1) := by decide +kernel
theorem dM_sameList_1 : decode prog_8_method_6_code 1 = .ok (.getfield 27, 3) := by decide +kernel
theorem dM_sameList_4 : decode prog_8_method_6_code 4 = .ok (.iconst 2, 1) := by decide +kernel
theorem dM_sameList_5 : decode prog_8_method_6_code 5 = .ok (.iload_n 1, 1) := by decide +kernel
theorem dM_sameList_6 : decode prog_8_method_6_code 6 = .ok (.imul, 1) := by decide +kernel
theorem dM_sameList_7 : decode prog_8_method_6_code 7 = .ok (.iload_n 3, 1) := by decide +kernel
theorem dM_sameList_8 : decode prog_8_method_6_code 8 = .ok (.iadd, 1) := by decide +kernel
theorem dM_sameList_9 : decode prog_8_method_6_code 9 = .ok (.iaload, 1) := by decide +kernel
theorem dM_sameList_10 : decode prog_8_method_6_code 10 = .ok (.aload_n 0, 1) := by decide +kernel
theorem dM_sameList_11 : decode prog_8_method_6_code 11 = .ok (.getfield 27, 3) := by decide +kernel
theorem dM_sameList_14 : decode prog_8_method_6_code 14 = .ok (.iconst 2, 1) := by decide +kernel
theorem dM_sameList_15 : decode prog_8_method_6_code 15 = .ok (.iload_n 2, 1) := by decide +kernel
theorem dM_sameList_16 : decode prog_8_method_6_code 16 = .ok (.imul, 1) := by decide +kernel
theorem dM_sameList_17 : decode prog_8_method_6_code 17 = .ok (.iload_n 3, 1) := by decide +kernel
theorem dM_sameList_18 : decode prog_8_method_6_code 18 = .ok (.iadd, 1) := by decide +kernel
theorem dM_sameList_19 : decode prog_8_method_6_code 19 = .ok (.iaload, 1) := by decide +kernel
theorem dM_sameList_20 : decode prog_8_method_6_code 20 = .ok (.if_icmp .ne 7, 3) := by decide +kernel
theorem dM_sameList_23 : decode prog_8_method_6_code 23 = .ok (.iconst 1, 1) := by decide +kernel
theorem dM_sameList_24 : decode prog_8_method_6_code 24 = .ok (.goto 4, 3) := by decide +kernel
theorem dM_sameList_27 : decode prog_8_method_6_code 27 = .ok (.iconst 0, 1) := by decide +kernel
theorem dM_sameList_28 : decode prog_8_method_6_code 28 = .ok (.istore 4, 2) := by decide +kernel
theorem dM_sameList_30 : decode prog_8_method_6_code 30 = .ok (.iconst 0, 1) := by decide +kernel
theorem dM_sameList_31 : decode prog_8_method_6_code 31 = .ok (.istore 5, 2) := by decide +kernel
theorem dM_sameList_33 : decode prog_8_method_6_code 33 = .ok (.iload 5, 2) := by decide +kernel
theorem dM_sameList_35 : decode prog_8_method_6_code 35 = .ok (.aload_n 0, 1) := by decide +kernel
theorem dM_sameList_36 : decode prog_8_method_6_code 36 = .ok (.getfield 27, 3) := by decide +kernel
theorem dM_sameList_39 : decode prog_8_method_6_code 39 = .ok (.iconst 2, 1) := by decide +kernel
theorem dM_sameList_40 : decode prog_8_method_6_code 40 = .ok (.iload_n 1, 1) := by decide +kernel
theorem dM_sameList_41 : decode prog_8_method_6_code 41 = .ok (.imul, 1) := by decide +kernel
theorem dM_sameList_42 : decode prog_8_method_6_code 42 = .ok (.iload_n 3, 1) := by decide +kernel
theorem dM_sameList_43 : decode prog_8_method_6_code 43 = .ok (.iadd, 1) := by decide +kernel
theorem dM_sameList_44 : decode prog_8_method_6_code 44 = .ok (.iaload, 1) := by decide +kernel
theorem dM_sameList_45 : decode prog_8_method_6_code 45 = .ok (.if_icmp .ge 58, 3) := by decide +kernel
theorem dM_sameList_48 : decode prog_8_method_6_code 48 = .ok (.iload 4, 2) := by decide +kernel
theorem dM_sameList_50 : decode prog_8_method_6_code 50 = .ok (.ifCond .eq 53, 3) := by decide +kernel
theorem dM_sameList_53 : decode prog_8_method_6_code 53 = .ok (.aload_n 0, 1) := by decide +kernel
theorem dM_sameList_54 : decode prog_8_method_6_code 54 = .ok (.getfield 24, 3) := by decide +kernel
theorem dM_sameList_57 : decode prog_8_method_6_code 57 = .ok (.bipush 16, 2) := by decide +kernel
theorem dM_sameList_59 : decode prog_8_method_6_code 59 = .ok (.iload_n 1, 1) := by decide +kernel
theorem dM_sameList_60 : decode prog_8_method_6_code 60 = .ok (.imul, 1) := by decide +kernel
theorem dM_sameList_61 : decode prog_8_method_6_code 61 = .ok (.bipush 8, 2) := by decide +kernel
theorem dM_sameList_63 : decode prog_8_method_6_code 63 = .ok (.iload_n 3, 1) := by decide +kernel
theorem dM_sameList_64 : decode prog_8_method_6_code 64 = .ok (.imul, 1) := by decide +kernel
theorem dM_sameList_65 : decode prog_8_method_6_code 65 = .ok (.iadd, 1) := by decide +kernel
theorem dM_sameList_66 : decode prog_8_method_6_code 66 = .ok (.iload 5, 2) := by decide +kernel
theorem dM_sameList_68 : decode prog_8_method_6_code 68 = .ok (.iadd, 1) := by decide +kernel
theorem dM_sameList_69 : decode prog_8_method_6_code 69 = .ok (.iaload, 1) := by decide +kernel
theorem dM_sameList_70 : decode prog_8_method_6_code 70 = .ok (.aload_n 0, 1) := by decide +kernel
theorem dM_sameList_71 : decode prog_8_method_6_code 71 = .ok (.getfield 24, 3) := by decide +kernel
theorem dM_sameList_74 : decode prog_8_method_6_code 74 = .ok (.bipush 16, 2) := by decide +kernel
theorem dM_sameList_76 : decode prog_8_method_6_code 76 = .ok (.iload_n 2, 1) := by decide +kernel
theorem dM_sameList_77 : decode prog_8_method_6_code 77 = .ok (.imul, 1) := by decide +kernel
theorem dM_sameList_78 : decode prog_8_method_6_code 78 = .ok (.bipush 8, 2) := by decide +kernel
theorem dM_sameList_80 : decode prog_8_method_6_code 80 = .ok (.iload_n 3, 1) := by decide +kernel
theorem dM_sameList_81 : decode prog_8_method_6_code 81 = .ok (.imul, 1) := by decide +kernel
theorem dM_sameList_82 : decode prog_8_method_6_code 82 = .ok (.iadd, 1) := by decide +kernel
theorem dM_sameList_83 : decode prog_8_method_6_code 83 = .ok (.iload 5, 2) := by decide +kernel
theorem dM_sameList_85 : decode prog_8_method_6_code 85 = .ok (.iadd, 1) := by decide +kernel
theorem dM_sameList_86 : decode prog_8_method_6_code 86 = .ok (.iaload, 1) := by decide +kernel
theorem dM_sameList_87 : decode prog_8_method_6_code 87 = .ok (.if_icmp .ne 7, 3) := by decide +kernel
theorem dM_sameList_90 : decode prog_8_method_6_code 90 = .ok (.iconst 1, 1) := by decide +kernel
theorem dM_sameList_91 : decode prog_8_method_6_code 91 = .ok (.goto 4, 3) := by decide +kernel
theorem dM_sameList_94 : decode prog_8_method_6_code 94 = .ok (.iconst 0, 1) := by decide +kernel
theorem dM_sameList_95 : decode prog_8_method_6_code 95 = .ok (.istore 4, 2) := by decide +kernel
theorem dM_sameList_97 : decode prog_8_method_6_code 97 = .ok (.iinc 5 1, 3) := by decide +kernel
theorem dM_sameList_100 : decode prog_8_method_6_code 100 = .ok (.goto (-67), 3) := by decide +kernel
theorem dM_sameList_103 : decode prog_8_method_6_code 103 = .ok (.iload 4, 2) := by decide +kernel
theorem dM_sameList_105 : decode prog_8_method_6_code 105 = .ok (.ireturn, 1) := by decide +kernel
theorem dM_difference_0 : decode prog_8_method_7_code 0 = .ok (.iconst 0, 1) := by decide +kernel
theorem dM_difference_1 : decode prog_8_method_7_code 1 = .ok (.istore_n 3, 1) := by decide +kernel
theorem dM_difference_2 : decode prog_8_method_7_code 2 = .ok (.iconst 0, 1) := by decide +kernel
theorem dM_difference_3 : decode prog_8_method_7_code 3 = .ok (.istore 4, 2) := by decide +kernel
theorem dM_difference_5 : decode prog_8_method_7_code 5 = .ok (.iload 4, 2) := by decide +kernel
theorem dM_difference_7 : decode prog_8_method_7_code 7 = .ok (.iconst 2, 1) := by decide +kernel
theorem dM_difference_8 : decode prog_8_method_7_code 8 = .ok (.if_icmp .ge 142, 3) := by decide +kernel
theorem dM_difference_11 : decode prog_8_method_7_code 11 = .ok (.iload_n 3, 1) := by decide +kernel
theorem dM_difference_12 : decode prog_8_method_7_code 12 = .ok (.aload_n 0, 1) := by decide +kernel
theorem dM_difference_13 : decode prog_8_method_7_code 13 = .ok (.getfield 13, 3) := by decide +kernel
theorem dM_difference_16 : decode prog_8_method_7_code 16 = .ok (.iconst 2, 1) := by decide +kernel
theorem dM_difference_17 : decode prog_8_method_7_code 17 = .ok (.iload_n 1, 1) := by decide +kernel
theorem dM_difference_18 : decode prog_8_method_7_code 18 = .ok (.imul, 1) := by decide +kernel
theorem dM_difference_19 : decode prog_8_method_7_code 19 = .ok (.iload 4, 2) := by decide +kernel
theorem dM_difference_21 : decode prog_8_method_7_code 21 = .ok (.iadd, 1) := by decide +kernel
theorem dM_difference_22 : decode prog_8_method_7_code 22 = .ok (.iaload, 1) := by decide +kernel
theorem dM_difference_23 : decode prog_8_method_7_code 23 = .ok (.aload_n 0, 1) := by decide +kernel
theorem dM_difference_24 : decode prog_8_method_7_code 24 = .ok (.getfield 13, 3) := by decide +kernel
theorem dM_difference_27 : decode prog_8_method_7_code 27 = .ok (.iconst 2, 1) := by decide +kernel
theorem dM_difference_28 : decode prog_8_method_7_code 28 = .ok (.iload_n 2, 1) := by decide +kernel
theorem dM_difference_29 : decode prog_8_method_7_code 29 = .ok (.imul, 1) := by decide +kernel
theorem dM_difference_30 : decode prog_8_method_7_code 30 = .ok (.iload 4, 2) := by decide +kernel
theorem dM_difference_32 : decode prog_8_method_7_code 32 = .ok (.iadd, 1) := by decide +kernel
theorem dM_difference_33 : decode prog_8_method_7_code 33 = .ok (.iaload, 1) := by decide +kernel
theorem dM_difference_34 : decode prog_8_method_7_code 34 = .ok (.if_icmp .eq 10, 3) := by decide +kernel
theorem dM_difference_37 : decode prog_8_method_7_code 37 = .ok (.iconst 1, 1) := by decide +kernel
theorem dM_difference_38 : decode prog_8_method_7_code 38 = .ok (.iload 4, 2) := by decide +kernel
theorem dM_difference_40 : decode prog_8_method_7_code 40 = .ok (.ishl, 1) := by decide +kernel
theorem dM_difference_41 : decode prog_8_method_7_code 41 = .ok (.goto 4, 3) := by decide +kernel
theorem dM_difference_44 : decode prog_8_method_7_code 44 = .ok (.iconst 0, 1) := by decide +kernel
theorem dM_difference_45 : decode prog_8_method_7_code 45 = .ok (.ior, 1) := by decide +kernel
theorem dM_difference_46 : decode prog_8_method_7_code 46 = .ok (.istore_n 3, 1) := by decide +kernel
theorem dM_difference_47 : decode prog_8_method_7_code 47 = .ok (.iload_n 3, 1) := by decide +kernel
theorem dM_difference_48 : decode prog_8_method_7_code 48 = .ok (.aload_n 0, 1) := by decide +kernel
theorem dM_difference_49 : decode prog_8_method_7_code 49 = .ok (.getfield 17, 3) := by decide +kernel
theorem dM_difference_52 : decode prog_8_method_7_code 52 = .ok (.iconst 2, 1) := by decide +kernel
theorem dM_difference_53 : decode prog_8_method_7_code 53 = .ok (.iload_n 1, 1) := by decide +kernel
theorem dM_difference_54 : decode prog_8_method_7_code 54 = .ok (.imul, 1) := by decide +kernel
theorem dM_difference_55 : decode prog_8_method_7_code 55 = .ok (.iload 4, 2) := by decide +kernel
theorem dM_difference_57 : decode prog_8_method_7_code 57 = .ok (.iadd, 1) := by decide +kernel
theorem dM_difference_58 : decode prog_8_method_7_code 58 = .ok (.laload, 1) := by decide +kernel
theorem dM_difference_59 : decode prog_8_method_7_code 59 = .ok (.aload_n 0, 1) := by decide +kernel
theorem dM_difference_60 : decode prog_8_method_7_code 60 = .ok (.getfield 17, 3) := by decide +kernel
theorem dM_difference_63 : decode prog_8_method_7_code 63 = .ok (.iconst 2, 1) := by decide +kernel
theorem dM_difference_64 : decode prog_8_method_7_code 64 = .ok (.iload_n 2, 1) := by decide +kernel
theorem dM_difference_65 : decode prog_8_method_7_code 65 = .ok (.imul, 1) := by decide +kernel
theorem dM_difference_66 : decode prog_8_method_7_code 66 = .ok (.iload 4, 2) := by decide +kernel
theorem dM_difference_68 : decode prog_8_method_7_code 68 = .ok (.iadd, 1) := by decide +kernel
theorem dM_difference_69 : decode prog_8_method_7_code 69 = .ok (.laload, 1) := by decide +kernel
theorem dM_difference_70 : decode prog_8_method_7_code 70 = .ok (.lcmp, 1) := by decide +kernel
theorem dM_difference_71 : decode prog_8_method_7_code 71 = .ok (.ifCond .eq 10, 3) := by decide +kernel
theorem dM_difference_74 : decode prog_8_method_7_code 74 = .ok (.iconst 4, 1) := by decide +kernel
theorem dM_difference_75 : decode prog_8_method_7_code 75 = .ok (.iload 4, 2) := by decide +kernel
theorem dM_difference_77 : decode prog_8_method_7_code 77 = .ok (.ishl, 1) := by decide +kernel
theorem dM_difference_78 : decode prog_8_method_7_code 78 = .ok (.goto 4, 3) := by decide +kernel
theorem dM_difference_81 : decode prog_8_method_7_code 81 = .ok (.iconst 0, 1) := by decide +kernel
theorem dM_difference_82 : decode prog_8_method_7_code 82 = .ok (.ior, 1) := by decide +kernel
theorem dM_difference_83 : decode prog_8_method_7_code 83 = .ok (.istore_n 3, 1) := by decide +kernel
theorem dM_difference_84 : decode prog_8_method_7_code 84 = .ok (.iload_n 3, 1) := by decide +kernel
theorem dM_difference_85 : decode prog_8_method_7_code 85 = .ok (.aload_n 0, 1) := by decide +kernel
theorem dM_difference_86 : decode prog_8_method_7_code 86 = .ok (.getfield 21, 3) := by decide +kernel
theorem dM_difference_89 : decode prog_8_method_7_code 89 = .ok (.iconst 2, 1) := by decide +kernel
theorem dM_difference_90 : decode prog_8_method_7_code 90 = .ok (.iload_n 1, 1) := by decide +kernel
theorem dM_difference_91 : decode prog_8_method_7_code 91 = .ok (.imul, 1) := by decide +kernel
theorem dM_difference_92 : decode prog_8_method_7_code 92 = .ok (.iload 4, 2) := by decide +kernel
theorem dM_difference_94 : decode prog_8_method_7_code 94 = .ok (.iadd, 1) := by decide +kernel
theorem dM_difference_95 : decode prog_8_method_7_code 95 = .ok (.iaload, 1) := by decide +kernel
theorem dM_difference_96 : decode prog_8_method_7_code 96 = .ok (.aload_n 0, 1) := by decide +kernel
theorem dM_difference_97 : decode prog_8_method_7_code 97 = .ok (.getfield 21, 3) := by decide +kernel
theorem dM_difference_100 : decode prog_8_method_7_code 100 = .ok (.iconst 2, 1) := by decide +kernel
theorem dM_difference_101 : decode prog_8_method_7_code 101 = .ok (.iload_n 2, 1) := by decide +kernel
theorem dM_difference_102 : decode prog_8_method_7_code 102 = .ok (.imul, 1) := by decide +kernel
theorem dM_difference_103 : decode prog_8_method_7_code 103 = .ok (.iload 4, 2) := by decide +kernel
theorem dM_difference_105 : decode prog_8_method_7_code 105 = .ok (.iadd, 1) := by decide +kernel
theorem dM_difference_106 : decode prog_8_method_7_code 106 = .ok (.iaload, 1) := by decide +kernel
theorem dM_difference_107 : decode prog_8_method_7_code 107 = .ok (.if_icmp .eq 11, 3) := by decide +kernel
theorem dM_difference_110 : decode prog_8_method_7_code 110 = .ok (.bipush 16, 2) := by decide +kernel
theorem dM_difference_112 : decode prog_8_method_7_code 112 = .ok (.iload 4, 2) := by decide +kernel
theorem dM_difference_114 : decode prog_8_method_7_code 114 = .ok (.ishl, 1) := by decide +kernel
theorem dM_difference_115 : decode prog_8_method_7_code 115 = .ok (.goto 4, 3) := by decide +kernel
theorem dM_difference_118 : decode prog_8_method_7_code 118 = .ok (.iconst 0, 1) := by decide +kernel
theorem dM_difference_119 : decode prog_8_method_7_code 119 = .ok (.ior, 1) := by decide +kernel
theorem dM_difference_120 : decode prog_8_method_7_code 120 = .ok (.istore_n 3, 1) := by decide +kernel
theorem dM_difference_121 : decode prog_8_method_7_code 121 = .ok (.iload_n 3, 1) := by decide +kernel
theorem dM_difference_122 : decode prog_8_method_7_code 122 = .ok (.aload_n 0, 1) := by decide +kernel
theorem dM_difference_123 : decode prog_8_method_7_code 123 = .ok (.iload_n 1, 1) := by decide +kernel
theorem dM_difference_124 : decode prog_8_method_7_code 124 = .ok (.iload_n 2, 1) := by decide +kernel
theorem dM_difference_125 : decode prog_8_method_7_code 125 = .ok (.iload 4, 2) := by decide +kernel
theorem dM_difference_127 : decode prog_8_method_7_code 127 = .ok (.invokevirtual 63, 3) := by decide +kernel
theorem dM_difference_130 : decode prog_8_method_7_code 130 = .ok (.ifCond .eq 7, 3) := by decide +kernel
theorem dM_difference_133 : decode prog_8_method_7_code 133 = .ok (.iconst 0, 1) := by decide +kernel
theorem dM_difference_134 : decode prog_8_method_7_code 134 = .ok (.goto 8, 3) := by decide +kernel
theorem dM_difference_137 : decode prog_8_method_7_code 137 = .ok (.bipush 64, 2) := by decide +kernel
theorem dM_difference_139 : decode prog_8_method_7_code 139 = .ok (.iload 4, 2) := by decide +kernel
theorem dM_difference_141 : decode prog_8_method_7_code 141 = .ok (.ishl, 1) := by decide +kernel
theorem dM_difference_142 : decode prog_8_method_7_code 142 = .ok (.ior, 1) := by decide +kernel
theorem dM_difference_143 : decode prog_8_method_7_code 143 = .ok (.istore_n 3, 1) := by decide +kernel
theorem dM_difference_144 : decode prog_8_method_7_code 144 = .ok (.iinc 4 1, 3) := by decide +kernel
theorem dM_difference_147 : decode prog_8_method_7_code 147 = .ok (.goto (-142), 3) := by decide +kernel
theorem dM_difference_150 : decode prog_8_method_7_code 150 = .ok (.iload_n 3, 1) := by decide +kernel
theorem dM_difference_151 : decode prog_8_method_7_code 151 = .ok (.ireturn, 1) := by decide +kernel
theorem dM_finish_0 : decode prog_8_method_8_code 0 = .ok (.aload_n 0, 1) := by decide +kernel
theorem dM_finish_1 : decode prog_8_method_8_code 1 = .ok (.getfield 30, 3) := by decide +kernel
theorem dM_finish_4 : decode prog_8_method_8_code 4 = .ok (.aload_n 0, 1) := by decide +kernel
theorem dM_finish_5 : decode prog_8_method_8_code 5 = .ok (.getfield 7, 3) := by decide +kernel
theorem dM_finish_8 : decode prog_8_method_8_code 8 = .ok (.iload_n 1, 1) := by decide +kernel
theorem dM_finish_9 : decode prog_8_method_8_code 9 = .ok (.iastore, 1) := by decide +kernel
theorem dM_finish_10 : decode prog_8_method_8_code 10 = .ok (.aload_n 0, 1) := by decide +kernel
theorem dM_finish_11 : decode prog_8_method_8_code 11 = .ok (.getfield 33, 3) := by decide +kernel
theorem dM_finish_14 : decode prog_8_method_8_code 14 = .ok (.aload_n 0, 1) := by decide +kernel
theorem dM_finish_15 : decode prog_8_method_8_code 15 = .ok (.getfield 7, 3) := by decide +kernel
theorem dM_finish_18 : decode prog_8_method_8_code 18 = .ok (.iload_n 2, 1) := by decide +kernel
theorem dM_finish_19 : decode prog_8_method_8_code 19 = .ok (.iastore, 1) := by decide +kernel
theorem dM_finish_20 : decode prog_8_method_8_code 20 = .ok (.aload_n 0, 1) := by decide +kernel
theorem dM_finish_21 : decode prog_8_method_8_code 21 = .ok (.dup, 1) := by decide +kernel
theorem dM_finish_22 : decode prog_8_method_8_code 22 = .ok (.getfield 7, 3) := by decide +kernel
theorem dM_finish_25 : decode prog_8_method_8_code 25 = .ok (.iconst 1, 1) := by decide +kernel
theorem dM_finish_26 : decode prog_8_method_8_code 26 = .ok (.iadd, 1) := by decide +kernel
theorem dM_finish_27 : decode prog_8_method_8_code 27 = .ok (.putfield 7, 3) := by decide +kernel
theorem dM_finish_30 : decode prog_8_method_8_code 30 = .ok (.aload_n 0, 1) := by decide +kernel
theorem dM_finish_31 : decode prog_8_method_8_code 31 = .ok (.aload_n 0, 1) := by decide +kernel
theorem dM_finish_32 : decode prog_8_method_8_code 32 = .ok (.getfield 7, 3) := by decide +kernel
theorem dM_finish_35 : decode prog_8_method_8_code 35 = .ok (.iconst 1, 1) := by decide +kernel
theorem dM_finish_36 : decode prog_8_method_8_code 36 = .ok (.isub, 1) := by decide +kernel
theorem dM_finish_37 : decode prog_8_method_8_code 37 = .ok (.invokevirtual 67, 3) := by decide +kernel
theorem dM_finish_40 : decode prog_8_method_8_code 40 = .ok (.aload_n 0, 1) := by decide +kernel
theorem dM_finish_41 : decode prog_8_method_8_code 41 = .ok (.getfield 7, 3) := by decide +kernel
theorem dM_finish_44 : decode prog_8_method_8_code 44 = .ok (.iconst 1, 1) := by decide +kernel
theorem dM_finish_45 : decode prog_8_method_8_code 45 = .ok (.isub, 1) := by decide +kernel
theorem dM_finish_46 : decode prog_8_method_8_code 46 = .ok (.ireturn, 1) := by decide +kernel
theorem dM_change_0 : decode prog_8_method_9_code 0 = .ok (.aload_n 0, 1) := by decide +kernel
theorem dM_change_1 : decode prog_8_method_9_code 1 = .ok (.aload_n 0, 1) := by decide +kernel
theorem dM_change_2 : decode prog_8_method_9_code 2 = .ok (.getfield 7, 3) := by decide +kernel
theorem dM_change_5 : decode prog_8_method_9_code 5 = .ok (.aload_n 0, 1) := by decide +kernel
theorem dM_change_6 : decode prog_8_method_9_code 6 = .ok (.invokevirtual 71, 3) := by decide +kernel
theorem dM_change_9 : decode prog_8_method_9_code 9 = .ok (.invokevirtual 75, 3) := by decide +kernel
theorem dM_change_12 : decode prog_8_method_9_code 12 = .ok (.ifCond .ne 8, 3) := by decide +kernel
theorem dM_change_15 : decode prog_8_method_9_code 15 = .ok (.aload_n 0, 1) := by decide +kernel
theorem dM_change_16 : decode prog_8_method_9_code 16 = .ok (.invokevirtual 71, 3) := by decide +kernel
theorem dM_change_19 : decode prog_8_method_9_code 19 = .ok (.ireturn, 1) := by decide +kernel
theorem dM_change_20 : decode prog_8_method_9_code 20 = .ok (.aload_n 0, 1) := by decide +kernel
theorem dM_change_21 : decode prog_8_method_9_code 21 = .ok (.aload_n 0, 1) := by decide +kernel
theorem dM_change_22 : decode prog_8_method_9_code 22 = .ok (.getfield 7, 3) := by decide +kernel
theorem dM_change_25 : decode prog_8_method_9_code 25 = .ok (.bipush 60, 2) := by decide +kernel
theorem dM_change_27 : decode prog_8_method_9_code 27 = .ok (.if_icmp .ne 7, 3) := by decide +kernel
theorem dM_change_30 : decode prog_8_method_9_code 30 = .ok (.iconst 2, 1) := by decide +kernel
theorem dM_change_31 : decode prog_8_method_9_code 31 = .ok (.goto 4, 3) := by decide +kernel
theorem dM_change_34 : decode prog_8_method_9_code 34 = .ok (.iconst 0, 1) := by decide +kernel
theorem dM_change_35 : decode prog_8_method_9_code 35 = .ok (.putfield 57, 3) := by decide +kernel
theorem dM_change_38 : decode prog_8_method_9_code 38 = .ok (.aload_n 0, 1) := by decide +kernel
theorem dM_change_39 : decode prog_8_method_9_code 39 = .ok (.getfield 57, 3) := by decide +kernel
theorem dM_change_42 : decode prog_8_method_9_code 42 = .ok (.ifCond .le 7, 3) := by decide +kernel
theorem dM_change_45 : decode prog_8_method_9_code 45 = .ok (.iconst 0, 1) := by decide +kernel
theorem dM_change_46 : decode prog_8_method_9_code 46 = .ok (.goto 12, 3) := by decide +kernel
theorem dM_change_49 : decode prog_8_method_9_code 49 = .ok (.aload_n 0, 1) := by decide +kernel
theorem dM_change_50 : decode prog_8_method_9_code 50 = .ok (.aload_n 0, 1) := by decide +kernel
theorem dM_change_51 : decode prog_8_method_9_code 51 = .ok (.invokevirtual 71, 3) := by decide +kernel
theorem dM_change_54 : decode prog_8_method_9_code 54 = .ok (.iconst (-1), 1) := by decide +kernel
theorem dM_change_55 : decode prog_8_method_9_code 55 = .ok (.invokevirtual 79, 3) := by decide +kernel
theorem dM_change_58 : decode prog_8_method_9_code 58 = .ok (.ireturn, 1) := by decide +kernel
theorem dM_put_0 : decode prog_8_method_10_code 0 = .ok (.aload_n 0, 1) := by decide +kernel
theorem dM_put_1 : decode prog_8_method_10_code 1 = .ok (.iload_n 1, 1) := by decide +kernel
theorem dM_put_2 : decode prog_8_method_10_code 2 = .ok (.ifCond .eq 8, 3) := by decide +kernel
theorem dM_put_5 : decode prog_8_method_10_code 5 = .ok (.iload_n 1, 1) := by decide +kernel
theorem dM_put_6 : decode prog_8_method_10_code 6 = .ok (.iconst 1, 1) := by decide +kernel
theorem dM_put_7 : decode prog_8_method_10_code 7 = .ok (.if_icmp .ne 7, 3) := by decide +kernel
theorem dM_put_10 : decode prog_8_method_10_code 10 = .ok (.iconst 0, 1) := by decide +kernel
theorem dM_put_11 : decode prog_8_method_10_code 11 = .ok (.goto 4, 3) := by decide +kernel
theorem dM_put_14 : decode prog_8_method_10_code 14 = .ok (.iconst 1, 1) := by decide +kernel
theorem dM_put_15 : decode prog_8_method_10_code 15 = .ok (.putfield 57, 3) := by decide +kernel
theorem dM_put_18 : decode prog_8_method_10_code 18 = .ok (.aload_n 0, 1) := by decide +kernel
theorem dM_put_19 : decode prog_8_method_10_code 19 = .ok (.getfield 57, 3) := by decide +kernel
theorem dM_put_22 : decode prog_8_method_10_code 22 = .ok (.ifCond .le 5, 3) := by decide +kernel
theorem dM_put_25 : decode prog_8_method_10_code 25 = .ok (.iconst 0, 1) := by decide +kernel
theorem dM_put_26 : decode prog_8_method_10_code 26 = .ok (.ireturn, 1) := by decide +kernel
theorem dM_put_27 : decode prog_8_method_10_code 27 = .ok (.aload_n 0, 1) := by decide +kernel
theorem dM_put_28 : decode prog_8_method_10_code 28 = .ok (.aload_n 0, 1) := by decide +kernel
theorem dM_put_29 : decode prog_8_method_10_code 29 = .ok (.invokevirtual 71, 3) := by decide +kernel
theorem dM_put_32 : decode prog_8_method_10_code 32 = .ok (.aload_n 0, 1) := by decide +kernel
theorem dM_put_33 : decode prog_8_method_10_code 33 = .ok (.getfield 7, 3) := by decide +kernel
theorem dM_put_36 : decode prog_8_method_10_code 36 = .ok (.invokevirtual 82, 3) := by decide +kernel
theorem dM_put_39 : decode prog_8_method_10_code 39 = .ok (.aload_n 0, 1) := by decide +kernel
theorem dM_put_40 : decode prog_8_method_10_code 40 = .ok (.getfield 13, 3) := by decide +kernel
theorem dM_put_43 : decode prog_8_method_10_code 43 = .ok (.iconst 2, 1) := by decide +kernel
theorem dM_put_44 : decode prog_8_method_10_code 44 = .ok (.aload_n 0, 1) := by decide +kernel
theorem dM_put_45 : decode prog_8_method_10_code 45 = .ok (.getfield 7, 3) := by decide +kernel
theorem dM_put_48 : decode prog_8_method_10_code 48 = .ok (.imul, 1) := by decide +kernel
theorem dM_put_49 : decode prog_8_method_10_code 49 = .ok (.iload_n 1, 1) := by decide +kernel
theorem dM_put_50 : decode prog_8_method_10_code 50 = .ok (.iadd, 1) := by decide +kernel
theorem dM_put_51 : decode prog_8_method_10_code 51 = .ok (.iload_n 2, 1) := by decide +kernel
theorem dM_put_52 : decode prog_8_method_10_code 52 = .ok (.iastore, 1) := by decide +kernel
theorem dM_put_53 : decode prog_8_method_10_code 53 = .ok (.aload_n 0, 1) := by decide +kernel
theorem dM_put_54 : decode prog_8_method_10_code 54 = .ok (.invokevirtual 86, 3) := by decide +kernel
theorem dM_put_57 : decode prog_8_method_10_code 57 = .ok (.ireturn, 1) := by decide +kernel
theorem dM_add_0 : decode prog_8_method_11_code 0 = .ok (.aload_n 0, 1) := by decide +kernel
theorem dM_add_1 : decode prog_8_method_11_code 1 = .ok (.iload_n 1, 1) := by decide +kernel
theorem dM_add_2 : decode prog_8_method_11_code 2 = .ok (.iconst 2, 1) := by decide +kernel
theorem dM_add_3 : decode prog_8_method_11_code 3 = .ok (.if_icmp .eq 8, 3) := by decide +kernel
theorem dM_add_6 : decode prog_8_method_11_code 6 = .ok (.iload_n 1, 1) := by decide +kernel
theorem dM_add_7 : decode prog_8_method_11_code 7 = .ok (.iconst 3, 1) := by decide +kernel
theorem dM_add_8 : decode prog_8_method_11_code 8 = .ok (.if_icmp .ne 7, 3) := by decide +kernel
theorem dM_add_11 : decode prog_8_method_11_code 11 = .ok (.iconst 0, 1) := by decide +kernel
theorem dM_add_12 : decode prog_8_method_11_code 12 = .ok (.goto 4, 3) := by decide +kernel
theorem dM_add_15 : decode prog_8_method_11_code 15 = .ok (.iconst 1, 1) := by decide +kernel
theorem dM_add_16 : decode prog_8_method_11_code 16 = .ok (.putfield 57, 3) := by decide +kernel
theorem dM_add_19 : decode prog_8_method_11_code 19 = .ok (.aload_n 0, 1) := by decide +kernel
theorem dM_add_20 : decode prog_8_method_11_code 20 = .ok (.getfield 57, 3) := by decide +kernel
theorem dM_add_23 : decode prog_8_method_11_code 23 = .ok (.ifCond .le 5, 3) := by decide +kernel
theorem dM_add_26 : decode prog_8_method_11_code 26 = .ok (.iconst 0, 1) := by decide +kernel
theorem dM_add_27 : decode prog_8_method_11_code 27 = .ok (.ireturn, 1) := by decide +kernel
theorem dM_add_28 : decode prog_8_method_11_code 28 = .ok (.aload_n 0, 1) := by decide +kernel
theorem dM_add_29 : decode prog_8_method_11_code 29 = .ok (.aload_n 0, 1) := by decide +kernel
theorem dM_add_30 : decode prog_8_method_11_code 30 = .ok (.invokevirtual 71, 3) := by decide +kernel
theorem dM_add_33 : decode prog_8_method_11_code 33 = .ok (.aload_n 0, 1) := by decide +kernel
theorem dM_add_34 : decode prog_8_method_11_code 34 = .ok (.getfield 7, 3) := by decide +kernel
theorem dM_add_37 : decode prog_8_method_11_code 37 = .ok (.invokevirtual 82, 3) := by decide +kernel
theorem dM_add_40 : decode prog_8_method_11_code 40 = .ok (.aload_n 0, 1) := by decide +kernel
theorem dM_add_41 : decode prog_8_method_11_code 41 = .ok (.getfield 17, 3) := by decide +kernel
theorem dM_add_44 : decode prog_8_method_11_code 44 = .ok (.iconst 2, 1) := by decide +kernel
theorem dM_add_45 : decode prog_8_method_11_code 45 = .ok (.aload_n 0, 1) := by decide +kernel
theorem dM_add_46 : decode prog_8_method_11_code 46 = .ok (.getfield 7, 3) := by decide +kernel
theorem dM_add_49 : decode prog_8_method_11_code 49 = .ok (.imul, 1) := by decide +kernel
theorem dM_add_50 : decode prog_8_method_11_code 50 = .ok (.iload_n 1, 1) := by decide +kernel
theorem dM_add_51 : decode prog_8_method_11_code 51 = .ok (.iadd, 1) := by decide +kernel
theorem dM_add_52 : decode prog_8_method_11_code 52 = .ok (.iconst 2, 1) := by decide +kernel
theorem dM_add_53 : decode prog_8_method_11_code 53 = .ok (.isub, 1) := by decide +kernel
theorem dM_add_54 : decode prog_8_method_11_code 54 = .ok (.dup2, 1) := by decide +kernel
theorem dM_add_55 : decode prog_8_method_11_code 55 = .ok (.laload, 1) := by decide +kernel
theorem dM_add_56 : decode prog_8_method_11_code 56 = .ok (.iload_n 2, 1) := by decide +kernel
theorem dM_add_57 : decode prog_8_method_11_code 57 = .ok (.i2l, 1) := by decide +kernel
theorem dM_add_58 : decode prog_8_method_11_code 58 = .ok (.ladd, 1) := by decide +kernel
theorem dM_add_59 : decode prog_8_method_11_code 59 = .ok (.lastore, 1) := by decide +kernel
theorem dM_add_60 : decode prog_8_method_11_code 60 = .ok (.aload_n 0, 1) := by decide +kernel
theorem dM_add_61 : decode prog_8_method_11_code 61 = .ok (.invokevirtual 86, 3) := by decide +kernel
theorem dM_add_64 : decode prog_8_method_11_code 64 = .ok (.ireturn, 1) := by decide +kernel
theorem dM_mark_0 : decode prog_8_method_12_code 0 = .ok (.aload_n 0, 1) := by decide +kernel
theorem dM_mark_1 : decode prog_8_method_12_code 1 = .ok (.iload_n 1, 1) := by decide +kernel
theorem dM_mark_2 : decode prog_8_method_12_code 2 = .ok (.iconst 4, 1) := by decide +kernel
theorem dM_mark_3 : decode prog_8_method_12_code 3 = .ok (.if_icmp .eq 8, 3) := by decide +kernel
theorem dM_mark_6 : decode prog_8_method_12_code 6 = .ok (.iload_n 1, 1) := by decide +kernel
theorem dM_mark_7 : decode prog_8_method_12_code 7 = .ok (.iconst 5, 1) := by decide +kernel
theorem dM_mark_8 : decode prog_8_method_12_code 8 = .ok (.if_icmp .ne 17, 3) := by decide +kernel
theorem dM_mark_11 : decode prog_8_method_12_code 11 = .ok (.iload_n 2, 1) := by decide +kernel
theorem dM_mark_12 : decode prog_8_method_12_code 12 = .ok (.ifCond .lt 13, 3) := by decide +kernel
theorem dM_mark_15 : decode prog_8_method_12_code 15 = .ok (.iload_n 2, 1) := by decide +kernel
theorem dM_mark_16 : decode prog_8_method_12_code 16 = .ok (.bipush 31, 2) := by decide +kernel
theorem dM_mark_18 : decode prog_8_method_12_code 18 = .ok (.if_icmp .gt 7, 3) := by decide +kernel
theorem dM_mark_21 : decode prog_8_method_12_code 21 = .ok (.iconst 0, 1) := by decide +kernel
theorem dM_mark_22 : decode prog_8_method_12_code 22 = .ok (.goto 4, 3) := by decide +kernel
theorem dM_mark_25 : decode prog_8_method_12_code 25 = .ok (.iconst 1, 1) := by decide +kernel
theorem dM_mark_26 : decode prog_8_method_12_code 26 = .ok (.putfield 57, 3) := by decide +kernel
theorem dM_mark_29 : decode prog_8_method_12_code 29 = .ok (.aload_n 0, 1) := by decide +kernel
theorem dM_mark_30 : decode prog_8_method_12_code 30 = .ok (.getfield 57, 3) := by decide +kernel
theorem dM_mark_33 : decode prog_8_method_12_code 33 = .ok (.ifCond .le 5, 3) := by decide +kernel
theorem dM_mark_36 : decode prog_8_method_12_code 36 = .ok (.iconst 0, 1) := by decide +kernel
theorem dM_mark_37 : decode prog_8_method_12_code 37 = .ok (.ireturn, 1) := by decide +kernel
theorem dM_mark_38 : decode prog_8_method_12_code 38 = .ok (.aload_n 0, 1) := by decide +kernel
theorem dM_mark_39 : decode prog_8_method_12_code 39 = .ok (.aload_n 0, 1) := by decide +kernel
theorem dM_mark_40 : decode prog_8_method_12_code 40 = .ok (.invokevirtual 71, 3) := by decide +kernel
theorem dM_mark_43 : decode prog_8_method_12_code 43 = .ok (.aload_n 0, 1) := by decide +kernel
theorem dM_mark_44 : decode prog_8_method_12_code 44 = .ok (.getfield 7, 3) := by decide +kernel
theorem dM_mark_47 : decode prog_8_method_12_code 47 = .ok (.invokevirtual 82, 3) := by decide +kernel
theorem dM_mark_50 : decode prog_8_method_12_code 50 = .ok (.aload_n 0, 1) := by decide +kernel
theorem dM_mark_51 : decode prog_8_method_12_code 51 = .ok (.getfield 21, 3) := by decide +kernel
theorem dM_mark_54 : decode prog_8_method_12_code 54 = .ok (.iconst 2, 1) := by decide +kernel
theorem dM_mark_55 : decode prog_8_method_12_code 55 = .ok (.aload_n 0, 1) := by decide +kernel
theorem dM_mark_56 : decode prog_8_method_12_code 56 = .ok (.getfield 7, 3) := by decide +kernel
theorem dM_mark_59 : decode prog_8_method_12_code 59 = .ok (.imul, 1) := by decide +kernel
theorem dM_mark_60 : decode prog_8_method_12_code 60 = .ok (.iload_n 1, 1) := by decide +kernel
theorem dM_mark_61 : decode prog_8_method_12_code 61 = .ok (.iadd, 1) := by decide +kernel
theorem dM_mark_62 : decode prog_8_method_12_code 62 = .ok (.iconst 4, 1) := by decide +kernel
theorem dM_mark_63 : decode prog_8_method_12_code 63 = .ok (.isub, 1) := by decide +kernel
theorem dM_mark_64 : decode prog_8_method_12_code 64 = .ok (.iaload, 1) := by decide +kernel
theorem dM_mark_65 : decode prog_8_method_12_code 65 = .ok (.istore 4, 2) := by decide +kernel
theorem dM_mark_67 : decode prog_8_method_12_code 67 = .ok (.aload_n 0, 1) := by decide +kernel
theorem dM_mark_68 : decode prog_8_method_12_code 68 = .ok (.getfield 21, 3) := by decide +kernel
theorem dM_mark_71 : decode prog_8_method_12_code 71 = .ok (.iconst 2, 1) := by decide +kernel
theorem dM_mark_72 : decode prog_8_method_12_code 72 = .ok (.aload_n 0, 1) := by decide +kernel
theorem dM_mark_73 : decode prog_8_method_12_code 73 = .ok (.getfield 7, 3) := by decide +kernel
theorem dM_mark_76 : decode prog_8_method_12_code 76 = .ok (.imul, 1) := by decide +kernel
theorem dM_mark_77 : decode prog_8_method_12_code 77 = .ok (.iload_n 1, 1) := by decide +kernel
theorem dM_mark_78 : decode prog_8_method_12_code 78 = .ok (.iadd, 1) := by decide +kernel
theorem dM_mark_79 : decode prog_8_method_12_code 79 = .ok (.iconst 4, 1) := by decide +kernel
theorem dM_mark_80 : decode prog_8_method_12_code 80 = .ok (.isub, 1) := by decide +kernel
theorem dM_mark_81 : decode prog_8_method_12_code 81 = .ok (.iload_n 3, 1) := by decide +kernel
theorem dM_mark_82 : decode prog_8_method_12_code 82 = .ok (.ifCond .eq 12, 3) := by decide +kernel
theorem dM_mark_85 : decode prog_8_method_12_code 85 = .ok (.iload 4, 2) := by decide +kernel
theorem dM_mark_87 : decode prog_8_method_12_code 87 = .ok (.iconst 1, 1) := by decide +kernel
theorem dM_mark_88 : decode prog_8_method_12_code 88 = .ok (.iload_n 2, 1) := by decide +kernel
theorem dM_mark_89 : decode prog_8_method_12_code 89 = .ok (.ishl, 1) := by decide +kernel
theorem dM_mark_90 : decode prog_8_method_12_code 90 = .ok (.ior, 1) := by decide +kernel
theorem dM_mark_91 : decode prog_8_method_12_code 91 = .ok (.goto 11, 3) := by decide +kernel
theorem dM_mark_94 : decode prog_8_method_12_code 94 = .ok (.iload 4, 2) := by decide +kernel
theorem dM_mark_96 : decode prog_8_method_12_code 96 = .ok (.iconst 1, 1) := by decide +kernel
theorem dM_mark_97 : decode prog_8_method_12_code 97 = .ok (.iload_n 2, 1) := by decide +kernel
theorem dM_mark_98 : decode prog_8_method_12_code 98 = .ok (.ishl, 1) := by decide +kernel
theorem dM_mark_99 : decode prog_8_method_12_code 99 = .ok (.iconst (-1), 1) := by decide +kernel
theorem dM_mark_100 : decode prog_8_method_12_code 100 = .ok (.ixor, 1) := by decide +kernel
theorem dM_mark_101 : decode prog_8_method_12_code 101 = .ok (.iand, 1) := by decide +kernel
theorem dM_mark_102 : decode prog_8_method_12_code 102 = .ok (.iastore, 1) := by decide +kernel
theorem dM_mark_103 : decode prog_8_method_12_code 103 = .ok (.aload_n 0, 1) := by decide +kernel
theorem dM_mark_104 : decode prog_8_method_12_code 104 = .ok (.invokevirtual 86, 3) := by decide +kernel
theorem dM_mark_107 : decode prog_8_method_12_code 107 = .ok (.ireturn, 1) := by decide +kernel
theorem dM_insert_0 : decode prog_8_method_13_code 0 = .ok (.aload_n 0, 1) := by decide +kernel
theorem dM_insert_1 : decode prog_8_method_13_code 1 = .ok (.iload_n 1, 1) := by decide +kernel
theorem dM_insert_2 : decode prog_8_method_13_code 2 = .ok (.bipush 6, 2) := by decide +kernel
theorem dM_insert_4 : decode prog_8_method_13_code 4 = .ok (.if_icmp .eq 9, 3) := by decide +kernel
theorem dM_insert_7 : decode prog_8_method_13_code 7 = .ok (.iload_n 1, 1) := by decide +kernel
theorem dM_insert_8 : decode prog_8_method_13_code 8 = .ok (.bipush 7, 2) := by decide +kernel
theorem dM_insert_10 : decode prog_8_method_13_code 10 = .ok (.if_icmp .ne 7, 3) := by decide +kernel
theorem dM_insert_13 : decode prog_8_method_13_code 13 = .ok (.iconst 0, 1) := by decide +kernel
theorem dM_insert_14 : decode prog_8_method_13_code 14 = .ok (.goto 4, 3) := by decide +kernel
theorem dM_insert_17 : decode prog_8_method_13_code 17 = .ok (.iconst 1, 1) := by decide +kernel
theorem dM_insert_18 : decode prog_8_method_13_code 18 = .ok (.putfield 57, 3) := by decide +kernel
theorem dM_insert_21 : decode prog_8_method_13_code 21 = .ok (.aload_n 0, 1) := by decide +kernel
theorem dM_insert_22 : decode prog_8_method_13_code 22 = .ok (.getfield 57, 3) := by decide +kernel
theorem dM_insert_25 : decode prog_8_method_13_code 25 = .ok (.ifCond .le 5, 3) := by decide +kernel
theorem dM_insert_28 : decode prog_8_method_13_code 28 = .ok (.iconst 0, 1) := by decide +kernel
theorem dM_insert_29 : decode prog_8_method_13_code 29 = .ok (.ireturn, 1) := by decide +kernel
theorem dM_insert_30 : decode prog_8_method_13_code 30 = .ok (.aload_n 0, 1) := by decide +kernel
theorem dM_insert_31 : decode prog_8_method_13_code 31 = .ok (.aload_n 0, 1) := by decide +kernel
theorem dM_insert_32 : decode prog_8_method_13_code 32 = .ok (.invokevirtual 71, 3) := by decide +kernel
theorem dM_insert_35 : decode prog_8_method_13_code 35 = .ok (.aload_n 0, 1) := by decide +kernel
theorem dM_insert_36 : decode prog_8_method_13_code 36 = .ok (.getfield 7, 3) := by decide +kernel
theorem dM_insert_39 : decode prog_8_method_13_code 39 = .ok (.invokevirtual 82, 3) := by decide +kernel
theorem dM_insert_42 : decode prog_8_method_13_code 42 = .ok (.aload_n 0, 1) := by decide +kernel
theorem dM_insert_43 : decode prog_8_method_13_code 43 = .ok (.getfield 27, 3) := by decide +kernel
theorem dM_insert_46 : decode prog_8_method_13_code 46 = .ok (.iconst 2, 1) := by decide +kernel
theorem dM_insert_47 : decode prog_8_method_13_code 47 = .ok (.aload_n 0, 1) := by decide +kernel
theorem dM_insert_48 : decode prog_8_method_13_code 48 = .ok (.getfield 7, 3) := by decide +kernel
theorem dM_insert_51 : decode prog_8_method_13_code 51 = .ok (.imul, 1) := by decide +kernel
theorem dM_insert_52 : decode prog_8_method_13_code 52 = .ok (.iload_n 1, 1) := by decide +kernel
theorem dM_insert_53 : decode prog_8_method_13_code 53 = .ok (.iadd, 1) := by decide +kernel
theorem dM_insert_54 : decode prog_8_method_13_code 54 = .ok (.bipush 6, 2) := by decide +kernel
theorem dM_insert_56 : decode prog_8_method_13_code 56 = .ok (.isub, 1) := by decide +kernel
theorem dM_insert_57 : decode prog_8_method_13_code 57 = .ok (.iaload, 1) := by decide +kernel
theorem dM_insert_58 : decode prog_8_method_13_code 58 = .ok (.istore 4, 2) := by decide +kernel
theorem dM_insert_60 : decode prog_8_method_13_code 60 = .ok (.aload_n 0, 1) := by decide +kernel
theorem dM_insert_61 : decode prog_8_method_13_code 61 = .ok (.iload_n 2, 1) := by decide +kernel
theorem dM_insert_62 : decode prog_8_method_13_code 62 = .ok (.ifCond .lt 9, 3) := by decide +kernel
theorem dM_insert_65 : decode prog_8_method_13_code 65 = .ok (.iload_n 2, 1) := by decide +kernel
theorem dM_insert_66 : decode prog_8_method_13_code 66 = .ok (.iload 4, 2) := by decide +kernel
theorem dM_insert_68 : decode prog_8_method_13_code 68 = .ok (.if_icmp .le 7, 3) := by decide +kernel
theorem dM_insert_71 : decode prog_8_method_13_code 71 = .ok (.iconst 2, 1) := by decide +kernel
theorem dM_insert_72 : decode prog_8_method_13_code 72 = .ok (.goto 24, 3) := by decide +kernel
theorem dM_insert_75 : decode prog_8_method_13_code 75 = .ok (.iload 4, 2) := by decide +kernel
theorem dM_insert_77 : decode prog_8_method_13_code 77 = .ok (.bipush 8, 2) := by decide +kernel
theorem dM_insert_79 : decode prog_8_method_13_code 79 = .ok (.if_icmp .eq 12, 3) := by decide +kernel
theorem dM_insert_82 : decode prog_8_method_13_code 82 = .ok (.aload_n 0, 1) := by decide +kernel
theorem dM_insert_83 : decode prog_8_method_13_code 83 = .ok (.getfield 7, 3) := by decide +kernel
theorem dM_insert_86 : decode prog_8_method_13_code 86 = .ok (.bipush 60, 2) := by decide +kernel
theorem dM_insert_88 : decode prog_8_method_13_code 88 = .ok (.if_icmp .ne 7, 3) := by decide +kernel
theorem dM_insert_91 : decode prog_8_method_13_code 91 = .ok (.iconst 3, 1) := by decide +kernel
theorem dM_insert_92 : decode prog_8_method_13_code 92 = .ok (.goto 4, 3) := by decide +kernel
theorem dM_insert_95 : decode prog_8_method_13_code 95 = .ok (.iconst 0, 1) := by decide +kernel
theorem dM_insert_96 : decode prog_8_method_13_code 96 = .ok (.putfield 57, 3) := by decide +kernel
theorem dM_insert_99 : decode prog_8_method_13_code 99 = .ok (.aload_n 0, 1) := by decide +kernel
theorem dM_insert_100 : decode prog_8_method_13_code 100 = .ok (.getfield 57, 3) := by decide +kernel
theorem dM_insert_103 : decode prog_8_method_13_code 103 = .ok (.ifCond .le 5, 3) := by decide +kernel
theorem dM_insert_106 : decode prog_8_method_13_code 106 = .ok (.iconst 0, 1) := by decide +kernel
theorem dM_insert_107 : decode prog_8_method_13_code 107 = .ok (.ireturn, 1) := by decide +kernel
theorem dM_insert_108 : decode prog_8_method_13_code 108 = .ok (.bipush 16, 2) := by decide +kernel
theorem dM_insert_110 : decode prog_8_method_13_code 110 = .ok (.aload_n 0, 1) := by decide +kernel
theorem dM_insert_111 : decode prog_8_method_13_code 111 = .ok (.getfield 7, 3) := by decide +kernel
theorem dM_insert_114 : decode prog_8_method_13_code 114 = .ok (.imul, 1) := by decide +kernel
theorem dM_insert_115 : decode prog_8_method_13_code 115 = .ok (.bipush 8, 2) := by decide +kernel
theorem dM_insert_117 : decode prog_8_method_13_code 117 = .ok (.iload_n 1, 1) := by decide +kernel
theorem dM_insert_118 : decode prog_8_method_13_code 118 = .ok (.bipush 6, 2) := by decide +kernel
theorem dM_insert_120 : decode prog_8_method_13_code 120 = .ok (.isub, 1) := by decide +kernel
theorem dM_insert_121 : decode prog_8_method_13_code 121 = .ok (.imul, 1) := by decide +kernel
theorem dM_insert_122 : decode prog_8_method_13_code 122 = .ok (.iadd, 1) := by decide +kernel
theorem dM_insert_123 : decode prog_8_method_13_code 123 = .ok (.istore 5, 2) := by decide +kernel
theorem dM_insert_125 : decode prog_8_method_13_code 125 = .ok (.iload 4, 2) := by decide +kernel
theorem dM_insert_127 : decode prog_8_method_13_code 127 = .ok (.istore 6, 2) := by decide +kernel
theorem dM_insert_129 : decode prog_8_method_13_code 129 = .ok (.iload 6, 2) := by decide +kernel
theorem dM_insert_131 : decode prog_8_method_13_code 131 = .ok (.iload_n 2, 1) := by decide +kernel
theorem dM_insert_132 : decode prog_8_method_13_code 132 = .ok (.if_icmp .le 31, 3) := by decide +kernel
theorem dM_insert_135 : decode prog_8_method_13_code 135 = .ok (.aload_n 0, 1) := by decide +kernel
theorem dM_insert_136 : decode prog_8_method_13_code 136 = .ok (.getfield 24, 3) := by decide +kernel
theorem dM_insert_139 : decode prog_8_method_13_code 139 = .ok (.iload 5, 2) := by decide +kernel
theorem dM_insert_141 : decode prog_8_method_13_code 141 = .ok (.iload 6, 2) := by decide +kernel
theorem dM_insert_143 : decode prog_8_method_13_code 143 = .ok (.iadd, 1) := by decide +kernel
theorem dM_insert_144 : decode prog_8_method_13_code 144 = .ok (.aload_n 0, 1) := by decide +kernel
theorem dM_insert_145 : decode prog_8_method_13_code 145 = .ok (.getfield 24, 3) := by decide +kernel
theorem dM_insert_148 : decode prog_8_method_13_code 148 = .ok (.iload 5, 2) := by decide +kernel
theorem dM_insert_150 : decode prog_8_method_13_code 150 = .ok (.iload 6, 2) := by decide +kernel
theorem dM_insert_152 : decode prog_8_method_13_code 152 = .ok (.iadd, 1) := by decide +kernel
theorem dM_insert_153 : decode prog_8_method_13_code 153 = .ok (.iconst 1, 1) := by decide +kernel
theorem dM_insert_154 : decode prog_8_method_13_code 154 = .ok (.isub, 1) := by decide +kernel
theorem dM_insert_155 : decode prog_8_method_13_code 155 = .ok (.iaload, 1) := by decide +kernel
theorem dM_insert_156 : decode prog_8_method_13_code 156 = .ok (.iastore, 1) := by decide +kernel
theorem dM_insert_157 : decode prog_8_method_13_code 157 = .ok (.iinc 6 (-1), 3) := by decide +kernel
theorem dM_insert_160 : decode prog_8_method_13_code 160 = .ok (.goto (-31), 3) := by decide +kernel
theorem dM_insert_163 : decode prog_8_method_13_code 163 = .ok (.aload_n 0, 1) := by decide +kernel
theorem dM_insert_164 : decode prog_8_method_13_code 164 = .ok (.getfield 24, 3) := by decide +kernel
theorem dM_insert_167 : decode prog_8_method_13_code 167 = .ok (.iload 5, 2) := by decide +kernel
theorem dM_insert_169 : decode prog_8_method_13_code 169 = .ok (.iload_n 2, 1) := by decide +kernel
theorem dM_insert_170 : decode prog_8_method_13_code 170 = .ok (.iadd, 1) := by decide +kernel
theorem dM_insert_171 : decode prog_8_method_13_code 171 = .ok (.iload_n 3, 1) := by decide +kernel
theorem dM_insert_172 : decode prog_8_method_13_code 172 = .ok (.iastore, 1) := by decide +kernel
theorem dM_insert_173 : decode prog_8_method_13_code 173 = .ok (.aload_n 0, 1) := by decide +kernel
theorem dM_insert_174 : decode prog_8_method_13_code 174 = .ok (.getfield 27, 3) := by decide +kernel
theorem dM_insert_177 : decode prog_8_method_13_code 177 = .ok (.iconst 2, 1) := by decide +kernel
theorem dM_insert_178 : decode prog_8_method_13_code 178 = .ok (.aload_n 0, 1) := by decide +kernel
theorem dM_insert_179 : decode prog_8_method_13_code 179 = .ok (.getfield 7, 3) := by decide +kernel
theorem dM_insert_182 : decode prog_8_method_13_code 182 = .ok (.imul, 1) := by decide +kernel
theorem dM_insert_183 : decode prog_8_method_13_code 183 = .ok (.iload_n 1, 1) := by decide +kernel
theorem dM_insert_184 : decode prog_8_method_13_code 184 = .ok (.iadd, 1) := by decide +kernel
theorem dM_insert_185 : decode prog_8_method_13_code 185 = .ok (.bipush 6, 2) := by decide +kernel
theorem dM_insert_187 : decode prog_8_method_13_code 187 = .ok (.isub, 1) := by decide +kernel
theorem dM_insert_188 : decode prog_8_method_13_code 188 = .ok (.dup2, 1) := by decide +kernel
theorem dM_insert_189 : decode prog_8_method_13_code 189 = .ok (.iaload, 1) := by decide +kernel
theorem dM_insert_190 : decode prog_8_method_13_code 190 = .ok (.iconst 1, 1) := by decide +kernel
theorem dM_insert_191 : decode prog_8_method_13_code 191 = .ok (.iadd, 1) := by decide +kernel
theorem dM_insert_192 : decode prog_8_method_13_code 192 = .ok (.iastore, 1) := by decide +kernel
theorem dM_insert_193 : decode prog_8_method_13_code 193 = .ok (.aload_n 0, 1) := by decide +kernel
theorem dM_insert_194 : decode prog_8_method_13_code 194 = .ok (.invokevirtual 86, 3) := by decide +kernel
theorem dM_insert_197 : decode prog_8_method_13_code 197 = .ok (.ireturn, 1) := by decide +kernel
theorem dM_remove_0 : decode prog_8_method_14_code 0 = .ok (.aload_n 0, 1) := by decide +kernel
theorem dM_remove_1 : decode prog_8_method_14_code 1 = .ok (.iload_n 1, 1) := by decide +kernel
theorem dM_remove_2 : decode prog_8_method_14_code 2 = .ok (.bipush 6, 2) := by decide +kernel
theorem dM_remove_4 : decode prog_8_method_14_code 4 = .ok (.if_icmp .eq 9, 3) := by decide +kernel
theorem dM_remove_7 : decode prog_8_method_14_code 7 = .ok (.iload_n 1, 1) := by decide +kernel
theorem dM_remove_8 : decode prog_8_method_14_code 8 = .ok (.bipush 7, 2) := by decide +kernel
theorem dM_remove_10 : decode prog_8_method_14_code 10 = .ok (.if_icmp .ne 7, 3) := by decide +kernel
theorem dM_remove_13 : decode prog_8_method_14_code 13 = .ok (.iconst 0, 1) := by decide +kernel
theorem dM_remove_14 : decode prog_8_method_14_code 14 = .ok (.goto 4, 3) := by decide +kernel
theorem dM_remove_17 : decode prog_8_method_14_code 17 = .ok (.iconst 1, 1) := by decide +kernel
theorem dM_remove_18 : decode prog_8_method_14_code 18 = .ok (.putfield 57, 3) := by decide +kernel
theorem dM_remove_21 : decode prog_8_method_14_code 21 = .ok (.aload_n 0, 1) := by decide +kernel
theorem dM_remove_22 : decode prog_8_method_14_code 22 = .ok (.getfield 57, 3) := by decide +kernel
theorem dM_remove_25 : decode prog_8_method_14_code 25 = .ok (.ifCond .le 5, 3) := by decide +kernel
theorem dM_remove_28 : decode prog_8_method_14_code 28 = .ok (.iconst 0, 1) := by decide +kernel
theorem dM_remove_29 : decode prog_8_method_14_code 29 = .ok (.ireturn, 1) := by decide +kernel
theorem dM_remove_30 : decode prog_8_method_14_code 30 = .ok (.aload_n 0, 1) := by decide +kernel
theorem dM_remove_31 : decode prog_8_method_14_code 31 = .ok (.aload_n 0, 1) := by decide +kernel
theorem dM_remove_32 : decode prog_8_method_14_code 32 = .ok (.invokevirtual 71, 3) := by decide +kernel
theorem dM_remove_35 : decode prog_8_method_14_code 35 = .ok (.aload_n 0, 1) := by decide +kernel
theorem dM_remove_36 : decode prog_8_method_14_code 36 = .ok (.getfield 7, 3) := by decide +kernel
theorem dM_remove_39 : decode prog_8_method_14_code 39 = .ok (.invokevirtual 82, 3) := by decide +kernel
theorem dM_remove_42 : decode prog_8_method_14_code 42 = .ok (.aload_n 0, 1) := by decide +kernel
theorem dM_remove_43 : decode prog_8_method_14_code 43 = .ok (.getfield 27, 3) := by decide +kernel
theorem dM_remove_46 : decode prog_8_method_14_code 46 = .ok (.iconst 2, 1) := by decide +kernel
theorem dM_remove_47 : decode prog_8_method_14_code 47 = .ok (.aload_n 0, 1) := by decide +kernel
theorem dM_remove_48 : decode prog_8_method_14_code 48 = .ok (.getfield 7, 3) := by decide +kernel
theorem dM_remove_51 : decode prog_8_method_14_code 51 = .ok (.imul, 1) := by decide +kernel
theorem dM_remove_52 : decode prog_8_method_14_code 52 = .ok (.iload_n 1, 1) := by decide +kernel
theorem dM_remove_53 : decode prog_8_method_14_code 53 = .ok (.iadd, 1) := by decide +kernel
theorem dM_remove_54 : decode prog_8_method_14_code 54 = .ok (.bipush 6, 2) := by decide +kernel
theorem dM_remove_56 : decode prog_8_method_14_code 56 = .ok (.isub, 1) := by decide +kernel
theorem dM_remove_57 : decode prog_8_method_14_code 57 = .ok (.iaload, 1) := by decide +kernel
theorem dM_remove_58 : decode prog_8_method_14_code 58 = .ok (.istore_n 3, 1) := by decide +kernel
theorem dM_remove_59 : decode prog_8_method_14_code 59 = .ok (.aload_n 0, 1) := by decide +kernel
theorem dM_remove_60 : decode prog_8_method_14_code 60 = .ok (.iload_n 2, 1) := by decide +kernel
theorem dM_remove_61 : decode prog_8_method_14_code 61 = .ok (.ifCond .lt 8, 3) := by decide +kernel
theorem dM_remove_64 : decode prog_8_method_14_code 64 = .ok (.iload_n 2, 1) := by decide +kernel
theorem dM_remove_65 : decode prog_8_method_14_code 65 = .ok (.iload_n 3, 1) := by decide +kernel
theorem dM_remove_66 : decode prog_8_method_14_code 66 = .ok (.if_icmp .lt 7, 3) := by decide +kernel
theorem dM_remove_69 : decode prog_8_method_14_code 69 = .ok (.iconst 2, 1) := by decide +kernel
theorem dM_remove_70 : decode prog_8_method_14_code 70 = .ok (.goto 17, 3) := by decide +kernel
theorem dM_remove_73 : decode prog_8_method_14_code 73 = .ok (.aload_n 0, 1) := by decide +kernel
theorem dM_remove_74 : decode prog_8_method_14_code 74 = .ok (.getfield 7, 3) := by decide +kernel
theorem dM_remove_77 : decode prog_8_method_14_code 77 = .ok (.bipush 60, 2) := by decide +kernel
theorem dM_remove_79 : decode prog_8_method_14_code 79 = .ok (.if_icmp .ne 7, 3) := by decide +kernel
theorem dM_remove_82 : decode prog_8_method_14_code 82 = .ok (.iconst 3, 1) := by decide +kernel
theorem dM_remove_83 : decode prog_8_method_14_code 83 = .ok (.goto 4, 3) := by decide +kernel
theorem dM_remove_86 : decode prog_8_method_14_code 86 = .ok (.iconst 0, 1) := by decide +kernel
theorem dM_remove_87 : decode prog_8_method_14_code 87 = .ok (.putfield 57, 3) := by decide +kernel
theorem dM_remove_90 : decode prog_8_method_14_code 90 = .ok (.aload_n 0, 1) := by decide +kernel
theorem dM_remove_91 : decode prog_8_method_14_code 91 = .ok (.getfield 57, 3) := by decide +kernel
theorem dM_remove_94 : decode prog_8_method_14_code 94 = .ok (.ifCond .le 5, 3) := by decide +kernel
theorem dM_remove_97 : decode prog_8_method_14_code 97 = .ok (.iconst 0, 1) := by decide +kernel
theorem dM_remove_98 : decode prog_8_method_14_code 98 = .ok (.ireturn, 1) := by decide +kernel
theorem dM_remove_99 : decode prog_8_method_14_code 99 = .ok (.bipush 16, 2) := by decide +kernel
theorem dM_remove_101 : decode prog_8_method_14_code 101 = .ok (.aload_n 0, 1) := by decide +kernel
theorem dM_remove_102 : decode prog_8_method_14_code 102 = .ok (.getfield 7, 3) := by decide +kernel
theorem dM_remove_105 : decode prog_8_method_14_code 105 = .ok (.imul, 1) := by decide +kernel
theorem dM_remove_106 : decode prog_8_method_14_code 106 = .ok (.bipush 8, 2) := by decide +kernel
theorem dM_remove_108 : decode prog_8_method_14_code 108 = .ok (.iload_n 1, 1) := by decide +kernel
theorem dM_remove_109 : decode prog_8_method_14_code 109 = .ok (.bipush 6, 2) := by decide +kernel
theorem dM_remove_111 : decode prog_8_method_14_code 111 = .ok (.isub, 1) := by decide +kernel
theorem dM_remove_112 : decode prog_8_method_14_code 112 = .ok (.imul, 1) := by decide +kernel
theorem dM_remove_113 : decode prog_8_method_14_code 113 = .ok (.iadd, 1) := by decide +kernel
theorem dM_remove_114 : decode prog_8_method_14_code 114 = .ok (.istore 4, 2) := by decide +kernel
theorem dM_remove_116 : decode prog_8_method_14_code 116 = .ok (.iload_n 2, 1) := by decide +kernel
theorem dM_remove_117 : decode prog_8_method_14_code 117 = .ok (.istore 5, 2) := by decide +kernel
theorem dM_remove_119 : decode prog_8_method_14_code 119 = .ok (.iload 5, 2) := by decide +kernel
theorem dM_remove_121 : decode prog_8_method_14_code 121 = .ok (.iload_n 3, 1) := by decide +kernel
theorem dM_remove_122 : decode prog_8_method_14_code 122 = .ok (.iconst 1, 1) := by decide +kernel
theorem dM_remove_123 : decode prog_8_method_14_code 123 = .ok (.isub, 1) := by decide +kernel
theorem dM_remove_124 : decode prog_8_method_14_code 124 = .ok (.if_icmp .ge 31, 3) := by decide +kernel
theorem dM_remove_127 : decode prog_8_method_14_code 127 = .ok (.aload_n 0, 1) := by decide +kernel
theorem dM_remove_128 : decode prog_8_method_14_code 128 = .ok (.getfield 24, 3) := by decide +kernel
theorem dM_remove_131 : decode prog_8_method_14_code 131 = .ok (.iload 4, 2) := by decide +kernel
theorem dM_remove_133 : decode prog_8_method_14_code 133 = .ok (.iload 5, 2) := by decide +kernel
theorem dM_remove_135 : decode prog_8_method_14_code 135 = .ok (.iadd, 1) := by decide +kernel
theorem dM_remove_136 : decode prog_8_method_14_code 136 = .ok (.aload_n 0, 1) := by decide +kernel
theorem dM_remove_137 : decode prog_8_method_14_code 137 = .ok (.getfield 24, 3) := by decide +kernel
theorem dM_remove_140 : decode prog_8_method_14_code 140 = .ok (.iload 4, 2) := by decide +kernel
theorem dM_remove_142 : decode prog_8_method_14_code 142 = .ok (.iload 5, 2) := by decide +kernel
theorem dM_remove_144 : decode prog_8_method_14_code 144 = .ok (.iadd, 1) := by decide +kernel
theorem dM_remove_145 : decode prog_8_method_14_code 145 = .ok (.iconst 1, 1) := by decide +kernel
theorem dM_remove_146 : decode prog_8_method_14_code 146 = .ok (.iadd, 1) := by decide +kernel
theorem dM_remove_147 : decode prog_8_method_14_code 147 = .ok (.iaload, 1) := by decide +kernel
theorem dM_remove_148 : decode prog_8_method_14_code 148 = .ok (.iastore, 1) := by decide +kernel
theorem dM_remove_149 : decode prog_8_method_14_code 149 = .ok (.iinc 5 1, 3) := by decide +kernel
theorem dM_remove_152 : decode prog_8_method_14_code 152 = .ok (.goto (-33), 3) := by decide +kernel
theorem dM_remove_155 : decode prog_8_method_14_code 155 = .ok (.aload_n 0, 1) := by decide +kernel
theorem dM_remove_156 : decode prog_8_method_14_code 156 = .ok (.getfield 27, 3) := by decide +kernel
theorem dM_remove_159 : decode prog_8_method_14_code 159 = .ok (.iconst 2, 1) := by decide +kernel
theorem dM_remove_160 : decode prog_8_method_14_code 160 = .ok (.aload_n 0, 1) := by decide +kernel
theorem dM_remove_161 : decode prog_8_method_14_code 161 = .ok (.getfield 7, 3) := by decide +kernel
theorem dM_remove_164 : decode prog_8_method_14_code 164 = .ok (.imul, 1) := by decide +kernel
theorem dM_remove_165 : decode prog_8_method_14_code 165 = .ok (.iload_n 1, 1) := by decide +kernel
theorem dM_remove_166 : decode prog_8_method_14_code 166 = .ok (.iadd, 1) := by decide +kernel
theorem dM_remove_167 : decode prog_8_method_14_code 167 = .ok (.bipush 6, 2) := by decide +kernel
theorem dM_remove_169 : decode prog_8_method_14_code 169 = .ok (.isub, 1) := by decide +kernel
theorem dM_remove_170 : decode prog_8_method_14_code 170 = .ok (.dup2, 1) := by decide +kernel
theorem dM_remove_171 : decode prog_8_method_14_code 171 = .ok (.iaload, 1) := by decide +kernel
theorem dM_remove_172 : decode prog_8_method_14_code 172 = .ok (.iconst 1, 1) := by decide +kernel
theorem dM_remove_173 : decode prog_8_method_14_code 173 = .ok (.isub, 1) := by decide +kernel
theorem dM_remove_174 : decode prog_8_method_14_code 174 = .ok (.iastore, 1) := by decide +kernel
theorem dM_remove_175 : decode prog_8_method_14_code 175 = .ok (.aload_n 0, 1) := by decide +kernel
theorem dM_remove_176 : decode prog_8_method_14_code 176 = .ok (.invokevirtual 86, 3) := by decide +kernel
theorem dM_remove_179 : decode prog_8_method_14_code 179 = .ok (.ireturn, 1) := by decide +kernel
theorem dM_isBranch_0 : decode prog_8_method_15_code 0 = .ok (.iload_n 0, 1) := by decide +kernel
theorem dM_isBranch_1 : decode prog_8_method_15_code 1 = .ok (.ifCond .lt 12, 3) := by decide +kernel
theorem dM_isBranch_4 : decode prog_8_method_15_code 4 = .ok (.iload_n 0, 1) := by decide +kernel
theorem dM_isBranch_5 : decode prog_8_method_15_code 5 = .ok (.iconst 3, 1) := by decide +kernel
theorem dM_isBranch_6 : decode prog_8_method_15_code 6 = .ok (.if_icmp .gt 7, 3) := by decide +kernel
theorem dM_isBranch_9 : decode prog_8_method_15_code 9 = .ok (.iconst 1, 1) := by decide +kernel
theorem dM_isBranch_10 : decode prog_8_method_15_code 10 = .ok (.goto 4, 3) := by decide +kernel
theorem dM_isBranch_13 : decode prog_8_method_15_code 13 = .ok (.iconst 0, 1) := by decide +kernel
theorem dM_isBranch_14 : decode prog_8_method_15_code 14 = .ok (.ireturn, 1) := by decide +kernel
theorem dM_isRevision_0 : decode prog_8_method_16_code 0 = .ok (.iload_n 1, 1) := by decide +kernel
theorem dM_isRevision_1 : decode prog_8_method_16_code 1 = .ok (.ifCond .lt 15, 3) := by decide +kernel
theorem dM_isRevision_4 : decode prog_8_method_16_code 4 = .ok (.iload_n 1, 1) := by decide +kernel
theorem dM_isRevision_5 : decode prog_8_method_16_code 5 = .ok (.aload_n 0, 1) := by decide +kernel
theorem dM_isRevision_6 : decode prog_8_method_16_code 6 = .ok (.getfield 7, 3) := by decide +kernel
theorem dM_isRevision_9 : decode prog_8_method_16_code 9 = .ok (.if_icmp .ge 7, 3) := by decide +kernel
theorem dM_isRevision_12 : decode prog_8_method_16_code 12 = .ok (.iconst 1, 1) := by decide +kernel
theorem dM_isRevision_13 : decode prog_8_method_16_code 13 = .ok (.goto 4, 3) := by decide +kernel
theorem dM_isRevision_16 : decode prog_8_method_16_code 16 = .ok (.iconst 0, 1) := by decide +kernel
theorem dM_isRevision_17 : decode prog_8_method_16_code 17 = .ok (.ireturn, 1) := by decide +kernel
theorem dM_point_0 : decode prog_8_method_17_code 0 = .ok (.aload_n 0, 1) := by decide +kernel
theorem dM_point_1 : decode prog_8_method_17_code 1 = .ok (.iload_n 1, 1) := by decide +kernel
theorem dM_point_2 : decode prog_8_method_17_code 2 = .ok (.invokestatic 89, 3) := by decide +kernel
theorem dM_point_5 : decode prog_8_method_17_code 5 = .ok (.ifCond .eq 7, 3) := by decide +kernel
theorem dM_point_8 : decode prog_8_method_17_code 8 = .ok (.iconst 0, 1) := by decide +kernel
theorem dM_point_9 : decode prog_8_method_17_code 9 = .ok (.goto 4, 3) := by decide +kernel
theorem dM_point_12 : decode prog_8_method_17_code 12 = .ok (.iconst 1, 1) := by decide +kernel
theorem dM_point_13 : decode prog_8_method_17_code 13 = .ok (.putfield 57, 3) := by decide +kernel
theorem dM_point_16 : decode prog_8_method_17_code 16 = .ok (.aload_n 0, 1) := by decide +kernel
theorem dM_point_17 : decode prog_8_method_17_code 17 = .ok (.getfield 57, 3) := by decide +kernel
theorem dM_point_20 : decode prog_8_method_17_code 20 = .ok (.ifCond .le 4, 3) := by decide +kernel
theorem dM_point_23 : decode prog_8_method_17_code 23 = .ok (.return_, 1) := by decide +kernel
theorem dM_point_24 : decode prog_8_method_17_code 24 = .ok (.aload_n 0, 1) := by decide +kernel
theorem dM_point_25 : decode prog_8_method_17_code 25 = .ok (.getfield 36, 3) := by decide +kernel
theorem dM_point_28 : decode prog_8_method_17_code 28 = .ok (.iload_n 1, 1) := by decide +kernel
theorem dM_point_29 : decode prog_8_method_17_code 29 = .ok (.aload_n 0, 1) := by decide +kernel
theorem dM_point_30 : decode prog_8_method_17_code 30 = .ok (.invokevirtual 71, 3) := by decide +kernel
theorem dM_point_33 : decode prog_8_method_17_code 33 = .ok (.iastore, 1) := by decide +kernel
theorem dM_point_34 : decode prog_8_method_17_code 34 = .ok (.aload_n 0, 1) := by decide +kernel
theorem dM_point_35 : decode prog_8_method_17_code 35 = .ok (.getfield 42, 3) := by decide +kernel
theorem dM_point_38 : decode prog_8_method_17_code 38 = .ok (.iload_n 1, 1) := by decide +kernel
theorem dM_point_39 : decode prog_8_method_17_code 39 = .ok (.iload_n 1, 1) := by decide +kernel
theorem dM_point_40 : decode prog_8_method_17_code 40 = .ok (.aload_n 0, 1) := by decide +kernel
theorem dM_point_41 : decode prog_8_method_17_code 41 = .ok (.getfield 60, 3) := by decide +kernel
theorem dM_point_44 : decode prog_8_method_17_code 44 = .ok (.if_icmp .ne 12, 3) := by decide +kernel
theorem dM_point_47 : decode prog_8_method_17_code 47 = .ok (.aload_n 0, 1) := by decide +kernel
theorem dM_point_48 : decode prog_8_method_17_code 48 = .ok (.getfield 42, 3) := by decide +kernel
theorem dM_point_51 : decode prog_8_method_17_code 51 = .ok (.iload_n 1, 1) := by decide +kernel
theorem dM_point_52 : decode prog_8_method_17_code 52 = .ok (.iaload, 1) := by decide +kernel
theorem dM_point_53 : decode prog_8_method_17_code 53 = .ok (.goto 4, 3) := by decide +kernel
theorem dM_point_56 : decode prog_8_method_17_code 56 = .ok (.iconst 0, 1) := by decide +kernel
theorem dM_point_57 : decode prog_8_method_17_code 57 = .ok (.iastore, 1) := by decide +kernel
theorem dM_point_58 : decode prog_8_method_17_code 58 = .ok (.return_, 1) := by decide +kernel
theorem dM_turn_0 : decode prog_8_method_18_code 0 = .ok (.aload_n 0, 1) := by decide +kernel
theorem dM_turn_1 : decode prog_8_method_18_code 1 = .ok (.iload_n 1, 1) := by decide +kernel
theorem dM_turn_2 : decode prog_8_method_18_code 2 = .ok (.invokestatic 89, 3) := by decide +kernel
theorem dM_turn_5 : decode prog_8_method_18_code 5 = .ok (.ifCond .eq 7, 3) := by decide +kernel
theorem dM_turn_8 : decode prog_8_method_18_code 8 = .ok (.iconst 0, 1) := by decide +kernel
theorem dM_turn_9 : decode prog_8_method_18_code 9 = .ok (.goto 4, 3) := by decide +kernel
theorem dM_turn_12 : decode prog_8_method_18_code 12 = .ok (.iconst 1, 1) := by decide +kernel
theorem dM_turn_13 : decode prog_8_method_18_code 13 = .ok (.putfield 57, 3) := by decide +kernel
theorem dM_turn_16 : decode prog_8_method_18_code 16 = .ok (.aload_n 0, 1) := by decide +kernel
theorem dM_turn_17 : decode prog_8_method_18_code 17 = .ok (.aload_n 0, 1) := by decide +kernel
theorem dM_turn_18 : decode prog_8_method_18_code 18 = .ok (.getfield 57, 3) := by decide +kernel
theorem dM_turn_21 : decode prog_8_method_18_code 21 = .ok (.ifCond .le 10, 3) := by decide +kernel
theorem dM_turn_24 : decode prog_8_method_18_code 24 = .ok (.aload_n 0, 1) := by decide +kernel
theorem dM_turn_25 : decode prog_8_method_18_code 25 = .ok (.getfield 60, 3) := by decide +kernel
theorem dM_turn_28 : decode prog_8_method_18_code 28 = .ok (.goto 4, 3) := by decide +kernel
theorem dM_turn_31 : decode prog_8_method_18_code 31 = .ok (.iload_n 1, 1) := by decide +kernel
theorem dM_turn_32 : decode prog_8_method_18_code 32 = .ok (.putfield 60, 3) := by decide +kernel
theorem dM_turn_35 : decode prog_8_method_18_code 35 = .ok (.aload_n 0, 1) := by decide +kernel
theorem dM_turn_36 : decode prog_8_method_18_code 36 = .ok (.getfield 57, 3) := by decide +kernel
theorem dM_turn_39 : decode prog_8_method_18_code 39 = .ok (.ifCond .le 7, 3) := by decide +kernel
theorem dM_turn_42 : decode prog_8_method_18_code 42 = .ok (.iconst 0, 1) := by decide +kernel
theorem dM_turn_43 : decode prog_8_method_18_code 43 = .ok (.goto 7, 3) := by decide +kernel
theorem dM_turn_46 : decode prog_8_method_18_code 46 = .ok (.aload_n 0, 1) := by decide +kernel
theorem dM_turn_47 : decode prog_8_method_18_code 47 = .ok (.invokevirtual 71, 3) := by decide +kernel
theorem dM_turn_50 : decode prog_8_method_18_code 50 = .ok (.ireturn, 1) := by decide +kernel
theorem dM_go_0 : decode prog_8_method_19_code 0 = .ok (.aload_n 0, 1) := by decide +kernel
theorem dM_go_1 : decode prog_8_method_19_code 1 = .ok (.aload_n 0, 1) := by decide +kernel
theorem dM_go_2 : decode prog_8_method_19_code 2 = .ok (.iload_n 1, 1) := by decide +kernel
theorem dM_go_3 : decode prog_8_method_19_code 3 = .ok (.invokevirtual 93, 3) := by decide +kernel
theorem dM_go_6 : decode prog_8_method_19_code 6 = .ok (.ifCond .eq 7, 3) := by decide +kernel
theorem dM_go_9 : decode prog_8_method_19_code 9 = .ok (.iconst 0, 1) := by decide +kernel
theorem dM_go_10 : decode prog_8_method_19_code 10 = .ok (.goto 4, 3) := by decide +kernel
theorem dM_go_13 : decode prog_8_method_19_code 13 = .ok (.iconst 1, 1) := by decide +kernel
theorem dM_go_14 : decode prog_8_method_19_code 14 = .ok (.putfield 57, 3) := by decide +kernel
theorem dM_go_17 : decode prog_8_method_19_code 17 = .ok (.aload_n 0, 1) := by decide +kernel
theorem dM_go_18 : decode prog_8_method_19_code 18 = .ok (.getfield 57, 3) := by decide +kernel
theorem dM_go_21 : decode prog_8_method_19_code 21 = .ok (.ifCond .ne 8, 3) := by decide +kernel
theorem dM_go_24 : decode prog_8_method_19_code 24 = .ok (.aload_n 0, 1) := by decide +kernel
theorem dM_go_25 : decode prog_8_method_19_code 25 = .ok (.iload_n 1, 1) := by decide +kernel
theorem dM_go_26 : decode prog_8_method_19_code 26 = .ok (.invokevirtual 67, 3) := by decide +kernel
theorem dM_go_29 : decode prog_8_method_19_code 29 = .ok (.return_, 1) := by decide +kernel
theorem dM_undo_0 : decode prog_8_method_20_code 0 = .ok (.aload_n 0, 1) := by decide +kernel
theorem dM_undo_1 : decode prog_8_method_20_code 1 = .ok (.aload_n 0, 1) := by decide +kernel
theorem dM_undo_2 : decode prog_8_method_20_code 2 = .ok (.invokevirtual 71, 3) := by decide +kernel
theorem dM_undo_5 : decode prog_8_method_20_code 5 = .ok (.ifCond .ne 7, 3) := by decide +kernel
theorem dM_undo_8 : decode prog_8_method_20_code 8 = .ok (.iconst 1, 1) := by decide +kernel
theorem dM_undo_9 : decode prog_8_method_20_code 9 = .ok (.goto 4, 3) := by decide +kernel
theorem dM_undo_12 : decode prog_8_method_20_code 12 = .ok (.iconst 0, 1) := by decide +kernel
theorem dM_undo_13 : decode prog_8_method_20_code 13 = .ok (.putfield 57, 3) := by decide +kernel
theorem dM_undo_16 : decode prog_8_method_20_code 16 = .ok (.aload_n 0, 1) := by decide +kernel
theorem dM_undo_17 : decode prog_8_method_20_code 17 = .ok (.getfield 57, 3) := by decide +kernel
theorem dM_undo_20 : decode prog_8_method_20_code 20 = .ok (.ifCond .le 5, 3) := by decide +kernel
theorem dM_undo_23 : decode prog_8_method_20_code 23 = .ok (.iconst 0, 1) := by decide +kernel
theorem dM_undo_24 : decode prog_8_method_20_code 24 = .ok (.ireturn, 1) := by decide +kernel
theorem dM_undo_25 : decode prog_8_method_20_code 25 = .ok (.aload_n 0, 1) := by decide +kernel
theorem dM_undo_26 : decode prog_8_method_20_code 26 = .ok (.getfield 39, 3) := by decide +kernel
theorem dM_undo_29 : decode prog_8_method_20_code 29 = .ok (.bipush 60, 2) := by decide +kernel
theorem dM_undo_31 : decode prog_8_method_20_code 31 = .ok (.aload_n 0, 1) := by decide +kernel
theorem dM_undo_32 : decode prog_8_method_20_code 32 = .ok (.getfield 60, 3) := by decide +kernel
theorem dM_undo_35 : decode prog_8_method_20_code 35 = .ok (.imul, 1) := by decide +kernel
theorem dM_undo_36 : decode prog_8_method_20_code 36 = .ok (.aload_n 0, 1) := by decide +kernel
theorem dM_undo_37 : decode prog_8_method_20_code 37 = .ok (.getfield 42, 3) := by decide +kernel
theorem dM_undo_40 : decode prog_8_method_20_code 40 = .ok (.aload_n 0, 1) := by decide +kernel
theorem dM_undo_41 : decode prog_8_method_20_code 41 = .ok (.getfield 60, 3) := by decide +kernel
theorem dM_undo_44 : decode prog_8_method_20_code 44 = .ok (.iaload, 1) := by decide +kernel
theorem dM_undo_45 : decode prog_8_method_20_code 45 = .ok (.iadd, 1) := by decide +kernel
theorem dM_undo_46 : decode prog_8_method_20_code 46 = .ok (.aload_n 0, 1) := by decide +kernel
theorem dM_undo_47 : decode prog_8_method_20_code 47 = .ok (.invokevirtual 71, 3) := by decide +kernel
theorem dM_undo_50 : decode prog_8_method_20_code 50 = .ok (.iastore, 1) := by decide +kernel
theorem dM_undo_51 : decode prog_8_method_20_code 51 = .ok (.aload_n 0, 1) := by decide +kernel
theorem dM_undo_52 : decode prog_8_method_20_code 52 = .ok (.getfield 42, 3) := by decide +kernel
theorem dM_undo_55 : decode prog_8_method_20_code 55 = .ok (.aload_n 0, 1) := by decide +kernel
theorem dM_undo_56 : decode prog_8_method_20_code 56 = .ok (.getfield 60, 3) := by decide +kernel
theorem dM_undo_59 : decode prog_8_method_20_code 59 = .ok (.dup2, 1) := by decide +kernel
theorem dM_undo_60 : decode prog_8_method_20_code 60 = .ok (.iaload, 1) := by decide +kernel
theorem dM_undo_61 : decode prog_8_method_20_code 61 = .ok (.iconst 1, 1) := by decide +kernel
theorem dM_undo_62 : decode prog_8_method_20_code 62 = .ok (.iadd, 1) := by decide +kernel
theorem dM_undo_63 : decode prog_8_method_20_code 63 = .ok (.iastore, 1) := by decide +kernel
theorem dM_undo_64 : decode prog_8_method_20_code 64 = .ok (.aload_n 0, 1) := by decide +kernel
theorem dM_undo_65 : decode prog_8_method_20_code 65 = .ok (.getfield 36, 3) := by decide +kernel
theorem dM_undo_68 : decode prog_8_method_20_code 68 = .ok (.aload_n 0, 1) := by decide +kernel
theorem dM_undo_69 : decode prog_8_method_20_code 69 = .ok (.getfield 60, 3) := by decide +kernel
theorem dM_undo_72 : decode prog_8_method_20_code 72 = .ok (.aload_n 0, 1) := by decide +kernel
theorem dM_undo_73 : decode prog_8_method_20_code 73 = .ok (.getfield 30, 3) := by decide +kernel
theorem dM_undo_76 : decode prog_8_method_20_code 76 = .ok (.aload_n 0, 1) := by decide +kernel
theorem dM_undo_77 : decode prog_8_method_20_code 77 = .ok (.invokevirtual 71, 3) := by decide +kernel
theorem dM_undo_80 : decode prog_8_method_20_code 80 = .ok (.iaload, 1) := by decide +kernel
theorem dM_undo_81 : decode prog_8_method_20_code 81 = .ok (.iastore, 1) := by decide +kernel
theorem dM_undo_82 : decode prog_8_method_20_code 82 = .ok (.aload_n 0, 1) := by decide +kernel
theorem dM_undo_83 : decode prog_8_method_20_code 83 = .ok (.invokevirtual 71, 3) := by decide +kernel
theorem dM_undo_86 : decode prog_8_method_20_code 86 = .ok (.ireturn, 1) := by decide +kernel
theorem dM_redo_0 : decode prog_8_method_21_code 0 = .ok (.aload_n 0, 1) := by decide +kernel
theorem dM_redo_1 : decode prog_8_method_21_code 1 = .ok (.aload_n 0, 1) := by decide +kernel
theorem dM_redo_2 : decode prog_8_method_21_code 2 = .ok (.getfield 42, 3) := by decide +kernel
theorem dM_redo_5 : decode prog_8_method_21_code 5 = .ok (.aload_n 0, 1) := by decide +kernel
theorem dM_redo_6 : decode prog_8_method_21_code 6 = .ok (.getfield 60, 3) := by decide +kernel
theorem dM_redo_9 : decode prog_8_method_21_code 9 = .ok (.iaload, 1) := by decide +kernel
theorem dM_redo_10 : decode prog_8_method_21_code 10 = .ok (.ifCond .ne 7, 3) := by decide +kernel
theorem dM_redo_13 : decode prog_8_method_21_code 13 = .ok (.iconst 1, 1) := by decide +kernel
theorem dM_redo_14 : decode prog_8_method_21_code 14 = .ok (.goto 4, 3) := by decide +kernel
theorem dM_redo_17 : decode prog_8_method_21_code 17 = .ok (.iconst 0, 1) := by decide +kernel
theorem dM_redo_18 : decode prog_8_method_21_code 18 = .ok (.putfield 57, 3) := by decide +kernel
theorem dM_redo_21 : decode prog_8_method_21_code 21 = .ok (.aload_n 0, 1) := by decide +kernel
theorem dM_redo_22 : decode prog_8_method_21_code 22 = .ok (.getfield 57, 3) := by decide +kernel
theorem dM_redo_25 : decode prog_8_method_21_code 25 = .ok (.ifCond .le 5, 3) := by decide +kernel
theorem dM_redo_28 : decode prog_8_method_21_code 28 = .ok (.iconst 0, 1) := by decide +kernel
theorem dM_redo_29 : decode prog_8_method_21_code 29 = .ok (.ireturn, 1) := by decide +kernel
theorem dM_redo_30 : decode prog_8_method_21_code 30 = .ok (.aload_n 0, 1) := by decide +kernel
theorem dM_redo_31 : decode prog_8_method_21_code 31 = .ok (.getfield 42, 3) := by decide +kernel
theorem dM_redo_34 : decode prog_8_method_21_code 34 = .ok (.aload_n 0, 1) := by decide +kernel
theorem dM_redo_35 : decode prog_8_method_21_code 35 = .ok (.getfield 60, 3) := by decide +kernel
theorem dM_redo_38 : decode prog_8_method_21_code 38 = .ok (.dup2, 1) := by decide +kernel
theorem dM_redo_39 : decode prog_8_method_21_code 39 = .ok (.iaload, 1) := by decide +kernel
theorem dM_redo_40 : decode prog_8_method_21_code 40 = .ok (.iconst 1, 1) := by decide +kernel
theorem dM_redo_41 : decode prog_8_method_21_code 41 = .ok (.isub, 1) := by decide +kernel
theorem dM_redo_42 : decode prog_8_method_21_code 42 = .ok (.iastore, 1) := by decide +kernel
theorem dM_redo_43 : decode prog_8_method_21_code 43 = .ok (.aload_n 0, 1) := by decide +kernel
theorem dM_redo_44 : decode prog_8_method_21_code 44 = .ok (.getfield 36, 3) := by decide +kernel
theorem dM_redo_47 : decode prog_8_method_21_code 47 = .ok (.aload_n 0, 1) := by decide +kernel
theorem dM_redo_48 : decode prog_8_method_21_code 48 = .ok (.getfield 60, 3) := by decide +kernel
theorem dM_redo_51 : decode prog_8_method_21_code 51 = .ok (.aload_n 0, 1) := by decide +kernel
theorem dM_redo_52 : decode prog_8_method_21_code 52 = .ok (.getfield 39, 3) := by decide +kernel
theorem dM_redo_55 : decode prog_8_method_21_code 55 = .ok (.bipush 60, 2) := by decide +kernel
theorem dM_redo_57 : decode prog_8_method_21_code 57 = .ok (.aload_n 0, 1) := by decide +kernel
theorem dM_redo_58 : decode prog_8_method_21_code 58 = .ok (.getfield 60, 3) := by decide +kernel
theorem dM_redo_61 : decode prog_8_method_21_code 61 = .ok (.imul, 1) := by decide +kernel
theorem dM_redo_62 : decode prog_8_method_21_code 62 = .ok (.aload_n 0, 1) := by decide +kernel
theorem dM_redo_63 : decode prog_8_method_21_code 63 = .ok (.getfield 42, 3) := by decide +kernel
theorem dM_redo_66 : decode prog_8_method_21_code 66 = .ok (.aload_n 0, 1) := by decide +kernel
theorem dM_redo_67 : decode prog_8_method_21_code 67 = .ok (.getfield 60, 3) := by decide +kernel
theorem dM_redo_70 : decode prog_8_method_21_code 70 = .ok (.iaload, 1) := by decide +kernel
theorem dM_redo_71 : decode prog_8_method_21_code 71 = .ok (.iadd, 1) := by decide +kernel
theorem dM_redo_72 : decode prog_8_method_21_code 72 = .ok (.iaload, 1) := by decide +kernel
theorem dM_redo_73 : decode prog_8_method_21_code 73 = .ok (.iastore, 1) := by decide +kernel
theorem dM_redo_74 : decode prog_8_method_21_code 74 = .ok (.aload_n 0, 1) := by decide +kernel
theorem dM_redo_75 : decode prog_8_method_21_code 75 = .ok (.invokevirtual 71, 3) := by decide +kernel
theorem dM_redo_78 : decode prog_8_method_21_code 78 = .ok (.ireturn, 1) := by decide +kernel
theorem dM_ancestors_0 : decode prog_8_method_22_code 0 = .ok (.lload_n 1, 1) := by decide +kernel
theorem dM_ancestors_1 : decode prog_8_method_22_code 1 = .ok (.lstore_n 3, 1) := by decide +kernel
theorem dM_ancestors_2 : decode prog_8_method_22_code 2 = .ok (.bipush 59, 2) := by decide +kernel
theorem dM_ancestors_4 : decode prog_8_method_22_code 4 = .ok (.istore 5, 2) := by decide +kernel
theorem dM_ancestors_6 : decode prog_8_method_22_code 6 = .ok (.iload 5, 2) := by decide +kernel
theorem dM_ancestors_8 : decode prog_8_method_22_code 8 = .ok (.ifCond .lt 72, 3) := by decide +kernel
theorem dM_ancestors_11 : decode prog_8_method_22_code 11 = .ok (.lload_n 3, 1) := by decide +kernel
theorem dM_ancestors_12 : decode prog_8_method_22_code 12 = .ok (.iload 5, 2) := by decide +kernel
theorem dM_ancestors_14 : decode prog_8_method_22_code 14 = .ok (.lshr, 1) := by decide +kernel
theorem dM_ancestors_15 : decode prog_8_method_22_code 15 = .ok (.lconst 1, 1) := by decide +kernel
theorem dM_ancestors_16 : decode prog_8_method_22_code 16 = .ok (.land, 1) := by decide +kernel
theorem dM_ancestors_17 : decode prog_8_method_22_code 17 = .ok (.lconst 1, 1) := by decide +kernel
theorem dM_ancestors_18 : decode prog_8_method_22_code 18 = .ok (.lcmp, 1) := by decide +kernel
theorem dM_ancestors_19 : decode prog_8_method_22_code 19 = .ok (.ifCond .ne 55, 3) := by decide +kernel
theorem dM_ancestors_22 : decode prog_8_method_22_code 22 = .ok (.lload_n 3, 1) := by decide +kernel
theorem dM_ancestors_23 : decode prog_8_method_22_code 23 = .ok (.aload_n 0, 1) := by decide +kernel
theorem dM_ancestors_24 : decode prog_8_method_22_code 24 = .ok (.getfield 30, 3) := by decide +kernel
theorem dM_ancestors_27 : decode prog_8_method_22_code 27 = .ok (.iload 5, 2) := by decide +kernel
theorem dM_ancestors_29 : decode prog_8_method_22_code 29 = .ok (.iaload, 1) := by decide +kernel
theorem dM_ancestors_30 : decode prog_8_method_22_code 30 = .ok (.ifCond .ge 7, 3) := by decide +kernel
theorem dM_ancestors_33 : decode prog_8_method_22_code 33 = .ok (.lconst 0, 1) := by decide +kernel
theorem dM_ancestors_34 : decode prog_8_method_22_code 34 = .ok (.goto 12, 3) := by decide +kernel
theorem dM_ancestors_37 : decode prog_8_method_22_code 37 = .ok (.lconst 1, 1) := by decide +kernel
theorem dM_ancestors_38 : decode prog_8_method_22_code 38 = .ok (.aload_n 0, 1) := by decide +kernel
theorem dM_ancestors_39 : decode prog_8_method_22_code 39 = .ok (.getfield 30, 3) := by decide +kernel
theorem dM_ancestors_42 : decode prog_8_method_22_code 42 = .ok (.iload 5, 2) := by decide +kernel
theorem dM_ancestors_44 : decode prog_8_method_22_code 44 = .ok (.iaload, 1) := by decide +kernel
theorem dM_ancestors_45 : decode prog_8_method_22_code 45 = .ok (.lshl, 1) := by decide +kernel
theorem dM_ancestors_46 : decode prog_8_method_22_code 46 = .ok (.lor, 1) := by decide +kernel
theorem dM_ancestors_47 : decode prog_8_method_22_code 47 = .ok (.lstore_n 3, 1) := by decide +kernel
theorem dM_ancestors_48 : decode prog_8_method_22_code 48 = .ok (.lload_n 3, 1) := by decide +kernel
theorem dM_ancestors_49 : decode prog_8_method_22_code 49 = .ok (.aload_n 0, 1) := by decide +kernel
theorem dM_ancestors_50 : decode prog_8_method_22_code 50 = .ok (.getfield 33, 3) := by decide +kernel
theorem dM_ancestors_53 : decode prog_8_method_22_code 53 = .ok (.iload 5, 2) := by decide +kernel
theorem dM_ancestors_55 : decode prog_8_method_22_code 55 = .ok (.iaload, 1) := by decide +kernel
theorem dM_ancestors_56 : decode prog_8_method_22_code 56 = .ok (.ifCond .ge 7, 3) := by decide +kernel
theorem dM_ancestors_59 : decode prog_8_method_22_code 59 = .ok (.lconst 0, 1) := by decide +kernel
theorem dM_ancestors_60 : decode prog_8_method_22_code 60 = .ok (.goto 12, 3) := by decide +kernel
theorem dM_ancestors_63 : decode prog_8_method_22_code 63 = .ok (.lconst 1, 1) := by decide +kernel
theorem dM_ancestors_64 : decode prog_8_method_22_code 64 = .ok (.aload_n 0, 1) := by decide +kernel
theorem dM_ancestors_65 : decode prog_8_method_22_code 65 = .ok (.getfield 33, 3) := by decide +kernel
theorem dM_ancestors_68 : decode prog_8_method_22_code 68 = .ok (.iload 5, 2) := by decide +kernel
theorem dM_ancestors_70 : decode prog_8_method_22_code 70 = .ok (.iaload, 1) := by decide +kernel
theorem dM_ancestors_71 : decode prog_8_method_22_code 71 = .ok (.lshl, 1) := by decide +kernel
theorem dM_ancestors_72 : decode prog_8_method_22_code 72 = .ok (.lor, 1) := by decide +kernel
theorem dM_ancestors_73 : decode prog_8_method_22_code 73 = .ok (.lstore_n 3, 1) := by decide +kernel
theorem dM_ancestors_74 : decode prog_8_method_22_code 74 = .ok (.iinc 5 (-1), 3) := by decide +kernel
theorem dM_ancestors_77 : decode prog_8_method_22_code 77 = .ok (.goto (-71), 3) := by decide +kernel
theorem dM_ancestors_80 : decode prog_8_method_22_code 80 = .ok (.lload_n 3, 1) := by decide +kernel
theorem dM_ancestors_81 : decode prog_8_method_22_code 81 = .ok (.lreturn, 1) := by decide +kernel
theorem dM_baseOf_0 : decode prog_8_method_23_code 0 = .ok (.aload_n 0, 1) := by decide +kernel
theorem dM_baseOf_1 : decode prog_8_method_23_code 1 = .ok (.lconst 1, 1) := by decide +kernel
theorem dM_baseOf_2 : decode prog_8_method_23_code 2 = .ok (.iload_n 1, 1) := by decide +kernel
theorem dM_baseOf_3 : decode prog_8_method_23_code 3 = .ok (.lshl, 1) := by decide +kernel
theorem dM_baseOf_4 : decode prog_8_method_23_code 4 = .ok (.invokevirtual 96, 3) := by decide +kernel
theorem dM_baseOf_7 : decode prog_8_method_23_code 7 = .ok (.aload_n 0, 1) := by decide +kernel
theorem dM_baseOf_8 : decode prog_8_method_23_code 8 = .ok (.lconst 1, 1) := by decide +kernel
theorem dM_baseOf_9 : decode prog_8_method_23_code 9 = .ok (.iload_n 2, 1) := by decide +kernel
theorem dM_baseOf_10 : decode prog_8_method_23_code 10 = .ok (.lshl, 1) := by decide +kernel
theorem dM_baseOf_11 : decode prog_8_method_23_code 11 = .ok (.invokevirtual 96, 3) := by decide +kernel
theorem dM_baseOf_14 : decode prog_8_method_23_code 14 = .ok (.land, 1) := by decide +kernel
theorem dM_baseOf_15 : decode prog_8_method_23_code 15 = .ok (.lstore_n 3, 1) := by decide +kernel
theorem dM_baseOf_16 : decode prog_8_method_23_code 16 = .ok (.bipush 59, 2) := by decide +kernel
theorem dM_baseOf_18 : decode prog_8_method_23_code 18 = .ok (.istore 5, 2) := by decide +kernel
theorem dM_baseOf_20 : decode prog_8_method_23_code 20 = .ok (.lload_n 3, 1) := by decide +kernel
theorem dM_baseOf_21 : decode prog_8_method_23_code 21 = .ok (.iload 5, 2) := by decide +kernel
theorem dM_baseOf_23 : decode prog_8_method_23_code 23 = .ok (.lshr, 1) := by decide +kernel
theorem dM_baseOf_24 : decode prog_8_method_23_code 24 = .ok (.lconst 1, 1) := by decide +kernel
theorem dM_baseOf_25 : decode prog_8_method_23_code 25 = .ok (.land, 1) := by decide +kernel
theorem dM_baseOf_26 : decode prog_8_method_23_code 26 = .ok (.lconst 0, 1) := by decide +kernel
theorem dM_baseOf_27 : decode prog_8_method_23_code 27 = .ok (.lcmp, 1) := by decide +kernel
theorem dM_baseOf_28 : decode prog_8_method_23_code 28 = .ok (.ifCond .ne 9, 3) := by decide +kernel
theorem dM_baseOf_31 : decode prog_8_method_23_code 31 = .ok (.iinc 5 (-1), 3) := by decide +kernel
theorem dM_baseOf_34 : decode prog_8_method_23_code 34 = .ok (.goto (-14), 3) := by decide +kernel
theorem dM_baseOf_37 : decode prog_8_method_23_code 37 = .ok (.iload 5, 2) := by decide +kernel
theorem dM_baseOf_39 : decode prog_8_method_23_code 39 = .ok (.ireturn, 1) := by decide +kernel
theorem dM_choice_0 : decode prog_8_method_24_code 0 = .ok (.iload_n 0, 1) := by decide +kernel
theorem dM_choice_1 : decode prog_8_method_24_code 1 = .ok (.ifCond .ne 15, 3) := by decide +kernel
theorem dM_choice_4 : decode prog_8_method_24_code 4 = .ok (.iload_n 1, 1) := by decide +kernel
theorem dM_choice_5 : decode prog_8_method_24_code 5 = .ok (.ifCond .ne 11, 3) := by decide +kernel
theorem dM_choice_8 : decode prog_8_method_24_code 8 = .ok (.iload_n 2, 1) := by decide +kernel
theorem dM_choice_9 : decode prog_8_method_24_code 9 = .ok (.ifCond .ne 7, 3) := by decide +kernel
theorem dM_choice_12 : decode prog_8_method_24_code 12 = .ok (.iconst 3, 1) := by decide +kernel
theorem dM_choice_13 : decode prog_8_method_24_code 13 = .ok (.goto 20, 3) := by decide +kernel
theorem dM_choice_16 : decode prog_8_method_24_code 16 = .ok (.iload_n 0, 1) := by decide +kernel
theorem dM_choice_17 : decode prog_8_method_24_code 17 = .ok (.ifCond .ne 7, 3) := by decide +kernel
theorem dM_choice_20 : decode prog_8_method_24_code 20 = .ok (.iconst 1, 1) := by decide +kernel
theorem dM_choice_21 : decode prog_8_method_24_code 21 = .ok (.goto 12, 3) := by decide +kernel
theorem dM_choice_24 : decode prog_8_method_24_code 24 = .ok (.iload_n 1, 1) := by decide +kernel
theorem dM_choice_25 : decode prog_8_method_24_code 25 = .ok (.ifCond .ne 7, 3) := by decide +kernel
theorem dM_choice_28 : decode prog_8_method_24_code 28 = .ok (.iconst 2, 1) := by decide +kernel
theorem dM_choice_29 : decode prog_8_method_24_code 29 = .ok (.goto 4, 3) := by decide +kernel
theorem dM_choice_32 : decode prog_8_method_24_code 32 = .ok (.iconst 0, 1) := by decide +kernel
theorem dM_choice_33 : decode prog_8_method_24_code 33 = .ok (.ireturn, 1) := by decide +kernel
theorem dM_mergeNumber_0 : decode prog_8_method_25_code 0 = .ok (.aload_n 0, 1) := by decide +kernel
theorem dM_mergeNumber_1 : decode prog_8_method_25_code 1 = .ok (.getfield 13, 3) := by decide +kernel
theorem dM_mergeNumber_4 : decode prog_8_method_25_code 4 = .ok (.iconst 2, 1) := by decide +kernel
theorem dM_mergeNumber_5 : decode prog_8_method_25_code 5 = .ok (.iload_n 2, 1) := by decide +kernel
theorem dM_mergeNumber_6 : decode prog_8_method_25_code 6 = .ok (.imul, 1) := by decide +kernel
theorem dM_mergeNumber_7 : decode prog_8_method_25_code 7 = .ok (.iload_n 1, 1) := by decide +kernel
theorem dM_mergeNumber_8 : decode prog_8_method_25_code 8 = .ok (.iadd, 1) := by decide +kernel
theorem dM_mergeNumber_9 : decode prog_8_method_25_code 9 = .ok (.iaload, 1) := by decide +kernel
theorem dM_mergeNumber_10 : decode prog_8_method_25_code 10 = .ok (.aload_n 0, 1) := by decide +kernel
theorem dM_mergeNumber_11 : decode prog_8_method_25_code 11 = .ok (.getfield 13, 3) := by decide +kernel
theorem dM_mergeNumber_14 : decode prog_8_method_25_code 14 = .ok (.iconst 2, 1) := by decide +kernel
theorem dM_mergeNumber_15 : decode prog_8_method_25_code 15 = .ok (.iload_n 3, 1) := by decide +kernel
theorem dM_mergeNumber_16 : decode prog_8_method_25_code 16 = .ok (.imul, 1) := by decide +kernel
theorem dM_mergeNumber_17 : decode prog_8_method_25_code 17 = .ok (.iload_n 1, 1) := by decide +kernel
theorem dM_mergeNumber_18 : decode prog_8_method_25_code 18 = .ok (.iadd, 1) := by decide +kernel
theorem dM_mergeNumber_19 : decode prog_8_method_25_code 19 = .ok (.iaload, 1) := by decide +kernel
theorem dM_mergeNumber_20 : decode prog_8_method_25_code 20 = .ok (.if_icmp .ne 7, 3) := by decide +kernel
theorem dM_mergeNumber_23 : decode prog_8_method_25_code 23 = .ok (.iconst 1, 1) := by decide +kernel
theorem dM_mergeNumber_24 : decode prog_8_method_25_code 24 = .ok (.goto 4, 3) := by decide +kernel
theorem dM_mergeNumber_27 : decode prog_8_method_25_code 27 = .ok (.iconst 0, 1) := by decide +kernel
theorem dM_mergeNumber_28 : decode prog_8_method_25_code 28 = .ok (.aload_n 0, 1) := by decide +kernel
theorem dM_mergeNumber_29 : decode prog_8_method_25_code 29 = .ok (.getfield 13, 3) := by decide +kernel
theorem dM_mergeNumber_32 : decode prog_8_method_25_code 32 = .ok (.iconst 2, 1) := by decide +kernel
theorem dM_mergeNumber_33 : decode prog_8_method_25_code 33 = .ok (.iload_n 2, 1) := by decide +kernel
theorem dM_mergeNumber_34 : decode prog_8_method_25_code 34 = .ok (.imul, 1) := by decide +kernel
theorem dM_mergeNumber_35 : decode prog_8_method_25_code 35 = .ok (.iload_n 1, 1) := by decide +kernel
theorem dM_mergeNumber_36 : decode prog_8_method_25_code 36 = .ok (.iadd, 1) := by decide +kernel
theorem dM_mergeNumber_37 : decode prog_8_method_25_code 37 = .ok (.iaload, 1) := by decide +kernel
theorem dM_mergeNumber_38 : decode prog_8_method_25_code 38 = .ok (.aload_n 0, 1) := by decide +kernel
theorem dM_mergeNumber_39 : decode prog_8_method_25_code 39 = .ok (.getfield 13, 3) := by decide +kernel
theorem dM_mergeNumber_42 : decode prog_8_method_25_code 42 = .ok (.iconst 2, 1) := by decide +kernel
theorem dM_mergeNumber_43 : decode prog_8_method_25_code 43 = .ok (.iload 4, 2) := by decide +kernel
theorem dM_mergeNumber_45 : decode prog_8_method_25_code 45 = .ok (.imul, 1) := by decide +kernel
theorem dM_mergeNumber_46 : decode prog_8_method_25_code 46 = .ok (.iload_n 1, 1) := by decide +kernel
theorem dM_mergeNumber_47 : decode prog_8_method_25_code 47 = .ok (.iadd, 1) := by decide +kernel
theorem dM_mergeNumber_48 : decode prog_8_method_25_code 48 = .ok (.iaload, 1) := by decide +kernel
theorem dM_mergeNumber_49 : decode prog_8_method_25_code 49 = .ok (.if_icmp .ne 7, 3) := by decide +kernel
theorem dM_mergeNumber_52 : decode prog_8_method_25_code 52 = .ok (.iconst 1, 1) := by decide +kernel
theorem dM_mergeNumber_53 : decode prog_8_method_25_code 53 = .ok (.goto 4, 3) := by decide +kernel
theorem dM_mergeNumber_56 : decode prog_8_method_25_code 56 = .ok (.iconst 0, 1) := by decide +kernel
theorem dM_mergeNumber_57 : decode prog_8_method_25_code 57 = .ok (.aload_n 0, 1) := by decide +kernel
theorem dM_mergeNumber_58 : decode prog_8_method_25_code 58 = .ok (.getfield 13, 3) := by decide +kernel
theorem dM_mergeNumber_61 : decode prog_8_method_25_code 61 = .ok (.iconst 2, 1) := by decide +kernel
theorem dM_mergeNumber_62 : decode prog_8_method_25_code 62 = .ok (.iload_n 3, 1) := by decide +kernel
theorem dM_mergeNumber_63 : decode prog_8_method_25_code 63 = .ok (.imul, 1) := by decide +kernel
theorem dM_mergeNumber_64 : decode prog_8_method_25_code 64 = .ok (.iload_n 1, 1) := by decide +kernel
theorem dM_mergeNumber_65 : decode prog_8_method_25_code 65 = .ok (.iadd, 1) := by decide +kernel
theorem dM_mergeNumber_66 : decode prog_8_method_25_code 66 = .ok (.iaload, 1) := by decide +kernel
theorem dM_mergeNumber_67 : decode prog_8_method_25_code 67 = .ok (.aload_n 0, 1) := by decide +kernel
theorem dM_mergeNumber_68 : decode prog_8_method_25_code 68 = .ok (.getfield 13, 3) := by decide +kernel
theorem dM_mergeNumber_71 : decode prog_8_method_25_code 71 = .ok (.iconst 2, 1) := by decide +kernel
theorem dM_mergeNumber_72 : decode prog_8_method_25_code 72 = .ok (.iload 4, 2) := by decide +kernel
theorem dM_mergeNumber_74 : decode prog_8_method_25_code 74 = .ok (.imul, 1) := by decide +kernel
theorem dM_mergeNumber_75 : decode prog_8_method_25_code 75 = .ok (.iload_n 1, 1) := by decide +kernel
theorem dM_mergeNumber_76 : decode prog_8_method_25_code 76 = .ok (.iadd, 1) := by decide +kernel
theorem dM_mergeNumber_77 : decode prog_8_method_25_code 77 = .ok (.iaload, 1) := by decide +kernel
theorem dM_mergeNumber_78 : decode prog_8_method_25_code 78 = .ok (.if_icmp .ne 7, 3) := by decide +kernel
theorem dM_mergeNumber_81 : decode prog_8_method_25_code 81 = .ok (.iconst 1, 1) := by decide +kernel
theorem dM_mergeNumber_82 : decode prog_8_method_25_code 82 = .ok (.goto 4, 3) := by decide +kernel
theorem dM_mergeNumber_85 : decode prog_8_method_25_code 85 = .ok (.iconst 0, 1) := by decide +kernel
theorem dM_mergeNumber_86 : decode prog_8_method_25_code 86 = .ok (.invokestatic 100, 3) := by decide +kernel
theorem dM_mergeNumber_89 : decode prog_8_method_25_code 89 = .ok (.istore 6, 2) := by decide +kernel
theorem dM_mergeNumber_91 : decode prog_8_method_25_code 91 = .ok (.aload_n 0, 1) := by decide +kernel
theorem dM_mergeNumber_92 : decode prog_8_method_25_code 92 = .ok (.dup, 1) := by decide +kernel
theorem dM_mergeNumber_93 : decode prog_8_method_25_code 93 = .ok (.getfield 104, 3) := by decide +kernel
theorem dM_mergeNumber_96 : decode prog_8_method_25_code 96 = .ok (.iload 6, 2) := by decide +kernel
theorem dM_mergeNumber_98 : decode prog_8_method_25_code 98 = .ok (.iconst 3, 1) := by decide +kernel
theorem dM_mergeNumber_99 : decode prog_8_method_25_code 99 = .ok (.if_icmp .ne 9, 3) := by decide +kernel
theorem dM_mergeNumber_102 : decode prog_8_method_25_code 102 = .ok (.iconst 1, 1) := by decide +kernel
theorem dM_mergeNumber_103 : decode prog_8_method_25_code 103 = .ok (.iload_n 1, 1) := by decide +kernel
theorem dM_mergeNumber_104 : decode prog_8_method_25_code 104 = .ok (.ishl, 1) := by decide +kernel
theorem dM_mergeNumber_105 : decode prog_8_method_25_code 105 = .ok (.goto 4, 3) := by decide +kernel
theorem dM_mergeNumber_108 : decode prog_8_method_25_code 108 = .ok (.iconst 0, 1) := by decide +kernel
theorem dM_mergeNumber_109 : decode prog_8_method_25_code 109 = .ok (.ior, 1) := by decide +kernel
theorem dM_mergeNumber_110 : decode prog_8_method_25_code 110 = .ok (.putfield 104, 3) := by decide +kernel
theorem dM_mergeNumber_113 : decode prog_8_method_25_code 113 = .ok (.iload 6, 2) := by decide +kernel
theorem dM_mergeNumber_115 : decode prog_8_method_25_code 115 = .ok (.iconst 3, 1) := by decide +kernel
theorem dM_mergeNumber_116 : decode prog_8_method_25_code 116 = .ok (.if_icmp .ne 18, 3) := by decide +kernel
theorem dM_mergeNumber_119 : decode prog_8_method_25_code 119 = .ok (.iload 5, 2) := by decide +kernel
theorem dM_mergeNumber_121 : decode prog_8_method_25_code 121 = .ok (.iconst 2, 1) := by decide +kernel
theorem dM_mergeNumber_122 : decode prog_8_method_25_code 122 = .ok (.if_icmp .ne 8, 3) := by decide +kernel
theorem dM_mergeNumber_125 : decode prog_8_method_25_code 125 = .ok (.iload 4, 2) := by decide +kernel
theorem dM_mergeNumber_127 : decode prog_8_method_25_code 127 = .ok (.goto 29, 3) := by decide +kernel
theorem dM_mergeNumber_130 : decode prog_8_method_25_code 130 = .ok (.iload_n 3, 1) := by decide +kernel
theorem dM_mergeNumber_131 : decode prog_8_method_25_code 131 = .ok (.goto 25, 3) := by decide +kernel
theorem dM_mergeNumber_134 : decode prog_8_method_25_code 134 = .ok (.iload 6, 2) := by decide +kernel
theorem dM_mergeNumber_136 : decode prog_8_method_25_code 136 = .ok (.iconst 1, 1) := by decide +kernel
theorem dM_mergeNumber_137 : decode prog_8_method_25_code 137 = .ok (.if_icmp .ne 7, 3) := by decide +kernel
theorem dM_mergeNumber_140 : decode prog_8_method_25_code 140 = .ok (.iload_n 3, 1) := by decide +kernel
theorem dM_mergeNumber_141 : decode prog_8_method_25_code 141 = .ok (.goto 15, 3) := by decide +kernel
theorem dM_mergeNumber_144 : decode prog_8_method_25_code 144 = .ok (.iload 6, 2) := by decide +kernel
theorem dM_mergeNumber_146 : decode prog_8_method_25_code 146 = .ok (.iconst 2, 1) := by decide +kernel
theorem dM_mergeNumber_147 : decode prog_8_method_25_code 147 = .ok (.if_icmp .ne 8, 3) := by decide +kernel
theorem dM_mergeNumber_150 : decode prog_8_method_25_code 150 = .ok (.iload 4, 2) := by decide +kernel
theorem dM_mergeNumber_152 : decode prog_8_method_25_code 152 = .ok (.goto 4, 3) := by decide +kernel
theorem dM_mergeNumber_155 : decode prog_8_method_25_code 155 = .ok (.iload_n 2, 1) := by decide +kernel
theorem dM_mergeNumber_156 : decode prog_8_method_25_code 156 = .ok (.istore 7, 2) := by decide +kernel
theorem dM_mergeNumber_158 : decode prog_8_method_25_code 158 = .ok (.aload_n 0, 1) := by decide +kernel
theorem dM_mergeNumber_159 : decode prog_8_method_25_code 159 = .ok (.getfield 13, 3) := by decide +kernel
theorem dM_mergeNumber_162 : decode prog_8_method_25_code 162 = .ok (.iconst 2, 1) := by decide +kernel
theorem dM_mergeNumber_163 : decode prog_8_method_25_code 163 = .ok (.aload_n 0, 1) := by decide +kernel
theorem dM_mergeNumber_164 : decode prog_8_method_25_code 164 = .ok (.getfield 7, 3) := by decide +kernel
theorem dM_mergeNumber_167 : decode prog_8_method_25_code 167 = .ok (.imul, 1) := by decide +kernel
theorem dM_mergeNumber_168 : decode prog_8_method_25_code 168 = .ok (.iload_n 1, 1) := by decide +kernel
theorem dM_mergeNumber_169 : decode prog_8_method_25_code 169 = .ok (.iadd, 1) := by decide +kernel
theorem dM_mergeNumber_170 : decode prog_8_method_25_code 170 = .ok (.aload_n 0, 1) := by decide +kernel
theorem dM_mergeNumber_171 : decode prog_8_method_25_code 171 = .ok (.getfield 13, 3) := by decide +kernel
theorem dM_mergeNumber_174 : decode prog_8_method_25_code 174 = .ok (.iconst 2, 1) := by decide +kernel
theorem dM_mergeNumber_175 : decode prog_8_method_25_code 175 = .ok (.iload 7, 2) := by decide +kernel
theorem dM_mergeNumber_177 : decode prog_8_method_25_code 177 = .ok (.imul, 1) := by decide +kernel
theorem dM_mergeNumber_178 : decode prog_8_method_25_code 178 = .ok (.iload_n 1, 1) := by decide +kernel
theorem dM_mergeNumber_179 : decode prog_8_method_25_code 179 = .ok (.iadd, 1) := by decide +kernel
theorem dM_mergeNumber_180 : decode prog_8_method_25_code 180 = .ok (.iaload, 1) := by decide +kernel
theorem dM_mergeNumber_181 : decode prog_8_method_25_code 181 = .ok (.iastore, 1) := by decide +kernel
theorem dM_mergeNumber_182 : decode prog_8_method_25_code 182 = .ok (.return_, 1) := by decide +kernel
theorem dM_at_0 : decode prog_8_method_26_code 0 = .ok (.aload_n 0, 1) := by decide +kernel
theorem dM_at_1 : decode prog_8_method_26_code 1 = .ok (.getfield 24, 3) := by decide +kernel
theorem dM_at_4 : decode prog_8_method_26_code 4 = .ok (.bipush 16, 2) := by decide +kernel
theorem dM_at_6 : decode prog_8_method_26_code 6 = .ok (.iload_n 1, 1) := by decide +kernel
theorem dM_at_7 : decode prog_8_method_26_code 7 = .ok (.imul, 1) := by decide +kernel
theorem dM_at_8 : decode prog_8_method_26_code 8 = .ok (.bipush 8, 2) := by decide +kernel
theorem dM_at_10 : decode prog_8_method_26_code 10 = .ok (.iload_n 2, 1) := by decide +kernel
theorem dM_at_11 : decode prog_8_method_26_code 11 = .ok (.imul, 1) := by decide +kernel
theorem dM_at_12 : decode prog_8_method_26_code 12 = .ok (.iadd, 1) := by decide +kernel
theorem dM_at_13 : decode prog_8_method_26_code 13 = .ok (.iload_n 3, 1) := by decide +kernel
theorem dM_at_14 : decode prog_8_method_26_code 14 = .ok (.iadd, 1) := by decide +kernel
theorem dM_at_15 : decode prog_8_method_26_code 15 = .ok (.iaload, 1) := by decide +kernel
theorem dM_at_16 : decode prog_8_method_26_code 16 = .ok (.ireturn, 1) := by decide +kernel
theorem dM_measure_0 : decode prog_8_method_27_code 0 = .ok (.aload_n 0, 1) := by decide +kernel
theorem dM_measure_1 : decode prog_8_method_27_code 1 = .ok (.getfield 27, 3) := by decide +kernel
theorem dM_measure_4 : decode prog_8_method_27_code 4 = .ok (.iconst 2, 1) := by decide +kernel
theorem dM_measure_5 : decode prog_8_method_27_code 5 = .ok (.iload_n 2, 1) := by decide +kernel
theorem dM_measure_6 : decode prog_8_method_27_code 6 = .ok (.imul, 1) := by decide +kernel
theorem dM_measure_7 : decode prog_8_method_27_code 7 = .ok (.iload_n 1, 1) := by decide +kernel
theorem dM_measure_8 : decode prog_8_method_27_code 8 = .ok (.iadd, 1) := by decide +kernel
theorem dM_measure_9 : decode prog_8_method_27_code 9 = .ok (.iaload, 1) := by decide +kernel
theorem dM_measure_10 : decode prog_8_method_27_code 10 = .ok (.istore 5, 2) := by decide +kernel
theorem dM_measure_12 : decode prog_8_method_27_code 12 = .ok (.aload_n 0, 1) := by decide +kernel
theorem dM_measure_13 : decode prog_8_method_27_code 13 = .ok (.getfield 27, 3) := by decide +kernel
theorem dM_measure_16 : decode prog_8_method_27_code 16 = .ok (.iconst 2, 1) := by decide +kernel
theorem dM_measure_17 : decode prog_8_method_27_code 17 = .ok (.iload_n 3, 1) := by decide +kernel
theorem dM_measure_18 : decode prog_8_method_27_code 18 = .ok (.imul, 1) := by decide +kernel
theorem dM_measure_19 : decode prog_8_method_27_code 19 = .ok (.iload_n 1, 1) := by decide +kernel
theorem dM_measure_20 : decode prog_8_method_27_code 20 = .ok (.iadd, 1) := by decide +kernel
theorem dM_measure_21 : decode prog_8_method_27_code 21 = .ok (.iaload, 1) := by decide +kernel
theorem dM_measure_22 : decode prog_8_method_27_code 22 = .ok (.istore 6, 2) := by decide +kernel
theorem dM_measure_24 : decode prog_8_method_27_code 24 = .ok (.iconst 0, 1) := by decide +kernel
theorem dM_measure_25 : decode prog_8_method_27_code 25 = .ok (.istore 7, 2) := by decide +kernel
theorem dM_measure_27 : decode prog_8_method_27_code 27 = .ok (.iload 7, 2) := by decide +kernel
theorem dM_measure_29 : decode prog_8_method_27_code 29 = .ok (.iload 5, 2) := by decide +kernel
theorem dM_measure_31 : decode prog_8_method_27_code 31 = .ok (.if_icmp .ge 35, 3) := by decide +kernel
theorem dM_measure_34 : decode prog_8_method_27_code 34 = .ok (.iload 7, 2) := by decide +kernel
theorem dM_measure_36 : decode prog_8_method_27_code 36 = .ok (.iload 6, 2) := by decide +kernel
theorem dM_measure_38 : decode prog_8_method_27_code 38 = .ok (.if_icmp .ge 28, 3) := by decide +kernel
theorem dM_measure_41 : decode prog_8_method_27_code 41 = .ok (.aload_n 0, 1) := by decide +kernel
theorem dM_measure_42 : decode prog_8_method_27_code 42 = .ok (.iload_n 2, 1) := by decide +kernel
theorem dM_measure_43 : decode prog_8_method_27_code 43 = .ok (.iload_n 1, 1) := by decide +kernel
theorem dM_measure_44 : decode prog_8_method_27_code 44 = .ok (.iload 7, 2) := by decide +kernel
theorem dM_measure_46 : decode prog_8_method_27_code 46 = .ok (.invokevirtual 107, 3) := by decide +kernel
theorem dM_measure_49 : decode prog_8_method_27_code 49 = .ok (.aload_n 0, 1) := by decide +kernel
theorem dM_measure_50 : decode prog_8_method_27_code 50 = .ok (.iload_n 3, 1) := by decide +kernel
theorem dM_measure_51 : decode prog_8_method_27_code 51 = .ok (.iload_n 1, 1) := by decide +kernel
theorem dM_measure_52 : decode prog_8_method_27_code 52 = .ok (.iload 7, 2) := by decide +kernel
theorem dM_measure_54 : decode prog_8_method_27_code 54 = .ok (.invokevirtual 107, 3) := by decide +kernel
theorem dM_measure_57 : decode prog_8_method_27_code 57 = .ok (.if_icmp .ne 9, 3) := by decide +kernel
theorem dM_measure_60 : decode prog_8_method_27_code 60 = .ok (.iinc 7 1, 3) := by decide +kernel
theorem dM_measure_63 : decode prog_8_method_27_code 63 = .ok (.goto (-36), 3) := by decide +kernel
theorem dM_measure_66 : decode prog_8_method_27_code 66 = .ok (.iconst 0, 1) := by decide +kernel
theorem dM_measure_67 : decode prog_8_method_27_code 67 = .ok (.istore 8, 2) := by decide +kernel
theorem dM_measure_69 : decode prog_8_method_27_code 69 = .ok (.iload 8, 2) := by decide +kernel
theorem dM_measure_71 : decode prog_8_method_27_code 71 = .ok (.iload 5, 2) := by decide +kernel
theorem dM_measure_73 : decode prog_8_method_27_code 73 = .ok (.iload 7, 2) := by decide +kernel
theorem dM_measure_75 : decode prog_8_method_27_code 75 = .ok (.isub, 1) := by decide +kernel
theorem dM_measure_76 : decode prog_8_method_27_code 76 = .ok (.if_icmp .ge 48, 3) := by decide +kernel
theorem dM_measure_79 : decode prog_8_method_27_code 79 = .ok (.iload 8, 2) := by decide +kernel
theorem dM_measure_81 : decode prog_8_method_27_code 81 = .ok (.iload 6, 2) := by decide +kernel
theorem dM_measure_83 : decode prog_8_method_27_code 83 = .ok (.iload 7, 2) := by decide +kernel
theorem dM_measure_85 : decode prog_8_method_27_code 85 = .ok (.isub, 1) := by decide +kernel
theorem dM_measure_86 : decode prog_8_method_27_code 86 = .ok (.if_icmp .ge 38, 3) := by decide +kernel
theorem dM_measure_89 : decode prog_8_method_27_code 89 = .ok (.aload_n 0, 1) := by decide +kernel
theorem dM_measure_90 : decode prog_8_method_27_code 90 = .ok (.iload_n 2, 1) := by decide +kernel
theorem dM_measure_91 : decode prog_8_method_27_code 91 = .ok (.iload_n 1, 1) := by decide +kernel
theorem dM_measure_92 : decode prog_8_method_27_code 92 = .ok (.iload 5, 2) := by decide +kernel
theorem dM_measure_94 : decode prog_8_method_27_code 94 = .ok (.iconst 1, 1) := by decide +kernel
theorem dM_measure_95 : decode prog_8_method_27_code 95 = .ok (.isub, 1) := by decide +kernel
theorem dM_measure_96 : decode prog_8_method_27_code 96 = .ok (.iload 8, 2) := by decide +kernel
theorem dM_measure_98 : decode prog_8_method_27_code 98 = .ok (.isub, 1) := by decide +kernel
theorem dM_measure_99 : decode prog_8_method_27_code 99 = .ok (.invokevirtual 107, 3) := by decide +kernel
theorem dM_measure_102 : decode prog_8_method_27_code 102 = .ok (.aload_n 0, 1) := by decide +kernel
theorem dM_measure_103 : decode prog_8_method_27_code 103 = .ok (.iload_n 3, 1) := by decide +kernel
theorem dM_measure_104 : decode prog_8_method_27_code 104 = .ok (.iload_n 1, 1) := by decide +kernel
theorem dM_measure_105 : decode prog_8_method_27_code 105 = .ok (.iload 6, 2) := by decide +kernel
theorem dM_measure_107 : decode prog_8_method_27_code 107 = .ok (.iconst 1, 1) := by decide +kernel
theorem dM_measure_108 : decode prog_8_method_27_code 108 = .ok (.isub, 1) := by decide +kernel
theorem dM_measure_109 : decode prog_8_method_27_code 109 = .ok (.iload 8, 2) := by decide +kernel
theorem dM_measure_111 : decode prog_8_method_27_code 111 = .ok (.isub, 1) := by decide +kernel
theorem dM_measure_112 : decode prog_8_method_27_code 112 = .ok (.invokevirtual 107, 3) := by decide +kernel
theorem dM_measure_115 : decode prog_8_method_27_code 115 = .ok (.if_icmp .ne 9, 3) := by decide +kernel
theorem dM_measure_118 : decode prog_8_method_27_code 118 = .ok (.iinc 8 1, 3) := by decide +kernel
theorem dM_measure_121 : decode prog_8_method_27_code 121 = .ok (.goto (-52), 3) := by decide +kernel
theorem dM_measure_124 : decode prog_8_method_27_code 124 = .ok (.aload_n 0, 1) := by decide +kernel
theorem dM_measure_125 : decode prog_8_method_27_code 125 = .ok (.getfield 48, 3) := by decide +kernel
theorem dM_measure_128 : decode prog_8_method_27_code 128 = .ok (.iload 4, 2) := by decide +kernel
theorem dM_measure_130 : decode prog_8_method_27_code 130 = .ok (.iload 7, 2) := by decide +kernel
theorem dM_measure_132 : decode prog_8_method_27_code 132 = .ok (.iastore, 1) := by decide +kernel
theorem dM_measure_133 : decode prog_8_method_27_code 133 = .ok (.aload_n 0, 1) := by decide +kernel
theorem dM_measure_134 : decode prog_8_method_27_code 134 = .ok (.getfield 51, 3) := by decide +kernel
theorem dM_measure_137 : decode prog_8_method_27_code 137 = .ok (.iload 4, 2) := by decide +kernel
theorem dM_measure_139 : decode prog_8_method_27_code 139 = .ok (.iload 5, 2) := by decide +kernel
theorem dM_measure_141 : decode prog_8_method_27_code 141 = .ok (.iload 8, 2) := by decide +kernel
theorem dM_measure_143 : decode prog_8_method_27_code 143 = .ok (.isub, 1) := by decide +kernel
theorem dM_measure_144 : decode prog_8_method_27_code 144 = .ok (.iastore, 1) := by decide +kernel
theorem dM_measure_145 : decode prog_8_method_27_code 145 = .ok (.aload_n 0, 1) := by decide +kernel
theorem dM_measure_146 : decode prog_8_method_27_code 146 = .ok (.getfield 54, 3) := by decide +kernel
theorem dM_measure_149 : decode prog_8_method_27_code 149 = .ok (.iload 4, 2) := by decide +kernel
theorem dM_measure_151 : decode prog_8_method_27_code 151 = .ok (.iload 6, 2) := by decide +kernel
theorem dM_measure_153 : decode prog_8_method_27_code 153 = .ok (.iload 8, 2) := by decide +kernel
theorem dM_measure_155 : decode prog_8_method_27_code 155 = .ok (.isub, 1) := by decide +kernel
theorem dM_measure_156 : decode prog_8_method_27_code 156 = .ok (.iastore, 1) := by decide +kernel
theorem dM_measure_157 : decode prog_8_method_27_code 157 = .ok (.return_, 1) := by decide +kernel
theorem dM_take_0 : decode prog_8_method_28_code 0 = .ok (.iload_n 3, 1) := by decide +kernel
theorem dM_take_1 : decode prog_8_method_28_code 1 = .ok (.istore 5, 2) := by decide +kernel
theorem dM_take_3 : decode prog_8_method_28_code 3 = .ok (.iload 5, 2) := by decide +kernel
theorem dM_take_5 : decode prog_8_method_28_code 5 = .ok (.iload 4, 2) := by decide +kernel
theorem dM_take_7 : decode prog_8_method_28_code 7 = .ok (.if_icmp .ge 36, 3) := by decide +kernel
theorem dM_take_10 : decode prog_8_method_28_code 10 = .ok (.aload_n 0, 1) := by decide +kernel
theorem dM_take_11 : decode prog_8_method_28_code 11 = .ok (.getfield 45, 3) := by decide +kernel
theorem dM_take_14 : decode prog_8_method_28_code 14 = .ok (.aload_n 0, 1) := by decide +kernel
theorem dM_take_15 : decode prog_8_method_28_code 15 = .ok (.getfield 111, 3) := by decide +kernel
theorem dM_take_18 : decode prog_8_method_28_code 18 = .ok (.aload_n 0, 1) := by decide +kernel
theorem dM_take_19 : decode prog_8_method_28_code 19 = .ok (.iload_n 1, 1) := by decide +kernel
theorem dM_take_20 : decode prog_8_method_28_code 20 = .ok (.iload_n 2, 1) := by decide +kernel
theorem dM_take_21 : decode prog_8_method_28_code 21 = .ok (.iload 5, 2) := by decide +kernel
theorem dM_take_23 : decode prog_8_method_28_code 23 = .ok (.invokevirtual 107, 3) := by decide +kernel
theorem dM_take_26 : decode prog_8_method_28_code 26 = .ok (.iastore, 1) := by decide +kernel
theorem dM_take_27 : decode prog_8_method_28_code 27 = .ok (.aload_n 0, 1) := by decide +kernel
theorem dM_take_28 : decode prog_8_method_28_code 28 = .ok (.dup, 1) := by decide +kernel
theorem dM_take_29 : decode prog_8_method_28_code 29 = .ok (.getfield 111, 3) := by decide +kernel
theorem dM_take_32 : decode prog_8_method_28_code 32 = .ok (.iconst 1, 1) := by decide +kernel
theorem dM_take_33 : decode prog_8_method_28_code 33 = .ok (.iadd, 1) := by decide +kernel
theorem dM_take_34 : decode prog_8_method_28_code 34 = .ok (.putfield 111, 3) := by decide +kernel
theorem dM_take_37 : decode prog_8_method_28_code 37 = .ok (.iinc 5 1, 3) := by decide +kernel
theorem dM_take_40 : decode prog_8_method_28_code 40 = .ok (.goto (-37), 3) := by decide +kernel
theorem dM_take_43 : decode prog_8_method_28_code 43 = .ok (.return_, 1) := by decide +kernel
theorem dM_join_0 : decode prog_8_method_29_code 0 = .ok (.aload_n 0, 1) := by decide +kernel
theorem dM_join_1 : decode prog_8_method_29_code 1 = .ok (.iload_n 1, 1) := by decide +kernel
theorem dM_join_2 : decode prog_8_method_29_code 2 = .ok (.iload_n 2, 1) := by decide +kernel
theorem dM_join_3 : decode prog_8_method_29_code 3 = .ok (.iload_n 3, 1) := by decide +kernel
theorem dM_join_4 : decode prog_8_method_29_code 4 = .ok (.iconst 0, 1) := by decide +kernel
theorem dM_join_5 : decode prog_8_method_29_code 5 = .ok (.invokevirtual 114, 3) := by decide +kernel
theorem dM_join_8 : decode prog_8_method_29_code 8 = .ok (.aload_n 0, 1) := by decide +kernel
theorem dM_join_9 : decode prog_8_method_29_code 9 = .ok (.iload_n 1, 1) := by decide +kernel
theorem dM_join_10 : decode prog_8_method_29_code 10 = .ok (.iload_n 2, 1) := by decide +kernel
theorem dM_join_11 : decode prog_8_method_29_code 11 = .ok (.iload 4, 2) := by decide +kernel
theorem dM_join_13 : decode prog_8_method_29_code 13 = .ok (.iconst 1, 1) := by decide +kernel
theorem dM_join_14 : decode prog_8_method_29_code 14 = .ok (.invokevirtual 114, 3) := by decide +kernel
theorem dM_join_17 : decode prog_8_method_29_code 17 = .ok (.aload_n 0, 1) := by decide +kernel
theorem dM_join_18 : decode prog_8_method_29_code 18 = .ok (.getfield 51, 3) := by decide +kernel
theorem dM_join_21 : decode prog_8_method_29_code 21 = .ok (.iconst 0, 1) := by decide +kernel
theorem dM_join_22 : decode prog_8_method_29_code 22 = .ok (.iaload, 1) := by decide +kernel
theorem dM_join_23 : decode prog_8_method_29_code 23 = .ok (.aload_n 0, 1) := by decide +kernel
theorem dM_join_24 : decode prog_8_method_29_code 24 = .ok (.getfield 48, 3) := by decide +kernel
theorem dM_join_27 : decode prog_8_method_29_code 27 = .ok (.iconst 1, 1) := by decide +kernel
theorem dM_join_28 : decode prog_8_method_29_code 28 = .ok (.iaload, 1) := by decide +kernel
theorem dM_join_29 : decode prog_8_method_29_code 29 = .ok (.if_icmp .gt 7, 3) := by decide +kernel
theorem dM_join_32 : decode prog_8_method_29_code 32 = .ok (.iconst 1, 1) := by decide +kernel
theorem dM_join_33 : decode prog_8_method_29_code 33 = .ok (.goto 4, 3) := by decide +kernel
theorem dM_join_36 : decode prog_8_method_29_code 36 = .ok (.iconst 0, 1) := by decide +kernel
theorem dM_join_37 : decode prog_8_method_29_code 37 = .ok (.istore 5, 2) := by decide +kernel
theorem dM_join_39 : decode prog_8_method_29_code 39 = .ok (.aload_n 0, 1) := by decide +kernel
theorem dM_join_40 : decode prog_8_method_29_code 40 = .ok (.getfield 51, 3) := by decide +kernel
theorem dM_join_43 : decode prog_8_method_29_code 43 = .ok (.iconst 1, 1) := by decide +kernel
theorem dM_join_44 : decode prog_8_method_29_code 44 = .ok (.iaload, 1) := by decide +kernel
theorem dM_join_45 : decode prog_8_method_29_code 45 = .ok (.aload_n 0, 1) := by decide +kernel
theorem dM_join_46 : decode prog_8_method_29_code 46 = .ok (.getfield 48, 3) := by decide +kernel
theorem dM_join_49 : decode prog_8_method_29_code 49 = .ok (.iconst 0, 1) := by decide +kernel
theorem dM_join_50 : decode prog_8_method_29_code 50 = .ok (.iaload, 1) := by decide +kernel
theorem dM_join_51 : decode prog_8_method_29_code 51 = .ok (.if_icmp .gt 7, 3) := by decide +kernel
theorem dM_join_54 : decode prog_8_method_29_code 54 = .ok (.iconst 1, 1) := by decide +kernel
theorem dM_join_55 : decode prog_8_method_29_code 55 = .ok (.goto 4, 3) := by decide +kernel
theorem dM_join_58 : decode prog_8_method_29_code 58 = .ok (.iconst 0, 1) := by decide +kernel
theorem dM_join_59 : decode prog_8_method_29_code 59 = .ok (.istore 6, 2) := by decide +kernel
theorem dM_join_61 : decode prog_8_method_29_code 61 = .ok (.iload 5, 2) := by decide +kernel
theorem dM_join_63 : decode prog_8_method_29_code 63 = .ok (.iload 6, 2) := by decide +kernel
theorem dM_join_65 : decode prog_8_method_29_code 65 = .ok (.if_icmp .ne 5, 3) := by decide +kernel
theorem dM_join_68 : decode prog_8_method_29_code 68 = .ok (.iconst 0, 1) := by decide +kernel
theorem dM_join_69 : decode prog_8_method_29_code 69 = .ok (.ireturn, 1) := by decide +kernel
theorem dM_join_70 : decode prog_8_method_29_code 70 = .ok (.iload 5, 2) := by decide +kernel
theorem dM_join_72 : decode prog_8_method_29_code 72 = .ok (.ifCond .eq 7, 3) := by decide +kernel
theorem dM_join_75 : decode prog_8_method_29_code 75 = .ok (.iconst 0, 1) := by decide +kernel
theorem dM_join_76 : decode prog_8_method_29_code 76 = .ok (.goto 4, 3) := by decide +kernel
theorem dM_join_79 : decode prog_8_method_29_code 79 = .ok (.iconst 1, 1) := by decide +kernel
theorem dM_join_80 : decode prog_8_method_29_code 80 = .ok (.istore 7, 2) := by decide +kernel
theorem dM_join_82 : decode prog_8_method_29_code 82 = .ok (.aload_n 0, 1) := by decide +kernel
theorem dM_join_83 : decode prog_8_method_29_code 83 = .ok (.iconst 0, 1) := by decide +kernel
theorem dM_join_84 : decode prog_8_method_29_code 84 = .ok (.putfield 111, 3) := by decide +kernel
theorem dM_join_87 : decode prog_8_method_29_code 87 = .ok (.aload_n 0, 1) := by decide +kernel
theorem dM_join_88 : decode prog_8_method_29_code 88 = .ok (.iload_n 2, 1) := by decide +kernel
theorem dM_join_89 : decode prog_8_method_29_code 89 = .ok (.iload_n 1, 1) := by decide +kernel
theorem dM_join_90 : decode prog_8_method_29_code 90 = .ok (.iconst 0, 1) := by decide +kernel
theorem dM_join_91 : decode prog_8_method_29_code 91 = .ok (.aload_n 0, 1) := by decide +kernel
theorem dM_join_92 : decode prog_8_method_29_code 92 = .ok (.getfield 48, 3) := by decide +kernel
theorem dM_join_95 : decode prog_8_method_29_code 95 = .ok (.iload 7, 2) := by decide +kernel
theorem dM_join_97 : decode prog_8_method_29_code 97 = .ok (.iaload, 1) := by decide +kernel
theorem dM_join_98 : decode prog_8_method_29_code 98 = .ok (.invokevirtual 118, 3) := by decide +kernel
theorem dM_join_101 : decode prog_8_method_29_code 101 = .ok (.aload_n 0, 1) := by decide +kernel
theorem dM_join_102 : decode prog_8_method_29_code 102 = .ok (.iload 5, 2) := by decide +kernel
theorem dM_join_104 : decode prog_8_method_29_code 104 = .ok (.ifCond .eq 7, 3) := by decide +kernel
theorem dM_join_107 : decode prog_8_method_29_code 107 = .ok (.iload_n 3, 1) := by decide +kernel
theorem dM_join_108 : decode prog_8_method_29_code 108 = .ok (.goto 5, 3) := by decide +kernel
theorem dM_join_111 : decode prog_8_method_29_code 111 = .ok (.iload 4, 2) := by decide +kernel
theorem dM_join_113 : decode prog_8_method_29_code 113 = .ok (.iload_n 1, 1) := by decide +kernel
theorem dM_join_114 : decode prog_8_method_29_code 114 = .ok (.aload_n 0, 1) := by decide +kernel
theorem dM_join_115 : decode prog_8_method_29_code 115 = .ok (.getfield 48, 3) := by decide +kernel
theorem dM_join_118 : decode prog_8_method_29_code 118 = .ok (.iload 7, 2) := by decide +kernel
theorem dM_join_120 : decode prog_8_method_29_code 120 = .ok (.iaload, 1) := by decide +kernel
theorem dM_join_121 : decode prog_8_method_29_code 121 = .ok (.aload_n 0, 1) := by decide +kernel
theorem dM_join_122 : decode prog_8_method_29_code 122 = .ok (.getfield 54, 3) := by decide +kernel
theorem dM_join_125 : decode prog_8_method_29_code 125 = .ok (.iload 7, 2) := by decide +kernel
theorem dM_join_127 : decode prog_8_method_29_code 127 = .ok (.iaload, 1) := by decide +kernel
theorem dM_join_128 : decode prog_8_method_29_code 128 = .ok (.invokevirtual 118, 3) := by decide +kernel
theorem dM_join_131 : decode prog_8_method_29_code 131 = .ok (.aload_n 0, 1) := by decide +kernel
theorem dM_join_132 : decode prog_8_method_29_code 132 = .ok (.iload_n 2, 1) := by decide +kernel
theorem dM_join_133 : decode prog_8_method_29_code 133 = .ok (.iload_n 1, 1) := by decide +kernel
theorem dM_join_134 : decode prog_8_method_29_code 134 = .ok (.aload_n 0, 1) := by decide +kernel
theorem dM_join_135 : decode prog_8_method_29_code 135 = .ok (.getfield 51, 3) := by decide +kernel
theorem dM_join_138 : decode prog_8_method_29_code 138 = .ok (.iload 7, 2) := by decide +kernel
theorem dM_join_140 : decode prog_8_method_29_code 140 = .ok (.iaload, 1) := by decide +kernel
theorem dM_join_141 : decode prog_8_method_29_code 141 = .ok (.aload_n 0, 1) := by decide +kernel
theorem dM_join_142 : decode prog_8_method_29_code 142 = .ok (.getfield 48, 3) := by decide +kernel
theorem dM_join_145 : decode prog_8_method_29_code 145 = .ok (.iconst 1, 1) := by decide +kernel
theorem dM_join_146 : decode prog_8_method_29_code 146 = .ok (.iload 7, 2) := by decide +kernel
theorem dM_join_148 : decode prog_8_method_29_code 148 = .ok (.isub, 1) := by decide +kernel
theorem dM_join_149 : decode prog_8_method_29_code 149 = .ok (.iaload, 1) := by decide +kernel
theorem dM_join_150 : decode prog_8_method_29_code 150 = .ok (.invokevirtual 118, 3) := by decide +kernel
theorem dM_join_153 : decode prog_8_method_29_code 153 = .ok (.aload_n 0, 1) := by decide +kernel
theorem dM_join_154 : decode prog_8_method_29_code 154 = .ok (.iload 5, 2) := by decide +kernel
theorem dM_join_156 : decode prog_8_method_29_code 156 = .ok (.ifCond .eq 8, 3) := by decide +kernel
theorem dM_join_159 : decode prog_8_method_29_code 159 = .ok (.iload 4, 2) := by decide +kernel
theorem dM_join_161 : decode prog_8_method_29_code 161 = .ok (.goto 4, 3) := by decide +kernel
theorem dM_join_164 : decode prog_8_method_29_code 164 = .ok (.iload_n 3, 1) := by decide +kernel
theorem dM_join_165 : decode prog_8_method_29_code 165 = .ok (.iload_n 1, 1) := by decide +kernel
theorem dM_join_166 : decode prog_8_method_29_code 166 = .ok (.aload_n 0, 1) := by decide +kernel
theorem dM_join_167 : decode prog_8_method_29_code 167 = .ok (.getfield 48, 3) := by decide +kernel
theorem dM_join_170 : decode prog_8_method_29_code 170 = .ok (.iconst 1, 1) := by decide +kernel
theorem dM_join_171 : decode prog_8_method_29_code 171 = .ok (.iload 7, 2) := by decide +kernel
theorem dM_join_173 : decode prog_8_method_29_code 173 = .ok (.isub, 1) := by decide +kernel
theorem dM_join_174 : decode prog_8_method_29_code 174 = .ok (.iaload, 1) := by decide +kernel
theorem dM_join_175 : decode prog_8_method_29_code 175 = .ok (.aload_n 0, 1) := by decide +kernel
theorem dM_join_176 : decode prog_8_method_29_code 176 = .ok (.getfield 54, 3) := by decide +kernel
theorem dM_join_179 : decode prog_8_method_29_code 179 = .ok (.iconst 1, 1) := by decide +kernel
theorem dM_join_180 : decode prog_8_method_29_code 180 = .ok (.iload 7, 2) := by decide +kernel
theorem dM_join_182 : decode prog_8_method_29_code 182 = .ok (.isub, 1) := by decide +kernel
theorem dM_join_183 : decode prog_8_method_29_code 183 = .ok (.iaload, 1) := by decide +kernel
theorem dM_join_184 : decode prog_8_method_29_code 184 = .ok (.invokevirtual 118, 3) := by decide +kernel
theorem dM_join_187 : decode prog_8_method_29_code 187 = .ok (.aload_n 0, 1) := by decide +kernel
theorem dM_join_188 : decode prog_8_method_29_code 188 = .ok (.iload_n 2, 1) := by decide +kernel
theorem dM_join_189 : decode prog_8_method_29_code 189 = .ok (.iload_n 1, 1) := by decide +kernel
theorem dM_join_190 : decode prog_8_method_29_code 190 = .ok (.aload_n 0, 1) := by decide +kernel
theorem dM_join_191 : decode prog_8_method_29_code 191 = .ok (.getfield 51, 3) := by decide +kernel
theorem dM_join_194 : decode prog_8_method_29_code 194 = .ok (.iconst 1, 1) := by decide +kernel
theorem dM_join_195 : decode prog_8_method_29_code 195 = .ok (.iload 7, 2) := by decide +kernel
theorem dM_join_197 : decode prog_8_method_29_code 197 = .ok (.isub, 1) := by decide +kernel
theorem dM_join_198 : decode prog_8_method_29_code 198 = .ok (.iaload, 1) := by decide +kernel
theorem dM_join_199 : decode prog_8_method_29_code 199 = .ok (.aload_n 0, 1) := by decide +kernel
theorem dM_join_200 : decode prog_8_method_29_code 200 = .ok (.getfield 27, 3) := by decide +kernel
theorem dM_join_203 : decode prog_8_method_29_code 203 = .ok (.iconst 2, 1) := by decide +kernel
theorem dM_join_204 : decode prog_8_method_29_code 204 = .ok (.iload_n 2, 1) := by decide +kernel
theorem dM_join_205 : decode prog_8_method_29_code 205 = .ok (.imul, 1) := by decide +kernel
theorem dM_join_206 : decode prog_8_method_29_code 206 = .ok (.iload_n 1, 1) := by decide +kernel
theorem dM_join_207 : decode prog_8_method_29_code 207 = .ok (.iadd, 1) := by decide +kernel
theorem dM_join_208 : decode prog_8_method_29_code 208 = .ok (.iaload, 1) := by decide +kernel
theorem dM_join_209 : decode prog_8_method_29_code 209 = .ok (.invokevirtual 118, 3) := by decide +kernel
theorem dM_join_212 : decode prog_8_method_29_code 212 = .ok (.aload_n 0, 1) := by decide +kernel
theorem dM_join_213 : decode prog_8_method_29_code 213 = .ok (.getfield 111, 3) := by decide +kernel
theorem dM_join_216 : decode prog_8_method_29_code 216 = .ok (.bipush 8, 2) := by decide +kernel
theorem dM_join_218 : decode prog_8_method_29_code 218 = .ok (.if_icmp .gt 7, 3) := by decide +kernel
theorem dM_join_221 : decode prog_8_method_29_code 221 = .ok (.iconst 1, 1) := by decide +kernel
theorem dM_join_222 : decode prog_8_method_29_code 222 = .ok (.goto 4, 3) := by decide +kernel
theorem dM_join_225 : decode prog_8_method_29_code 225 = .ok (.iconst 0, 1) := by decide +kernel
theorem dM_join_226 : decode prog_8_method_29_code 226 = .ok (.ireturn, 1) := by decide +kernel
theorem dM_mergeList_0 : decode prog_8_method_30_code 0 = .ok (.aload_n 0, 1) := by decide +kernel
theorem dM_mergeList_1 : decode prog_8_method_30_code 1 = .ok (.iload_n 2, 1) := by decide +kernel
theorem dM_mergeList_2 : decode prog_8_method_30_code 2 = .ok (.iload_n 3, 1) := by decide +kernel
theorem dM_mergeList_3 : decode prog_8_method_30_code 3 = .ok (.iload_n 1, 1) := by decide +kernel
theorem dM_mergeList_4 : decode prog_8_method_30_code 4 = .ok (.invokevirtual 63, 3) := by decide +kernel
theorem dM_mergeList_7 : decode prog_8_method_30_code 7 = .ok (.aload_n 0, 1) := by decide +kernel
theorem dM_mergeList_8 : decode prog_8_method_30_code 8 = .ok (.iload_n 2, 1) := by decide +kernel
theorem dM_mergeList_9 : decode prog_8_method_30_code 9 = .ok (.iload 4, 2) := by decide +kernel
theorem dM_mergeList_11 : decode prog_8_method_30_code 11 = .ok (.iload_n 1, 1) := by decide +kernel
theorem dM_mergeList_12 : decode prog_8_method_30_code 12 = .ok (.invokevirtual 63, 3) := by decide +kernel
theorem dM_mergeList_15 : decode prog_8_method_30_code 15 = .ok (.aload_n 0, 1) := by decide +kernel
theorem dM_mergeList_16 : decode prog_8_method_30_code 16 = .ok (.iload_n 3, 1) := by decide +kernel
theorem dM_mergeList_17 : decode prog_8_method_30_code 17 = .ok (.iload 4, 2) := by decide +kernel
theorem dM_mergeList_19 : decode prog_8_method_30_code 19 = .ok (.iload_n 1, 1) := by decide +kernel
theorem dM_mergeList_20 : decode prog_8_method_30_code 20 = .ok (.invokevirtual 63, 3) := by decide +kernel
theorem dM_mergeList_23 : decode prog_8_method_30_code 23 = .ok (.invokestatic 100, 3) := by decide +kernel
theorem dM_mergeList_26 : decode prog_8_method_30_code 26 = .ok (.istore 6, 2) := by decide +kernel
theorem dM_mergeList_28 : decode prog_8_method_30_code 28 = .ok (.iload 6, 2) := by decide +kernel
theorem dM_mergeList_30 : decode prog_8_method_30_code 30 = .ok (.iconst 3, 1) := by decide +kernel
theorem dM_mergeList_31 : decode prog_8_method_30_code 31 = .ok (.if_icmp .ne 19, 3) := by decide +kernel
theorem dM_mergeList_34 : decode prog_8_method_30_code 34 = .ok (.aload_n 0, 1) := by decide +kernel
theorem dM_mergeList_35 : decode prog_8_method_30_code 35 = .ok (.iload_n 1, 1) := by decide +kernel
theorem dM_mergeList_36 : decode prog_8_method_30_code 36 = .ok (.iload_n 2, 1) := by decide +kernel
theorem dM_mergeList_37 : decode prog_8_method_30_code 37 = .ok (.iload_n 3, 1) := by decide +kernel
theorem dM_mergeList_38 : decode prog_8_method_30_code 38 = .ok (.iload 4, 2) := by decide +kernel
theorem dM_mergeList_40 : decode prog_8_method_30_code 40 = .ok (.invokevirtual 121, 3) := by decide +kernel
theorem dM_mergeList_43 : decode prog_8_method_30_code 43 = .ok (.ifCond .eq 7, 3) := by decide +kernel
theorem dM_mergeList_46 : decode prog_8_method_30_code 46 = .ok (.iconst 1, 1) := by decide +kernel
theorem dM_mergeList_47 : decode prog_8_method_30_code 47 = .ok (.goto 4, 3) := by decide +kernel
theorem dM_mergeList_50 : decode prog_8_method_30_code 50 = .ok (.iconst 0, 1) := by decide +kernel
theorem dM_mergeList_51 : decode prog_8_method_30_code 51 = .ok (.istore 7, 2) := by decide +kernel
theorem dM_mergeList_53 : decode prog_8_method_30_code 53 = .ok (.aload_n 0, 1) := by decide +kernel
theorem dM_mergeList_54 : decode prog_8_method_30_code 54 = .ok (.dup, 1) := by decide +kernel
theorem dM_mergeList_55 : decode prog_8_method_30_code 55 = .ok (.getfield 104, 3) := by decide +kernel
theorem dM_mergeList_58 : decode prog_8_method_30_code 58 = .ok (.iload 6, 2) := by decide +kernel
theorem dM_mergeList_60 : decode prog_8_method_30_code 60 = .ok (.iconst 3, 1) := by decide +kernel
theorem dM_mergeList_61 : decode prog_8_method_30_code 61 = .ok (.if_icmp .ne 15, 3) := by decide +kernel
theorem dM_mergeList_64 : decode prog_8_method_30_code 64 = .ok (.iload 7, 2) := by decide +kernel
theorem dM_mergeList_66 : decode prog_8_method_30_code 66 = .ok (.ifCond .ne 10, 3) := by decide +kernel
theorem dM_mergeList_69 : decode prog_8_method_30_code 69 = .ok (.bipush 64, 2) := by decide +kernel
theorem dM_mergeList_71 : decode prog_8_method_30_code 71 = .ok (.iload_n 1, 1) := by decide +kernel
theorem dM_mergeList_72 : decode prog_8_method_30_code 72 = .ok (.ishl, 1) := by decide +kernel
theorem dM_mergeList_73 : decode prog_8_method_30_code 73 = .ok (.goto 4, 3) := by decide +kernel
theorem dM_mergeList_76 : decode prog_8_method_30_code 76 = .ok (.iconst 0, 1) := by decide +kernel
theorem dM_mergeList_77 : decode prog_8_method_30_code 77 = .ok (.ior, 1) := by decide +kernel
theorem dM_mergeList_78 : decode prog_8_method_30_code 78 = .ok (.putfield 104, 3) := by decide +kernel
theorem dM_mergeList_81 : decode prog_8_method_30_code 81 = .ok (.iload 7, 2) := by decide +kernel
theorem dM_mergeList_83 : decode prog_8_method_30_code 83 = .ok (.ifCond .ne 72, 3) := by decide +kernel
theorem dM_mergeList_86 : decode prog_8_method_30_code 86 = .ok (.aload_n 0, 1) := by decide +kernel
theorem dM_mergeList_87 : decode prog_8_method_30_code 87 = .ok (.iconst 0, 1) := by decide +kernel
theorem dM_mergeList_88 : decode prog_8_method_30_code 88 = .ok (.putfield 111, 3) := by decide +kernel
theorem dM_mergeList_91 : decode prog_8_method_30_code 91 = .ok (.iload 6, 2) := by decide +kernel
theorem dM_mergeList_93 : decode prog_8_method_30_code 93 = .ok (.iconst 3, 1) := by decide +kernel
theorem dM_mergeList_94 : decode prog_8_method_30_code 94 = .ok (.if_icmp .ne 18, 3) := by decide +kernel
theorem dM_mergeList_97 : decode prog_8_method_30_code 97 = .ok (.iload 5, 2) := by decide +kernel
theorem dM_mergeList_99 : decode prog_8_method_30_code 99 = .ok (.iconst 2, 1) := by decide +kernel
theorem dM_mergeList_100 : decode prog_8_method_30_code 100 = .ok (.if_icmp .ne 8, 3) := by decide +kernel
theorem dM_mergeList_103 : decode prog_8_method_30_code 103 = .ok (.iload 4, 2) := by decide +kernel
theorem dM_mergeList_105 : decode prog_8_method_30_code 105 = .ok (.goto 29, 3) := by decide +kernel
theorem dM_mergeList_108 : decode prog_8_method_30_code 108 = .ok (.iload_n 3, 1) := by decide +kernel
theorem dM_mergeList_109 : decode prog_8_method_30_code 109 = .ok (.goto 25, 3) := by decide +kernel
theorem dM_mergeList_112 : decode prog_8_method_30_code 112 = .ok (.iload 6, 2) := by decide +kernel
theorem dM_mergeList_114 : decode prog_8_method_30_code 114 = .ok (.iconst 1, 1) := by decide +kernel
theorem dM_mergeList_115 : decode prog_8_method_30_code 115 = .ok (.if_icmp .ne 7, 3) := by decide +kernel
theorem dM_mergeList_118 : decode prog_8_method_30_code 118 = .ok (.iload_n 3, 1) := by decide +kernel
theorem dM_mergeList_119 : decode prog_8_method_30_code 119 = .ok (.goto 15, 3) := by decide +kernel
theorem dM_mergeList_122 : decode prog_8_method_30_code 122 = .ok (.iload 6, 2) := by decide +kernel
theorem dM_mergeList_124 : decode prog_8_method_30_code 124 = .ok (.iconst 2, 1) := by decide +kernel
theorem dM_mergeList_125 : decode prog_8_method_30_code 125 = .ok (.if_icmp .ne 8, 3) := by decide +kernel
theorem dM_mergeList_128 : decode prog_8_method_30_code 128 = .ok (.iload 4, 2) := by decide +kernel
theorem dM_mergeList_130 : decode prog_8_method_30_code 130 = .ok (.goto 4, 3) := by decide +kernel
theorem dM_mergeList_133 : decode prog_8_method_30_code 133 = .ok (.iload_n 2, 1) := by decide +kernel
theorem dM_mergeList_134 : decode prog_8_method_30_code 134 = .ok (.istore 8, 2) := by decide +kernel
theorem dM_mergeList_136 : decode prog_8_method_30_code 136 = .ok (.aload_n 0, 1) := by decide +kernel
theorem dM_mergeList_137 : decode prog_8_method_30_code 137 = .ok (.iload 8, 2) := by decide +kernel
theorem dM_mergeList_139 : decode prog_8_method_30_code 139 = .ok (.iload_n 1, 1) := by decide +kernel
theorem dM_mergeList_140 : decode prog_8_method_30_code 140 = .ok (.iconst 0, 1) := by decide +kernel
theorem dM_mergeList_141 : decode prog_8_method_30_code 141 = .ok (.aload_n 0, 1) := by decide +kernel
theorem dM_mergeList_142 : decode prog_8_method_30_code 142 = .ok (.getfield 27, 3) := by decide +kernel
theorem dM_mergeList_145 : decode prog_8_method_30_code 145 = .ok (.iconst 2, 1) := by decide +kernel
theorem dM_mergeList_146 : decode prog_8_method_30_code 146 = .ok (.iload 8, 2) := by decide +kernel
theorem dM_mergeList_148 : decode prog_8_method_30_code 148 = .ok (.imul, 1) := by decide +kernel
theorem dM_mergeList_149 : decode prog_8_method_30_code 149 = .ok (.iload_n 1, 1) := by decide +kernel
theorem dM_mergeList_150 : decode prog_8_method_30_code 150 = .ok (.iadd, 1) := by decide +kernel
theorem dM_mergeList_151 : decode prog_8_method_30_code 151 = .ok (.iaload, 1) := by decide +kernel
theorem dM_mergeList_152 : decode prog_8_method_30_code 152 = .ok (.invokevirtual 118, 3) := by decide +kernel
theorem dM_mergeList_155 : decode prog_8_method_30_code 155 = .ok (.iconst 0, 1) := by decide +kernel
theorem dM_mergeList_156 : decode prog_8_method_30_code 156 = .ok (.istore 8, 2) := by decide +kernel
theorem dM_mergeList_158 : decode prog_8_method_30_code 158 = .ok (.iload 8, 2) := by decide +kernel
theorem dM_mergeList_160 : decode prog_8_method_30_code 160 = .ok (.aload_n 0, 1) := by decide +kernel
theorem dM_mergeList_161 : decode prog_8_method_30_code 161 = .ok (.getfield 111, 3) := by decide +kernel
theorem dM_mergeList_164 : decode prog_8_method_30_code 164 = .ok (.if_icmp .ge 36, 3) := by decide +kernel
theorem dM_mergeList_167 : decode prog_8_method_30_code 167 = .ok (.aload_n 0, 1) := by decide +kernel
theorem dM_mergeList_168 : decode prog_8_method_30_code 168 = .ok (.getfield 24, 3) := by decide +kernel
theorem dM_mergeList_171 : decode prog_8_method_30_code 171 = .ok (.bipush 16, 2) := by decide +kernel
theorem dM_mergeList_173 : decode prog_8_method_30_code 173 = .ok (.aload_n 0, 1) := by decide +kernel
theorem dM_mergeList_174 : decode prog_8_method_30_code 174 = .ok (.getfield 7, 3) := by decide +kernel
theorem dM_mergeList_177 : decode prog_8_method_30_code 177 = .ok (.imul, 1) := by decide +kernel
theorem dM_mergeList_178 : decode prog_8_method_30_code 178 = .ok (.bipush 8, 2) := by decide +kernel
theorem dM_mergeList_180 : decode prog_8_method_30_code 180 = .ok (.iload_n 1, 1) := by decide +kernel
theorem dM_mergeList_181 : decode prog_8_method_30_code 181 = .ok (.imul, 1) := by decide +kernel
theorem dM_mergeList_182 : decode prog_8_method_30_code 182 = .ok (.iadd, 1) := by decide +kernel
theorem dM_mergeList_183 : decode prog_8_method_30_code 183 = .ok (.iload 8, 2) := by decide +kernel
theorem dM_mergeList_185 : decode prog_8_method_30_code 185 = .ok (.iadd, 1) := by decide +kernel
theorem dM_mergeList_186 : decode prog_8_method_30_code 186 = .ok (.aload_n 0, 1) := by decide +kernel
theorem dM_mergeList_187 : decode prog_8_method_30_code 187 = .ok (.getfield 45, 3) := by decide +kernel
theorem dM_mergeList_190 : decode prog_8_method_30_code 190 = .ok (.iload 8, 2) := by decide +kernel
theorem dM_mergeList_192 : decode prog_8_method_30_code 192 = .ok (.iaload, 1) := by decide +kernel
theorem dM_mergeList_193 : decode prog_8_method_30_code 193 = .ok (.iastore, 1) := by decide +kernel
theorem dM_mergeList_194 : decode prog_8_method_30_code 194 = .ok (.iinc 8 1, 3) := by decide +kernel
theorem dM_mergeList_197 : decode prog_8_method_30_code 197 = .ok (.goto (-39), 3) := by decide +kernel
theorem dM_mergeList_200 : decode prog_8_method_30_code 200 = .ok (.aload_n 0, 1) := by decide +kernel
theorem dM_mergeList_201 : decode prog_8_method_30_code 201 = .ok (.getfield 27, 3) := by decide +kernel
theorem dM_mergeList_204 : decode prog_8_method_30_code 204 = .ok (.iconst 2, 1) := by decide +kernel
theorem dM_mergeList_205 : decode prog_8_method_30_code 205 = .ok (.aload_n 0, 1) := by decide +kernel
theorem dM_mergeList_206 : decode prog_8_method_30_code 206 = .ok (.getfield 7, 3) := by decide +kernel
theorem dM_mergeList_209 : decode prog_8_method_30_code 209 = .ok (.imul, 1) := by decide +kernel
theorem dM_mergeList_210 : decode prog_8_method_30_code 210 = .ok (.iload_n 1, 1) := by decide +kernel
theorem dM_mergeList_211 : decode prog_8_method_30_code 211 = .ok (.iadd, 1) := by decide +kernel
theorem dM_mergeList_212 : decode prog_8_method_30_code 212 = .ok (.aload_n 0, 1) := by decide +kernel
theorem dM_mergeList_213 : decode prog_8_method_30_code 213 = .ok (.getfield 111, 3) := by decide +kernel
theorem dM_mergeList_216 : decode prog_8_method_30_code 216 = .ok (.iastore, 1) := by decide +kernel
theorem dM_mergeList_217 : decode prog_8_method_30_code 217 = .ok (.return_, 1) := by decide +kernel
theorem dM_merge_0 : decode prog_8_method_31_code 0 = .ok (.aload_n 0, 1) := by decide +kernel
theorem dM_merge_1 : decode prog_8_method_31_code 1 = .ok (.iconst 0, 1) := by decide +kernel
theorem dM_merge_2 : decode prog_8_method_31_code 2 = .ok (.putfield 104, 3) := by decide +kernel
theorem dM_merge_5 : decode prog_8_method_31_code 5 = .ok (.aload_n 0, 1) := by decide +kernel
theorem dM_merge_6 : decode prog_8_method_31_code 6 = .ok (.iload_n 1, 1) := by decide +kernel
theorem dM_merge_7 : decode prog_8_method_31_code 7 = .ok (.invokestatic 89, 3) := by decide +kernel
theorem dM_merge_10 : decode prog_8_method_31_code 10 = .ok (.ifCond .eq 16, 3) := by decide +kernel
theorem dM_merge_13 : decode prog_8_method_31_code 13 = .ok (.iload_n 2, 1) := by decide +kernel
theorem dM_merge_14 : decode prog_8_method_31_code 14 = .ok (.ifCond .lt 12, 3) := by decide +kernel
theorem dM_merge_17 : decode prog_8_method_31_code 17 = .ok (.iload_n 2, 1) := by decide +kernel
theorem dM_merge_18 : decode prog_8_method_31_code 18 = .ok (.iconst 2, 1) := by decide +kernel
theorem dM_merge_19 : decode prog_8_method_31_code 19 = .ok (.if_icmp .gt 7, 3) := by decide +kernel
theorem dM_merge_22 : decode prog_8_method_31_code 22 = .ok (.iconst 0, 1) := by decide +kernel
theorem dM_merge_23 : decode prog_8_method_31_code 23 = .ok (.goto 4, 3) := by decide +kernel
theorem dM_merge_26 : decode prog_8_method_31_code 26 = .ok (.iconst 1, 1) := by decide +kernel
theorem dM_merge_27 : decode prog_8_method_31_code 27 = .ok (.putfield 57, 3) := by decide +kernel
theorem dM_merge_30 : decode prog_8_method_31_code 30 = .ok (.aload_n 0, 1) := by decide +kernel
theorem dM_merge_31 : decode prog_8_method_31_code 31 = .ok (.getfield 57, 3) := by decide +kernel
theorem dM_merge_34 : decode prog_8_method_31_code 34 = .ok (.ifCond .le 5, 3) := by decide +kernel
theorem dM_merge_37 : decode prog_8_method_31_code 37 = .ok (.iconst 0, 1) := by decide +kernel
theorem dM_merge_38 : decode prog_8_method_31_code 38 = .ok (.ireturn, 1) := by decide +kernel
theorem dM_merge_39 : decode prog_8_method_31_code 39 = .ok (.aload_n 0, 1) := by decide +kernel
theorem dM_merge_40 : decode prog_8_method_31_code 40 = .ok (.invokevirtual 71, 3) := by decide +kernel
theorem dM_merge_43 : decode prog_8_method_31_code 43 = .ok (.istore_n 3, 1) := by decide +kernel
theorem dM_merge_44 : decode prog_8_method_31_code 44 = .ok (.aload_n 0, 1) := by decide +kernel
theorem dM_merge_45 : decode prog_8_method_31_code 45 = .ok (.getfield 36, 3) := by decide +kernel
theorem dM_merge_48 : decode prog_8_method_31_code 48 = .ok (.iload_n 1, 1) := by decide +kernel
theorem dM_merge_49 : decode prog_8_method_31_code 49 = .ok (.iaload, 1) := by decide +kernel
theorem dM_merge_50 : decode prog_8_method_31_code 50 = .ok (.istore 4, 2) := by decide +kernel
theorem dM_merge_52 : decode prog_8_method_31_code 52 = .ok (.aload_n 0, 1) := by decide +kernel
theorem dM_merge_53 : decode prog_8_method_31_code 53 = .ok (.lconst 1, 1) := by decide +kernel
theorem dM_merge_54 : decode prog_8_method_31_code 54 = .ok (.iload_n 3, 1) := by decide +kernel
theorem dM_merge_55 : decode prog_8_method_31_code 55 = .ok (.lshl, 1) := by decide +kernel
theorem dM_merge_56 : decode prog_8_method_31_code 56 = .ok (.invokevirtual 96, 3) := by decide +kernel
theorem dM_merge_59 : decode prog_8_method_31_code 59 = .ok (.iload 4, 2) := by decide +kernel
theorem dM_merge_61 : decode prog_8_method_31_code 61 = .ok (.lshr, 1) := by decide +kernel
theorem dM_merge_62 : decode prog_8_method_31_code 62 = .ok (.lconst 1, 1) := by decide +kernel
theorem dM_merge_63 : decode prog_8_method_31_code 63 = .ok (.land, 1) := by decide +kernel
theorem dM_merge_64 : decode prog_8_method_31_code 64 = .ok (.lconst 1, 1) := by decide +kernel
theorem dM_merge_65 : decode prog_8_method_31_code 65 = .ok (.lcmp, 1) := by decide +kernel
theorem dM_merge_66 : decode prog_8_method_31_code 66 = .ok (.ifCond .ne 5, 3) := by decide +kernel
theorem dM_merge_69 : decode prog_8_method_31_code 69 = .ok (.iconst 0, 1) := by decide +kernel
theorem dM_merge_70 : decode prog_8_method_31_code 70 = .ok (.ireturn, 1) := by decide +kernel
theorem dM_merge_71 : decode prog_8_method_31_code 71 = .ok (.aload_n 0, 1) := by decide +kernel
theorem dM_merge_72 : decode prog_8_method_31_code 72 = .ok (.lconst 1, 1) := by decide +kernel
theorem dM_merge_73 : decode prog_8_method_31_code 73 = .ok (.iload 4, 2) := by decide +kernel
theorem dM_merge_75 : decode prog_8_method_31_code 75 = .ok (.lshl, 1) := by decide +kernel
theorem dM_merge_76 : decode prog_8_method_31_code 76 = .ok (.invokevirtual 96, 3) := by decide +kernel
theorem dM_merge_79 : decode prog_8_method_31_code 79 = .ok (.iload_n 3, 1) := by decide +kernel
theorem dM_merge_80 : decode prog_8_method_31_code 80 = .ok (.lshr, 1) := by decide +kernel
theorem dM_merge_81 : decode prog_8_method_31_code 81 = .ok (.lconst 1, 1) := by decide +kernel
theorem dM_merge_82 : decode prog_8_method_31_code 82 = .ok (.land, 1) := by decide +kernel
theorem dM_merge_83 : decode prog_8_method_31_code 83 = .ok (.lconst 1, 1) := by decide +kernel
theorem dM_merge_84 : decode prog_8_method_31_code 84 = .ok (.lcmp, 1) := by decide +kernel
theorem dM_merge_85 : decode prog_8_method_31_code 85 = .ok (.ifCond .ne 11, 3) := by decide +kernel
theorem dM_merge_88 : decode prog_8_method_31_code 88 = .ok (.aload_n 0, 1) := by decide +kernel
theorem dM_merge_89 : decode prog_8_method_31_code 89 = .ok (.iload 4, 2) := by decide +kernel
theorem dM_merge_91 : decode prog_8_method_31_code 91 = .ok (.invokevirtual 67, 3) := by decide +kernel
theorem dM_merge_94 : decode prog_8_method_31_code 94 = .ok (.iconst 1, 1) := by decide +kernel
theorem dM_merge_95 : decode prog_8_method_31_code 95 = .ok (.ireturn, 1) := by decide +kernel
theorem dM_merge_96 : decode prog_8_method_31_code 96 = .ok (.aload_n 0, 1) := by decide +kernel
theorem dM_merge_97 : decode prog_8_method_31_code 97 = .ok (.iload_n 3, 1) := by decide +kernel
theorem dM_merge_98 : decode prog_8_method_31_code 98 = .ok (.iload 4, 2) := by decide +kernel
theorem dM_merge_100 : decode prog_8_method_31_code 100 = .ok (.invokevirtual 125, 3) := by decide +kernel
theorem dM_merge_103 : decode prog_8_method_31_code 103 = .ok (.istore 5, 2) := by decide +kernel
theorem dM_merge_105 : decode prog_8_method_31_code 105 = .ok (.iconst 0, 1) := by decide +kernel
theorem dM_merge_106 : decode prog_8_method_31_code 106 = .ok (.istore 6, 2) := by decide +kernel
theorem dM_merge_108 : decode prog_8_method_31_code 108 = .ok (.iload 6, 2) := by decide +kernel
theorem dM_merge_110 : decode prog_8_method_31_code 110 = .ok (.iconst 2, 1) := by decide +kernel
theorem dM_merge_111 : decode prog_8_method_31_code 111 = .ok (.if_icmp .ge 151, 3) := by decide +kernel
theorem dM_merge_114 : decode prog_8_method_31_code 114 = .ok (.aload_n 0, 1) := by decide +kernel
theorem dM_merge_115 : decode prog_8_method_31_code 115 = .ok (.iload 6, 2) := by decide +kernel
theorem dM_merge_117 : decode prog_8_method_31_code 117 = .ok (.iload 5, 2) := by decide +kernel
theorem dM_merge_119 : decode prog_8_method_31_code 119 = .ok (.iload_n 3, 1) := by decide +kernel
theorem dM_merge_120 : decode prog_8_method_31_code 120 = .ok (.iload 4, 2) := by decide +kernel
theorem dM_merge_122 : decode prog_8_method_31_code 122 = .ok (.iload_n 2, 1) := by decide +kernel
theorem dM_merge_123 : decode prog_8_method_31_code 123 = .ok (.invokevirtual 128, 3) := by decide +kernel
theorem dM_merge_126 : decode prog_8_method_31_code 126 = .ok (.aload_n 0, 1) := by decide +kernel
theorem dM_merge_127 : decode prog_8_method_31_code 127 = .ok (.getfield 17, 3) := by decide +kernel
theorem dM_merge_130 : decode prog_8_method_31_code 130 = .ok (.iconst 2, 1) := by decide +kernel
theorem dM_merge_131 : decode prog_8_method_31_code 131 = .ok (.aload_n 0, 1) := by decide +kernel
theorem dM_merge_132 : decode prog_8_method_31_code 132 = .ok (.getfield 7, 3) := by decide +kernel
theorem dM_merge_135 : decode prog_8_method_31_code 135 = .ok (.imul, 1) := by decide +kernel
theorem dM_merge_136 : decode prog_8_method_31_code 136 = .ok (.iload 6, 2) := by decide +kernel
theorem dM_merge_138 : decode prog_8_method_31_code 138 = .ok (.iadd, 1) := by decide +kernel
theorem dM_merge_139 : decode prog_8_method_31_code 139 = .ok (.aload_n 0, 1) := by decide +kernel
theorem dM_merge_140 : decode prog_8_method_31_code 140 = .ok (.getfield 17, 3) := by decide +kernel
theorem dM_merge_143 : decode prog_8_method_31_code 143 = .ok (.iconst 2, 1) := by decide +kernel
theorem dM_merge_144 : decode prog_8_method_31_code 144 = .ok (.iload_n 3, 1) := by decide +kernel
theorem dM_merge_145 : decode prog_8_method_31_code 145 = .ok (.imul, 1) := by decide +kernel
theorem dM_merge_146 : decode prog_8_method_31_code 146 = .ok (.iload 6, 2) := by decide +kernel
theorem dM_merge_148 : decode prog_8_method_31_code 148 = .ok (.iadd, 1) := by decide +kernel
theorem dM_merge_149 : decode prog_8_method_31_code 149 = .ok (.laload, 1) := by decide +kernel
theorem dM_merge_150 : decode prog_8_method_31_code 150 = .ok (.aload_n 0, 1) := by decide +kernel
theorem dM_merge_151 : decode prog_8_method_31_code 151 = .ok (.getfield 17, 3) := by decide +kernel
theorem dM_merge_154 : decode prog_8_method_31_code 154 = .ok (.iconst 2, 1) := by decide +kernel
theorem dM_merge_155 : decode prog_8_method_31_code 155 = .ok (.iload 4, 2) := by decide +kernel
theorem dM_merge_157 : decode prog_8_method_31_code 157 = .ok (.imul, 1) := by decide +kernel
theorem dM_merge_158 : decode prog_8_method_31_code 158 = .ok (.iload 6, 2) := by decide +kernel
theorem dM_merge_160 : decode prog_8_method_31_code 160 = .ok (.iadd, 1) := by decide +kernel
theorem dM_merge_161 : decode prog_8_method_31_code 161 = .ok (.laload, 1) := by decide +kernel
theorem dM_merge_162 : decode prog_8_method_31_code 162 = .ok (.ladd, 1) := by decide +kernel
theorem dM_merge_163 : decode prog_8_method_31_code 163 = .ok (.aload_n 0, 1) := by decide +kernel
theorem dM_merge_164 : decode prog_8_method_31_code 164 = .ok (.getfield 17, 3) := by decide +kernel
theorem dM_merge_167 : decode prog_8_method_31_code 167 = .ok (.iconst 2, 1) := by decide +kernel
theorem dM_merge_168 : decode prog_8_method_31_code 168 = .ok (.iload 5, 2) := by decide +kernel
theorem dM_merge_170 : decode prog_8_method_31_code 170 = .ok (.imul, 1) := by decide +kernel
theorem dM_merge_171 : decode prog_8_method_31_code 171 = .ok (.iload 6, 2) := by decide +kernel
theorem dM_merge_173 : decode prog_8_method_31_code 173 = .ok (.iadd, 1) := by decide +kernel
theorem dM_merge_174 : decode prog_8_method_31_code 174 = .ok (.laload, 1) := by decide +kernel
theorem dM_merge_175 : decode prog_8_method_31_code 175 = .ok (.lsub, 1) := by decide +kernel
theorem dM_merge_176 : decode prog_8_method_31_code 176 = .ok (.lastore, 1) := by decide +kernel
theorem dM_merge_177 : decode prog_8_method_31_code 177 = .ok (.aload_n 0, 1) := by decide +kernel
theorem dM_merge_178 : decode prog_8_method_31_code 178 = .ok (.getfield 21, 3) := by decide +kernel
theorem dM_merge_181 : decode prog_8_method_31_code 181 = .ok (.iconst 2, 1) := by decide +kernel
theorem dM_merge_182 : decode prog_8_method_31_code 182 = .ok (.iload_n 3, 1) := by decide +kernel
theorem dM_merge_183 : decode prog_8_method_31_code 183 = .ok (.imul, 1) := by decide +kernel
theorem dM_merge_184 : decode prog_8_method_31_code 184 = .ok (.iload 6, 2) := by decide +kernel
theorem dM_merge_186 : decode prog_8_method_31_code 186 = .ok (.iadd, 1) := by decide +kernel
theorem dM_merge_187 : decode prog_8_method_31_code 187 = .ok (.iaload, 1) := by decide +kernel
theorem dM_merge_188 : decode prog_8_method_31_code 188 = .ok (.istore 7, 2) := by decide +kernel
theorem dM_merge_190 : decode prog_8_method_31_code 190 = .ok (.aload_n 0, 1) := by decide +kernel
theorem dM_merge_191 : decode prog_8_method_31_code 191 = .ok (.getfield 21, 3) := by decide +kernel
theorem dM_merge_194 : decode prog_8_method_31_code 194 = .ok (.iconst 2, 1) := by decide +kernel
theorem dM_merge_195 : decode prog_8_method_31_code 195 = .ok (.iload 4, 2) := by decide +kernel
theorem dM_merge_197 : decode prog_8_method_31_code 197 = .ok (.imul, 1) := by decide +kernel
theorem dM_merge_198 : decode prog_8_method_31_code 198 = .ok (.iload 6, 2) := by decide +kernel
theorem dM_merge_200 : decode prog_8_method_31_code 200 = .ok (.iadd, 1) := by decide +kernel
theorem dM_merge_201 : decode prog_8_method_31_code 201 = .ok (.iaload, 1) := by decide +kernel
theorem dM_merge_202 : decode prog_8_method_31_code 202 = .ok (.istore 8, 2) := by decide +kernel
theorem dM_merge_204 : decode prog_8_method_31_code 204 = .ok (.aload_n 0, 1) := by decide +kernel
theorem dM_merge_205 : decode prog_8_method_31_code 205 = .ok (.getfield 21, 3) := by decide +kernel
theorem dM_merge_208 : decode prog_8_method_31_code 208 = .ok (.iconst 2, 1) := by decide +kernel
theorem dM_merge_209 : decode prog_8_method_31_code 209 = .ok (.aload_n 0, 1) := by decide +kernel
theorem dM_merge_210 : decode prog_8_method_31_code 210 = .ok (.getfield 7, 3) := by decide +kernel
theorem dM_merge_213 : decode prog_8_method_31_code 213 = .ok (.imul, 1) := by decide +kernel
theorem dM_merge_214 : decode prog_8_method_31_code 214 = .ok (.iload 6, 2) := by decide +kernel
theorem dM_merge_216 : decode prog_8_method_31_code 216 = .ok (.iadd, 1) := by decide +kernel
theorem dM_merge_217 : decode prog_8_method_31_code 217 = .ok (.iload 7, 2) := by decide +kernel
theorem dM_merge_219 : decode prog_8_method_31_code 219 = .ok (.iload 8, 2) := by decide +kernel
theorem dM_merge_221 : decode prog_8_method_31_code 221 = .ok (.iand, 1) := by decide +kernel
theorem dM_merge_222 : decode prog_8_method_31_code 222 = .ok (.iload 7, 2) := by decide +kernel
theorem dM_merge_224 : decode prog_8_method_31_code 224 = .ok (.iload 8, 2) := by decide +kernel
theorem dM_merge_226 : decode prog_8_method_31_code 226 = .ok (.ior, 1) := by decide +kernel
theorem dM_merge_227 : decode prog_8_method_31_code 227 = .ok (.aload_n 0, 1) := by decide +kernel
theorem dM_merge_228 : decode prog_8_method_31_code 228 = .ok (.getfield 21, 3) := by decide +kernel
theorem dM_merge_231 : decode prog_8_method_31_code 231 = .ok (.iconst 2, 1) := by decide +kernel
theorem dM_merge_232 : decode prog_8_method_31_code 232 = .ok (.iload 5, 2) := by decide +kernel
theorem dM_merge_234 : decode prog_8_method_31_code 234 = .ok (.imul, 1) := by decide +kernel
theorem dM_merge_235 : decode prog_8_method_31_code 235 = .ok (.iload 6, 2) := by decide +kernel
theorem dM_merge_237 : decode prog_8_method_31_code 237 = .ok (.iadd, 1) := by decide +kernel
theorem dM_merge_238 : decode prog_8_method_31_code 238 = .ok (.iaload, 1) := by decide +kernel
theorem dM_merge_239 : decode prog_8_method_31_code 239 = .ok (.iconst (-1), 1) := by decide +kernel
theorem dM_merge_240 : decode prog_8_method_31_code 240 = .ok (.ixor, 1) := by decide +kernel
theorem dM_merge_241 : decode prog_8_method_31_code 241 = .ok (.iand, 1) := by decide +kernel
theorem dM_merge_242 : decode prog_8_method_31_code 242 = .ok (.ior, 1) := by decide +kernel
theorem dM_merge_243 : decode prog_8_method_31_code 243 = .ok (.iastore, 1) := by decide +kernel
theorem dM_merge_244 : decode prog_8_method_31_code 244 = .ok (.aload_n 0, 1) := by decide +kernel
theorem dM_merge_245 : decode prog_8_method_31_code 245 = .ok (.iload 6, 2) := by decide +kernel
theorem dM_merge_247 : decode prog_8_method_31_code 247 = .ok (.iload 5, 2) := by decide +kernel
theorem dM_merge_249 : decode prog_8_method_31_code 249 = .ok (.iload_n 3, 1) := by decide +kernel
theorem dM_merge_250 : decode prog_8_method_31_code 250 = .ok (.iload 4, 2) := by decide +kernel
theorem dM_merge_252 : decode prog_8_method_31_code 252 = .ok (.iload_n 2, 1) := by decide +kernel
theorem dM_merge_253 : decode prog_8_method_31_code 253 = .ok (.invokevirtual 132, 3) := by decide +kernel
theorem dM_merge_256 : decode prog_8_method_31_code 256 = .ok (.iinc 6 1, 3) := by decide +kernel
theorem dM_merge_259 : decode prog_8_method_31_code 259 = .ok (.goto (-151), 3) := by decide +kernel
theorem dM_merge_262 : decode prog_8_method_31_code 262 = .ok (.aload_n 0, 1) := by decide +kernel
theorem dM_merge_263 : decode prog_8_method_31_code 263 = .ok (.aload_n 0, 1) := by decide +kernel
theorem dM_merge_264 : decode prog_8_method_31_code 264 = .ok (.getfield 104, 3) := by decide +kernel
theorem dM_merge_267 : decode prog_8_method_31_code 267 = .ok (.ifCond .eq 7, 3) := by decide +kernel
theorem dM_merge_270 : decode prog_8_method_31_code 270 = .ok (.iload_n 2, 1) := by decide +kernel
theorem dM_merge_271 : decode prog_8_method_31_code 271 = .ok (.ifCond .eq 12, 3) := by decide +kernel
theorem dM_merge_274 : decode prog_8_method_31_code 274 = .ok (.aload_n 0, 1) := by decide +kernel
theorem dM_merge_275 : decode prog_8_method_31_code 275 = .ok (.getfield 7, 3) := by decide +kernel
theorem dM_merge_278 : decode prog_8_method_31_code 278 = .ok (.bipush 60, 2) := by decide +kernel
theorem dM_merge_280 : decode prog_8_method_31_code 280 = .ok (.if_icmp .ne 7, 3) := by decide +kernel
theorem dM_merge_283 : decode prog_8_method_31_code 283 = .ok (.iconst 2, 1) := by decide +kernel
theorem dM_merge_284 : decode prog_8_method_31_code 284 = .ok (.goto 4, 3) := by decide +kernel
theorem dM_merge_287 : decode prog_8_method_31_code 287 = .ok (.iconst 0, 1) := by decide +kernel
theorem dM_merge_288 : decode prog_8_method_31_code 288 = .ok (.putfield 57, 3) := by decide +kernel
theorem dM_merge_291 : decode prog_8_method_31_code 291 = .ok (.aload_n 0, 1) := by decide +kernel
theorem dM_merge_292 : decode prog_8_method_31_code 292 = .ok (.getfield 57, 3) := by decide +kernel
theorem dM_merge_295 : decode prog_8_method_31_code 295 = .ok (.ifCond .le 5, 3) := by decide +kernel
theorem dM_merge_298 : decode prog_8_method_31_code 298 = .ok (.iconst 0, 1) := by decide +kernel
theorem dM_merge_299 : decode prog_8_method_31_code 299 = .ok (.ireturn, 1) := by decide +kernel
theorem dM_merge_300 : decode prog_8_method_31_code 300 = .ok (.aload_n 0, 1) := by decide +kernel
theorem dM_merge_301 : decode prog_8_method_31_code 301 = .ok (.iload_n 3, 1) := by decide +kernel
theorem dM_merge_302 : decode prog_8_method_31_code 302 = .ok (.iload 4, 2) := by decide +kernel
theorem dM_merge_304 : decode prog_8_method_31_code 304 = .ok (.invokevirtual 79, 3) := by decide +kernel
theorem dM_merge_307 : decode prog_8_method_31_code 307 = .ok (.pop, 1) := by decide +kernel
theorem dM_merge_308 : decode prog_8_method_31_code 308 = .ok (.iconst 2, 1) := by decide +kernel
theorem dM_merge_309 : decode prog_8_method_31_code 309 = .ok (.ireturn, 1) := by decide +kernel
theorem dM_conflicts_0 : decode prog_8_method_32_code 0 = .ok (.aload_n 0, 1) := by decide +kernel
theorem dM_conflicts_1 : decode prog_8_method_32_code 1 = .ok (.iconst 0, 1) := by decide +kernel
theorem dM_conflicts_2 : decode prog_8_method_32_code 2 = .ok (.putfield 57, 3) := by decide +kernel
theorem dM_conflicts_5 : decode prog_8_method_32_code 5 = .ok (.aload_n 0, 1) := by decide +kernel
theorem dM_conflicts_6 : decode prog_8_method_32_code 6 = .ok (.getfield 104, 3) := by decide +kernel
theorem dM_conflicts_9 : decode prog_8_method_32_code 9 = .ok (.ireturn, 1) := by decide +kernel
theorem dM_base_0 : decode prog_8_method_33_code 0 = .ok (.aload_n 0, 1) := by decide +kernel
theorem dM_base_1 : decode prog_8_method_33_code 1 = .ok (.iload_n 1, 1) := by decide +kernel
theorem dM_base_2 : decode prog_8_method_33_code 2 = .ok (.invokestatic 89, 3) := by decide +kernel
theorem dM_base_5 : decode prog_8_method_33_code 5 = .ok (.ifCond .eq 7, 3) := by decide +kernel
theorem dM_base_8 : decode prog_8_method_33_code 8 = .ok (.iconst 0, 1) := by decide +kernel
theorem dM_base_9 : decode prog_8_method_33_code 9 = .ok (.goto 4, 3) := by decide +kernel
theorem dM_base_12 : decode prog_8_method_33_code 12 = .ok (.iconst 1, 1) := by decide +kernel
theorem dM_base_13 : decode prog_8_method_33_code 13 = .ok (.putfield 57, 3) := by decide +kernel
theorem dM_base_16 : decode prog_8_method_33_code 16 = .ok (.aload_n 0, 1) := by decide +kernel
theorem dM_base_17 : decode prog_8_method_33_code 17 = .ok (.getfield 57, 3) := by decide +kernel
theorem dM_base_20 : decode prog_8_method_33_code 20 = .ok (.ifCond .ne 20, 3) := by decide +kernel
theorem dM_base_23 : decode prog_8_method_33_code 23 = .ok (.aload_n 0, 1) := by decide +kernel
theorem dM_base_24 : decode prog_8_method_33_code 24 = .ok (.aload_n 0, 1) := by decide +kernel
theorem dM_base_25 : decode prog_8_method_33_code 25 = .ok (.invokevirtual 71, 3) := by decide +kernel
theorem dM_base_28 : decode prog_8_method_33_code 28 = .ok (.aload_n 0, 1) := by decide +kernel
theorem dM_base_29 : decode prog_8_method_33_code 29 = .ok (.getfield 36, 3) := by decide +kernel
theorem dM_base_32 : decode prog_8_method_33_code 32 = .ok (.iload_n 1, 1) := by decide +kernel
theorem dM_base_33 : decode prog_8_method_33_code 33 = .ok (.iaload, 1) := by decide +kernel
theorem dM_base_34 : decode prog_8_method_33_code 34 = .ok (.invokevirtual 125, 3) := by decide +kernel
theorem dM_base_37 : decode prog_8_method_33_code 37 = .ok (.goto 4, 3) := by decide +kernel
theorem dM_base_40 : decode prog_8_method_33_code 40 = .ok (.iconst 0, 1) := by decide +kernel
theorem dM_base_41 : decode prog_8_method_33_code 41 = .ok (.ireturn, 1) := by decide +kernel
theorem dM_value_0 : decode prog_8_method_34_code 0 = .ok (.aload_n 0, 1) := by decide +kernel
theorem dM_value_1 : decode prog_8_method_34_code 1 = .ok (.aload_n 0, 1) := by decide +kernel
theorem dM_value_2 : decode prog_8_method_34_code 2 = .ok (.iload_n 1, 1) := by decide +kernel
theorem dM_value_3 : decode prog_8_method_34_code 3 = .ok (.invokevirtual 93, 3) := by decide +kernel
theorem dM_value_6 : decode prog_8_method_34_code 6 = .ok (.ifCond .eq 13, 3) := by decide +kernel
theorem dM_value_9 : decode prog_8_method_34_code 9 = .ok (.iload_n 2, 1) := by decide +kernel
theorem dM_value_10 : decode prog_8_method_34_code 10 = .ok (.ifCond .lt 9, 3) := by decide +kernel
theorem dM_value_13 : decode prog_8_method_34_code 13 = .ok (.iload_n 2, 1) := by decide +kernel
theorem dM_value_14 : decode prog_8_method_34_code 14 = .ok (.bipush 7, 2) := by decide +kernel
theorem dM_value_16 : decode prog_8_method_34_code 16 = .ok (.if_icmp .le 7, 3) := by decide +kernel
theorem dM_value_19 : decode prog_8_method_34_code 19 = .ok (.iconst 1, 1) := by decide +kernel
theorem dM_value_20 : decode prog_8_method_34_code 20 = .ok (.goto 4, 3) := by decide +kernel
theorem dM_value_23 : decode prog_8_method_34_code 23 = .ok (.iconst 0, 1) := by decide +kernel
theorem dM_value_24 : decode prog_8_method_34_code 24 = .ok (.putfield 57, 3) := by decide +kernel
theorem dM_value_27 : decode prog_8_method_34_code 27 = .ok (.aload_n 0, 1) := by decide +kernel
theorem dM_value_28 : decode prog_8_method_34_code 28 = .ok (.getfield 57, 3) := by decide +kernel
theorem dM_value_31 : decode prog_8_method_34_code 31 = .ok (.ifCond .le 5, 3) := by decide +kernel
theorem dM_value_34 : decode prog_8_method_34_code 34 = .ok (.lconst 0, 1) := by decide +kernel
theorem dM_value_35 : decode prog_8_method_34_code 35 = .ok (.lreturn, 1) := by decide +kernel
theorem dM_value_36 : decode prog_8_method_34_code 36 = .ok (.iconst 2, 1) := by decide +kernel
theorem dM_value_37 : decode prog_8_method_34_code 37 = .ok (.iload_n 1, 1) := by decide +kernel
theorem dM_value_38 : decode prog_8_method_34_code 38 = .ok (.imul, 1) := by decide +kernel
theorem dM_value_39 : decode prog_8_method_34_code 39 = .ok (.iload_n 2, 1) := by decide +kernel
theorem dM_value_40 : decode prog_8_method_34_code 40 = .ok (.iconst 2, 1) := by decide +kernel
theorem dM_value_41 : decode prog_8_method_34_code 41 = .ok (.irem, 1) := by decide +kernel
theorem dM_value_42 : decode prog_8_method_34_code 42 = .ok (.iadd, 1) := by decide +kernel
theorem dM_value_43 : decode prog_8_method_34_code 43 = .ok (.istore 4, 2) := by decide +kernel
theorem dM_value_45 : decode prog_8_method_34_code 45 = .ok (.iload_n 2, 1) := by decide +kernel
theorem dM_value_46 : decode prog_8_method_34_code 46 = .ok (.bipush 6, 2) := by decide +kernel
theorem dM_value_48 : decode prog_8_method_34_code 48 = .ok (.if_icmp .ge 47, 3) := by decide +kernel
theorem dM_value_51 : decode prog_8_method_34_code 51 = .ok (.iload_n 2, 1) := by decide +kernel
theorem dM_value_52 : decode prog_8_method_34_code 52 = .ok (.iconst 2, 1) := by decide +kernel
theorem dM_value_53 : decode prog_8_method_34_code 53 = .ok (.if_icmp .ge 14, 3) := by decide +kernel
theorem dM_value_56 : decode prog_8_method_34_code 56 = .ok (.aload_n 0, 1) := by decide +kernel
theorem dM_value_57 : decode prog_8_method_34_code 57 = .ok (.getfield 13, 3) := by decide +kernel
theorem dM_value_60 : decode prog_8_method_34_code 60 = .ok (.iload 4, 2) := by decide +kernel
theorem dM_value_62 : decode prog_8_method_34_code 62 = .ok (.iaload, 1) := by decide +kernel
theorem dM_value_63 : decode prog_8_method_34_code 63 = .ok (.i2l, 1) := by decide +kernel
theorem dM_value_64 : decode prog_8_method_34_code 64 = .ok (.goto 30, 3) := by decide +kernel
theorem dM_value_67 : decode prog_8_method_34_code 67 = .ok (.iload_n 2, 1) := by decide +kernel
theorem dM_value_68 : decode prog_8_method_34_code 68 = .ok (.iconst 4, 1) := by decide +kernel
theorem dM_value_69 : decode prog_8_method_34_code 69 = .ok (.if_icmp .ge 13, 3) := by decide +kernel
theorem dM_value_72 : decode prog_8_method_34_code 72 = .ok (.aload_n 0, 1) := by decide +kernel
theorem dM_value_73 : decode prog_8_method_34_code 73 = .ok (.getfield 17, 3) := by decide +kernel
theorem dM_value_76 : decode prog_8_method_34_code 76 = .ok (.iload 4, 2) := by decide +kernel
theorem dM_value_78 : decode prog_8_method_34_code 78 = .ok (.laload, 1) := by decide +kernel
theorem dM_value_79 : decode prog_8_method_34_code 79 = .ok (.goto 15, 3) := by decide +kernel
theorem dM_value_82 : decode prog_8_method_34_code 82 = .ok (.aload_n 0, 1) := by decide +kernel
theorem dM_value_83 : decode prog_8_method_34_code 83 = .ok (.getfield 21, 3) := by decide +kernel
theorem dM_value_86 : decode prog_8_method_34_code 86 = .ok (.iload 4, 2) := by decide +kernel
theorem dM_value_88 : decode prog_8_method_34_code 88 = .ok (.iaload, 1) := by decide +kernel
theorem dM_value_89 : decode prog_8_method_34_code 89 = .ok (.i2l, 1) := by decide +kernel
theorem dM_value_90 : decode prog_8_method_34_code 90 = .ok (.ldc2_w 135, 3) := by decide +kernel
theorem dM_value_93 : decode prog_8_method_34_code 93 = .ok (.land, 1) := by decide +kernel
theorem dM_value_94 : decode prog_8_method_34_code 94 = .ok (.lreturn, 1) := by decide +kernel
theorem dM_value_95 : decode prog_8_method_34_code 95 = .ok (.aload_n 0, 1) := by decide +kernel
theorem dM_value_96 : decode prog_8_method_34_code 96 = .ok (.iload_n 3, 1) := by decide +kernel
theorem dM_value_97 : decode prog_8_method_34_code 97 = .ok (.iconst (-1), 1) := by decide +kernel
theorem dM_value_98 : decode prog_8_method_34_code 98 = .ok (.if_icmp .lt 14, 3) := by decide +kernel
theorem dM_value_101 : decode prog_8_method_34_code 101 = .ok (.iload_n 3, 1) := by decide +kernel
theorem dM_value_102 : decode prog_8_method_34_code 102 = .ok (.aload_n 0, 1) := by decide +kernel
theorem dM_value_103 : decode prog_8_method_34_code 103 = .ok (.getfield 27, 3) := by decide +kernel
theorem dM_value_106 : decode prog_8_method_34_code 106 = .ok (.iload 4, 2) := by decide +kernel
theorem dM_value_108 : decode prog_8_method_34_code 108 = .ok (.iaload, 1) := by decide +kernel
theorem dM_value_109 : decode prog_8_method_34_code 109 = .ok (.if_icmp .lt 7, 3) := by decide +kernel
theorem dM_value_112 : decode prog_8_method_34_code 112 = .ok (.iconst 2, 1) := by decide +kernel
theorem dM_value_113 : decode prog_8_method_34_code 113 = .ok (.goto 4, 3) := by decide +kernel
theorem dM_value_116 : decode prog_8_method_34_code 116 = .ok (.iconst 0, 1) := by decide +kernel
theorem dM_value_117 : decode prog_8_method_34_code 117 = .ok (.putfield 57, 3) := by decide +kernel
theorem dM_value_120 : decode prog_8_method_34_code 120 = .ok (.aload_n 0, 1) := by decide +kernel
theorem dM_value_121 : decode prog_8_method_34_code 121 = .ok (.getfield 57, 3) := by decide +kernel
theorem dM_value_124 : decode prog_8_method_34_code 124 = .ok (.ifCond .le 7, 3) := by decide +kernel
theorem dM_value_127 : decode prog_8_method_34_code 127 = .ok (.lconst 0, 1) := by decide +kernel
theorem dM_value_128 : decode prog_8_method_34_code 128 = .ok (.goto 29, 3) := by decide +kernel
theorem dM_value_131 : decode prog_8_method_34_code 131 = .ok (.iload_n 3, 1) := by decide +kernel
theorem dM_value_132 : decode prog_8_method_34_code 132 = .ok (.ifCond .ge 14, 3) := by decide +kernel
theorem dM_value_135 : decode prog_8_method_34_code 135 = .ok (.aload_n 0, 1) := by decide +kernel
theorem dM_value_136 : decode prog_8_method_34_code 136 = .ok (.getfield 27, 3) := by decide +kernel
theorem dM_value_139 : decode prog_8_method_34_code 139 = .ok (.iload 4, 2) := by decide +kernel
theorem dM_value_141 : decode prog_8_method_34_code 141 = .ok (.iaload, 1) := by decide +kernel
theorem dM_value_142 : decode prog_8_method_34_code 142 = .ok (.i2l, 1) := by decide +kernel
theorem dM_value_143 : decode prog_8_method_34_code 143 = .ok (.goto 14, 3) := by decide +kernel
theorem dM_value_146 : decode prog_8_method_34_code 146 = .ok (.aload_n 0, 1) := by decide +kernel
theorem dM_value_147 : decode prog_8_method_34_code 147 = .ok (.iload_n 1, 1) := by decide +kernel
theorem dM_value_148 : decode prog_8_method_34_code 148 = .ok (.iload_n 2, 1) := by decide +kernel
theorem dM_value_149 : decode prog_8_method_34_code 149 = .ok (.bipush 6, 2) := by decide +kernel
theorem dM_value_151 : decode prog_8_method_34_code 151 = .ok (.isub, 1) := by decide +kernel
theorem dM_value_152 : decode prog_8_method_34_code 152 = .ok (.iload_n 3, 1) := by decide +kernel
theorem dM_value_153 : decode prog_8_method_34_code 153 = .ok (.invokevirtual 107, 3) := by decide +kernel
theorem dM_value_156 : decode prog_8_method_34_code 156 = .ok (.i2l, 1) := by decide +kernel
theorem dM_value_157 : decode prog_8_method_34_code 157 = .ok (.lreturn, 1) := by decide +kernel
theorem dM_differ_0 : decode prog_8_method_35_code 0 = .ok (.aload_n 0, 1) := by decide +kernel
theorem dM_differ_1 : decode prog_8_method_35_code 1 = .ok (.aload_n 0, 1) := by decide +kernel
theorem dM_differ_2 : decode prog_8_method_35_code 2 = .ok (.iload_n 1, 1) := by decide +kernel
theorem dM_differ_3 : decode prog_8_method_35_code 3 = .ok (.invokevirtual 93, 3) := by decide +kernel
theorem dM_differ_6 : decode prog_8_method_35_code 6 = .ok (.ifCond .eq 15, 3) := by decide +kernel
theorem dM_differ_9 : decode prog_8_method_35_code 9 = .ok (.aload_n 0, 1) := by decide +kernel
theorem dM_differ_10 : decode prog_8_method_35_code 10 = .ok (.iload_n 2, 1) := by decide +kernel
theorem dM_differ_11 : decode prog_8_method_35_code 11 = .ok (.invokevirtual 93, 3) := by decide +kernel
theorem dM_differ_14 : decode prog_8_method_35_code 14 = .ok (.ifCond .eq 7, 3) := by decide +kernel
theorem dM_differ_17 : decode prog_8_method_35_code 17 = .ok (.iconst 0, 1) := by decide +kernel
theorem dM_differ_18 : decode prog_8_method_35_code 18 = .ok (.goto 4, 3) := by decide +kernel
theorem dM_differ_21 : decode prog_8_method_35_code 21 = .ok (.iconst 1, 1) := by decide +kernel
theorem dM_differ_22 : decode prog_8_method_35_code 22 = .ok (.putfield 57, 3) := by decide +kernel
theorem dM_differ_25 : decode prog_8_method_35_code 25 = .ok (.aload_n 0, 1) := by decide +kernel
theorem dM_differ_26 : decode prog_8_method_35_code 26 = .ok (.getfield 57, 3) := by decide +kernel
theorem dM_differ_29 : decode prog_8_method_35_code 29 = .ok (.ifCond .ne 12, 3) := by decide +kernel
theorem dM_differ_32 : decode prog_8_method_35_code 32 = .ok (.aload_n 0, 1) := by decide +kernel
theorem dM_differ_33 : decode prog_8_method_35_code 33 = .ok (.iload_n 1, 1) := by decide +kernel
theorem dM_differ_34 : decode prog_8_method_35_code 34 = .ok (.iload_n 2, 1) := by decide +kernel
theorem dM_differ_35 : decode prog_8_method_35_code 35 = .ok (.invokevirtual 75, 3) := by decide +kernel
theorem dM_differ_38 : decode prog_8_method_35_code 38 = .ok (.goto 4, 3) := by decide +kernel
theorem dM_differ_41 : decode prog_8_method_35_code 41 = .ok (.iconst 0, 1) := by decide +kernel
theorem dM_differ_42 : decode prog_8_method_35_code 42 = .ok (.ireturn, 1) := by decide +kernel
theorem dM_parent_0 : decode prog_8_method_36_code 0 = .ok (.aload_n 0, 1) := by decide +kernel
theorem dM_parent_1 : decode prog_8_method_36_code 1 = .ok (.aload_n 0, 1) := by decide +kernel
theorem dM_parent_2 : decode prog_8_method_36_code 2 = .ok (.iload_n 1, 1) := by decide +kernel
theorem dM_parent_3 : decode prog_8_method_36_code 3 = .ok (.invokevirtual 93, 3) := by decide +kernel
theorem dM_parent_6 : decode prog_8_method_36_code 6 = .ok (.ifCond .eq 7, 3) := by decide +kernel
theorem dM_parent_9 : decode prog_8_method_36_code 9 = .ok (.iconst 0, 1) := by decide +kernel
theorem dM_parent_10 : decode prog_8_method_36_code 10 = .ok (.goto 4, 3) := by decide +kernel
theorem dM_parent_13 : decode prog_8_method_36_code 13 = .ok (.iconst 1, 1) := by decide +kernel
theorem dM_parent_14 : decode prog_8_method_36_code 14 = .ok (.putfield 57, 3) := by decide +kernel
theorem dM_parent_17 : decode prog_8_method_36_code 17 = .ok (.aload_n 0, 1) := by decide +kernel
theorem dM_parent_18 : decode prog_8_method_36_code 18 = .ok (.getfield 57, 3) := by decide +kernel
theorem dM_parent_21 : decode prog_8_method_36_code 21 = .ok (.ifCond .le 7, 3) := by decide +kernel
theorem dM_parent_24 : decode prog_8_method_36_code 24 = .ok (.iconst 0, 1) := by decide +kernel
theorem dM_parent_25 : decode prog_8_method_36_code 25 = .ok (.goto 22, 3) := by decide +kernel
theorem dM_parent_28 : decode prog_8_method_36_code 28 = .ok (.iload_n 2, 1) := by decide +kernel
theorem dM_parent_29 : decode prog_8_method_36_code 29 = .ok (.ifCond .eq 12, 3) := by decide +kernel
theorem dM_parent_32 : decode prog_8_method_36_code 32 = .ok (.aload_n 0, 1) := by decide +kernel
theorem dM_parent_33 : decode prog_8_method_36_code 33 = .ok (.getfield 33, 3) := by decide +kernel
theorem dM_parent_36 : decode prog_8_method_36_code 36 = .ok (.iload_n 1, 1) := by decide +kernel
theorem dM_parent_37 : decode prog_8_method_36_code 37 = .ok (.iaload, 1) := by decide +kernel
theorem dM_parent_38 : decode prog_8_method_36_code 38 = .ok (.goto 9, 3) := by decide +kernel
theorem dM_parent_41 : decode prog_8_method_36_code 41 = .ok (.aload_n 0, 1) := by decide +kernel
theorem dM_parent_42 : decode prog_8_method_36_code 42 = .ok (.getfield 30, 3) := by decide +kernel
theorem dM_parent_45 : decode prog_8_method_36_code 45 = .ok (.iload_n 1, 1) := by decide +kernel
theorem dM_parent_46 : decode prog_8_method_36_code 46 = .ok (.iaload, 1) := by decide +kernel
theorem dM_parent_47 : decode prog_8_method_36_code 47 = .ok (.ireturn, 1) := by decide +kernel
theorem dM_rank_0 : decode prog_8_method_37_code 0 = .ok (.iconst 0, 1) := by decide +kernel
theorem dM_rank_1 : decode prog_8_method_37_code 1 = .ok (.istore_n 3, 1) := by decide +kernel
theorem dM_rank_2 : decode prog_8_method_37_code 2 = .ok (.iconst 0, 1) := by decide +kernel
theorem dM_rank_3 : decode prog_8_method_37_code 3 = .ok (.istore 4, 2) := by decide +kernel
theorem dM_rank_5 : decode prog_8_method_37_code 5 = .ok (.iload 4, 2) := by decide +kernel
theorem dM_rank_7 : decode prog_8_method_37_code 7 = .ok (.iload_n 2, 1) := by decide +kernel
theorem dM_rank_8 : decode prog_8_method_37_code 8 = .ok (.if_icmp .ge 28, 3) := by decide +kernel
theorem dM_rank_11 : decode prog_8_method_37_code 11 = .ok (.iload_n 3, 1) := by decide +kernel
theorem dM_rank_12 : decode prog_8_method_37_code 12 = .ok (.lload_n 0, 1) := by decide +kernel
theorem dM_rank_13 : decode prog_8_method_37_code 13 = .ok (.iload 4, 2) := by decide +kernel
theorem dM_rank_15 : decode prog_8_method_37_code 15 = .ok (.lshr, 1) := by decide +kernel
theorem dM_rank_16 : decode prog_8_method_37_code 16 = .ok (.lconst 1, 1) := by decide +kernel
theorem dM_rank_17 : decode prog_8_method_37_code 17 = .ok (.land, 1) := by decide +kernel
theorem dM_rank_18 : decode prog_8_method_37_code 18 = .ok (.lconst 1, 1) := by decide +kernel
theorem dM_rank_19 : decode prog_8_method_37_code 19 = .ok (.lcmp, 1) := by decide +kernel
theorem dM_rank_20 : decode prog_8_method_37_code 20 = .ok (.ifCond .ne 7, 3) := by decide +kernel
theorem dM_rank_23 : decode prog_8_method_37_code 23 = .ok (.iconst 1, 1) := by decide +kernel
theorem dM_rank_24 : decode prog_8_method_37_code 24 = .ok (.goto 4, 3) := by decide +kernel
theorem dM_rank_27 : decode prog_8_method_37_code 27 = .ok (.iconst 0, 1) := by decide +kernel
theorem dM_rank_28 : decode prog_8_method_37_code 28 = .ok (.iadd, 1) := by decide +kernel
theorem dM_rank_29 : decode prog_8_method_37_code 29 = .ok (.istore_n 3, 1) := by decide +kernel
theorem dM_rank_30 : decode prog_8_method_37_code 30 = .ok (.iinc 4 1, 3) := by decide +kernel
theorem dM_rank_33 : decode prog_8_method_37_code 33 = .ok (.goto (-28), 3) := by decide +kernel
theorem dM_rank_36 : decode prog_8_method_37_code 36 = .ok (.iload_n 3, 1) := by decide +kernel
theorem dM_rank_37 : decode prog_8_method_37_code 37 = .ok (.ireturn, 1) := by decide +kernel
theorem dM_prune_0 : decode prog_8_method_38_code 0 = .ok (.aload_n 0, 1) := by decide +kernel
theorem dM_prune_1 : decode prog_8_method_38_code 1 = .ok (.iconst 0, 1) := by decide +kernel
theorem dM_prune_2 : decode prog_8_method_38_code 2 = .ok (.putfield 57, 3) := by decide +kernel
theorem dM_prune_5 : decode prog_8_method_38_code 5 = .ok (.lconst 0, 1) := by decide +kernel
theorem dM_prune_6 : decode prog_8_method_38_code 6 = .ok (.lstore_n 1, 1) := by decide +kernel
theorem dM_prune_7 : decode prog_8_method_38_code 7 = .ok (.iconst 0, 1) := by decide +kernel
theorem dM_prune_8 : decode prog_8_method_38_code 8 = .ok (.istore_n 3, 1) := by decide +kernel
theorem dM_prune_9 : decode prog_8_method_38_code 9 = .ok (.iload_n 3, 1) := by decide +kernel
theorem dM_prune_10 : decode prog_8_method_38_code 10 = .ok (.iconst 4, 1) := by decide +kernel
theorem dM_prune_11 : decode prog_8_method_38_code 11 = .ok (.if_icmp .ge 57, 3) := by decide +kernel
theorem dM_prune_14 : decode prog_8_method_38_code 14 = .ok (.lload_n 1, 1) := by decide +kernel
theorem dM_prune_15 : decode prog_8_method_38_code 15 = .ok (.lconst 1, 1) := by decide +kernel
theorem dM_prune_16 : decode prog_8_method_38_code 16 = .ok (.aload_n 0, 1) := by decide +kernel
theorem dM_prune_17 : decode prog_8_method_38_code 17 = .ok (.getfield 36, 3) := by decide +kernel
theorem dM_prune_20 : decode prog_8_method_38_code 20 = .ok (.iload_n 3, 1) := by decide +kernel
theorem dM_prune_21 : decode prog_8_method_38_code 21 = .ok (.iaload, 1) := by decide +kernel
theorem dM_prune_22 : decode prog_8_method_38_code 22 = .ok (.lshl, 1) := by decide +kernel
theorem dM_prune_23 : decode prog_8_method_38_code 23 = .ok (.lor, 1) := by decide +kernel
theorem dM_prune_24 : decode prog_8_method_38_code 24 = .ok (.lstore_n 1, 1) := by decide +kernel
theorem dM_prune_25 : decode prog_8_method_38_code 25 = .ok (.iconst 0, 1) := by decide +kernel
theorem dM_prune_26 : decode prog_8_method_38_code 26 = .ok (.istore 4, 2) := by decide +kernel
theorem dM_prune_28 : decode prog_8_method_38_code 28 = .ok (.iload 4, 2) := by decide +kernel
theorem dM_prune_30 : decode prog_8_method_38_code 30 = .ok (.aload_n 0, 1) := by decide +kernel
theorem dM_prune_31 : decode prog_8_method_38_code 31 = .ok (.getfield 42, 3) := by decide +kernel
theorem dM_prune_34 : decode prog_8_method_38_code 34 = .ok (.iload_n 3, 1) := by decide +kernel
theorem dM_prune_35 : decode prog_8_method_38_code 35 = .ok (.iaload, 1) := by decide +kernel
theorem dM_prune_36 : decode prog_8_method_38_code 36 = .ok (.if_icmp .ge 26, 3) := by decide +kernel
theorem dM_prune_39 : decode prog_8_method_38_code 39 = .ok (.lload_n 1, 1) := by decide +kernel
theorem dM_prune_40 : decode prog_8_method_38_code 40 = .ok (.lconst 1, 1) := by decide +kernel
theorem dM_prune_41 : decode prog_8_method_38_code 41 = .ok (.aload_n 0, 1) := by decide +kernel
theorem dM_prune_42 : decode prog_8_method_38_code 42 = .ok (.getfield 39, 3) := by decide +kernel
theorem dM_prune_45 : decode prog_8_method_38_code 45 = .ok (.bipush 60, 2) := by decide +kernel
theorem dM_prune_47 : decode prog_8_method_38_code 47 = .ok (.iload_n 3, 1) := by decide +kernel
theorem dM_prune_48 : decode prog_8_method_38_code 48 = .ok (.imul, 1) := by decide +kernel
theorem dM_prune_49 : decode prog_8_method_38_code 49 = .ok (.iload 4, 2) := by decide +kernel
theorem dM_prune_51 : decode prog_8_method_38_code 51 = .ok (.iadd, 1) := by decide +kernel
theorem dM_prune_52 : decode prog_8_method_38_code 52 = .ok (.iaload, 1) := by decide +kernel
theorem dM_prune_53 : decode prog_8_method_38_code 53 = .ok (.lshl, 1) := by decide +kernel
theorem dM_prune_54 : decode prog_8_method_38_code 54 = .ok (.lor, 1) := by decide +kernel
theorem dM_prune_55 : decode prog_8_method_38_code 55 = .ok (.lstore_n 1, 1) := by decide +kernel
theorem dM_prune_56 : decode prog_8_method_38_code 56 = .ok (.iinc 4 1, 3) := by decide +kernel
theorem dM_prune_59 : decode prog_8_method_38_code 59 = .ok (.goto (-31), 3) := by decide +kernel
theorem dM_prune_62 : decode prog_8_method_38_code 62 = .ok (.iinc 3 1, 3) := by decide +kernel
theorem dM_prune_65 : decode prog_8_method_38_code 65 = .ok (.goto (-56), 3) := by decide +kernel
theorem dM_prune_68 : decode prog_8_method_38_code 68 = .ok (.aload_n 0, 1) := by decide +kernel
theorem dM_prune_69 : decode prog_8_method_38_code 69 = .ok (.lload_n 1, 1) := by decide +kernel
theorem dM_prune_70 : decode prog_8_method_38_code 70 = .ok (.invokevirtual 96, 3) := by decide +kernel
theorem dM_prune_73 : decode prog_8_method_38_code 73 = .ok (.lstore_n 1, 1) := by decide +kernel
theorem dM_prune_74 : decode prog_8_method_38_code 74 = .ok (.iconst 0, 1) := by decide +kernel
theorem dM_prune_75 : decode prog_8_method_38_code 75 = .ok (.istore_n 3, 1) := by decide +kernel
theorem dM_prune_76 : decode prog_8_method_38_code 76 = .ok (.iconst 0, 1) := by decide +kernel
theorem dM_prune_77 : decode prog_8_method_38_code 77 = .ok (.istore 4, 2) := by decide +kernel
theorem dM_prune_79 : decode prog_8_method_38_code 79 = .ok (.iload 4, 2) := by decide +kernel
theorem dM_prune_81 : decode prog_8_method_38_code 81 = .ok (.aload_n 0, 1) := by decide +kernel
theorem dM_prune_82 : decode prog_8_method_38_code 82 = .ok (.getfield 7, 3) := by decide +kernel
theorem dM_prune_85 : decode prog_8_method_38_code 85 = .ok (.if_icmp .ge 88, 3) := by decide +kernel
theorem dM_prune_88 : decode prog_8_method_38_code 88 = .ok (.lload_n 1, 1) := by decide +kernel
theorem dM_prune_89 : decode prog_8_method_38_code 89 = .ok (.iload 4, 2) := by decide +kernel
theorem dM_prune_91 : decode prog_8_method_38_code 91 = .ok (.lshr, 1) := by decide +kernel
theorem dM_prune_92 : decode prog_8_method_38_code 92 = .ok (.lconst 1, 1) := by decide +kernel
theorem dM_prune_93 : decode prog_8_method_38_code 93 = .ok (.land, 1) := by decide +kernel
theorem dM_prune_94 : decode prog_8_method_38_code 94 = .ok (.lconst 1, 1) := by decide +kernel
theorem dM_prune_95 : decode prog_8_method_38_code 95 = .ok (.lcmp, 1) := by decide +kernel
theorem dM_prune_96 : decode prog_8_method_38_code 96 = .ok (.ifCond .ne 71, 3) := by decide +kernel
theorem dM_prune_99 : decode prog_8_method_38_code 99 = .ok (.aload_n 0, 1) := by decide +kernel
theorem dM_prune_100 : decode prog_8_method_38_code 100 = .ok (.iload 4, 2) := by decide +kernel
theorem dM_prune_102 : decode prog_8_method_38_code 102 = .ok (.iload_n 3, 1) := by decide +kernel
theorem dM_prune_103 : decode prog_8_method_38_code 103 = .ok (.invokevirtual 82, 3) := by decide +kernel
theorem dM_prune_106 : decode prog_8_method_38_code 106 = .ok (.aload_n 0, 1) := by decide +kernel
theorem dM_prune_107 : decode prog_8_method_38_code 107 = .ok (.getfield 30, 3) := by decide +kernel
theorem dM_prune_110 : decode prog_8_method_38_code 110 = .ok (.iload_n 3, 1) := by decide +kernel
theorem dM_prune_111 : decode prog_8_method_38_code 111 = .ok (.aload_n 0, 1) := by decide +kernel
theorem dM_prune_112 : decode prog_8_method_38_code 112 = .ok (.getfield 30, 3) := by decide +kernel
theorem dM_prune_115 : decode prog_8_method_38_code 115 = .ok (.iload_n 3, 1) := by decide +kernel
theorem dM_prune_116 : decode prog_8_method_38_code 116 = .ok (.iaload, 1) := by decide +kernel
theorem dM_prune_117 : decode prog_8_method_38_code 117 = .ok (.ifCond .ge 7, 3) := by decide +kernel
theorem dM_prune_120 : decode prog_8_method_38_code 120 = .ok (.iconst (-1), 1) := by decide +kernel
theorem dM_prune_121 : decode prog_8_method_38_code 121 = .ok (.goto 13, 3) := by decide +kernel
theorem dM_prune_124 : decode prog_8_method_38_code 124 = .ok (.lload_n 1, 1) := by decide +kernel
theorem dM_prune_125 : decode prog_8_method_38_code 125 = .ok (.aload_n 0, 1) := by decide +kernel
theorem dM_prune_126 : decode prog_8_method_38_code 126 = .ok (.getfield 30, 3) := by decide +kernel
theorem dM_prune_129 : decode prog_8_method_38_code 129 = .ok (.iload_n 3, 1) := by decide +kernel
theorem dM_prune_130 : decode prog_8_method_38_code 130 = .ok (.iaload, 1) := by decide +kernel
theorem dM_prune_131 : decode prog_8_method_38_code 131 = .ok (.invokestatic 137, 3) := by decide +kernel
theorem dM_prune_134 : decode prog_8_method_38_code 134 = .ok (.iastore, 1) := by decide +kernel
theorem dM_prune_135 : decode prog_8_method_38_code 135 = .ok (.aload_n 0, 1) := by decide +kernel
theorem dM_prune_136 : decode prog_8_method_38_code 136 = .ok (.getfield 33, 3) := by decide +kernel
theorem dM_prune_139 : decode prog_8_method_38_code 139 = .ok (.iload_n 3, 1) := by decide +kernel
theorem dM_prune_140 : decode prog_8_method_38_code 140 = .ok (.aload_n 0, 1) := by decide +kernel
theorem dM_prune_141 : decode prog_8_method_38_code 141 = .ok (.getfield 33, 3) := by decide +kernel
theorem dM_prune_144 : decode prog_8_method_38_code 144 = .ok (.iload_n 3, 1) := by decide +kernel
theorem dM_prune_145 : decode prog_8_method_38_code 145 = .ok (.iaload, 1) := by decide +kernel
theorem dM_prune_146 : decode prog_8_method_38_code 146 = .ok (.ifCond .ge 7, 3) := by decide +kernel
theorem dM_prune_149 : decode prog_8_method_38_code 149 = .ok (.iconst (-1), 1) := by decide +kernel
theorem dM_prune_150 : decode prog_8_method_38_code 150 = .ok (.goto 13, 3) := by decide +kernel
theorem dM_prune_153 : decode prog_8_method_38_code 153 = .ok (.lload_n 1, 1) := by decide +kernel
theorem dM_prune_154 : decode prog_8_method_38_code 154 = .ok (.aload_n 0, 1) := by decide +kernel
theorem dM_prune_155 : decode prog_8_method_38_code 155 = .ok (.getfield 33, 3) := by decide +kernel
theorem dM_prune_158 : decode prog_8_method_38_code 158 = .ok (.iload_n 3, 1) := by decide +kernel
theorem dM_prune_159 : decode prog_8_method_38_code 159 = .ok (.iaload, 1) := by decide +kernel
theorem dM_prune_160 : decode prog_8_method_38_code 160 = .ok (.invokestatic 137, 3) := by decide +kernel
theorem dM_prune_163 : decode prog_8_method_38_code 163 = .ok (.iastore, 1) := by decide +kernel
theorem dM_prune_164 : decode prog_8_method_38_code 164 = .ok (.iinc 3 1, 3) := by decide +kernel
theorem dM_prune_167 : decode prog_8_method_38_code 167 = .ok (.iinc 4 1, 3) := by decide +kernel
theorem dM_prune_170 : decode prog_8_method_38_code 170 = .ok (.goto (-91), 3) := by decide +kernel
theorem dM_prune_173 : decode prog_8_method_38_code 173 = .ok (.iconst 0, 1) := by decide +kernel
theorem dM_prune_174 : decode prog_8_method_38_code 174 = .ok (.istore 4, 2) := by decide +kernel
theorem dM_prune_176 : decode prog_8_method_38_code 176 = .ok (.iload 4, 2) := by decide +kernel
theorem dM_prune_178 : decode prog_8_method_38_code 178 = .ok (.iconst 4, 1) := by decide +kernel
theorem dM_prune_179 : decode prog_8_method_38_code 179 = .ok (.if_icmp .ge 78, 3) := by decide +kernel
theorem dM_prune_182 : decode prog_8_method_38_code 182 = .ok (.aload_n 0, 1) := by decide +kernel
theorem dM_prune_183 : decode prog_8_method_38_code 183 = .ok (.getfield 36, 3) := by decide +kernel
theorem dM_prune_186 : decode prog_8_method_38_code 186 = .ok (.iload 4, 2) := by decide +kernel
theorem dM_prune_188 : decode prog_8_method_38_code 188 = .ok (.lload_n 1, 1) := by decide +kernel
theorem dM_prune_189 : decode prog_8_method_38_code 189 = .ok (.aload_n 0, 1) := by decide +kernel
theorem dM_prune_190 : decode prog_8_method_38_code 190 = .ok (.getfield 36, 3) := by decide +kernel
theorem dM_prune_193 : decode prog_8_method_38_code 193 = .ok (.iload 4, 2) := by decide +kernel
theorem dM_prune_195 : decode prog_8_method_38_code 195 = .ok (.iaload, 1) := by decide +kernel
theorem dM_prune_196 : decode prog_8_method_38_code 196 = .ok (.invokestatic 137, 3) := by decide +kernel
theorem dM_prune_199 : decode prog_8_method_38_code 199 = .ok (.iastore, 1) := by decide +kernel
theorem dM_prune_200 : decode prog_8_method_38_code 200 = .ok (.iconst 0, 1) := by decide +kernel
theorem dM_prune_201 : decode prog_8_method_38_code 201 = .ok (.istore 5, 2) := by decide +kernel
theorem dM_prune_203 : decode prog_8_method_38_code 203 = .ok (.iload 5, 2) := by decide +kernel
theorem dM_prune_205 : decode prog_8_method_38_code 205 = .ok (.aload_n 0, 1) := by decide +kernel
theorem dM_prune_206 : decode prog_8_method_38_code 206 = .ok (.getfield 42, 3) := by decide +kernel
theorem dM_prune_209 : decode prog_8_method_38_code 209 = .ok (.iload 4, 2) := by decide +kernel
theorem dM_prune_211 : decode prog_8_method_38_code 211 = .ok (.iaload, 1) := by decide +kernel
theorem dM_prune_212 : decode prog_8_method_38_code 212 = .ok (.if_icmp .ge 39, 3) := by decide +kernel
theorem dM_prune_215 : decode prog_8_method_38_code 215 = .ok (.aload_n 0, 1) := by decide +kernel
theorem dM_prune_216 : decode prog_8_method_38_code 216 = .ok (.getfield 39, 3) := by decide +kernel
theorem dM_prune_219 : decode prog_8_method_38_code 219 = .ok (.bipush 60, 2) := by decide +kernel
theorem dM_prune_221 : decode prog_8_method_38_code 221 = .ok (.iload 4, 2) := by decide +kernel
theorem dM_prune_223 : decode prog_8_method_38_code 223 = .ok (.imul, 1) := by decide +kernel
theorem dM_prune_224 : decode prog_8_method_38_code 224 = .ok (.iload 5, 2) := by decide +kernel
theorem dM_prune_226 : decode prog_8_method_38_code 226 = .ok (.iadd, 1) := by decide +kernel
theorem dM_prune_227 : decode prog_8_method_38_code 227 = .ok (.lload_n 1, 1) := by decide +kernel
theorem dM_prune_228 : decode prog_8_method_38_code 228 = .ok (.aload_n 0, 1) := by decide +kernel
theorem dM_prune_229 : decode prog_8_method_38_code 229 = .ok (.getfield 39, 3) := by decide +kernel
theorem dM_prune_232 : decode prog_8_method_38_code 232 = .ok (.bipush 60, 2) := by decide +kernel
theorem dM_prune_234 : decode prog_8_method_38_code 234 = .ok (.iload 4, 2) := by decide +kernel
theorem dM_prune_236 : decode prog_8_method_38_code 236 = .ok (.imul, 1) := by decide +kernel
theorem dM_prune_237 : decode prog_8_method_38_code 237 = .ok (.iload 5, 2) := by decide +kernel
theorem dM_prune_239 : decode prog_8_method_38_code 239 = .ok (.iadd, 1) := by decide +kernel
theorem dM_prune_240 : decode prog_8_method_38_code 240 = .ok (.iaload, 1) := by decide +kernel
theorem dM_prune_241 : decode prog_8_method_38_code 241 = .ok (.invokestatic 137, 3) := by decide +kernel
theorem dM_prune_244 : decode prog_8_method_38_code 244 = .ok (.iastore, 1) := by decide +kernel
theorem dM_prune_245 : decode prog_8_method_38_code 245 = .ok (.iinc 5 1, 3) := by decide +kernel
theorem dM_prune_248 : decode prog_8_method_38_code 248 = .ok (.goto (-45), 3) := by decide +kernel
theorem dM_prune_251 : decode prog_8_method_38_code 251 = .ok (.iinc 4 1, 3) := by decide +kernel
theorem dM_prune_254 : decode prog_8_method_38_code 254 = .ok (.goto (-78), 3) := by decide +kernel
theorem dM_prune_257 : decode prog_8_method_38_code 257 = .ok (.aload_n 0, 1) := by decide +kernel
theorem dM_prune_258 : decode prog_8_method_38_code 258 = .ok (.getfield 7, 3) := by decide +kernel
theorem dM_prune_261 : decode prog_8_method_38_code 261 = .ok (.iload_n 3, 1) := by decide +kernel
theorem dM_prune_262 : decode prog_8_method_38_code 262 = .ok (.isub, 1) := by decide +kernel
theorem dM_prune_263 : decode prog_8_method_38_code 263 = .ok (.istore 4, 2) := by decide +kernel
theorem dM_prune_265 : decode prog_8_method_38_code 265 = .ok (.aload_n 0, 1) := by decide +kernel
theorem dM_prune_266 : decode prog_8_method_38_code 266 = .ok (.iload_n 3, 1) := by decide +kernel
theorem dM_prune_267 : decode prog_8_method_38_code 267 = .ok (.putfield 7, 3) := by decide +kernel
theorem dM_prune_270 : decode prog_8_method_38_code 270 = .ok (.iload 4, 2) := by decide +kernel
theorem dM_prune_272 : decode prog_8_method_38_code 272 = .ok (.ireturn, 1) := by decide +kernel
theorem dM_figure_0 : decode prog_8_method_39_code 0 = .ok (.aload_n 0, 1) := by decide +kernel
theorem dM_figure_1 : decode prog_8_method_39_code 1 = .ok (.iload_n 1, 1) := by decide +kernel
theorem dM_figure_2 : decode prog_8_method_39_code 2 = .ok (.ifCond .lt 9, 3) := by decide +kernel
theorem dM_figure_5 : decode prog_8_method_39_code 5 = .ok (.iload_n 1, 1) := by decide +kernel
theorem dM_figure_6 : decode prog_8_method_39_code 6 = .ok (.bipush 7, 2) := by decide +kernel
theorem dM_figure_8 : decode prog_8_method_39_code 8 = .ok (.if_icmp .le 7, 3) := by decide +kernel
theorem dM_figure_11 : decode prog_8_method_39_code 11 = .ok (.iconst 1, 1) := by decide +kernel
theorem dM_figure_12 : decode prog_8_method_39_code 12 = .ok (.goto 4, 3) := by decide +kernel
theorem dM_figure_15 : decode prog_8_method_39_code 15 = .ok (.iconst 0, 1) := by decide +kernel
theorem dM_figure_16 : decode prog_8_method_39_code 16 = .ok (.putfield 57, 3) := by decide +kernel
theorem dM_figure_19 : decode prog_8_method_39_code 19 = .ok (.iload_n 1, 1) := by decide +kernel
theorem dM_figure_20 : decode prog_8_method_39_code 20 = .ok (.tableswitch 82 0 7 #[48, 53, 58, 63, 73, 73, 73, 73], 48) := by decide +kernel
theorem dM_figure_68 : decode prog_8_method_39_code 68 = .ok (.aload_n 0, 1) := by decide +kernel
theorem dM_figure_69 : decode prog_8_method_39_code 69 = .ok (.invokevirtual 71, 3) := by decide +kernel
theorem dM_figure_72 : decode prog_8_method_39_code 72 = .ok (.ireturn, 1) := by decide +kernel
theorem dM_figure_73 : decode prog_8_method_39_code 73 = .ok (.aload_n 0, 1) := by decide +kernel
theorem dM_figure_74 : decode prog_8_method_39_code 74 = .ok (.getfield 7, 3) := by decide +kernel
theorem dM_figure_77 : decode prog_8_method_39_code 77 = .ok (.ireturn, 1) := by decide +kernel
theorem dM_figure_78 : decode prog_8_method_39_code 78 = .ok (.aload_n 0, 1) := by decide +kernel
theorem dM_figure_79 : decode prog_8_method_39_code 79 = .ok (.getfield 60, 3) := by decide +kernel
theorem dM_figure_82 : decode prog_8_method_39_code 82 = .ok (.ireturn, 1) := by decide +kernel
theorem dM_figure_83 : decode prog_8_method_39_code 83 = .ok (.aload_n 0, 1) := by decide +kernel
theorem dM_figure_84 : decode prog_8_method_39_code 84 = .ok (.getfield 42, 3) := by decide +kernel
theorem dM_figure_87 : decode prog_8_method_39_code 87 = .ok (.aload_n 0, 1) := by decide +kernel
theorem dM_figure_88 : decode prog_8_method_39_code 88 = .ok (.getfield 60, 3) := by decide +kernel
theorem dM_figure_91 : decode prog_8_method_39_code 91 = .ok (.iaload, 1) := by decide +kernel
theorem dM_figure_92 : decode prog_8_method_39_code 92 = .ok (.ireturn, 1) := by decide +kernel
theorem dM_figure_93 : decode prog_8_method_39_code 93 = .ok (.aload_n 0, 1) := by decide +kernel
theorem dM_figure_94 : decode prog_8_method_39_code 94 = .ok (.getfield 36, 3) := by decide +kernel
theorem dM_figure_97 : decode prog_8_method_39_code 97 = .ok (.iload_n 1, 1) := by decide +kernel
theorem dM_figure_98 : decode prog_8_method_39_code 98 = .ok (.iconst 4, 1) := by decide +kernel
theorem dM_figure_99 : decode prog_8_method_39_code 99 = .ok (.isub, 1) := by decide +kernel
theorem dM_figure_100 : decode prog_8_method_39_code 100 = .ok (.iaload, 1) := by decide +kernel
theorem dM_figure_101 : decode prog_8_method_39_code 101 = .ok (.ireturn, 1) := by decide +kernel
theorem dM_figure_102 : decode prog_8_method_39_code 102 = .ok (.iconst 0, 1) := by decide +kernel
theorem dM_figure_103 : decode prog_8_method_39_code 103 = .ok (.ireturn, 1) := by decide +kernel
end
section
/-! The class: names, fields. -/
abbrev yG_init : MethodName := ⟨"RevisionGrove", "<init>", "()V"⟩
abbrev yG_put : MethodName := ⟨"RevisionGrove", "put", "(II)I"⟩
abbrev yG_add : MethodName := ⟨"RevisionGrove", "add", "(II)I"⟩
abbrev yG_mark : MethodName := ⟨"RevisionGrove", "mark", "(IIZ)I"⟩
abbrev yG_insert : MethodName := ⟨"RevisionGrove", "insert", "(III)I"⟩
abbrev yG_remove : MethodName := ⟨"RevisionGrove", "remove", "(II)I"⟩
abbrev yG_point : MethodName := ⟨"RevisionGrove", "point", "(I)V"⟩
abbrev yG_turn : MethodName := ⟨"RevisionGrove", "turn", "(I)I"⟩
abbrev yG_go : MethodName := ⟨"RevisionGrove", "go", "(I)V"⟩
abbrev yG_undo : MethodName := ⟨"RevisionGrove", "undo", "()I"⟩
abbrev yG_redo : MethodName := ⟨"RevisionGrove", "redo", "()I"⟩
abbrev yG_merge : MethodName := ⟨"RevisionGrove", "merge", "(II)I"⟩
abbrev yG_conflicts : MethodName := ⟨"RevisionGrove", "conflicts", "()I"⟩
abbrev yG_base : MethodName := ⟨"RevisionGrove", "base", "(I)I"⟩
abbrev yG_value : MethodName := ⟨"RevisionGrove", "value", "(III)J"⟩
abbrev yG_differ : MethodName := ⟨"RevisionGrove", "differ", "(II)I"⟩
abbrev yG_parent : MethodName := ⟨"RevisionGrove", "parent", "(IZ)I"⟩
abbrev yG_prune : MethodName := ⟨"RevisionGrove", "prune", "()I"⟩
abbrev yG_figure : MethodName := ⟨"RevisionGrove", "figure", "(I)I"⟩
abbrev yG_requireKind : MethodName := ⟨"RevisionGrove", "requireKind", "(II)V"⟩
abbrev yG_requireBranch : MethodName := ⟨"RevisionGrove", "requireBranch", "(I)V"⟩
abbrev yG_requireRevision : MethodName := ⟨"RevisionGrove", "requireRevision", "(I)V"⟩
abbrev yG_draftPresent : MethodName := ⟨"RevisionGrove", "draftPresent", "()V"⟩
abbrev yG_draftJoined : MethodName := ⟨"RevisionGrove", "draftJoined", "(III)I"⟩
abbrev yG_comeToChanged : MethodName := ⟨"RevisionGrove", "comeToChanged", "(I)I"⟩
abbrev yG_comeToDraft : MethodName := ⟨"RevisionGrove", "comeToDraft", "(I)V"⟩
def TG : u_T := fun k => match k with
  | 0 => ("RevisionGrove", "revisions", "LRevisionGrove$Revisions;", true)
  | 1 => ("RevisionGrove", "branches", "LRevisionGrove$Branches;", true)
  | 2 => ("RevisionGrove", "draft", "LRevisionGrove$Fields;", true)
  | _ => ("RevisionGrove", "latestConflicts", "I", false)
def tyG : Nat → FieldType := fun k => match k with
  | 0 => .object "RevisionGrove$Revisions"
  | 1 => .object "RevisionGrove$Branches"
  | 2 => .object "RevisionGrove$Fields"
  | _ => .int
theorem nmG : ∀ a, a < 4 → ∀ b, b < 4 → a ≠ b → (TG a).2.1 ≠ (TG b).2.1 := by decide +kernel
theorem tyG_ok : ∀ k, k < 4 → parseFieldDescriptor (TG k).2.2.1 = some (tyG k) := by decide +kernel
theorem inG : ∀ w ∈ u_ws "RevisionGrove" TG 4, w ∈ rg_tbl := by
  intro w hw
  simp only [u_ws, List.mem_map, List.mem_range] at hw
  obtain ⟨k, hk, rfl⟩ := hw
  rcases (show k = 0 ∨ k = 1 ∨ k = 2 ∨ k = 3 by omega) with rfl | rfl | rfl | rfl
  · exact tw_90
  · exact tw_92
  · exact tw_94
  · exact tw_96
abbrev yR_init : MethodName := ⟨"RevisionGrove$Revisions", "<init>", "()V"⟩
abbrev yR_count : MethodName := ⟨"RevisionGrove$Revisions", "count", "()I"⟩
abbrev yR_has : MethodName := ⟨"RevisionGrove$Revisions", "has", "(I)Z"⟩
abbrev yR_fields : MethodName := ⟨"RevisionGrove$Revisions", "fields", "(I)LRevisionGrove$Fields;"⟩
abbrev yR_firstParent : MethodName := ⟨"RevisionGrove$Revisions", "firstParent", "(I)I"⟩
abbrev yR_secondParent : MethodName := ⟨"RevisionGrove$Revisions", "secondParent", "(I)I"⟩
abbrev yR_ancestorsOf : MethodName := ⟨"RevisionGrove$Revisions", "ancestorsOf", "(I)J"⟩
abbrev yR_isAncestor : MethodName := ⟨"RevisionGrove$Revisions", "isAncestor", "(II)Z"⟩
abbrev yR_latestShared : MethodName := ⟨"RevisionGrove$Revisions", "latestShared", "(II)I"⟩
abbrev yR_make : MethodName := ⟨"RevisionGrove$Revisions", "make", "(LRevisionGrove$Fields;II)I"⟩
abbrev yR_keepOnly : MethodName := ⟨"RevisionGrove$Revisions", "keepOnly", "(J)V"⟩
abbrev yR_newNumber : MethodName := ⟨"RevisionGrove$Revisions", "newNumber", "(I)I"⟩
abbrev yR_link : MethodName := ⟨"RevisionGrove$Revisions", "link", "(III)V"⟩
abbrev yR_ancestorsOrNone : MethodName := ⟨"RevisionGrove$Revisions", "ancestorsOrNone", "(I)J"⟩
abbrev yR_holds : MethodName := ⟨"RevisionGrove$Revisions", "holds", "(JI)Z"⟩
def TR : u_T := fun k => match k with
  | 0 => ("RevisionGrove$Revisions", "records", "[LRevisionGrove$Fields;", true)
  | 1 => ("RevisionGrove$Revisions", "firstParents", "[I", true)
  | 2 => ("RevisionGrove$Revisions", "secondParents", "[I", true)
  | 3 => ("RevisionGrove$Revisions", "ancestors", "[J", true)
  | 4 => ("RevisionGrove$Revisions", "newNumbers", "[I", true)
  | _ => ("RevisionGrove$Revisions", "count", "I", false)
def tyR : Nat → FieldType := fun k => match k with
  | 0 => .array (.object "RevisionGrove$Fields")
  | 1 => .array .int
  | 2 => .array .int
  | 3 => .array .long
  | 4 => .array .int
  | _ => .int
theorem nmR : ∀ a, a < 6 → ∀ b, b < 6 → a ≠ b → (TR a).2.1 ≠ (TR b).2.1 := by decide +kernel
theorem tyR_ok : ∀ k, k < 6 → parseFieldDescriptor (TR k).2.2.1 = some (tyR k) := by decide +kernel
theorem inR : ∀ w ∈ u_ws "RevisionGrove$Revisions" TR 6, w ∈ rg_tbl := by
  intro w hw
  simp only [u_ws, List.mem_map, List.mem_range] at hw
  obtain ⟨k, hk, rfl⟩ := hw
  rcases (show k = 0 ∨ k = 1 ∨ k = 2 ∨ k = 3 ∨ k = 4 ∨ k = 5 by omega) with rfl | rfl | rfl | rfl | rfl | rfl
  · exact tw_50
  · exact tw_52
  · exact tw_54
  · exact tw_56
  · exact tw_58
  · exact tw_60
abbrev yB_init : MethodName := ⟨"RevisionGrove$Branches", "<init>", "()V"⟩
abbrev yB_presentBranch : MethodName := ⟨"RevisionGrove$Branches", "presentBranch", "()I"⟩
abbrev yB_presentRevision : MethodName := ⟨"RevisionGrove$Branches", "presentRevision", "()I"⟩
abbrev yB_revisionOf : MethodName := ⟨"RevisionGrove$Branches", "revisionOf", "(I)I"⟩
abbrev yB_undoneCount : MethodName := ⟨"RevisionGrove$Branches", "undoneCount", "()I"⟩
abbrev yB_makePresent : MethodName := ⟨"RevisionGrove$Branches", "makePresent", "(I)V"⟩
abbrev yB_lead : MethodName := ⟨"RevisionGrove$Branches", "lead", "(II)V"⟩
abbrev yB_come : MethodName := ⟨"RevisionGrove$Branches", "come", "(I)V"⟩
abbrev yB_stepBack : MethodName := ⟨"RevisionGrove$Branches", "stepBack", "(I)V"⟩
abbrev yB_stepForward : MethodName := ⟨"RevisionGrove$Branches", "stepForward", "()V"⟩
abbrev yB_needed : MethodName := ⟨"RevisionGrove$Branches", "needed", "(LRevisionGrove$Revisions;)J"⟩
abbrev yB_renumber : MethodName := ⟨"RevisionGrove$Branches", "renumber", "(LRevisionGrove$Revisions;)V"⟩
def TB : u_T := fun k => match k with
  | 0 => ("RevisionGrove$Branches", "pointed", "[I", true)
  | 1 => ("RevisionGrove$Branches", "undone", "[[I", true)
  | 2 => ("RevisionGrove$Branches", "undoneCounts", "[I", true)
  | _ => ("RevisionGrove$Branches", "present", "I", false)
def tyB : Nat → FieldType := fun k => match k with
  | 0 => .array .int
  | 1 => .array (.array .int)
  | 2 => .array .int
  | _ => .int
theorem nmB : ∀ a, a < 4 → ∀ b, b < 4 → a ≠ b → (TB a).2.1 ≠ (TB b).2.1 := by decide +kernel
theorem tyB_ok : ∀ k, k < 4 → parseFieldDescriptor (TB k).2.2.1 = some (tyB k) := by decide +kernel
theorem inB : ∀ w ∈ u_ws "RevisionGrove$Branches" TB 4, w ∈ rg_tbl := by
  intro w hw
  simp only [u_ws, List.mem_map, List.mem_range] at hw
  obtain ⟨k, hk, rfl⟩ := hw
  rcases (show k = 0 ∨ k = 1 ∨ k = 2 ∨ k = 3 by omega) with rfl | rfl | rfl | rfl
  · exact tw_75
  · exact tw_77
  · exact tw_79
  · exact tw_81
abbrev yF_init : MethodName := ⟨"RevisionGrove$Fields", "<init>", "()V"⟩
abbrev yF_cell : MethodName := ⟨"RevisionGrove$Fields", "cell", "(I)J"⟩
abbrev yF_setCell : MethodName := ⟨"RevisionGrove$Fields", "setCell", "(IJ)V"⟩
abbrev yF_length : MethodName := ⟨"RevisionGrove$Fields", "length", "(I)I"⟩
abbrev yF_hasPlace : MethodName := ⟨"RevisionGrove$Fields", "hasPlace", "(II)Z"⟩
abbrev yF_intAt : MethodName := ⟨"RevisionGrove$Fields", "intAt", "(II)J"⟩
abbrev yF_insertInt : MethodName := ⟨"RevisionGrove$Fields", "insertInt", "(III)V"⟩
abbrev yF_removeInt : MethodName := ⟨"RevisionGrove$Fields", "removeInt", "(II)V"⟩
abbrev yF_clearList : MethodName := ⟨"RevisionGrove$Fields", "clearList", "(I)V"⟩
abbrev yF_append : MethodName := ⟨"RevisionGrove$Fields", "append", "(ILRevisionGrove$Fields;II)V"⟩
abbrev yF_isSame : MethodName := ⟨"RevisionGrove$Fields", "isSame", "(LRevisionGrove$Fields;I)Z"⟩
abbrev yF_sameAtBeginning : MethodName := ⟨"RevisionGrove$Fields", "sameAtBeginning", "(LRevisionGrove$Fields;I)I"⟩
abbrev yF_sameAtEnd : MethodName := ⟨"RevisionGrove$Fields", "sameAtEnd", "(LRevisionGrove$Fields;II)I"⟩
abbrev yF_take : MethodName := ⟨"RevisionGrove$Fields", "take", "(LRevisionGrove$Fields;I)V"⟩
abbrev yF_takeAll : MethodName := ⟨"RevisionGrove$Fields", "takeAll", "(LRevisionGrove$Fields;)V"⟩
abbrev yF_hasSamePlaces : MethodName := ⟨"RevisionGrove$Fields", "hasSamePlaces", "(LRevisionGrove$Fields;I)Z"⟩
abbrev yF_firstPlace : MethodName := ⟨"RevisionGrove$Fields", "firstPlace", "(I)I"⟩
def TF : u_T := fun k => match k with
  | _ => ("RevisionGrove$Fields", "cells", "[J", true)
def tyF : Nat → FieldType := fun k => match k with
  | _ => .array .long
theorem nmF : ∀ a, a < 1 → ∀ b, b < 1 → a ≠ b → (TF a).2.1 ≠ (TF b).2.1 := by decide +kernel
theorem tyF_ok : ∀ k, k < 1 → parseFieldDescriptor (TF k).2.2.1 = some (tyF k) := by decide +kernel
theorem inF : ∀ w ∈ u_ws "RevisionGrove$Fields" TF 1, w ∈ rg_tbl := by
  intro w hw
  simp only [u_ws, List.mem_map, List.mem_range] at hw
  obtain ⟨k, hk, rfl⟩ := hw
  rcases (show k = 0 by omega) with rfl
  · exact tw_39
abbrev yC_init : MethodName := ⟨"RevisionGrove$Change", "<init>", "(LRevisionGrove$Fields;LRevisionGrove$Fields;I)V"⟩
abbrev yC_growth : MethodName := ⟨"RevisionGrove$Change", "growth", "()I"⟩
def TC : u_T := fun k => match k with
  | 0 => ("RevisionGrove$Change", "version", "LRevisionGrove$Fields;", true)
  | 1 => ("RevisionGrove$Change", "begin", "I", true)
  | 2 => ("RevisionGrove$Change", "end", "I", true)
  | _ => ("RevisionGrove$Change", "versionEnd", "I", true)
def tyC : Nat → FieldType := fun k => match k with
  | 0 => .object "RevisionGrove$Fields"
  | 1 => .int
  | 2 => .int
  | _ => .int
theorem nmC : ∀ a, a < 4 → ∀ b, b < 4 → a ≠ b → (TC a).2.1 ≠ (TC b).2.1 := by decide +kernel
theorem tyC_ok : ∀ k, k < 4 → parseFieldDescriptor (TC k).2.2.1 = some (tyC k) := by decide +kernel
theorem inC : ∀ w ∈ u_ws "RevisionGrove$Change" TC 4, w ∈ rg_tbl := by
  intro w hw
  simp only [u_ws, List.mem_map, List.mem_range] at hw
  obtain ⟨k, hk, rfl⟩ := hw
  rcases (show k = 0 ∨ k = 1 ∨ k = 2 ∨ k = 3 by omega) with rfl | rfl | rfl | rfl
  · exact tw_524
  · exact tw_526
  · exact tw_528
  · exact tw_530
abbrev yJ_join : MethodName := ⟨"RevisionGrove$Joining", "join", "(LRevisionGrove$Fields;LRevisionGrove$Fields;LRevisionGrove$Fields;LRevisionGrove$Fields;LRevisionGrove$Fields;)I"⟩
abbrev yJ_joinField : MethodName := ⟨"RevisionGrove$Joining", "joinField", "(LRevisionGrove$Fields;LRevisionGrove$Fields;LRevisionGrove$Fields;LRevisionGrove$Fields;I)Z"⟩
abbrev yJ_joinedSet : MethodName := ⟨"RevisionGrove$Joining", "joinedSet", "(JJJ)J"⟩
abbrev yJ_joinList : MethodName := ⟨"RevisionGrove$Joining", "joinList", "(LRevisionGrove$Fields;LRevisionGrove$Fields;LRevisionGrove$Change;LRevisionGrove$Change;I)Z"⟩
end
section
/-! The reference's world; calls by the one list of words. -/
abbrev rg_cl : List vw_C := [("RevisionGroveModel", TM, 19), ("RevisionGrove", TG, 4), ("RevisionGrove$Revisions", TR, 6), ("RevisionGrove$Branches", TB, 4), ("RevisionGrove$Fields", TF, 1), ("RevisionGrove$Change", TC, 4)]
def rm_W (h : Nat) (a : Nat → Nat) (cI cL : ClassId) (cod : Int32) (cnt : Int32) (bra : Int32) (cof : Int32) (mad : Int32) (nu : Nat → Int32) (co : Nat → Int64) (se : Nat → Int32) (li : Nat → Int32) (le : Nat → Int32) (fi : Nat → Int32) (sc : Nat → Int32) (ti : Nat → Int32) (un : Nat → Int32) (ma : Nat → Int32) (dr : Nat → Int32) (fr : Nat → Int32) (to : Nat → Int32) (en : Nat → Int32) : va_W :=
  [(h, .inr (0, [.int cod, .int cnt, .ref (a 1), .ref (a 2), .ref (a 3), .ref (a 4), .ref (a 5), .ref (a 6), .ref (a 7), .int bra, .ref (a 8), .ref (a 9), .ref (a 10), .int cof, .int mad, .ref (a 11), .ref (a 12), .ref (a 13), .ref (a 14)])), (a 1, .inl (cI, 122, .inl nu)), (a 2, .inl (cL, 122, .inr (.inl co))), (a 3, .inl (cI, 122, .inl se)), (a 4, .inl (cI, 976, .inl li)), (a 5, .inl (cI, 122, .inl le)), (a 6, .inl (cI, 61, .inl fi)), (a 7, .inl (cI, 61, .inl sc)), (a 8, .inl (cI, 4, .inl ti)), (a 9, .inl (cI, 240, .inl un)), (a 10, .inl (cI, 4, .inl ma)), (a 11, .inl (cI, 24, .inl dr)), (a 12, .inl (cI, 2, .inl fr)), (a 13, .inl (cI, 2, .inl to)), (a 14, .inl (cI, 2, .inl en))]
theorem rg_gV {own C : String} {idx maxL : Nat} {y : MethodName} {c : ByteArray} {ret : Option FieldType} (h1 : Cond.methodLink own idx y ∈ rg_tbl) (h2 : Cond.instanceMethod y ∈ rg_tbl) (h3 : Cond.selects C y y ∈ rg_tbl) (h4 : Cond.initialized C ∈ rg_tbl) (h5 : Cond.code y c maxL ret ∈ rg_tbl) : GoodIn rg_tbl (wsV own idx C y (Cond.code y c maxL ret :: rg_tbl)) := by
  intro w hw
  unfold wsV at hw
  have h9 : w ∈ rg_tbl := by
    rcases List.mem_append.mp hw with h | h
    · simp only [List.mem_cons, List.not_mem_nil, or_false] at h
      rcases h with rfl | rfl | rfl | rfl <;> assumption
    · rcases List.mem_cons.mp h with rfl | h
      · exact h5
      · exact h
  exact ⟨h9, rg_good h9⟩
theorem rg_gS {own : String} {idx maxL : Nat} {y : MethodName} {c : ByteArray} {ret : Option FieldType} (h1 : Cond.methodLink own idx y ∈ rg_tbl) (h2 : Cond.static y ∈ rg_tbl) (h4 : Cond.initialized own ∈ rg_tbl) (h5 : Cond.code y c maxL ret ∈ rg_tbl) : GoodIn rg_tbl (wsS own idx y (Cond.code y c maxL ret :: rg_tbl)) := by
  intro w hw
  unfold wsS at hw
  have h9 : w ∈ rg_tbl := by
    rcases List.mem_append.mp hw with h | h
    · simp only [List.mem_cons, List.not_mem_nil, or_false] at h
      rcases h with rfl | rfl | rfl <;> assumption
    · rcases List.mem_cons.mp h with rfl | h
      · exact h5
      · exact h
  exact ⟨h9, rg_good h9⟩
end
section
/-! A number against 0; the reference's whole state as one value. -/
section RGB
variable {p : Program} {l : Launch} {e : Env} {R : Room} {s : State} {m : MethodId} {args : Array Value} {below : List Frame} {meth : Method} {c : Code} {H : Heap} {locs : List Loc} {cells slots : Nat} {Q : State → Prop}
variable {cc : ByteArray} {pc : Nat} {ls : Array Slot} {rest : List Value} {x : Nat} {off : Int} {tgt : Nat}
theorem rg_ifN_eq (hx : p.tables.exec = Jvm.exec) (hb : c.code = cc) (hdg : decode cc pc = .ok (.ifCond .eq off, 3)) (ht : (pc : Int) + off = (tgt : Int)) (h1 : x < 2 ^ 31)
    (kt : x = 0 → W p l e R s m args below meth c H locs cells slots Q (F0 m tgt ls rest)) (kf : 0 < x → W p l e R s m args below meth c H locs cells slots Q (F0 m (pc + 3) ls rest)) : W p l e R s m args below meth c H locs cells slots Q (F0 m pc ls (.int (nI x) :: rest)) :=
  lv_if_eq hx hb hdg ht (fun h => kt ((nI_eq (b := 0) h1 (by decide)).mp h)) (fun h => kf (Nat.pos_of_ne_zero (fun q => h (by rw [q]; rfl))))
theorem rg_ifN_ne (hx : p.tables.exec = Jvm.exec) (hb : c.code = cc) (hdg : decode cc pc = .ok (.ifCond .ne off, 3)) (ht : (pc : Int) + off = (tgt : Int)) (h1 : x < 2 ^ 31)
    (kt : 0 < x → W p l e R s m args below meth c H locs cells slots Q (F0 m tgt ls rest)) (kf : x = 0 → W p l e R s m args below meth c H locs cells slots Q (F0 m (pc + 3) ls rest)) : W p l e R s m args below meth c H locs cells slots Q (F0 m pc ls (.int (nI x) :: rest)) :=
  lv_if_ne hx hb hdg ht (fun h => kt (Nat.pos_of_ne_zero (fun q => h (by rw [q]; rfl)))) (fun h => kf ((nI_eq (b := 0) h1 (by decide)).mp h))
theorem rg_ifN_le (hx : p.tables.exec = Jvm.exec) (hb : c.code = cc) (hdg : decode cc pc = .ok (.ifCond .le off, 3)) (ht : (pc : Int) + off = (tgt : Int)) (h1 : x < 2 ^ 31)
    (kt : x = 0 → W p l e R s m args below meth c H locs cells slots Q (F0 m tgt ls rest)) (kf : 0 < x → W p l e R s m args below meth c H locs cells slots Q (F0 m (pc + 3) ls rest)) : W p l e R s m args below meth c H locs cells slots Q (F0 m pc ls (.int (nI x) :: rest)) :=
  lv_if_le hx hb hdg ht (fun h => kt (Nat.le_zero.mp ((nI_leI (b := 0) h1 (by decide)).mp h))) (fun h => kf (Nat.pos_of_ne_zero (fun q => h (by rw [q]; exact nI_le (Nat.le_refl 0) (by decide)))))
theorem rg_ifN_gt (hx : p.tables.exec = Jvm.exec) (hb : c.code = cc) (hdg : decode cc pc = .ok (.ifCond .gt off, 3)) (ht : (pc : Int) + off = (tgt : Int)) (h1 : x < 2 ^ 31)
    (kt : 0 < x → W p l e R s m args below meth c H locs cells slots Q (F0 m tgt ls rest)) (kf : x = 0 → W p l e R s m args below meth c H locs cells slots Q (F0 m (pc + 3) ls rest)) : W p l e R s m args below meth c H locs cells slots Q (F0 m pc ls (.int (nI x) :: rest)) :=
  lv_if_gt hx hb hdg ht (fun h => kt ((nI_ltI (a := 0) (by decide) h1).mp h)) (fun h => kf (Nat.le_zero.mp (Nat.le_of_not_lt fun q => h ((nI_ltI (a := 0) (by decide) h1).mpr q))))
theorem rg_ifN_lt (hx : p.tables.exec = Jvm.exec) (hb : c.code = cc) (hdg : decode cc pc = .ok (.ifCond .lt off, 3)) (ht : (pc : Int) + off = (tgt : Int)) (h1 : x < 2 ^ 31)
    (kt : False → W p l e R s m args below meth c H locs cells slots Q (F0 m tgt ls rest)) (kf : True → W p l e R s m args below meth c H locs cells slots Q (F0 m (pc + 3) ls rest)) : W p l e R s m args below meth c H locs cells slots Q (F0 m pc ls (.int (nI x) :: rest)) :=
  lv_if_lt hx hb hdg ht (fun h => kt (nI_pos h1 h)) (fun _ => kf trivial)
theorem rg_ifN_ge (hx : p.tables.exec = Jvm.exec) (hb : c.code = cc) (hdg : decode cc pc = .ok (.ifCond .ge off, 3)) (ht : (pc : Int) + off = (tgt : Int)) (h1 : x < 2 ^ 31)
    (kt : True → W p l e R s m args below meth c H locs cells slots Q (F0 m tgt ls rest)) (kf : False → W p l e R s m args below meth c H locs cells slots Q (F0 m (pc + 3) ls rest)) : W p l e R s m args below meth c H locs cells slots Q (F0 m pc ls (.int (nI x) :: rest)) :=
  lv_if_ge hx hb hdg ht (fun _ => kt trivial) (fun h => kf (h (nI_pos' h1)))
end RGB
abbrev rm_S : Type := Int32 × Int32 × Int32 × Int32 × Int32 × (Nat → Int32) × (Nat → Int64) × (Nat → Int32) × (Nat → Int32) × (Nat → Int32) × (Nat → Int32) × (Nat → Int32) × (Nat → Int32) × (Nat → Int32) × (Nat → Int32) × (Nat → Int32) × (Nat → Int32) × (Nat → Int32) × (Nat → Int32)
def rm_Wu (h : Nat) (a : Nat → Nat) (cI cL : ClassId) (u : rm_S) : va_W := match u with
  | (cod, cnt, bra, cof, mad, nu, co, se, li, le, fi, sc, ti, un, ma, dr, fr, to, en) => rm_W h a cI cL cod cnt bra cof mad nu co se li le fi sc ti un ma dr fr to en
def rm_Ru (u : rm_S) (g : rg_A) : Prop := match u with
  | (_, cnt, bra, cof, _, nu, co, se, li, le, fi, sc, ti, un, ma, _, _, _, _) => rm_Rep cnt bra cof nu co se li le fi sc ti un ma g
-- code, answer, grove
def rm_Po (o : Int32 × Int32 × rg_A) (z : Int32) (u : rm_S) : Prop := rm_Ru u o.2.2 ∧ u.1 = o.1 ∧ z = o.2.1
theorem rg_chg_same {full : Int32} {g : rg_A} {X : rg_R} (h : rg_dif X (ra_R g (ra_t g)) = 0) : rg_chg full g X = (0, nI (ra_t g), g) := by unfold rg_chg; rw [if_pos h]
theorem rg_chg_full {full : Int32} {g : rg_A} {X : rg_R} (h : ¬ rg_dif X (ra_R g (ra_t g)) = 0) (hn : ra_n g = 60) : rg_chg full g X = (full, 0, g) := by unfold rg_chg; rw [if_neg h, if_pos hn]
theorem rg_chg_new {full : Int32} {g : rg_A} {X : rg_R} (h : ¬ rg_dif X (ra_R g (ra_t g)) = 0) (hn : ¬ ra_n g = 60) : rg_chg full g X = (0, nI (ra_n g), rg_new g X (-1)) := by unfold rg_chg; rw [if_neg h, if_neg hn]
end
section
set_option maxHeartbeats 4000000 in
set_option maxRecDepth 100000 in
theorem c_rm_thrown {l : Launch} {dC : Nat → ClassId} {dI : Nat → Nat → Nat} {h : Nat} {a : Nat → Nat} {cI cL : ClassId} {cod : Int32} {cnt : Int32} {bra : Int32} {cof : Int32} {mad : Int32} {nu : Nat → Int32} {co : Nat → Int64} {se : Nat → Int32} {li : Nat → Int32} {le : Nat → Int32} {fi : Nat → Int32} {sc : Nat → Int32} {ti : Nat → Int32} {un : Nat → Int32} {ma : Nat → Int32} {dr : Nat → Int32} {fr : Nat → Int32} {to : Nat → Int32} {en : Nat → Int32}  : rg_M l yM_thrown (Cond.code yM_thrown prog_8_method_2_code 1 (some .int) :: rg_tbl) { frames := 0, cells := 0, slots := 0, locals := 0 } (dC, dI) rg_cl [(cI, .int), (cL, .long)] (rm_W h a cI cL cod cnt bra cof mad nu co se li le fi sc ti un ma dr fr to en) [.ref h] (rg_QI (dC, dI) rg_cl [(cI, .int), (cL, .long)] (S := Unit) (fun r _ => r = cod) (fun _ => rm_W h a cI cL cod cnt bra cof mad nu co se li le fi sc ti un ma dr fr to en)) 0 0 := by
  refine rg_of prog_8_method_2_code 1 (some .int) (by decide) rfl (Nat.le_of_ble_eq_true rfl) ?_
  intro p e R s m args below meth c Q A H locs ls hR hQ hx hb hml hr hts hown hlk hnm hP hK hD hA hS hl
  have hl : lv_has ls 1 [(0, .ref h)] := hl
  have hts : ∀ w ∈ rg_tbl, w.before args s = true := fun w h => hts w (List.mem_cons_of_mem _ h)
  refine lv_aload_n hx hb dM_thrown_0 rfl (lv_at hl 0 rfl) ?_
  refine va_get (D := (dC, dI)) (ci := 0) (C := "RevisionGroveModel") (T := TM) (N := 19) hx hb hts inM hown hK hP 0 rfl rfl 0 (by decide) (hts _ tw_601) (fun _ h9 => h9) rfl dM_thrown_1 ?_
  rw [hQ]
  exact rg_iret hx hb hr hlk hK hP hD hS dM_thrown_4 () rfl (by first | rfl | trivial)
set_option maxHeartbeats 4000000 in
set_option maxRecDepth 100000 in
theorem c_rm_here {l : Launch} {dC : Nat → ClassId} {dI : Nat → Nat → Nat} {h : Nat} {a : Nat → Nat} {cI cL : ClassId} {cod : Int32} {cnt : Int32} {cof : Int32} {mad : Int32} {nu : Nat → Int32} {co : Nat → Int64} {se : Nat → Int32} {li : Nat → Int32} {le : Nat → Int32} {fi : Nat → Int32} {sc : Nat → Int32} {ti : Nat → Int32} {un : Nat → Int32} {ma : Nat → Int32} {dr : Nat → Int32} {fr : Nat → Int32} {to : Nat → Int32} {en : Nat → Int32} (b : Nat) (hb4 : b < 4) : rg_M l yM_here (Cond.code yM_here prog_8_method_3_code 1 (some .int) :: rg_tbl) { frames := 0, cells := 0, slots := 0, locals := 0 } (dC, dI) rg_cl [(cI, .int), (cL, .long)] (rm_W h a cI cL cod cnt (nI b) cof mad nu co se li le fi sc ti un ma dr fr to en) [.ref h] (rg_QI (dC, dI) rg_cl [(cI, .int), (cL, .long)] (S := Unit) (fun r _ => r = ti b) (fun _ => rm_W h a cI cL cod cnt (nI b) cof mad nu co se li le fi sc ti un ma dr fr to en)) 0 0 := by
  refine rg_of prog_8_method_3_code 1 (some .int) (by decide) rfl (Nat.le_of_ble_eq_true rfl) ?_
  intro p e R s m args below meth c Q A H locs ls hR hQ hx hb hml hr hts hown hlk hnm hP hK hD hA hS hl
  have hl : lv_has ls 1 [(0, .ref h)] := hl
  have hts : ∀ w ∈ rg_tbl, w.before args s = true := fun w h => hts w (List.mem_cons_of_mem _ h)
  refine lv_aload_n hx hb dM_here_0 rfl (lv_at hl 0 rfl) ?_
  refine va_get (D := (dC, dI)) (ci := 0) (C := "RevisionGroveModel") (T := TM) (N := 19) hx hb hts inM hown hK hP 0 rfl rfl 10 (by decide) (hts _ tw_611) (fun _ h9 => h9) rfl dM_here_1 ?_
  refine lv_aload_n hx hb dM_here_4 rfl (lv_at hl 0 rfl) ?_
  refine va_get (D := (dC, dI)) (ci := 0) (C := "RevisionGroveModel") (T := TM) (N := 19) hx hb hts inM hown hK hP 0 rfl rfl 9 (by decide) (hts _ tw_610) (fun _ h9 => h9) rfl dM_here_5 ?_
  refine rg_iald hx hb hK hP 8 0 rfl rfl (by decide) (by omega) dM_here_8 ?_
  rw [hQ]
  exact rg_iret hx hb hr hlk hK hP hD hS dM_here_9 () rfl (by first | rfl | trivial)
set_option maxHeartbeats 4000000 in
set_option maxRecDepth 100000 in
theorem c_rm_come {l : Launch} {dC : Nat → ClassId} {dI : Nat → Nat → Nat} {h : Nat} {a : Nat → Nat} {cI cL : ClassId} {cod : Int32} {cnt : Int32} {cof : Int32} {mad : Int32} {nu : Nat → Int32} {co : Nat → Int64} {se : Nat → Int32} {li : Nat → Int32} {le : Nat → Int32} {fi : Nat → Int32} {sc : Nat → Int32} {ti : Nat → Int32} {un : Nat → Int32} {ma : Nat → Int32} {dr : Nat → Int32} {fr : Nat → Int32} {to : Nat → Int32} {en : Nat → Int32} (b : Nat) (hb4 : b < 4) (v : Int32) : rg_M l yM_come (Cond.code yM_come prog_8_method_5_code 2 none :: rg_tbl) { frames := 0, cells := 0, slots := 0, locals := 0 } (dC, dI) rg_cl [(cI, .int), (cL, .long)] (rm_W h a cI cL cod cnt (nI b) cof mad nu co se li le fi sc ti un ma dr fr to en) [.ref h, .int v] (rg_QV (dC, dI) rg_cl [(cI, .int), (cL, .long)] (S := Unit) (fun _ => True) (fun _ => rm_W h a cI cL cod cnt (nI b) cof mad nu co se li le fi sc (upd ti b v) un (upd ma b (nI 0)) dr fr to en)) 0 0 := by
  refine rg_of prog_8_method_5_code 2 none (by decide) rfl (Nat.le_of_ble_eq_true rfl) ?_
  intro p e R s m args below meth c Q A H locs ls hR hQ hx hb hml hr hts hown hlk hnm hP hK hD hA hS hl
  have hl : lv_has ls 2 [(0, .ref h), (1, .int v)] := hl
  have hts : ∀ w ∈ rg_tbl, w.before args s = true := fun w h => hts w (List.mem_cons_of_mem _ h)
  refine lv_aload_n hx hb dM_come_0 rfl (lv_at hl 0 rfl) ?_
  refine va_get (D := (dC, dI)) (ci := 0) (C := "RevisionGroveModel") (T := TM) (N := 19) hx hb hts inM hown hK hP 0 rfl rfl 10 (by decide) (hts _ tw_611) (fun _ h9 => h9) rfl dM_come_1 ?_
  refine lv_aload_n hx hb dM_come_4 rfl (lv_at hl 0 rfl) ?_
  refine va_get (D := (dC, dI)) (ci := 0) (C := "RevisionGroveModel") (T := TM) (N := 19) hx hb hts inM hown hK hP 0 rfl rfl 9 (by decide) (hts _ tw_610) (fun _ h9 => h9) rfl dM_come_5 ?_
  refine lv_iload_n hx hb dM_come_8 rfl (lv_at hl 1 rfl) ?_
  refine rg_iast hx hb hK hP hD hS 8 0 rfl rfl (by decide) (by omega) dM_come_9 (fun H locs hP hD hS => ?_)
  have hP : va_P (dC, dI) rg_cl (rm_W h a cI cL cod cnt (nI b) cof mad nu co se li le fi sc (upd ti b v) un ma dr fr to en) H := hP
  have hD : va_D A (rm_W h a cI cL cod cnt (nI b) cof mad nu co se li le fi sc (upd ti b v) un ma dr fr to en) := hD
  refine lv_aload_n hx hb dM_come_10 rfl (lv_at hl 0 rfl) ?_
  refine va_get (D := (dC, dI)) (ci := 0) (C := "RevisionGroveModel") (T := TM) (N := 19) hx hb hts inM hown hK hP 0 rfl rfl 12 (by decide) (hts _ tw_613) (fun _ h9 => h9) rfl dM_come_11 ?_
  refine lv_aload_n hx hb dM_come_14 rfl (lv_at hl 0 rfl) ?_
  refine va_get (D := (dC, dI)) (ci := 0) (C := "RevisionGroveModel") (T := TM) (N := 19) hx hb hts inM hown hK hP 0 rfl rfl 9 (by decide) (hts _ tw_610) (fun _ h9 => h9) rfl dM_come_15 ?_
  refine lv_iconst (v := nI 0) hx hb dM_come_18 (by decide) ?_
  refine rg_iast hx hb hK hP hD hS 10 0 rfl rfl (by decide) (by omega) dM_come_19 (fun H locs hP hD hS => ?_)
  have hP : va_P (dC, dI) rg_cl (rm_W h a cI cL cod cnt (nI b) cof mad nu co se li le fi sc (upd ti b v) un (upd ma b (nI 0)) dr fr to en) H := hP
  have hD : va_D A (rm_W h a cI cL cod cnt (nI b) cof mad nu co se li le fi sc (upd ti b v) un (upd ma b (nI 0)) dr fr to en) := hD
  rw [hQ]
  exact rg_vret hx hb hr hlk hK hP hD hS dM_come_20 () rfl (by first | rfl | trivial)
set_option maxHeartbeats 4000000 in
set_option maxRecDepth 100000 in
theorem c_rm_at {l : Launch} {dC : Nat → ClassId} {dI : Nat → Nat → Nat} {h : Nat} {a : Nat → Nat} {cI cL : ClassId} {cod : Int32} {cnt : Int32} {bra : Int32} {cof : Int32} {mad : Int32} {nu : Nat → Int32} {co : Nat → Int64} {se : Nat → Int32} {li : Nat → Int32} {le : Nat → Int32} {fi : Nat → Int32} {sc : Nat → Int32} {ti : Nat → Int32} {un : Nat → Int32} {ma : Nat → Int32} {dr : Nat → Int32} {fr : Nat → Int32} {to : Nat → Int32} {en : Nat → Int32} (r f k : Nat) (hi : 16 * r + 8 * f + k < 976) : rg_M l yM_at (Cond.code yM_at prog_8_method_26_code 4 (some .int) :: rg_tbl) { frames := 0, cells := 0, slots := 0, locals := 0 } (dC, dI) rg_cl [(cI, .int), (cL, .long)] (rm_W h a cI cL cod cnt bra cof mad nu co se li le fi sc ti un ma dr fr to en) [.ref h, .int (nI r), .int (nI f), .int (nI k)] (rg_QI (dC, dI) rg_cl [(cI, .int), (cL, .long)] (S := Unit) (fun x _ => x = li (16 * r + 8 * f + k)) (fun _ => rm_W h a cI cL cod cnt bra cof mad nu co se li le fi sc ti un ma dr fr to en)) 0 0 := by
  refine rg_of prog_8_method_26_code 4 (some .int) (by decide) rfl (Nat.le_of_ble_eq_true rfl) ?_
  intro p e R s m args below meth c Q A H locs ls hR hQ hx hb hml hr hts hown hlk hnm hP hK hD hA hS hl
  have hl : lv_has ls 4 [(0, .ref h), (1, .int (nI r)), (2, .int (nI f)), (3, .int (nI k))] := hl
  have hts : ∀ w ∈ rg_tbl, w.before args s = true := fun w h => hts w (List.mem_cons_of_mem _ h)
  refine lv_aload_n hx hb dM_at_0 rfl (lv_at hl 0 rfl) ?_
  refine va_get (D := (dC, dI)) (ci := 0) (C := "RevisionGroveModel") (T := TM) (N := 19) hx hb hts inM hown hK hP 0 rfl rfl 5 (by decide) (hts _ tw_606) (fun _ h9 => h9) rfl dM_at_1 ?_
  refine lv_bipush (v := nI 16) hx hb dM_at_4 (by decide) ?_
  refine lv_iload_n hx hb dM_at_6 rfl (lv_at hl 1 rfl) ?_
  refine rg_imul hx hb dM_at_7 ?_
  refine lv_bipush (v := nI 8) hx hb dM_at_8 (by decide) ?_
  refine lv_iload_n hx hb dM_at_10 rfl (lv_at hl 2 rfl) ?_
  refine rg_imul hx hb dM_at_11 ?_
  refine rg_iadd hx hb dM_at_12 ?_
  refine lv_iload_n hx hb dM_at_13 rfl (lv_at hl 3 rfl) ?_
  refine rg_iadd hx hb dM_at_14 ?_
  refine rg_iald hx hb hK hP 4 0 rfl rfl (by decide) (by omega) dM_at_15 ?_
  rw [hQ]
  exact rg_iret hx hb hr hlk hK hP hD hS dM_at_16 () rfl (by first | rfl | trivial)
set_option maxHeartbeats 4000000 in
set_option maxRecDepth 100000 in
theorem c_rm_finish {l : Launch} {dC : Nat → ClassId} {dI : Nat → Nat → Nat} {h : Nat} {a : Nat → Nat} {cI cL : ClassId} {cod : Int32} {cof : Int32} {mad : Int32} {nu : Nat → Int32} {co : Nat → Int64} {se : Nat → Int32} {li : Nat → Int32} {le : Nat → Int32} {fi : Nat → Int32} {sc : Nat → Int32} {ti : Nat → Int32} {un : Nat → Int32} {ma : Nat → Int32} {dr : Nat → Int32} {fr : Nat → Int32} {to : Nat → Int32} {en : Nat → Int32} (b n : Nat) (hb4 : b < 4) (hn : n < 61) (v w : Int32) : rg_M l yM_finish (Cond.code yM_finish prog_8_method_8_code 3 (some .int) :: rg_tbl) { frames := 1, cells := 0, slots := 0, locals := 21 } (dC, dI) rg_cl [(cI, .int), (cL, .long)] (rm_W h a cI cL cod (nI n) (nI b) cof mad nu co se li le fi sc ti un ma dr fr to en) [.ref h, .int v, .int w] (rg_QI (dC, dI) rg_cl [(cI, .int), (cL, .long)] (S := Unit) (fun r _ => r = nI n) (fun _ => rm_W h a cI cL cod (nI (n + 1)) (nI b) cof mad nu co se li le (upd fi n v) (upd sc n w) (upd ti b (nI n)) un (upd ma b (nI 0)) dr fr to en)) 0 0 := by
  refine rg_of prog_8_method_8_code 3 (some .int) (by decide) rfl (Nat.le_of_ble_eq_true rfl) ?_
  intro p e R s m args below meth c Q A H locs ls hR hQ hx hb hml hr hts hown hlk hnm hP hK hD hA hS hl
  have hl : lv_has ls 3 [(0, .ref h), (1, .int v), (2, .int w)] := hl
  have hts : ∀ w ∈ rg_tbl, w.before args s = true := fun w h => hts w (List.mem_cons_of_mem _ h)
  refine lv_aload_n hx hb dM_finish_0 rfl (lv_at hl 0 rfl) ?_
  refine va_get (D := (dC, dI)) (ci := 0) (C := "RevisionGroveModel") (T := TM) (N := 19) hx hb hts inM hown hK hP 0 rfl rfl 7 (by decide) (hts _ tw_608) (fun _ h9 => h9) rfl dM_finish_1 ?_
  refine lv_aload_n hx hb dM_finish_4 rfl (lv_at hl 0 rfl) ?_
  refine va_get (D := (dC, dI)) (ci := 0) (C := "RevisionGroveModel") (T := TM) (N := 19) hx hb hts inM hown hK hP 0 rfl rfl 1 (by decide) (hts _ tw_602) (fun _ h9 => h9) rfl dM_finish_5 ?_
  refine lv_iload_n hx hb dM_finish_8 rfl (lv_at hl 1 rfl) ?_
  refine rg_iast hx hb hK hP hD hS 6 0 rfl rfl (by decide) (by omega) dM_finish_9 (fun H locs hP hD hS => ?_)
  have hP : va_P (dC, dI) rg_cl (rm_W h a cI cL cod (nI n) (nI b) cof mad nu co se li le (upd fi n v) sc ti un ma dr fr to en) H := hP
  have hD : va_D A (rm_W h a cI cL cod (nI n) (nI b) cof mad nu co se li le (upd fi n v) sc ti un ma dr fr to en) := hD
  refine lv_aload_n hx hb dM_finish_10 rfl (lv_at hl 0 rfl) ?_
  refine va_get (D := (dC, dI)) (ci := 0) (C := "RevisionGroveModel") (T := TM) (N := 19) hx hb hts inM hown hK hP 0 rfl rfl 8 (by decide) (hts _ tw_609) (fun _ h9 => h9) rfl dM_finish_11 ?_
  refine lv_aload_n hx hb dM_finish_14 rfl (lv_at hl 0 rfl) ?_
  refine va_get (D := (dC, dI)) (ci := 0) (C := "RevisionGroveModel") (T := TM) (N := 19) hx hb hts inM hown hK hP 0 rfl rfl 1 (by decide) (hts _ tw_602) (fun _ h9 => h9) rfl dM_finish_15 ?_
  refine lv_iload_n hx hb dM_finish_18 rfl (lv_at hl 2 rfl) ?_
  refine rg_iast hx hb hK hP hD hS 7 0 rfl rfl (by decide) (by omega) dM_finish_19 (fun H locs hP hD hS => ?_)
  have hP : va_P (dC, dI) rg_cl (rm_W h a cI cL cod (nI n) (nI b) cof mad nu co se li le (upd fi n v) (upd sc n w) ti un ma dr fr to en) H := hP
  have hD : va_D A (rm_W h a cI cL cod (nI n) (nI b) cof mad nu co se li le (upd fi n v) (upd sc n w) ti un ma dr fr to en) := hD
  refine lv_aload_n hx hb dM_finish_20 rfl (lv_at hl 0 rfl) ?_
  refine lv_dup hx hb dM_finish_21 rfl ?_
  refine va_get (D := (dC, dI)) (ci := 0) (C := "RevisionGroveModel") (T := TM) (N := 19) hx hb hts inM hown hK hP 0 rfl rfl 1 (by decide) (hts _ tw_602) (fun _ h9 => h9) rfl dM_finish_22 ?_
  refine lv_iconst (v := nI 1) hx hb dM_finish_25 (by decide) ?_
  refine rg_iadd hx hb dM_finish_26 ?_
  refine va_put (D := (dC, dI)) (ci := 0) (v := .int (nI (n + 1))) (ty := .int) (C := "RevisionGroveModel") (T := TM) (N := 19) hx hb hts inM tyM tyM_ok nmM hown hK hP hD hS 0 rfl rfl 1 (by decide) (hts _ tw_602) (fun _ h9 => h9) rfl (by decide +kernel) rfl rfl (Nat.le_of_ble_eq_true rfl) dM_finish_27 (fun H locs hP hD hS => ?_)
  have hP : va_P (dC, dI) rg_cl (rm_W h a cI cL cod (nI (n + 1)) (nI b) cof mad nu co se li le (upd fi n v) (upd sc n w) ti un ma dr fr to en) H := hP
  have hD : va_D A (rm_W h a cI cL cod (nI (n + 1)) (nI b) cof mad nu co se li le (upd fi n v) (upd sc n w) ti un ma dr fr to en) := hD
  refine lv_aload_n hx hb dM_finish_30 rfl (lv_at hl 0 rfl) ?_
  refine lv_aload_n hx hb dM_finish_31 rfl (lv_at hl 0 rfl) ?_
  refine va_get (D := (dC, dI)) (ci := 0) (C := "RevisionGroveModel") (T := TM) (N := 19) hx hb hts inM hown hK hP 0 rfl rfl 1 (by decide) (hts _ tw_602) (fun _ h9 => h9) rfl dM_finish_32 ?_
  refine lv_iconst (v := nI 1) hx hb dM_finish_35 (by decide) ?_
  refine rg_isub hx hb dM_finish_36 (by omega) ?_
  refine rg_callv hD hS hA (va_runV (As := [.int (nI (n + 1 - 1))]) (rest := []) ⟨hx, hb, hml, hown, hts⟩ (c_rm_come b (by omega) (nI (n + 1 - 1)) _) (cwV 1 hts (rg_gV tw_691 tw_693 ts_M_come tw_5 tw_694) rfl rfl rfl (by decide +kernel) ⟨by rw [hR]; exact Nat.le_of_ble_eq_true rfl, by rw [hR]; exact Nat.le_of_ble_eq_true rfl⟩) (rg_preV rfl hK hP hD (ci := 0) (q0 := 0) rfl rfl) rfl rfl hl.1 rfl (lv_room (Nat.le_of_ble_eq_true rfl)) dM_finish_37 ⟨Nat.zero_le _, Nat.zero_le _⟩) (fun u2 H locs hw3 hP hD hS => ?_)
  have hP : va_P (dC, dI) rg_cl (rm_W h a cI cL cod (nI (n + 1)) (nI b) cof mad nu co se li le (upd fi n v) (upd sc n w) (upd ti b (nI (n + 1 - 1))) un (upd ma b (nI 0)) dr fr to en) H := hP
  have hD : va_D A (rm_W h a cI cL cod (nI (n + 1)) (nI b) cof mad nu co se li le (upd fi n v) (upd sc n w) (upd ti b (nI (n + 1 - 1))) un (upd ma b (nI 0)) dr fr to en) := hD
  refine lv_aload_n hx hb dM_finish_40 rfl (lv_at hl 0 rfl) ?_
  refine va_get (D := (dC, dI)) (ci := 0) (C := "RevisionGroveModel") (T := TM) (N := 19) hx hb hts inM hown hK hP 0 rfl rfl 1 (by decide) (hts _ tw_602) (fun _ h9 => h9) rfl dM_finish_41 ?_
  refine lv_iconst (v := nI 1) hx hb dM_finish_44 (by decide) ?_
  refine rg_isub hx hb dM_finish_45 (by omega) ?_
  rw [hQ]
  exact rg_iret hx hb hr hlk hK hP hD hS dM_finish_46 () rfl (by first | rfl | trivial)
set_option maxHeartbeats 4000000 in
set_option maxRecDepth 100000 in
theorem c_rm_copy {l : Launch} {dC : Nat → ClassId} {dI : Nat → Nat → Nat} {h : Nat} {a : Nat → Nat} {cI cL : ClassId} {cod : Int32} {cnt : Int32} {bra : Int32} {cof : Int32} {mad : Int32} {nu : Nat → Int32} {co : Nat → Int64} {se : Nat → Int32} {li : Nat → Int32} {le : Nat → Int32} {fi : Nat → Int32} {sc : Nat → Int32} {ti : Nat → Int32} {un : Nat → Int32} {ma : Nat → Int32} {dr : Nat → Int32} {fr : Nat → Int32} {to : Nat → Int32} {en : Nat → Int32} (r t : Nat) (hr6 : r < 61) (ht6 : t < 61) : rg_M l yM_copy (Cond.code yM_copy prog_8_method_4_code 4 none :: rg_tbl) { frames := 0, cells := 0, slots := 0, locals := 0 } (dC, dI) rg_cl [(cI, .int), (cL, .long)] (rm_W h a cI cL cod cnt bra cof mad nu co se li le fi sc ti un ma dr fr to en) [.ref h, .int (nI r), .int (nI t)] (rg_QV (dC, dI) rg_cl [(cI, .int), (cL, .long)] (S := Unit) (fun _ => True) (fun _ => rm_W h a cI cL cod cnt bra cof mad (va_cpy nu nu (2 * r) (2 * t) 2) (va_cpy co co (2 * r) (2 * t) 2) (va_cpy se se (2 * r) (2 * t) 2) (va_cpy li li (16 * r) (16 * t) 16) (va_cpy le le (2 * r) (2 * t) 2) (upd fi t (fi r)) (upd sc t (sc r)) ti un ma dr fr to en)) 0 0 := by
  refine rg_of prog_8_method_4_code 4 none (by decide) rfl (Nat.le_of_ble_eq_true rfl) ?_
  intro p e R s m args below meth c Q A H locs ls hR hQ hx hb hml hr hts hown hlk hnm hP hK hD hA hS hl
  have hl : lv_has ls 4 [(0, .ref h), (1, .int (nI r)), (2, .int (nI t))] := hl
  have hts : ∀ w ∈ rg_tbl, w.before args s = true := fun w h => hts w (List.mem_cons_of_mem _ h)
  refine lv_iconst (v := nI 0) hx hb dM_copy_0 (by decide) ?_
  refine lv_istore_n (lv' := [(3, .int (nI 0)), (0, .ref h), (1, .int (nI r)), (2, .int (nI t))]) hx hb dM_copy_1 rfl hl (by decide) rfl (fun ls hl => ?_)
  have lp2 : ∀ (fuel : Nat) (f : Nat) (H : Heap) (locs : List Loc) (ls : Array Slot), 2 - f < fuel → f ≤ 2 → va_P (dC, dI) rg_cl (rm_W h a cI cL cod cnt bra cof mad (va_cpy nu nu (2 * r) (2 * t) f) (va_cpy co co (2 * r) (2 * t) f) (va_cpy se se (2 * r) (2 * t) f) li (va_cpy le le (2 * r) (2 * t) f) fi sc ti un ma dr fr to en) H → va_D A (rm_W h a cI cL cod cnt bra cof mad (va_cpy nu nu (2 * r) (2 * t) f) (va_cpy co co (2 * r) (2 * t) f) (va_cpy se se (2 * r) (2 * t) f) li (va_cpy le le (2 * r) (2 * t) f) fi sc ti un ma dr fr to en) → va_S A s.heap H locs → lv_has ls 4 [(0, .ref h), (1, .int (nI r)), (2, .int (nI t)), (3, .int (nI f))] → W p l e R s m args below meth c H locs 0 0 Q (F0 m 2 ls []) := by
    intro fuel
    induction fuel with
    | zero => intro f H locs ls hf; exact absurd hf (Nat.not_lt_zero _)
    | succ fuel ih2 =>
      intro f H locs ls hfu2 hf2 hP hD hS hl
      refine lv_iload_n hx hb dM_copy_2 rfl (lv_at hl 3 rfl) ?_
      refine lv_iconst (v := nI 2) hx hb dM_copy_3 (by decide) ?_
      refine rg_icmp_ge (tgt := 93) hx hb dM_copy_4 (by decide) (by omega) (by omega) (fun h1 => ?_) (fun h1 => ?_)
      · refine lv_iconst (v := nI 0) hx hb dM_copy_93 (by decide) ?_
        refine lv_istore_n (lv' := [(3, .int (nI 0)), (0, .ref h), (1, .int (nI r)), (2, .int (nI t))]) hx hb dM_copy_94 rfl hl (by decide) rfl (fun ls hl => ?_)
        have lp95 : ∀ (fuel : Nat) (k : Nat) (H : Heap) (locs : List Loc) (ls : Array Slot), 16 - k < fuel → k ≤ 16 → va_P (dC, dI) rg_cl (rm_W h a cI cL cod cnt bra cof mad (va_cpy nu nu (2 * r) (2 * t) 2) (va_cpy co co (2 * r) (2 * t) 2) (va_cpy se se (2 * r) (2 * t) 2) (va_cpy li li (16 * r) (16 * t) k) (va_cpy le le (2 * r) (2 * t) 2) fi sc ti un ma dr fr to en) H → va_D A (rm_W h a cI cL cod cnt bra cof mad (va_cpy nu nu (2 * r) (2 * t) 2) (va_cpy co co (2 * r) (2 * t) 2) (va_cpy se se (2 * r) (2 * t) 2) (va_cpy li li (16 * r) (16 * t) k) (va_cpy le le (2 * r) (2 * t) 2) fi sc ti un ma dr fr to en) → va_S A s.heap H locs → lv_has ls 4 [(0, .ref h), (1, .int (nI r)), (2, .int (nI t)), (3, .int (nI k))] → W p l e R s m args below meth c H locs 0 0 Q (F0 m 95 ls []) := by
          intro fuel
          induction fuel with
          | zero => intro k H locs ls hf; exact absurd hf (Nat.not_lt_zero _)
          | succ fuel ih95 =>
            intro k H locs ls hfu95 hk16 hP hD hS hl
            refine lv_iload_n hx hb dM_copy_95 rfl (lv_at hl 3 rfl) ?_
            refine lv_bipush (v := nI 16) hx hb dM_copy_96 (by decide) ?_
            refine rg_icmp_ge (tgt := 129) hx hb dM_copy_98 (by decide) (by omega) (by omega) (fun h2 => ?_) (fun h2 => ?_)
            · refine lv_aload_n hx hb dM_copy_129 rfl (lv_at hl 0 rfl) ?_
              refine va_get (D := (dC, dI)) (ci := 0) (C := "RevisionGroveModel") (T := TM) (N := 19) hx hb hts inM hown hK hP 0 rfl rfl 7 (by decide) (hts _ tw_608) (fun _ h9 => h9) rfl dM_copy_130 ?_
              refine lv_iload_n hx hb dM_copy_133 rfl (lv_at hl 2 rfl) ?_
              refine lv_aload_n hx hb dM_copy_134 rfl (lv_at hl 0 rfl) ?_
              refine va_get (D := (dC, dI)) (ci := 0) (C := "RevisionGroveModel") (T := TM) (N := 19) hx hb hts inM hown hK hP 0 rfl rfl 7 (by decide) (hts _ tw_608) (fun _ h9 => h9) rfl dM_copy_135 ?_
              refine lv_iload_n hx hb dM_copy_138 rfl (lv_at hl 1 rfl) ?_
              refine rg_iald hx hb hK hP 6 0 rfl rfl (by decide) (by omega) dM_copy_139 ?_
              refine rg_iast hx hb hK hP hD hS 6 0 rfl rfl (by decide) (by omega) dM_copy_140 (fun H locs hP hD hS => ?_)
              have hP : va_P (dC, dI) rg_cl (rm_W h a cI cL cod cnt bra cof mad (va_cpy nu nu (2 * r) (2 * t) 2) (va_cpy co co (2 * r) (2 * t) 2) (va_cpy se se (2 * r) (2 * t) 2) (va_cpy li li (16 * r) (16 * t) k) (va_cpy le le (2 * r) (2 * t) 2) (upd fi t (fi r)) sc ti un ma dr fr to en) H := hP
              have hD : va_D A (rm_W h a cI cL cod cnt bra cof mad (va_cpy nu nu (2 * r) (2 * t) 2) (va_cpy co co (2 * r) (2 * t) 2) (va_cpy se se (2 * r) (2 * t) 2) (va_cpy li li (16 * r) (16 * t) k) (va_cpy le le (2 * r) (2 * t) 2) (upd fi t (fi r)) sc ti un ma dr fr to en) := hD
              refine lv_aload_n hx hb dM_copy_141 rfl (lv_at hl 0 rfl) ?_
              refine va_get (D := (dC, dI)) (ci := 0) (C := "RevisionGroveModel") (T := TM) (N := 19) hx hb hts inM hown hK hP 0 rfl rfl 8 (by decide) (hts _ tw_609) (fun _ h9 => h9) rfl dM_copy_142 ?_
              refine lv_iload_n hx hb dM_copy_145 rfl (lv_at hl 2 rfl) ?_
              refine lv_aload_n hx hb dM_copy_146 rfl (lv_at hl 0 rfl) ?_
              refine va_get (D := (dC, dI)) (ci := 0) (C := "RevisionGroveModel") (T := TM) (N := 19) hx hb hts inM hown hK hP 0 rfl rfl 8 (by decide) (hts _ tw_609) (fun _ h9 => h9) rfl dM_copy_147 ?_
              refine lv_iload_n hx hb dM_copy_150 rfl (lv_at hl 1 rfl) ?_
              refine rg_iald hx hb hK hP 7 0 rfl rfl (by decide) (by omega) dM_copy_151 ?_
              refine rg_iast hx hb hK hP hD hS 7 0 rfl rfl (by decide) (by omega) dM_copy_152 (fun H locs hP hD hS => ?_)
              have hP : va_P (dC, dI) rg_cl (rm_W h a cI cL cod cnt bra cof mad (va_cpy nu nu (2 * r) (2 * t) 2) (va_cpy co co (2 * r) (2 * t) 2) (va_cpy se se (2 * r) (2 * t) 2) (va_cpy li li (16 * r) (16 * t) k) (va_cpy le le (2 * r) (2 * t) 2) (upd fi t (fi r)) (upd sc t (sc r)) ti un ma dr fr to en) H := hP
              have hD : va_D A (rm_W h a cI cL cod cnt bra cof mad (va_cpy nu nu (2 * r) (2 * t) 2) (va_cpy co co (2 * r) (2 * t) 2) (va_cpy se se (2 * r) (2 * t) 2) (va_cpy li li (16 * r) (16 * t) k) (va_cpy le le (2 * r) (2 * t) 2) (upd fi t (fi r)) (upd sc t (sc r)) ti un ma dr fr to en) := hD
              obtain rfl : k = 16 := by omega
              rw [hQ]
              exact rg_vret hx hb hr hlk hK hP hD hS dM_copy_153 () rfl trivial
            · refine lv_aload_n hx hb dM_copy_101 rfl (lv_at hl 0 rfl) ?_
              refine va_get (D := (dC, dI)) (ci := 0) (C := "RevisionGroveModel") (T := TM) (N := 19) hx hb hts inM hown hK hP 0 rfl rfl 5 (by decide) (hts _ tw_606) (fun _ h9 => h9) rfl dM_copy_102 ?_
              refine lv_bipush (v := nI 16) hx hb dM_copy_105 (by decide) ?_
              refine lv_iload_n hx hb dM_copy_107 rfl (lv_at hl 2 rfl) ?_
              refine rg_imul hx hb dM_copy_108 ?_
              refine lv_iload_n hx hb dM_copy_109 rfl (lv_at hl 3 rfl) ?_
              refine rg_iadd hx hb dM_copy_110 ?_
              refine lv_aload_n hx hb dM_copy_111 rfl (lv_at hl 0 rfl) ?_
              refine va_get (D := (dC, dI)) (ci := 0) (C := "RevisionGroveModel") (T := TM) (N := 19) hx hb hts inM hown hK hP 0 rfl rfl 5 (by decide) (hts _ tw_606) (fun _ h9 => h9) rfl dM_copy_112 ?_
              refine lv_bipush (v := nI 16) hx hb dM_copy_115 (by decide) ?_
              refine lv_iload_n hx hb dM_copy_117 rfl (lv_at hl 1 rfl) ?_
              refine rg_imul hx hb dM_copy_118 ?_
              refine lv_iload_n hx hb dM_copy_119 rfl (lv_at hl 3 rfl) ?_
              refine rg_iadd hx hb dM_copy_120 ?_
              refine rg_iald hx hb hK hP 4 0 rfl rfl (by decide) (by omega) dM_copy_121 ?_
              refine rg_iast hx hb hK hP hD hS 4 0 rfl rfl (by decide) (by omega) dM_copy_122 (fun H locs hP hD hS => ?_)
              have hP : va_P (dC, dI) rg_cl (rm_W h a cI cL cod cnt bra cof mad (va_cpy nu nu (2 * r) (2 * t) 2) (va_cpy co co (2 * r) (2 * t) 2) (va_cpy se se (2 * r) (2 * t) 2) (upd (va_cpy li li (16 * r) (16 * t) k) (16 * t + k) ((va_cpy li li (16 * r) (16 * t) k) (16 * r + k))) (va_cpy le le (2 * r) (2 * t) 2) fi sc ti un ma dr fr to en) H := hP
              have hD : va_D A (rm_W h a cI cL cod cnt bra cof mad (va_cpy nu nu (2 * r) (2 * t) 2) (va_cpy co co (2 * r) (2 * t) 2) (va_cpy se se (2 * r) (2 * t) 2) (upd (va_cpy li li (16 * r) (16 * t) k) (16 * t + k) ((va_cpy li li (16 * r) (16 * t) k) (16 * r + k))) (va_cpy le le (2 * r) (2 * t) 2) fi sc ti un ma dr fr to en) := hD
              refine lv_iinc (k := 3) (v := nI (k + 1)) (lv' := [(3, .int (nI (k + 1))), (0, .ref h), (1, .int (nI r)), (2, .int (nI t))]) hx hb dM_copy_123 hl rfl (nI_1 _) (by decide) rfl (fun ls hl => ?_)
              refine lv_goto (tgt := 95) hx hb dM_copy_126 (by decide) ?_
              exact ih95 (k + 1) _ _ _ (by omega) (by omega) (by rw [← rg_cpyI li (16 * r) (16 * t) k (by omega)]; exact hP) (by rw [← rg_cpyI li (16 * r) (16 * t) k (by omega)]; exact hD) hS (lv_sub hl [1, 2, 3, 0] rfl)
        exact lp95 _ 0 _ _ _ (Nat.lt_succ_self _) (by omega) (by obtain rfl : f = 2 := (by omega); rw [rg_cpy0 li]; exact hP) (by obtain rfl : f = 2 := (by omega); rw [rg_cpy0 li]; exact hD) hS (lv_sub hl [1, 2, 3, 0] rfl)
      · refine lv_aload_n hx hb dM_copy_7 rfl (lv_at hl 0 rfl) ?_
        refine va_get (D := (dC, dI)) (ci := 0) (C := "RevisionGroveModel") (T := TM) (N := 19) hx hb hts inM hown hK hP 0 rfl rfl 2 (by decide) (hts _ tw_603) (fun _ h9 => h9) rfl dM_copy_8 ?_
        refine lv_iconst (v := nI 2) hx hb dM_copy_11 (by decide) ?_
        refine lv_iload_n hx hb dM_copy_12 rfl (lv_at hl 2 rfl) ?_
        refine rg_imul hx hb dM_copy_13 ?_
        refine lv_iload_n hx hb dM_copy_14 rfl (lv_at hl 3 rfl) ?_
        refine rg_iadd hx hb dM_copy_15 ?_
        refine lv_aload_n hx hb dM_copy_16 rfl (lv_at hl 0 rfl) ?_
        refine va_get (D := (dC, dI)) (ci := 0) (C := "RevisionGroveModel") (T := TM) (N := 19) hx hb hts inM hown hK hP 0 rfl rfl 2 (by decide) (hts _ tw_603) (fun _ h9 => h9) rfl dM_copy_17 ?_
        refine lv_iconst (v := nI 2) hx hb dM_copy_20 (by decide) ?_
        refine lv_iload_n hx hb dM_copy_21 rfl (lv_at hl 1 rfl) ?_
        refine rg_imul hx hb dM_copy_22 ?_
        refine lv_iload_n hx hb dM_copy_23 rfl (lv_at hl 3 rfl) ?_
        refine rg_iadd hx hb dM_copy_24 ?_
        refine rg_iald hx hb hK hP 1 0 rfl rfl (by decide) (by omega) dM_copy_25 ?_
        refine rg_iast hx hb hK hP hD hS 1 0 rfl rfl (by decide) (by omega) dM_copy_26 (fun H locs hP hD hS => ?_)
        have hP : va_P (dC, dI) rg_cl (rm_W h a cI cL cod cnt bra cof mad (upd (va_cpy nu nu (2 * r) (2 * t) f) (2 * t + f) ((va_cpy nu nu (2 * r) (2 * t) f) (2 * r + f))) (va_cpy co co (2 * r) (2 * t) f) (va_cpy se se (2 * r) (2 * t) f) li (va_cpy le le (2 * r) (2 * t) f) fi sc ti un ma dr fr to en) H := hP
        have hD : va_D A (rm_W h a cI cL cod cnt bra cof mad (upd (va_cpy nu nu (2 * r) (2 * t) f) (2 * t + f) ((va_cpy nu nu (2 * r) (2 * t) f) (2 * r + f))) (va_cpy co co (2 * r) (2 * t) f) (va_cpy se se (2 * r) (2 * t) f) li (va_cpy le le (2 * r) (2 * t) f) fi sc ti un ma dr fr to en) := hD
        refine lv_aload_n hx hb dM_copy_27 rfl (lv_at hl 0 rfl) ?_
        refine va_get (D := (dC, dI)) (ci := 0) (C := "RevisionGroveModel") (T := TM) (N := 19) hx hb hts inM hown hK hP 0 rfl rfl 3 (by decide) (hts _ tw_604) (fun _ h9 => h9) rfl dM_copy_28 ?_
        refine lv_iconst (v := nI 2) hx hb dM_copy_31 (by decide) ?_
        refine lv_iload_n hx hb dM_copy_32 rfl (lv_at hl 2 rfl) ?_
        refine rg_imul hx hb dM_copy_33 ?_
        refine lv_iload_n hx hb dM_copy_34 rfl (lv_at hl 3 rfl) ?_
        refine rg_iadd hx hb dM_copy_35 ?_
        refine lv_aload_n hx hb dM_copy_36 rfl (lv_at hl 0 rfl) ?_
        refine va_get (D := (dC, dI)) (ci := 0) (C := "RevisionGroveModel") (T := TM) (N := 19) hx hb hts inM hown hK hP 0 rfl rfl 3 (by decide) (hts _ tw_604) (fun _ h9 => h9) rfl dM_copy_37 ?_
        refine lv_iconst (v := nI 2) hx hb dM_copy_40 (by decide) ?_
        refine lv_iload_n hx hb dM_copy_41 rfl (lv_at hl 1 rfl) ?_
        refine rg_imul hx hb dM_copy_42 ?_
        refine lv_iload_n hx hb dM_copy_43 rfl (lv_at hl 3 rfl) ?_
        refine rg_iadd hx hb dM_copy_44 ?_
        refine rg_lald hx hb hK hP 2 1 rfl rfl (by decide) (by omega) dM_copy_45 ?_
        refine rg_last hx hb hK hP hD hS 2 1 rfl rfl (by decide) (by omega) dM_copy_46 (fun H locs hP hD hS => ?_)
        have hP : va_P (dC, dI) rg_cl (rm_W h a cI cL cod cnt bra cof mad (upd (va_cpy nu nu (2 * r) (2 * t) f) (2 * t + f) ((va_cpy nu nu (2 * r) (2 * t) f) (2 * r + f))) (vp_updL (va_cpy co co (2 * r) (2 * t) f) (2 * t + f) ((va_cpy co co (2 * r) (2 * t) f) (2 * r + f))) (va_cpy se se (2 * r) (2 * t) f) li (va_cpy le le (2 * r) (2 * t) f) fi sc ti un ma dr fr to en) H := hP
        have hD : va_D A (rm_W h a cI cL cod cnt bra cof mad (upd (va_cpy nu nu (2 * r) (2 * t) f) (2 * t + f) ((va_cpy nu nu (2 * r) (2 * t) f) (2 * r + f))) (vp_updL (va_cpy co co (2 * r) (2 * t) f) (2 * t + f) ((va_cpy co co (2 * r) (2 * t) f) (2 * r + f))) (va_cpy se se (2 * r) (2 * t) f) li (va_cpy le le (2 * r) (2 * t) f) fi sc ti un ma dr fr to en) := hD
        refine lv_aload_n hx hb dM_copy_47 rfl (lv_at hl 0 rfl) ?_
        refine va_get (D := (dC, dI)) (ci := 0) (C := "RevisionGroveModel") (T := TM) (N := 19) hx hb hts inM hown hK hP 0 rfl rfl 4 (by decide) (hts _ tw_605) (fun _ h9 => h9) rfl dM_copy_48 ?_
        refine lv_iconst (v := nI 2) hx hb dM_copy_51 (by decide) ?_
        refine lv_iload_n hx hb dM_copy_52 rfl (lv_at hl 2 rfl) ?_
        refine rg_imul hx hb dM_copy_53 ?_
        refine lv_iload_n hx hb dM_copy_54 rfl (lv_at hl 3 rfl) ?_
        refine rg_iadd hx hb dM_copy_55 ?_
        refine lv_aload_n hx hb dM_copy_56 rfl (lv_at hl 0 rfl) ?_
        refine va_get (D := (dC, dI)) (ci := 0) (C := "RevisionGroveModel") (T := TM) (N := 19) hx hb hts inM hown hK hP 0 rfl rfl 4 (by decide) (hts _ tw_605) (fun _ h9 => h9) rfl dM_copy_57 ?_
        refine lv_iconst (v := nI 2) hx hb dM_copy_60 (by decide) ?_
        refine lv_iload_n hx hb dM_copy_61 rfl (lv_at hl 1 rfl) ?_
        refine rg_imul hx hb dM_copy_62 ?_
        refine lv_iload_n hx hb dM_copy_63 rfl (lv_at hl 3 rfl) ?_
        refine rg_iadd hx hb dM_copy_64 ?_
        refine rg_iald hx hb hK hP 3 0 rfl rfl (by decide) (by omega) dM_copy_65 ?_
        refine rg_iast hx hb hK hP hD hS 3 0 rfl rfl (by decide) (by omega) dM_copy_66 (fun H locs hP hD hS => ?_)
        have hP : va_P (dC, dI) rg_cl (rm_W h a cI cL cod cnt bra cof mad (upd (va_cpy nu nu (2 * r) (2 * t) f) (2 * t + f) ((va_cpy nu nu (2 * r) (2 * t) f) (2 * r + f))) (vp_updL (va_cpy co co (2 * r) (2 * t) f) (2 * t + f) ((va_cpy co co (2 * r) (2 * t) f) (2 * r + f))) (upd (va_cpy se se (2 * r) (2 * t) f) (2 * t + f) ((va_cpy se se (2 * r) (2 * t) f) (2 * r + f))) li (va_cpy le le (2 * r) (2 * t) f) fi sc ti un ma dr fr to en) H := hP
        have hD : va_D A (rm_W h a cI cL cod cnt bra cof mad (upd (va_cpy nu nu (2 * r) (2 * t) f) (2 * t + f) ((va_cpy nu nu (2 * r) (2 * t) f) (2 * r + f))) (vp_updL (va_cpy co co (2 * r) (2 * t) f) (2 * t + f) ((va_cpy co co (2 * r) (2 * t) f) (2 * r + f))) (upd (va_cpy se se (2 * r) (2 * t) f) (2 * t + f) ((va_cpy se se (2 * r) (2 * t) f) (2 * r + f))) li (va_cpy le le (2 * r) (2 * t) f) fi sc ti un ma dr fr to en) := hD
        refine lv_aload_n hx hb dM_copy_67 rfl (lv_at hl 0 rfl) ?_
        refine va_get (D := (dC, dI)) (ci := 0) (C := "RevisionGroveModel") (T := TM) (N := 19) hx hb hts inM hown hK hP 0 rfl rfl 6 (by decide) (hts _ tw_607) (fun _ h9 => h9) rfl dM_copy_68 ?_
        refine lv_iconst (v := nI 2) hx hb dM_copy_71 (by decide) ?_
        refine lv_iload_n hx hb dM_copy_72 rfl (lv_at hl 2 rfl) ?_
        refine rg_imul hx hb dM_copy_73 ?_
        refine lv_iload_n hx hb dM_copy_74 rfl (lv_at hl 3 rfl) ?_
        refine rg_iadd hx hb dM_copy_75 ?_
        refine lv_aload_n hx hb dM_copy_76 rfl (lv_at hl 0 rfl) ?_
        refine va_get (D := (dC, dI)) (ci := 0) (C := "RevisionGroveModel") (T := TM) (N := 19) hx hb hts inM hown hK hP 0 rfl rfl 6 (by decide) (hts _ tw_607) (fun _ h9 => h9) rfl dM_copy_77 ?_
        refine lv_iconst (v := nI 2) hx hb dM_copy_80 (by decide) ?_
        refine lv_iload_n hx hb dM_copy_81 rfl (lv_at hl 1 rfl) ?_
        refine rg_imul hx hb dM_copy_82 ?_
        refine lv_iload_n hx hb dM_copy_83 rfl (lv_at hl 3 rfl) ?_
        refine rg_iadd hx hb dM_copy_84 ?_
        refine rg_iald hx hb hK hP 5 0 rfl rfl (by decide) (by omega) dM_copy_85 ?_
        refine rg_iast hx hb hK hP hD hS 5 0 rfl rfl (by decide) (by omega) dM_copy_86 (fun H locs hP hD hS => ?_)
        have hP : va_P (dC, dI) rg_cl (rm_W h a cI cL cod cnt bra cof mad (upd (va_cpy nu nu (2 * r) (2 * t) f) (2 * t + f) ((va_cpy nu nu (2 * r) (2 * t) f) (2 * r + f))) (vp_updL (va_cpy co co (2 * r) (2 * t) f) (2 * t + f) ((va_cpy co co (2 * r) (2 * t) f) (2 * r + f))) (upd (va_cpy se se (2 * r) (2 * t) f) (2 * t + f) ((va_cpy se se (2 * r) (2 * t) f) (2 * r + f))) li (upd (va_cpy le le (2 * r) (2 * t) f) (2 * t + f) ((va_cpy le le (2 * r) (2 * t) f) (2 * r + f))) fi sc ti un ma dr fr to en) H := hP
        have hD : va_D A (rm_W h a cI cL cod cnt bra cof mad (upd (va_cpy nu nu (2 * r) (2 * t) f) (2 * t + f) ((va_cpy nu nu (2 * r) (2 * t) f) (2 * r + f))) (vp_updL (va_cpy co co (2 * r) (2 * t) f) (2 * t + f) ((va_cpy co co (2 * r) (2 * t) f) (2 * r + f))) (upd (va_cpy se se (2 * r) (2 * t) f) (2 * t + f) ((va_cpy se se (2 * r) (2 * t) f) (2 * r + f))) li (upd (va_cpy le le (2 * r) (2 * t) f) (2 * t + f) ((va_cpy le le (2 * r) (2 * t) f) (2 * r + f))) fi sc ti un ma dr fr to en) := hD
        refine lv_iinc (k := 3) (v := nI (f + 1)) (lv' := [(3, .int (nI (f + 1))), (0, .ref h), (1, .int (nI r)), (2, .int (nI t))]) hx hb dM_copy_87 hl rfl (nI_1 _) (by decide) rfl (fun ls hl => ?_)
        refine lv_goto (tgt := 2) hx hb dM_copy_90 (by decide) ?_
        exact ih2 (f + 1) _ _ _ (by omega) (by omega) (by rw [← rg_cpyI nu (2 * r) (2 * t) f (by omega), ← rg_cpyL co (2 * r) (2 * t) f (by omega), ← rg_cpyI se (2 * r) (2 * t) f (by omega), ← rg_cpyI le (2 * r) (2 * t) f (by omega)]; exact hP) (by rw [← rg_cpyI nu (2 * r) (2 * t) f (by omega), ← rg_cpyL co (2 * r) (2 * t) f (by omega), ← rg_cpyI se (2 * r) (2 * t) f (by omega), ← rg_cpyI le (2 * r) (2 * t) f (by omega)]; exact hD) hS (lv_sub hl [1, 2, 3, 0] rfl)
  exact lp2 _ 0 _ _ _ (Nat.lt_succ_self _) (by omega) (by rw [rg_cpy0 nu, rg_cpy0 co, rg_cpy0 se, rg_cpy0 le]; exact hP) (by rw [rg_cpy0 nu, rg_cpy0 co, rg_cpy0 se, rg_cpy0 le]; exact hD) hS (lv_sub hl [1, 2, 3, 0] rfl)
end
section
set_option maxHeartbeats 4000000 in
set_option maxRecDepth 100000 in
theorem c_rm_sameList {l : Launch} {dC : Nat → ClassId} {dI : Nat → Nat → Nat} {h : Nat} {a : Nat → Nat} {cI cL : ClassId} {cod : Int32} {cnt : Int32} {bra : Int32} {cof : Int32} {mad : Int32} {nu : Nat → Int32} {co : Nat → Int64} {se : Nat → Int32} {li : Nat → Int32} {le : Nat → Int32} {fi : Nat → Int32} {sc : Nat → Int32} {ti : Nat → Int32} {un : Nat → Int32} {ma : Nat → Int32} {dr : Nat → Int32} {fr : Nat → Int32} {to : Nat → Int32} {en : Nat → Int32} (r q f : Nat) (hr6 : r < 61) (hq6 : q < 61) (hf2 : f < 2) (x y : List Int32) (hx8 : x.length ≤ 8) (hlx : le (2 * r + f) = nI x.length) (hcx : ∀ k, k < x.length → li (16 * r + 8 * f + k) = x.getD k 0) (hy8 : y.length ≤ 8) (hly : le (2 * q + f) = nI y.length) (hcy : ∀ k, k < y.length → li (16 * q + 8 * f + k) = y.getD k 0) : rg_M l yM_sameList (Cond.code yM_sameList prog_8_method_6_code 6 (some .boolean) :: rg_tbl) { frames := 0, cells := 0, slots := 0, locals := 0 } (dC, dI) rg_cl [(cI, .int), (cL, .long)] (rm_W h a cI cL cod cnt bra cof mad nu co se li le fi sc ti un ma dr fr to en) [.ref h, .int (nI r), .int (nI q), .int (nI f)] (rg_QI (dC, dI) rg_cl [(cI, .int), (cL, .long)] (S := Unit) (fun z _ => z = bif decide (x = y) then 1 else 0) (fun _ => rm_W h a cI cL cod cnt bra cof mad nu co se li le fi sc ti un ma dr fr to en)) 0 0 := by
  refine rg_of prog_8_method_6_code 6 (some .boolean) (by decide) rfl (Nat.le_of_ble_eq_true rfl) ?_
  intro p e R s m args below meth c Q A H locs ls hR hQ hx hb hml hr hts hown hlk hnm hP hK hD hA hS hl
  have hl : lv_has ls 6 [(0, .ref h), (1, .int (nI r)), (2, .int (nI q)), (3, .int (nI f))] := hl
  have hts : ∀ w ∈ rg_tbl, w.before args s = true := fun w h => hts w (List.mem_cons_of_mem _ h)
  refine lv_aload_n hx hb dM_sameList_0 rfl (lv_at hl 0 rfl) ?_
  refine va_get (D := (dC, dI)) (ci := 0) (C := "RevisionGroveModel") (T := TM) (N := 19) hx hb hts inM hown hK hP 0 rfl rfl 6 (by decide) (hts _ tw_607) (fun _ h9 => h9) rfl dM_sameList_1 ?_
  refine lv_iconst (v := nI 2) hx hb dM_sameList_4 (by decide) ?_
  refine lv_iload_n hx hb dM_sameList_5 rfl (lv_at hl 1 rfl) ?_
  refine rg_imul hx hb dM_sameList_6 ?_
  refine lv_iload_n hx hb dM_sameList_7 rfl (lv_at hl 3 rfl) ?_
  refine rg_iadd hx hb dM_sameList_8 ?_
  refine rg_iald hx hb hK hP 5 0 rfl rfl (by decide) (by omega) dM_sameList_9 ?_
  refine rg_top (show (.int (le (2 * r + f)) : Value) = .int (nI x.length) by rw [hlx]) ?_
  refine lv_aload_n hx hb dM_sameList_10 rfl (lv_at hl 0 rfl) ?_
  refine va_get (D := (dC, dI)) (ci := 0) (C := "RevisionGroveModel") (T := TM) (N := 19) hx hb hts inM hown hK hP 0 rfl rfl 6 (by decide) (hts _ tw_607) (fun _ h9 => h9) rfl dM_sameList_11 ?_
  refine lv_iconst (v := nI 2) hx hb dM_sameList_14 (by decide) ?_
  refine lv_iload_n hx hb dM_sameList_15 rfl (lv_at hl 2 rfl) ?_
  refine rg_imul hx hb dM_sameList_16 ?_
  refine lv_iload_n hx hb dM_sameList_17 rfl (lv_at hl 3 rfl) ?_
  refine rg_iadd hx hb dM_sameList_18 ?_
  refine rg_iald hx hb hK hP 5 0 rfl rfl (by decide) (by omega) dM_sameList_19 ?_
  refine rg_top (show (.int (le (2 * q + f)) : Value) = .int (nI y.length) by rw [hly]) ?_
  have J20 : ∀ v9 : Bool, v9 = (decide (x.length = y.length)) → W p l e R s m args below meth c H locs 0 0 Q (F0 m 28 ls [.int (bif v9 then 1 else 0)]) := by
    intro v9 hv9
    subst hv9
    refine lv_istore (lv' := [(4, .int (bif (decide (x.length = y.length)) then 1 else 0)), (0, .ref h), (1, .int (nI r)), (2, .int (nI q)), (3, .int (nI f))]) hx hb dM_sameList_28 hl (by decide) rfl (fun ls hl => ?_)
    refine lv_iconst (v := nI 0) hx hb dM_sameList_30 (by decide) ?_
    refine lv_istore (lv' := [(5, .int (nI 0)), (4, .int (bif (decide (x.length = y.length)) then 1 else 0)), (0, .ref h), (1, .int (nI r)), (2, .int (nI q)), (3, .int (nI f))]) hx hb dM_sameList_31 hl (by decide) rfl (fun ls hl => ?_)
    have lp33 : ∀ (fuel : Nat) (k : Nat) (bb : Bool) (H : Heap) (locs : List Loc) (ls : Array Slot), x.length + 1 - k < fuel → k ≤ x.length → (bb = true → x.length = y.length ∧ ∀ j, j < k → x.getD j 0 = y.getD j 0) → (bb = false → ¬ x = y) → va_P (dC, dI) rg_cl (rm_W h a cI cL cod cnt bra cof mad nu co se li le fi sc ti un ma dr fr to en) H → va_D A (rm_W h a cI cL cod cnt bra cof mad nu co se li le fi sc ti un ma dr fr to en) → va_S A s.heap H locs → lv_has ls 6 [(0, .ref h), (1, .int (nI r)), (2, .int (nI q)), (3, .int (nI f)), (4, .int (bif bb then 1 else 0)), (5, .int (nI k))] → W p l e R s m args below meth c H locs 0 0 Q (F0 m 33 ls []) := by
      intro fuel
      induction fuel with
      | zero => intro k bb H locs ls hf; exact absurd hf (Nat.not_lt_zero _)
      | succ fuel ih33 =>
        intro k bb H locs ls hfu33 hkn hb1 hb0 hP hD hS hl
        refine lv_iload hx hb dM_sameList_33 (lv_at hl 5 rfl) ?_
        refine lv_aload_n hx hb dM_sameList_35 rfl (lv_at hl 0 rfl) ?_
        refine va_get (D := (dC, dI)) (ci := 0) (C := "RevisionGroveModel") (T := TM) (N := 19) hx hb hts inM hown hK hP 0 rfl rfl 6 (by decide) (hts _ tw_607) (fun _ h9 => h9) rfl dM_sameList_36 ?_
        refine lv_iconst (v := nI 2) hx hb dM_sameList_39 (by decide) ?_
        refine lv_iload_n hx hb dM_sameList_40 rfl (lv_at hl 1 rfl) ?_
        refine rg_imul hx hb dM_sameList_41 ?_
        refine lv_iload_n hx hb dM_sameList_42 rfl (lv_at hl 3 rfl) ?_
        refine rg_iadd hx hb dM_sameList_43 ?_
        refine rg_iald hx hb hK hP 5 0 rfl rfl (by decide) (by omega) dM_sameList_44 ?_
        refine rg_top (show (.int (le (2 * r + f)) : Value) = .int (nI x.length) by rw [hlx]) ?_
        refine rg_icmp_ge (tgt := 103) hx hb dM_sameList_45 (by decide) (by omega) (by omega) (fun h1 => ?_) (fun h1 => ?_)
        · refine lv_iload hx hb dM_sameList_103 (lv_at hl 4 rfl) ?_
          rw [hQ]
          exact rg_zret hx hb hr hlk hK hP hD hS (rg_b01 _) dM_sameList_105 () rfl (rg_same_end h1 hb1 hb0)
        · refine lv_iload hx hb dM_sameList_48 (lv_at hl 4 rfl) ?_
          refine rg_ifz_eq (tgt := 103) hx hb dM_sameList_50 (by decide) (fun h2 => ?_) (fun h2 => ?_)
          · refine lv_iload hx hb dM_sameList_103 (lv_at hl 4 rfl) ?_
            rw [hQ]
            exact rg_zret hx hb hr hlk hK hP hD hS (rg_b01 _) dM_sameList_105 () rfl (rg_same_f h2 hb0)
          · have hle := (hb1 h2).1
            have hka := hcx k (by omega)
            have hkb := hcy k (by omega)
            have hB := h2
            refine lv_aload_n hx hb dM_sameList_53 rfl (lv_at hl 0 rfl) ?_
            refine va_get (D := (dC, dI)) (ci := 0) (C := "RevisionGroveModel") (T := TM) (N := 19) hx hb hts inM hown hK hP 0 rfl rfl 5 (by decide) (hts _ tw_606) (fun _ h9 => h9) rfl dM_sameList_54 ?_
            refine lv_bipush (v := nI 16) hx hb dM_sameList_57 (by decide) ?_
            refine lv_iload_n hx hb dM_sameList_59 rfl (lv_at hl 1 rfl) ?_
            refine rg_imul hx hb dM_sameList_60 ?_
            refine lv_bipush (v := nI 8) hx hb dM_sameList_61 (by decide) ?_
            refine lv_iload_n hx hb dM_sameList_63 rfl (lv_at hl 3 rfl) ?_
            refine rg_imul hx hb dM_sameList_64 ?_
            refine rg_iadd hx hb dM_sameList_65 ?_
            refine lv_iload hx hb dM_sameList_66 (lv_at hl 5 rfl) ?_
            refine rg_iadd hx hb dM_sameList_68 ?_
            refine rg_iald hx hb hK hP 4 0 rfl rfl (by decide) (by omega) dM_sameList_69 ?_
            refine rg_top (show (.int (li (16 * r + 8 * f + k)) : Value) = .int (x.getD k 0) by rw [hka]) ?_
            refine lv_aload_n hx hb dM_sameList_70 rfl (lv_at hl 0 rfl) ?_
            refine va_get (D := (dC, dI)) (ci := 0) (C := "RevisionGroveModel") (T := TM) (N := 19) hx hb hts inM hown hK hP 0 rfl rfl 5 (by decide) (hts _ tw_606) (fun _ h9 => h9) rfl dM_sameList_71 ?_
            refine lv_bipush (v := nI 16) hx hb dM_sameList_74 (by decide) ?_
            refine lv_iload_n hx hb dM_sameList_76 rfl (lv_at hl 2 rfl) ?_
            refine rg_imul hx hb dM_sameList_77 ?_
            refine lv_bipush (v := nI 8) hx hb dM_sameList_78 (by decide) ?_
            refine lv_iload_n hx hb dM_sameList_80 rfl (lv_at hl 3 rfl) ?_
            refine rg_imul hx hb dM_sameList_81 ?_
            refine rg_iadd hx hb dM_sameList_82 ?_
            refine lv_iload hx hb dM_sameList_83 (lv_at hl 5 rfl) ?_
            refine rg_iadd hx hb dM_sameList_85 ?_
            refine rg_iald hx hb hK hP 4 0 rfl rfl (by decide) (by omega) dM_sameList_86 ?_
            refine rg_top (show (.int (li (16 * q + 8 * f + k)) : Value) = .int (y.getD k 0) by rw [hkb]) ?_
            have J87 : ∀ v9 : Bool, v9 = (decide (x.getD k 0 = y.getD k 0)) → W p l e R s m args below meth c H locs 0 0 Q (F0 m 95 ls [.int (bif v9 then 1 else 0)]) := by
              intro v9 hv9
              subst hv9
              refine lv_istore (lv' := [(4, .int (bif (decide (x.getD k 0 = y.getD k 0)) then 1 else 0)), (0, .ref h), (1, .int (nI r)), (2, .int (nI q)), (3, .int (nI f)), (5, .int (nI k))]) hx hb dM_sameList_95 hl (by decide) rfl (fun ls hl => ?_)
              refine lv_iinc (k := 5) (v := nI (k + 1)) (lv' := [(5, .int (nI (k + 1))), (4, .int (bif (decide (x.getD k 0 = y.getD k 0)) then 1 else 0)), (0, .ref h), (1, .int (nI r)), (2, .int (nI q)), (3, .int (nI f))]) hx hb dM_sameList_97 hl rfl (nI_1 _) (by decide) rfl (fun ls hl => ?_)
              refine lv_goto (tgt := 33) hx hb dM_sameList_100 (by decide) ?_
              exact ih33 (k + 1) (decide (x.getD k 0 = y.getD k 0)) _ _ _ (by omega) (by omega) (fun h => ⟨hle, lt_s (hb1 hB).2 (of_decide_eq_true h)⟩) (fun h hxy => of_decide_eq_false h (by rw [hxy])) hP hD hS (lv_sub hl [2, 3, 4, 5, 1, 0] rfl)
            refine lv_icmp_ne (tgt := 94) hx hb dM_sameList_87 (by decide) (fun h3 => ?_) (fun h3 => ?_)
            · refine lv_iconst (v := nI 0) hx hb dM_sameList_94 (by decide) ?_
              exact J87 false ((decide_eq_false h3).symm)
            · refine lv_iconst (v := nI 1) hx hb dM_sameList_90 (by decide) ?_
              refine lv_goto (tgt := 95) hx hb dM_sameList_91 (by decide) ?_
              exact J87 true ((decide_eq_true h3).symm)
    exact lp33 _ 0 (decide (x.length = y.length)) _ _ _ (Nat.lt_succ_self _) (Nat.zero_le _) (fun h => ⟨of_decide_eq_true h, fun j hj => absurd hj (Nat.not_lt_zero j)⟩) (fun h hxy => of_decide_eq_false h (by rw [hxy])) hP hD hS (lv_sub hl [2, 3, 4, 5, 1, 0] rfl)
  refine rg_icmp_ne (tgt := 27) hx hb dM_sameList_20 (by decide) (by omega) (by omega) (fun h4 => ?_) (fun h4 => ?_)
  · refine lv_iconst (v := nI 0) hx hb dM_sameList_27 (by decide) ?_
    exact J20 false ((decide_eq_false h4).symm)
  · refine lv_iconst (v := nI 1) hx hb dM_sameList_23 (by decide) ?_
    refine lv_goto (tgt := 28) hx hb dM_sameList_24 (by decide) ?_
    exact J20 true ((decide_eq_true h4).symm)
set_option maxHeartbeats 4000000 in
set_option maxRecDepth 100000 in
theorem c_rm_difference {l : Launch} {dC : Nat → ClassId} {dI : Nat → Nat → Nat} {h : Nat} {a : Nat → Nat} {cI cL : ClassId} {cod : Int32} {cnt : Int32} {bra : Int32} {cof : Int32} {mad : Int32} {nu : Nat → Int32} {co : Nat → Int64} {se : Nat → Int32} {li : Nat → Int32} {le : Nat → Int32} {fi : Nat → Int32} {sc : Nat → Int32} {ti : Nat → Int32} {un : Nat → Int32} {ma : Nat → Int32} {dr : Nat → Int32} {fr : Nat → Int32} {to : Nat → Int32} {en : Nat → Int32} (r q : Nat) (hr6 : r < 61) (hq6 : q < 61) (X Y : rg_R) (hX : rg_MR nu co se le li r X) (hY : rg_MR nu co se le li q Y) : rg_M l yM_difference (Cond.code yM_difference prog_8_method_7_code 5 (some .int) :: rg_tbl) { frames := 1, cells := 0, slots := 0, locals := 25 } (dC, dI) rg_cl [(cI, .int), (cL, .long)] (rm_W h a cI cL cod cnt bra cof mad nu co se li le fi sc ti un ma dr fr to en) [.ref h, .int (nI r), .int (nI q)] (rg_QI (dC, dI) rg_cl [(cI, .int), (cL, .long)] (S := Unit) (fun z _ => z = rg_dif X Y) (fun _ => rm_W h a cI cL cod cnt bra cof mad nu co se li le fi sc ti un ma dr fr to en)) 0 0 := by
  refine rg_of prog_8_method_7_code 5 (some .int) (by decide) rfl (Nat.le_of_ble_eq_true rfl) ?_
  intro p e R s m args below meth c Q A H locs ls hR hQ hx hb hml hr hts hown hlk hnm hP hK hD hA hS hl
  have hl : lv_has ls 5 [(0, .ref h), (1, .int (nI r)), (2, .int (nI q))] := hl
  have hts : ∀ w ∈ rg_tbl, w.before args s = true := fun w h => hts w (List.mem_cons_of_mem _ h)
  refine lv_iconst (v := nI 0) hx hb dM_difference_0 (by decide) ?_
  refine lv_istore_n (lv' := [(3, .int (nI 0)), (0, .ref h), (1, .int (nI r)), (2, .int (nI q))]) hx hb dM_difference_1 rfl hl (by decide) rfl (fun ls hl => ?_)
  refine lv_iconst (v := nI 0) hx hb dM_difference_2 (by decide) ?_
  refine lv_istore (lv' := [(4, .int (nI 0)), (3, .int (nI 0)), (0, .ref h), (1, .int (nI r)), (2, .int (nI q))]) hx hb dM_difference_3 hl (by decide) rfl (fun ls hl => ?_)
  have lp5 : ∀ (fuel : Nat) (f : Nat) (H : Heap) (locs : List Loc) (ls : Array Slot), 2 - f < fuel → f ≤ 2 → va_P (dC, dI) rg_cl (rm_W h a cI cL cod cnt bra cof mad nu co se li le fi sc ti un ma dr fr to en) H → va_D A (rm_W h a cI cL cod cnt bra cof mad nu co se li le fi sc ti un ma dr fr to en) → va_S A s.heap H locs → lv_has ls 5 [(0, .ref h), (1, .int (nI r)), (2, .int (nI q)), (3, .int (rg_difK X Y f)), (4, .int (nI f))] → W p l e R s m args below meth c H locs 0 0 Q (F0 m 5 ls []) := by
    intro fuel
    induction fuel with
    | zero => intro f H locs ls hf; exact absurd hf (Nat.not_lt_zero _)
    | succ fuel ih5 =>
      intro f H locs ls hfu5 hf2 hP hD hS hl
      refine lv_iload hx hb dM_difference_5 (lv_at hl 4 rfl) ?_
      refine lv_iconst (v := nI 2) hx hb dM_difference_7 (by decide) ?_
      refine rg_icmp_ge (tgt := 150) hx hb dM_difference_8 (by decide) (by omega) (by omega) (fun h1 => ?_) (fun h1 => ?_)
      · refine lv_iload_n hx hb dM_difference_150 rfl (lv_at hl 3 rfl) ?_
        obtain rfl : f = 2 := by omega
        rw [hQ]
        exact rg_iret hx hb hr hlk hK hP hD hS dM_difference_151 () rfl rfl
      · obtain ⟨x1, x2, x3, x4, x5, x6⟩ := hX f (by omega)
        obtain ⟨y1, y2, y3, y4, y5, y6⟩ := hY f (by omega)
        refine lv_iload_n hx hb dM_difference_11 rfl (lv_at hl 3 rfl) ?_
        refine lv_aload_n hx hb dM_difference_12 rfl (lv_at hl 0 rfl) ?_
        refine va_get (D := (dC, dI)) (ci := 0) (C := "RevisionGroveModel") (T := TM) (N := 19) hx hb hts inM hown hK hP 0 rfl rfl 2 (by decide) (hts _ tw_603) (fun _ h9 => h9) rfl dM_difference_13 ?_
        refine lv_iconst (v := nI 2) hx hb dM_difference_16 (by decide) ?_
        refine lv_iload_n hx hb dM_difference_17 rfl (lv_at hl 1 rfl) ?_
        refine rg_imul hx hb dM_difference_18 ?_
        refine lv_iload hx hb dM_difference_19 (lv_at hl 4 rfl) ?_
        refine rg_iadd hx hb dM_difference_21 ?_
        refine rg_iald hx hb hK hP 1 0 rfl rfl (by decide) (by omega) dM_difference_22 ?_
        refine rg_top (show (.int (nu (2 * r + f)) : Value) = .int (X.1 f) by rw [x1]) ?_
        refine lv_aload_n hx hb dM_difference_23 rfl (lv_at hl 0 rfl) ?_
        refine va_get (D := (dC, dI)) (ci := 0) (C := "RevisionGroveModel") (T := TM) (N := 19) hx hb hts inM hown hK hP 0 rfl rfl 2 (by decide) (hts _ tw_603) (fun _ h9 => h9) rfl dM_difference_24 ?_
        refine lv_iconst (v := nI 2) hx hb dM_difference_27 (by decide) ?_
        refine lv_iload_n hx hb dM_difference_28 rfl (lv_at hl 2 rfl) ?_
        refine rg_imul hx hb dM_difference_29 ?_
        refine lv_iload hx hb dM_difference_30 (lv_at hl 4 rfl) ?_
        refine rg_iadd hx hb dM_difference_32 ?_
        refine rg_iald hx hb hK hP 1 0 rfl rfl (by decide) (by omega) dM_difference_33 ?_
        refine rg_top (show (.int (nu (2 * q + f)) : Value) = .int (Y.1 f) by rw [y1]) ?_
        have J34 : ∀ v9 : Int32, v9 = (bif decide (X.1 f = Y.1 f) then nI 0 else nI 1 <<< (nI f &&& 31)) → W p l e R s m args below meth c H locs 0 0 Q (F0 m 45 ls [.int v9, .int (rg_difK X Y f)]) := by
          intro v9 hv9
          subst hv9
          refine lv_ior hx hb dM_difference_45 ?_
          refine lv_istore_n (lv' := [(3, .int ((rg_difK X Y f) ||| (bif decide (X.1 f = Y.1 f) then nI 0 else nI 1 <<< (nI f &&& 31)))), (0, .ref h), (1, .int (nI r)), (2, .int (nI q)), (4, .int (nI f))]) hx hb dM_difference_46 rfl hl (by decide) rfl (fun ls hl => ?_)
          refine lv_iload_n hx hb dM_difference_47 rfl (lv_at hl 0 rfl) ?_
          refine lv_aload_n hx hb dM_difference_48 rfl (lv_at hl 1 rfl) ?_
          refine va_get (D := (dC, dI)) (ci := 0) (C := "RevisionGroveModel") (T := TM) (N := 19) hx hb hts inM hown hK hP 0 rfl rfl 3 (by decide) (hts _ tw_604) (fun _ h9 => h9) rfl dM_difference_49 ?_
          refine lv_iconst (v := nI 2) hx hb dM_difference_52 (by decide) ?_
          refine lv_iload_n hx hb dM_difference_53 rfl (lv_at hl 2 rfl) ?_
          refine rg_imul hx hb dM_difference_54 ?_
          refine lv_iload hx hb dM_difference_55 (lv_at hl 4 rfl) ?_
          refine rg_iadd hx hb dM_difference_57 ?_
          refine rg_lald hx hb hK hP 2 1 rfl rfl (by decide) (by omega) dM_difference_58 ?_
          refine rg_top (show (.long (co (2 * r + f)) : Value) = .long (X.2.1 f) by rw [x2]) ?_
          refine lv_aload_n hx hb dM_difference_59 rfl (lv_at hl 1 rfl) ?_
          refine va_get (D := (dC, dI)) (ci := 0) (C := "RevisionGroveModel") (T := TM) (N := 19) hx hb hts inM hown hK hP 0 rfl rfl 3 (by decide) (hts _ tw_604) (fun _ h9 => h9) rfl dM_difference_60 ?_
          refine lv_iconst (v := nI 2) hx hb dM_difference_63 (by decide) ?_
          refine lv_iload_n hx hb dM_difference_64 rfl (lv_at hl 3 rfl) ?_
          refine rg_imul hx hb dM_difference_65 ?_
          refine lv_iload hx hb dM_difference_66 (lv_at hl 4 rfl) ?_
          refine rg_iadd hx hb dM_difference_68 ?_
          refine rg_lald hx hb hK hP 2 1 rfl rfl (by decide) (by omega) dM_difference_69 ?_
          refine rg_top (show (.long (co (2 * q + f)) : Value) = .long (Y.2.1 f) by rw [y2]) ?_
          refine W.lcmp hx hb dM_difference_70 ?_
          have J71 : ∀ v9 : Int32, v9 = (bif decide (X.2.1 f = Y.2.1 f) then nI 0 else nI 4 <<< (nI f &&& 31)) → W p l e R s m args below meth c H locs 0 0 Q (F0 m 82 ls [.int v9, .int ((rg_difK X Y f) ||| (bif decide (X.1 f = Y.1 f) then nI 0 else nI 1 <<< (nI f &&& 31)))]) := by
            intro v9 hv9
            subst hv9
            refine lv_ior hx hb dM_difference_82 ?_
            refine lv_istore_n (lv' := [(3, .int (((rg_difK X Y f) ||| (bif decide (X.1 f = Y.1 f) then nI 0 else nI 1 <<< (nI f &&& 31))) ||| (bif decide (X.2.1 f = Y.2.1 f) then nI 0 else nI 4 <<< (nI f &&& 31)))), (0, .ref h), (1, .int (nI r)), (2, .int (nI q)), (4, .int (nI f))]) hx hb dM_difference_83 rfl hl (by decide) rfl (fun ls hl => ?_)
            refine lv_iload_n hx hb dM_difference_84 rfl (lv_at hl 0 rfl) ?_
            refine lv_aload_n hx hb dM_difference_85 rfl (lv_at hl 1 rfl) ?_
            refine va_get (D := (dC, dI)) (ci := 0) (C := "RevisionGroveModel") (T := TM) (N := 19) hx hb hts inM hown hK hP 0 rfl rfl 4 (by decide) (hts _ tw_605) (fun _ h9 => h9) rfl dM_difference_86 ?_
            refine lv_iconst (v := nI 2) hx hb dM_difference_89 (by decide) ?_
            refine lv_iload_n hx hb dM_difference_90 rfl (lv_at hl 2 rfl) ?_
            refine rg_imul hx hb dM_difference_91 ?_
            refine lv_iload hx hb dM_difference_92 (lv_at hl 4 rfl) ?_
            refine rg_iadd hx hb dM_difference_94 ?_
            refine rg_iald hx hb hK hP 3 0 rfl rfl (by decide) (by omega) dM_difference_95 ?_
            refine rg_top (show (.int (se (2 * r + f)) : Value) = .int (X.2.2.1 f) by rw [x3]) ?_
            refine lv_aload_n hx hb dM_difference_96 rfl (lv_at hl 1 rfl) ?_
            refine va_get (D := (dC, dI)) (ci := 0) (C := "RevisionGroveModel") (T := TM) (N := 19) hx hb hts inM hown hK hP 0 rfl rfl 4 (by decide) (hts _ tw_605) (fun _ h9 => h9) rfl dM_difference_97 ?_
            refine lv_iconst (v := nI 2) hx hb dM_difference_100 (by decide) ?_
            refine lv_iload_n hx hb dM_difference_101 rfl (lv_at hl 3 rfl) ?_
            refine rg_imul hx hb dM_difference_102 ?_
            refine lv_iload hx hb dM_difference_103 (lv_at hl 4 rfl) ?_
            refine rg_iadd hx hb dM_difference_105 ?_
            refine rg_iald hx hb hK hP 3 0 rfl rfl (by decide) (by omega) dM_difference_106 ?_
            refine rg_top (show (.int (se (2 * q + f)) : Value) = .int (Y.2.2.1 f) by rw [y3]) ?_
            have J107 : ∀ v9 : Int32, v9 = (bif decide (X.2.2.1 f = Y.2.2.1 f) then nI 0 else nI 16 <<< (nI f &&& 31)) → W p l e R s m args below meth c H locs 0 0 Q (F0 m 119 ls [.int v9, .int (((rg_difK X Y f) ||| (bif decide (X.1 f = Y.1 f) then nI 0 else nI 1 <<< (nI f &&& 31))) ||| (bif decide (X.2.1 f = Y.2.1 f) then nI 0 else nI 4 <<< (nI f &&& 31)))]) := by
              intro v9 hv9
              subst hv9
              refine lv_ior hx hb dM_difference_119 ?_
              refine lv_istore_n (lv' := [(3, .int ((((rg_difK X Y f) ||| (bif decide (X.1 f = Y.1 f) then nI 0 else nI 1 <<< (nI f &&& 31))) ||| (bif decide (X.2.1 f = Y.2.1 f) then nI 0 else nI 4 <<< (nI f &&& 31))) ||| (bif decide (X.2.2.1 f = Y.2.2.1 f) then nI 0 else nI 16 <<< (nI f &&& 31)))), (0, .ref h), (1, .int (nI r)), (2, .int (nI q)), (4, .int (nI f))]) hx hb dM_difference_120 rfl hl (by decide) rfl (fun ls hl => ?_)
              refine lv_iload_n hx hb dM_difference_121 rfl (lv_at hl 0 rfl) ?_
              refine lv_aload_n hx hb dM_difference_122 rfl (lv_at hl 1 rfl) ?_
              refine lv_iload_n hx hb dM_difference_123 rfl (lv_at hl 2 rfl) ?_
              refine lv_iload_n hx hb dM_difference_124 rfl (lv_at hl 3 rfl) ?_
              refine lv_iload hx hb dM_difference_125 (lv_at hl 4 rfl) ?_
              refine rg_calli hD hS hA (va_runV (As := [.int (nI r), .int (nI q), .int (nI f)]) (rest := [.int ((((rg_difK X Y f) ||| (bif decide (X.1 f = Y.1 f) then nI 0 else nI 1 <<< (nI f &&& 31))) ||| (bif decide (X.2.1 f = Y.2.1 f) then nI 0 else nI 4 <<< (nI f &&& 31))) ||| (bif decide (X.2.2.1 f = Y.2.2.1 f) then nI 0 else nI 16 <<< (nI f &&& 31)))]) ⟨hx, hb, hml, hown, hts⟩ (c_rm_sameList r q f (by omega) (by omega) (by omega) (X.2.2.2 f) (Y.2.2.2 f) x4 x5 x6 y4 y5 y6 _) (cwV 3 hts (rg_gV tw_683 tw_685 ts_M_sameList tw_5 tw_686) rfl rfl rfl (by decide +kernel) ⟨by rw [hR]; exact Nat.le_of_ble_eq_true rfl, by rw [hR]; exact Nat.le_of_ble_eq_true rfl⟩) (rg_preV rfl hK hP hD (ci := 0) (q0 := 0) rfl rfl) rfl rfl hl.1 rfl (lv_room (Nat.le_of_ble_eq_true rfl)) dM_difference_127 ⟨Nat.zero_le _, Nat.zero_le _⟩) (fun r2 u3 H locs hw4 hP hD hS => ?_)
              subst hw4
              have hP : va_P (dC, dI) rg_cl (rm_W h a cI cL cod cnt bra cof mad nu co se li le fi sc ti un ma dr fr to en) H := hP
              have hD : va_D A (rm_W h a cI cL cod cnt bra cof mad nu co se li le fi sc ti un ma dr fr to en) := hD
              have J130 : ∀ v9 : Int32, v9 = (bif decide (X.2.2.2 f = Y.2.2.2 f) then nI 0 else nI 64 <<< (nI f &&& 31)) → W p l e R s m args below meth c H locs 0 0 Q (F0 m 142 ls [.int v9, .int ((((rg_difK X Y f) ||| (bif decide (X.1 f = Y.1 f) then nI 0 else nI 1 <<< (nI f &&& 31))) ||| (bif decide (X.2.1 f = Y.2.1 f) then nI 0 else nI 4 <<< (nI f &&& 31))) ||| (bif decide (X.2.2.1 f = Y.2.2.1 f) then nI 0 else nI 16 <<< (nI f &&& 31)))]) := by
                intro v9 hv9
                subst hv9
                refine lv_ior hx hb dM_difference_142 ?_
                refine lv_istore_n (lv' := [(3, .int (((((rg_difK X Y f) ||| (bif decide (X.1 f = Y.1 f) then nI 0 else nI 1 <<< (nI f &&& 31))) ||| (bif decide (X.2.1 f = Y.2.1 f) then nI 0 else nI 4 <<< (nI f &&& 31))) ||| (bif decide (X.2.2.1 f = Y.2.2.1 f) then nI 0 else nI 16 <<< (nI f &&& 31))) ||| (bif decide (X.2.2.2 f = Y.2.2.2 f) then nI 0 else nI 64 <<< (nI f &&& 31)))), (0, .ref h), (1, .int (nI r)), (2, .int (nI q)), (4, .int (nI f))]) hx hb dM_difference_143 rfl hl (by decide) rfl (fun ls hl => ?_)
                refine lv_iinc (k := 4) (v := nI (f + 1)) (lv' := [(4, .int (nI (f + 1))), (3, .int (((((rg_difK X Y f) ||| (bif decide (X.1 f = Y.1 f) then nI 0 else nI 1 <<< (nI f &&& 31))) ||| (bif decide (X.2.1 f = Y.2.1 f) then nI 0 else nI 4 <<< (nI f &&& 31))) ||| (bif decide (X.2.2.1 f = Y.2.2.1 f) then nI 0 else nI 16 <<< (nI f &&& 31))) ||| (bif decide (X.2.2.2 f = Y.2.2.2 f) then nI 0 else nI 64 <<< (nI f &&& 31)))), (0, .ref h), (1, .int (nI r)), (2, .int (nI q))]) hx hb dM_difference_144 hl rfl (nI_1 _) (by decide) rfl (fun ls hl => ?_)
                refine lv_goto (tgt := 5) hx hb dM_difference_147 (by decide) ?_
                exact ih5 (f + 1) _ _ _ (by omega) (by omega) hP hD hS (lv_sub hl [2, 3, 4, 1, 0] rfl)
              refine rg_ifz_eq (tgt := 137) hx hb dM_difference_130 (by decide) (fun h5 => ?_) (fun h5 => ?_)
              · refine lv_bipush (v := nI 64) hx hb dM_difference_137 (by decide) ?_
                refine lv_iload hx hb dM_difference_139 (lv_at hl 4 rfl) ?_
                refine lv_ishl hx hb dM_difference_141 ?_
                exact J130 _ (by rw [h5]; rfl)
              · refine lv_iconst (v := nI 0) hx hb dM_difference_133 (by decide) ?_
                refine lv_goto (tgt := 142) hx hb dM_difference_134 (by decide) ?_
                exact J130 _ (by rw [h5]; rfl)
            refine lv_icmp_eq (tgt := 118) hx hb dM_difference_107 (by decide) (fun h6 => ?_) (fun h6 => ?_)
            · refine lv_iconst (v := nI 0) hx hb dM_difference_118 (by decide) ?_
              exact J107 _ (by rw [decide_eq_true h6]; rfl)
            · refine lv_bipush (v := nI 16) hx hb dM_difference_110 (by decide) ?_
              refine lv_iload hx hb dM_difference_112 (lv_at hl 4 rfl) ?_
              refine lv_ishl hx hb dM_difference_114 ?_
              refine lv_goto (tgt := 119) hx hb dM_difference_115 (by decide) ?_
              exact J107 _ (by rw [decide_eq_false h6]; rfl)
          refine lv_if_eq (tgt := 81) hx hb dM_difference_71 (by decide) (fun h7 => ?_) (fun h7 => ?_)
          · refine lv_iconst (v := nI 0) hx hb dM_difference_81 (by decide) ?_
            exact J71 _ (by rw [decide_eq_true ((rg_cmp0 _ _).mp h7)]; rfl)
          · refine lv_iconst (v := nI 4) hx hb dM_difference_74 (by decide) ?_
            refine lv_iload hx hb dM_difference_75 (lv_at hl 4 rfl) ?_
            refine lv_ishl hx hb dM_difference_77 ?_
            refine lv_goto (tgt := 82) hx hb dM_difference_78 (by decide) ?_
            exact J71 _ (by rw [decide_eq_false (fun q9 => h7 ((rg_cmp0 _ _).mpr q9))]; rfl)
        refine lv_icmp_eq (tgt := 44) hx hb dM_difference_34 (by decide) (fun h8 => ?_) (fun h8 => ?_)
        · refine lv_iconst (v := nI 0) hx hb dM_difference_44 (by decide) ?_
          exact J34 _ (by rw [decide_eq_true h8]; rfl)
        · refine lv_iconst (v := nI 1) hx hb dM_difference_37 (by decide) ?_
          refine lv_iload hx hb dM_difference_38 (lv_at hl 4 rfl) ?_
          refine lv_ishl hx hb dM_difference_40 ?_
          refine lv_goto (tgt := 45) hx hb dM_difference_41 (by decide) ?_
          exact J34 _ (by rw [decide_eq_false h8]; rfl)
  exact lp5 _ 0 _ _ _ (Nat.lt_succ_self _) (by omega) hP hD hS (lv_sub hl [2, 3, 4, 1, 0] rfl)
end
section
set_option maxHeartbeats 4000000 in
set_option maxRecDepth 100000 in
theorem c_rm_change {l : Launch} {dC : Nat → ClassId} {dI : Nat → Nat → Nat} {h : Nat} {a : Nat → Nat} {cI cL : ClassId} {cof : Int32} {mad : Int32} {nu : Nat → Int32} {co : Nat → Int64} {se : Nat → Int32} {li : Nat → Int32} {le : Nat → Int32} {fi : Nat → Int32} {sc : Nat → Int32} {ti : Nat → Int32} {un : Nat → Int32} {ma : Nat → Int32} {dr : Nat → Int32} {fr : Nat → Int32} {to : Nat → Int32} {en : Nat → Int32} (n b : Nat) (Rr : Nat → rg_R) (P1 P2 : Nat → Int32) (T : Nat → Nat) (U : Nat → List Nat) (X : rg_R) (hrep : rm_Rep (nI n) (nI b) cof nu co se li le fi sc ti un ma (n, Rr, P1, P2, T, U, b, cof)) (hX : rg_MR nu co se le li n X) : rg_M l yM_change (Cond.code yM_change prog_8_method_9_code 1 (some .int) :: rg_tbl) { frames := 2, cells := 0, slots := 0, locals := 49 } (dC, dI) rg_cl [(cI, .int), (cL, .long)] (rm_W h a cI cL (nI 0) (nI n) (nI b) cof mad nu co se li le fi sc ti un ma dr fr to en) [.ref h] (rg_QI (dC, dI) rg_cl [(cI, .int), (cL, .long)] (S := rm_S) (rm_Po (rg_chg 2 (n, Rr, P1, P2, T, U, b, cof) X)) (fun u => rm_Wu h a cI cL u)) 0 0 := by
  refine rg_of prog_8_method_9_code 1 (some .int) (by decide) rfl (Nat.le_of_ble_eq_true rfl) ?_
  intro p e R s m args below meth c Q A H locs ls hR hQ hx hb hml hr hts hown hlk hnm hP hK hD hA hS hl
  have hl : lv_has ls 1 [(0, .ref h)] := hl
  have hts : ∀ w ∈ rg_tbl, w.before args s = true := fun w h => hts w (List.mem_cons_of_mem _ h)
  have hok := hrep.1
  have hn1 : 1 ≤ n := hok.1
  have hn60 : n ≤ 60 := hok.2.1
  have hb4 : b < 4 := hok.2.2.2.2.2.2.2.1
  have hTb : T b < n := (hok.2.2.2.2.2.2.1 b hb4).1
  have hti : ti b = nI (T b) := (hrep.2.2.2.2.2.2 b hb4).1
  have hma : ma b = nI (U b).length := (hrep.2.2.2.2.2.2 b hb4).2.1
  refine lv_aload_n hx hb dM_change_0 rfl (lv_at hl 0 rfl) ?_
  refine lv_aload_n hx hb dM_change_1 rfl (lv_at hl 0 rfl) ?_
  refine va_get (D := (dC, dI)) (ci := 0) (C := "RevisionGroveModel") (T := TM) (N := 19) hx hb hts inM hown hK hP 0 rfl rfl 1 (by decide) (hts _ tw_602) (fun _ h9 => h9) rfl dM_change_2 ?_
  refine lv_aload_n hx hb dM_change_5 rfl (lv_at hl 0 rfl) ?_
  refine rg_calli hD hS hA (va_runV (As := []) (rest := [.int (nI n), .ref h]) ⟨hx, hb, hml, hown, hts⟩ (c_rm_here b (by omega) _) (cwV 0 hts (rg_gV tw_667 tw_669 ts_M_here tw_5 tw_670) rfl rfl rfl (by decide +kernel) ⟨by rw [hR]; exact Nat.le_of_ble_eq_true rfl, by rw [hR]; exact Nat.le_of_ble_eq_true rfl⟩) (rg_preV rfl hK hP hD (ci := 0) (q0 := 0) rfl rfl) rfl rfl hl.1 rfl (lv_room (Nat.le_of_ble_eq_true rfl)) dM_change_6 ⟨Nat.zero_le _, Nat.zero_le _⟩) (fun r1 u2 H locs hw3 hP hD hS => ?_)
  subst hw3
  have hP : va_P (dC, dI) rg_cl (rm_W h a cI cL (nI 0) (nI n) (nI b) cof mad nu co se li le fi sc ti un ma dr fr to en) H := hP
  have hD : va_D A (rm_W h a cI cL (nI 0) (nI n) (nI b) cof mad nu co se li le fi sc ti un ma dr fr to en) := hD
  refine rg_top (show (.int (ti b) : Value) = .int (nI (T b)) by rw [hti]) ?_
  refine rg_calli hD hS hA (va_runV (As := [.int (nI n), .int (nI (T b))]) (rest := []) ⟨hx, hb, hml, hown, hts⟩ (c_rm_difference n (T b) (by omega) (by omega) X (Rr (T b)) hX (hrep.2.2.2.2.1 (T b) hTb) _) (cwV 2 hts (rg_gV tw_679 tw_681 ts_M_difference tw_5 tw_682) rfl rfl rfl (by decide +kernel) ⟨by rw [hR]; exact Nat.le_of_ble_eq_true rfl, by rw [hR]; exact Nat.le_of_ble_eq_true rfl⟩) (rg_preV rfl hK hP hD (ci := 0) (q0 := 0) rfl rfl) rfl rfl hl.1 rfl (lv_room (Nat.le_of_ble_eq_true rfl)) dM_change_9 ⟨Nat.zero_le _, Nat.zero_le _⟩) (fun r4 u5 H locs hw6 hP hD hS => ?_)
  subst hw6
  have hP : va_P (dC, dI) rg_cl (rm_W h a cI cL (nI 0) (nI n) (nI b) cof mad nu co se li le fi sc ti un ma dr fr to en) H := hP
  have hD : va_D A (rm_W h a cI cL (nI 0) (nI n) (nI b) cof mad nu co se li le fi sc ti un ma dr fr to en) := hD
  refine lv_if_ne (tgt := 20) hx hb dM_change_12 (by decide) (fun h7 => ?_) (fun h7 => ?_)
  · have hd9 := h7
    refine lv_aload_n hx hb dM_change_20 rfl (lv_at hl 0 rfl) ?_
    refine lv_aload_n hx hb dM_change_21 rfl (lv_at hl 0 rfl) ?_
    refine va_get (D := (dC, dI)) (ci := 0) (C := "RevisionGroveModel") (T := TM) (N := 19) hx hb hts inM hown hK hP 0 rfl rfl 1 (by decide) (hts _ tw_602) (fun _ h9 => h9) rfl dM_change_22 ?_
    refine lv_bipush (v := nI 60) hx hb dM_change_25 (by decide) ?_
    refine rg_icmp_ne (tgt := 34) hx hb dM_change_27 (by decide) (by omega) (by omega) (fun h8 => ?_) (fun h8 => ?_)
    · refine lv_iconst (v := nI 0) hx hb dM_change_34 (by decide) ?_
      refine va_put (D := (dC, dI)) (ci := 0) (v := .int (nI 0)) (ty := .int) (C := "RevisionGroveModel") (T := TM) (N := 19) hx hb hts inM tyM tyM_ok nmM hown hK hP hD hS 0 rfl rfl 0 (by decide) (hts _ tw_601) (fun _ h9 => h9) rfl (by decide +kernel) rfl rfl (Nat.le_of_ble_eq_true rfl) dM_change_35 (fun H locs hP hD hS => ?_)
      have hP : va_P (dC, dI) rg_cl (rm_W h a cI cL (nI 0) (nI n) (nI b) cof mad nu co se li le fi sc ti un ma dr fr to en) H := hP
      have hD : va_D A (rm_W h a cI cL (nI 0) (nI n) (nI b) cof mad nu co se li le fi sc ti un ma dr fr to en) := hD
      refine lv_aload_n hx hb dM_change_38 rfl (lv_at hl 0 rfl) ?_
      refine va_get (D := (dC, dI)) (ci := 0) (C := "RevisionGroveModel") (T := TM) (N := 19) hx hb hts inM hown hK hP 0 rfl rfl 0 (by decide) (hts _ tw_601) (fun _ h9 => h9) rfl dM_change_39 ?_
      refine rg_ifN_le (tgt := 49) hx hb dM_change_42 (by decide) (by decide) (fun h9 => ?_) (fun h9 => by exfalso; omega)
      refine lv_aload_n hx hb dM_change_49 rfl (lv_at hl 0 rfl) ?_
      refine lv_aload_n hx hb dM_change_50 rfl (lv_at hl 0 rfl) ?_
      refine rg_calli hD hS hA (va_runV (As := []) (rest := [.ref h]) ⟨hx, hb, hml, hown, hts⟩ (c_rm_here b (by omega) _) (cwV 0 hts (rg_gV tw_667 tw_669 ts_M_here tw_5 tw_670) rfl rfl rfl (by decide +kernel) ⟨by rw [hR]; exact Nat.le_of_ble_eq_true rfl, by rw [hR]; exact Nat.le_of_ble_eq_true rfl⟩) (rg_preV rfl hK hP hD (ci := 0) (q0 := 0) rfl rfl) rfl rfl hl.1 rfl (lv_room (Nat.le_of_ble_eq_true rfl)) dM_change_51 ⟨Nat.zero_le _, Nat.zero_le _⟩) (fun r10 u11 H locs hw12 hP hD hS => ?_)
      subst hw12
      have hP : va_P (dC, dI) rg_cl (rm_W h a cI cL (nI 0) (nI n) (nI b) cof mad nu co se li le fi sc ti un ma dr fr to en) H := hP
      have hD : va_D A (rm_W h a cI cL (nI 0) (nI n) (nI b) cof mad nu co se li le fi sc ti un ma dr fr to en) := hD
      refine rg_top (show (.int (ti b) : Value) = .int (nI (T b)) by rw [hti]) ?_
      refine lv_iconst (v := -1) hx hb dM_change_54 (by decide) ?_
      refine rg_calli hD hS hA (va_runV (As := [.int (nI (T b)), .int ((-1))]) (rest := []) ⟨hx, hb, hml, hown, hts⟩ (c_rm_finish b n (by omega) (by omega) (nI (T b)) ((-1)) _) (cwV 2 hts (rg_gV tw_687 tw_689 ts_M_finish tw_5 tw_690) rfl rfl rfl (by decide +kernel) ⟨by rw [hR]; exact Nat.le_of_ble_eq_true rfl, by rw [hR]; exact Nat.le_of_ble_eq_true rfl⟩) (rg_preV rfl hK hP hD (ci := 0) (q0 := 0) rfl rfl) rfl rfl hl.1 rfl (lv_room (Nat.le_of_ble_eq_true rfl)) dM_change_55 ⟨Nat.zero_le _, Nat.zero_le _⟩) (fun r13 u14 H locs hw15 hP hD hS => ?_)
      subst hw15
      have hP : va_P (dC, dI) rg_cl (rm_W h a cI cL (nI 0) (nI (n + 1)) (nI b) cof mad nu co se li le (upd fi n (nI (T b))) (upd sc n ((-1))) (upd ti b (nI n)) un (upd ma b (nI 0)) dr fr to en) H := hP
      have hD : va_D A (rm_W h a cI cL (nI 0) (nI (n + 1)) (nI b) cof mad nu co se li le (upd fi n (nI (T b))) (upd sc n ((-1))) (upd ti b (nI n)) un (upd ma b (nI 0)) dr fr to en) := hD
      rw [hQ]
      exact rg_iret hx hb hr hlk hK hP hD hS dM_change_58 (nI 0, nI (n + 1), nI b, cof, mad, nu, co, se, li, le, upd fi n (nI (T b)), upd sc n ((-1)), upd ti b (nI n), un, upd ma b (nI 0), dr, fr, to, en) rfl (by rw [rg_chg_new (g := (n, Rr, P1, P2, T, U, b, cof)) hd9 h8]; exact ⟨rm_Rep_new (g := (n, Rr, P1, P2, T, U, b, cof)) hrep hX (by show n < 60; omega) (Or.inl rfl), rfl, rfl⟩)
    · refine lv_iconst (v := nI 2) hx hb dM_change_30 (by decide) ?_
      refine lv_goto (tgt := 35) hx hb dM_change_31 (by decide) ?_
      refine va_put (D := (dC, dI)) (ci := 0) (v := .int (nI 2)) (ty := .int) (C := "RevisionGroveModel") (T := TM) (N := 19) hx hb hts inM tyM tyM_ok nmM hown hK hP hD hS 0 rfl rfl 0 (by decide) (hts _ tw_601) (fun _ h9 => h9) rfl (by decide +kernel) rfl rfl (Nat.le_of_ble_eq_true rfl) dM_change_35 (fun H locs hP hD hS => ?_)
      have hP : va_P (dC, dI) rg_cl (rm_W h a cI cL (nI 2) (nI n) (nI b) cof mad nu co se li le fi sc ti un ma dr fr to en) H := hP
      have hD : va_D A (rm_W h a cI cL (nI 2) (nI n) (nI b) cof mad nu co se li le fi sc ti un ma dr fr to en) := hD
      refine lv_aload_n hx hb dM_change_38 rfl (lv_at hl 0 rfl) ?_
      refine va_get (D := (dC, dI)) (ci := 0) (C := "RevisionGroveModel") (T := TM) (N := 19) hx hb hts inM hown hK hP 0 rfl rfl 0 (by decide) (hts _ tw_601) (fun _ h9 => h9) rfl dM_change_39 ?_
      refine rg_ifN_le (tgt := 49) hx hb dM_change_42 (by decide) (by decide) (fun h16 => by exfalso; omega) (fun h16 => ?_)
      refine lv_iconst (v := nI 0) hx hb dM_change_45 (by decide) ?_
      refine lv_goto (tgt := 58) hx hb dM_change_46 (by decide) ?_
      rw [hQ]
      exact rg_iret hx hb hr hlk hK hP hD hS dM_change_58 (nI 2, nI n, nI b, cof, mad, nu, co, se, li, le, fi, sc, ti, un, ma, dr, fr, to, en) rfl (by rw [rg_chg_full (g := (n, Rr, P1, P2, T, U, b, cof)) hd9 h8]; exact ⟨hrep, rfl, rfl⟩)
  · have hd9 := h7
    refine lv_aload_n hx hb dM_change_15 rfl (lv_at hl 0 rfl) ?_
    refine rg_calli hD hS hA (va_runV (As := []) (rest := []) ⟨hx, hb, hml, hown, hts⟩ (c_rm_here b (by omega) _) (cwV 0 hts (rg_gV tw_667 tw_669 ts_M_here tw_5 tw_670) rfl rfl rfl (by decide +kernel) ⟨by rw [hR]; exact Nat.le_of_ble_eq_true rfl, by rw [hR]; exact Nat.le_of_ble_eq_true rfl⟩) (rg_preV rfl hK hP hD (ci := 0) (q0 := 0) rfl rfl) rfl rfl hl.1 rfl (lv_room (Nat.le_of_ble_eq_true rfl)) dM_change_16 ⟨Nat.zero_le _, Nat.zero_le _⟩) (fun r17 u18 H locs hw19 hP hD hS => ?_)
    subst hw19
    have hP : va_P (dC, dI) rg_cl (rm_W h a cI cL (nI 0) (nI n) (nI b) cof mad nu co se li le fi sc ti un ma dr fr to en) H := hP
    have hD : va_D A (rm_W h a cI cL (nI 0) (nI n) (nI b) cof mad nu co se li le fi sc ti un ma dr fr to en) := hD
    refine rg_top (show (.int (ti b) : Value) = .int (nI (T b)) by rw [hti]) ?_
    rw [hQ]
    exact rg_iret hx hb hr hlk hK hP hD hS dM_change_19 (nI 0, nI n, nI b, cof, mad, nu, co, se, li, le, fi, sc, ti, un, ma, dr, fr, to, en) rfl (by rw [rg_chg_same (g := (n, Rr, P1, P2, T, U, b, cof)) (hd9.trans rfl)]; exact ⟨hrep, rfl, rfl⟩)
end
section
/-! Lists shifted in an array; the calls' spec, put to remove. -/
theorem rg_dec {k : Nat} (h : 0 < k) : nI k + Int32.ofInt (-1) = nI (k - 1) := by
  obtain ⟨j, rfl⟩ : ∃ j, k = j + 1 := ⟨k - 1, by omega⟩
  exact pk_m1 j
theorem rg_cpyD (g : Nat → Int32) (s m : Nat) : upd (va_cpy g g (s + 1) (s + 2) m) (s + 1) (va_cpy g g (s + 1) (s + 2) m s) = va_cpy g g s (s + 1) (m + 1) := by
  funext j
  rw [pk_cpy_out (show s < s + 2 ∨ _ by omega)]
  by_cases hj : j = s + 1
  · subst hj
    rw [pk_us, pk_cpy_in (Nat.le_refl _) (by omega)]
    congr 1
    omega
  · rw [pk_un hj]
    by_cases h2 : s + 2 ≤ j ∧ j < s + 2 + m
    · rw [pk_cpy_in h2.1 h2.2, pk_cpy_in (by omega) (by omega)]
      congr 1
      omega
    · rw [pk_cpy_out (by omega), pk_cpy_out (by omega)]
def rg_insL (l : List Int32) (k : Nat) (v : Int32) : List Int32 := l.take k ++ v :: l.drop k
theorem rg_insL_len {l : List Int32} {k : Nat} {v : Int32} (h : k ≤ l.length) : (rg_insL l k v).length = l.length + 1 := by
  unfold rg_insL
  simp
  omega
theorem rg_insL_get {l : List Int32} {k i : Nat} {v : Int32} (h : k ≤ l.length) : (rg_insL l k v).getD i 0 = if i < k then l.getD i 0 else if i = k then v else l.getD (i - 1) 0 := by
  unfold rg_insL
  simp only [List.getD_eq_getElem?_getD]
  rw [List.getElem?_append]
  have hl : (l.take k).length = k := by simp; omega
  rw [hl]
  by_cases h1 : i < k
  · rw [if_pos h1, if_pos h1, List.getElem?_take_of_lt h1]
  · rw [if_neg h1, if_neg h1]
    by_cases h2 : i = k
    · subst h2; simp
    · rw [if_neg h2]
      obtain ⟨j, rfl⟩ : ∃ j, i = k + (j + 1) := ⟨i - k - 1, by omega⟩
      rw [show k + (j + 1) - k = j + 1 by omega, List.getElem?_cons_succ, List.getElem?_drop, show k + (j + 1) - 1 = k + j by omega]
def rg_remL (l : List Int32) (k : Nat) : List Int32 := l.eraseIdx k
theorem rg_remL_len {l : List Int32} {k : Nat} (h : k < l.length) : (rg_remL l k).length = l.length - 1 := by
  unfold rg_remL
  rw [List.length_eraseIdx_of_lt h]
theorem rg_remL_get {l : List Int32} {k i : Nat} : (rg_remL l k).getD i 0 = if i < k then l.getD i 0 else l.getD (i + 1) 0 := by
  unfold rg_remL
  simp only [List.getD_eq_getElem?_getD]
  rw [List.getElem?_eraseIdx]
  by_cases h1 : i < k
  · rw [if_pos h1, if_pos h1]
  · rw [if_neg h1, if_neg h1]
def rg_mk (x : Int32) (k : Nat) (w : Bool) : Int32 := bif w then x ||| (nI 1 <<< (nI k &&& 31)) else x &&& ((nI 1 <<< (nI k &&& 31)) ^^^ (-1))
abbrev ra_X (g : rg_A) : rg_R := ra_R g (ra_t g)
def rg_oPut (g : rg_A) (f v : Int32) : Int32 × Int32 × rg_A :=
  if f = 0 then rg_chg 2 g (rg_setN (ra_X g) 0 v) else if f = 1 then rg_chg 2 g (rg_setN (ra_X g) 1 v) else (1, 0, g)
def rg_oAdd (g : rg_A) (f v : Int32) : Int32 × Int32 × rg_A :=
  if f = 2 then rg_chg 2 g (rg_setK (ra_X g) 0 ((ra_X g).2.1 0 + v.toInt64)) else if f = 3 then rg_chg 2 g (rg_setK (ra_X g) 1 ((ra_X g).2.1 1 + v.toInt64)) else (1, 0, g)
def rg_oMark (g : rg_A) (f x : Int32) (w : Bool) : Int32 × Int32 × rg_A :=
  if x < 0 ∨ 31 < x then (1, 0, g) else if f = 4 then rg_chg 2 g (rg_setE (ra_X g) 0 (rg_mk ((ra_X g).2.2.1 0) x.toNatClampNeg w)) else if f = 5 then rg_chg 2 g (rg_setE (ra_X g) 1 (rg_mk ((ra_X g).2.2.1 1) x.toNatClampNeg w)) else (1, 0, g)
def rg_insK (g : rg_A) (k : Nat) (x v : Int32) : Int32 × Int32 × rg_A :=
  if x < 0 ∨ nI ((ra_X g).2.2.2 k).length < x then (2, 0, g) else if ((ra_X g).2.2.2 k).length = 8 ∨ ra_n g = 60 then (3, 0, g) else rg_chg 2 g (rg_setL (ra_X g) k (rg_insL ((ra_X g).2.2.2 k) x.toNatClampNeg v))
def rg_oIns (g : rg_A) (f x v : Int32) : Int32 × Int32 × rg_A := if f = 6 then rg_insK g 0 x v else if f = 7 then rg_insK g 1 x v else (1, 0, g)
def rg_remK (g : rg_A) (k : Nat) (x : Int32) : Int32 × Int32 × rg_A :=
  if x < 0 ∨ nI ((ra_X g).2.2.2 k).length ≤ x then (2, 0, g) else if ra_n g = 60 then (3, 0, g) else rg_chg 2 g (rg_setL (ra_X g) k (rg_remL ((ra_X g).2.2.2 k) x.toNatClampNeg))
def rg_oRem (g : rg_A) (f x : Int32) : Int32 × Int32 × rg_A := if f = 6 then rg_remK g 0 x else if f = 7 then rg_remK g 1 x else (1, 0, g)
end
section
set_option maxHeartbeats 4000000 in
set_option maxRecDepth 100000 in
theorem c_rm_put_ok {l : Launch} {dC : Nat → ClassId} {dI : Nat → Nat → Nat} {h : Nat} {a : Nat → Nat} {cI cL : ClassId} {cod : Int32} {cof : Int32} {mad : Int32} {nu : Nat → Int32} {co : Nat → Int64} {se : Nat → Int32} {li : Nat → Int32} {le : Nat → Int32} {fi : Nat → Int32} {sc : Nat → Int32} {ti : Nat → Int32} {un : Nat → Int32} {ma : Nat → Int32} {dr : Nat → Int32} {fr : Nat → Int32} {to : Nat → Int32} {en : Nat → Int32} (n b : Nat) (Rr : Nat → rg_R) (P1 P2 : Nat → Int32) (T : Nat → Nat) (U : Nat → List Nat) (k : Nat) (hk2 : k < 2) (v : Int32) (hrep : rm_Rep (nI n) (nI b) cof nu co se li le fi sc ti un ma (n, Rr, P1, P2, T, U, b, cof)) : rg_M l yM_put (Cond.code yM_put prog_8_method_10_code 3 (some .int) :: rg_tbl) { frames := 3, cells := 0, slots := 0, locals := 69 } (dC, dI) rg_cl [(cI, .int), (cL, .long)] (rm_W h a cI cL cod (nI n) (nI b) cof mad nu co se li le fi sc ti un ma dr fr to en) [.ref h, .int (nI k), .int v] (rg_QI (dC, dI) rg_cl [(cI, .int), (cL, .long)] (S := rm_S) (rm_Po (rg_chg 2 (n, Rr, P1, P2, T, U, b, cof) (rg_setN (Rr (T b)) k v))) (fun u => rm_Wu h a cI cL u)) 0 0 := by
  refine rg_of prog_8_method_10_code 3 (some .int) (by decide) rfl (Nat.le_of_ble_eq_true rfl) ?_
  intro p e R s m args below meth c Q A H locs ls hR hQ hx hb hml hr hts hown hlk hnm hP hK hD hA hS hl
  have hl : lv_has ls 3 [(0, .ref h), (1, .int (nI k)), (2, .int v)] := hl
  have hts : ∀ w ∈ rg_tbl, w.before args s = true := fun w h => hts w (List.mem_cons_of_mem _ h)
  have hok := hrep.1
  have hn1 : 1 ≤ n := hok.1
  have hn60 : n ≤ 60 := hok.2.1
  have hb4 : b < 4 := hok.2.2.2.2.2.2.2.1
  have hTb : T b < n := (hok.2.2.2.2.2.2.1 b hb4).1
  have hti : ti b = nI (T b) := (hrep.2.2.2.2.2.2 b hb4).1
  have hma : ma b = nI (U b).length := (hrep.2.2.2.2.2.2 b hb4).2.1
  refine lv_aload_n hx hb dM_put_0 rfl (lv_at hl 0 rfl) ?_
  refine lv_iload_n hx hb dM_put_1 rfl (lv_at hl 1 rfl) ?_
  have J2 : ∀ v9 : Nat, v9 = 0 → W p l e R s m args below meth c H locs 0 0 Q (F0 m 15 ls [.int (nI v9), .ref h]) := by
    intro v9 hv9
    subst hv9
    refine va_put (D := (dC, dI)) (ci := 0) (v := .int (nI 0)) (ty := .int) (C := "RevisionGroveModel") (T := TM) (N := 19) hx hb hts inM tyM tyM_ok nmM hown hK hP hD hS 0 rfl rfl 0 (by decide) (hts _ tw_601) (fun _ h9 => h9) rfl (by decide +kernel) rfl rfl (Nat.le_of_ble_eq_true rfl) dM_put_15 (fun H locs hP hD hS => ?_)
    have hP : va_P (dC, dI) rg_cl (rm_W h a cI cL (nI 0) (nI n) (nI b) cof mad nu co se li le fi sc ti un ma dr fr to en) H := hP
    have hD : va_D A (rm_W h a cI cL (nI 0) (nI n) (nI b) cof mad nu co se li le fi sc ti un ma dr fr to en) := hD
    refine lv_aload_n hx hb dM_put_18 rfl (lv_at hl 0 rfl) ?_
    refine va_get (D := (dC, dI)) (ci := 0) (C := "RevisionGroveModel") (T := TM) (N := 19) hx hb hts inM hown hK hP 0 rfl rfl 0 (by decide) (hts _ tw_601) (fun _ h9 => h9) rfl dM_put_19 ?_
    refine rg_ifN_le (tgt := 27) hx hb dM_put_22 (by decide) (by decide) (fun h1 => ?_) (fun h1 => by exfalso; omega)
    refine lv_aload_n hx hb dM_put_27 rfl (lv_at hl 0 rfl) ?_
    refine lv_aload_n hx hb dM_put_28 rfl (lv_at hl 0 rfl) ?_
    refine rg_calli hD hS hA (va_runV (As := []) (rest := [.ref h]) ⟨hx, hb, hml, hown, hts⟩ (c_rm_here b (by omega) _) (cwV 0 hts (rg_gV tw_667 tw_669 ts_M_here tw_5 tw_670) rfl rfl rfl (by decide +kernel) ⟨by rw [hR]; exact Nat.le_of_ble_eq_true rfl, by rw [hR]; exact Nat.le_of_ble_eq_true rfl⟩) (rg_preV rfl hK hP hD (ci := 0) (q0 := 0) rfl rfl) rfl rfl hl.1 rfl (lv_room (Nat.le_of_ble_eq_true rfl)) dM_put_29 ⟨Nat.zero_le _, Nat.zero_le _⟩) (fun r2 u3 H locs hw4 hP hD hS => ?_)
    subst hw4
    have hP : va_P (dC, dI) rg_cl (rm_W h a cI cL (nI 0) (nI n) (nI b) cof mad nu co se li le fi sc ti un ma dr fr to en) H := hP
    have hD : va_D A (rm_W h a cI cL (nI 0) (nI n) (nI b) cof mad nu co se li le fi sc ti un ma dr fr to en) := hD
    refine rg_top (show (.int (ti b) : Value) = .int (nI (T b)) by rw [hti]) ?_
    refine lv_aload_n hx hb dM_put_32 rfl (lv_at hl 0 rfl) ?_
    refine va_get (D := (dC, dI)) (ci := 0) (C := "RevisionGroveModel") (T := TM) (N := 19) hx hb hts inM hown hK hP 0 rfl rfl 1 (by decide) (hts _ tw_602) (fun _ h9 => h9) rfl dM_put_33 ?_
    refine rg_callv hD hS hA (va_runV (As := [.int (nI (T b)), .int (nI n)]) (rest := []) ⟨hx, hb, hml, hown, hts⟩ (c_rm_copy (T b) n (by omega) (by omega) _) (cwV 2 hts (rg_gV tw_671 tw_673 ts_M_copy tw_5 tw_674) rfl rfl rfl (by decide +kernel) ⟨by rw [hR]; exact Nat.le_of_ble_eq_true rfl, by rw [hR]; exact Nat.le_of_ble_eq_true rfl⟩) (rg_preV rfl hK hP hD (ci := 0) (q0 := 0) rfl rfl) rfl rfl hl.1 rfl (lv_room (Nat.le_of_ble_eq_true rfl)) dM_put_36 ⟨Nat.zero_le _, Nat.zero_le _⟩) (fun u6 H locs hw7 hP hD hS => ?_)
    have hP : va_P (dC, dI) rg_cl (rm_W h a cI cL (nI 0) (nI n) (nI b) cof mad (va_cpy nu nu (2 * (T b)) (2 * n) 2) (va_cpy co co (2 * (T b)) (2 * n) 2) (va_cpy se se (2 * (T b)) (2 * n) 2) (va_cpy li li (16 * (T b)) (16 * n) 16) (va_cpy le le (2 * (T b)) (2 * n) 2) (upd fi n (fi (T b))) (upd sc n (sc (T b))) ti un ma dr fr to en) H := hP
    have hD : va_D A (rm_W h a cI cL (nI 0) (nI n) (nI b) cof mad (va_cpy nu nu (2 * (T b)) (2 * n) 2) (va_cpy co co (2 * (T b)) (2 * n) 2) (va_cpy se se (2 * (T b)) (2 * n) 2) (va_cpy li li (16 * (T b)) (16 * n) 16) (va_cpy le le (2 * (T b)) (2 * n) 2) (upd fi n (fi (T b))) (upd sc n (sc (T b))) ti un ma dr fr to en) := hD
    have hX0 : rg_MR (va_cpy nu nu (2 * (T b)) (2 * n) 2) (va_cpy co co (2 * (T b)) (2 * n) 2) (va_cpy se se (2 * (T b)) (2 * n) 2) (va_cpy le le (2 * (T b)) (2 * n) 2) (va_cpy li li (16 * (T b)) (16 * n) 16) n (Rr (T b)) := rg_MR_copy (hrep.2.2.2.2.1 (T b) hTb)
    refine lv_aload_n hx hb dM_put_39 rfl (lv_at hl 0 rfl) ?_
    refine va_get (D := (dC, dI)) (ci := 0) (C := "RevisionGroveModel") (T := TM) (N := 19) hx hb hts inM hown hK hP 0 rfl rfl 2 (by decide) (hts _ tw_603) (fun _ h9 => h9) rfl dM_put_40 ?_
    refine lv_iconst (v := nI 2) hx hb dM_put_43 (by decide) ?_
    refine lv_aload_n hx hb dM_put_44 rfl (lv_at hl 0 rfl) ?_
    refine va_get (D := (dC, dI)) (ci := 0) (C := "RevisionGroveModel") (T := TM) (N := 19) hx hb hts inM hown hK hP 0 rfl rfl 1 (by decide) (hts _ tw_602) (fun _ h9 => h9) rfl dM_put_45 ?_
    refine rg_imul hx hb dM_put_48 ?_
    refine lv_iload_n hx hb dM_put_49 rfl (lv_at hl 1 rfl) ?_
    refine rg_iadd hx hb dM_put_50 ?_
    refine lv_iload_n hx hb dM_put_51 rfl (lv_at hl 2 rfl) ?_
    refine rg_iast hx hb hK hP hD hS 1 0 rfl rfl (by decide) (by omega) dM_put_52 (fun H locs hP hD hS => ?_)
    have hP : va_P (dC, dI) rg_cl (rm_W h a cI cL (nI 0) (nI n) (nI b) cof mad (upd (va_cpy nu nu (2 * (T b)) (2 * n) 2) (2 * n + k) v) (va_cpy co co (2 * (T b)) (2 * n) 2) (va_cpy se se (2 * (T b)) (2 * n) 2) (va_cpy li li (16 * (T b)) (16 * n) 16) (va_cpy le le (2 * (T b)) (2 * n) 2) (upd fi n (fi (T b))) (upd sc n (sc (T b))) ti un ma dr fr to en) H := hP
    have hD : va_D A (rm_W h a cI cL (nI 0) (nI n) (nI b) cof mad (upd (va_cpy nu nu (2 * (T b)) (2 * n) 2) (2 * n + k) v) (va_cpy co co (2 * (T b)) (2 * n) 2) (va_cpy se se (2 * (T b)) (2 * n) 2) (va_cpy li li (16 * (T b)) (16 * n) 16) (va_cpy le le (2 * (T b)) (2 * n) 2) (upd fi n (fi (T b))) (upd sc n (sc (T b))) ti un ma dr fr to en) := hD
    have hrep1 : rm_Rep (nI n) (nI b) cof (upd (va_cpy nu nu (2 * (T b)) (2 * n) 2) (2 * n + k) v) (va_cpy co co (2 * (T b)) (2 * n) 2) (va_cpy se se (2 * (T b)) (2 * n) 2) (va_cpy li li (16 * (T b)) (16 * n) 16) (va_cpy le le (2 * (T b)) (2 * n) 2) (upd fi n (fi (T b))) (upd sc n (sc (T b))) ti un ma (n, Rr, P1, P2, T, U, b, cof) := rm_Rep_junk hrep (fun j hj => by have hj : j < 2 * n := hj; rw [pk_un (by omega), pk_cpy_out (by omega)]) (fun j hj => by have hj : j < 2 * n := hj; rw [pk_cpy_out (by omega)]) (fun j hj => by have hj : j < 2 * n := hj; rw [pk_cpy_out (by omega)]) (fun j hj => by have hj : j < 2 * n := hj; rw [pk_cpy_out (by omega)]) (fun j hj => by have hj : j < 16 * n := hj; rw [pk_cpy_out (by omega)]) (fun j hj => by have hj : j < n := hj; rw [pk_un (by omega)]) (fun j hj => by have hj : j < n := hj; rw [pk_un (by omega)])
    have hX1 : rg_MR (upd (va_cpy nu nu (2 * (T b)) (2 * n) 2) (2 * n + k) v) (va_cpy co co (2 * (T b)) (2 * n) 2) (va_cpy se se (2 * (T b)) (2 * n) 2) (va_cpy le le (2 * (T b)) (2 * n) 2) (va_cpy li li (16 * (T b)) (16 * n) 16) n (rg_setN (Rr (T b)) k v) := rg_MR_setN hX0
    refine lv_aload_n hx hb dM_put_53 rfl (lv_at hl 0 rfl) ?_
    refine rg_calli hD hS hA (va_runV (As := []) (rest := []) ⟨hx, hb, hml, hown, hts⟩ (c_rm_change n b Rr P1 P2 T U (rg_setN (Rr (T b)) k v) hrep1 hX1 _) (cwV 0 hts (rg_gV tw_675 tw_677 ts_M_change tw_5 tw_678) rfl rfl rfl (by decide +kernel) ⟨by rw [hR]; exact Nat.le_of_ble_eq_true rfl, by rw [hR]; exact Nat.le_of_ble_eq_true rfl⟩) (rg_preV rfl hK hP hD (ci := 0) (q0 := 0) rfl rfl) rfl rfl hl.1 rfl (lv_room (Nat.le_of_ble_eq_true rfl)) dM_put_54 ⟨Nat.zero_le _, Nat.zero_le _⟩) (fun r8 u9 H locs hw10 hP hD hS => ?_)
    obtain ⟨cod1, cnt1, bra1, cof1, mad1, nu1, co1, se1, li1, le1, fi1, sc1, ti1, un1, ma1, dr1, fr1, to1, en1⟩ := u9
    have hP : va_P (dC, dI) rg_cl (rm_W h a cI cL cod1 cnt1 bra1 cof1 mad1 nu1 co1 se1 li1 le1 fi1 sc1 ti1 un1 ma1 dr1 fr1 to1 en1) H := hP
    have hD : va_D A (rm_W h a cI cL cod1 cnt1 bra1 cof1 mad1 nu1 co1 se1 li1 le1 fi1 sc1 ti1 un1 ma1 dr1 fr1 to1 en1) := hD
    rw [hQ]
    exact rg_iret hx hb hr hlk hK hP hD hS dM_put_57 (cod1, cnt1, bra1, cof1, mad1, nu1, co1, se1, li1, le1, fi1, sc1, ti1, un1, ma1, dr1, fr1, to1, en1) rfl (hw10)
  refine rg_ifN_eq (tgt := 10) hx hb dM_put_2 (by decide) (by omega) (fun h11 => ?_) (fun h11 => ?_)
  · refine lv_iconst (v := nI 0) hx hb dM_put_10 (by decide) ?_
    refine lv_goto (tgt := 15) hx hb dM_put_11 (by decide) ?_
    exact J2 0 rfl
  · refine lv_iload_n hx hb dM_put_5 rfl (lv_at hl 1 rfl) ?_
    refine lv_iconst (v := nI 1) hx hb dM_put_6 (by decide) ?_
    refine rg_icmp_ne (tgt := 14) hx hb dM_put_7 (by decide) (by omega) (by omega) (fun h12 => by exfalso; omega) (fun h12 => ?_)
    refine lv_iconst (v := nI 0) hx hb dM_put_10 (by decide) ?_
    refine lv_goto (tgt := 15) hx hb dM_put_11 (by decide) ?_
    exact J2 0 rfl
set_option maxHeartbeats 4000000 in
set_option maxRecDepth 100000 in
theorem c_rm_put_bad {l : Launch} {dC : Nat → ClassId} {dI : Nat → Nat → Nat} {h : Nat} {a : Nat → Nat} {cI cL : ClassId} {cod : Int32} {cof : Int32} {mad : Int32} {nu : Nat → Int32} {co : Nat → Int64} {se : Nat → Int32} {li : Nat → Int32} {le : Nat → Int32} {fi : Nat → Int32} {sc : Nat → Int32} {ti : Nat → Int32} {un : Nat → Int32} {ma : Nat → Int32} {dr : Nat → Int32} {fr : Nat → Int32} {to : Nat → Int32} {en : Nat → Int32} (n b : Nat) (Rr : Nat → rg_R) (P1 P2 : Nat → Int32) (T : Nat → Nat) (U : Nat → List Nat) (f v : Int32) (hf0 : ¬ f = 0) (hf1 : ¬ f = 1) (hrep : rm_Rep (nI n) (nI b) cof nu co se li le fi sc ti un ma (n, Rr, P1, P2, T, U, b, cof)) : rg_M l yM_put (Cond.code yM_put prog_8_method_10_code 3 (some .int) :: rg_tbl) { frames := 3, cells := 0, slots := 0, locals := 69 } (dC, dI) rg_cl [(cI, .int), (cL, .long)] (rm_W h a cI cL cod (nI n) (nI b) cof mad nu co se li le fi sc ti un ma dr fr to en) [.ref h, .int f, .int v] (rg_QI (dC, dI) rg_cl [(cI, .int), (cL, .long)] (S := rm_S) (rm_Po (1, 0, (n, Rr, P1, P2, T, U, b, cof))) (fun u => rm_Wu h a cI cL u)) 0 0 := by
  refine rg_of prog_8_method_10_code 3 (some .int) (by decide) rfl (Nat.le_of_ble_eq_true rfl) ?_
  intro p e R s m args below meth c Q A H locs ls hR hQ hx hb hml hr hts hown hlk hnm hP hK hD hA hS hl
  have hl : lv_has ls 3 [(0, .ref h), (1, .int f), (2, .int v)] := hl
  have hts : ∀ w ∈ rg_tbl, w.before args s = true := fun w h => hts w (List.mem_cons_of_mem _ h)
  have hok := hrep.1
  have hn1 : 1 ≤ n := hok.1
  have hn60 : n ≤ 60 := hok.2.1
  have hb4 : b < 4 := hok.2.2.2.2.2.2.2.1
  have hTb : T b < n := (hok.2.2.2.2.2.2.1 b hb4).1
  have hti : ti b = nI (T b) := (hrep.2.2.2.2.2.2 b hb4).1
  have hma : ma b = nI (U b).length := (hrep.2.2.2.2.2.2 b hb4).2.1
  refine lv_aload_n hx hb dM_put_0 rfl (lv_at hl 0 rfl) ?_
  refine lv_iload_n hx hb dM_put_1 rfl (lv_at hl 1 rfl) ?_
  refine lv_if_eq (tgt := 10) hx hb dM_put_2 (by decide) (fun h1 => absurd h1 hf0) (fun h1 => ?_)
  refine lv_iload_n hx hb dM_put_5 rfl (lv_at hl 1 rfl) ?_
  refine lv_iconst (v := nI 1) hx hb dM_put_6 (by decide) ?_
  refine lv_icmp_ne (tgt := 14) hx hb dM_put_7 (by decide) (fun h2 => ?_) (fun h2 => absurd h2 hf1)
  refine lv_iconst (v := nI 1) hx hb dM_put_14 (by decide) ?_
  refine va_put (D := (dC, dI)) (ci := 0) (v := .int (nI 1)) (ty := .int) (C := "RevisionGroveModel") (T := TM) (N := 19) hx hb hts inM tyM tyM_ok nmM hown hK hP hD hS 0 rfl rfl 0 (by decide) (hts _ tw_601) (fun _ h9 => h9) rfl (by decide +kernel) rfl rfl (Nat.le_of_ble_eq_true rfl) dM_put_15 (fun H locs hP hD hS => ?_)
  have hP : va_P (dC, dI) rg_cl (rm_W h a cI cL (nI 1) (nI n) (nI b) cof mad nu co se li le fi sc ti un ma dr fr to en) H := hP
  have hD : va_D A (rm_W h a cI cL (nI 1) (nI n) (nI b) cof mad nu co se li le fi sc ti un ma dr fr to en) := hD
  refine lv_aload_n hx hb dM_put_18 rfl (lv_at hl 0 rfl) ?_
  refine va_get (D := (dC, dI)) (ci := 0) (C := "RevisionGroveModel") (T := TM) (N := 19) hx hb hts inM hown hK hP 0 rfl rfl 0 (by decide) (hts _ tw_601) (fun _ h9 => h9) rfl dM_put_19 ?_
  refine rg_ifN_le (tgt := 27) hx hb dM_put_22 (by decide) (by decide) (fun h3 => by exfalso; omega) (fun h3 => ?_)
  refine lv_iconst (v := nI 0) hx hb dM_put_25 (by decide) ?_
  rw [hQ]
  exact rg_iret hx hb hr hlk hK hP hD hS dM_put_26 (nI 1, nI n, nI b, cof, mad, nu, co, se, li, le, fi, sc, ti, un, ma, dr, fr, to, en) rfl (⟨hrep, rfl, rfl⟩)
set_option maxHeartbeats 4000000 in
set_option maxRecDepth 100000 in
theorem c_rm_add_ok {l : Launch} {dC : Nat → ClassId} {dI : Nat → Nat → Nat} {h : Nat} {a : Nat → Nat} {cI cL : ClassId} {cod : Int32} {cof : Int32} {mad : Int32} {nu : Nat → Int32} {co : Nat → Int64} {se : Nat → Int32} {li : Nat → Int32} {le : Nat → Int32} {fi : Nat → Int32} {sc : Nat → Int32} {ti : Nat → Int32} {un : Nat → Int32} {ma : Nat → Int32} {dr : Nat → Int32} {fr : Nat → Int32} {to : Nat → Int32} {en : Nat → Int32} (n b : Nat) (Rr : Nat → rg_R) (P1 P2 : Nat → Int32) (T : Nat → Nat) (U : Nat → List Nat) (k : Nat) (hk2 : k < 2) (v : Int32) (hrep : rm_Rep (nI n) (nI b) cof nu co se li le fi sc ti un ma (n, Rr, P1, P2, T, U, b, cof)) : rg_M l yM_add (Cond.code yM_add prog_8_method_11_code 3 (some .int) :: rg_tbl) { frames := 3, cells := 0, slots := 0, locals := 69 } (dC, dI) rg_cl [(cI, .int), (cL, .long)] (rm_W h a cI cL cod (nI n) (nI b) cof mad nu co se li le fi sc ti un ma dr fr to en) [.ref h, .int (nI (k + 2)), .int v] (rg_QI (dC, dI) rg_cl [(cI, .int), (cL, .long)] (S := rm_S) (rm_Po (rg_chg 2 (n, Rr, P1, P2, T, U, b, cof) (rg_setK (Rr (T b)) k ((Rr (T b)).2.1 k + v.toInt64)))) (fun u => rm_Wu h a cI cL u)) 0 0 := by
  refine rg_of prog_8_method_11_code 3 (some .int) (by decide) rfl (Nat.le_of_ble_eq_true rfl) ?_
  intro p e R s m args below meth c Q A H locs ls hR hQ hx hb hml hr hts hown hlk hnm hP hK hD hA hS hl
  have hl : lv_has ls 3 [(0, .ref h), (1, .int (nI (k + 2))), (2, .int v)] := hl
  have hts : ∀ w ∈ rg_tbl, w.before args s = true := fun w h => hts w (List.mem_cons_of_mem _ h)
  have hok := hrep.1
  have hn1 : 1 ≤ n := hok.1
  have hn60 : n ≤ 60 := hok.2.1
  have hb4 : b < 4 := hok.2.2.2.2.2.2.2.1
  have hTb : T b < n := (hok.2.2.2.2.2.2.1 b hb4).1
  have hti : ti b = nI (T b) := (hrep.2.2.2.2.2.2 b hb4).1
  have hma : ma b = nI (U b).length := (hrep.2.2.2.2.2.2 b hb4).2.1
  refine lv_aload_n hx hb dM_add_0 rfl (lv_at hl 0 rfl) ?_
  refine lv_iload_n hx hb dM_add_1 rfl (lv_at hl 1 rfl) ?_
  refine lv_iconst (v := nI 2) hx hb dM_add_2 (by decide) ?_
  have J3 : ∀ v9 : Nat, v9 = 0 → W p l e R s m args below meth c H locs 0 0 Q (F0 m 16 ls [.int (nI v9), .ref h]) := by
    intro v9 hv9
    subst hv9
    refine va_put (D := (dC, dI)) (ci := 0) (v := .int (nI 0)) (ty := .int) (C := "RevisionGroveModel") (T := TM) (N := 19) hx hb hts inM tyM tyM_ok nmM hown hK hP hD hS 0 rfl rfl 0 (by decide) (hts _ tw_601) (fun _ h9 => h9) rfl (by decide +kernel) rfl rfl (Nat.le_of_ble_eq_true rfl) dM_add_16 (fun H locs hP hD hS => ?_)
    have hP : va_P (dC, dI) rg_cl (rm_W h a cI cL (nI 0) (nI n) (nI b) cof mad nu co se li le fi sc ti un ma dr fr to en) H := hP
    have hD : va_D A (rm_W h a cI cL (nI 0) (nI n) (nI b) cof mad nu co se li le fi sc ti un ma dr fr to en) := hD
    refine lv_aload_n hx hb dM_add_19 rfl (lv_at hl 0 rfl) ?_
    refine va_get (D := (dC, dI)) (ci := 0) (C := "RevisionGroveModel") (T := TM) (N := 19) hx hb hts inM hown hK hP 0 rfl rfl 0 (by decide) (hts _ tw_601) (fun _ h9 => h9) rfl dM_add_20 ?_
    refine rg_ifN_le (tgt := 28) hx hb dM_add_23 (by decide) (by decide) (fun h1 => ?_) (fun h1 => by exfalso; omega)
    refine lv_aload_n hx hb dM_add_28 rfl (lv_at hl 0 rfl) ?_
    refine lv_aload_n hx hb dM_add_29 rfl (lv_at hl 0 rfl) ?_
    refine rg_calli hD hS hA (va_runV (As := []) (rest := [.ref h]) ⟨hx, hb, hml, hown, hts⟩ (c_rm_here b (by omega) _) (cwV 0 hts (rg_gV tw_667 tw_669 ts_M_here tw_5 tw_670) rfl rfl rfl (by decide +kernel) ⟨by rw [hR]; exact Nat.le_of_ble_eq_true rfl, by rw [hR]; exact Nat.le_of_ble_eq_true rfl⟩) (rg_preV rfl hK hP hD (ci := 0) (q0 := 0) rfl rfl) rfl rfl hl.1 rfl (lv_room (Nat.le_of_ble_eq_true rfl)) dM_add_30 ⟨Nat.zero_le _, Nat.zero_le _⟩) (fun r2 u3 H locs hw4 hP hD hS => ?_)
    subst hw4
    have hP : va_P (dC, dI) rg_cl (rm_W h a cI cL (nI 0) (nI n) (nI b) cof mad nu co se li le fi sc ti un ma dr fr to en) H := hP
    have hD : va_D A (rm_W h a cI cL (nI 0) (nI n) (nI b) cof mad nu co se li le fi sc ti un ma dr fr to en) := hD
    refine rg_top (show (.int (ti b) : Value) = .int (nI (T b)) by rw [hti]) ?_
    refine lv_aload_n hx hb dM_add_33 rfl (lv_at hl 0 rfl) ?_
    refine va_get (D := (dC, dI)) (ci := 0) (C := "RevisionGroveModel") (T := TM) (N := 19) hx hb hts inM hown hK hP 0 rfl rfl 1 (by decide) (hts _ tw_602) (fun _ h9 => h9) rfl dM_add_34 ?_
    refine rg_callv hD hS hA (va_runV (As := [.int (nI (T b)), .int (nI n)]) (rest := []) ⟨hx, hb, hml, hown, hts⟩ (c_rm_copy (T b) n (by omega) (by omega) _) (cwV 2 hts (rg_gV tw_671 tw_673 ts_M_copy tw_5 tw_674) rfl rfl rfl (by decide +kernel) ⟨by rw [hR]; exact Nat.le_of_ble_eq_true rfl, by rw [hR]; exact Nat.le_of_ble_eq_true rfl⟩) (rg_preV rfl hK hP hD (ci := 0) (q0 := 0) rfl rfl) rfl rfl hl.1 rfl (lv_room (Nat.le_of_ble_eq_true rfl)) dM_add_37 ⟨Nat.zero_le _, Nat.zero_le _⟩) (fun u6 H locs hw7 hP hD hS => ?_)
    have hP : va_P (dC, dI) rg_cl (rm_W h a cI cL (nI 0) (nI n) (nI b) cof mad (va_cpy nu nu (2 * (T b)) (2 * n) 2) (va_cpy co co (2 * (T b)) (2 * n) 2) (va_cpy se se (2 * (T b)) (2 * n) 2) (va_cpy li li (16 * (T b)) (16 * n) 16) (va_cpy le le (2 * (T b)) (2 * n) 2) (upd fi n (fi (T b))) (upd sc n (sc (T b))) ti un ma dr fr to en) H := hP
    have hD : va_D A (rm_W h a cI cL (nI 0) (nI n) (nI b) cof mad (va_cpy nu nu (2 * (T b)) (2 * n) 2) (va_cpy co co (2 * (T b)) (2 * n) 2) (va_cpy se se (2 * (T b)) (2 * n) 2) (va_cpy li li (16 * (T b)) (16 * n) 16) (va_cpy le le (2 * (T b)) (2 * n) 2) (upd fi n (fi (T b))) (upd sc n (sc (T b))) ti un ma dr fr to en) := hD
    have hX0 : rg_MR (va_cpy nu nu (2 * (T b)) (2 * n) 2) (va_cpy co co (2 * (T b)) (2 * n) 2) (va_cpy se se (2 * (T b)) (2 * n) 2) (va_cpy le le (2 * (T b)) (2 * n) 2) (va_cpy li li (16 * (T b)) (16 * n) 16) n (Rr (T b)) := rg_MR_copy (hrep.2.2.2.2.1 (T b) hTb)
    have q2 := (hX0 k (by omega)).2.1
    refine lv_aload_n hx hb dM_add_40 rfl (lv_at hl 0 rfl) ?_
    refine va_get (D := (dC, dI)) (ci := 0) (C := "RevisionGroveModel") (T := TM) (N := 19) hx hb hts inM hown hK hP 0 rfl rfl 3 (by decide) (hts _ tw_604) (fun _ h9 => h9) rfl dM_add_41 ?_
    refine lv_iconst (v := nI 2) hx hb dM_add_44 (by decide) ?_
    refine lv_aload_n hx hb dM_add_45 rfl (lv_at hl 0 rfl) ?_
    refine va_get (D := (dC, dI)) (ci := 0) (C := "RevisionGroveModel") (T := TM) (N := 19) hx hb hts inM hown hK hP 0 rfl rfl 1 (by decide) (hts _ tw_602) (fun _ h9 => h9) rfl dM_add_46 ?_
    refine rg_imul hx hb dM_add_49 ?_
    refine lv_iload_n hx hb dM_add_50 rfl (lv_at hl 1 rfl) ?_
    refine rg_iadd hx hb dM_add_51 ?_
    refine lv_iconst (v := nI 2) hx hb dM_add_52 (by decide) ?_
    refine rg_isub hx hb dM_add_53 (by omega) ?_
    refine rg_top (show (.int (nI (2 * n + (k + 2) - 2)) : Value) = .int (nI (2 * n + k)) by rw [show 2 * n + (k + 2) - 2 = 2 * n + k by omega]) ?_
    refine lv_dup2_11 hx hb dM_add_54 rfl rfl ?_
    refine rg_lald hx hb hK hP 2 1 rfl rfl (by decide) (by omega) dM_add_55 ?_
    refine rg_top (show (.long ((va_cpy co co (2 * (T b)) (2 * n) 2) (2 * n + k)) : Value) = .long ((Rr (T b)).2.1 k) by rw [q2]) ?_
    refine lv_iload_n hx hb dM_add_56 rfl (lv_at hl 2 rfl) ?_
    refine lv_i2l (v := v.toInt64) hx hb dM_add_57 rfl ?_
    refine lv_ladd hx hb dM_add_58 ?_
    refine rg_last hx hb hK hP hD hS 2 1 rfl rfl (by decide) (by omega) dM_add_59 (fun H locs hP hD hS => ?_)
    have hP : va_P (dC, dI) rg_cl (rm_W h a cI cL (nI 0) (nI n) (nI b) cof mad (va_cpy nu nu (2 * (T b)) (2 * n) 2) (vp_updL (va_cpy co co (2 * (T b)) (2 * n) 2) (2 * n + k) (((Rr (T b)).2.1 k) + v.toInt64)) (va_cpy se se (2 * (T b)) (2 * n) 2) (va_cpy li li (16 * (T b)) (16 * n) 16) (va_cpy le le (2 * (T b)) (2 * n) 2) (upd fi n (fi (T b))) (upd sc n (sc (T b))) ti un ma dr fr to en) H := hP
    have hD : va_D A (rm_W h a cI cL (nI 0) (nI n) (nI b) cof mad (va_cpy nu nu (2 * (T b)) (2 * n) 2) (vp_updL (va_cpy co co (2 * (T b)) (2 * n) 2) (2 * n + k) (((Rr (T b)).2.1 k) + v.toInt64)) (va_cpy se se (2 * (T b)) (2 * n) 2) (va_cpy li li (16 * (T b)) (16 * n) 16) (va_cpy le le (2 * (T b)) (2 * n) 2) (upd fi n (fi (T b))) (upd sc n (sc (T b))) ti un ma dr fr to en) := hD
    have hrep1 : rm_Rep (nI n) (nI b) cof (va_cpy nu nu (2 * (T b)) (2 * n) 2) (vp_updL (va_cpy co co (2 * (T b)) (2 * n) 2) (2 * n + k) (((Rr (T b)).2.1 k) + v.toInt64)) (va_cpy se se (2 * (T b)) (2 * n) 2) (va_cpy li li (16 * (T b)) (16 * n) 16) (va_cpy le le (2 * (T b)) (2 * n) 2) (upd fi n (fi (T b))) (upd sc n (sc (T b))) ti un ma (n, Rr, P1, P2, T, U, b, cof) := rm_Rep_junk hrep (fun j hj => by have hj : j < 2 * n := hj; rw [pk_cpy_out (by omega)]) (fun j hj => by have hj : j < 2 * n := hj; rw [pk_uLn (by omega), pk_cpy_out (by omega)]) (fun j hj => by have hj : j < 2 * n := hj; rw [pk_cpy_out (by omega)]) (fun j hj => by have hj : j < 2 * n := hj; rw [pk_cpy_out (by omega)]) (fun j hj => by have hj : j < 16 * n := hj; rw [pk_cpy_out (by omega)]) (fun j hj => by have hj : j < n := hj; rw [pk_un (by omega)]) (fun j hj => by have hj : j < n := hj; rw [pk_un (by omega)])
    have hX1 : rg_MR (va_cpy nu nu (2 * (T b)) (2 * n) 2) (vp_updL (va_cpy co co (2 * (T b)) (2 * n) 2) (2 * n + k) (((Rr (T b)).2.1 k) + v.toInt64)) (va_cpy se se (2 * (T b)) (2 * n) 2) (va_cpy le le (2 * (T b)) (2 * n) 2) (va_cpy li li (16 * (T b)) (16 * n) 16) n (rg_setK (Rr (T b)) k ((Rr (T b)).2.1 k + v.toInt64)) := rg_MR_setK hX0
    refine lv_aload_n hx hb dM_add_60 rfl (lv_at hl 0 rfl) ?_
    refine rg_calli hD hS hA (va_runV (As := []) (rest := []) ⟨hx, hb, hml, hown, hts⟩ (c_rm_change n b Rr P1 P2 T U (rg_setK (Rr (T b)) k ((Rr (T b)).2.1 k + v.toInt64)) hrep1 hX1 _) (cwV 0 hts (rg_gV tw_675 tw_677 ts_M_change tw_5 tw_678) rfl rfl rfl (by decide +kernel) ⟨by rw [hR]; exact Nat.le_of_ble_eq_true rfl, by rw [hR]; exact Nat.le_of_ble_eq_true rfl⟩) (rg_preV rfl hK hP hD (ci := 0) (q0 := 0) rfl rfl) rfl rfl hl.1 rfl (lv_room (Nat.le_of_ble_eq_true rfl)) dM_add_61 ⟨Nat.zero_le _, Nat.zero_le _⟩) (fun r8 u9 H locs hw10 hP hD hS => ?_)
    obtain ⟨cod2, cnt2, bra2, cof2, mad2, nu2, co2, se2, li2, le2, fi2, sc2, ti2, un2, ma2, dr2, fr2, to2, en2⟩ := u9
    have hP : va_P (dC, dI) rg_cl (rm_W h a cI cL cod2 cnt2 bra2 cof2 mad2 nu2 co2 se2 li2 le2 fi2 sc2 ti2 un2 ma2 dr2 fr2 to2 en2) H := hP
    have hD : va_D A (rm_W h a cI cL cod2 cnt2 bra2 cof2 mad2 nu2 co2 se2 li2 le2 fi2 sc2 ti2 un2 ma2 dr2 fr2 to2 en2) := hD
    rw [hQ]
    exact rg_iret hx hb hr hlk hK hP hD hS dM_add_64 (cod2, cnt2, bra2, cof2, mad2, nu2, co2, se2, li2, le2, fi2, sc2, ti2, un2, ma2, dr2, fr2, to2, en2) rfl (hw10)
  refine rg_icmp_eq (tgt := 11) hx hb dM_add_3 (by decide) (by omega) (by omega) (fun h11 => ?_) (fun h11 => ?_)
  · refine lv_iconst (v := nI 0) hx hb dM_add_11 (by decide) ?_
    refine lv_goto (tgt := 16) hx hb dM_add_12 (by decide) ?_
    exact J3 0 rfl
  · refine lv_iload_n hx hb dM_add_6 rfl (lv_at hl 1 rfl) ?_
    refine lv_iconst (v := nI 3) hx hb dM_add_7 (by decide) ?_
    refine rg_icmp_ne (tgt := 15) hx hb dM_add_8 (by decide) (by omega) (by omega) (fun h12 => by exfalso; omega) (fun h12 => ?_)
    refine lv_iconst (v := nI 0) hx hb dM_add_11 (by decide) ?_
    refine lv_goto (tgt := 16) hx hb dM_add_12 (by decide) ?_
    exact J3 0 rfl
set_option maxHeartbeats 4000000 in
set_option maxRecDepth 100000 in
theorem c_rm_add_bad {l : Launch} {dC : Nat → ClassId} {dI : Nat → Nat → Nat} {h : Nat} {a : Nat → Nat} {cI cL : ClassId} {cod : Int32} {cof : Int32} {mad : Int32} {nu : Nat → Int32} {co : Nat → Int64} {se : Nat → Int32} {li : Nat → Int32} {le : Nat → Int32} {fi : Nat → Int32} {sc : Nat → Int32} {ti : Nat → Int32} {un : Nat → Int32} {ma : Nat → Int32} {dr : Nat → Int32} {fr : Nat → Int32} {to : Nat → Int32} {en : Nat → Int32} (n b : Nat) (Rr : Nat → rg_R) (P1 P2 : Nat → Int32) (T : Nat → Nat) (U : Nat → List Nat) (f v : Int32) (hf0 : ¬ f = 2) (hf1 : ¬ f = 3) (hrep : rm_Rep (nI n) (nI b) cof nu co se li le fi sc ti un ma (n, Rr, P1, P2, T, U, b, cof)) : rg_M l yM_add (Cond.code yM_add prog_8_method_11_code 3 (some .int) :: rg_tbl) { frames := 3, cells := 0, slots := 0, locals := 69 } (dC, dI) rg_cl [(cI, .int), (cL, .long)] (rm_W h a cI cL cod (nI n) (nI b) cof mad nu co se li le fi sc ti un ma dr fr to en) [.ref h, .int f, .int v] (rg_QI (dC, dI) rg_cl [(cI, .int), (cL, .long)] (S := rm_S) (rm_Po (1, 0, (n, Rr, P1, P2, T, U, b, cof))) (fun u => rm_Wu h a cI cL u)) 0 0 := by
  refine rg_of prog_8_method_11_code 3 (some .int) (by decide) rfl (Nat.le_of_ble_eq_true rfl) ?_
  intro p e R s m args below meth c Q A H locs ls hR hQ hx hb hml hr hts hown hlk hnm hP hK hD hA hS hl
  have hl : lv_has ls 3 [(0, .ref h), (1, .int f), (2, .int v)] := hl
  have hts : ∀ w ∈ rg_tbl, w.before args s = true := fun w h => hts w (List.mem_cons_of_mem _ h)
  have hok := hrep.1
  have hn1 : 1 ≤ n := hok.1
  have hn60 : n ≤ 60 := hok.2.1
  have hb4 : b < 4 := hok.2.2.2.2.2.2.2.1
  have hTb : T b < n := (hok.2.2.2.2.2.2.1 b hb4).1
  have hti : ti b = nI (T b) := (hrep.2.2.2.2.2.2 b hb4).1
  have hma : ma b = nI (U b).length := (hrep.2.2.2.2.2.2 b hb4).2.1
  refine lv_aload_n hx hb dM_add_0 rfl (lv_at hl 0 rfl) ?_
  refine lv_iload_n hx hb dM_add_1 rfl (lv_at hl 1 rfl) ?_
  refine lv_iconst (v := nI 2) hx hb dM_add_2 (by decide) ?_
  refine lv_icmp_eq (tgt := 11) hx hb dM_add_3 (by decide) (fun h1 => absurd h1 hf0) (fun h1 => ?_)
  refine lv_iload_n hx hb dM_add_6 rfl (lv_at hl 1 rfl) ?_
  refine lv_iconst (v := nI 3) hx hb dM_add_7 (by decide) ?_
  refine lv_icmp_ne (tgt := 15) hx hb dM_add_8 (by decide) (fun h2 => ?_) (fun h2 => absurd h2 hf1)
  refine lv_iconst (v := nI 1) hx hb dM_add_15 (by decide) ?_
  refine va_put (D := (dC, dI)) (ci := 0) (v := .int (nI 1)) (ty := .int) (C := "RevisionGroveModel") (T := TM) (N := 19) hx hb hts inM tyM tyM_ok nmM hown hK hP hD hS 0 rfl rfl 0 (by decide) (hts _ tw_601) (fun _ h9 => h9) rfl (by decide +kernel) rfl rfl (Nat.le_of_ble_eq_true rfl) dM_add_16 (fun H locs hP hD hS => ?_)
  have hP : va_P (dC, dI) rg_cl (rm_W h a cI cL (nI 1) (nI n) (nI b) cof mad nu co se li le fi sc ti un ma dr fr to en) H := hP
  have hD : va_D A (rm_W h a cI cL (nI 1) (nI n) (nI b) cof mad nu co se li le fi sc ti un ma dr fr to en) := hD
  refine lv_aload_n hx hb dM_add_19 rfl (lv_at hl 0 rfl) ?_
  refine va_get (D := (dC, dI)) (ci := 0) (C := "RevisionGroveModel") (T := TM) (N := 19) hx hb hts inM hown hK hP 0 rfl rfl 0 (by decide) (hts _ tw_601) (fun _ h9 => h9) rfl dM_add_20 ?_
  refine rg_ifN_le (tgt := 28) hx hb dM_add_23 (by decide) (by decide) (fun h3 => by exfalso; omega) (fun h3 => ?_)
  refine lv_iconst (v := nI 0) hx hb dM_add_26 (by decide) ?_
  rw [hQ]
  exact rg_iret hx hb hr hlk hK hP hD hS dM_add_27 (nI 1, nI n, nI b, cof, mad, nu, co, se, li, le, fi, sc, ti, un, ma, dr, fr, to, en) rfl (⟨hrep, rfl, rfl⟩)
set_option maxHeartbeats 4000000 in
set_option maxRecDepth 100000 in
theorem c_rm_mark_ok {l : Launch} {dC : Nat → ClassId} {dI : Nat → Nat → Nat} {h : Nat} {a : Nat → Nat} {cI cL : ClassId} {cod : Int32} {cof : Int32} {mad : Int32} {nu : Nat → Int32} {co : Nat → Int64} {se : Nat → Int32} {li : Nat → Int32} {le : Nat → Int32} {fi : Nat → Int32} {sc : Nat → Int32} {ti : Nat → Int32} {un : Nat → Int32} {ma : Nat → Int32} {dr : Nat → Int32} {fr : Nat → Int32} {to : Nat → Int32} {en : Nat → Int32} (n b : Nat) (Rr : Nat → rg_R) (P1 P2 : Nat → Int32) (T : Nat → Nat) (U : Nat → List Nat) (k x : Nat) (hk2 : k < 2) (hx32 : x < 32) (w : Bool) (hrep : rm_Rep (nI n) (nI b) cof nu co se li le fi sc ti un ma (n, Rr, P1, P2, T, U, b, cof)) : rg_M l yM_mark (Cond.code yM_mark prog_8_method_12_code 5 (some .int) :: rg_tbl) { frames := 3, cells := 0, slots := 0, locals := 69 } (dC, dI) rg_cl [(cI, .int), (cL, .long)] (rm_W h a cI cL cod (nI n) (nI b) cof mad nu co se li le fi sc ti un ma dr fr to en) [.ref h, .int (nI (k + 4)), .int (nI x), .int (bif w then 1 else 0)] (rg_QI (dC, dI) rg_cl [(cI, .int), (cL, .long)] (S := rm_S) (rm_Po (rg_chg 2 (n, Rr, P1, P2, T, U, b, cof) (rg_setE (Rr (T b)) k (rg_mk ((Rr (T b)).2.2.1 k) x w)))) (fun u => rm_Wu h a cI cL u)) 0 0 := by
  refine rg_of prog_8_method_12_code 5 (some .int) (by decide) rfl (Nat.le_of_ble_eq_true rfl) ?_
  intro p e R s m args below meth c Q A H locs ls hR hQ hx hb hml hr hts hown hlk hnm hP hK hD hA hS hl
  have hl : lv_has ls 5 [(0, .ref h), (1, .int (nI (k + 4))), (2, .int (nI x)), (3, .int (bif w then 1 else 0))] := hl
  have hts : ∀ w ∈ rg_tbl, w.before args s = true := fun w h => hts w (List.mem_cons_of_mem _ h)
  have hok := hrep.1
  have hn1 : 1 ≤ n := hok.1
  have hn60 : n ≤ 60 := hok.2.1
  have hb4 : b < 4 := hok.2.2.2.2.2.2.2.1
  have hTb : T b < n := (hok.2.2.2.2.2.2.1 b hb4).1
  have hti : ti b = nI (T b) := (hrep.2.2.2.2.2.2 b hb4).1
  have hma : ma b = nI (U b).length := (hrep.2.2.2.2.2.2 b hb4).2.1
  refine lv_aload_n hx hb dM_mark_0 rfl (lv_at hl 0 rfl) ?_
  refine lv_iload_n hx hb dM_mark_1 rfl (lv_at hl 1 rfl) ?_
  refine lv_iconst (v := nI 4) hx hb dM_mark_2 (by decide) ?_
  have J3 : ∀ v9 : Nat, v9 = 0 → W p l e R s m args below meth c H locs 0 0 Q (F0 m 26 ls [.int (nI v9), .ref h]) := by
    intro v9 hv9
    subst hv9
    refine va_put (D := (dC, dI)) (ci := 0) (v := .int (nI 0)) (ty := .int) (C := "RevisionGroveModel") (T := TM) (N := 19) hx hb hts inM tyM tyM_ok nmM hown hK hP hD hS 0 rfl rfl 0 (by decide) (hts _ tw_601) (fun _ h9 => h9) rfl (by decide +kernel) rfl rfl (Nat.le_of_ble_eq_true rfl) dM_mark_26 (fun H locs hP hD hS => ?_)
    have hP : va_P (dC, dI) rg_cl (rm_W h a cI cL (nI 0) (nI n) (nI b) cof mad nu co se li le fi sc ti un ma dr fr to en) H := hP
    have hD : va_D A (rm_W h a cI cL (nI 0) (nI n) (nI b) cof mad nu co se li le fi sc ti un ma dr fr to en) := hD
    refine lv_aload_n hx hb dM_mark_29 rfl (lv_at hl 0 rfl) ?_
    refine va_get (D := (dC, dI)) (ci := 0) (C := "RevisionGroveModel") (T := TM) (N := 19) hx hb hts inM hown hK hP 0 rfl rfl 0 (by decide) (hts _ tw_601) (fun _ h9 => h9) rfl dM_mark_30 ?_
    refine rg_ifN_le (tgt := 38) hx hb dM_mark_33 (by decide) (by decide) (fun h1 => ?_) (fun h1 => by exfalso; omega)
    refine lv_aload_n hx hb dM_mark_38 rfl (lv_at hl 0 rfl) ?_
    refine lv_aload_n hx hb dM_mark_39 rfl (lv_at hl 0 rfl) ?_
    refine rg_calli hD hS hA (va_runV (As := []) (rest := [.ref h]) ⟨hx, hb, hml, hown, hts⟩ (c_rm_here b (by omega) _) (cwV 0 hts (rg_gV tw_667 tw_669 ts_M_here tw_5 tw_670) rfl rfl rfl (by decide +kernel) ⟨by rw [hR]; exact Nat.le_of_ble_eq_true rfl, by rw [hR]; exact Nat.le_of_ble_eq_true rfl⟩) (rg_preV rfl hK hP hD (ci := 0) (q0 := 0) rfl rfl) rfl rfl hl.1 rfl (lv_room (Nat.le_of_ble_eq_true rfl)) dM_mark_40 ⟨Nat.zero_le _, Nat.zero_le _⟩) (fun r2 u3 H locs hw4 hP hD hS => ?_)
    subst hw4
    have hP : va_P (dC, dI) rg_cl (rm_W h a cI cL (nI 0) (nI n) (nI b) cof mad nu co se li le fi sc ti un ma dr fr to en) H := hP
    have hD : va_D A (rm_W h a cI cL (nI 0) (nI n) (nI b) cof mad nu co se li le fi sc ti un ma dr fr to en) := hD
    refine rg_top (show (.int (ti b) : Value) = .int (nI (T b)) by rw [hti]) ?_
    refine lv_aload_n hx hb dM_mark_43 rfl (lv_at hl 0 rfl) ?_
    refine va_get (D := (dC, dI)) (ci := 0) (C := "RevisionGroveModel") (T := TM) (N := 19) hx hb hts inM hown hK hP 0 rfl rfl 1 (by decide) (hts _ tw_602) (fun _ h9 => h9) rfl dM_mark_44 ?_
    refine rg_callv hD hS hA (va_runV (As := [.int (nI (T b)), .int (nI n)]) (rest := []) ⟨hx, hb, hml, hown, hts⟩ (c_rm_copy (T b) n (by omega) (by omega) _) (cwV 2 hts (rg_gV tw_671 tw_673 ts_M_copy tw_5 tw_674) rfl rfl rfl (by decide +kernel) ⟨by rw [hR]; exact Nat.le_of_ble_eq_true rfl, by rw [hR]; exact Nat.le_of_ble_eq_true rfl⟩) (rg_preV rfl hK hP hD (ci := 0) (q0 := 0) rfl rfl) rfl rfl hl.1 rfl (lv_room (Nat.le_of_ble_eq_true rfl)) dM_mark_47 ⟨Nat.zero_le _, Nat.zero_le _⟩) (fun u6 H locs hw7 hP hD hS => ?_)
    have hP : va_P (dC, dI) rg_cl (rm_W h a cI cL (nI 0) (nI n) (nI b) cof mad (va_cpy nu nu (2 * (T b)) (2 * n) 2) (va_cpy co co (2 * (T b)) (2 * n) 2) (va_cpy se se (2 * (T b)) (2 * n) 2) (va_cpy li li (16 * (T b)) (16 * n) 16) (va_cpy le le (2 * (T b)) (2 * n) 2) (upd fi n (fi (T b))) (upd sc n (sc (T b))) ti un ma dr fr to en) H := hP
    have hD : va_D A (rm_W h a cI cL (nI 0) (nI n) (nI b) cof mad (va_cpy nu nu (2 * (T b)) (2 * n) 2) (va_cpy co co (2 * (T b)) (2 * n) 2) (va_cpy se se (2 * (T b)) (2 * n) 2) (va_cpy li li (16 * (T b)) (16 * n) 16) (va_cpy le le (2 * (T b)) (2 * n) 2) (upd fi n (fi (T b))) (upd sc n (sc (T b))) ti un ma dr fr to en) := hD
    have hX0 : rg_MR (va_cpy nu nu (2 * (T b)) (2 * n) 2) (va_cpy co co (2 * (T b)) (2 * n) 2) (va_cpy se se (2 * (T b)) (2 * n) 2) (va_cpy le le (2 * (T b)) (2 * n) 2) (va_cpy li li (16 * (T b)) (16 * n) 16) n (Rr (T b)) := rg_MR_copy (hrep.2.2.2.2.1 (T b) hTb)
    have q2 := (hX0 k (by omega)).2.2.1
    refine lv_aload_n hx hb dM_mark_50 rfl (lv_at hl 0 rfl) ?_
    refine va_get (D := (dC, dI)) (ci := 0) (C := "RevisionGroveModel") (T := TM) (N := 19) hx hb hts inM hown hK hP 0 rfl rfl 4 (by decide) (hts _ tw_605) (fun _ h9 => h9) rfl dM_mark_51 ?_
    refine lv_iconst (v := nI 2) hx hb dM_mark_54 (by decide) ?_
    refine lv_aload_n hx hb dM_mark_55 rfl (lv_at hl 0 rfl) ?_
    refine va_get (D := (dC, dI)) (ci := 0) (C := "RevisionGroveModel") (T := TM) (N := 19) hx hb hts inM hown hK hP 0 rfl rfl 1 (by decide) (hts _ tw_602) (fun _ h9 => h9) rfl dM_mark_56 ?_
    refine rg_imul hx hb dM_mark_59 ?_
    refine lv_iload_n hx hb dM_mark_60 rfl (lv_at hl 1 rfl) ?_
    refine rg_iadd hx hb dM_mark_61 ?_
    refine lv_iconst (v := nI 4) hx hb dM_mark_62 (by decide) ?_
    refine rg_isub hx hb dM_mark_63 (by omega) ?_
    refine rg_top (show (.int (nI (2 * n + (k + 4) - 4)) : Value) = .int (nI (2 * n + k)) by rw [show 2 * n + (k + 4) - 4 = 2 * n + k by omega]) ?_
    refine rg_iald hx hb hK hP 3 0 rfl rfl (by decide) (by omega) dM_mark_64 ?_
    refine rg_top (show (.int ((va_cpy se se (2 * (T b)) (2 * n) 2) (2 * n + k)) : Value) = .int ((Rr (T b)).2.2.1 k) by rw [q2]) ?_
    refine lv_istore (lv' := [(4, .int ((Rr (T b)).2.2.1 k)), (0, .ref h), (1, .int (nI (k + 4))), (2, .int (nI x)), (3, .int (bif w then 1 else 0))]) hx hb dM_mark_65 hl (by decide) rfl (fun ls hl => ?_)
    refine lv_aload_n hx hb dM_mark_67 rfl (lv_at hl 1 rfl) ?_
    refine va_get (D := (dC, dI)) (ci := 0) (C := "RevisionGroveModel") (T := TM) (N := 19) hx hb hts inM hown hK hP 0 rfl rfl 4 (by decide) (hts _ tw_605) (fun _ h9 => h9) rfl dM_mark_68 ?_
    refine lv_iconst (v := nI 2) hx hb dM_mark_71 (by decide) ?_
    refine lv_aload_n hx hb dM_mark_72 rfl (lv_at hl 1 rfl) ?_
    refine va_get (D := (dC, dI)) (ci := 0) (C := "RevisionGroveModel") (T := TM) (N := 19) hx hb hts inM hown hK hP 0 rfl rfl 1 (by decide) (hts _ tw_602) (fun _ h9 => h9) rfl dM_mark_73 ?_
    refine rg_imul hx hb dM_mark_76 ?_
    refine lv_iload_n hx hb dM_mark_77 rfl (lv_at hl 2 rfl) ?_
    refine rg_iadd hx hb dM_mark_78 ?_
    refine lv_iconst (v := nI 4) hx hb dM_mark_79 (by decide) ?_
    refine rg_isub hx hb dM_mark_80 (by omega) ?_
    refine rg_top (show (.int (nI (2 * n + (k + 4) - 4)) : Value) = .int (nI (2 * n + k)) by rw [show 2 * n + (k + 4) - 4 = 2 * n + k by omega]) ?_
    refine lv_iload_n hx hb dM_mark_81 rfl (lv_at hl 4 rfl) ?_
    have J82 : ∀ v9 : Int32, v9 = (rg_mk ((Rr (T b)).2.2.1 k) x w) → W p l e R s m args below meth c H locs 0 0 Q (F0 m 102 ls [.int v9, .int (nI (2 * n + k)), .ref ((a 3))]) := by
      intro v9 hv9
      subst hv9
      refine rg_iast hx hb hK hP hD hS 3 0 rfl rfl (by decide) (by omega) dM_mark_102 (fun H locs hP hD hS => ?_)
      have hP : va_P (dC, dI) rg_cl (rm_W h a cI cL (nI 0) (nI n) (nI b) cof mad (va_cpy nu nu (2 * (T b)) (2 * n) 2) (va_cpy co co (2 * (T b)) (2 * n) 2) (upd (va_cpy se se (2 * (T b)) (2 * n) 2) (2 * n + k) (rg_mk ((Rr (T b)).2.2.1 k) x w)) (va_cpy li li (16 * (T b)) (16 * n) 16) (va_cpy le le (2 * (T b)) (2 * n) 2) (upd fi n (fi (T b))) (upd sc n (sc (T b))) ti un ma dr fr to en) H := hP
      have hD : va_D A (rm_W h a cI cL (nI 0) (nI n) (nI b) cof mad (va_cpy nu nu (2 * (T b)) (2 * n) 2) (va_cpy co co (2 * (T b)) (2 * n) 2) (upd (va_cpy se se (2 * (T b)) (2 * n) 2) (2 * n + k) (rg_mk ((Rr (T b)).2.2.1 k) x w)) (va_cpy li li (16 * (T b)) (16 * n) 16) (va_cpy le le (2 * (T b)) (2 * n) 2) (upd fi n (fi (T b))) (upd sc n (sc (T b))) ti un ma dr fr to en) := hD
      have hrep1 : rm_Rep (nI n) (nI b) cof (va_cpy nu nu (2 * (T b)) (2 * n) 2) (va_cpy co co (2 * (T b)) (2 * n) 2) (upd (va_cpy se se (2 * (T b)) (2 * n) 2) (2 * n + k) (rg_mk ((Rr (T b)).2.2.1 k) x w)) (va_cpy li li (16 * (T b)) (16 * n) 16) (va_cpy le le (2 * (T b)) (2 * n) 2) (upd fi n (fi (T b))) (upd sc n (sc (T b))) ti un ma (n, Rr, P1, P2, T, U, b, cof) := rm_Rep_junk hrep (fun j hj => by have hj : j < 2 * n := hj; rw [pk_cpy_out (by omega)]) (fun j hj => by have hj : j < 2 * n := hj; rw [pk_cpy_out (by omega)]) (fun j hj => by have hj : j < 2 * n := hj; rw [pk_un (by omega), pk_cpy_out (by omega)]) (fun j hj => by have hj : j < 2 * n := hj; rw [pk_cpy_out (by omega)]) (fun j hj => by have hj : j < 16 * n := hj; rw [pk_cpy_out (by omega)]) (fun j hj => by have hj : j < n := hj; rw [pk_un (by omega)]) (fun j hj => by have hj : j < n := hj; rw [pk_un (by omega)])
      have hX1 : rg_MR (va_cpy nu nu (2 * (T b)) (2 * n) 2) (va_cpy co co (2 * (T b)) (2 * n) 2) (upd (va_cpy se se (2 * (T b)) (2 * n) 2) (2 * n + k) (rg_mk ((Rr (T b)).2.2.1 k) x w)) (va_cpy le le (2 * (T b)) (2 * n) 2) (va_cpy li li (16 * (T b)) (16 * n) 16) n (rg_setE (Rr (T b)) k (rg_mk ((Rr (T b)).2.2.1 k) x w)) := rg_MR_setE hX0
      refine lv_aload_n hx hb dM_mark_103 rfl (lv_at hl 1 rfl) ?_
      refine rg_calli hD hS hA (va_runV (As := []) (rest := []) ⟨hx, hb, hml, hown, hts⟩ (c_rm_change n b Rr P1 P2 T U (rg_setE (Rr (T b)) k (rg_mk ((Rr (T b)).2.2.1 k) x w)) hrep1 hX1 _) (cwV 0 hts (rg_gV tw_675 tw_677 ts_M_change tw_5 tw_678) rfl rfl rfl (by decide +kernel) ⟨by rw [hR]; exact Nat.le_of_ble_eq_true rfl, by rw [hR]; exact Nat.le_of_ble_eq_true rfl⟩) (rg_preV rfl hK hP hD (ci := 0) (q0 := 0) rfl rfl) rfl rfl hl.1 rfl (lv_room (Nat.le_of_ble_eq_true rfl)) dM_mark_104 ⟨Nat.zero_le _, Nat.zero_le _⟩) (fun r8 u9 H locs hw10 hP hD hS => ?_)
      obtain ⟨cod3, cnt3, bra3, cof3, mad3, nu3, co3, se3, li3, le3, fi3, sc3, ti3, un3, ma3, dr3, fr3, to3, en3⟩ := u9
      have hP : va_P (dC, dI) rg_cl (rm_W h a cI cL cod3 cnt3 bra3 cof3 mad3 nu3 co3 se3 li3 le3 fi3 sc3 ti3 un3 ma3 dr3 fr3 to3 en3) H := hP
      have hD : va_D A (rm_W h a cI cL cod3 cnt3 bra3 cof3 mad3 nu3 co3 se3 li3 le3 fi3 sc3 ti3 un3 ma3 dr3 fr3 to3 en3) := hD
      rw [hQ]
      exact rg_iret hx hb hr hlk hK hP hD hS dM_mark_107 (cod3, cnt3, bra3, cof3, mad3, nu3, co3, se3, li3, le3, fi3, sc3, ti3, un3, ma3, dr3, fr3, to3, en3) rfl (hw10)
    refine rg_ifz_eq (tgt := 94) hx hb dM_mark_82 (by decide) (fun h11 => ?_) (fun h11 => ?_)
    · refine lv_iload hx hb dM_mark_94 (lv_at hl 0 rfl) ?_
      refine lv_iconst (v := nI 1) hx hb dM_mark_96 (by decide) ?_
      refine lv_iload_n hx hb dM_mark_97 rfl (lv_at hl 3 rfl) ?_
      refine lv_ishl hx hb dM_mark_98 ?_
      refine lv_iconst (v := -1) hx hb dM_mark_99 (by decide) ?_
      refine lv_ixor hx hb dM_mark_100 ?_
      refine lv_iand hx hb dM_mark_101 ?_
      exact J82 _ (by rw [h11]; rfl)
    · refine lv_iload hx hb dM_mark_85 (lv_at hl 0 rfl) ?_
      refine lv_iconst (v := nI 1) hx hb dM_mark_87 (by decide) ?_
      refine lv_iload_n hx hb dM_mark_88 rfl (lv_at hl 3 rfl) ?_
      refine lv_ishl hx hb dM_mark_89 ?_
      refine lv_ior hx hb dM_mark_90 ?_
      refine lv_goto (tgt := 102) hx hb dM_mark_91 (by decide) ?_
      exact J82 _ (by rw [h11]; rfl)
  refine rg_icmp_eq (tgt := 11) hx hb dM_mark_3 (by decide) (by omega) (by omega) (fun h12 => ?_) (fun h12 => ?_)
  · refine lv_iload_n hx hb dM_mark_11 rfl (lv_at hl 2 rfl) ?_
    refine rg_ifN_lt (tgt := 25) hx hb dM_mark_12 (by decide) (by omega) (fun h13 => h13.elim) (fun h13 => ?_)
    refine lv_iload_n hx hb dM_mark_15 rfl (lv_at hl 2 rfl) ?_
    refine lv_bipush (v := nI 31) hx hb dM_mark_16 (by decide) ?_
    refine rg_icmp_gt (tgt := 25) hx hb dM_mark_18 (by decide) (by omega) (by omega) (fun h14 => by exfalso; omega) (fun h14 => ?_)
    refine lv_iconst (v := nI 0) hx hb dM_mark_21 (by decide) ?_
    refine lv_goto (tgt := 26) hx hb dM_mark_22 (by decide) ?_
    exact J3 0 rfl
  · refine lv_iload_n hx hb dM_mark_6 rfl (lv_at hl 1 rfl) ?_
    refine lv_iconst (v := nI 5) hx hb dM_mark_7 (by decide) ?_
    refine rg_icmp_ne (tgt := 25) hx hb dM_mark_8 (by decide) (by omega) (by omega) (fun h15 => by exfalso; omega) (fun h15 => ?_)
    refine lv_iload_n hx hb dM_mark_11 rfl (lv_at hl 2 rfl) ?_
    refine rg_ifN_lt (tgt := 25) hx hb dM_mark_12 (by decide) (by omega) (fun h16 => h16.elim) (fun h16 => ?_)
    refine lv_iload_n hx hb dM_mark_15 rfl (lv_at hl 2 rfl) ?_
    refine lv_bipush (v := nI 31) hx hb dM_mark_16 (by decide) ?_
    refine rg_icmp_gt (tgt := 25) hx hb dM_mark_18 (by decide) (by omega) (by omega) (fun h17 => by exfalso; omega) (fun h17 => ?_)
    refine lv_iconst (v := nI 0) hx hb dM_mark_21 (by decide) ?_
    refine lv_goto (tgt := 26) hx hb dM_mark_22 (by decide) ?_
    exact J3 0 rfl
set_option maxHeartbeats 4000000 in
set_option maxRecDepth 100000 in
theorem c_rm_mark_badf {l : Launch} {dC : Nat → ClassId} {dI : Nat → Nat → Nat} {h : Nat} {a : Nat → Nat} {cI cL : ClassId} {cod : Int32} {cof : Int32} {mad : Int32} {nu : Nat → Int32} {co : Nat → Int64} {se : Nat → Int32} {li : Nat → Int32} {le : Nat → Int32} {fi : Nat → Int32} {sc : Nat → Int32} {ti : Nat → Int32} {un : Nat → Int32} {ma : Nat → Int32} {dr : Nat → Int32} {fr : Nat → Int32} {to : Nat → Int32} {en : Nat → Int32} (n b : Nat) (Rr : Nat → rg_R) (P1 P2 : Nat → Int32) (T : Nat → Nat) (U : Nat → List Nat) (f x : Int32) (w : Bool) (hf0 : ¬ f = 4) (hf1 : ¬ f = 5) (hrep : rm_Rep (nI n) (nI b) cof nu co se li le fi sc ti un ma (n, Rr, P1, P2, T, U, b, cof)) : rg_M l yM_mark (Cond.code yM_mark prog_8_method_12_code 5 (some .int) :: rg_tbl) { frames := 3, cells := 0, slots := 0, locals := 69 } (dC, dI) rg_cl [(cI, .int), (cL, .long)] (rm_W h a cI cL cod (nI n) (nI b) cof mad nu co se li le fi sc ti un ma dr fr to en) [.ref h, .int f, .int x, .int (bif w then 1 else 0)] (rg_QI (dC, dI) rg_cl [(cI, .int), (cL, .long)] (S := rm_S) (rm_Po (1, 0, (n, Rr, P1, P2, T, U, b, cof))) (fun u => rm_Wu h a cI cL u)) 0 0 := by
  refine rg_of prog_8_method_12_code 5 (some .int) (by decide) rfl (Nat.le_of_ble_eq_true rfl) ?_
  intro p e R s m args below meth c Q A H locs ls hR hQ hx hb hml hr hts hown hlk hnm hP hK hD hA hS hl
  have hl : lv_has ls 5 [(0, .ref h), (1, .int f), (2, .int x), (3, .int (bif w then 1 else 0))] := hl
  have hts : ∀ w ∈ rg_tbl, w.before args s = true := fun w h => hts w (List.mem_cons_of_mem _ h)
  have hok := hrep.1
  have hn1 : 1 ≤ n := hok.1
  have hn60 : n ≤ 60 := hok.2.1
  have hb4 : b < 4 := hok.2.2.2.2.2.2.2.1
  have hTb : T b < n := (hok.2.2.2.2.2.2.1 b hb4).1
  have hti : ti b = nI (T b) := (hrep.2.2.2.2.2.2 b hb4).1
  have hma : ma b = nI (U b).length := (hrep.2.2.2.2.2.2 b hb4).2.1
  refine lv_aload_n hx hb dM_mark_0 rfl (lv_at hl 0 rfl) ?_
  refine lv_iload_n hx hb dM_mark_1 rfl (lv_at hl 1 rfl) ?_
  refine lv_iconst (v := nI 4) hx hb dM_mark_2 (by decide) ?_
  refine lv_icmp_eq (tgt := 11) hx hb dM_mark_3 (by decide) (fun h1 => absurd h1 hf0) (fun h1 => ?_)
  refine lv_iload_n hx hb dM_mark_6 rfl (lv_at hl 1 rfl) ?_
  refine lv_iconst (v := nI 5) hx hb dM_mark_7 (by decide) ?_
  refine lv_icmp_ne (tgt := 25) hx hb dM_mark_8 (by decide) (fun h2 => ?_) (fun h2 => absurd h2 hf1)
  refine lv_iconst (v := nI 1) hx hb dM_mark_25 (by decide) ?_
  refine va_put (D := (dC, dI)) (ci := 0) (v := .int (nI 1)) (ty := .int) (C := "RevisionGroveModel") (T := TM) (N := 19) hx hb hts inM tyM tyM_ok nmM hown hK hP hD hS 0 rfl rfl 0 (by decide) (hts _ tw_601) (fun _ h9 => h9) rfl (by decide +kernel) rfl rfl (Nat.le_of_ble_eq_true rfl) dM_mark_26 (fun H locs hP hD hS => ?_)
  have hP : va_P (dC, dI) rg_cl (rm_W h a cI cL (nI 1) (nI n) (nI b) cof mad nu co se li le fi sc ti un ma dr fr to en) H := hP
  have hD : va_D A (rm_W h a cI cL (nI 1) (nI n) (nI b) cof mad nu co se li le fi sc ti un ma dr fr to en) := hD
  refine lv_aload_n hx hb dM_mark_29 rfl (lv_at hl 0 rfl) ?_
  refine va_get (D := (dC, dI)) (ci := 0) (C := "RevisionGroveModel") (T := TM) (N := 19) hx hb hts inM hown hK hP 0 rfl rfl 0 (by decide) (hts _ tw_601) (fun _ h9 => h9) rfl dM_mark_30 ?_
  refine rg_ifN_le (tgt := 38) hx hb dM_mark_33 (by decide) (by decide) (fun h3 => by exfalso; omega) (fun h3 => ?_)
  refine lv_iconst (v := nI 0) hx hb dM_mark_36 (by decide) ?_
  rw [hQ]
  exact rg_iret hx hb hr hlk hK hP hD hS dM_mark_37 (nI 1, nI n, nI b, cof, mad, nu, co, se, li, le, fi, sc, ti, un, ma, dr, fr, to, en) rfl (⟨hrep, rfl, rfl⟩)
set_option maxHeartbeats 4000000 in
set_option maxRecDepth 100000 in
theorem c_rm_mark_badx {l : Launch} {dC : Nat → ClassId} {dI : Nat → Nat → Nat} {h : Nat} {a : Nat → Nat} {cI cL : ClassId} {cod : Int32} {cof : Int32} {mad : Int32} {nu : Nat → Int32} {co : Nat → Int64} {se : Nat → Int32} {li : Nat → Int32} {le : Nat → Int32} {fi : Nat → Int32} {sc : Nat → Int32} {ti : Nat → Int32} {un : Nat → Int32} {ma : Nat → Int32} {dr : Nat → Int32} {fr : Nat → Int32} {to : Nat → Int32} {en : Nat → Int32} (n b : Nat) (Rr : Nat → rg_R) (P1 P2 : Nat → Int32) (T : Nat → Nat) (U : Nat → List Nat) (k : Nat) (hk2 : k < 2) (x : Int32) (w : Bool) (hx0 : x < 0 ∨ 31 < x) (hrep : rm_Rep (nI n) (nI b) cof nu co se li le fi sc ti un ma (n, Rr, P1, P2, T, U, b, cof)) : rg_M l yM_mark (Cond.code yM_mark prog_8_method_12_code 5 (some .int) :: rg_tbl) { frames := 3, cells := 0, slots := 0, locals := 69 } (dC, dI) rg_cl [(cI, .int), (cL, .long)] (rm_W h a cI cL cod (nI n) (nI b) cof mad nu co se li le fi sc ti un ma dr fr to en) [.ref h, .int (nI (k + 4)), .int x, .int (bif w then 1 else 0)] (rg_QI (dC, dI) rg_cl [(cI, .int), (cL, .long)] (S := rm_S) (rm_Po (1, 0, (n, Rr, P1, P2, T, U, b, cof))) (fun u => rm_Wu h a cI cL u)) 0 0 := by
  refine rg_of prog_8_method_12_code 5 (some .int) (by decide) rfl (Nat.le_of_ble_eq_true rfl) ?_
  intro p e R s m args below meth c Q A H locs ls hR hQ hx hb hml hr hts hown hlk hnm hP hK hD hA hS hl
  have hl : lv_has ls 5 [(0, .ref h), (1, .int (nI (k + 4))), (2, .int x), (3, .int (bif w then 1 else 0))] := hl
  have hts : ∀ w ∈ rg_tbl, w.before args s = true := fun w h => hts w (List.mem_cons_of_mem _ h)
  have hok := hrep.1
  have hn1 : 1 ≤ n := hok.1
  have hn60 : n ≤ 60 := hok.2.1
  have hb4 : b < 4 := hok.2.2.2.2.2.2.2.1
  have hTb : T b < n := (hok.2.2.2.2.2.2.1 b hb4).1
  have hti : ti b = nI (T b) := (hrep.2.2.2.2.2.2 b hb4).1
  have hma : ma b = nI (U b).length := (hrep.2.2.2.2.2.2 b hb4).2.1
  refine lv_aload_n hx hb dM_mark_0 rfl (lv_at hl 0 rfl) ?_
  refine lv_iload_n hx hb dM_mark_1 rfl (lv_at hl 1 rfl) ?_
  refine lv_iconst (v := nI 4) hx hb dM_mark_2 (by decide) ?_
  refine rg_icmp_eq (tgt := 11) hx hb dM_mark_3 (by decide) (by omega) (by omega) (fun h1 => ?_) (fun h1 => ?_)
  · refine lv_iload_n hx hb dM_mark_11 rfl (lv_at hl 2 rfl) ?_
    refine lv_if_lt (tgt := 25) hx hb dM_mark_12 (by decide) (fun h2 => ?_) (fun h2 => ?_)
    · refine lv_iconst (v := nI 1) hx hb dM_mark_25 (by decide) ?_
      refine va_put (D := (dC, dI)) (ci := 0) (v := .int (nI 1)) (ty := .int) (C := "RevisionGroveModel") (T := TM) (N := 19) hx hb hts inM tyM tyM_ok nmM hown hK hP hD hS 0 rfl rfl 0 (by decide) (hts _ tw_601) (fun _ h9 => h9) rfl (by decide +kernel) rfl rfl (Nat.le_of_ble_eq_true rfl) dM_mark_26 (fun H locs hP hD hS => ?_)
      have hP : va_P (dC, dI) rg_cl (rm_W h a cI cL (nI 1) (nI n) (nI b) cof mad nu co se li le fi sc ti un ma dr fr to en) H := hP
      have hD : va_D A (rm_W h a cI cL (nI 1) (nI n) (nI b) cof mad nu co se li le fi sc ti un ma dr fr to en) := hD
      refine lv_aload_n hx hb dM_mark_29 rfl (lv_at hl 0 rfl) ?_
      refine va_get (D := (dC, dI)) (ci := 0) (C := "RevisionGroveModel") (T := TM) (N := 19) hx hb hts inM hown hK hP 0 rfl rfl 0 (by decide) (hts _ tw_601) (fun _ h9 => h9) rfl dM_mark_30 ?_
      refine rg_ifN_le (tgt := 38) hx hb dM_mark_33 (by decide) (by decide) (fun h3 => by exfalso; omega) (fun h3 => ?_)
      refine lv_iconst (v := nI 0) hx hb dM_mark_36 (by decide) ?_
      rw [hQ]
      exact rg_iret hx hb hr hlk hK hP hD hS dM_mark_37 (nI 1, nI n, nI b, cof, mad, nu, co, se, li, le, fi, sc, ti, un, ma, dr, fr, to, en) rfl (⟨hrep, rfl, rfl⟩)
    · refine lv_iload_n hx hb dM_mark_15 rfl (lv_at hl 2 rfl) ?_
      refine lv_bipush (v := nI 31) hx hb dM_mark_16 (by decide) ?_
      refine lv_icmp_gt (tgt := 25) hx hb dM_mark_18 (by decide) (fun h4 => ?_) (fun h4 => absurd hx0 (fun q => q.elim h2 h4))
      refine lv_iconst (v := nI 1) hx hb dM_mark_25 (by decide) ?_
      refine va_put (D := (dC, dI)) (ci := 0) (v := .int (nI 1)) (ty := .int) (C := "RevisionGroveModel") (T := TM) (N := 19) hx hb hts inM tyM tyM_ok nmM hown hK hP hD hS 0 rfl rfl 0 (by decide) (hts _ tw_601) (fun _ h9 => h9) rfl (by decide +kernel) rfl rfl (Nat.le_of_ble_eq_true rfl) dM_mark_26 (fun H locs hP hD hS => ?_)
      have hP : va_P (dC, dI) rg_cl (rm_W h a cI cL (nI 1) (nI n) (nI b) cof mad nu co se li le fi sc ti un ma dr fr to en) H := hP
      have hD : va_D A (rm_W h a cI cL (nI 1) (nI n) (nI b) cof mad nu co se li le fi sc ti un ma dr fr to en) := hD
      refine lv_aload_n hx hb dM_mark_29 rfl (lv_at hl 0 rfl) ?_
      refine va_get (D := (dC, dI)) (ci := 0) (C := "RevisionGroveModel") (T := TM) (N := 19) hx hb hts inM hown hK hP 0 rfl rfl 0 (by decide) (hts _ tw_601) (fun _ h9 => h9) rfl dM_mark_30 ?_
      refine rg_ifN_le (tgt := 38) hx hb dM_mark_33 (by decide) (by decide) (fun h5 => by exfalso; omega) (fun h5 => ?_)
      refine lv_iconst (v := nI 0) hx hb dM_mark_36 (by decide) ?_
      rw [hQ]
      exact rg_iret hx hb hr hlk hK hP hD hS dM_mark_37 (nI 1, nI n, nI b, cof, mad, nu, co, se, li, le, fi, sc, ti, un, ma, dr, fr, to, en) rfl (⟨hrep, rfl, rfl⟩)
  · refine lv_iload_n hx hb dM_mark_6 rfl (lv_at hl 1 rfl) ?_
    refine lv_iconst (v := nI 5) hx hb dM_mark_7 (by decide) ?_
    refine rg_icmp_ne (tgt := 25) hx hb dM_mark_8 (by decide) (by omega) (by omega) (fun h6 => by exfalso; omega) (fun h6 => ?_)
    refine lv_iload_n hx hb dM_mark_11 rfl (lv_at hl 2 rfl) ?_
    refine lv_if_lt (tgt := 25) hx hb dM_mark_12 (by decide) (fun h7 => ?_) (fun h7 => ?_)
    · refine lv_iconst (v := nI 1) hx hb dM_mark_25 (by decide) ?_
      refine va_put (D := (dC, dI)) (ci := 0) (v := .int (nI 1)) (ty := .int) (C := "RevisionGroveModel") (T := TM) (N := 19) hx hb hts inM tyM tyM_ok nmM hown hK hP hD hS 0 rfl rfl 0 (by decide) (hts _ tw_601) (fun _ h9 => h9) rfl (by decide +kernel) rfl rfl (Nat.le_of_ble_eq_true rfl) dM_mark_26 (fun H locs hP hD hS => ?_)
      have hP : va_P (dC, dI) rg_cl (rm_W h a cI cL (nI 1) (nI n) (nI b) cof mad nu co se li le fi sc ti un ma dr fr to en) H := hP
      have hD : va_D A (rm_W h a cI cL (nI 1) (nI n) (nI b) cof mad nu co se li le fi sc ti un ma dr fr to en) := hD
      refine lv_aload_n hx hb dM_mark_29 rfl (lv_at hl 0 rfl) ?_
      refine va_get (D := (dC, dI)) (ci := 0) (C := "RevisionGroveModel") (T := TM) (N := 19) hx hb hts inM hown hK hP 0 rfl rfl 0 (by decide) (hts _ tw_601) (fun _ h9 => h9) rfl dM_mark_30 ?_
      refine rg_ifN_le (tgt := 38) hx hb dM_mark_33 (by decide) (by decide) (fun h8 => by exfalso; omega) (fun h8 => ?_)
      refine lv_iconst (v := nI 0) hx hb dM_mark_36 (by decide) ?_
      rw [hQ]
      exact rg_iret hx hb hr hlk hK hP hD hS dM_mark_37 (nI 1, nI n, nI b, cof, mad, nu, co, se, li, le, fi, sc, ti, un, ma, dr, fr, to, en) rfl (⟨hrep, rfl, rfl⟩)
    · refine lv_iload_n hx hb dM_mark_15 rfl (lv_at hl 2 rfl) ?_
      refine lv_bipush (v := nI 31) hx hb dM_mark_16 (by decide) ?_
      refine lv_icmp_gt (tgt := 25) hx hb dM_mark_18 (by decide) (fun h9 => ?_) (fun h9 => absurd hx0 (fun q => q.elim h7 h9))
      refine lv_iconst (v := nI 1) hx hb dM_mark_25 (by decide) ?_
      refine va_put (D := (dC, dI)) (ci := 0) (v := .int (nI 1)) (ty := .int) (C := "RevisionGroveModel") (T := TM) (N := 19) hx hb hts inM tyM tyM_ok nmM hown hK hP hD hS 0 rfl rfl 0 (by decide) (hts _ tw_601) (fun _ h9 => h9) rfl (by decide +kernel) rfl rfl (Nat.le_of_ble_eq_true rfl) dM_mark_26 (fun H locs hP hD hS => ?_)
      have hP : va_P (dC, dI) rg_cl (rm_W h a cI cL (nI 1) (nI n) (nI b) cof mad nu co se li le fi sc ti un ma dr fr to en) H := hP
      have hD : va_D A (rm_W h a cI cL (nI 1) (nI n) (nI b) cof mad nu co se li le fi sc ti un ma dr fr to en) := hD
      refine lv_aload_n hx hb dM_mark_29 rfl (lv_at hl 0 rfl) ?_
      refine va_get (D := (dC, dI)) (ci := 0) (C := "RevisionGroveModel") (T := TM) (N := 19) hx hb hts inM hown hK hP 0 rfl rfl 0 (by decide) (hts _ tw_601) (fun _ h9 => h9) rfl dM_mark_30 ?_
      refine rg_ifN_le (tgt := 38) hx hb dM_mark_33 (by decide) (by decide) (fun h10 => by exfalso; omega) (fun h10 => ?_)
      refine lv_iconst (v := nI 0) hx hb dM_mark_36 (by decide) ?_
      rw [hQ]
      exact rg_iret hx hb hr hlk hK hP hD hS dM_mark_37 (nI 1, nI n, nI b, cof, mad, nu, co, se, li, le, fi, sc, ti, un, ma, dr, fr, to, en) rfl (⟨hrep, rfl, rfl⟩)
theorem c_rm_put {l : Launch} {dC : Nat → ClassId} {dI : Nat → Nat → Nat} {h : Nat} {a : Nat → Nat} {cI cL : ClassId} {cod : Int32} {cof : Int32} {mad : Int32} {nu : Nat → Int32} {co : Nat → Int64} {se : Nat → Int32} {li : Nat → Int32} {le : Nat → Int32} {fi : Nat → Int32} {sc : Nat → Int32} {ti : Nat → Int32} {un : Nat → Int32} {ma : Nat → Int32} {dr : Nat → Int32} {fr : Nat → Int32} {to : Nat → Int32} {en : Nat → Int32} (n b : Nat) (Rr : Nat → rg_R) (P1 P2 : Nat → Int32) (T : Nat → Nat) (U : Nat → List Nat) (f v : Int32) (hrep : rm_Rep (nI n) (nI b) cof nu co se li le fi sc ti un ma (n, Rr, P1, P2, T, U, b, cof)) : rg_M l yM_put (Cond.code yM_put prog_8_method_10_code 3 (some .int) :: rg_tbl) { frames := 3, cells := 0, slots := 0, locals := 69 } (dC, dI) rg_cl [(cI, .int), (cL, .long)] (rm_W h a cI cL cod (nI n) (nI b) cof mad nu co se li le fi sc ti un ma dr fr to en) [.ref h, .int f, .int v] (rg_QI (dC, dI) rg_cl [(cI, .int), (cL, .long)] (S := rm_S) (rm_Po (rg_oPut (n, Rr, P1, P2, T, U, b, cof) f v)) (fun u => rm_Wu h a cI cL u)) 0 0 := by
  unfold rg_oPut
  by_cases h0 : f = 0
  · subst h0; rw [if_pos rfl]; exact c_rm_put_ok n b Rr P1 P2 T U 0 (by decide) v hrep
  · rw [if_neg h0]
    by_cases h1 : f = 1
    · subst h1; rw [if_pos rfl]; exact c_rm_put_ok n b Rr P1 P2 T U 1 (by decide) v hrep
    · rw [if_neg h1]; exact c_rm_put_bad n b Rr P1 P2 T U f v h0 h1 hrep
theorem c_rm_add {l : Launch} {dC : Nat → ClassId} {dI : Nat → Nat → Nat} {h : Nat} {a : Nat → Nat} {cI cL : ClassId} {cod : Int32} {cof : Int32} {mad : Int32} {nu : Nat → Int32} {co : Nat → Int64} {se : Nat → Int32} {li : Nat → Int32} {le : Nat → Int32} {fi : Nat → Int32} {sc : Nat → Int32} {ti : Nat → Int32} {un : Nat → Int32} {ma : Nat → Int32} {dr : Nat → Int32} {fr : Nat → Int32} {to : Nat → Int32} {en : Nat → Int32} (n b : Nat) (Rr : Nat → rg_R) (P1 P2 : Nat → Int32) (T : Nat → Nat) (U : Nat → List Nat) (f v : Int32) (hrep : rm_Rep (nI n) (nI b) cof nu co se li le fi sc ti un ma (n, Rr, P1, P2, T, U, b, cof)) : rg_M l yM_add (Cond.code yM_add prog_8_method_11_code 3 (some .int) :: rg_tbl) { frames := 3, cells := 0, slots := 0, locals := 69 } (dC, dI) rg_cl [(cI, .int), (cL, .long)] (rm_W h a cI cL cod (nI n) (nI b) cof mad nu co se li le fi sc ti un ma dr fr to en) [.ref h, .int f, .int v] (rg_QI (dC, dI) rg_cl [(cI, .int), (cL, .long)] (S := rm_S) (rm_Po (rg_oAdd (n, Rr, P1, P2, T, U, b, cof) f v)) (fun u => rm_Wu h a cI cL u)) 0 0 := by
  unfold rg_oAdd
  by_cases h0 : f = 2
  · subst h0; rw [if_pos rfl]; exact c_rm_add_ok n b Rr P1 P2 T U 0 (by decide) v hrep
  · rw [if_neg h0]
    by_cases h1 : f = 3
    · subst h1; rw [if_pos rfl]; exact c_rm_add_ok n b Rr P1 P2 T U 1 (by decide) v hrep
    · rw [if_neg h1]; exact c_rm_add_bad n b Rr P1 P2 T U f v h0 h1 hrep
theorem c_rm_mark {l : Launch} {dC : Nat → ClassId} {dI : Nat → Nat → Nat} {h : Nat} {a : Nat → Nat} {cI cL : ClassId} {cod : Int32} {cof : Int32} {mad : Int32} {nu : Nat → Int32} {co : Nat → Int64} {se : Nat → Int32} {li : Nat → Int32} {le : Nat → Int32} {fi : Nat → Int32} {sc : Nat → Int32} {ti : Nat → Int32} {un : Nat → Int32} {ma : Nat → Int32} {dr : Nat → Int32} {fr : Nat → Int32} {to : Nat → Int32} {en : Nat → Int32} (n b : Nat) (Rr : Nat → rg_R) (P1 P2 : Nat → Int32) (T : Nat → Nat) (U : Nat → List Nat) (f x : Int32) (w : Bool) (hrep : rm_Rep (nI n) (nI b) cof nu co se li le fi sc ti un ma (n, Rr, P1, P2, T, U, b, cof)) : rg_M l yM_mark (Cond.code yM_mark prog_8_method_12_code 5 (some .int) :: rg_tbl) { frames := 3, cells := 0, slots := 0, locals := 69 } (dC, dI) rg_cl [(cI, .int), (cL, .long)] (rm_W h a cI cL cod (nI n) (nI b) cof mad nu co se li le fi sc ti un ma dr fr to en) [.ref h, .int f, .int x, .int (bif w then 1 else 0)] (rg_QI (dC, dI) rg_cl [(cI, .int), (cL, .long)] (S := rm_S) (rm_Po (rg_oMark (n, Rr, P1, P2, T, U, b, cof) f x w)) (fun u => rm_Wu h a cI cL u)) 0 0 := by
  unfold rg_oMark
  by_cases hx0 : x < 0 ∨ 31 < x
  · rw [if_pos hx0]
    by_cases h0 : f = 4
    · subst h0; exact c_rm_mark_badx n b Rr P1 P2 T U 0 (by decide) x w hx0 hrep
    · by_cases h1 : f = 5
      · subst h1; exact c_rm_mark_badx n b Rr P1 P2 T U 1 (by decide) x w hx0 hrep
      · exact c_rm_mark_badf n b Rr P1 P2 T U f x w h0 h1 hrep
  · rw [if_neg hx0]
    obtain ⟨j, hj, rfl⟩ := nI_of2 (M := 31) (n := 31) (by decide) (fun q => hx0 (Or.inl q)) (Int32.not_lt.mp (fun q => hx0 (Or.inr q)))
    rw [nI_clamp (by omega)]
    by_cases h0 : f = 4
    · subst h0; rw [if_pos rfl]; exact c_rm_mark_ok n b Rr P1 P2 T U 0 j (by decide) (by omega) w hrep
    · rw [if_neg h0]
      by_cases h1 : f = 5
      · subst h1; rw [if_pos rfl]; exact c_rm_mark_ok n b Rr P1 P2 T U 1 j (by decide) (by omega) w hrep
      · rw [if_neg h1]; exact c_rm_mark_badf n b Rr P1 P2 T U f (nI j) w h0 h1 hrep
end
section
theorem rg_cpyD2 (g : Nat → Int32) (q k n : Nat) (h : 0 < k) (h2 : k ≤ n) : upd (va_cpy g g (q + k) (q + k + 1) (n - k)) (q + k) (va_cpy g g (q + k) (q + k + 1) (n - k) (q + k - 1)) = va_cpy g g (q + (k - 1)) (q + (k - 1) + 1) (n - (k - 1)) := by
  obtain ⟨j, rfl⟩ : ∃ j, k = j + 1 := ⟨k - 1, by omega⟩
  have e := rg_cpyD g (q + j) (n - (j + 1))
  rw [show n - (j + 1) + 1 = n - j by omega] at e
  exact e
theorem rg_cpyU (g : Nat → Int32) (q x k : Nat) (h : x ≤ k) : upd (va_cpy g g (q + x + 1) (q + x) (k - x)) (q + k) (va_cpy g g (q + x + 1) (q + x) (k - x) (q + k + 1)) = va_cpy g g (q + x + 1) (q + x) (k + 1 - x) := by
  obtain ⟨j, rfl⟩ : ∃ j, k = x + j := ⟨k - x, by omega⟩
  have e := rg_cpyI g (q + x + 1) (q + x) j (by omega)
  rw [show x + j - x = j by omega, show x + j + 1 - x = j + 1 by omega, show q + (x + j) = q + x + j by omega, show q + x + j + 1 = q + x + 1 + j by omega]
  exact e
theorem rg_ins_cells {f : Nat → Int32} {q x i : Nat} {l : List Int32} {v : Int32} (hc : ∀ j, j < l.length → f (q + j) = l.getD j 0) (hx : x ≤ l.length) (hi : i < l.length + 1) : upd (va_cpy f f (q + x) (q + x + 1) (l.length - x)) (q + x) v (q + i) = (rg_insL l x v).getD i 0 := by
  rw [rg_insL_get hx]
  by_cases h1 : i < x
  · rw [if_pos h1, pk_un (by omega), pk_cpy_out (by omega)]
    exact hc i (by omega)
  · rw [if_neg h1]
    by_cases h2 : i = x
    · subst h2; rw [if_pos rfl, pk_us]
    · rw [if_neg h2, pk_un (by omega), rg_cin (i - x - 1) (by omega) (by omega), show q + x + (i - x - 1) = q + (i - 1) by omega]
      exact hc (i - 1) (by omega)
theorem rg_rem_cells {f : Nat → Int32} {q x i : Nat} {l : List Int32} (hc : ∀ j, j < l.length → f (q + j) = l.getD j 0) (hx : x < l.length) (hi : i < l.length - 1) : va_cpy f f (q + x + 1) (q + x) (l.length - 1 - x) (q + i) = (rg_remL l x).getD i 0 := by
  rw [rg_remL_get]
  by_cases h1 : i < x
  · rw [if_pos h1, pk_cpy_out (by omega)]
    exact hc i (by omega)
  · rw [if_neg h1, rg_cin (i - x) (by omega) (by omega), show q + x + 1 + (i - x) = q + (i + 1) by omega]
    exact hc (i + 1) (by omega)
end
section
set_option maxHeartbeats 4000000 in
set_option maxRecDepth 100000 in
theorem c_rm_insert_badf {l : Launch} {dC : Nat → ClassId} {dI : Nat → Nat → Nat} {h : Nat} {a : Nat → Nat} {cI cL : ClassId} {cod : Int32} {cof : Int32} {mad : Int32} {nu : Nat → Int32} {co : Nat → Int64} {se : Nat → Int32} {li : Nat → Int32} {le : Nat → Int32} {fi : Nat → Int32} {sc : Nat → Int32} {ti : Nat → Int32} {un : Nat → Int32} {ma : Nat → Int32} {dr : Nat → Int32} {fr : Nat → Int32} {to : Nat → Int32} {en : Nat → Int32} (n b : Nat) (Rr : Nat → rg_R) (P1 P2 : Nat → Int32) (T : Nat → Nat) (U : Nat → List Nat) (f x v : Int32) (hf0 : ¬ f = 6) (hf1 : ¬ f = 7) (hrep : rm_Rep (nI n) (nI b) cof nu co se li le fi sc ti un ma (n, Rr, P1, P2, T, U, b, cof)) : rg_M l yM_insert (Cond.code yM_insert prog_8_method_13_code 7 (some .int) :: rg_tbl) { frames := 3, cells := 0, slots := 0, locals := 69 } (dC, dI) rg_cl [(cI, .int), (cL, .long)] (rm_W h a cI cL cod (nI n) (nI b) cof mad nu co se li le fi sc ti un ma dr fr to en) [.ref h, .int f, .int x, .int v] (rg_QI (dC, dI) rg_cl [(cI, .int), (cL, .long)] (S := rm_S) (rm_Po (1, 0, (n, Rr, P1, P2, T, U, b, cof))) (fun u => rm_Wu h a cI cL u)) 0 0 := by
  refine rg_of prog_8_method_13_code 7 (some .int) (by decide) rfl (Nat.le_of_ble_eq_true rfl) ?_
  intro p e R s m args below meth c Q A H locs ls hR hQ hx hb hml hr hts hown hlk hnm hP hK hD hA hS hl
  have hl : lv_has ls 7 [(0, .ref h), (1, .int f), (2, .int x), (3, .int v)] := hl
  have hts : ∀ w ∈ rg_tbl, w.before args s = true := fun w h => hts w (List.mem_cons_of_mem _ h)
  have hok := hrep.1
  have hn1 : 1 ≤ n := hok.1
  have hn60 : n ≤ 60 := hok.2.1
  have hb4 : b < 4 := hok.2.2.2.2.2.2.2.1
  have hTb : T b < n := (hok.2.2.2.2.2.2.1 b hb4).1
  have hti : ti b = nI (T b) := (hrep.2.2.2.2.2.2 b hb4).1
  have hma : ma b = nI (U b).length := (hrep.2.2.2.2.2.2 b hb4).2.1
  refine lv_aload_n hx hb dM_insert_0 rfl (lv_at hl 0 rfl) ?_
  refine lv_iload_n hx hb dM_insert_1 rfl (lv_at hl 1 rfl) ?_
  refine lv_bipush (v := nI 6) hx hb dM_insert_2 (by decide) ?_
  refine lv_icmp_eq (tgt := 13) hx hb dM_insert_4 (by decide) (fun h1 => absurd h1 hf0) (fun h1 => ?_)
  refine lv_iload_n hx hb dM_insert_7 rfl (lv_at hl 1 rfl) ?_
  refine lv_bipush (v := nI 7) hx hb dM_insert_8 (by decide) ?_
  refine lv_icmp_ne (tgt := 17) hx hb dM_insert_10 (by decide) (fun h2 => ?_) (fun h2 => absurd h2 hf1)
  refine lv_iconst (v := nI 1) hx hb dM_insert_17 (by decide) ?_
  refine va_put (D := (dC, dI)) (ci := 0) (v := .int (nI 1)) (ty := .int) (C := "RevisionGroveModel") (T := TM) (N := 19) hx hb hts inM tyM tyM_ok nmM hown hK hP hD hS 0 rfl rfl 0 (by decide) (hts _ tw_601) (fun _ h9 => h9) rfl (by decide +kernel) rfl rfl (Nat.le_of_ble_eq_true rfl) dM_insert_18 (fun H locs hP hD hS => ?_)
  have hP : va_P (dC, dI) rg_cl (rm_W h a cI cL (nI 1) (nI n) (nI b) cof mad nu co se li le fi sc ti un ma dr fr to en) H := hP
  have hD : va_D A (rm_W h a cI cL (nI 1) (nI n) (nI b) cof mad nu co se li le fi sc ti un ma dr fr to en) := hD
  refine lv_aload_n hx hb dM_insert_21 rfl (lv_at hl 0 rfl) ?_
  refine va_get (D := (dC, dI)) (ci := 0) (C := "RevisionGroveModel") (T := TM) (N := 19) hx hb hts inM hown hK hP 0 rfl rfl 0 (by decide) (hts _ tw_601) (fun _ h9 => h9) rfl dM_insert_22 ?_
  refine rg_ifN_le (tgt := 30) hx hb dM_insert_25 (by decide) (by decide) (fun h3 => by exfalso; omega) (fun h3 => ?_)
  refine lv_iconst (v := nI 0) hx hb dM_insert_28 (by decide) ?_
  rw [hQ]
  exact rg_iret hx hb hr hlk hK hP hD hS dM_insert_29 (nI 1, nI n, nI b, cof, mad, nu, co, se, li, le, fi, sc, ti, un, ma, dr, fr, to, en) rfl (⟨hrep, rfl, rfl⟩)
set_option maxHeartbeats 4000000 in
set_option maxRecDepth 100000 in
theorem c_rm_insert_badx {l : Launch} {dC : Nat → ClassId} {dI : Nat → Nat → Nat} {h : Nat} {a : Nat → Nat} {cI cL : ClassId} {cod : Int32} {cof : Int32} {mad : Int32} {nu : Nat → Int32} {co : Nat → Int64} {se : Nat → Int32} {li : Nat → Int32} {le : Nat → Int32} {fi : Nat → Int32} {sc : Nat → Int32} {ti : Nat → Int32} {un : Nat → Int32} {ma : Nat → Int32} {dr : Nat → Int32} {fr : Nat → Int32} {to : Nat → Int32} {en : Nat → Int32} (n b : Nat) (Rr : Nat → rg_R) (P1 P2 : Nat → Int32) (T : Nat → Nat) (U : Nat → List Nat) (k : Nat) (hk2 : k < 2) (l9 : List Int32) (hl9 : (Rr (T b)).2.2.2 k = l9) (x v : Int32) (hx0 : x < 0 ∨ nI l9.length < x) (hrep : rm_Rep (nI n) (nI b) cof nu co se li le fi sc ti un ma (n, Rr, P1, P2, T, U, b, cof)) : rg_M l yM_insert (Cond.code yM_insert prog_8_method_13_code 7 (some .int) :: rg_tbl) { frames := 3, cells := 0, slots := 0, locals := 69 } (dC, dI) rg_cl [(cI, .int), (cL, .long)] (rm_W h a cI cL cod (nI n) (nI b) cof mad nu co se li le fi sc ti un ma dr fr to en) [.ref h, .int (nI (k + 6)), .int x, .int v] (rg_QI (dC, dI) rg_cl [(cI, .int), (cL, .long)] (S := rm_S) (rm_Po (2, 0, (n, Rr, P1, P2, T, U, b, cof))) (fun u => rm_Wu h a cI cL u)) 0 0 := by
  refine rg_of prog_8_method_13_code 7 (some .int) (by decide) rfl (Nat.le_of_ble_eq_true rfl) ?_
  intro p e R s m args below meth c Q A H locs ls hR hQ hx hb hml hr hts hown hlk hnm hP hK hD hA hS hl
  have hl : lv_has ls 7 [(0, .ref h), (1, .int (nI (k + 6))), (2, .int x), (3, .int v)] := hl
  have hts : ∀ w ∈ rg_tbl, w.before args s = true := fun w h => hts w (List.mem_cons_of_mem _ h)
  have hok := hrep.1
  have hn1 : 1 ≤ n := hok.1
  have hn60 : n ≤ 60 := hok.2.1
  have hb4 : b < 4 := hok.2.2.2.2.2.2.2.1
  have hTb : T b < n := (hok.2.2.2.2.2.2.1 b hb4).1
  have hti : ti b = nI (T b) := (hrep.2.2.2.2.2.2 b hb4).1
  have hma : ma b = nI (U b).length := (hrep.2.2.2.2.2.2 b hb4).2.1
  refine lv_aload_n hx hb dM_insert_0 rfl (lv_at hl 0 rfl) ?_
  refine lv_iload_n hx hb dM_insert_1 rfl (lv_at hl 1 rfl) ?_
  refine lv_bipush (v := nI 6) hx hb dM_insert_2 (by decide) ?_
  have J4 : ∀ v9 : Nat, v9 = 0 → W p l e R s m args below meth c H locs 0 0 Q (F0 m 18 ls [.int (nI v9), .ref h]) := by
    intro v9 hv9
    subst hv9
    refine va_put (D := (dC, dI)) (ci := 0) (v := .int (nI 0)) (ty := .int) (C := "RevisionGroveModel") (T := TM) (N := 19) hx hb hts inM tyM tyM_ok nmM hown hK hP hD hS 0 rfl rfl 0 (by decide) (hts _ tw_601) (fun _ h9 => h9) rfl (by decide +kernel) rfl rfl (Nat.le_of_ble_eq_true rfl) dM_insert_18 (fun H locs hP hD hS => ?_)
    have hP : va_P (dC, dI) rg_cl (rm_W h a cI cL (nI 0) (nI n) (nI b) cof mad nu co se li le fi sc ti un ma dr fr to en) H := hP
    have hD : va_D A (rm_W h a cI cL (nI 0) (nI n) (nI b) cof mad nu co se li le fi sc ti un ma dr fr to en) := hD
    refine lv_aload_n hx hb dM_insert_21 rfl (lv_at hl 0 rfl) ?_
    refine va_get (D := (dC, dI)) (ci := 0) (C := "RevisionGroveModel") (T := TM) (N := 19) hx hb hts inM hown hK hP 0 rfl rfl 0 (by decide) (hts _ tw_601) (fun _ h9 => h9) rfl dM_insert_22 ?_
    refine rg_ifN_le (tgt := 30) hx hb dM_insert_25 (by decide) (by decide) (fun h1 => ?_) (fun h1 => by exfalso; omega)
    refine lv_aload_n hx hb dM_insert_30 rfl (lv_at hl 0 rfl) ?_
    refine lv_aload_n hx hb dM_insert_31 rfl (lv_at hl 0 rfl) ?_
    refine rg_calli hD hS hA (va_runV (As := []) (rest := [.ref h]) ⟨hx, hb, hml, hown, hts⟩ (c_rm_here b (by omega) _) (cwV 0 hts (rg_gV tw_667 tw_669 ts_M_here tw_5 tw_670) rfl rfl rfl (by decide +kernel) ⟨by rw [hR]; exact Nat.le_of_ble_eq_true rfl, by rw [hR]; exact Nat.le_of_ble_eq_true rfl⟩) (rg_preV rfl hK hP hD (ci := 0) (q0 := 0) rfl rfl) rfl rfl hl.1 rfl (lv_room (Nat.le_of_ble_eq_true rfl)) dM_insert_32 ⟨Nat.zero_le _, Nat.zero_le _⟩) (fun r2 u3 H locs hw4 hP hD hS => ?_)
    subst hw4
    have hP : va_P (dC, dI) rg_cl (rm_W h a cI cL (nI 0) (nI n) (nI b) cof mad nu co se li le fi sc ti un ma dr fr to en) H := hP
    have hD : va_D A (rm_W h a cI cL (nI 0) (nI n) (nI b) cof mad nu co se li le fi sc ti un ma dr fr to en) := hD
    refine rg_top (show (.int (ti b) : Value) = .int (nI (T b)) by rw [hti]) ?_
    refine lv_aload_n hx hb dM_insert_35 rfl (lv_at hl 0 rfl) ?_
    refine va_get (D := (dC, dI)) (ci := 0) (C := "RevisionGroveModel") (T := TM) (N := 19) hx hb hts inM hown hK hP 0 rfl rfl 1 (by decide) (hts _ tw_602) (fun _ h9 => h9) rfl dM_insert_36 ?_
    refine rg_callv hD hS hA (va_runV (As := [.int (nI (T b)), .int (nI n)]) (rest := []) ⟨hx, hb, hml, hown, hts⟩ (c_rm_copy (T b) n (by omega) (by omega) _) (cwV 2 hts (rg_gV tw_671 tw_673 ts_M_copy tw_5 tw_674) rfl rfl rfl (by decide +kernel) ⟨by rw [hR]; exact Nat.le_of_ble_eq_true rfl, by rw [hR]; exact Nat.le_of_ble_eq_true rfl⟩) (rg_preV rfl hK hP hD (ci := 0) (q0 := 0) rfl rfl) rfl rfl hl.1 rfl (lv_room (Nat.le_of_ble_eq_true rfl)) dM_insert_39 ⟨Nat.zero_le _, Nat.zero_le _⟩) (fun u6 H locs hw7 hP hD hS => ?_)
    have hP : va_P (dC, dI) rg_cl (rm_W h a cI cL (nI 0) (nI n) (nI b) cof mad (va_cpy nu nu (2 * (T b)) (2 * n) 2) (va_cpy co co (2 * (T b)) (2 * n) 2) (va_cpy se se (2 * (T b)) (2 * n) 2) (va_cpy li li (16 * (T b)) (16 * n) 16) (va_cpy le le (2 * (T b)) (2 * n) 2) (upd fi n (fi (T b))) (upd sc n (sc (T b))) ti un ma dr fr to en) H := hP
    have hD : va_D A (rm_W h a cI cL (nI 0) (nI n) (nI b) cof mad (va_cpy nu nu (2 * (T b)) (2 * n) 2) (va_cpy co co (2 * (T b)) (2 * n) 2) (va_cpy se se (2 * (T b)) (2 * n) 2) (va_cpy li li (16 * (T b)) (16 * n) 16) (va_cpy le le (2 * (T b)) (2 * n) 2) (upd fi n (fi (T b))) (upd sc n (sc (T b))) ti un ma dr fr to en) := hD
    have hX0 : rg_MR (va_cpy nu nu (2 * (T b)) (2 * n) 2) (va_cpy co co (2 * (T b)) (2 * n) 2) (va_cpy se se (2 * (T b)) (2 * n) 2) (va_cpy le le (2 * (T b)) (2 * n) 2) (va_cpy li li (16 * (T b)) (16 * n) 16) n (Rr (T b)) := rg_MR_copy (hrep.2.2.2.2.1 (T b) hTb)
    have q5 := (hX0 k (by omega)).2.2.2.2.1
    have q4 := (hX0 k (by omega)).2.2.2.1
    have q6 := (hX0 k (by omega)).2.2.2.2.2
    rw [hl9] at q4 q5 q6
    refine lv_aload_n hx hb dM_insert_42 rfl (lv_at hl 0 rfl) ?_
    refine va_get (D := (dC, dI)) (ci := 0) (C := "RevisionGroveModel") (T := TM) (N := 19) hx hb hts inM hown hK hP 0 rfl rfl 6 (by decide) (hts _ tw_607) (fun _ h9 => h9) rfl dM_insert_43 ?_
    refine lv_iconst (v := nI 2) hx hb dM_insert_46 (by decide) ?_
    refine lv_aload_n hx hb dM_insert_47 rfl (lv_at hl 0 rfl) ?_
    refine va_get (D := (dC, dI)) (ci := 0) (C := "RevisionGroveModel") (T := TM) (N := 19) hx hb hts inM hown hK hP 0 rfl rfl 1 (by decide) (hts _ tw_602) (fun _ h9 => h9) rfl dM_insert_48 ?_
    refine rg_imul hx hb dM_insert_51 ?_
    refine lv_iload_n hx hb dM_insert_52 rfl (lv_at hl 1 rfl) ?_
    refine rg_iadd hx hb dM_insert_53 ?_
    refine lv_bipush (v := nI 6) hx hb dM_insert_54 (by decide) ?_
    refine rg_isub hx hb dM_insert_56 (by omega) ?_
    refine rg_top (show (.int (nI (2 * n + (k + 6) - 6)) : Value) = .int (nI (2 * n + k)) by rw [show 2 * n + (k + 6) - 6 = 2 * n + k by omega]) ?_
    refine rg_iald hx hb hK hP 5 0 rfl rfl (by decide) (by omega) dM_insert_57 ?_
    refine rg_top (show (.int ((va_cpy le le (2 * (T b)) (2 * n) 2) (2 * n + k)) : Value) = .int (nI l9.length) by rw [q5]) ?_
    refine lv_istore (lv' := [(4, .int (nI l9.length)), (0, .ref h), (1, .int (nI (k + 6))), (2, .int x), (3, .int v)]) hx hb dM_insert_58 hl (by decide) rfl (fun ls hl => ?_)
    refine lv_aload_n hx hb dM_insert_60 rfl (lv_at hl 1 rfl) ?_
    refine lv_iload_n hx hb dM_insert_61 rfl (lv_at hl 3 rfl) ?_
    refine lv_if_lt (tgt := 71) hx hb dM_insert_62 (by decide) (fun h8 => ?_) (fun h8 => ?_)
    · refine lv_iconst (v := nI 2) hx hb dM_insert_71 (by decide) ?_
      refine lv_goto (tgt := 96) hx hb dM_insert_72 (by decide) ?_
      refine va_put (D := (dC, dI)) (ci := 0) (v := .int (nI 2)) (ty := .int) (C := "RevisionGroveModel") (T := TM) (N := 19) hx hb hts inM tyM tyM_ok nmM hown hK hP hD hS 0 rfl rfl 0 (by decide) (hts _ tw_601) (fun _ h9 => h9) rfl (by decide +kernel) rfl rfl (Nat.le_of_ble_eq_true rfl) dM_insert_96 (fun H locs hP hD hS => ?_)
      have hP : va_P (dC, dI) rg_cl (rm_W h a cI cL (nI 2) (nI n) (nI b) cof mad (va_cpy nu nu (2 * (T b)) (2 * n) 2) (va_cpy co co (2 * (T b)) (2 * n) 2) (va_cpy se se (2 * (T b)) (2 * n) 2) (va_cpy li li (16 * (T b)) (16 * n) 16) (va_cpy le le (2 * (T b)) (2 * n) 2) (upd fi n (fi (T b))) (upd sc n (sc (T b))) ti un ma dr fr to en) H := hP
      have hD : va_D A (rm_W h a cI cL (nI 2) (nI n) (nI b) cof mad (va_cpy nu nu (2 * (T b)) (2 * n) 2) (va_cpy co co (2 * (T b)) (2 * n) 2) (va_cpy se se (2 * (T b)) (2 * n) 2) (va_cpy li li (16 * (T b)) (16 * n) 16) (va_cpy le le (2 * (T b)) (2 * n) 2) (upd fi n (fi (T b))) (upd sc n (sc (T b))) ti un ma dr fr to en) := hD
      refine lv_aload_n hx hb dM_insert_99 rfl (lv_at hl 1 rfl) ?_
      refine va_get (D := (dC, dI)) (ci := 0) (C := "RevisionGroveModel") (T := TM) (N := 19) hx hb hts inM hown hK hP 0 rfl rfl 0 (by decide) (hts _ tw_601) (fun _ h9 => h9) rfl dM_insert_100 ?_
      refine rg_ifN_le (tgt := 108) hx hb dM_insert_103 (by decide) (by decide) (fun h9 => by exfalso; omega) (fun h9 => ?_)
      refine lv_iconst (v := nI 0) hx hb dM_insert_106 (by decide) ?_
      rw [hQ]
      exact rg_iret hx hb hr hlk hK hP hD hS dM_insert_107 (nI 2, nI n, nI b, cof, mad, va_cpy nu nu (2 * (T b)) (2 * n) 2, va_cpy co co (2 * (T b)) (2 * n) 2, va_cpy se se (2 * (T b)) (2 * n) 2, va_cpy li li (16 * (T b)) (16 * n) 16, va_cpy le le (2 * (T b)) (2 * n) 2, upd fi n (fi (T b)), upd sc n (sc (T b)), ti, un, ma, dr, fr, to, en) rfl (⟨rm_Rep_junk hrep (fun j hj => by have hj : j < 2 * n := hj; rw [pk_cpy_out (by omega)]) (fun j hj => by have hj : j < 2 * n := hj; rw [pk_cpy_out (by omega)]) (fun j hj => by have hj : j < 2 * n := hj; rw [pk_cpy_out (by omega)]) (fun j hj => by have hj : j < 2 * n := hj; rw [pk_cpy_out (by omega)]) (fun j hj => by have hj : j < 16 * n := hj; rw [pk_cpy_out (by omega)]) (fun j hj => by have hj : j < n := hj; rw [pk_un (by omega)]) (fun j hj => by have hj : j < n := hj; rw [pk_un (by omega)]), rfl, rfl⟩)
    · refine lv_iload_n hx hb dM_insert_65 rfl (lv_at hl 3 rfl) ?_
      refine lv_iload hx hb dM_insert_66 (lv_at hl 0 rfl) ?_
      refine lv_icmp_le (tgt := 75) hx hb dM_insert_68 (by decide) (fun h10 => absurd hx0 (fun q => q.elim h8 (fun q => Int32.not_lt.mpr h10 q))) (fun h10 => ?_)
      refine lv_iconst (v := nI 2) hx hb dM_insert_71 (by decide) ?_
      refine lv_goto (tgt := 96) hx hb dM_insert_72 (by decide) ?_
      refine va_put (D := (dC, dI)) (ci := 0) (v := .int (nI 2)) (ty := .int) (C := "RevisionGroveModel") (T := TM) (N := 19) hx hb hts inM tyM tyM_ok nmM hown hK hP hD hS 0 rfl rfl 0 (by decide) (hts _ tw_601) (fun _ h9 => h9) rfl (by decide +kernel) rfl rfl (Nat.le_of_ble_eq_true rfl) dM_insert_96 (fun H locs hP hD hS => ?_)
      have hP : va_P (dC, dI) rg_cl (rm_W h a cI cL (nI 2) (nI n) (nI b) cof mad (va_cpy nu nu (2 * (T b)) (2 * n) 2) (va_cpy co co (2 * (T b)) (2 * n) 2) (va_cpy se se (2 * (T b)) (2 * n) 2) (va_cpy li li (16 * (T b)) (16 * n) 16) (va_cpy le le (2 * (T b)) (2 * n) 2) (upd fi n (fi (T b))) (upd sc n (sc (T b))) ti un ma dr fr to en) H := hP
      have hD : va_D A (rm_W h a cI cL (nI 2) (nI n) (nI b) cof mad (va_cpy nu nu (2 * (T b)) (2 * n) 2) (va_cpy co co (2 * (T b)) (2 * n) 2) (va_cpy se se (2 * (T b)) (2 * n) 2) (va_cpy li li (16 * (T b)) (16 * n) 16) (va_cpy le le (2 * (T b)) (2 * n) 2) (upd fi n (fi (T b))) (upd sc n (sc (T b))) ti un ma dr fr to en) := hD
      refine lv_aload_n hx hb dM_insert_99 rfl (lv_at hl 1 rfl) ?_
      refine va_get (D := (dC, dI)) (ci := 0) (C := "RevisionGroveModel") (T := TM) (N := 19) hx hb hts inM hown hK hP 0 rfl rfl 0 (by decide) (hts _ tw_601) (fun _ h9 => h9) rfl dM_insert_100 ?_
      refine rg_ifN_le (tgt := 108) hx hb dM_insert_103 (by decide) (by decide) (fun h11 => by exfalso; omega) (fun h11 => ?_)
      refine lv_iconst (v := nI 0) hx hb dM_insert_106 (by decide) ?_
      rw [hQ]
      exact rg_iret hx hb hr hlk hK hP hD hS dM_insert_107 (nI 2, nI n, nI b, cof, mad, va_cpy nu nu (2 * (T b)) (2 * n) 2, va_cpy co co (2 * (T b)) (2 * n) 2, va_cpy se se (2 * (T b)) (2 * n) 2, va_cpy li li (16 * (T b)) (16 * n) 16, va_cpy le le (2 * (T b)) (2 * n) 2, upd fi n (fi (T b)), upd sc n (sc (T b)), ti, un, ma, dr, fr, to, en) rfl (⟨rm_Rep_junk hrep (fun j hj => by have hj : j < 2 * n := hj; rw [pk_cpy_out (by omega)]) (fun j hj => by have hj : j < 2 * n := hj; rw [pk_cpy_out (by omega)]) (fun j hj => by have hj : j < 2 * n := hj; rw [pk_cpy_out (by omega)]) (fun j hj => by have hj : j < 2 * n := hj; rw [pk_cpy_out (by omega)]) (fun j hj => by have hj : j < 16 * n := hj; rw [pk_cpy_out (by omega)]) (fun j hj => by have hj : j < n := hj; rw [pk_un (by omega)]) (fun j hj => by have hj : j < n := hj; rw [pk_un (by omega)]), rfl, rfl⟩)
  refine rg_icmp_eq (tgt := 13) hx hb dM_insert_4 (by decide) (by omega) (by omega) (fun h12 => ?_) (fun h12 => ?_)
  · refine lv_iconst (v := nI 0) hx hb dM_insert_13 (by decide) ?_
    refine lv_goto (tgt := 18) hx hb dM_insert_14 (by decide) ?_
    exact J4 0 rfl
  · refine lv_iload_n hx hb dM_insert_7 rfl (lv_at hl 1 rfl) ?_
    refine lv_bipush (v := nI 7) hx hb dM_insert_8 (by decide) ?_
    refine rg_icmp_ne (tgt := 17) hx hb dM_insert_10 (by decide) (by omega) (by omega) (fun h13 => by exfalso; omega) (fun h13 => ?_)
    refine lv_iconst (v := nI 0) hx hb dM_insert_13 (by decide) ?_
    refine lv_goto (tgt := 18) hx hb dM_insert_14 (by decide) ?_
    exact J4 0 rfl
set_option maxHeartbeats 4000000 in
set_option maxRecDepth 100000 in
theorem c_rm_insert_full {l : Launch} {dC : Nat → ClassId} {dI : Nat → Nat → Nat} {h : Nat} {a : Nat → Nat} {cI cL : ClassId} {cod : Int32} {cof : Int32} {mad : Int32} {nu : Nat → Int32} {co : Nat → Int64} {se : Nat → Int32} {li : Nat → Int32} {le : Nat → Int32} {fi : Nat → Int32} {sc : Nat → Int32} {ti : Nat → Int32} {un : Nat → Int32} {ma : Nat → Int32} {dr : Nat → Int32} {fr : Nat → Int32} {to : Nat → Int32} {en : Nat → Int32} (n b : Nat) (Rr : Nat → rg_R) (P1 P2 : Nat → Int32) (T : Nat → Nat) (U : Nat → List Nat) (k : Nat) (hk2 : k < 2) (l9 : List Int32) (hl9 : (Rr (T b)).2.2.2 k = l9) (x : Nat) (v : Int32) (hxl : x ≤ l9.length) (hfull : l9.length = 8 ∨ n = 60) (hrep : rm_Rep (nI n) (nI b) cof nu co se li le fi sc ti un ma (n, Rr, P1, P2, T, U, b, cof)) : rg_M l yM_insert (Cond.code yM_insert prog_8_method_13_code 7 (some .int) :: rg_tbl) { frames := 3, cells := 0, slots := 0, locals := 69 } (dC, dI) rg_cl [(cI, .int), (cL, .long)] (rm_W h a cI cL cod (nI n) (nI b) cof mad nu co se li le fi sc ti un ma dr fr to en) [.ref h, .int (nI (k + 6)), .int (nI x), .int v] (rg_QI (dC, dI) rg_cl [(cI, .int), (cL, .long)] (S := rm_S) (rm_Po (3, 0, (n, Rr, P1, P2, T, U, b, cof))) (fun u => rm_Wu h a cI cL u)) 0 0 := by
  refine rg_of prog_8_method_13_code 7 (some .int) (by decide) rfl (Nat.le_of_ble_eq_true rfl) ?_
  intro p e R s m args below meth c Q A H locs ls hR hQ hx hb hml hr hts hown hlk hnm hP hK hD hA hS hl
  have hl : lv_has ls 7 [(0, .ref h), (1, .int (nI (k + 6))), (2, .int (nI x)), (3, .int v)] := hl
  have hts : ∀ w ∈ rg_tbl, w.before args s = true := fun w h => hts w (List.mem_cons_of_mem _ h)
  have hok := hrep.1
  have hn1 : 1 ≤ n := hok.1
  have hn60 : n ≤ 60 := hok.2.1
  have hb4 : b < 4 := hok.2.2.2.2.2.2.2.1
  have hTb : T b < n := (hok.2.2.2.2.2.2.1 b hb4).1
  have hti : ti b = nI (T b) := (hrep.2.2.2.2.2.2 b hb4).1
  have hma : ma b = nI (U b).length := (hrep.2.2.2.2.2.2 b hb4).2.1
  refine lv_aload_n hx hb dM_insert_0 rfl (lv_at hl 0 rfl) ?_
  refine lv_iload_n hx hb dM_insert_1 rfl (lv_at hl 1 rfl) ?_
  refine lv_bipush (v := nI 6) hx hb dM_insert_2 (by decide) ?_
  have J4 : ∀ v9 : Nat, v9 = 0 → W p l e R s m args below meth c H locs 0 0 Q (F0 m 18 ls [.int (nI v9), .ref h]) := by
    intro v9 hv9
    subst hv9
    refine va_put (D := (dC, dI)) (ci := 0) (v := .int (nI 0)) (ty := .int) (C := "RevisionGroveModel") (T := TM) (N := 19) hx hb hts inM tyM tyM_ok nmM hown hK hP hD hS 0 rfl rfl 0 (by decide) (hts _ tw_601) (fun _ h9 => h9) rfl (by decide +kernel) rfl rfl (Nat.le_of_ble_eq_true rfl) dM_insert_18 (fun H locs hP hD hS => ?_)
    have hP : va_P (dC, dI) rg_cl (rm_W h a cI cL (nI 0) (nI n) (nI b) cof mad nu co se li le fi sc ti un ma dr fr to en) H := hP
    have hD : va_D A (rm_W h a cI cL (nI 0) (nI n) (nI b) cof mad nu co se li le fi sc ti un ma dr fr to en) := hD
    refine lv_aload_n hx hb dM_insert_21 rfl (lv_at hl 0 rfl) ?_
    refine va_get (D := (dC, dI)) (ci := 0) (C := "RevisionGroveModel") (T := TM) (N := 19) hx hb hts inM hown hK hP 0 rfl rfl 0 (by decide) (hts _ tw_601) (fun _ h9 => h9) rfl dM_insert_22 ?_
    refine rg_ifN_le (tgt := 30) hx hb dM_insert_25 (by decide) (by decide) (fun h1 => ?_) (fun h1 => by exfalso; omega)
    refine lv_aload_n hx hb dM_insert_30 rfl (lv_at hl 0 rfl) ?_
    refine lv_aload_n hx hb dM_insert_31 rfl (lv_at hl 0 rfl) ?_
    refine rg_calli hD hS hA (va_runV (As := []) (rest := [.ref h]) ⟨hx, hb, hml, hown, hts⟩ (c_rm_here b (by omega) _) (cwV 0 hts (rg_gV tw_667 tw_669 ts_M_here tw_5 tw_670) rfl rfl rfl (by decide +kernel) ⟨by rw [hR]; exact Nat.le_of_ble_eq_true rfl, by rw [hR]; exact Nat.le_of_ble_eq_true rfl⟩) (rg_preV rfl hK hP hD (ci := 0) (q0 := 0) rfl rfl) rfl rfl hl.1 rfl (lv_room (Nat.le_of_ble_eq_true rfl)) dM_insert_32 ⟨Nat.zero_le _, Nat.zero_le _⟩) (fun r2 u3 H locs hw4 hP hD hS => ?_)
    subst hw4
    have hP : va_P (dC, dI) rg_cl (rm_W h a cI cL (nI 0) (nI n) (nI b) cof mad nu co se li le fi sc ti un ma dr fr to en) H := hP
    have hD : va_D A (rm_W h a cI cL (nI 0) (nI n) (nI b) cof mad nu co se li le fi sc ti un ma dr fr to en) := hD
    refine rg_top (show (.int (ti b) : Value) = .int (nI (T b)) by rw [hti]) ?_
    refine lv_aload_n hx hb dM_insert_35 rfl (lv_at hl 0 rfl) ?_
    refine va_get (D := (dC, dI)) (ci := 0) (C := "RevisionGroveModel") (T := TM) (N := 19) hx hb hts inM hown hK hP 0 rfl rfl 1 (by decide) (hts _ tw_602) (fun _ h9 => h9) rfl dM_insert_36 ?_
    refine rg_callv hD hS hA (va_runV (As := [.int (nI (T b)), .int (nI n)]) (rest := []) ⟨hx, hb, hml, hown, hts⟩ (c_rm_copy (T b) n (by omega) (by omega) _) (cwV 2 hts (rg_gV tw_671 tw_673 ts_M_copy tw_5 tw_674) rfl rfl rfl (by decide +kernel) ⟨by rw [hR]; exact Nat.le_of_ble_eq_true rfl, by rw [hR]; exact Nat.le_of_ble_eq_true rfl⟩) (rg_preV rfl hK hP hD (ci := 0) (q0 := 0) rfl rfl) rfl rfl hl.1 rfl (lv_room (Nat.le_of_ble_eq_true rfl)) dM_insert_39 ⟨Nat.zero_le _, Nat.zero_le _⟩) (fun u6 H locs hw7 hP hD hS => ?_)
    have hP : va_P (dC, dI) rg_cl (rm_W h a cI cL (nI 0) (nI n) (nI b) cof mad (va_cpy nu nu (2 * (T b)) (2 * n) 2) (va_cpy co co (2 * (T b)) (2 * n) 2) (va_cpy se se (2 * (T b)) (2 * n) 2) (va_cpy li li (16 * (T b)) (16 * n) 16) (va_cpy le le (2 * (T b)) (2 * n) 2) (upd fi n (fi (T b))) (upd sc n (sc (T b))) ti un ma dr fr to en) H := hP
    have hD : va_D A (rm_W h a cI cL (nI 0) (nI n) (nI b) cof mad (va_cpy nu nu (2 * (T b)) (2 * n) 2) (va_cpy co co (2 * (T b)) (2 * n) 2) (va_cpy se se (2 * (T b)) (2 * n) 2) (va_cpy li li (16 * (T b)) (16 * n) 16) (va_cpy le le (2 * (T b)) (2 * n) 2) (upd fi n (fi (T b))) (upd sc n (sc (T b))) ti un ma dr fr to en) := hD
    have hX0 : rg_MR (va_cpy nu nu (2 * (T b)) (2 * n) 2) (va_cpy co co (2 * (T b)) (2 * n) 2) (va_cpy se se (2 * (T b)) (2 * n) 2) (va_cpy le le (2 * (T b)) (2 * n) 2) (va_cpy li li (16 * (T b)) (16 * n) 16) n (Rr (T b)) := rg_MR_copy (hrep.2.2.2.2.1 (T b) hTb)
    have q5 := (hX0 k (by omega)).2.2.2.2.1
    have q4 := (hX0 k (by omega)).2.2.2.1
    have q6 := (hX0 k (by omega)).2.2.2.2.2
    rw [hl9] at q4 q5 q6
    refine lv_aload_n hx hb dM_insert_42 rfl (lv_at hl 0 rfl) ?_
    refine va_get (D := (dC, dI)) (ci := 0) (C := "RevisionGroveModel") (T := TM) (N := 19) hx hb hts inM hown hK hP 0 rfl rfl 6 (by decide) (hts _ tw_607) (fun _ h9 => h9) rfl dM_insert_43 ?_
    refine lv_iconst (v := nI 2) hx hb dM_insert_46 (by decide) ?_
    refine lv_aload_n hx hb dM_insert_47 rfl (lv_at hl 0 rfl) ?_
    refine va_get (D := (dC, dI)) (ci := 0) (C := "RevisionGroveModel") (T := TM) (N := 19) hx hb hts inM hown hK hP 0 rfl rfl 1 (by decide) (hts _ tw_602) (fun _ h9 => h9) rfl dM_insert_48 ?_
    refine rg_imul hx hb dM_insert_51 ?_
    refine lv_iload_n hx hb dM_insert_52 rfl (lv_at hl 1 rfl) ?_
    refine rg_iadd hx hb dM_insert_53 ?_
    refine lv_bipush (v := nI 6) hx hb dM_insert_54 (by decide) ?_
    refine rg_isub hx hb dM_insert_56 (by omega) ?_
    refine rg_top (show (.int (nI (2 * n + (k + 6) - 6)) : Value) = .int (nI (2 * n + k)) by rw [show 2 * n + (k + 6) - 6 = 2 * n + k by omega]) ?_
    refine rg_iald hx hb hK hP 5 0 rfl rfl (by decide) (by omega) dM_insert_57 ?_
    refine rg_top (show (.int ((va_cpy le le (2 * (T b)) (2 * n) 2) (2 * n + k)) : Value) = .int (nI l9.length) by rw [q5]) ?_
    refine lv_istore (lv' := [(4, .int (nI l9.length)), (0, .ref h), (1, .int (nI (k + 6))), (2, .int (nI x)), (3, .int v)]) hx hb dM_insert_58 hl (by decide) rfl (fun ls hl => ?_)
    refine lv_aload_n hx hb dM_insert_60 rfl (lv_at hl 1 rfl) ?_
    refine lv_iload_n hx hb dM_insert_61 rfl (lv_at hl 3 rfl) ?_
    refine rg_ifN_lt (tgt := 71) hx hb dM_insert_62 (by decide) (by omega) (fun h8 => h8.elim) (fun h8 => ?_)
    refine lv_iload_n hx hb dM_insert_65 rfl (lv_at hl 3 rfl) ?_
    refine lv_iload hx hb dM_insert_66 (lv_at hl 0 rfl) ?_
    refine rg_icmp_le (tgt := 75) hx hb dM_insert_68 (by decide) (by omega) (by omega) (fun h9 => ?_) (fun h9 => by exfalso; omega)
    refine lv_iload hx hb dM_insert_75 (lv_at hl 0 rfl) ?_
    refine lv_bipush (v := nI 8) hx hb dM_insert_77 (by decide) ?_
    refine rg_icmp_eq (tgt := 91) hx hb dM_insert_79 (by decide) (by omega) (by omega) (fun h10 => ?_) (fun h10 => ?_)
    · refine lv_iconst (v := nI 3) hx hb dM_insert_91 (by decide) ?_
      refine lv_goto (tgt := 96) hx hb dM_insert_92 (by decide) ?_
      refine va_put (D := (dC, dI)) (ci := 0) (v := .int (nI 3)) (ty := .int) (C := "RevisionGroveModel") (T := TM) (N := 19) hx hb hts inM tyM tyM_ok nmM hown hK hP hD hS 0 rfl rfl 0 (by decide) (hts _ tw_601) (fun _ h9 => h9) rfl (by decide +kernel) rfl rfl (Nat.le_of_ble_eq_true rfl) dM_insert_96 (fun H locs hP hD hS => ?_)
      have hP : va_P (dC, dI) rg_cl (rm_W h a cI cL (nI 3) (nI n) (nI b) cof mad (va_cpy nu nu (2 * (T b)) (2 * n) 2) (va_cpy co co (2 * (T b)) (2 * n) 2) (va_cpy se se (2 * (T b)) (2 * n) 2) (va_cpy li li (16 * (T b)) (16 * n) 16) (va_cpy le le (2 * (T b)) (2 * n) 2) (upd fi n (fi (T b))) (upd sc n (sc (T b))) ti un ma dr fr to en) H := hP
      have hD : va_D A (rm_W h a cI cL (nI 3) (nI n) (nI b) cof mad (va_cpy nu nu (2 * (T b)) (2 * n) 2) (va_cpy co co (2 * (T b)) (2 * n) 2) (va_cpy se se (2 * (T b)) (2 * n) 2) (va_cpy li li (16 * (T b)) (16 * n) 16) (va_cpy le le (2 * (T b)) (2 * n) 2) (upd fi n (fi (T b))) (upd sc n (sc (T b))) ti un ma dr fr to en) := hD
      refine lv_aload_n hx hb dM_insert_99 rfl (lv_at hl 1 rfl) ?_
      refine va_get (D := (dC, dI)) (ci := 0) (C := "RevisionGroveModel") (T := TM) (N := 19) hx hb hts inM hown hK hP 0 rfl rfl 0 (by decide) (hts _ tw_601) (fun _ h9 => h9) rfl dM_insert_100 ?_
      refine rg_ifN_le (tgt := 108) hx hb dM_insert_103 (by decide) (by decide) (fun h11 => by exfalso; omega) (fun h11 => ?_)
      refine lv_iconst (v := nI 0) hx hb dM_insert_106 (by decide) ?_
      rw [hQ]
      exact rg_iret hx hb hr hlk hK hP hD hS dM_insert_107 (nI 3, nI n, nI b, cof, mad, va_cpy nu nu (2 * (T b)) (2 * n) 2, va_cpy co co (2 * (T b)) (2 * n) 2, va_cpy se se (2 * (T b)) (2 * n) 2, va_cpy li li (16 * (T b)) (16 * n) 16, va_cpy le le (2 * (T b)) (2 * n) 2, upd fi n (fi (T b)), upd sc n (sc (T b)), ti, un, ma, dr, fr, to, en) rfl (⟨rm_Rep_junk hrep (fun j hj => by have hj : j < 2 * n := hj; rw [pk_cpy_out (by omega)]) (fun j hj => by have hj : j < 2 * n := hj; rw [pk_cpy_out (by omega)]) (fun j hj => by have hj : j < 2 * n := hj; rw [pk_cpy_out (by omega)]) (fun j hj => by have hj : j < 2 * n := hj; rw [pk_cpy_out (by omega)]) (fun j hj => by have hj : j < 16 * n := hj; rw [pk_cpy_out (by omega)]) (fun j hj => by have hj : j < n := hj; rw [pk_un (by omega)]) (fun j hj => by have hj : j < n := hj; rw [pk_un (by omega)]), rfl, rfl⟩)
    · refine lv_aload_n hx hb dM_insert_82 rfl (lv_at hl 1 rfl) ?_
      refine va_get (D := (dC, dI)) (ci := 0) (C := "RevisionGroveModel") (T := TM) (N := 19) hx hb hts inM hown hK hP 0 rfl rfl 1 (by decide) (hts _ tw_602) (fun _ h9 => h9) rfl dM_insert_83 ?_
      refine lv_bipush (v := nI 60) hx hb dM_insert_86 (by decide) ?_
      refine rg_icmp_ne (tgt := 95) hx hb dM_insert_88 (by decide) (by omega) (by omega) (fun h12 => by exfalso; omega) (fun h12 => ?_)
      refine lv_iconst (v := nI 3) hx hb dM_insert_91 (by decide) ?_
      refine lv_goto (tgt := 96) hx hb dM_insert_92 (by decide) ?_
      refine va_put (D := (dC, dI)) (ci := 0) (v := .int (nI 3)) (ty := .int) (C := "RevisionGroveModel") (T := TM) (N := 19) hx hb hts inM tyM tyM_ok nmM hown hK hP hD hS 0 rfl rfl 0 (by decide) (hts _ tw_601) (fun _ h9 => h9) rfl (by decide +kernel) rfl rfl (Nat.le_of_ble_eq_true rfl) dM_insert_96 (fun H locs hP hD hS => ?_)
      have hP : va_P (dC, dI) rg_cl (rm_W h a cI cL (nI 3) (nI n) (nI b) cof mad (va_cpy nu nu (2 * (T b)) (2 * n) 2) (va_cpy co co (2 * (T b)) (2 * n) 2) (va_cpy se se (2 * (T b)) (2 * n) 2) (va_cpy li li (16 * (T b)) (16 * n) 16) (va_cpy le le (2 * (T b)) (2 * n) 2) (upd fi n (fi (T b))) (upd sc n (sc (T b))) ti un ma dr fr to en) H := hP
      have hD : va_D A (rm_W h a cI cL (nI 3) (nI n) (nI b) cof mad (va_cpy nu nu (2 * (T b)) (2 * n) 2) (va_cpy co co (2 * (T b)) (2 * n) 2) (va_cpy se se (2 * (T b)) (2 * n) 2) (va_cpy li li (16 * (T b)) (16 * n) 16) (va_cpy le le (2 * (T b)) (2 * n) 2) (upd fi n (fi (T b))) (upd sc n (sc (T b))) ti un ma dr fr to en) := hD
      refine lv_aload_n hx hb dM_insert_99 rfl (lv_at hl 1 rfl) ?_
      refine va_get (D := (dC, dI)) (ci := 0) (C := "RevisionGroveModel") (T := TM) (N := 19) hx hb hts inM hown hK hP 0 rfl rfl 0 (by decide) (hts _ tw_601) (fun _ h9 => h9) rfl dM_insert_100 ?_
      refine rg_ifN_le (tgt := 108) hx hb dM_insert_103 (by decide) (by decide) (fun h13 => by exfalso; omega) (fun h13 => ?_)
      refine lv_iconst (v := nI 0) hx hb dM_insert_106 (by decide) ?_
      rw [hQ]
      exact rg_iret hx hb hr hlk hK hP hD hS dM_insert_107 (nI 3, nI n, nI b, cof, mad, va_cpy nu nu (2 * (T b)) (2 * n) 2, va_cpy co co (2 * (T b)) (2 * n) 2, va_cpy se se (2 * (T b)) (2 * n) 2, va_cpy li li (16 * (T b)) (16 * n) 16, va_cpy le le (2 * (T b)) (2 * n) 2, upd fi n (fi (T b)), upd sc n (sc (T b)), ti, un, ma, dr, fr, to, en) rfl (⟨rm_Rep_junk hrep (fun j hj => by have hj : j < 2 * n := hj; rw [pk_cpy_out (by omega)]) (fun j hj => by have hj : j < 2 * n := hj; rw [pk_cpy_out (by omega)]) (fun j hj => by have hj : j < 2 * n := hj; rw [pk_cpy_out (by omega)]) (fun j hj => by have hj : j < 2 * n := hj; rw [pk_cpy_out (by omega)]) (fun j hj => by have hj : j < 16 * n := hj; rw [pk_cpy_out (by omega)]) (fun j hj => by have hj : j < n := hj; rw [pk_un (by omega)]) (fun j hj => by have hj : j < n := hj; rw [pk_un (by omega)]), rfl, rfl⟩)
  refine rg_icmp_eq (tgt := 13) hx hb dM_insert_4 (by decide) (by omega) (by omega) (fun h14 => ?_) (fun h14 => ?_)
  · refine lv_iconst (v := nI 0) hx hb dM_insert_13 (by decide) ?_
    refine lv_goto (tgt := 18) hx hb dM_insert_14 (by decide) ?_
    exact J4 0 rfl
  · refine lv_iload_n hx hb dM_insert_7 rfl (lv_at hl 1 rfl) ?_
    refine lv_bipush (v := nI 7) hx hb dM_insert_8 (by decide) ?_
    refine rg_icmp_ne (tgt := 17) hx hb dM_insert_10 (by decide) (by omega) (by omega) (fun h15 => by exfalso; omega) (fun h15 => ?_)
    refine lv_iconst (v := nI 0) hx hb dM_insert_13 (by decide) ?_
    refine lv_goto (tgt := 18) hx hb dM_insert_14 (by decide) ?_
    exact J4 0 rfl
set_option maxHeartbeats 4000000 in
set_option maxRecDepth 100000 in
theorem c_rm_insert_ok {l : Launch} {dC : Nat → ClassId} {dI : Nat → Nat → Nat} {h : Nat} {a : Nat → Nat} {cI cL : ClassId} {cod : Int32} {cof : Int32} {mad : Int32} {nu : Nat → Int32} {co : Nat → Int64} {se : Nat → Int32} {li : Nat → Int32} {le : Nat → Int32} {fi : Nat → Int32} {sc : Nat → Int32} {ti : Nat → Int32} {un : Nat → Int32} {ma : Nat → Int32} {dr : Nat → Int32} {fr : Nat → Int32} {to : Nat → Int32} {en : Nat → Int32} (n b : Nat) (Rr : Nat → rg_R) (P1 P2 : Nat → Int32) (T : Nat → Nat) (U : Nat → List Nat) (k : Nat) (hk2 : k < 2) (l9 : List Int32) (hl9 : (Rr (T b)).2.2.2 k = l9) (x : Nat) (v : Int32) (hxl : x ≤ l9.length) (hl8 : ¬ l9.length = 8) (hn6 : ¬ n = 60) (hrep : rm_Rep (nI n) (nI b) cof nu co se li le fi sc ti un ma (n, Rr, P1, P2, T, U, b, cof)) : rg_M l yM_insert (Cond.code yM_insert prog_8_method_13_code 7 (some .int) :: rg_tbl) { frames := 3, cells := 0, slots := 0, locals := 69 } (dC, dI) rg_cl [(cI, .int), (cL, .long)] (rm_W h a cI cL cod (nI n) (nI b) cof mad nu co se li le fi sc ti un ma dr fr to en) [.ref h, .int (nI (k + 6)), .int (nI x), .int v] (rg_QI (dC, dI) rg_cl [(cI, .int), (cL, .long)] (S := rm_S) (rm_Po (rg_chg 2 (n, Rr, P1, P2, T, U, b, cof) (rg_setL (Rr (T b)) k (rg_insL l9 x v)))) (fun u => rm_Wu h a cI cL u)) 0 0 := by
  refine rg_of prog_8_method_13_code 7 (some .int) (by decide) rfl (Nat.le_of_ble_eq_true rfl) ?_
  intro p e R s m args below meth c Q A H locs ls hR hQ hx hb hml hr hts hown hlk hnm hP hK hD hA hS hl
  have hl : lv_has ls 7 [(0, .ref h), (1, .int (nI (k + 6))), (2, .int (nI x)), (3, .int v)] := hl
  have hts : ∀ w ∈ rg_tbl, w.before args s = true := fun w h => hts w (List.mem_cons_of_mem _ h)
  have hok := hrep.1
  have hn1 : 1 ≤ n := hok.1
  have hn60 : n ≤ 60 := hok.2.1
  have hb4 : b < 4 := hok.2.2.2.2.2.2.2.1
  have hTb : T b < n := (hok.2.2.2.2.2.2.1 b hb4).1
  have hti : ti b = nI (T b) := (hrep.2.2.2.2.2.2 b hb4).1
  have hma : ma b = nI (U b).length := (hrep.2.2.2.2.2.2 b hb4).2.1
  refine lv_aload_n hx hb dM_insert_0 rfl (lv_at hl 0 rfl) ?_
  refine lv_iload_n hx hb dM_insert_1 rfl (lv_at hl 1 rfl) ?_
  refine lv_bipush (v := nI 6) hx hb dM_insert_2 (by decide) ?_
  have J4 : ∀ v9 : Nat, v9 = 0 → W p l e R s m args below meth c H locs 0 0 Q (F0 m 18 ls [.int (nI v9), .ref h]) := by
    intro v9 hv9
    subst hv9
    refine va_put (D := (dC, dI)) (ci := 0) (v := .int (nI 0)) (ty := .int) (C := "RevisionGroveModel") (T := TM) (N := 19) hx hb hts inM tyM tyM_ok nmM hown hK hP hD hS 0 rfl rfl 0 (by decide) (hts _ tw_601) (fun _ h9 => h9) rfl (by decide +kernel) rfl rfl (Nat.le_of_ble_eq_true rfl) dM_insert_18 (fun H locs hP hD hS => ?_)
    have hP : va_P (dC, dI) rg_cl (rm_W h a cI cL (nI 0) (nI n) (nI b) cof mad nu co se li le fi sc ti un ma dr fr to en) H := hP
    have hD : va_D A (rm_W h a cI cL (nI 0) (nI n) (nI b) cof mad nu co se li le fi sc ti un ma dr fr to en) := hD
    refine lv_aload_n hx hb dM_insert_21 rfl (lv_at hl 0 rfl) ?_
    refine va_get (D := (dC, dI)) (ci := 0) (C := "RevisionGroveModel") (T := TM) (N := 19) hx hb hts inM hown hK hP 0 rfl rfl 0 (by decide) (hts _ tw_601) (fun _ h9 => h9) rfl dM_insert_22 ?_
    refine rg_ifN_le (tgt := 30) hx hb dM_insert_25 (by decide) (by decide) (fun h1 => ?_) (fun h1 => by exfalso; omega)
    refine lv_aload_n hx hb dM_insert_30 rfl (lv_at hl 0 rfl) ?_
    refine lv_aload_n hx hb dM_insert_31 rfl (lv_at hl 0 rfl) ?_
    refine rg_calli hD hS hA (va_runV (As := []) (rest := [.ref h]) ⟨hx, hb, hml, hown, hts⟩ (c_rm_here b (by omega) _) (cwV 0 hts (rg_gV tw_667 tw_669 ts_M_here tw_5 tw_670) rfl rfl rfl (by decide +kernel) ⟨by rw [hR]; exact Nat.le_of_ble_eq_true rfl, by rw [hR]; exact Nat.le_of_ble_eq_true rfl⟩) (rg_preV rfl hK hP hD (ci := 0) (q0 := 0) rfl rfl) rfl rfl hl.1 rfl (lv_room (Nat.le_of_ble_eq_true rfl)) dM_insert_32 ⟨Nat.zero_le _, Nat.zero_le _⟩) (fun r2 u3 H locs hw4 hP hD hS => ?_)
    subst hw4
    have hP : va_P (dC, dI) rg_cl (rm_W h a cI cL (nI 0) (nI n) (nI b) cof mad nu co se li le fi sc ti un ma dr fr to en) H := hP
    have hD : va_D A (rm_W h a cI cL (nI 0) (nI n) (nI b) cof mad nu co se li le fi sc ti un ma dr fr to en) := hD
    refine rg_top (show (.int (ti b) : Value) = .int (nI (T b)) by rw [hti]) ?_
    refine lv_aload_n hx hb dM_insert_35 rfl (lv_at hl 0 rfl) ?_
    refine va_get (D := (dC, dI)) (ci := 0) (C := "RevisionGroveModel") (T := TM) (N := 19) hx hb hts inM hown hK hP 0 rfl rfl 1 (by decide) (hts _ tw_602) (fun _ h9 => h9) rfl dM_insert_36 ?_
    refine rg_callv hD hS hA (va_runV (As := [.int (nI (T b)), .int (nI n)]) (rest := []) ⟨hx, hb, hml, hown, hts⟩ (c_rm_copy (T b) n (by omega) (by omega) _) (cwV 2 hts (rg_gV tw_671 tw_673 ts_M_copy tw_5 tw_674) rfl rfl rfl (by decide +kernel) ⟨by rw [hR]; exact Nat.le_of_ble_eq_true rfl, by rw [hR]; exact Nat.le_of_ble_eq_true rfl⟩) (rg_preV rfl hK hP hD (ci := 0) (q0 := 0) rfl rfl) rfl rfl hl.1 rfl (lv_room (Nat.le_of_ble_eq_true rfl)) dM_insert_39 ⟨Nat.zero_le _, Nat.zero_le _⟩) (fun u6 H locs hw7 hP hD hS => ?_)
    have hP : va_P (dC, dI) rg_cl (rm_W h a cI cL (nI 0) (nI n) (nI b) cof mad (va_cpy nu nu (2 * (T b)) (2 * n) 2) (va_cpy co co (2 * (T b)) (2 * n) 2) (va_cpy se se (2 * (T b)) (2 * n) 2) (va_cpy li li (16 * (T b)) (16 * n) 16) (va_cpy le le (2 * (T b)) (2 * n) 2) (upd fi n (fi (T b))) (upd sc n (sc (T b))) ti un ma dr fr to en) H := hP
    have hD : va_D A (rm_W h a cI cL (nI 0) (nI n) (nI b) cof mad (va_cpy nu nu (2 * (T b)) (2 * n) 2) (va_cpy co co (2 * (T b)) (2 * n) 2) (va_cpy se se (2 * (T b)) (2 * n) 2) (va_cpy li li (16 * (T b)) (16 * n) 16) (va_cpy le le (2 * (T b)) (2 * n) 2) (upd fi n (fi (T b))) (upd sc n (sc (T b))) ti un ma dr fr to en) := hD
    have hX0 : rg_MR (va_cpy nu nu (2 * (T b)) (2 * n) 2) (va_cpy co co (2 * (T b)) (2 * n) 2) (va_cpy se se (2 * (T b)) (2 * n) 2) (va_cpy le le (2 * (T b)) (2 * n) 2) (va_cpy li li (16 * (T b)) (16 * n) 16) n (Rr (T b)) := rg_MR_copy (hrep.2.2.2.2.1 (T b) hTb)
    have q5 := (hX0 k (by omega)).2.2.2.2.1
    have q4 := (hX0 k (by omega)).2.2.2.1
    have q6 := (hX0 k (by omega)).2.2.2.2.2
    rw [hl9] at q4 q5 q6
    refine lv_aload_n hx hb dM_insert_42 rfl (lv_at hl 0 rfl) ?_
    refine va_get (D := (dC, dI)) (ci := 0) (C := "RevisionGroveModel") (T := TM) (N := 19) hx hb hts inM hown hK hP 0 rfl rfl 6 (by decide) (hts _ tw_607) (fun _ h9 => h9) rfl dM_insert_43 ?_
    refine lv_iconst (v := nI 2) hx hb dM_insert_46 (by decide) ?_
    refine lv_aload_n hx hb dM_insert_47 rfl (lv_at hl 0 rfl) ?_
    refine va_get (D := (dC, dI)) (ci := 0) (C := "RevisionGroveModel") (T := TM) (N := 19) hx hb hts inM hown hK hP 0 rfl rfl 1 (by decide) (hts _ tw_602) (fun _ h9 => h9) rfl dM_insert_48 ?_
    refine rg_imul hx hb dM_insert_51 ?_
    refine lv_iload_n hx hb dM_insert_52 rfl (lv_at hl 1 rfl) ?_
    refine rg_iadd hx hb dM_insert_53 ?_
    refine lv_bipush (v := nI 6) hx hb dM_insert_54 (by decide) ?_
    refine rg_isub hx hb dM_insert_56 (by omega) ?_
    refine rg_top (show (.int (nI (2 * n + (k + 6) - 6)) : Value) = .int (nI (2 * n + k)) by rw [show 2 * n + (k + 6) - 6 = 2 * n + k by omega]) ?_
    refine rg_iald hx hb hK hP 5 0 rfl rfl (by decide) (by omega) dM_insert_57 ?_
    refine rg_top (show (.int ((va_cpy le le (2 * (T b)) (2 * n) 2) (2 * n + k)) : Value) = .int (nI l9.length) by rw [q5]) ?_
    refine lv_istore (lv' := [(4, .int (nI l9.length)), (0, .ref h), (1, .int (nI (k + 6))), (2, .int (nI x)), (3, .int v)]) hx hb dM_insert_58 hl (by decide) rfl (fun ls hl => ?_)
    refine lv_aload_n hx hb dM_insert_60 rfl (lv_at hl 1 rfl) ?_
    refine lv_iload_n hx hb dM_insert_61 rfl (lv_at hl 3 rfl) ?_
    refine rg_ifN_lt (tgt := 71) hx hb dM_insert_62 (by decide) (by omega) (fun h8 => h8.elim) (fun h8 => ?_)
    refine lv_iload_n hx hb dM_insert_65 rfl (lv_at hl 3 rfl) ?_
    refine lv_iload hx hb dM_insert_66 (lv_at hl 0 rfl) ?_
    refine rg_icmp_le (tgt := 75) hx hb dM_insert_68 (by decide) (by omega) (by omega) (fun h9 => ?_) (fun h9 => by exfalso; omega)
    refine lv_iload hx hb dM_insert_75 (lv_at hl 0 rfl) ?_
    refine lv_bipush (v := nI 8) hx hb dM_insert_77 (by decide) ?_
    refine rg_icmp_eq (tgt := 91) hx hb dM_insert_79 (by decide) (by omega) (by omega) (fun h10 => by exfalso; omega) (fun h10 => ?_)
    refine lv_aload_n hx hb dM_insert_82 rfl (lv_at hl 1 rfl) ?_
    refine va_get (D := (dC, dI)) (ci := 0) (C := "RevisionGroveModel") (T := TM) (N := 19) hx hb hts inM hown hK hP 0 rfl rfl 1 (by decide) (hts _ tw_602) (fun _ h9 => h9) rfl dM_insert_83 ?_
    refine lv_bipush (v := nI 60) hx hb dM_insert_86 (by decide) ?_
    refine rg_icmp_ne (tgt := 95) hx hb dM_insert_88 (by decide) (by omega) (by omega) (fun h11 => ?_) (fun h11 => by exfalso; omega)
    refine lv_iconst (v := nI 0) hx hb dM_insert_95 (by decide) ?_
    refine va_put (D := (dC, dI)) (ci := 0) (v := .int (nI 0)) (ty := .int) (C := "RevisionGroveModel") (T := TM) (N := 19) hx hb hts inM tyM tyM_ok nmM hown hK hP hD hS 0 rfl rfl 0 (by decide) (hts _ tw_601) (fun _ h9 => h9) rfl (by decide +kernel) rfl rfl (Nat.le_of_ble_eq_true rfl) dM_insert_96 (fun H locs hP hD hS => ?_)
    have hP : va_P (dC, dI) rg_cl (rm_W h a cI cL (nI 0) (nI n) (nI b) cof mad (va_cpy nu nu (2 * (T b)) (2 * n) 2) (va_cpy co co (2 * (T b)) (2 * n) 2) (va_cpy se se (2 * (T b)) (2 * n) 2) (va_cpy li li (16 * (T b)) (16 * n) 16) (va_cpy le le (2 * (T b)) (2 * n) 2) (upd fi n (fi (T b))) (upd sc n (sc (T b))) ti un ma dr fr to en) H := hP
    have hD : va_D A (rm_W h a cI cL (nI 0) (nI n) (nI b) cof mad (va_cpy nu nu (2 * (T b)) (2 * n) 2) (va_cpy co co (2 * (T b)) (2 * n) 2) (va_cpy se se (2 * (T b)) (2 * n) 2) (va_cpy li li (16 * (T b)) (16 * n) 16) (va_cpy le le (2 * (T b)) (2 * n) 2) (upd fi n (fi (T b))) (upd sc n (sc (T b))) ti un ma dr fr to en) := hD
    refine lv_aload_n hx hb dM_insert_99 rfl (lv_at hl 1 rfl) ?_
    refine va_get (D := (dC, dI)) (ci := 0) (C := "RevisionGroveModel") (T := TM) (N := 19) hx hb hts inM hown hK hP 0 rfl rfl 0 (by decide) (hts _ tw_601) (fun _ h9 => h9) rfl dM_insert_100 ?_
    refine rg_ifN_le (tgt := 108) hx hb dM_insert_103 (by decide) (by decide) (fun h12 => ?_) (fun h12 => by exfalso; omega)
    refine lv_bipush (v := nI 16) hx hb dM_insert_108 (by decide) ?_
    refine lv_aload_n hx hb dM_insert_110 rfl (lv_at hl 1 rfl) ?_
    refine va_get (D := (dC, dI)) (ci := 0) (C := "RevisionGroveModel") (T := TM) (N := 19) hx hb hts inM hown hK hP 0 rfl rfl 1 (by decide) (hts _ tw_602) (fun _ h9 => h9) rfl dM_insert_111 ?_
    refine rg_imul hx hb dM_insert_114 ?_
    refine lv_bipush (v := nI 8) hx hb dM_insert_115 (by decide) ?_
    refine lv_iload_n hx hb dM_insert_117 rfl (lv_at hl 2 rfl) ?_
    refine lv_bipush (v := nI 6) hx hb dM_insert_118 (by decide) ?_
    refine rg_isub hx hb dM_insert_120 (by omega) ?_
    refine rg_top (show (.int (nI (k + 6 - 6)) : Value) = .int (nI k) by rw [show k + 6 - 6 = k by omega]) ?_
    refine rg_imul hx hb dM_insert_121 ?_
    refine rg_iadd hx hb dM_insert_122 ?_
    refine lv_istore (lv' := [(5, .int (nI (16 * n + 8 * k))), (4, .int (nI l9.length)), (0, .ref h), (1, .int (nI (k + 6))), (2, .int (nI x)), (3, .int v)]) hx hb dM_insert_123 hl (by decide) rfl (fun ls hl => ?_)
    refine lv_iload hx hb dM_insert_125 (lv_at hl 1 rfl) ?_
    refine lv_istore (lv' := [(6, .int (nI l9.length)), (5, .int (nI (16 * n + 8 * k))), (4, .int (nI l9.length)), (0, .ref h), (1, .int (nI (k + 6))), (2, .int (nI x)), (3, .int v)]) hx hb dM_insert_127 hl (by decide) rfl (fun ls hl => ?_)
    have lp129 : ∀ (fuel : Nat) (kk : Nat) (H : Heap) (locs : List Loc) (ls : Array Slot), kk < fuel → x ≤ kk → kk ≤ l9.length → va_P (dC, dI) rg_cl (rm_W h a cI cL (nI 0) (nI n) (nI b) cof mad (va_cpy nu nu (2 * (T b)) (2 * n) 2) (va_cpy co co (2 * (T b)) (2 * n) 2) (va_cpy se se (2 * (T b)) (2 * n) 2) (va_cpy (va_cpy li li (16 * (T b)) (16 * n) 16) (va_cpy li li (16 * (T b)) (16 * n) 16) (16 * n + 8 * k + kk) (16 * n + 8 * k + kk + 1) (l9.length - kk)) (va_cpy le le (2 * (T b)) (2 * n) 2) (upd fi n (fi (T b))) (upd sc n (sc (T b))) ti un ma dr fr to en) H → va_D A (rm_W h a cI cL (nI 0) (nI n) (nI b) cof mad (va_cpy nu nu (2 * (T b)) (2 * n) 2) (va_cpy co co (2 * (T b)) (2 * n) 2) (va_cpy se se (2 * (T b)) (2 * n) 2) (va_cpy (va_cpy li li (16 * (T b)) (16 * n) 16) (va_cpy li li (16 * (T b)) (16 * n) 16) (16 * n + 8 * k + kk) (16 * n + 8 * k + kk + 1) (l9.length - kk)) (va_cpy le le (2 * (T b)) (2 * n) 2) (upd fi n (fi (T b))) (upd sc n (sc (T b))) ti un ma dr fr to en) → va_S A s.heap H locs → lv_has ls 7 [(0, .ref h), (1, .int (nI (k + 6))), (2, .int (nI x)), (3, .int v), (4, .int (nI l9.length)), (5, .int (nI (16 * n + 8 * k))), (6, .int (nI kk))] → W p l e R s m args below meth c H locs 0 0 Q (F0 m 129 ls []) := by
      intro fuel
      induction fuel with
      | zero => intro kk H locs ls hf; exact absurd hf (Nat.not_lt_zero _)
      | succ fuel ih129 =>
        intro kk H locs ls hfu129 hk1 hk9 hP hD hS hl
        refine lv_iload hx hb dM_insert_129 (lv_at hl 6 rfl) ?_
        refine lv_iload_n hx hb dM_insert_131 rfl (lv_at hl 2 rfl) ?_
        refine rg_icmp_le (tgt := 163) hx hb dM_insert_132 (by decide) (by omega) (by omega) (fun h13 => ?_) (fun h13 => ?_)
        · have hkx : kk = x := by omega
          rw [hkx] at hP hD
          have hP : va_P (dC, dI) rg_cl (rm_W h a cI cL (nI 0) (nI n) (nI b) cof mad (va_cpy nu nu (2 * (T b)) (2 * n) 2) (va_cpy co co (2 * (T b)) (2 * n) 2) (va_cpy se se (2 * (T b)) (2 * n) 2) (va_cpy (va_cpy li li (16 * (T b)) (16 * n) 16) (va_cpy li li (16 * (T b)) (16 * n) 16) (16 * n + 8 * k + x) (16 * n + 8 * k + x + 1) (l9.length - x)) (va_cpy le le (2 * (T b)) (2 * n) 2) (upd fi n (fi (T b))) (upd sc n (sc (T b))) ti un ma dr fr to en) H := hP
          have hD : va_D A (rm_W h a cI cL (nI 0) (nI n) (nI b) cof mad (va_cpy nu nu (2 * (T b)) (2 * n) 2) (va_cpy co co (2 * (T b)) (2 * n) 2) (va_cpy se se (2 * (T b)) (2 * n) 2) (va_cpy (va_cpy li li (16 * (T b)) (16 * n) 16) (va_cpy li li (16 * (T b)) (16 * n) 16) (16 * n + 8 * k + x) (16 * n + 8 * k + x + 1) (l9.length - x)) (va_cpy le le (2 * (T b)) (2 * n) 2) (upd fi n (fi (T b))) (upd sc n (sc (T b))) ti un ma dr fr to en) := hD
          refine lv_aload_n hx hb dM_insert_163 rfl (lv_at hl 0 rfl) ?_
          refine va_get (D := (dC, dI)) (ci := 0) (C := "RevisionGroveModel") (T := TM) (N := 19) hx hb hts inM hown hK hP 0 rfl rfl 5 (by decide) (hts _ tw_606) (fun _ h9 => h9) rfl dM_insert_164 ?_
          refine lv_iload hx hb dM_insert_167 (lv_at hl 5 rfl) ?_
          refine lv_iload_n hx hb dM_insert_169 rfl (lv_at hl 2 rfl) ?_
          refine rg_iadd hx hb dM_insert_170 ?_
          refine lv_iload_n hx hb dM_insert_171 rfl (lv_at hl 3 rfl) ?_
          refine rg_iast hx hb hK hP hD hS 4 0 rfl rfl (by decide) (by omega) dM_insert_172 (fun H locs hP hD hS => ?_)
          have hP : va_P (dC, dI) rg_cl (rm_W h a cI cL (nI 0) (nI n) (nI b) cof mad (va_cpy nu nu (2 * (T b)) (2 * n) 2) (va_cpy co co (2 * (T b)) (2 * n) 2) (va_cpy se se (2 * (T b)) (2 * n) 2) (upd (va_cpy (va_cpy li li (16 * (T b)) (16 * n) 16) (va_cpy li li (16 * (T b)) (16 * n) 16) (16 * n + 8 * k + x) (16 * n + 8 * k + x + 1) (l9.length - x)) (16 * n + 8 * k + x) v) (va_cpy le le (2 * (T b)) (2 * n) 2) (upd fi n (fi (T b))) (upd sc n (sc (T b))) ti un ma dr fr to en) H := hP
          have hD : va_D A (rm_W h a cI cL (nI 0) (nI n) (nI b) cof mad (va_cpy nu nu (2 * (T b)) (2 * n) 2) (va_cpy co co (2 * (T b)) (2 * n) 2) (va_cpy se se (2 * (T b)) (2 * n) 2) (upd (va_cpy (va_cpy li li (16 * (T b)) (16 * n) 16) (va_cpy li li (16 * (T b)) (16 * n) 16) (16 * n + 8 * k + x) (16 * n + 8 * k + x + 1) (l9.length - x)) (16 * n + 8 * k + x) v) (va_cpy le le (2 * (T b)) (2 * n) 2) (upd fi n (fi (T b))) (upd sc n (sc (T b))) ti un ma dr fr to en) := hD
          refine lv_aload_n hx hb dM_insert_173 rfl (lv_at hl 0 rfl) ?_
          refine va_get (D := (dC, dI)) (ci := 0) (C := "RevisionGroveModel") (T := TM) (N := 19) hx hb hts inM hown hK hP 0 rfl rfl 6 (by decide) (hts _ tw_607) (fun _ h9 => h9) rfl dM_insert_174 ?_
          refine lv_iconst (v := nI 2) hx hb dM_insert_177 (by decide) ?_
          refine lv_aload_n hx hb dM_insert_178 rfl (lv_at hl 0 rfl) ?_
          refine va_get (D := (dC, dI)) (ci := 0) (C := "RevisionGroveModel") (T := TM) (N := 19) hx hb hts inM hown hK hP 0 rfl rfl 1 (by decide) (hts _ tw_602) (fun _ h9 => h9) rfl dM_insert_179 ?_
          refine rg_imul hx hb dM_insert_182 ?_
          refine lv_iload_n hx hb dM_insert_183 rfl (lv_at hl 1 rfl) ?_
          refine rg_iadd hx hb dM_insert_184 ?_
          refine lv_bipush (v := nI 6) hx hb dM_insert_185 (by decide) ?_
          refine rg_isub hx hb dM_insert_187 (by omega) ?_
          refine rg_top (show (.int (nI (2 * n + (k + 6) - 6)) : Value) = .int (nI (2 * n + k)) by rw [show 2 * n + (k + 6) - 6 = 2 * n + k by omega]) ?_
          refine lv_dup2_11 hx hb dM_insert_188 rfl rfl ?_
          refine rg_iald hx hb hK hP 5 0 rfl rfl (by decide) (by omega) dM_insert_189 ?_
          refine rg_top (show (.int ((va_cpy le le (2 * (T b)) (2 * n) 2) (2 * n + k)) : Value) = .int (nI l9.length) by rw [q5]) ?_
          refine lv_iconst (v := nI 1) hx hb dM_insert_190 (by decide) ?_
          refine rg_iadd hx hb dM_insert_191 ?_
          refine rg_iast hx hb hK hP hD hS 5 0 rfl rfl (by decide) (by omega) dM_insert_192 (fun H locs hP hD hS => ?_)
          have hP : va_P (dC, dI) rg_cl (rm_W h a cI cL (nI 0) (nI n) (nI b) cof mad (va_cpy nu nu (2 * (T b)) (2 * n) 2) (va_cpy co co (2 * (T b)) (2 * n) 2) (va_cpy se se (2 * (T b)) (2 * n) 2) (upd (va_cpy (va_cpy li li (16 * (T b)) (16 * n) 16) (va_cpy li li (16 * (T b)) (16 * n) 16) (16 * n + 8 * k + x) (16 * n + 8 * k + x + 1) (l9.length - x)) (16 * n + 8 * k + x) v) (upd (va_cpy le le (2 * (T b)) (2 * n) 2) (2 * n + k) (nI (l9.length + 1))) (upd fi n (fi (T b))) (upd sc n (sc (T b))) ti un ma dr fr to en) H := hP
          have hD : va_D A (rm_W h a cI cL (nI 0) (nI n) (nI b) cof mad (va_cpy nu nu (2 * (T b)) (2 * n) 2) (va_cpy co co (2 * (T b)) (2 * n) 2) (va_cpy se se (2 * (T b)) (2 * n) 2) (upd (va_cpy (va_cpy li li (16 * (T b)) (16 * n) 16) (va_cpy li li (16 * (T b)) (16 * n) 16) (16 * n + 8 * k + x) (16 * n + 8 * k + x + 1) (l9.length - x)) (16 * n + 8 * k + x) v) (upd (va_cpy le le (2 * (T b)) (2 * n) 2) (2 * n + k) (nI (l9.length + 1))) (upd fi n (fi (T b))) (upd sc n (sc (T b))) ti un ma dr fr to en) := hD
          have hrep1 : rm_Rep (nI n) (nI b) cof (va_cpy nu nu (2 * (T b)) (2 * n) 2) (va_cpy co co (2 * (T b)) (2 * n) 2) (va_cpy se se (2 * (T b)) (2 * n) 2) (upd (va_cpy (va_cpy li li (16 * (T b)) (16 * n) 16) (va_cpy li li (16 * (T b)) (16 * n) 16) (16 * n + 8 * k + x) (16 * n + 8 * k + x + 1) (l9.length - x)) (16 * n + 8 * k + x) v) (upd (va_cpy le le (2 * (T b)) (2 * n) 2) (2 * n + k) (nI (l9.length + 1))) (upd fi n (fi (T b))) (upd sc n (sc (T b))) ti un ma (n, Rr, P1, P2, T, U, b, cof) := rm_Rep_junk hrep (fun j hj => by have hj : j < 2 * n := hj; rw [pk_cpy_out (by omega)]) (fun j hj => by have hj : j < 2 * n := hj; rw [pk_cpy_out (by omega)]) (fun j hj => by have hj : j < 2 * n := hj; rw [pk_cpy_out (by omega)]) (fun j hj => by have hj : j < 2 * n := hj; rw [pk_un (by omega), pk_cpy_out (by omega)]) (fun j hj => by have hj : j < 16 * n := hj; rw [pk_un (by omega), pk_cpy_out (by omega), pk_cpy_out (by omega)]) (fun j hj => by have hj : j < n := hj; rw [pk_un (by omega)]) (fun j hj => by have hj : j < n := hj; rw [pk_un (by omega)])
          have hX1 : rg_MR (va_cpy nu nu (2 * (T b)) (2 * n) 2) (va_cpy co co (2 * (T b)) (2 * n) 2) (va_cpy se se (2 * (T b)) (2 * n) 2) (upd (va_cpy le le (2 * (T b)) (2 * n) 2) (2 * n + k) (nI (l9.length + 1))) (upd (va_cpy (va_cpy li li (16 * (T b)) (16 * n) 16) (va_cpy li li (16 * (T b)) (16 * n) 16) (16 * n + 8 * k + x) (16 * n + 8 * k + x + 1) (l9.length - x)) (16 * n + 8 * k + x) v) n (rg_setL (Rr (T b)) k (rg_insL l9 x v)) := rg_MR_setL hX0 hk2 (by rw [rg_insL_len hxl]; omega) (by rw [pk_us, rg_insL_len hxl]) (fun j hj => pk_un hj) (fun i hi => rg_ins_cells q6 hxl (by rw [rg_insL_len hxl] at hi; exact hi)) (fun j hj => by rw [pk_un (by omega), pk_cpy_out (by omega)])
          refine lv_aload_n hx hb dM_insert_193 rfl (lv_at hl 0 rfl) ?_
          refine rg_calli hD hS hA (va_runV (As := []) (rest := []) ⟨hx, hb, hml, hown, hts⟩ (c_rm_change n b Rr P1 P2 T U (rg_setL (Rr (T b)) k (rg_insL l9 x v)) hrep1 hX1 _) (cwV 0 hts (rg_gV tw_675 tw_677 ts_M_change tw_5 tw_678) rfl rfl rfl (by decide +kernel) ⟨by rw [hR]; exact Nat.le_of_ble_eq_true rfl, by rw [hR]; exact Nat.le_of_ble_eq_true rfl⟩) (rg_preV rfl hK hP hD (ci := 0) (q0 := 0) rfl rfl) rfl rfl hl.1 rfl (lv_room (Nat.le_of_ble_eq_true rfl)) dM_insert_194 ⟨Nat.zero_le _, Nat.zero_le _⟩) (fun r14 u15 H locs hw16 hP hD hS => ?_)
          obtain ⟨cod4, cnt4, bra4, cof4, mad4, nu4, co4, se4, li4, le4, fi4, sc4, ti4, un4, ma4, dr4, fr4, to4, en4⟩ := u15
          have hP : va_P (dC, dI) rg_cl (rm_W h a cI cL cod4 cnt4 bra4 cof4 mad4 nu4 co4 se4 li4 le4 fi4 sc4 ti4 un4 ma4 dr4 fr4 to4 en4) H := hP
          have hD : va_D A (rm_W h a cI cL cod4 cnt4 bra4 cof4 mad4 nu4 co4 se4 li4 le4 fi4 sc4 ti4 un4 ma4 dr4 fr4 to4 en4) := hD
          rw [hQ]
          exact rg_iret hx hb hr hlk hK hP hD hS dM_insert_197 (cod4, cnt4, bra4, cof4, mad4, nu4, co4, se4, li4, le4, fi4, sc4, ti4, un4, ma4, dr4, fr4, to4, en4) rfl (hw16)
        · refine lv_aload_n hx hb dM_insert_135 rfl (lv_at hl 0 rfl) ?_
          refine va_get (D := (dC, dI)) (ci := 0) (C := "RevisionGroveModel") (T := TM) (N := 19) hx hb hts inM hown hK hP 0 rfl rfl 5 (by decide) (hts _ tw_606) (fun _ h9 => h9) rfl dM_insert_136 ?_
          refine lv_iload hx hb dM_insert_139 (lv_at hl 5 rfl) ?_
          refine lv_iload hx hb dM_insert_141 (lv_at hl 6 rfl) ?_
          refine rg_iadd hx hb dM_insert_143 ?_
          refine lv_aload_n hx hb dM_insert_144 rfl (lv_at hl 0 rfl) ?_
          refine va_get (D := (dC, dI)) (ci := 0) (C := "RevisionGroveModel") (T := TM) (N := 19) hx hb hts inM hown hK hP 0 rfl rfl 5 (by decide) (hts _ tw_606) (fun _ h9 => h9) rfl dM_insert_145 ?_
          refine lv_iload hx hb dM_insert_148 (lv_at hl 5 rfl) ?_
          refine lv_iload hx hb dM_insert_150 (lv_at hl 6 rfl) ?_
          refine rg_iadd hx hb dM_insert_152 ?_
          refine lv_iconst (v := nI 1) hx hb dM_insert_153 (by decide) ?_
          refine rg_isub hx hb dM_insert_154 (by omega) ?_
          refine rg_iald hx hb hK hP 4 0 rfl rfl (by decide) (by omega) dM_insert_155 ?_
          refine rg_iast hx hb hK hP hD hS 4 0 rfl rfl (by decide) (by omega) dM_insert_156 (fun H locs hP hD hS => ?_)
          have hP : va_P (dC, dI) rg_cl (rm_W h a cI cL (nI 0) (nI n) (nI b) cof mad (va_cpy nu nu (2 * (T b)) (2 * n) 2) (va_cpy co co (2 * (T b)) (2 * n) 2) (va_cpy se se (2 * (T b)) (2 * n) 2) (upd (va_cpy (va_cpy li li (16 * (T b)) (16 * n) 16) (va_cpy li li (16 * (T b)) (16 * n) 16) (16 * n + 8 * k + kk) (16 * n + 8 * k + kk + 1) (l9.length - kk)) (16 * n + 8 * k + kk) ((va_cpy (va_cpy li li (16 * (T b)) (16 * n) 16) (va_cpy li li (16 * (T b)) (16 * n) 16) (16 * n + 8 * k + kk) (16 * n + 8 * k + kk + 1) (l9.length - kk)) (16 * n + 8 * k + kk - 1))) (va_cpy le le (2 * (T b)) (2 * n) 2) (upd fi n (fi (T b))) (upd sc n (sc (T b))) ti un ma dr fr to en) H := hP
          have hD : va_D A (rm_W h a cI cL (nI 0) (nI n) (nI b) cof mad (va_cpy nu nu (2 * (T b)) (2 * n) 2) (va_cpy co co (2 * (T b)) (2 * n) 2) (va_cpy se se (2 * (T b)) (2 * n) 2) (upd (va_cpy (va_cpy li li (16 * (T b)) (16 * n) 16) (va_cpy li li (16 * (T b)) (16 * n) 16) (16 * n + 8 * k + kk) (16 * n + 8 * k + kk + 1) (l9.length - kk)) (16 * n + 8 * k + kk) ((va_cpy (va_cpy li li (16 * (T b)) (16 * n) 16) (va_cpy li li (16 * (T b)) (16 * n) 16) (16 * n + 8 * k + kk) (16 * n + 8 * k + kk + 1) (l9.length - kk)) (16 * n + 8 * k + kk - 1))) (va_cpy le le (2 * (T b)) (2 * n) 2) (upd fi n (fi (T b))) (upd sc n (sc (T b))) ti un ma dr fr to en) := hD
          refine lv_iinc (k := 6) (v := nI (kk - 1)) (lv' := [(6, .int (nI (kk - 1))), (0, .ref h), (1, .int (nI (k + 6))), (2, .int (nI x)), (3, .int v), (4, .int (nI l9.length)), (5, .int (nI (16 * n + 8 * k)))]) hx hb dM_insert_157 hl rfl (rg_dec (by omega)) (by decide) rfl (fun ls hl => ?_)
          refine lv_goto (tgt := 129) hx hb dM_insert_160 (by decide) ?_
          exact ih129 (kk - 1) _ _ _ (by omega) (by omega) (by omega) (by rw [← rg_cpyD2 (va_cpy li li (16 * (T b)) (16 * n) 16) (16 * n + 8 * k) kk l9.length (by omega) (by omega)]; exact hP) (by rw [← rg_cpyD2 (va_cpy li li (16 * (T b)) (16 * n) 16) (16 * n + 8 * k) kk l9.length (by omega) (by omega)]; exact hD) hS (lv_sub hl [1, 2, 3, 4, 5, 6, 0] rfl)
    exact lp129 _ l9.length _ _ _ (Nat.lt_succ_self _) hxl (Nat.le_refl _) (by rw [Nat.sub_self, rg_cpy0]; exact hP) (by rw [Nat.sub_self, rg_cpy0]; exact hD) hS (lv_sub hl [3, 4, 5, 6, 2, 1, 0] rfl)
  refine rg_icmp_eq (tgt := 13) hx hb dM_insert_4 (by decide) (by omega) (by omega) (fun h17 => ?_) (fun h17 => ?_)
  · refine lv_iconst (v := nI 0) hx hb dM_insert_13 (by decide) ?_
    refine lv_goto (tgt := 18) hx hb dM_insert_14 (by decide) ?_
    exact J4 0 rfl
  · refine lv_iload_n hx hb dM_insert_7 rfl (lv_at hl 1 rfl) ?_
    refine lv_bipush (v := nI 7) hx hb dM_insert_8 (by decide) ?_
    refine rg_icmp_ne (tgt := 17) hx hb dM_insert_10 (by decide) (by omega) (by omega) (fun h18 => by exfalso; omega) (fun h18 => ?_)
    refine lv_iconst (v := nI 0) hx hb dM_insert_13 (by decide) ?_
    refine lv_goto (tgt := 18) hx hb dM_insert_14 (by decide) ?_
    exact J4 0 rfl
theorem c_rm_insert {l : Launch} {dC : Nat → ClassId} {dI : Nat → Nat → Nat} {h : Nat} {a : Nat → Nat} {cI cL : ClassId} {cod : Int32} {cof : Int32} {mad : Int32} {nu : Nat → Int32} {co : Nat → Int64} {se : Nat → Int32} {li : Nat → Int32} {le : Nat → Int32} {fi : Nat → Int32} {sc : Nat → Int32} {ti : Nat → Int32} {un : Nat → Int32} {ma : Nat → Int32} {dr : Nat → Int32} {fr : Nat → Int32} {to : Nat → Int32} {en : Nat → Int32} (n b : Nat) (Rr : Nat → rg_R) (P1 P2 : Nat → Int32) (T : Nat → Nat) (U : Nat → List Nat) (f x v : Int32) (hrep : rm_Rep (nI n) (nI b) cof nu co se li le fi sc ti un ma (n, Rr, P1, P2, T, U, b, cof)) : rg_M l yM_insert (Cond.code yM_insert prog_8_method_13_code 7 (some .int) :: rg_tbl) { frames := 3, cells := 0, slots := 0, locals := 69 } (dC, dI) rg_cl [(cI, .int), (cL, .long)] (rm_W h a cI cL cod (nI n) (nI b) cof mad nu co se li le fi sc ti un ma dr fr to en) [.ref h, .int f, .int x, .int v] (rg_QI (dC, dI) rg_cl [(cI, .int), (cL, .long)] (S := rm_S) (rm_Po (rg_oIns (n, Rr, P1, P2, T, U, b, cof) f x v)) (fun u => rm_Wu h a cI cL u)) 0 0 := by
  have key : ∀ k, k < 2 → rg_M l yM_insert (Cond.code yM_insert prog_8_method_13_code 7 (some .int) :: rg_tbl) { frames := 3, cells := 0, slots := 0, locals := 69 } (dC, dI) rg_cl [(cI, .int), (cL, .long)] (rm_W h a cI cL cod (nI n) (nI b) cof mad nu co se li le fi sc ti un ma dr fr to en) [.ref h, .int (nI (k + 6)), .int x, .int v] (rg_QI (dC, dI) rg_cl [(cI, .int), (cL, .long)] (S := rm_S) (rm_Po (rg_insK (n, Rr, P1, P2, T, U, b, cof) k x v)) (fun u => rm_Wu h a cI cL u)) 0 0 := by
    intro k hk
    unfold rg_insK
    by_cases hx0 : x < 0 ∨ nI ((Rr (T b)).2.2.2 k).length < x
    · rw [if_pos hx0]; exact c_rm_insert_badx n b Rr P1 P2 T U k hk _ rfl x v hx0 hrep
    · rw [if_neg hx0]
      obtain ⟨j, hj, rfl⟩ := nI_of (fun q => hx0 (Or.inl q))
      have hl8 : ((Rr (T b)).2.2.2 k).length ≤ 8 := hrep.1.2.2.2.2.2.2.2.2 (T b) (hrep.1.2.2.2.2.2.2.1 b hrep.1.2.2.2.2.2.2.2.1).1 k hk
      have hjl : j ≤ ((Rr (T b)).2.2.2 k).length := Nat.le_of_not_lt fun q => hx0 (Or.inr (nI_lt q hj))
      rw [nI_clamp hj]
      by_cases hf : ((Rr (T b)).2.2.2 k).length = 8 ∨ n = 60
      · rw [if_pos hf]; exact c_rm_insert_full n b Rr P1 P2 T U k hk _ rfl j v hjl hf hrep
      · rw [if_neg hf]; exact c_rm_insert_ok n b Rr P1 P2 T U k hk _ rfl j v hjl (fun q => hf (Or.inl q)) (fun q => hf (Or.inr q)) hrep
  unfold rg_oIns
  by_cases h0 : f = 6
  · subst h0; rw [if_pos rfl]; exact key 0 (by decide)
  · rw [if_neg h0]
    by_cases h1 : f = 7
    · subst h1; rw [if_pos rfl]; exact key 1 (by decide)
    · rw [if_neg h1]; exact c_rm_insert_badf n b Rr P1 P2 T U f x v h0 h1 hrep
set_option maxHeartbeats 4000000 in
set_option maxRecDepth 100000 in
theorem c_rm_remove_badf {l : Launch} {dC : Nat → ClassId} {dI : Nat → Nat → Nat} {h : Nat} {a : Nat → Nat} {cI cL : ClassId} {cod : Int32} {cof : Int32} {mad : Int32} {nu : Nat → Int32} {co : Nat → Int64} {se : Nat → Int32} {li : Nat → Int32} {le : Nat → Int32} {fi : Nat → Int32} {sc : Nat → Int32} {ti : Nat → Int32} {un : Nat → Int32} {ma : Nat → Int32} {dr : Nat → Int32} {fr : Nat → Int32} {to : Nat → Int32} {en : Nat → Int32} (n b : Nat) (Rr : Nat → rg_R) (P1 P2 : Nat → Int32) (T : Nat → Nat) (U : Nat → List Nat) (f x : Int32) (hf0 : ¬ f = 6) (hf1 : ¬ f = 7) (hrep : rm_Rep (nI n) (nI b) cof nu co se li le fi sc ti un ma (n, Rr, P1, P2, T, U, b, cof)) : rg_M l yM_remove (Cond.code yM_remove prog_8_method_14_code 6 (some .int) :: rg_tbl) { frames := 3, cells := 0, slots := 0, locals := 69 } (dC, dI) rg_cl [(cI, .int), (cL, .long)] (rm_W h a cI cL cod (nI n) (nI b) cof mad nu co se li le fi sc ti un ma dr fr to en) [.ref h, .int f, .int x] (rg_QI (dC, dI) rg_cl [(cI, .int), (cL, .long)] (S := rm_S) (rm_Po (1, 0, (n, Rr, P1, P2, T, U, b, cof))) (fun u => rm_Wu h a cI cL u)) 0 0 := by
  refine rg_of prog_8_method_14_code 6 (some .int) (by decide) rfl (Nat.le_of_ble_eq_true rfl) ?_
  intro p e R s m args below meth c Q A H locs ls hR hQ hx hb hml hr hts hown hlk hnm hP hK hD hA hS hl
  have hl : lv_has ls 6 [(0, .ref h), (1, .int f), (2, .int x)] := hl
  have hts : ∀ w ∈ rg_tbl, w.before args s = true := fun w h => hts w (List.mem_cons_of_mem _ h)
  have hok := hrep.1
  have hn1 : 1 ≤ n := hok.1
  have hn60 : n ≤ 60 := hok.2.1
  have hb4 : b < 4 := hok.2.2.2.2.2.2.2.1
  have hTb : T b < n := (hok.2.2.2.2.2.2.1 b hb4).1
  have hti : ti b = nI (T b) := (hrep.2.2.2.2.2.2 b hb4).1
  have hma : ma b = nI (U b).length := (hrep.2.2.2.2.2.2 b hb4).2.1
  refine lv_aload_n hx hb dM_remove_0 rfl (lv_at hl 0 rfl) ?_
  refine lv_iload_n hx hb dM_remove_1 rfl (lv_at hl 1 rfl) ?_
  refine lv_bipush (v := nI 6) hx hb dM_remove_2 (by decide) ?_
  refine lv_icmp_eq (tgt := 13) hx hb dM_remove_4 (by decide) (fun h1 => absurd h1 hf0) (fun h1 => ?_)
  refine lv_iload_n hx hb dM_remove_7 rfl (lv_at hl 1 rfl) ?_
  refine lv_bipush (v := nI 7) hx hb dM_remove_8 (by decide) ?_
  refine lv_icmp_ne (tgt := 17) hx hb dM_remove_10 (by decide) (fun h2 => ?_) (fun h2 => absurd h2 hf1)
  refine lv_iconst (v := nI 1) hx hb dM_remove_17 (by decide) ?_
  refine va_put (D := (dC, dI)) (ci := 0) (v := .int (nI 1)) (ty := .int) (C := "RevisionGroveModel") (T := TM) (N := 19) hx hb hts inM tyM tyM_ok nmM hown hK hP hD hS 0 rfl rfl 0 (by decide) (hts _ tw_601) (fun _ h9 => h9) rfl (by decide +kernel) rfl rfl (Nat.le_of_ble_eq_true rfl) dM_remove_18 (fun H locs hP hD hS => ?_)
  have hP : va_P (dC, dI) rg_cl (rm_W h a cI cL (nI 1) (nI n) (nI b) cof mad nu co se li le fi sc ti un ma dr fr to en) H := hP
  have hD : va_D A (rm_W h a cI cL (nI 1) (nI n) (nI b) cof mad nu co se li le fi sc ti un ma dr fr to en) := hD
  refine lv_aload_n hx hb dM_remove_21 rfl (lv_at hl 0 rfl) ?_
  refine va_get (D := (dC, dI)) (ci := 0) (C := "RevisionGroveModel") (T := TM) (N := 19) hx hb hts inM hown hK hP 0 rfl rfl 0 (by decide) (hts _ tw_601) (fun _ h9 => h9) rfl dM_remove_22 ?_
  refine rg_ifN_le (tgt := 30) hx hb dM_remove_25 (by decide) (by decide) (fun h3 => by exfalso; omega) (fun h3 => ?_)
  refine lv_iconst (v := nI 0) hx hb dM_remove_28 (by decide) ?_
  rw [hQ]
  exact rg_iret hx hb hr hlk hK hP hD hS dM_remove_29 (nI 1, nI n, nI b, cof, mad, nu, co, se, li, le, fi, sc, ti, un, ma, dr, fr, to, en) rfl (⟨hrep, rfl, rfl⟩)
set_option maxHeartbeats 4000000 in
set_option maxRecDepth 100000 in
theorem c_rm_remove_badx {l : Launch} {dC : Nat → ClassId} {dI : Nat → Nat → Nat} {h : Nat} {a : Nat → Nat} {cI cL : ClassId} {cod : Int32} {cof : Int32} {mad : Int32} {nu : Nat → Int32} {co : Nat → Int64} {se : Nat → Int32} {li : Nat → Int32} {le : Nat → Int32} {fi : Nat → Int32} {sc : Nat → Int32} {ti : Nat → Int32} {un : Nat → Int32} {ma : Nat → Int32} {dr : Nat → Int32} {fr : Nat → Int32} {to : Nat → Int32} {en : Nat → Int32} (n b : Nat) (Rr : Nat → rg_R) (P1 P2 : Nat → Int32) (T : Nat → Nat) (U : Nat → List Nat) (k : Nat) (hk2 : k < 2) (l9 : List Int32) (hl9 : (Rr (T b)).2.2.2 k = l9) (x : Int32) (hx0 : x < 0 ∨ nI l9.length ≤ x) (hrep : rm_Rep (nI n) (nI b) cof nu co se li le fi sc ti un ma (n, Rr, P1, P2, T, U, b, cof)) : rg_M l yM_remove (Cond.code yM_remove prog_8_method_14_code 6 (some .int) :: rg_tbl) { frames := 3, cells := 0, slots := 0, locals := 69 } (dC, dI) rg_cl [(cI, .int), (cL, .long)] (rm_W h a cI cL cod (nI n) (nI b) cof mad nu co se li le fi sc ti un ma dr fr to en) [.ref h, .int (nI (k + 6)), .int x] (rg_QI (dC, dI) rg_cl [(cI, .int), (cL, .long)] (S := rm_S) (rm_Po (2, 0, (n, Rr, P1, P2, T, U, b, cof))) (fun u => rm_Wu h a cI cL u)) 0 0 := by
  refine rg_of prog_8_method_14_code 6 (some .int) (by decide) rfl (Nat.le_of_ble_eq_true rfl) ?_
  intro p e R s m args below meth c Q A H locs ls hR hQ hx hb hml hr hts hown hlk hnm hP hK hD hA hS hl
  have hl : lv_has ls 6 [(0, .ref h), (1, .int (nI (k + 6))), (2, .int x)] := hl
  have hts : ∀ w ∈ rg_tbl, w.before args s = true := fun w h => hts w (List.mem_cons_of_mem _ h)
  have hok := hrep.1
  have hn1 : 1 ≤ n := hok.1
  have hn60 : n ≤ 60 := hok.2.1
  have hb4 : b < 4 := hok.2.2.2.2.2.2.2.1
  have hTb : T b < n := (hok.2.2.2.2.2.2.1 b hb4).1
  have hti : ti b = nI (T b) := (hrep.2.2.2.2.2.2 b hb4).1
  have hma : ma b = nI (U b).length := (hrep.2.2.2.2.2.2 b hb4).2.1
  refine lv_aload_n hx hb dM_remove_0 rfl (lv_at hl 0 rfl) ?_
  refine lv_iload_n hx hb dM_remove_1 rfl (lv_at hl 1 rfl) ?_
  refine lv_bipush (v := nI 6) hx hb dM_remove_2 (by decide) ?_
  have J4 : ∀ v9 : Nat, v9 = 0 → W p l e R s m args below meth c H locs 0 0 Q (F0 m 18 ls [.int (nI v9), .ref h]) := by
    intro v9 hv9
    subst hv9
    refine va_put (D := (dC, dI)) (ci := 0) (v := .int (nI 0)) (ty := .int) (C := "RevisionGroveModel") (T := TM) (N := 19) hx hb hts inM tyM tyM_ok nmM hown hK hP hD hS 0 rfl rfl 0 (by decide) (hts _ tw_601) (fun _ h9 => h9) rfl (by decide +kernel) rfl rfl (Nat.le_of_ble_eq_true rfl) dM_remove_18 (fun H locs hP hD hS => ?_)
    have hP : va_P (dC, dI) rg_cl (rm_W h a cI cL (nI 0) (nI n) (nI b) cof mad nu co se li le fi sc ti un ma dr fr to en) H := hP
    have hD : va_D A (rm_W h a cI cL (nI 0) (nI n) (nI b) cof mad nu co se li le fi sc ti un ma dr fr to en) := hD
    refine lv_aload_n hx hb dM_remove_21 rfl (lv_at hl 0 rfl) ?_
    refine va_get (D := (dC, dI)) (ci := 0) (C := "RevisionGroveModel") (T := TM) (N := 19) hx hb hts inM hown hK hP 0 rfl rfl 0 (by decide) (hts _ tw_601) (fun _ h9 => h9) rfl dM_remove_22 ?_
    refine rg_ifN_le (tgt := 30) hx hb dM_remove_25 (by decide) (by decide) (fun h1 => ?_) (fun h1 => by exfalso; omega)
    refine lv_aload_n hx hb dM_remove_30 rfl (lv_at hl 0 rfl) ?_
    refine lv_aload_n hx hb dM_remove_31 rfl (lv_at hl 0 rfl) ?_
    refine rg_calli hD hS hA (va_runV (As := []) (rest := [.ref h]) ⟨hx, hb, hml, hown, hts⟩ (c_rm_here b (by omega) _) (cwV 0 hts (rg_gV tw_667 tw_669 ts_M_here tw_5 tw_670) rfl rfl rfl (by decide +kernel) ⟨by rw [hR]; exact Nat.le_of_ble_eq_true rfl, by rw [hR]; exact Nat.le_of_ble_eq_true rfl⟩) (rg_preV rfl hK hP hD (ci := 0) (q0 := 0) rfl rfl) rfl rfl hl.1 rfl (lv_room (Nat.le_of_ble_eq_true rfl)) dM_remove_32 ⟨Nat.zero_le _, Nat.zero_le _⟩) (fun r2 u3 H locs hw4 hP hD hS => ?_)
    subst hw4
    have hP : va_P (dC, dI) rg_cl (rm_W h a cI cL (nI 0) (nI n) (nI b) cof mad nu co se li le fi sc ti un ma dr fr to en) H := hP
    have hD : va_D A (rm_W h a cI cL (nI 0) (nI n) (nI b) cof mad nu co se li le fi sc ti un ma dr fr to en) := hD
    refine rg_top (show (.int (ti b) : Value) = .int (nI (T b)) by rw [hti]) ?_
    refine lv_aload_n hx hb dM_remove_35 rfl (lv_at hl 0 rfl) ?_
    refine va_get (D := (dC, dI)) (ci := 0) (C := "RevisionGroveModel") (T := TM) (N := 19) hx hb hts inM hown hK hP 0 rfl rfl 1 (by decide) (hts _ tw_602) (fun _ h9 => h9) rfl dM_remove_36 ?_
    refine rg_callv hD hS hA (va_runV (As := [.int (nI (T b)), .int (nI n)]) (rest := []) ⟨hx, hb, hml, hown, hts⟩ (c_rm_copy (T b) n (by omega) (by omega) _) (cwV 2 hts (rg_gV tw_671 tw_673 ts_M_copy tw_5 tw_674) rfl rfl rfl (by decide +kernel) ⟨by rw [hR]; exact Nat.le_of_ble_eq_true rfl, by rw [hR]; exact Nat.le_of_ble_eq_true rfl⟩) (rg_preV rfl hK hP hD (ci := 0) (q0 := 0) rfl rfl) rfl rfl hl.1 rfl (lv_room (Nat.le_of_ble_eq_true rfl)) dM_remove_39 ⟨Nat.zero_le _, Nat.zero_le _⟩) (fun u6 H locs hw7 hP hD hS => ?_)
    have hP : va_P (dC, dI) rg_cl (rm_W h a cI cL (nI 0) (nI n) (nI b) cof mad (va_cpy nu nu (2 * (T b)) (2 * n) 2) (va_cpy co co (2 * (T b)) (2 * n) 2) (va_cpy se se (2 * (T b)) (2 * n) 2) (va_cpy li li (16 * (T b)) (16 * n) 16) (va_cpy le le (2 * (T b)) (2 * n) 2) (upd fi n (fi (T b))) (upd sc n (sc (T b))) ti un ma dr fr to en) H := hP
    have hD : va_D A (rm_W h a cI cL (nI 0) (nI n) (nI b) cof mad (va_cpy nu nu (2 * (T b)) (2 * n) 2) (va_cpy co co (2 * (T b)) (2 * n) 2) (va_cpy se se (2 * (T b)) (2 * n) 2) (va_cpy li li (16 * (T b)) (16 * n) 16) (va_cpy le le (2 * (T b)) (2 * n) 2) (upd fi n (fi (T b))) (upd sc n (sc (T b))) ti un ma dr fr to en) := hD
    have hX0 : rg_MR (va_cpy nu nu (2 * (T b)) (2 * n) 2) (va_cpy co co (2 * (T b)) (2 * n) 2) (va_cpy se se (2 * (T b)) (2 * n) 2) (va_cpy le le (2 * (T b)) (2 * n) 2) (va_cpy li li (16 * (T b)) (16 * n) 16) n (Rr (T b)) := rg_MR_copy (hrep.2.2.2.2.1 (T b) hTb)
    have q5 := (hX0 k (by omega)).2.2.2.2.1
    have q4 := (hX0 k (by omega)).2.2.2.1
    have q6 := (hX0 k (by omega)).2.2.2.2.2
    rw [hl9] at q4 q5 q6
    refine lv_aload_n hx hb dM_remove_42 rfl (lv_at hl 0 rfl) ?_
    refine va_get (D := (dC, dI)) (ci := 0) (C := "RevisionGroveModel") (T := TM) (N := 19) hx hb hts inM hown hK hP 0 rfl rfl 6 (by decide) (hts _ tw_607) (fun _ h9 => h9) rfl dM_remove_43 ?_
    refine lv_iconst (v := nI 2) hx hb dM_remove_46 (by decide) ?_
    refine lv_aload_n hx hb dM_remove_47 rfl (lv_at hl 0 rfl) ?_
    refine va_get (D := (dC, dI)) (ci := 0) (C := "RevisionGroveModel") (T := TM) (N := 19) hx hb hts inM hown hK hP 0 rfl rfl 1 (by decide) (hts _ tw_602) (fun _ h9 => h9) rfl dM_remove_48 ?_
    refine rg_imul hx hb dM_remove_51 ?_
    refine lv_iload_n hx hb dM_remove_52 rfl (lv_at hl 1 rfl) ?_
    refine rg_iadd hx hb dM_remove_53 ?_
    refine lv_bipush (v := nI 6) hx hb dM_remove_54 (by decide) ?_
    refine rg_isub hx hb dM_remove_56 (by omega) ?_
    refine rg_top (show (.int (nI (2 * n + (k + 6) - 6)) : Value) = .int (nI (2 * n + k)) by rw [show 2 * n + (k + 6) - 6 = 2 * n + k by omega]) ?_
    refine rg_iald hx hb hK hP 5 0 rfl rfl (by decide) (by omega) dM_remove_57 ?_
    refine rg_top (show (.int ((va_cpy le le (2 * (T b)) (2 * n) 2) (2 * n + k)) : Value) = .int (nI l9.length) by rw [q5]) ?_
    refine lv_istore_n (lv' := [(3, .int (nI l9.length)), (0, .ref h), (1, .int (nI (k + 6))), (2, .int x)]) hx hb dM_remove_58 rfl hl (by decide) rfl (fun ls hl => ?_)
    refine lv_aload_n hx hb dM_remove_59 rfl (lv_at hl 1 rfl) ?_
    refine lv_iload_n hx hb dM_remove_60 rfl (lv_at hl 3 rfl) ?_
    refine lv_if_lt (tgt := 69) hx hb dM_remove_61 (by decide) (fun h8 => ?_) (fun h8 => ?_)
    · refine lv_iconst (v := nI 2) hx hb dM_remove_69 (by decide) ?_
      refine lv_goto (tgt := 87) hx hb dM_remove_70 (by decide) ?_
      refine va_put (D := (dC, dI)) (ci := 0) (v := .int (nI 2)) (ty := .int) (C := "RevisionGroveModel") (T := TM) (N := 19) hx hb hts inM tyM tyM_ok nmM hown hK hP hD hS 0 rfl rfl 0 (by decide) (hts _ tw_601) (fun _ h9 => h9) rfl (by decide +kernel) rfl rfl (Nat.le_of_ble_eq_true rfl) dM_remove_87 (fun H locs hP hD hS => ?_)
      have hP : va_P (dC, dI) rg_cl (rm_W h a cI cL (nI 2) (nI n) (nI b) cof mad (va_cpy nu nu (2 * (T b)) (2 * n) 2) (va_cpy co co (2 * (T b)) (2 * n) 2) (va_cpy se se (2 * (T b)) (2 * n) 2) (va_cpy li li (16 * (T b)) (16 * n) 16) (va_cpy le le (2 * (T b)) (2 * n) 2) (upd fi n (fi (T b))) (upd sc n (sc (T b))) ti un ma dr fr to en) H := hP
      have hD : va_D A (rm_W h a cI cL (nI 2) (nI n) (nI b) cof mad (va_cpy nu nu (2 * (T b)) (2 * n) 2) (va_cpy co co (2 * (T b)) (2 * n) 2) (va_cpy se se (2 * (T b)) (2 * n) 2) (va_cpy li li (16 * (T b)) (16 * n) 16) (va_cpy le le (2 * (T b)) (2 * n) 2) (upd fi n (fi (T b))) (upd sc n (sc (T b))) ti un ma dr fr to en) := hD
      refine lv_aload_n hx hb dM_remove_90 rfl (lv_at hl 1 rfl) ?_
      refine va_get (D := (dC, dI)) (ci := 0) (C := "RevisionGroveModel") (T := TM) (N := 19) hx hb hts inM hown hK hP 0 rfl rfl 0 (by decide) (hts _ tw_601) (fun _ h9 => h9) rfl dM_remove_91 ?_
      refine rg_ifN_le (tgt := 99) hx hb dM_remove_94 (by decide) (by decide) (fun h9 => by exfalso; omega) (fun h9 => ?_)
      refine lv_iconst (v := nI 0) hx hb dM_remove_97 (by decide) ?_
      rw [hQ]
      exact rg_iret hx hb hr hlk hK hP hD hS dM_remove_98 (nI 2, nI n, nI b, cof, mad, va_cpy nu nu (2 * (T b)) (2 * n) 2, va_cpy co co (2 * (T b)) (2 * n) 2, va_cpy se se (2 * (T b)) (2 * n) 2, va_cpy li li (16 * (T b)) (16 * n) 16, va_cpy le le (2 * (T b)) (2 * n) 2, upd fi n (fi (T b)), upd sc n (sc (T b)), ti, un, ma, dr, fr, to, en) rfl (⟨rm_Rep_junk hrep (fun j hj => by have hj : j < 2 * n := hj; rw [pk_cpy_out (by omega)]) (fun j hj => by have hj : j < 2 * n := hj; rw [pk_cpy_out (by omega)]) (fun j hj => by have hj : j < 2 * n := hj; rw [pk_cpy_out (by omega)]) (fun j hj => by have hj : j < 2 * n := hj; rw [pk_cpy_out (by omega)]) (fun j hj => by have hj : j < 16 * n := hj; rw [pk_cpy_out (by omega)]) (fun j hj => by have hj : j < n := hj; rw [pk_un (by omega)]) (fun j hj => by have hj : j < n := hj; rw [pk_un (by omega)]), rfl, rfl⟩)
    · refine lv_iload_n hx hb dM_remove_64 rfl (lv_at hl 3 rfl) ?_
      refine lv_iload_n hx hb dM_remove_65 rfl (lv_at hl 0 rfl) ?_
      refine lv_icmp_lt (tgt := 73) hx hb dM_remove_66 (by decide) (fun h10 => absurd hx0 (fun q => q.elim h8 (fun q => Int32.not_lt.mpr q h10))) (fun h10 => ?_)
      refine lv_iconst (v := nI 2) hx hb dM_remove_69 (by decide) ?_
      refine lv_goto (tgt := 87) hx hb dM_remove_70 (by decide) ?_
      refine va_put (D := (dC, dI)) (ci := 0) (v := .int (nI 2)) (ty := .int) (C := "RevisionGroveModel") (T := TM) (N := 19) hx hb hts inM tyM tyM_ok nmM hown hK hP hD hS 0 rfl rfl 0 (by decide) (hts _ tw_601) (fun _ h9 => h9) rfl (by decide +kernel) rfl rfl (Nat.le_of_ble_eq_true rfl) dM_remove_87 (fun H locs hP hD hS => ?_)
      have hP : va_P (dC, dI) rg_cl (rm_W h a cI cL (nI 2) (nI n) (nI b) cof mad (va_cpy nu nu (2 * (T b)) (2 * n) 2) (va_cpy co co (2 * (T b)) (2 * n) 2) (va_cpy se se (2 * (T b)) (2 * n) 2) (va_cpy li li (16 * (T b)) (16 * n) 16) (va_cpy le le (2 * (T b)) (2 * n) 2) (upd fi n (fi (T b))) (upd sc n (sc (T b))) ti un ma dr fr to en) H := hP
      have hD : va_D A (rm_W h a cI cL (nI 2) (nI n) (nI b) cof mad (va_cpy nu nu (2 * (T b)) (2 * n) 2) (va_cpy co co (2 * (T b)) (2 * n) 2) (va_cpy se se (2 * (T b)) (2 * n) 2) (va_cpy li li (16 * (T b)) (16 * n) 16) (va_cpy le le (2 * (T b)) (2 * n) 2) (upd fi n (fi (T b))) (upd sc n (sc (T b))) ti un ma dr fr to en) := hD
      refine lv_aload_n hx hb dM_remove_90 rfl (lv_at hl 1 rfl) ?_
      refine va_get (D := (dC, dI)) (ci := 0) (C := "RevisionGroveModel") (T := TM) (N := 19) hx hb hts inM hown hK hP 0 rfl rfl 0 (by decide) (hts _ tw_601) (fun _ h9 => h9) rfl dM_remove_91 ?_
      refine rg_ifN_le (tgt := 99) hx hb dM_remove_94 (by decide) (by decide) (fun h11 => by exfalso; omega) (fun h11 => ?_)
      refine lv_iconst (v := nI 0) hx hb dM_remove_97 (by decide) ?_
      rw [hQ]
      exact rg_iret hx hb hr hlk hK hP hD hS dM_remove_98 (nI 2, nI n, nI b, cof, mad, va_cpy nu nu (2 * (T b)) (2 * n) 2, va_cpy co co (2 * (T b)) (2 * n) 2, va_cpy se se (2 * (T b)) (2 * n) 2, va_cpy li li (16 * (T b)) (16 * n) 16, va_cpy le le (2 * (T b)) (2 * n) 2, upd fi n (fi (T b)), upd sc n (sc (T b)), ti, un, ma, dr, fr, to, en) rfl (⟨rm_Rep_junk hrep (fun j hj => by have hj : j < 2 * n := hj; rw [pk_cpy_out (by omega)]) (fun j hj => by have hj : j < 2 * n := hj; rw [pk_cpy_out (by omega)]) (fun j hj => by have hj : j < 2 * n := hj; rw [pk_cpy_out (by omega)]) (fun j hj => by have hj : j < 2 * n := hj; rw [pk_cpy_out (by omega)]) (fun j hj => by have hj : j < 16 * n := hj; rw [pk_cpy_out (by omega)]) (fun j hj => by have hj : j < n := hj; rw [pk_un (by omega)]) (fun j hj => by have hj : j < n := hj; rw [pk_un (by omega)]), rfl, rfl⟩)
  refine rg_icmp_eq (tgt := 13) hx hb dM_remove_4 (by decide) (by omega) (by omega) (fun h12 => ?_) (fun h12 => ?_)
  · refine lv_iconst (v := nI 0) hx hb dM_remove_13 (by decide) ?_
    refine lv_goto (tgt := 18) hx hb dM_remove_14 (by decide) ?_
    exact J4 0 rfl
  · refine lv_iload_n hx hb dM_remove_7 rfl (lv_at hl 1 rfl) ?_
    refine lv_bipush (v := nI 7) hx hb dM_remove_8 (by decide) ?_
    refine rg_icmp_ne (tgt := 17) hx hb dM_remove_10 (by decide) (by omega) (by omega) (fun h13 => by exfalso; omega) (fun h13 => ?_)
    refine lv_iconst (v := nI 0) hx hb dM_remove_13 (by decide) ?_
    refine lv_goto (tgt := 18) hx hb dM_remove_14 (by decide) ?_
    exact J4 0 rfl
set_option maxHeartbeats 4000000 in
set_option maxRecDepth 100000 in
theorem c_rm_remove_full {l : Launch} {dC : Nat → ClassId} {dI : Nat → Nat → Nat} {h : Nat} {a : Nat → Nat} {cI cL : ClassId} {cod : Int32} {cof : Int32} {mad : Int32} {nu : Nat → Int32} {co : Nat → Int64} {se : Nat → Int32} {li : Nat → Int32} {le : Nat → Int32} {fi : Nat → Int32} {sc : Nat → Int32} {ti : Nat → Int32} {un : Nat → Int32} {ma : Nat → Int32} {dr : Nat → Int32} {fr : Nat → Int32} {to : Nat → Int32} {en : Nat → Int32} (n b : Nat) (Rr : Nat → rg_R) (P1 P2 : Nat → Int32) (T : Nat → Nat) (U : Nat → List Nat) (k : Nat) (hk2 : k < 2) (l9 : List Int32) (hl9 : (Rr (T b)).2.2.2 k = l9) (x : Nat) (hxl : x < l9.length) (hfull : n = 60) (hrep : rm_Rep (nI n) (nI b) cof nu co se li le fi sc ti un ma (n, Rr, P1, P2, T, U, b, cof)) : rg_M l yM_remove (Cond.code yM_remove prog_8_method_14_code 6 (some .int) :: rg_tbl) { frames := 3, cells := 0, slots := 0, locals := 69 } (dC, dI) rg_cl [(cI, .int), (cL, .long)] (rm_W h a cI cL cod (nI n) (nI b) cof mad nu co se li le fi sc ti un ma dr fr to en) [.ref h, .int (nI (k + 6)), .int (nI x)] (rg_QI (dC, dI) rg_cl [(cI, .int), (cL, .long)] (S := rm_S) (rm_Po (3, 0, (n, Rr, P1, P2, T, U, b, cof))) (fun u => rm_Wu h a cI cL u)) 0 0 := by
  refine rg_of prog_8_method_14_code 6 (some .int) (by decide) rfl (Nat.le_of_ble_eq_true rfl) ?_
  intro p e R s m args below meth c Q A H locs ls hR hQ hx hb hml hr hts hown hlk hnm hP hK hD hA hS hl
  have hl : lv_has ls 6 [(0, .ref h), (1, .int (nI (k + 6))), (2, .int (nI x))] := hl
  have hts : ∀ w ∈ rg_tbl, w.before args s = true := fun w h => hts w (List.mem_cons_of_mem _ h)
  have hok := hrep.1
  have hn1 : 1 ≤ n := hok.1
  have hn60 : n ≤ 60 := hok.2.1
  have hb4 : b < 4 := hok.2.2.2.2.2.2.2.1
  have hTb : T b < n := (hok.2.2.2.2.2.2.1 b hb4).1
  have hti : ti b = nI (T b) := (hrep.2.2.2.2.2.2 b hb4).1
  have hma : ma b = nI (U b).length := (hrep.2.2.2.2.2.2 b hb4).2.1
  refine lv_aload_n hx hb dM_remove_0 rfl (lv_at hl 0 rfl) ?_
  refine lv_iload_n hx hb dM_remove_1 rfl (lv_at hl 1 rfl) ?_
  refine lv_bipush (v := nI 6) hx hb dM_remove_2 (by decide) ?_
  have J4 : ∀ v9 : Nat, v9 = 0 → W p l e R s m args below meth c H locs 0 0 Q (F0 m 18 ls [.int (nI v9), .ref h]) := by
    intro v9 hv9
    subst hv9
    refine va_put (D := (dC, dI)) (ci := 0) (v := .int (nI 0)) (ty := .int) (C := "RevisionGroveModel") (T := TM) (N := 19) hx hb hts inM tyM tyM_ok nmM hown hK hP hD hS 0 rfl rfl 0 (by decide) (hts _ tw_601) (fun _ h9 => h9) rfl (by decide +kernel) rfl rfl (Nat.le_of_ble_eq_true rfl) dM_remove_18 (fun H locs hP hD hS => ?_)
    have hP : va_P (dC, dI) rg_cl (rm_W h a cI cL (nI 0) (nI n) (nI b) cof mad nu co se li le fi sc ti un ma dr fr to en) H := hP
    have hD : va_D A (rm_W h a cI cL (nI 0) (nI n) (nI b) cof mad nu co se li le fi sc ti un ma dr fr to en) := hD
    refine lv_aload_n hx hb dM_remove_21 rfl (lv_at hl 0 rfl) ?_
    refine va_get (D := (dC, dI)) (ci := 0) (C := "RevisionGroveModel") (T := TM) (N := 19) hx hb hts inM hown hK hP 0 rfl rfl 0 (by decide) (hts _ tw_601) (fun _ h9 => h9) rfl dM_remove_22 ?_
    refine rg_ifN_le (tgt := 30) hx hb dM_remove_25 (by decide) (by decide) (fun h1 => ?_) (fun h1 => by exfalso; omega)
    refine lv_aload_n hx hb dM_remove_30 rfl (lv_at hl 0 rfl) ?_
    refine lv_aload_n hx hb dM_remove_31 rfl (lv_at hl 0 rfl) ?_
    refine rg_calli hD hS hA (va_runV (As := []) (rest := [.ref h]) ⟨hx, hb, hml, hown, hts⟩ (c_rm_here b (by omega) _) (cwV 0 hts (rg_gV tw_667 tw_669 ts_M_here tw_5 tw_670) rfl rfl rfl (by decide +kernel) ⟨by rw [hR]; exact Nat.le_of_ble_eq_true rfl, by rw [hR]; exact Nat.le_of_ble_eq_true rfl⟩) (rg_preV rfl hK hP hD (ci := 0) (q0 := 0) rfl rfl) rfl rfl hl.1 rfl (lv_room (Nat.le_of_ble_eq_true rfl)) dM_remove_32 ⟨Nat.zero_le _, Nat.zero_le _⟩) (fun r2 u3 H locs hw4 hP hD hS => ?_)
    subst hw4
    have hP : va_P (dC, dI) rg_cl (rm_W h a cI cL (nI 0) (nI n) (nI b) cof mad nu co se li le fi sc ti un ma dr fr to en) H := hP
    have hD : va_D A (rm_W h a cI cL (nI 0) (nI n) (nI b) cof mad nu co se li le fi sc ti un ma dr fr to en) := hD
    refine rg_top (show (.int (ti b) : Value) = .int (nI (T b)) by rw [hti]) ?_
    refine lv_aload_n hx hb dM_remove_35 rfl (lv_at hl 0 rfl) ?_
    refine va_get (D := (dC, dI)) (ci := 0) (C := "RevisionGroveModel") (T := TM) (N := 19) hx hb hts inM hown hK hP 0 rfl rfl 1 (by decide) (hts _ tw_602) (fun _ h9 => h9) rfl dM_remove_36 ?_
    refine rg_callv hD hS hA (va_runV (As := [.int (nI (T b)), .int (nI n)]) (rest := []) ⟨hx, hb, hml, hown, hts⟩ (c_rm_copy (T b) n (by omega) (by omega) _) (cwV 2 hts (rg_gV tw_671 tw_673 ts_M_copy tw_5 tw_674) rfl rfl rfl (by decide +kernel) ⟨by rw [hR]; exact Nat.le_of_ble_eq_true rfl, by rw [hR]; exact Nat.le_of_ble_eq_true rfl⟩) (rg_preV rfl hK hP hD (ci := 0) (q0 := 0) rfl rfl) rfl rfl hl.1 rfl (lv_room (Nat.le_of_ble_eq_true rfl)) dM_remove_39 ⟨Nat.zero_le _, Nat.zero_le _⟩) (fun u6 H locs hw7 hP hD hS => ?_)
    have hP : va_P (dC, dI) rg_cl (rm_W h a cI cL (nI 0) (nI n) (nI b) cof mad (va_cpy nu nu (2 * (T b)) (2 * n) 2) (va_cpy co co (2 * (T b)) (2 * n) 2) (va_cpy se se (2 * (T b)) (2 * n) 2) (va_cpy li li (16 * (T b)) (16 * n) 16) (va_cpy le le (2 * (T b)) (2 * n) 2) (upd fi n (fi (T b))) (upd sc n (sc (T b))) ti un ma dr fr to en) H := hP
    have hD : va_D A (rm_W h a cI cL (nI 0) (nI n) (nI b) cof mad (va_cpy nu nu (2 * (T b)) (2 * n) 2) (va_cpy co co (2 * (T b)) (2 * n) 2) (va_cpy se se (2 * (T b)) (2 * n) 2) (va_cpy li li (16 * (T b)) (16 * n) 16) (va_cpy le le (2 * (T b)) (2 * n) 2) (upd fi n (fi (T b))) (upd sc n (sc (T b))) ti un ma dr fr to en) := hD
    have hX0 : rg_MR (va_cpy nu nu (2 * (T b)) (2 * n) 2) (va_cpy co co (2 * (T b)) (2 * n) 2) (va_cpy se se (2 * (T b)) (2 * n) 2) (va_cpy le le (2 * (T b)) (2 * n) 2) (va_cpy li li (16 * (T b)) (16 * n) 16) n (Rr (T b)) := rg_MR_copy (hrep.2.2.2.2.1 (T b) hTb)
    have q5 := (hX0 k (by omega)).2.2.2.2.1
    have q4 := (hX0 k (by omega)).2.2.2.1
    have q6 := (hX0 k (by omega)).2.2.2.2.2
    rw [hl9] at q4 q5 q6
    refine lv_aload_n hx hb dM_remove_42 rfl (lv_at hl 0 rfl) ?_
    refine va_get (D := (dC, dI)) (ci := 0) (C := "RevisionGroveModel") (T := TM) (N := 19) hx hb hts inM hown hK hP 0 rfl rfl 6 (by decide) (hts _ tw_607) (fun _ h9 => h9) rfl dM_remove_43 ?_
    refine lv_iconst (v := nI 2) hx hb dM_remove_46 (by decide) ?_
    refine lv_aload_n hx hb dM_remove_47 rfl (lv_at hl 0 rfl) ?_
    refine va_get (D := (dC, dI)) (ci := 0) (C := "RevisionGroveModel") (T := TM) (N := 19) hx hb hts inM hown hK hP 0 rfl rfl 1 (by decide) (hts _ tw_602) (fun _ h9 => h9) rfl dM_remove_48 ?_
    refine rg_imul hx hb dM_remove_51 ?_
    refine lv_iload_n hx hb dM_remove_52 rfl (lv_at hl 1 rfl) ?_
    refine rg_iadd hx hb dM_remove_53 ?_
    refine lv_bipush (v := nI 6) hx hb dM_remove_54 (by decide) ?_
    refine rg_isub hx hb dM_remove_56 (by omega) ?_
    refine rg_top (show (.int (nI (2 * n + (k + 6) - 6)) : Value) = .int (nI (2 * n + k)) by rw [show 2 * n + (k + 6) - 6 = 2 * n + k by omega]) ?_
    refine rg_iald hx hb hK hP 5 0 rfl rfl (by decide) (by omega) dM_remove_57 ?_
    refine rg_top (show (.int ((va_cpy le le (2 * (T b)) (2 * n) 2) (2 * n + k)) : Value) = .int (nI l9.length) by rw [q5]) ?_
    refine lv_istore_n (lv' := [(3, .int (nI l9.length)), (0, .ref h), (1, .int (nI (k + 6))), (2, .int (nI x))]) hx hb dM_remove_58 rfl hl (by decide) rfl (fun ls hl => ?_)
    refine lv_aload_n hx hb dM_remove_59 rfl (lv_at hl 1 rfl) ?_
    refine lv_iload_n hx hb dM_remove_60 rfl (lv_at hl 3 rfl) ?_
    refine rg_ifN_lt (tgt := 69) hx hb dM_remove_61 (by decide) (by omega) (fun h8 => h8.elim) (fun h8 => ?_)
    refine lv_iload_n hx hb dM_remove_64 rfl (lv_at hl 3 rfl) ?_
    refine lv_iload_n hx hb dM_remove_65 rfl (lv_at hl 0 rfl) ?_
    refine rg_icmp_lt (tgt := 73) hx hb dM_remove_66 (by decide) (by omega) (by omega) (fun h9 => ?_) (fun h9 => by exfalso; omega)
    refine lv_aload_n hx hb dM_remove_73 rfl (lv_at hl 1 rfl) ?_
    refine va_get (D := (dC, dI)) (ci := 0) (C := "RevisionGroveModel") (T := TM) (N := 19) hx hb hts inM hown hK hP 0 rfl rfl 1 (by decide) (hts _ tw_602) (fun _ h9 => h9) rfl dM_remove_74 ?_
    refine lv_bipush (v := nI 60) hx hb dM_remove_77 (by decide) ?_
    refine rg_icmp_ne (tgt := 86) hx hb dM_remove_79 (by decide) (by omega) (by omega) (fun h10 => by exfalso; omega) (fun h10 => ?_)
    refine lv_iconst (v := nI 3) hx hb dM_remove_82 (by decide) ?_
    refine lv_goto (tgt := 87) hx hb dM_remove_83 (by decide) ?_
    refine va_put (D := (dC, dI)) (ci := 0) (v := .int (nI 3)) (ty := .int) (C := "RevisionGroveModel") (T := TM) (N := 19) hx hb hts inM tyM tyM_ok nmM hown hK hP hD hS 0 rfl rfl 0 (by decide) (hts _ tw_601) (fun _ h9 => h9) rfl (by decide +kernel) rfl rfl (Nat.le_of_ble_eq_true rfl) dM_remove_87 (fun H locs hP hD hS => ?_)
    have hP : va_P (dC, dI) rg_cl (rm_W h a cI cL (nI 3) (nI n) (nI b) cof mad (va_cpy nu nu (2 * (T b)) (2 * n) 2) (va_cpy co co (2 * (T b)) (2 * n) 2) (va_cpy se se (2 * (T b)) (2 * n) 2) (va_cpy li li (16 * (T b)) (16 * n) 16) (va_cpy le le (2 * (T b)) (2 * n) 2) (upd fi n (fi (T b))) (upd sc n (sc (T b))) ti un ma dr fr to en) H := hP
    have hD : va_D A (rm_W h a cI cL (nI 3) (nI n) (nI b) cof mad (va_cpy nu nu (2 * (T b)) (2 * n) 2) (va_cpy co co (2 * (T b)) (2 * n) 2) (va_cpy se se (2 * (T b)) (2 * n) 2) (va_cpy li li (16 * (T b)) (16 * n) 16) (va_cpy le le (2 * (T b)) (2 * n) 2) (upd fi n (fi (T b))) (upd sc n (sc (T b))) ti un ma dr fr to en) := hD
    refine lv_aload_n hx hb dM_remove_90 rfl (lv_at hl 1 rfl) ?_
    refine va_get (D := (dC, dI)) (ci := 0) (C := "RevisionGroveModel") (T := TM) (N := 19) hx hb hts inM hown hK hP 0 rfl rfl 0 (by decide) (hts _ tw_601) (fun _ h9 => h9) rfl dM_remove_91 ?_
    refine rg_ifN_le (tgt := 99) hx hb dM_remove_94 (by decide) (by decide) (fun h11 => by exfalso; omega) (fun h11 => ?_)
    refine lv_iconst (v := nI 0) hx hb dM_remove_97 (by decide) ?_
    rw [hQ]
    exact rg_iret hx hb hr hlk hK hP hD hS dM_remove_98 (nI 3, nI n, nI b, cof, mad, va_cpy nu nu (2 * (T b)) (2 * n) 2, va_cpy co co (2 * (T b)) (2 * n) 2, va_cpy se se (2 * (T b)) (2 * n) 2, va_cpy li li (16 * (T b)) (16 * n) 16, va_cpy le le (2 * (T b)) (2 * n) 2, upd fi n (fi (T b)), upd sc n (sc (T b)), ti, un, ma, dr, fr, to, en) rfl (⟨rm_Rep_junk hrep (fun j hj => by have hj : j < 2 * n := hj; rw [pk_cpy_out (by omega)]) (fun j hj => by have hj : j < 2 * n := hj; rw [pk_cpy_out (by omega)]) (fun j hj => by have hj : j < 2 * n := hj; rw [pk_cpy_out (by omega)]) (fun j hj => by have hj : j < 2 * n := hj; rw [pk_cpy_out (by omega)]) (fun j hj => by have hj : j < 16 * n := hj; rw [pk_cpy_out (by omega)]) (fun j hj => by have hj : j < n := hj; rw [pk_un (by omega)]) (fun j hj => by have hj : j < n := hj; rw [pk_un (by omega)]), rfl, rfl⟩)
  refine rg_icmp_eq (tgt := 13) hx hb dM_remove_4 (by decide) (by omega) (by omega) (fun h12 => ?_) (fun h12 => ?_)
  · refine lv_iconst (v := nI 0) hx hb dM_remove_13 (by decide) ?_
    refine lv_goto (tgt := 18) hx hb dM_remove_14 (by decide) ?_
    exact J4 0 rfl
  · refine lv_iload_n hx hb dM_remove_7 rfl (lv_at hl 1 rfl) ?_
    refine lv_bipush (v := nI 7) hx hb dM_remove_8 (by decide) ?_
    refine rg_icmp_ne (tgt := 17) hx hb dM_remove_10 (by decide) (by omega) (by omega) (fun h13 => by exfalso; omega) (fun h13 => ?_)
    refine lv_iconst (v := nI 0) hx hb dM_remove_13 (by decide) ?_
    refine lv_goto (tgt := 18) hx hb dM_remove_14 (by decide) ?_
    exact J4 0 rfl
set_option maxHeartbeats 4000000 in
set_option maxRecDepth 100000 in
theorem c_rm_remove_ok {l : Launch} {dC : Nat → ClassId} {dI : Nat → Nat → Nat} {h : Nat} {a : Nat → Nat} {cI cL : ClassId} {cod : Int32} {cof : Int32} {mad : Int32} {nu : Nat → Int32} {co : Nat → Int64} {se : Nat → Int32} {li : Nat → Int32} {le : Nat → Int32} {fi : Nat → Int32} {sc : Nat → Int32} {ti : Nat → Int32} {un : Nat → Int32} {ma : Nat → Int32} {dr : Nat → Int32} {fr : Nat → Int32} {to : Nat → Int32} {en : Nat → Int32} (n b : Nat) (Rr : Nat → rg_R) (P1 P2 : Nat → Int32) (T : Nat → Nat) (U : Nat → List Nat) (k : Nat) (hk2 : k < 2) (l9 : List Int32) (hl9 : (Rr (T b)).2.2.2 k = l9) (x : Nat) (hxl : x < l9.length) (hn6 : ¬ n = 60) (hrep : rm_Rep (nI n) (nI b) cof nu co se li le fi sc ti un ma (n, Rr, P1, P2, T, U, b, cof)) : rg_M l yM_remove (Cond.code yM_remove prog_8_method_14_code 6 (some .int) :: rg_tbl) { frames := 3, cells := 0, slots := 0, locals := 69 } (dC, dI) rg_cl [(cI, .int), (cL, .long)] (rm_W h a cI cL cod (nI n) (nI b) cof mad nu co se li le fi sc ti un ma dr fr to en) [.ref h, .int (nI (k + 6)), .int (nI x)] (rg_QI (dC, dI) rg_cl [(cI, .int), (cL, .long)] (S := rm_S) (rm_Po (rg_chg 2 (n, Rr, P1, P2, T, U, b, cof) (rg_setL (Rr (T b)) k (rg_remL l9 x)))) (fun u => rm_Wu h a cI cL u)) 0 0 := by
  refine rg_of prog_8_method_14_code 6 (some .int) (by decide) rfl (Nat.le_of_ble_eq_true rfl) ?_
  intro p e R s m args below meth c Q A H locs ls hR hQ hx hb hml hr hts hown hlk hnm hP hK hD hA hS hl
  have hl : lv_has ls 6 [(0, .ref h), (1, .int (nI (k + 6))), (2, .int (nI x))] := hl
  have hts : ∀ w ∈ rg_tbl, w.before args s = true := fun w h => hts w (List.mem_cons_of_mem _ h)
  have hok := hrep.1
  have hn1 : 1 ≤ n := hok.1
  have hn60 : n ≤ 60 := hok.2.1
  have hb4 : b < 4 := hok.2.2.2.2.2.2.2.1
  have hTb : T b < n := (hok.2.2.2.2.2.2.1 b hb4).1
  have hti : ti b = nI (T b) := (hrep.2.2.2.2.2.2 b hb4).1
  have hma : ma b = nI (U b).length := (hrep.2.2.2.2.2.2 b hb4).2.1
  refine lv_aload_n hx hb dM_remove_0 rfl (lv_at hl 0 rfl) ?_
  refine lv_iload_n hx hb dM_remove_1 rfl (lv_at hl 1 rfl) ?_
  refine lv_bipush (v := nI 6) hx hb dM_remove_2 (by decide) ?_
  have J4 : ∀ v9 : Nat, v9 = 0 → W p l e R s m args below meth c H locs 0 0 Q (F0 m 18 ls [.int (nI v9), .ref h]) := by
    intro v9 hv9
    subst hv9
    refine va_put (D := (dC, dI)) (ci := 0) (v := .int (nI 0)) (ty := .int) (C := "RevisionGroveModel") (T := TM) (N := 19) hx hb hts inM tyM tyM_ok nmM hown hK hP hD hS 0 rfl rfl 0 (by decide) (hts _ tw_601) (fun _ h9 => h9) rfl (by decide +kernel) rfl rfl (Nat.le_of_ble_eq_true rfl) dM_remove_18 (fun H locs hP hD hS => ?_)
    have hP : va_P (dC, dI) rg_cl (rm_W h a cI cL (nI 0) (nI n) (nI b) cof mad nu co se li le fi sc ti un ma dr fr to en) H := hP
    have hD : va_D A (rm_W h a cI cL (nI 0) (nI n) (nI b) cof mad nu co se li le fi sc ti un ma dr fr to en) := hD
    refine lv_aload_n hx hb dM_remove_21 rfl (lv_at hl 0 rfl) ?_
    refine va_get (D := (dC, dI)) (ci := 0) (C := "RevisionGroveModel") (T := TM) (N := 19) hx hb hts inM hown hK hP 0 rfl rfl 0 (by decide) (hts _ tw_601) (fun _ h9 => h9) rfl dM_remove_22 ?_
    refine rg_ifN_le (tgt := 30) hx hb dM_remove_25 (by decide) (by decide) (fun h1 => ?_) (fun h1 => by exfalso; omega)
    refine lv_aload_n hx hb dM_remove_30 rfl (lv_at hl 0 rfl) ?_
    refine lv_aload_n hx hb dM_remove_31 rfl (lv_at hl 0 rfl) ?_
    refine rg_calli hD hS hA (va_runV (As := []) (rest := [.ref h]) ⟨hx, hb, hml, hown, hts⟩ (c_rm_here b (by omega) _) (cwV 0 hts (rg_gV tw_667 tw_669 ts_M_here tw_5 tw_670) rfl rfl rfl (by decide +kernel) ⟨by rw [hR]; exact Nat.le_of_ble_eq_true rfl, by rw [hR]; exact Nat.le_of_ble_eq_true rfl⟩) (rg_preV rfl hK hP hD (ci := 0) (q0 := 0) rfl rfl) rfl rfl hl.1 rfl (lv_room (Nat.le_of_ble_eq_true rfl)) dM_remove_32 ⟨Nat.zero_le _, Nat.zero_le _⟩) (fun r2 u3 H locs hw4 hP hD hS => ?_)
    subst hw4
    have hP : va_P (dC, dI) rg_cl (rm_W h a cI cL (nI 0) (nI n) (nI b) cof mad nu co se li le fi sc ti un ma dr fr to en) H := hP
    have hD : va_D A (rm_W h a cI cL (nI 0) (nI n) (nI b) cof mad nu co se li le fi sc ti un ma dr fr to en) := hD
    refine rg_top (show (.int (ti b) : Value) = .int (nI (T b)) by rw [hti]) ?_
    refine lv_aload_n hx hb dM_remove_35 rfl (lv_at hl 0 rfl) ?_
    refine va_get (D := (dC, dI)) (ci := 0) (C := "RevisionGroveModel") (T := TM) (N := 19) hx hb hts inM hown hK hP 0 rfl rfl 1 (by decide) (hts _ tw_602) (fun _ h9 => h9) rfl dM_remove_36 ?_
    refine rg_callv hD hS hA (va_runV (As := [.int (nI (T b)), .int (nI n)]) (rest := []) ⟨hx, hb, hml, hown, hts⟩ (c_rm_copy (T b) n (by omega) (by omega) _) (cwV 2 hts (rg_gV tw_671 tw_673 ts_M_copy tw_5 tw_674) rfl rfl rfl (by decide +kernel) ⟨by rw [hR]; exact Nat.le_of_ble_eq_true rfl, by rw [hR]; exact Nat.le_of_ble_eq_true rfl⟩) (rg_preV rfl hK hP hD (ci := 0) (q0 := 0) rfl rfl) rfl rfl hl.1 rfl (lv_room (Nat.le_of_ble_eq_true rfl)) dM_remove_39 ⟨Nat.zero_le _, Nat.zero_le _⟩) (fun u6 H locs hw7 hP hD hS => ?_)
    have hP : va_P (dC, dI) rg_cl (rm_W h a cI cL (nI 0) (nI n) (nI b) cof mad (va_cpy nu nu (2 * (T b)) (2 * n) 2) (va_cpy co co (2 * (T b)) (2 * n) 2) (va_cpy se se (2 * (T b)) (2 * n) 2) (va_cpy li li (16 * (T b)) (16 * n) 16) (va_cpy le le (2 * (T b)) (2 * n) 2) (upd fi n (fi (T b))) (upd sc n (sc (T b))) ti un ma dr fr to en) H := hP
    have hD : va_D A (rm_W h a cI cL (nI 0) (nI n) (nI b) cof mad (va_cpy nu nu (2 * (T b)) (2 * n) 2) (va_cpy co co (2 * (T b)) (2 * n) 2) (va_cpy se se (2 * (T b)) (2 * n) 2) (va_cpy li li (16 * (T b)) (16 * n) 16) (va_cpy le le (2 * (T b)) (2 * n) 2) (upd fi n (fi (T b))) (upd sc n (sc (T b))) ti un ma dr fr to en) := hD
    have hX0 : rg_MR (va_cpy nu nu (2 * (T b)) (2 * n) 2) (va_cpy co co (2 * (T b)) (2 * n) 2) (va_cpy se se (2 * (T b)) (2 * n) 2) (va_cpy le le (2 * (T b)) (2 * n) 2) (va_cpy li li (16 * (T b)) (16 * n) 16) n (Rr (T b)) := rg_MR_copy (hrep.2.2.2.2.1 (T b) hTb)
    have q5 := (hX0 k (by omega)).2.2.2.2.1
    have q4 := (hX0 k (by omega)).2.2.2.1
    have q6 := (hX0 k (by omega)).2.2.2.2.2
    rw [hl9] at q4 q5 q6
    refine lv_aload_n hx hb dM_remove_42 rfl (lv_at hl 0 rfl) ?_
    refine va_get (D := (dC, dI)) (ci := 0) (C := "RevisionGroveModel") (T := TM) (N := 19) hx hb hts inM hown hK hP 0 rfl rfl 6 (by decide) (hts _ tw_607) (fun _ h9 => h9) rfl dM_remove_43 ?_
    refine lv_iconst (v := nI 2) hx hb dM_remove_46 (by decide) ?_
    refine lv_aload_n hx hb dM_remove_47 rfl (lv_at hl 0 rfl) ?_
    refine va_get (D := (dC, dI)) (ci := 0) (C := "RevisionGroveModel") (T := TM) (N := 19) hx hb hts inM hown hK hP 0 rfl rfl 1 (by decide) (hts _ tw_602) (fun _ h9 => h9) rfl dM_remove_48 ?_
    refine rg_imul hx hb dM_remove_51 ?_
    refine lv_iload_n hx hb dM_remove_52 rfl (lv_at hl 1 rfl) ?_
    refine rg_iadd hx hb dM_remove_53 ?_
    refine lv_bipush (v := nI 6) hx hb dM_remove_54 (by decide) ?_
    refine rg_isub hx hb dM_remove_56 (by omega) ?_
    refine rg_top (show (.int (nI (2 * n + (k + 6) - 6)) : Value) = .int (nI (2 * n + k)) by rw [show 2 * n + (k + 6) - 6 = 2 * n + k by omega]) ?_
    refine rg_iald hx hb hK hP 5 0 rfl rfl (by decide) (by omega) dM_remove_57 ?_
    refine rg_top (show (.int ((va_cpy le le (2 * (T b)) (2 * n) 2) (2 * n + k)) : Value) = .int (nI l9.length) by rw [q5]) ?_
    refine lv_istore_n (lv' := [(3, .int (nI l9.length)), (0, .ref h), (1, .int (nI (k + 6))), (2, .int (nI x))]) hx hb dM_remove_58 rfl hl (by decide) rfl (fun ls hl => ?_)
    refine lv_aload_n hx hb dM_remove_59 rfl (lv_at hl 1 rfl) ?_
    refine lv_iload_n hx hb dM_remove_60 rfl (lv_at hl 3 rfl) ?_
    refine rg_ifN_lt (tgt := 69) hx hb dM_remove_61 (by decide) (by omega) (fun h8 => h8.elim) (fun h8 => ?_)
    refine lv_iload_n hx hb dM_remove_64 rfl (lv_at hl 3 rfl) ?_
    refine lv_iload_n hx hb dM_remove_65 rfl (lv_at hl 0 rfl) ?_
    refine rg_icmp_lt (tgt := 73) hx hb dM_remove_66 (by decide) (by omega) (by omega) (fun h9 => ?_) (fun h9 => by exfalso; omega)
    refine lv_aload_n hx hb dM_remove_73 rfl (lv_at hl 1 rfl) ?_
    refine va_get (D := (dC, dI)) (ci := 0) (C := "RevisionGroveModel") (T := TM) (N := 19) hx hb hts inM hown hK hP 0 rfl rfl 1 (by decide) (hts _ tw_602) (fun _ h9 => h9) rfl dM_remove_74 ?_
    refine lv_bipush (v := nI 60) hx hb dM_remove_77 (by decide) ?_
    refine rg_icmp_ne (tgt := 86) hx hb dM_remove_79 (by decide) (by omega) (by omega) (fun h10 => ?_) (fun h10 => by exfalso; omega)
    refine lv_iconst (v := nI 0) hx hb dM_remove_86 (by decide) ?_
    refine va_put (D := (dC, dI)) (ci := 0) (v := .int (nI 0)) (ty := .int) (C := "RevisionGroveModel") (T := TM) (N := 19) hx hb hts inM tyM tyM_ok nmM hown hK hP hD hS 0 rfl rfl 0 (by decide) (hts _ tw_601) (fun _ h9 => h9) rfl (by decide +kernel) rfl rfl (Nat.le_of_ble_eq_true rfl) dM_remove_87 (fun H locs hP hD hS => ?_)
    have hP : va_P (dC, dI) rg_cl (rm_W h a cI cL (nI 0) (nI n) (nI b) cof mad (va_cpy nu nu (2 * (T b)) (2 * n) 2) (va_cpy co co (2 * (T b)) (2 * n) 2) (va_cpy se se (2 * (T b)) (2 * n) 2) (va_cpy li li (16 * (T b)) (16 * n) 16) (va_cpy le le (2 * (T b)) (2 * n) 2) (upd fi n (fi (T b))) (upd sc n (sc (T b))) ti un ma dr fr to en) H := hP
    have hD : va_D A (rm_W h a cI cL (nI 0) (nI n) (nI b) cof mad (va_cpy nu nu (2 * (T b)) (2 * n) 2) (va_cpy co co (2 * (T b)) (2 * n) 2) (va_cpy se se (2 * (T b)) (2 * n) 2) (va_cpy li li (16 * (T b)) (16 * n) 16) (va_cpy le le (2 * (T b)) (2 * n) 2) (upd fi n (fi (T b))) (upd sc n (sc (T b))) ti un ma dr fr to en) := hD
    refine lv_aload_n hx hb dM_remove_90 rfl (lv_at hl 1 rfl) ?_
    refine va_get (D := (dC, dI)) (ci := 0) (C := "RevisionGroveModel") (T := TM) (N := 19) hx hb hts inM hown hK hP 0 rfl rfl 0 (by decide) (hts _ tw_601) (fun _ h9 => h9) rfl dM_remove_91 ?_
    refine rg_ifN_le (tgt := 99) hx hb dM_remove_94 (by decide) (by decide) (fun h11 => ?_) (fun h11 => by exfalso; omega)
    refine lv_bipush (v := nI 16) hx hb dM_remove_99 (by decide) ?_
    refine lv_aload_n hx hb dM_remove_101 rfl (lv_at hl 1 rfl) ?_
    refine va_get (D := (dC, dI)) (ci := 0) (C := "RevisionGroveModel") (T := TM) (N := 19) hx hb hts inM hown hK hP 0 rfl rfl 1 (by decide) (hts _ tw_602) (fun _ h9 => h9) rfl dM_remove_102 ?_
    refine rg_imul hx hb dM_remove_105 ?_
    refine lv_bipush (v := nI 8) hx hb dM_remove_106 (by decide) ?_
    refine lv_iload_n hx hb dM_remove_108 rfl (lv_at hl 2 rfl) ?_
    refine lv_bipush (v := nI 6) hx hb dM_remove_109 (by decide) ?_
    refine rg_isub hx hb dM_remove_111 (by omega) ?_
    refine rg_top (show (.int (nI (k + 6 - 6)) : Value) = .int (nI k) by rw [show k + 6 - 6 = k by omega]) ?_
    refine rg_imul hx hb dM_remove_112 ?_
    refine rg_iadd hx hb dM_remove_113 ?_
    refine lv_istore (lv' := [(4, .int (nI (16 * n + 8 * k))), (3, .int (nI l9.length)), (0, .ref h), (1, .int (nI (k + 6))), (2, .int (nI x))]) hx hb dM_remove_114 hl (by decide) rfl (fun ls hl => ?_)
    refine lv_iload_n hx hb dM_remove_116 rfl (lv_at hl 4 rfl) ?_
    refine lv_istore (lv' := [(5, .int (nI x)), (4, .int (nI (16 * n + 8 * k))), (3, .int (nI l9.length)), (0, .ref h), (1, .int (nI (k + 6))), (2, .int (nI x))]) hx hb dM_remove_117 hl (by decide) rfl (fun ls hl => ?_)
    have lp119 : ∀ (fuel : Nat) (kk : Nat) (H : Heap) (locs : List Loc) (ls : Array Slot), l9.length - kk < fuel → x ≤ kk → kk ≤ l9.length - 1 → va_P (dC, dI) rg_cl (rm_W h a cI cL (nI 0) (nI n) (nI b) cof mad (va_cpy nu nu (2 * (T b)) (2 * n) 2) (va_cpy co co (2 * (T b)) (2 * n) 2) (va_cpy se se (2 * (T b)) (2 * n) 2) (va_cpy (va_cpy li li (16 * (T b)) (16 * n) 16) (va_cpy li li (16 * (T b)) (16 * n) 16) (16 * n + 8 * k + x + 1) (16 * n + 8 * k + x) (kk - x)) (va_cpy le le (2 * (T b)) (2 * n) 2) (upd fi n (fi (T b))) (upd sc n (sc (T b))) ti un ma dr fr to en) H → va_D A (rm_W h a cI cL (nI 0) (nI n) (nI b) cof mad (va_cpy nu nu (2 * (T b)) (2 * n) 2) (va_cpy co co (2 * (T b)) (2 * n) 2) (va_cpy se se (2 * (T b)) (2 * n) 2) (va_cpy (va_cpy li li (16 * (T b)) (16 * n) 16) (va_cpy li li (16 * (T b)) (16 * n) 16) (16 * n + 8 * k + x + 1) (16 * n + 8 * k + x) (kk - x)) (va_cpy le le (2 * (T b)) (2 * n) 2) (upd fi n (fi (T b))) (upd sc n (sc (T b))) ti un ma dr fr to en) → va_S A s.heap H locs → lv_has ls 6 [(0, .ref h), (1, .int (nI (k + 6))), (2, .int (nI x)), (3, .int (nI l9.length)), (4, .int (nI (16 * n + 8 * k))), (5, .int (nI kk))] → W p l e R s m args below meth c H locs 0 0 Q (F0 m 119 ls []) := by
      intro fuel
      induction fuel with
      | zero => intro kk H locs ls hf; exact absurd hf (Nat.not_lt_zero _)
      | succ fuel ih119 =>
        intro kk H locs ls hfu119 hk1 hk9 hP hD hS hl
        refine lv_iload hx hb dM_remove_119 (lv_at hl 5 rfl) ?_
        refine lv_iload_n hx hb dM_remove_121 rfl (lv_at hl 3 rfl) ?_
        refine lv_iconst (v := nI 1) hx hb dM_remove_122 (by decide) ?_
        refine rg_isub hx hb dM_remove_123 (by omega) ?_
        refine rg_icmp_ge (tgt := 155) hx hb dM_remove_124 (by decide) (by omega) (by omega) (fun h12 => ?_) (fun h12 => ?_)
        · have hkx : kk = l9.length - 1 := by omega
          rw [hkx] at hP hD
          have hP : va_P (dC, dI) rg_cl (rm_W h a cI cL (nI 0) (nI n) (nI b) cof mad (va_cpy nu nu (2 * (T b)) (2 * n) 2) (va_cpy co co (2 * (T b)) (2 * n) 2) (va_cpy se se (2 * (T b)) (2 * n) 2) (va_cpy (va_cpy li li (16 * (T b)) (16 * n) 16) (va_cpy li li (16 * (T b)) (16 * n) 16) (16 * n + 8 * k + x + 1) (16 * n + 8 * k + x) (l9.length - 1 - x)) (va_cpy le le (2 * (T b)) (2 * n) 2) (upd fi n (fi (T b))) (upd sc n (sc (T b))) ti un ma dr fr to en) H := hP
          have hD : va_D A (rm_W h a cI cL (nI 0) (nI n) (nI b) cof mad (va_cpy nu nu (2 * (T b)) (2 * n) 2) (va_cpy co co (2 * (T b)) (2 * n) 2) (va_cpy se se (2 * (T b)) (2 * n) 2) (va_cpy (va_cpy li li (16 * (T b)) (16 * n) 16) (va_cpy li li (16 * (T b)) (16 * n) 16) (16 * n + 8 * k + x + 1) (16 * n + 8 * k + x) (l9.length - 1 - x)) (va_cpy le le (2 * (T b)) (2 * n) 2) (upd fi n (fi (T b))) (upd sc n (sc (T b))) ti un ma dr fr to en) := hD
          refine lv_aload_n hx hb dM_remove_155 rfl (lv_at hl 0 rfl) ?_
          refine va_get (D := (dC, dI)) (ci := 0) (C := "RevisionGroveModel") (T := TM) (N := 19) hx hb hts inM hown hK hP 0 rfl rfl 6 (by decide) (hts _ tw_607) (fun _ h9 => h9) rfl dM_remove_156 ?_
          refine lv_iconst (v := nI 2) hx hb dM_remove_159 (by decide) ?_
          refine lv_aload_n hx hb dM_remove_160 rfl (lv_at hl 0 rfl) ?_
          refine va_get (D := (dC, dI)) (ci := 0) (C := "RevisionGroveModel") (T := TM) (N := 19) hx hb hts inM hown hK hP 0 rfl rfl 1 (by decide) (hts _ tw_602) (fun _ h9 => h9) rfl dM_remove_161 ?_
          refine rg_imul hx hb dM_remove_164 ?_
          refine lv_iload_n hx hb dM_remove_165 rfl (lv_at hl 1 rfl) ?_
          refine rg_iadd hx hb dM_remove_166 ?_
          refine lv_bipush (v := nI 6) hx hb dM_remove_167 (by decide) ?_
          refine rg_isub hx hb dM_remove_169 (by omega) ?_
          refine rg_top (show (.int (nI (2 * n + (k + 6) - 6)) : Value) = .int (nI (2 * n + k)) by rw [show 2 * n + (k + 6) - 6 = 2 * n + k by omega]) ?_
          refine lv_dup2_11 hx hb dM_remove_170 rfl rfl ?_
          refine rg_iald hx hb hK hP 5 0 rfl rfl (by decide) (by omega) dM_remove_171 ?_
          refine rg_top (show (.int ((va_cpy le le (2 * (T b)) (2 * n) 2) (2 * n + k)) : Value) = .int (nI l9.length) by rw [q5]) ?_
          refine lv_iconst (v := nI 1) hx hb dM_remove_172 (by decide) ?_
          refine rg_isub hx hb dM_remove_173 (by omega) ?_
          refine rg_iast hx hb hK hP hD hS 5 0 rfl rfl (by decide) (by omega) dM_remove_174 (fun H locs hP hD hS => ?_)
          have hP : va_P (dC, dI) rg_cl (rm_W h a cI cL (nI 0) (nI n) (nI b) cof mad (va_cpy nu nu (2 * (T b)) (2 * n) 2) (va_cpy co co (2 * (T b)) (2 * n) 2) (va_cpy se se (2 * (T b)) (2 * n) 2) (va_cpy (va_cpy li li (16 * (T b)) (16 * n) 16) (va_cpy li li (16 * (T b)) (16 * n) 16) (16 * n + 8 * k + x + 1) (16 * n + 8 * k + x) (l9.length - 1 - x)) (upd (va_cpy le le (2 * (T b)) (2 * n) 2) (2 * n + k) (nI (l9.length - 1))) (upd fi n (fi (T b))) (upd sc n (sc (T b))) ti un ma dr fr to en) H := hP
          have hD : va_D A (rm_W h a cI cL (nI 0) (nI n) (nI b) cof mad (va_cpy nu nu (2 * (T b)) (2 * n) 2) (va_cpy co co (2 * (T b)) (2 * n) 2) (va_cpy se se (2 * (T b)) (2 * n) 2) (va_cpy (va_cpy li li (16 * (T b)) (16 * n) 16) (va_cpy li li (16 * (T b)) (16 * n) 16) (16 * n + 8 * k + x + 1) (16 * n + 8 * k + x) (l9.length - 1 - x)) (upd (va_cpy le le (2 * (T b)) (2 * n) 2) (2 * n + k) (nI (l9.length - 1))) (upd fi n (fi (T b))) (upd sc n (sc (T b))) ti un ma dr fr to en) := hD
          have hrep1 : rm_Rep (nI n) (nI b) cof (va_cpy nu nu (2 * (T b)) (2 * n) 2) (va_cpy co co (2 * (T b)) (2 * n) 2) (va_cpy se se (2 * (T b)) (2 * n) 2) (va_cpy (va_cpy li li (16 * (T b)) (16 * n) 16) (va_cpy li li (16 * (T b)) (16 * n) 16) (16 * n + 8 * k + x + 1) (16 * n + 8 * k + x) (l9.length - 1 - x)) (upd (va_cpy le le (2 * (T b)) (2 * n) 2) (2 * n + k) (nI (l9.length - 1))) (upd fi n (fi (T b))) (upd sc n (sc (T b))) ti un ma (n, Rr, P1, P2, T, U, b, cof) := rm_Rep_junk hrep (fun j hj => by have hj : j < 2 * n := hj; rw [pk_cpy_out (by omega)]) (fun j hj => by have hj : j < 2 * n := hj; rw [pk_cpy_out (by omega)]) (fun j hj => by have hj : j < 2 * n := hj; rw [pk_cpy_out (by omega)]) (fun j hj => by have hj : j < 2 * n := hj; rw [pk_un (by omega), pk_cpy_out (by omega)]) (fun j hj => by have hj : j < 16 * n := hj; rw [pk_cpy_out (by omega), pk_cpy_out (by omega)]) (fun j hj => by have hj : j < n := hj; rw [pk_un (by omega)]) (fun j hj => by have hj : j < n := hj; rw [pk_un (by omega)])
          have hX1 : rg_MR (va_cpy nu nu (2 * (T b)) (2 * n) 2) (va_cpy co co (2 * (T b)) (2 * n) 2) (va_cpy se se (2 * (T b)) (2 * n) 2) (upd (va_cpy le le (2 * (T b)) (2 * n) 2) (2 * n + k) (nI (l9.length - 1))) (va_cpy (va_cpy li li (16 * (T b)) (16 * n) 16) (va_cpy li li (16 * (T b)) (16 * n) 16) (16 * n + 8 * k + x + 1) (16 * n + 8 * k + x) (l9.length - 1 - x)) n (rg_setL (Rr (T b)) k (rg_remL l9 x)) := rg_MR_setL hX0 hk2 (by rw [rg_remL_len hxl]; omega) (by rw [pk_us, rg_remL_len hxl]) (fun j hj => pk_un hj) (fun i hi => rg_rem_cells q6 hxl (by rw [rg_remL_len hxl] at hi; exact hi)) (fun j hj => by rw [pk_cpy_out (by omega)])
          refine lv_aload_n hx hb dM_remove_175 rfl (lv_at hl 0 rfl) ?_
          refine rg_calli hD hS hA (va_runV (As := []) (rest := []) ⟨hx, hb, hml, hown, hts⟩ (c_rm_change n b Rr P1 P2 T U (rg_setL (Rr (T b)) k (rg_remL l9 x)) hrep1 hX1 _) (cwV 0 hts (rg_gV tw_675 tw_677 ts_M_change tw_5 tw_678) rfl rfl rfl (by decide +kernel) ⟨by rw [hR]; exact Nat.le_of_ble_eq_true rfl, by rw [hR]; exact Nat.le_of_ble_eq_true rfl⟩) (rg_preV rfl hK hP hD (ci := 0) (q0 := 0) rfl rfl) rfl rfl hl.1 rfl (lv_room (Nat.le_of_ble_eq_true rfl)) dM_remove_176 ⟨Nat.zero_le _, Nat.zero_le _⟩) (fun r13 u14 H locs hw15 hP hD hS => ?_)
          obtain ⟨cod5, cnt5, bra5, cof5, mad5, nu5, co5, se5, li5, le5, fi5, sc5, ti5, un5, ma5, dr5, fr5, to5, en5⟩ := u14
          have hP : va_P (dC, dI) rg_cl (rm_W h a cI cL cod5 cnt5 bra5 cof5 mad5 nu5 co5 se5 li5 le5 fi5 sc5 ti5 un5 ma5 dr5 fr5 to5 en5) H := hP
          have hD : va_D A (rm_W h a cI cL cod5 cnt5 bra5 cof5 mad5 nu5 co5 se5 li5 le5 fi5 sc5 ti5 un5 ma5 dr5 fr5 to5 en5) := hD
          rw [hQ]
          exact rg_iret hx hb hr hlk hK hP hD hS dM_remove_179 (cod5, cnt5, bra5, cof5, mad5, nu5, co5, se5, li5, le5, fi5, sc5, ti5, un5, ma5, dr5, fr5, to5, en5) rfl (hw15)
        · refine lv_aload_n hx hb dM_remove_127 rfl (lv_at hl 0 rfl) ?_
          refine va_get (D := (dC, dI)) (ci := 0) (C := "RevisionGroveModel") (T := TM) (N := 19) hx hb hts inM hown hK hP 0 rfl rfl 5 (by decide) (hts _ tw_606) (fun _ h9 => h9) rfl dM_remove_128 ?_
          refine lv_iload hx hb dM_remove_131 (lv_at hl 4 rfl) ?_
          refine lv_iload hx hb dM_remove_133 (lv_at hl 5 rfl) ?_
          refine rg_iadd hx hb dM_remove_135 ?_
          refine lv_aload_n hx hb dM_remove_136 rfl (lv_at hl 0 rfl) ?_
          refine va_get (D := (dC, dI)) (ci := 0) (C := "RevisionGroveModel") (T := TM) (N := 19) hx hb hts inM hown hK hP 0 rfl rfl 5 (by decide) (hts _ tw_606) (fun _ h9 => h9) rfl dM_remove_137 ?_
          refine lv_iload hx hb dM_remove_140 (lv_at hl 4 rfl) ?_
          refine lv_iload hx hb dM_remove_142 (lv_at hl 5 rfl) ?_
          refine rg_iadd hx hb dM_remove_144 ?_
          refine lv_iconst (v := nI 1) hx hb dM_remove_145 (by decide) ?_
          refine rg_iadd hx hb dM_remove_146 ?_
          refine rg_iald hx hb hK hP 4 0 rfl rfl (by decide) (by omega) dM_remove_147 ?_
          refine rg_iast hx hb hK hP hD hS 4 0 rfl rfl (by decide) (by omega) dM_remove_148 (fun H locs hP hD hS => ?_)
          have hP : va_P (dC, dI) rg_cl (rm_W h a cI cL (nI 0) (nI n) (nI b) cof mad (va_cpy nu nu (2 * (T b)) (2 * n) 2) (va_cpy co co (2 * (T b)) (2 * n) 2) (va_cpy se se (2 * (T b)) (2 * n) 2) (upd (va_cpy (va_cpy li li (16 * (T b)) (16 * n) 16) (va_cpy li li (16 * (T b)) (16 * n) 16) (16 * n + 8 * k + x + 1) (16 * n + 8 * k + x) (kk - x)) (16 * n + 8 * k + kk) ((va_cpy (va_cpy li li (16 * (T b)) (16 * n) 16) (va_cpy li li (16 * (T b)) (16 * n) 16) (16 * n + 8 * k + x + 1) (16 * n + 8 * k + x) (kk - x)) (16 * n + 8 * k + kk + 1))) (va_cpy le le (2 * (T b)) (2 * n) 2) (upd fi n (fi (T b))) (upd sc n (sc (T b))) ti un ma dr fr to en) H := hP
          have hD : va_D A (rm_W h a cI cL (nI 0) (nI n) (nI b) cof mad (va_cpy nu nu (2 * (T b)) (2 * n) 2) (va_cpy co co (2 * (T b)) (2 * n) 2) (va_cpy se se (2 * (T b)) (2 * n) 2) (upd (va_cpy (va_cpy li li (16 * (T b)) (16 * n) 16) (va_cpy li li (16 * (T b)) (16 * n) 16) (16 * n + 8 * k + x + 1) (16 * n + 8 * k + x) (kk - x)) (16 * n + 8 * k + kk) ((va_cpy (va_cpy li li (16 * (T b)) (16 * n) 16) (va_cpy li li (16 * (T b)) (16 * n) 16) (16 * n + 8 * k + x + 1) (16 * n + 8 * k + x) (kk - x)) (16 * n + 8 * k + kk + 1))) (va_cpy le le (2 * (T b)) (2 * n) 2) (upd fi n (fi (T b))) (upd sc n (sc (T b))) ti un ma dr fr to en) := hD
          refine lv_iinc (k := 5) (v := nI (kk + 1)) (lv' := [(5, .int (nI (kk + 1))), (0, .ref h), (1, .int (nI (k + 6))), (2, .int (nI x)), (3, .int (nI l9.length)), (4, .int (nI (16 * n + 8 * k)))]) hx hb dM_remove_149 hl rfl (nI_1 _) (by decide) rfl (fun ls hl => ?_)
          refine lv_goto (tgt := 119) hx hb dM_remove_152 (by decide) ?_
          exact ih119 (kk + 1) _ _ _ (by omega) (by omega) (by omega) (by rw [← rg_cpyU (va_cpy li li (16 * (T b)) (16 * n) 16) (16 * n + 8 * k) x kk (by omega)]; exact hP) (by rw [← rg_cpyU (va_cpy li li (16 * (T b)) (16 * n) 16) (16 * n + 8 * k) x kk (by omega)]; exact hD) hS (lv_sub hl [1, 2, 3, 4, 5, 0] rfl)
    exact lp119 _ x _ _ _ (Nat.lt_succ_self _) (Nat.le_refl _) (by omega) (by rw [Nat.sub_self, rg_cpy0]; exact hP) (by rw [Nat.sub_self, rg_cpy0]; exact hD) hS (lv_sub hl [3, 4, 5, 2, 1, 0] rfl)
  refine rg_icmp_eq (tgt := 13) hx hb dM_remove_4 (by decide) (by omega) (by omega) (fun h16 => ?_) (fun h16 => ?_)
  · refine lv_iconst (v := nI 0) hx hb dM_remove_13 (by decide) ?_
    refine lv_goto (tgt := 18) hx hb dM_remove_14 (by decide) ?_
    exact J4 0 rfl
  · refine lv_iload_n hx hb dM_remove_7 rfl (lv_at hl 1 rfl) ?_
    refine lv_bipush (v := nI 7) hx hb dM_remove_8 (by decide) ?_
    refine rg_icmp_ne (tgt := 17) hx hb dM_remove_10 (by decide) (by omega) (by omega) (fun h17 => by exfalso; omega) (fun h17 => ?_)
    refine lv_iconst (v := nI 0) hx hb dM_remove_13 (by decide) ?_
    refine lv_goto (tgt := 18) hx hb dM_remove_14 (by decide) ?_
    exact J4 0 rfl
theorem c_rm_remove {l : Launch} {dC : Nat → ClassId} {dI : Nat → Nat → Nat} {h : Nat} {a : Nat → Nat} {cI cL : ClassId} {cod : Int32} {cof : Int32} {mad : Int32} {nu : Nat → Int32} {co : Nat → Int64} {se : Nat → Int32} {li : Nat → Int32} {le : Nat → Int32} {fi : Nat → Int32} {sc : Nat → Int32} {ti : Nat → Int32} {un : Nat → Int32} {ma : Nat → Int32} {dr : Nat → Int32} {fr : Nat → Int32} {to : Nat → Int32} {en : Nat → Int32} (n b : Nat) (Rr : Nat → rg_R) (P1 P2 : Nat → Int32) (T : Nat → Nat) (U : Nat → List Nat) (f x : Int32) (hrep : rm_Rep (nI n) (nI b) cof nu co se li le fi sc ti un ma (n, Rr, P1, P2, T, U, b, cof)) : rg_M l yM_remove (Cond.code yM_remove prog_8_method_14_code 6 (some .int) :: rg_tbl) { frames := 3, cells := 0, slots := 0, locals := 69 } (dC, dI) rg_cl [(cI, .int), (cL, .long)] (rm_W h a cI cL cod (nI n) (nI b) cof mad nu co se li le fi sc ti un ma dr fr to en) [.ref h, .int f, .int x] (rg_QI (dC, dI) rg_cl [(cI, .int), (cL, .long)] (S := rm_S) (rm_Po (rg_oRem (n, Rr, P1, P2, T, U, b, cof) f x)) (fun u => rm_Wu h a cI cL u)) 0 0 := by
  have key : ∀ k, k < 2 → rg_M l yM_remove (Cond.code yM_remove prog_8_method_14_code 6 (some .int) :: rg_tbl) { frames := 3, cells := 0, slots := 0, locals := 69 } (dC, dI) rg_cl [(cI, .int), (cL, .long)] (rm_W h a cI cL cod (nI n) (nI b) cof mad nu co se li le fi sc ti un ma dr fr to en) [.ref h, .int (nI (k + 6)), .int x] (rg_QI (dC, dI) rg_cl [(cI, .int), (cL, .long)] (S := rm_S) (rm_Po (rg_remK (n, Rr, P1, P2, T, U, b, cof) k x)) (fun u => rm_Wu h a cI cL u)) 0 0 := by
    intro k hk
    unfold rg_remK
    by_cases hx0 : x < 0 ∨ nI ((Rr (T b)).2.2.2 k).length ≤ x
    · rw [if_pos hx0]; exact c_rm_remove_badx n b Rr P1 P2 T U k hk _ rfl x hx0 hrep
    · rw [if_neg hx0]
      obtain ⟨j, hj, rfl⟩ := nI_of (fun q => hx0 (Or.inl q))
      have hjl : j < ((Rr (T b)).2.2.2 k).length := Nat.lt_of_not_le fun q => hx0 (Or.inr (nI_le q hj))
      rw [nI_clamp hj]
      by_cases hf : n = 60
      · rw [if_pos hf]; exact c_rm_remove_full n b Rr P1 P2 T U k hk _ rfl j hjl hf hrep
      · rw [if_neg hf]; exact c_rm_remove_ok n b Rr P1 P2 T U k hk _ rfl j hjl hf hrep
  unfold rg_oRem
  by_cases h0 : f = 6
  · subst h0; rw [if_pos rfl]; exact key 0 (by decide)
  · rw [if_neg h0]
    by_cases h1 : f = 7
    · subst h1; rw [if_pos rfl]; exact key 1 (by decide)
    · rw [if_neg h1]; exact c_rm_remove_badf n b Rr P1 P2 T U f x h0 h1 hrep
end
section
/-! Branches: spec and picture. -/
def rg_isB (x : Int32) : Bool := !(decide (x < 0) || decide (3 < x))
def rg_isR (n : Nat) (x : Int32) : Bool := !(decide (x < 0) || decide (nI n ≤ x))
theorem rg_isB_ok {j : Nat} (h : j < 4) : rg_isB (nI j) = true := by
  unfold rg_isB
  rw [decide_eq_false (nI_pos (by omega)), decide_eq_false (show ¬ (3 : Int32) < nI j from nI_nlt (b := j) (a := 3) (by omega) (by omega))]
  rfl
theorem rg_isB_of {x : Int32} (h : rg_isB x = true) : ∃ j, j < 4 ∧ x = nI j := by
  unfold rg_isB at h
  simp only [Bool.not_eq_true', Bool.or_eq_false_iff, decide_eq_false_iff_not] at h
  obtain ⟨j, hj, e⟩ := nI_of2 (M := 3) (n := 3) (by decide) h.1 (Int32.not_lt.mp h.2)
  exact ⟨j, by omega, e⟩
theorem rg_isR_ok {n j : Nat} (hn : n < 2 ^ 31) (h : j < n) : rg_isR n (nI j) = true := by
  unfold rg_isR
  rw [decide_eq_false (nI_pos (by omega)), decide_eq_false (nI_ge h hn)]
  rfl
theorem rg_isR_of {n : Nat} {x : Int32} (h : rg_isR n x = true) : ∃ j, j < n ∧ x = nI j := by
  unfold rg_isR at h
  simp only [Bool.not_eq_true', Bool.or_eq_false_iff, decide_eq_false_iff_not] at h
  obtain ⟨j, hj, e⟩ := nI_of h.1
  subst e
  exact ⟨j, Nat.lt_of_not_le fun q => h.2 (nI_le q hj), rfl⟩
theorem rm_Rep_br {cnt bra bra' cof : Int32} {nu : Nat → Int32} {co : Nat → Int64} {se li le fi sc ti un ma ti' un' ma' : Nat → Int32} {g : rg_A} {T' : Nat → Nat} {U' : Nat → List Nat} {B' : Nat} (h : rm_Rep cnt bra cof nu co se li le fi sc ti un ma g) (hb : bra' = nI B') (hB : B' < 4)
    (hk : ∀ b, b < 4 → T' b < ra_n g ∧ (∀ u ∈ U' b, u < ra_n g) ∧ rg_fall (U' b) (T' b)) (ha : ∀ b, b < 4 → ti' b = nI (T' b) ∧ ma' b = nI (U' b).length ∧ ∀ k, k < (U' b).length → un' (60 * b + k) = nI ((U' b).getD k 0)) : rm_Rep cnt bra' cof nu co se li le fi sc ti' un' ma' (ra_n g, ra_R g, ra_P g, ra_Q g, T', U', B', ra_c g) := by
  obtain ⟨⟨o1, o2, o3, o4, o5, o6, o7, o8, o9⟩, h2, h3, h4, h5, h6, h7⟩ := h
  exact ⟨⟨o1, o2, o3, o4, o5, o6, hk, hB, o9⟩, h2, hb, h4, h5, h6, ha⟩
def rg_point (g : rg_A) (j : Nat) : rg_A := (ra_n g, ra_R g, ra_P g, ra_Q g, va_up (ra_T g) j (ra_t g), va_up (ra_U g) j (if j = ra_B g then ra_U g j else []), ra_B g, ra_c g)
def rg_turn (g : rg_A) (j : Nat) : rg_A := (ra_n g, ra_R g, ra_P g, ra_Q g, ra_T g, ra_U g, j, ra_c g)
def rg_undo (g : rg_A) : rg_A := (ra_n g, ra_R g, ra_P g, ra_Q g, va_up (ra_T g) (ra_B g) (ra_P g (ra_t g)).toNatClampNeg, va_up (ra_U g) (ra_B g) (ra_U g (ra_B g) ++ [ra_t g]), ra_B g, ra_c g)
def ra_last (l : List Nat) : Nat := l.getD (l.length - 1) 0
def rg_redo (g : rg_A) : rg_A := (ra_n g, ra_R g, ra_P g, ra_Q g, va_up (ra_T g) (ra_B g) (ra_last (ra_U g (ra_B g))), va_up (ra_U g) (ra_B g) (ra_U g (ra_B g)).dropLast, ra_B g, ra_c g)
def rg_oPoint (g : rg_A) (x : Int32) : Int32 × Int32 × rg_A := bif rg_isB x then (0, 0, rg_point g x.toNatClampNeg) else (1, 0, g)
def rg_oTurn (g : rg_A) (x : Int32) : Int32 × Int32 × rg_A := bif rg_isB x then (0, nI (ra_T g x.toNatClampNeg), rg_turn g x.toNatClampNeg) else (1, 0, g)
def rg_oGo (g : rg_A) (x : Int32) : Int32 × Int32 × rg_A := bif rg_isR (ra_n g) x then (0, 0, rg_come g x.toNatClampNeg) else (1, 0, g)
def rg_oUndo (g : rg_A) : Int32 × Int32 × rg_A := if ra_t g = 0 then (1, 0, g) else (0, ra_P g (ra_t g), rg_undo g)
def rg_oRedo (g : rg_A) : Int32 × Int32 × rg_A := if (ra_U g (ra_B g)).length = 0 then (1, 0, g) else (0, nI (ra_last (ra_U g (ra_B g))), rg_redo g)
def rm_Pv (o : Int32 × Int32 × rg_A) (u : rm_S) : Prop := rm_Ru u o.2.2 ∧ u.1 = o.1
theorem rm_Rep_point {cnt bra cof : Int32} {nu : Nat → Int32} {co : Nat → Int64} {se li le fi sc ti un ma : Nat → Int32} {g : rg_A} {j : Nat} (h : rm_Rep cnt bra cof nu co se li le fi sc ti un ma g) (hj : j < 4) : rm_Rep cnt bra cof nu co se li le fi sc (upd ti j (nI (ra_t g))) un (upd ma j (if j = ra_B g then ma j else nI 0)) (rg_point g j) := by
  obtain ⟨o1, o2, o3, o4, o5, o6, o7, o8, o9⟩ := h.1
  refine rm_Rep_br h h.2.2.1 o8 (fun b hb => ?_) (fun b hb => ?_)
  · by_cases e : b = j
    · subst e
      simp only [va_up, if_true]
      refine ⟨(o7 _ o8).1, ?_⟩
      by_cases e2 : b = ra_B g
      · rw [if_pos e2]
        have := (o7 b hb).2
        rw [show ra_t g = ra_T g b by rw [e2]]
        exact this
      · rw [if_neg e2]
        exact ⟨(fun u hu => by cases hu), rg_fall_nil _⟩
    · simp only [va_up, e, if_false]
      exact o7 b hb
  · by_cases e : b = j
    · subst e
      simp only [va_up, if_true, pk_us]
      refine ⟨by first | rfl | trivial, ?_⟩
      by_cases e2 : b = ra_B g
      · rw [if_pos e2, if_pos e2]
        exact (h.2.2.2.2.2.2 b hb).2
      · rw [if_neg e2, if_neg e2]
        exact ⟨by first | rfl | trivial, fun k hk => by cases hk⟩
    · simp only [va_up, e, if_false, pk_un e]
      exact h.2.2.2.2.2.2 b hb
theorem rm_Rep_come {cnt bra cof : Int32} {nu : Nat → Int32} {co : Nat → Int64} {se li le fi sc ti un ma : Nat → Int32} {g : rg_A} {r : Nat} (h : rm_Rep cnt bra cof nu co se li le fi sc ti un ma g) (hr : r < ra_n g) : rm_Rep cnt bra cof nu co se li le fi sc (upd ti (ra_B g) (nI r)) un (upd ma (ra_B g) (nI 0)) (rg_come g r) := by
  obtain ⟨o1, o2, o3, o4, o5, o6, o7, o8, o9⟩ := h.1
  refine rm_Rep_br h h.2.2.1 o8 (fun b hb => ?_) (fun b hb => ?_)
  · by_cases e : b = ra_B g
    · subst e
      simp only [va_up, if_true]
      exact ⟨hr, (fun u hu => by cases hu), rg_fall_nil _⟩
    · simp only [va_up, e, if_false]
      exact o7 b hb
  · by_cases e : b = ra_B g
    · subst e
      simp only [va_up, if_true, pk_us]
      exact ⟨by first | rfl | trivial, by first | rfl | trivial, fun k hk => by cases hk⟩
    · simp only [va_up, e, if_false, pk_un e]
      exact h.2.2.2.2.2.2 b hb
theorem rm_Rep_turn {cnt bra cof : Int32} {nu : Nat → Int32} {co : Nat → Int64} {se li le fi sc ti un ma : Nat → Int32} {g : rg_A} {j : Nat} (h : rm_Rep cnt bra cof nu co se li le fi sc ti un ma g) (hj : j < 4) : rm_Rep cnt (nI j) cof nu co se li le fi sc ti un ma (rg_turn g j) :=
  rm_Rep_br h rfl hj h.1.2.2.2.2.2.2.1 h.2.2.2.2.2.2
theorem rm_Rep_undo {cnt bra cof : Int32} {nu : Nat → Int32} {co : Nat → Int64} {se li le fi sc ti un ma : Nat → Int32} {g : rg_A} {p : Nat} (h : rm_Rep cnt bra cof nu co se li le fi sc ti un ma g) (hp : p < ra_t g) (he : ra_P g (ra_t g) = nI p) :
    rm_Rep cnt bra cof nu co se li le fi sc (upd ti (ra_B g) (nI p)) (upd un (60 * ra_B g + (ra_U g (ra_B g)).length) (nI (ra_t g))) (upd ma (ra_B g) (nI ((ra_U g (ra_B g)).length + 1))) (rg_undo g) := by
  obtain ⟨o1, o2, o3, o4, o5, o6, o7, o8, o9⟩ := h.1
  have hlen := rg_fall_lt (o7 _ o8).2.2 (o7 _ o8).2.1 (o7 _ o8).1
  have hp9 : p < 2 ^ 31 := by have : ra_t g < ra_n g := (o7 _ o8).1; omega
  unfold rg_undo
  rw [he, nI_clamp hp9]
  refine rm_Rep_br h h.2.2.1 o8 (fun b hb => ?_) (fun b hb => ?_)
  · by_cases e : b = ra_B g
    · subst e
      simp only [va_up, if_true]
      refine ⟨Nat.lt_trans hp (o7 _ o8).1, fun u hu => ?_, rg_fall_push (o7 _ o8).2.2 hp⟩
      rcases List.mem_append.mp hu with h1 | h1
      · exact (o7 _ o8).2.1 u h1
      · have : u = ra_t g := by simpa using h1
        rw [this]; exact (o7 _ o8).1
    · simp only [va_up, e, if_false]
      exact o7 b hb
  · obtain ⟨a1, a2, a3⟩ := h.2.2.2.2.2.2 b hb
    by_cases e : b = ra_B g
    · subst e
      simp only [va_up, if_true, pk_us]
      refine ⟨by first | rfl | trivial, by simp, fun k hk => ?_⟩
      have hk : k < (ra_U g (ra_B g)).length + 1 := by simpa using hk
      by_cases e2 : k = (ra_U g (ra_B g)).length
      · rw [e2, pk_us]
        simp [List.getD_eq_getElem?_getD]
      · rw [pk_un (by omega), a3 k (by omega)]
        simp only [List.getD_eq_getElem?_getD]
        rw [List.getElem?_append_left (by omega)]
    · simp only [va_up, e, if_false, pk_un e]
      refine ⟨a1, a2, fun k hk => ?_⟩
      have h8 := rg_fall_lt (o7 b hb).2.2 (o7 b hb).2.1 (o7 b hb).1
      rw [pk_un (by omega)]
      exact a3 k hk
theorem ra_last_mem {l : List Nat} (h : 0 < l.length) : l = l.dropLast ++ [ra_last l] := by
  have e : l ≠ [] := by intro q; subst q; cases h
  have e2 : ra_last l = l.getLast e := by
    unfold ra_last
    rw [List.getLast_eq_getElem, List.getD_eq_getElem?_getD, List.getElem?_eq_getElem (by omega)]
    rfl
  rw [e2]
  exact (List.dropLast_concat_getLast e).symm
theorem rm_Rep_redo {cnt bra cof : Int32} {nu : Nat → Int32} {co : Nat → Int64} {se li le fi sc ti un ma : Nat → Int32} {g : rg_A} (h : rm_Rep cnt bra cof nu co se li le fi sc ti un ma g) (hl : 0 < (ra_U g (ra_B g)).length) :
    rm_Rep cnt bra cof nu co se li le fi sc (upd ti (ra_B g) (nI (ra_last (ra_U g (ra_B g))))) un (upd ma (ra_B g) (nI ((ra_U g (ra_B g)).length - 1))) (rg_redo g) := by
  obtain ⟨o1, o2, o3, o4, o5, o6, o7, o8, o9⟩ := h.1
  have hm := ra_last_mem hl
  refine rm_Rep_br h h.2.2.1 o8 (fun b hb => ?_) (fun b hb => ?_)
  · by_cases e : b = ra_B g
    · subst e
      simp only [va_up, if_true]
      obtain ⟨b1, b2, b3⟩ := o7 _ o8
      unfold rg_fall at b3 ⊢
      refine ⟨?_, fun u hu => ?_, ?_⟩
      · exact b2 _ (by rw [hm]; simp [ra_last])
      · exact b2 u (by rw [hm]; exact List.mem_append_left _ hu)
      · rw [← hm]
        exact (List.pairwise_append.mp b3).1
    · simp only [va_up, e, if_false]
      exact o7 b hb
  · obtain ⟨a1, a2, a3⟩ := h.2.2.2.2.2.2 b hb
    by_cases e : b = ra_B g
    · subst e
      simp only [va_up, if_true, pk_us]
      refine ⟨by first | rfl | trivial, by simp, fun k hk => ?_⟩
      have hk : k < (ra_U g (ra_B g)).length - 1 := by simpa using hk
      rw [a3 k (by omega)]
      simp only [List.getD_eq_getElem?_getD]
      rw [List.getElem?_dropLast, if_pos hk]
    · simp only [va_up, e, if_false, pk_un e]
      exact ⟨a1, a2, a3⟩
end
section
set_option maxHeartbeats 4000000 in
set_option maxRecDepth 100000 in
theorem c_rm_isBranch {l : Launch} {dC : Nat → ClassId} {dI : Nat → Nat → Nat} {h : Nat} {a : Nat → Nat} {cI cL : ClassId} {cod : Int32} {cnt : Int32} {bra : Int32} {cof : Int32} {mad : Int32} {nu : Nat → Int32} {co : Nat → Int64} {se : Nat → Int32} {li : Nat → Int32} {le : Nat → Int32} {fi : Nat → Int32} {sc : Nat → Int32} {ti : Nat → Int32} {un : Nat → Int32} {ma : Nat → Int32} {dr : Nat → Int32} {fr : Nat → Int32} {to : Nat → Int32} {en : Nat → Int32} (x : Int32) : rg_M l yM_isBranch (Cond.code yM_isBranch prog_8_method_15_code 1 (some .boolean) :: rg_tbl) { frames := 0, cells := 0, slots := 0, locals := 0 } (dC, dI) rg_cl [(cI, .int), (cL, .long)] (rm_W h a cI cL cod cnt bra cof mad nu co se li le fi sc ti un ma dr fr to en) [.int x] (rg_QI (dC, dI) rg_cl [(cI, .int), (cL, .long)] (S := Unit) (fun z _ => z = bif rg_isB x then 1 else 0) (fun _ => rm_W h a cI cL cod cnt bra cof mad nu co se li le fi sc ti un ma dr fr to en)) 0 0 := by
  refine rg_of prog_8_method_15_code 1 (some .boolean) (by decide) rfl (Nat.le_of_ble_eq_true rfl) ?_
  intro p e R s m args below meth c Q A H locs ls hR hQ hx hb hml hr hts hown hlk hnm hP hK hD hA hS hl
  have hl : lv_has ls 1 [(0, .int x)] := hl
  have hts : ∀ w ∈ rg_tbl, w.before args s = true := fun w h => hts w (List.mem_cons_of_mem _ h)
  refine lv_iload_n hx hb dM_isBranch_0 rfl (lv_at hl 0 rfl) ?_
  refine lv_if_lt (tgt := 13) hx hb dM_isBranch_1 (by decide) (fun h1 => ?_) (fun h1 => ?_)
  · refine lv_iconst (v := nI 0) hx hb dM_isBranch_13 (by decide) ?_
    rw [hQ]
    exact rg_zret hx hb hr hlk hK hP hD hS (by first | exact Or.inl rfl | exact Or.inr rfl) dM_isBranch_14 () rfl (by rw [show rg_isB x = false from by unfold rg_isB; rw [decide_eq_true h1]; rfl]; rfl)
  · refine lv_iload_n hx hb dM_isBranch_4 rfl (lv_at hl 0 rfl) ?_
    refine lv_iconst (v := nI 3) hx hb dM_isBranch_5 (by decide) ?_
    refine lv_icmp_gt (tgt := 13) hx hb dM_isBranch_6 (by decide) (fun h2 => ?_) (fun h2 => ?_)
    · refine lv_iconst (v := nI 0) hx hb dM_isBranch_13 (by decide) ?_
      rw [hQ]
      exact rg_zret hx hb hr hlk hK hP hD hS (by first | exact Or.inl rfl | exact Or.inr rfl) dM_isBranch_14 () rfl (by rw [show rg_isB x = false from by unfold rg_isB; rw [decide_eq_false h1, decide_eq_true (show (3 : Int32) < x from h2)]; rfl]; rfl)
    · refine lv_iconst (v := nI 1) hx hb dM_isBranch_9 (by decide) ?_
      refine lv_goto (tgt := 14) hx hb dM_isBranch_10 (by decide) ?_
      rw [hQ]
      exact rg_zret hx hb hr hlk hK hP hD hS (by first | exact Or.inl rfl | exact Or.inr rfl) dM_isBranch_14 () rfl (by rw [show rg_isB x = true from by unfold rg_isB; rw [decide_eq_false h1, decide_eq_false (show ¬ (3 : Int32) < x from h2)]; rfl]; rfl)
set_option maxHeartbeats 4000000 in
set_option maxRecDepth 100000 in
theorem c_rm_isRevision {l : Launch} {dC : Nat → ClassId} {dI : Nat → Nat → Nat} {h : Nat} {a : Nat → Nat} {cI cL : ClassId} {cod : Int32} {bra : Int32} {cof : Int32} {mad : Int32} {nu : Nat → Int32} {co : Nat → Int64} {se : Nat → Int32} {li : Nat → Int32} {le : Nat → Int32} {fi : Nat → Int32} {sc : Nat → Int32} {ti : Nat → Int32} {un : Nat → Int32} {ma : Nat → Int32} {dr : Nat → Int32} {fr : Nat → Int32} {to : Nat → Int32} {en : Nat → Int32} (n : Nat) (x : Int32) : rg_M l yM_isRevision (Cond.code yM_isRevision prog_8_method_16_code 2 (some .boolean) :: rg_tbl) { frames := 0, cells := 0, slots := 0, locals := 0 } (dC, dI) rg_cl [(cI, .int), (cL, .long)] (rm_W h a cI cL cod (nI n) bra cof mad nu co se li le fi sc ti un ma dr fr to en) [.ref h, .int x] (rg_QI (dC, dI) rg_cl [(cI, .int), (cL, .long)] (S := Unit) (fun z _ => z = bif rg_isR n x then 1 else 0) (fun _ => rm_W h a cI cL cod (nI n) bra cof mad nu co se li le fi sc ti un ma dr fr to en)) 0 0 := by
  refine rg_of prog_8_method_16_code 2 (some .boolean) (by decide) rfl (Nat.le_of_ble_eq_true rfl) ?_
  intro p e R s m args below meth c Q A H locs ls hR hQ hx hb hml hr hts hown hlk hnm hP hK hD hA hS hl
  have hl : lv_has ls 2 [(0, .ref h), (1, .int x)] := hl
  have hts : ∀ w ∈ rg_tbl, w.before args s = true := fun w h => hts w (List.mem_cons_of_mem _ h)
  refine lv_iload_n hx hb dM_isRevision_0 rfl (lv_at hl 1 rfl) ?_
  refine lv_if_lt (tgt := 16) hx hb dM_isRevision_1 (by decide) (fun h1 => ?_) (fun h1 => ?_)
  · refine lv_iconst (v := nI 0) hx hb dM_isRevision_16 (by decide) ?_
    rw [hQ]
    exact rg_zret hx hb hr hlk hK hP hD hS (by first | exact Or.inl rfl | exact Or.inr rfl) dM_isRevision_17 () rfl (by rw [show rg_isR n x = false from by unfold rg_isR; rw [decide_eq_true h1]; rfl]; rfl)
  · refine lv_iload_n hx hb dM_isRevision_4 rfl (lv_at hl 1 rfl) ?_
    refine lv_aload_n hx hb dM_isRevision_5 rfl (lv_at hl 0 rfl) ?_
    refine va_get (D := (dC, dI)) (ci := 0) (C := "RevisionGroveModel") (T := TM) (N := 19) hx hb hts inM hown hK hP 0 rfl rfl 1 (by decide) (hts _ tw_602) (fun _ h9 => h9) rfl dM_isRevision_6 ?_
    refine lv_icmp_ge (tgt := 16) hx hb dM_isRevision_9 (by decide) (fun h2 => ?_) (fun h2 => ?_)
    · refine lv_iconst (v := nI 0) hx hb dM_isRevision_16 (by decide) ?_
      rw [hQ]
      exact rg_zret hx hb hr hlk hK hP hD hS (by first | exact Or.inl rfl | exact Or.inr rfl) dM_isRevision_17 () rfl (by rw [show rg_isR n x = false from by unfold rg_isR; rw [decide_eq_false h1, decide_eq_true h2]; rfl]; rfl)
    · refine lv_iconst (v := nI 1) hx hb dM_isRevision_12 (by decide) ?_
      refine lv_goto (tgt := 17) hx hb dM_isRevision_13 (by decide) ?_
      rw [hQ]
      exact rg_zret hx hb hr hlk hK hP hD hS (by first | exact Or.inl rfl | exact Or.inr rfl) dM_isRevision_17 () rfl (by rw [show rg_isR n x = true from by unfold rg_isR; rw [decide_eq_false h1, decide_eq_false h2]; rfl]; rfl)
end
section
set_option maxHeartbeats 4000000 in
set_option maxRecDepth 100000 in
theorem c_rm_point_ok {l : Launch} {dC : Nat → ClassId} {dI : Nat → Nat → Nat} {h : Nat} {a : Nat → Nat} {cI cL : ClassId} {cod : Int32} {cof : Int32} {mad : Int32} {nu : Nat → Int32} {co : Nat → Int64} {se : Nat → Int32} {li : Nat → Int32} {le : Nat → Int32} {fi : Nat → Int32} {sc : Nat → Int32} {ti : Nat → Int32} {un : Nat → Int32} {ma : Nat → Int32} {dr : Nat → Int32} {fr : Nat → Int32} {to : Nat → Int32} {en : Nat → Int32} (n b : Nat) (Rr : Nat → rg_R) (P1 P2 : Nat → Int32) (T : Nat → Nat) (U : Nat → List Nat) (j : Nat) (hj4 : j < 4) (hrep : rm_Rep (nI n) (nI b) cof nu co se li le fi sc ti un ma (n, Rr, P1, P2, T, U, b, cof)) : rg_M l yM_point (Cond.code yM_point prog_8_method_17_code 2 none :: rg_tbl) { frames := 1, cells := 0, slots := 0, locals := 20 } (dC, dI) rg_cl [(cI, .int), (cL, .long)] (rm_W h a cI cL cod (nI n) (nI b) cof mad nu co se li le fi sc ti un ma dr fr to en) [.ref h, .int (nI j)] (rg_QV (dC, dI) rg_cl [(cI, .int), (cL, .long)] (S := rm_S) (rm_Pv (0, 0, rg_point (n, Rr, P1, P2, T, U, b, cof) j)) (fun u => rm_Wu h a cI cL u)) 0 0 := by
  refine rg_of prog_8_method_17_code 2 none (by decide) rfl (Nat.le_of_ble_eq_true rfl) ?_
  intro p e R s m args below meth c Q A H locs ls hR hQ hx hb hml hr hts hown hlk hnm hP hK hD hA hS hl
  have hl : lv_has ls 2 [(0, .ref h), (1, .int (nI j))] := hl
  have hts : ∀ w ∈ rg_tbl, w.before args s = true := fun w h => hts w (List.mem_cons_of_mem _ h)
  have hok := hrep.1
  have hn1 : 1 ≤ n := hok.1
  have hn60 : n ≤ 60 := hok.2.1
  have hb4 : b < 4 := hok.2.2.2.2.2.2.2.1
  have hTb : T b < n := (hok.2.2.2.2.2.2.1 b hb4).1
  have hti : ti b = nI (T b) := (hrep.2.2.2.2.2.2 b hb4).1
  have hma : ma b = nI (U b).length := (hrep.2.2.2.2.2.2 b hb4).2.1
  have hB := rg_isB_ok hj4
  refine lv_aload_n hx hb dM_point_0 rfl (lv_at hl 0 rfl) ?_
  refine lv_iload_n hx hb dM_point_1 rfl (lv_at hl 1 rfl) ?_
  refine rg_calli hD hS hA (va_runS (As := [.int (nI j)]) (rest := [.ref h]) ⟨hx, hb, hml, hown, hts⟩ (c_rm_isBranch (nI j) _) (cwS 1 hts (rg_gS tw_715 tw_716 tw_5 tw_717) rfl rfl rfl (by decide +kernel) ⟨by rw [hR]; exact Nat.le_of_ble_eq_true rfl, by rw [hR]; exact Nat.le_of_ble_eq_true rfl⟩) (rg_preS rfl hK hP hD) rfl rfl hl.1 rfl (lv_room (Nat.le_of_ble_eq_true rfl)) dM_point_2 ⟨Nat.zero_le _, Nat.zero_le _⟩) (fun r1 u2 H locs hw3 hP hD hS => ?_)
  subst hw3
  have hP : va_P (dC, dI) rg_cl (rm_W h a cI cL cod (nI n) (nI b) cof mad nu co se li le fi sc ti un ma dr fr to en) H := hP
  have hD : va_D A (rm_W h a cI cL cod (nI n) (nI b) cof mad nu co se li le fi sc ti un ma dr fr to en) := hD
  refine rg_ifz_eq (tgt := 12) hx hb dM_point_5 (by decide) (fun h4 => absurd (hB.symm.trans h4) (by decide)) (fun h4 => ?_)
  refine lv_iconst (v := nI 0) hx hb dM_point_8 (by decide) ?_
  refine lv_goto (tgt := 13) hx hb dM_point_9 (by decide) ?_
  refine va_put (D := (dC, dI)) (ci := 0) (v := .int (nI 0)) (ty := .int) (C := "RevisionGroveModel") (T := TM) (N := 19) hx hb hts inM tyM tyM_ok nmM hown hK hP hD hS 0 rfl rfl 0 (by decide) (hts _ tw_601) (fun _ h9 => h9) rfl (by decide +kernel) rfl rfl (Nat.le_of_ble_eq_true rfl) dM_point_13 (fun H locs hP hD hS => ?_)
  have hP : va_P (dC, dI) rg_cl (rm_W h a cI cL (nI 0) (nI n) (nI b) cof mad nu co se li le fi sc ti un ma dr fr to en) H := hP
  have hD : va_D A (rm_W h a cI cL (nI 0) (nI n) (nI b) cof mad nu co se li le fi sc ti un ma dr fr to en) := hD
  refine lv_aload_n hx hb dM_point_16 rfl (lv_at hl 0 rfl) ?_
  refine va_get (D := (dC, dI)) (ci := 0) (C := "RevisionGroveModel") (T := TM) (N := 19) hx hb hts inM hown hK hP 0 rfl rfl 0 (by decide) (hts _ tw_601) (fun _ h9 => h9) rfl dM_point_17 ?_
  refine rg_ifN_le (tgt := 24) hx hb dM_point_20 (by decide) (by decide) (fun h5 => ?_) (fun h5 => by exfalso; omega)
  refine lv_aload_n hx hb dM_point_24 rfl (lv_at hl 0 rfl) ?_
  refine va_get (D := (dC, dI)) (ci := 0) (C := "RevisionGroveModel") (T := TM) (N := 19) hx hb hts inM hown hK hP 0 rfl rfl 10 (by decide) (hts _ tw_611) (fun _ h9 => h9) rfl dM_point_25 ?_
  refine lv_iload_n hx hb dM_point_28 rfl (lv_at hl 1 rfl) ?_
  refine lv_aload_n hx hb dM_point_29 rfl (lv_at hl 0 rfl) ?_
  refine rg_calli hD hS hA (va_runV (As := []) (rest := [.int (nI j), .ref ((a 8))]) ⟨hx, hb, hml, hown, hts⟩ (c_rm_here b (by omega) _) (cwV 0 hts (rg_gV tw_667 tw_669 ts_M_here tw_5 tw_670) rfl rfl rfl (by decide +kernel) ⟨by rw [hR]; exact Nat.le_of_ble_eq_true rfl, by rw [hR]; exact Nat.le_of_ble_eq_true rfl⟩) (rg_preV rfl hK hP hD (ci := 0) (q0 := 0) rfl rfl) rfl rfl hl.1 rfl (lv_room (Nat.le_of_ble_eq_true rfl)) dM_point_30 ⟨Nat.zero_le _, Nat.zero_le _⟩) (fun r6 u7 H locs hw8 hP hD hS => ?_)
  subst hw8
  have hP : va_P (dC, dI) rg_cl (rm_W h a cI cL (nI 0) (nI n) (nI b) cof mad nu co se li le fi sc ti un ma dr fr to en) H := hP
  have hD : va_D A (rm_W h a cI cL (nI 0) (nI n) (nI b) cof mad nu co se li le fi sc ti un ma dr fr to en) := hD
  refine rg_top (show (.int (ti b) : Value) = .int (nI (T b)) by rw [hti]) ?_
  refine rg_iast hx hb hK hP hD hS 8 0 rfl rfl (by decide) (by omega) dM_point_33 (fun H locs hP hD hS => ?_)
  have hP : va_P (dC, dI) rg_cl (rm_W h a cI cL (nI 0) (nI n) (nI b) cof mad nu co se li le fi sc (upd ti j (nI (T b))) un ma dr fr to en) H := hP
  have hD : va_D A (rm_W h a cI cL (nI 0) (nI n) (nI b) cof mad nu co se li le fi sc (upd ti j (nI (T b))) un ma dr fr to en) := hD
  refine lv_aload_n hx hb dM_point_34 rfl (lv_at hl 0 rfl) ?_
  refine va_get (D := (dC, dI)) (ci := 0) (C := "RevisionGroveModel") (T := TM) (N := 19) hx hb hts inM hown hK hP 0 rfl rfl 12 (by decide) (hts _ tw_613) (fun _ h9 => h9) rfl dM_point_35 ?_
  refine lv_iload_n hx hb dM_point_38 rfl (lv_at hl 1 rfl) ?_
  refine lv_iload_n hx hb dM_point_39 rfl (lv_at hl 1 rfl) ?_
  refine lv_aload_n hx hb dM_point_40 rfl (lv_at hl 0 rfl) ?_
  refine va_get (D := (dC, dI)) (ci := 0) (C := "RevisionGroveModel") (T := TM) (N := 19) hx hb hts inM hown hK hP 0 rfl rfl 9 (by decide) (hts _ tw_610) (fun _ h9 => h9) rfl dM_point_41 ?_
  have J44 : ∀ v9 : Int32, v9 = (if j = b then ma j else nI 0) → W p l e R s m args below meth c H locs 0 0 Q (F0 m 57 ls [.int v9, .int (nI j), .ref ((a 10))]) := by
    intro v9 hv9
    subst hv9
    refine rg_iast hx hb hK hP hD hS 10 0 rfl rfl (by decide) (by omega) dM_point_57 (fun H locs hP hD hS => ?_)
    have hP : va_P (dC, dI) rg_cl (rm_W h a cI cL (nI 0) (nI n) (nI b) cof mad nu co se li le fi sc (upd ti j (nI (T b))) un (upd ma j (if j = b then ma j else nI 0)) dr fr to en) H := hP
    have hD : va_D A (rm_W h a cI cL (nI 0) (nI n) (nI b) cof mad nu co se li le fi sc (upd ti j (nI (T b))) un (upd ma j (if j = b then ma j else nI 0)) dr fr to en) := hD
    rw [hQ]
    exact rg_vret hx hb hr hlk hK hP hD hS dM_point_58 (nI 0, nI n, nI b, cof, mad, nu, co, se, li, le, fi, sc, upd ti j (nI (T b)), un, upd ma j (if j = b then ma j else nI 0), dr, fr, to, en) rfl (⟨rm_Rep_point (g := (n, Rr, P1, P2, T, U, b, cof)) hrep hj4, rfl⟩)
  refine rg_icmp_ne (tgt := 56) hx hb dM_point_44 (by decide) (by omega) (by omega) (fun h9 => ?_) (fun h9 => ?_)
  · refine lv_iconst (v := nI 0) hx hb dM_point_56 (by decide) ?_
    exact J44 _ (by rw [if_neg h9])
  · refine lv_aload_n hx hb dM_point_47 rfl (lv_at hl 0 rfl) ?_
    refine va_get (D := (dC, dI)) (ci := 0) (C := "RevisionGroveModel") (T := TM) (N := 19) hx hb hts inM hown hK hP 0 rfl rfl 12 (by decide) (hts _ tw_613) (fun _ h9 => h9) rfl dM_point_48 ?_
    refine lv_iload_n hx hb dM_point_51 rfl (lv_at hl 1 rfl) ?_
    refine rg_iald hx hb hK hP 10 0 rfl rfl (by decide) (by omega) dM_point_52 ?_
    refine lv_goto (tgt := 57) hx hb dM_point_53 (by decide) ?_
    exact J44 _ (by rw [if_pos h9])
set_option maxHeartbeats 4000000 in
set_option maxRecDepth 100000 in
theorem c_rm_point_bad {l : Launch} {dC : Nat → ClassId} {dI : Nat → Nat → Nat} {h : Nat} {a : Nat → Nat} {cI cL : ClassId} {cod : Int32} {cof : Int32} {mad : Int32} {nu : Nat → Int32} {co : Nat → Int64} {se : Nat → Int32} {li : Nat → Int32} {le : Nat → Int32} {fi : Nat → Int32} {sc : Nat → Int32} {ti : Nat → Int32} {un : Nat → Int32} {ma : Nat → Int32} {dr : Nat → Int32} {fr : Nat → Int32} {to : Nat → Int32} {en : Nat → Int32} (n b : Nat) (Rr : Nat → rg_R) (P1 P2 : Nat → Int32) (T : Nat → Nat) (U : Nat → List Nat) (x : Int32) (hB : rg_isB x = false) (hrep : rm_Rep (nI n) (nI b) cof nu co se li le fi sc ti un ma (n, Rr, P1, P2, T, U, b, cof)) : rg_M l yM_point (Cond.code yM_point prog_8_method_17_code 2 none :: rg_tbl) { frames := 1, cells := 0, slots := 0, locals := 20 } (dC, dI) rg_cl [(cI, .int), (cL, .long)] (rm_W h a cI cL cod (nI n) (nI b) cof mad nu co se li le fi sc ti un ma dr fr to en) [.ref h, .int x] (rg_QV (dC, dI) rg_cl [(cI, .int), (cL, .long)] (S := rm_S) (rm_Pv (1, 0, (n, Rr, P1, P2, T, U, b, cof))) (fun u => rm_Wu h a cI cL u)) 0 0 := by
  refine rg_of prog_8_method_17_code 2 none (by decide) rfl (Nat.le_of_ble_eq_true rfl) ?_
  intro p e R s m args below meth c Q A H locs ls hR hQ hx hb hml hr hts hown hlk hnm hP hK hD hA hS hl
  have hl : lv_has ls 2 [(0, .ref h), (1, .int x)] := hl
  have hts : ∀ w ∈ rg_tbl, w.before args s = true := fun w h => hts w (List.mem_cons_of_mem _ h)
  have hok := hrep.1
  have hn1 : 1 ≤ n := hok.1
  have hn60 : n ≤ 60 := hok.2.1
  have hb4 : b < 4 := hok.2.2.2.2.2.2.2.1
  have hTb : T b < n := (hok.2.2.2.2.2.2.1 b hb4).1
  have hti : ti b = nI (T b) := (hrep.2.2.2.2.2.2 b hb4).1
  have hma : ma b = nI (U b).length := (hrep.2.2.2.2.2.2 b hb4).2.1
  refine lv_aload_n hx hb dM_point_0 rfl (lv_at hl 0 rfl) ?_
  refine lv_iload_n hx hb dM_point_1 rfl (lv_at hl 1 rfl) ?_
  refine rg_calli hD hS hA (va_runS (As := [.int x]) (rest := [.ref h]) ⟨hx, hb, hml, hown, hts⟩ (c_rm_isBranch x _) (cwS 1 hts (rg_gS tw_715 tw_716 tw_5 tw_717) rfl rfl rfl (by decide +kernel) ⟨by rw [hR]; exact Nat.le_of_ble_eq_true rfl, by rw [hR]; exact Nat.le_of_ble_eq_true rfl⟩) (rg_preS rfl hK hP hD) rfl rfl hl.1 rfl (lv_room (Nat.le_of_ble_eq_true rfl)) dM_point_2 ⟨Nat.zero_le _, Nat.zero_le _⟩) (fun r1 u2 H locs hw3 hP hD hS => ?_)
  subst hw3
  have hP : va_P (dC, dI) rg_cl (rm_W h a cI cL cod (nI n) (nI b) cof mad nu co se li le fi sc ti un ma dr fr to en) H := hP
  have hD : va_D A (rm_W h a cI cL cod (nI n) (nI b) cof mad nu co se li le fi sc ti un ma dr fr to en) := hD
  refine rg_ifz_eq (tgt := 12) hx hb dM_point_5 (by decide) (fun h4 => ?_) (fun h4 => absurd (hB.symm.trans h4) (by decide))
  refine lv_iconst (v := nI 1) hx hb dM_point_12 (by decide) ?_
  refine va_put (D := (dC, dI)) (ci := 0) (v := .int (nI 1)) (ty := .int) (C := "RevisionGroveModel") (T := TM) (N := 19) hx hb hts inM tyM tyM_ok nmM hown hK hP hD hS 0 rfl rfl 0 (by decide) (hts _ tw_601) (fun _ h9 => h9) rfl (by decide +kernel) rfl rfl (Nat.le_of_ble_eq_true rfl) dM_point_13 (fun H locs hP hD hS => ?_)
  have hP : va_P (dC, dI) rg_cl (rm_W h a cI cL (nI 1) (nI n) (nI b) cof mad nu co se li le fi sc ti un ma dr fr to en) H := hP
  have hD : va_D A (rm_W h a cI cL (nI 1) (nI n) (nI b) cof mad nu co se li le fi sc ti un ma dr fr to en) := hD
  refine lv_aload_n hx hb dM_point_16 rfl (lv_at hl 0 rfl) ?_
  refine va_get (D := (dC, dI)) (ci := 0) (C := "RevisionGroveModel") (T := TM) (N := 19) hx hb hts inM hown hK hP 0 rfl rfl 0 (by decide) (hts _ tw_601) (fun _ h9 => h9) rfl dM_point_17 ?_
  refine rg_ifN_le (tgt := 24) hx hb dM_point_20 (by decide) (by decide) (fun h5 => by exfalso; omega) (fun h5 => ?_)
  rw [hQ]
  exact rg_vret hx hb hr hlk hK hP hD hS dM_point_23 (nI 1, nI n, nI b, cof, mad, nu, co, se, li, le, fi, sc, ti, un, ma, dr, fr, to, en) rfl (⟨hrep, rfl⟩)
theorem c_rm_point {l : Launch} {dC : Nat → ClassId} {dI : Nat → Nat → Nat} {h : Nat} {a : Nat → Nat} {cI cL : ClassId} {cod : Int32} {cof : Int32} {mad : Int32} {nu : Nat → Int32} {co : Nat → Int64} {se : Nat → Int32} {li : Nat → Int32} {le : Nat → Int32} {fi : Nat → Int32} {sc : Nat → Int32} {ti : Nat → Int32} {un : Nat → Int32} {ma : Nat → Int32} {dr : Nat → Int32} {fr : Nat → Int32} {to : Nat → Int32} {en : Nat → Int32} (n b : Nat) (Rr : Nat → rg_R) (P1 P2 : Nat → Int32) (T : Nat → Nat) (U : Nat → List Nat) (x : Int32) (hrep : rm_Rep (nI n) (nI b) cof nu co se li le fi sc ti un ma (n, Rr, P1, P2, T, U, b, cof)) : rg_M l yM_point (Cond.code yM_point prog_8_method_17_code 2 none :: rg_tbl) { frames := 1, cells := 0, slots := 0, locals := 20 } (dC, dI) rg_cl [(cI, .int), (cL, .long)] (rm_W h a cI cL cod (nI n) (nI b) cof mad nu co se li le fi sc ti un ma dr fr to en) [.ref h, .int x] (rg_QV (dC, dI) rg_cl [(cI, .int), (cL, .long)] (S := rm_S) (rm_Pv (rg_oPoint (n, Rr, P1, P2, T, U, b, cof) x)) (fun u => rm_Wu h a cI cL u)) 0 0 := by
  unfold rg_oPoint
  cases hB : rg_isB x with
  | false => exact c_rm_point_bad n b Rr P1 P2 T U x hB hrep
  | true =>
    obtain ⟨j, hj, rfl⟩ := rg_isB_of hB
    rw [nI_clamp (by omega)]
    exact c_rm_point_ok n b Rr P1 P2 T U j hj hrep
set_option maxHeartbeats 4000000 in
set_option maxRecDepth 100000 in
theorem c_rm_turn_ok {l : Launch} {dC : Nat → ClassId} {dI : Nat → Nat → Nat} {h : Nat} {a : Nat → Nat} {cI cL : ClassId} {cod : Int32} {cof : Int32} {mad : Int32} {nu : Nat → Int32} {co : Nat → Int64} {se : Nat → Int32} {li : Nat → Int32} {le : Nat → Int32} {fi : Nat → Int32} {sc : Nat → Int32} {ti : Nat → Int32} {un : Nat → Int32} {ma : Nat → Int32} {dr : Nat → Int32} {fr : Nat → Int32} {to : Nat → Int32} {en : Nat → Int32} (n b : Nat) (Rr : Nat → rg_R) (P1 P2 : Nat → Int32) (T : Nat → Nat) (U : Nat → List Nat) (j : Nat) (hj4 : j < 4) (hrep : rm_Rep (nI n) (nI b) cof nu co se li le fi sc ti un ma (n, Rr, P1, P2, T, U, b, cof)) : rg_M l yM_turn (Cond.code yM_turn prog_8_method_18_code 2 (some .int) :: rg_tbl) { frames := 1, cells := 0, slots := 0, locals := 20 } (dC, dI) rg_cl [(cI, .int), (cL, .long)] (rm_W h a cI cL cod (nI n) (nI b) cof mad nu co se li le fi sc ti un ma dr fr to en) [.ref h, .int (nI j)] (rg_QI (dC, dI) rg_cl [(cI, .int), (cL, .long)] (S := rm_S) (rm_Po (0, nI (T j), rg_turn (n, Rr, P1, P2, T, U, b, cof) j)) (fun u => rm_Wu h a cI cL u)) 0 0 := by
  refine rg_of prog_8_method_18_code 2 (some .int) (by decide) rfl (Nat.le_of_ble_eq_true rfl) ?_
  intro p e R s m args below meth c Q A H locs ls hR hQ hx hb hml hr hts hown hlk hnm hP hK hD hA hS hl
  have hl : lv_has ls 2 [(0, .ref h), (1, .int (nI j))] := hl
  have hts : ∀ w ∈ rg_tbl, w.before args s = true := fun w h => hts w (List.mem_cons_of_mem _ h)
  have hok := hrep.1
  have hn1 : 1 ≤ n := hok.1
  have hn60 : n ≤ 60 := hok.2.1
  have hb4 : b < 4 := hok.2.2.2.2.2.2.2.1
  have hTb : T b < n := (hok.2.2.2.2.2.2.1 b hb4).1
  have hti : ti b = nI (T b) := (hrep.2.2.2.2.2.2 b hb4).1
  have hma : ma b = nI (U b).length := (hrep.2.2.2.2.2.2 b hb4).2.1
  have hB := rg_isB_ok hj4
  have htj : ti j = nI (T j) := (hrep.2.2.2.2.2.2 j hj4).1
  refine lv_aload_n hx hb dM_turn_0 rfl (lv_at hl 0 rfl) ?_
  refine lv_iload_n hx hb dM_turn_1 rfl (lv_at hl 1 rfl) ?_
  refine rg_calli hD hS hA (va_runS (As := [.int (nI j)]) (rest := [.ref h]) ⟨hx, hb, hml, hown, hts⟩ (c_rm_isBranch (nI j) _) (cwS 1 hts (rg_gS tw_715 tw_716 tw_5 tw_717) rfl rfl rfl (by decide +kernel) ⟨by rw [hR]; exact Nat.le_of_ble_eq_true rfl, by rw [hR]; exact Nat.le_of_ble_eq_true rfl⟩) (rg_preS rfl hK hP hD) rfl rfl hl.1 rfl (lv_room (Nat.le_of_ble_eq_true rfl)) dM_turn_2 ⟨Nat.zero_le _, Nat.zero_le _⟩) (fun r1 u2 H locs hw3 hP hD hS => ?_)
  subst hw3
  have hP : va_P (dC, dI) rg_cl (rm_W h a cI cL cod (nI n) (nI b) cof mad nu co se li le fi sc ti un ma dr fr to en) H := hP
  have hD : va_D A (rm_W h a cI cL cod (nI n) (nI b) cof mad nu co se li le fi sc ti un ma dr fr to en) := hD
  refine rg_ifz_eq (tgt := 12) hx hb dM_turn_5 (by decide) (fun h4 => absurd (hB.symm.trans h4) (by decide)) (fun h4 => ?_)
  refine lv_iconst (v := nI 0) hx hb dM_turn_8 (by decide) ?_
  refine lv_goto (tgt := 13) hx hb dM_turn_9 (by decide) ?_
  refine va_put (D := (dC, dI)) (ci := 0) (v := .int (nI 0)) (ty := .int) (C := "RevisionGroveModel") (T := TM) (N := 19) hx hb hts inM tyM tyM_ok nmM hown hK hP hD hS 0 rfl rfl 0 (by decide) (hts _ tw_601) (fun _ h9 => h9) rfl (by decide +kernel) rfl rfl (Nat.le_of_ble_eq_true rfl) dM_turn_13 (fun H locs hP hD hS => ?_)
  have hP : va_P (dC, dI) rg_cl (rm_W h a cI cL (nI 0) (nI n) (nI b) cof mad nu co se li le fi sc ti un ma dr fr to en) H := hP
  have hD : va_D A (rm_W h a cI cL (nI 0) (nI n) (nI b) cof mad nu co se li le fi sc ti un ma dr fr to en) := hD
  refine lv_aload_n hx hb dM_turn_16 rfl (lv_at hl 0 rfl) ?_
  refine lv_aload_n hx hb dM_turn_17 rfl (lv_at hl 0 rfl) ?_
  refine va_get (D := (dC, dI)) (ci := 0) (C := "RevisionGroveModel") (T := TM) (N := 19) hx hb hts inM hown hK hP 0 rfl rfl 0 (by decide) (hts _ tw_601) (fun _ h9 => h9) rfl dM_turn_18 ?_
  refine rg_ifN_le (tgt := 31) hx hb dM_turn_21 (by decide) (by decide) (fun h5 => ?_) (fun h5 => by exfalso; omega)
  refine lv_iload_n hx hb dM_turn_31 rfl (lv_at hl 1 rfl) ?_
  refine va_put (D := (dC, dI)) (ci := 0) (v := .int (nI j)) (ty := .int) (C := "RevisionGroveModel") (T := TM) (N := 19) hx hb hts inM tyM tyM_ok nmM hown hK hP hD hS 0 rfl rfl 9 (by decide) (hts _ tw_610) (fun _ h9 => h9) rfl (by decide +kernel) rfl rfl (Nat.le_of_ble_eq_true rfl) dM_turn_32 (fun H locs hP hD hS => ?_)
  have hP : va_P (dC, dI) rg_cl (rm_W h a cI cL (nI 0) (nI n) (nI j) cof mad nu co se li le fi sc ti un ma dr fr to en) H := hP
  have hD : va_D A (rm_W h a cI cL (nI 0) (nI n) (nI j) cof mad nu co se li le fi sc ti un ma dr fr to en) := hD
  refine lv_aload_n hx hb dM_turn_35 rfl (lv_at hl 0 rfl) ?_
  refine va_get (D := (dC, dI)) (ci := 0) (C := "RevisionGroveModel") (T := TM) (N := 19) hx hb hts inM hown hK hP 0 rfl rfl 0 (by decide) (hts _ tw_601) (fun _ h9 => h9) rfl dM_turn_36 ?_
  refine rg_ifN_le (tgt := 46) hx hb dM_turn_39 (by decide) (by decide) (fun h6 => ?_) (fun h6 => by exfalso; omega)
  refine lv_aload_n hx hb dM_turn_46 rfl (lv_at hl 0 rfl) ?_
  refine rg_calli hD hS hA (va_runV (As := []) (rest := []) ⟨hx, hb, hml, hown, hts⟩ (c_rm_here j (by omega) _) (cwV 0 hts (rg_gV tw_667 tw_669 ts_M_here tw_5 tw_670) rfl rfl rfl (by decide +kernel) ⟨by rw [hR]; exact Nat.le_of_ble_eq_true rfl, by rw [hR]; exact Nat.le_of_ble_eq_true rfl⟩) (rg_preV rfl hK hP hD (ci := 0) (q0 := 0) rfl rfl) rfl rfl hl.1 rfl (lv_room (Nat.le_of_ble_eq_true rfl)) dM_turn_47 ⟨Nat.zero_le _, Nat.zero_le _⟩) (fun r7 u8 H locs hw9 hP hD hS => ?_)
  subst hw9
  have hP : va_P (dC, dI) rg_cl (rm_W h a cI cL (nI 0) (nI n) (nI j) cof mad nu co se li le fi sc ti un ma dr fr to en) H := hP
  have hD : va_D A (rm_W h a cI cL (nI 0) (nI n) (nI j) cof mad nu co se li le fi sc ti un ma dr fr to en) := hD
  refine rg_top (show (.int (ti j) : Value) = .int (nI (T j)) by rw [htj]) ?_
  rw [hQ]
  exact rg_iret hx hb hr hlk hK hP hD hS dM_turn_50 (nI 0, nI n, nI j, cof, mad, nu, co, se, li, le, fi, sc, ti, un, ma, dr, fr, to, en) rfl (⟨rm_Rep_turn (g := (n, Rr, P1, P2, T, U, b, cof)) hrep hj4, rfl, rfl⟩)
set_option maxHeartbeats 4000000 in
set_option maxRecDepth 100000 in
theorem c_rm_turn_bad {l : Launch} {dC : Nat → ClassId} {dI : Nat → Nat → Nat} {h : Nat} {a : Nat → Nat} {cI cL : ClassId} {cod : Int32} {cof : Int32} {mad : Int32} {nu : Nat → Int32} {co : Nat → Int64} {se : Nat → Int32} {li : Nat → Int32} {le : Nat → Int32} {fi : Nat → Int32} {sc : Nat → Int32} {ti : Nat → Int32} {un : Nat → Int32} {ma : Nat → Int32} {dr : Nat → Int32} {fr : Nat → Int32} {to : Nat → Int32} {en : Nat → Int32} (n b : Nat) (Rr : Nat → rg_R) (P1 P2 : Nat → Int32) (T : Nat → Nat) (U : Nat → List Nat) (x : Int32) (hB : rg_isB x = false) (hrep : rm_Rep (nI n) (nI b) cof nu co se li le fi sc ti un ma (n, Rr, P1, P2, T, U, b, cof)) : rg_M l yM_turn (Cond.code yM_turn prog_8_method_18_code 2 (some .int) :: rg_tbl) { frames := 1, cells := 0, slots := 0, locals := 20 } (dC, dI) rg_cl [(cI, .int), (cL, .long)] (rm_W h a cI cL cod (nI n) (nI b) cof mad nu co se li le fi sc ti un ma dr fr to en) [.ref h, .int x] (rg_QI (dC, dI) rg_cl [(cI, .int), (cL, .long)] (S := rm_S) (rm_Po (1, 0, (n, Rr, P1, P2, T, U, b, cof))) (fun u => rm_Wu h a cI cL u)) 0 0 := by
  refine rg_of prog_8_method_18_code 2 (some .int) (by decide) rfl (Nat.le_of_ble_eq_true rfl) ?_
  intro p e R s m args below meth c Q A H locs ls hR hQ hx hb hml hr hts hown hlk hnm hP hK hD hA hS hl
  have hl : lv_has ls 2 [(0, .ref h), (1, .int x)] := hl
  have hts : ∀ w ∈ rg_tbl, w.before args s = true := fun w h => hts w (List.mem_cons_of_mem _ h)
  have hok := hrep.1
  have hn1 : 1 ≤ n := hok.1
  have hn60 : n ≤ 60 := hok.2.1
  have hb4 : b < 4 := hok.2.2.2.2.2.2.2.1
  have hTb : T b < n := (hok.2.2.2.2.2.2.1 b hb4).1
  have hti : ti b = nI (T b) := (hrep.2.2.2.2.2.2 b hb4).1
  have hma : ma b = nI (U b).length := (hrep.2.2.2.2.2.2 b hb4).2.1
  refine lv_aload_n hx hb dM_turn_0 rfl (lv_at hl 0 rfl) ?_
  refine lv_iload_n hx hb dM_turn_1 rfl (lv_at hl 1 rfl) ?_
  refine rg_calli hD hS hA (va_runS (As := [.int x]) (rest := [.ref h]) ⟨hx, hb, hml, hown, hts⟩ (c_rm_isBranch x _) (cwS 1 hts (rg_gS tw_715 tw_716 tw_5 tw_717) rfl rfl rfl (by decide +kernel) ⟨by rw [hR]; exact Nat.le_of_ble_eq_true rfl, by rw [hR]; exact Nat.le_of_ble_eq_true rfl⟩) (rg_preS rfl hK hP hD) rfl rfl hl.1 rfl (lv_room (Nat.le_of_ble_eq_true rfl)) dM_turn_2 ⟨Nat.zero_le _, Nat.zero_le _⟩) (fun r1 u2 H locs hw3 hP hD hS => ?_)
  subst hw3
  have hP : va_P (dC, dI) rg_cl (rm_W h a cI cL cod (nI n) (nI b) cof mad nu co se li le fi sc ti un ma dr fr to en) H := hP
  have hD : va_D A (rm_W h a cI cL cod (nI n) (nI b) cof mad nu co se li le fi sc ti un ma dr fr to en) := hD
  refine rg_ifz_eq (tgt := 12) hx hb dM_turn_5 (by decide) (fun h4 => ?_) (fun h4 => absurd (hB.symm.trans h4) (by decide))
  refine lv_iconst (v := nI 1) hx hb dM_turn_12 (by decide) ?_
  refine va_put (D := (dC, dI)) (ci := 0) (v := .int (nI 1)) (ty := .int) (C := "RevisionGroveModel") (T := TM) (N := 19) hx hb hts inM tyM tyM_ok nmM hown hK hP hD hS 0 rfl rfl 0 (by decide) (hts _ tw_601) (fun _ h9 => h9) rfl (by decide +kernel) rfl rfl (Nat.le_of_ble_eq_true rfl) dM_turn_13 (fun H locs hP hD hS => ?_)
  have hP : va_P (dC, dI) rg_cl (rm_W h a cI cL (nI 1) (nI n) (nI b) cof mad nu co se li le fi sc ti un ma dr fr to en) H := hP
  have hD : va_D A (rm_W h a cI cL (nI 1) (nI n) (nI b) cof mad nu co se li le fi sc ti un ma dr fr to en) := hD
  refine lv_aload_n hx hb dM_turn_16 rfl (lv_at hl 0 rfl) ?_
  refine lv_aload_n hx hb dM_turn_17 rfl (lv_at hl 0 rfl) ?_
  refine va_get (D := (dC, dI)) (ci := 0) (C := "RevisionGroveModel") (T := TM) (N := 19) hx hb hts inM hown hK hP 0 rfl rfl 0 (by decide) (hts _ tw_601) (fun _ h9 => h9) rfl dM_turn_18 ?_
  refine rg_ifN_le (tgt := 31) hx hb dM_turn_21 (by decide) (by decide) (fun h5 => by exfalso; omega) (fun h5 => ?_)
  refine lv_aload_n hx hb dM_turn_24 rfl (lv_at hl 0 rfl) ?_
  refine va_get (D := (dC, dI)) (ci := 0) (C := "RevisionGroveModel") (T := TM) (N := 19) hx hb hts inM hown hK hP 0 rfl rfl 9 (by decide) (hts _ tw_610) (fun _ h9 => h9) rfl dM_turn_25 ?_
  refine lv_goto (tgt := 32) hx hb dM_turn_28 (by decide) ?_
  refine va_put (D := (dC, dI)) (ci := 0) (v := .int (nI b)) (ty := .int) (C := "RevisionGroveModel") (T := TM) (N := 19) hx hb hts inM tyM tyM_ok nmM hown hK hP hD hS 0 rfl rfl 9 (by decide) (hts _ tw_610) (fun _ h9 => h9) rfl (by decide +kernel) rfl rfl (Nat.le_of_ble_eq_true rfl) dM_turn_32 (fun H locs hP hD hS => ?_)
  have hP : va_P (dC, dI) rg_cl (rm_W h a cI cL (nI 1) (nI n) (nI b) cof mad nu co se li le fi sc ti un ma dr fr to en) H := hP
  have hD : va_D A (rm_W h a cI cL (nI 1) (nI n) (nI b) cof mad nu co se li le fi sc ti un ma dr fr to en) := hD
  refine lv_aload_n hx hb dM_turn_35 rfl (lv_at hl 0 rfl) ?_
  refine va_get (D := (dC, dI)) (ci := 0) (C := "RevisionGroveModel") (T := TM) (N := 19) hx hb hts inM hown hK hP 0 rfl rfl 0 (by decide) (hts _ tw_601) (fun _ h9 => h9) rfl dM_turn_36 ?_
  refine rg_ifN_le (tgt := 46) hx hb dM_turn_39 (by decide) (by decide) (fun h6 => by exfalso; omega) (fun h6 => ?_)
  refine lv_iconst (v := nI 0) hx hb dM_turn_42 (by decide) ?_
  refine lv_goto (tgt := 50) hx hb dM_turn_43 (by decide) ?_
  rw [hQ]
  exact rg_iret hx hb hr hlk hK hP hD hS dM_turn_50 (nI 1, nI n, nI b, cof, mad, nu, co, se, li, le, fi, sc, ti, un, ma, dr, fr, to, en) rfl (⟨hrep, rfl, rfl⟩)
theorem c_rm_turn {l : Launch} {dC : Nat → ClassId} {dI : Nat → Nat → Nat} {h : Nat} {a : Nat → Nat} {cI cL : ClassId} {cod : Int32} {cof : Int32} {mad : Int32} {nu : Nat → Int32} {co : Nat → Int64} {se : Nat → Int32} {li : Nat → Int32} {le : Nat → Int32} {fi : Nat → Int32} {sc : Nat → Int32} {ti : Nat → Int32} {un : Nat → Int32} {ma : Nat → Int32} {dr : Nat → Int32} {fr : Nat → Int32} {to : Nat → Int32} {en : Nat → Int32} (n b : Nat) (Rr : Nat → rg_R) (P1 P2 : Nat → Int32) (T : Nat → Nat) (U : Nat → List Nat) (x : Int32) (hrep : rm_Rep (nI n) (nI b) cof nu co se li le fi sc ti un ma (n, Rr, P1, P2, T, U, b, cof)) : rg_M l yM_turn (Cond.code yM_turn prog_8_method_18_code 2 (some .int) :: rg_tbl) { frames := 1, cells := 0, slots := 0, locals := 20 } (dC, dI) rg_cl [(cI, .int), (cL, .long)] (rm_W h a cI cL cod (nI n) (nI b) cof mad nu co se li le fi sc ti un ma dr fr to en) [.ref h, .int x] (rg_QI (dC, dI) rg_cl [(cI, .int), (cL, .long)] (S := rm_S) (rm_Po (rg_oTurn (n, Rr, P1, P2, T, U, b, cof) x)) (fun u => rm_Wu h a cI cL u)) 0 0 := by
  unfold rg_oTurn
  cases hB : rg_isB x with
  | false => exact c_rm_turn_bad n b Rr P1 P2 T U x hB hrep
  | true =>
    obtain ⟨j, hj, rfl⟩ := rg_isB_of hB
    rw [nI_clamp (by omega)]
    exact c_rm_turn_ok n b Rr P1 P2 T U j hj hrep
set_option maxHeartbeats 4000000 in
set_option maxRecDepth 100000 in
theorem c_rm_go_ok {l : Launch} {dC : Nat → ClassId} {dI : Nat → Nat → Nat} {h : Nat} {a : Nat → Nat} {cI cL : ClassId} {cod : Int32} {cof : Int32} {mad : Int32} {nu : Nat → Int32} {co : Nat → Int64} {se : Nat → Int32} {li : Nat → Int32} {le : Nat → Int32} {fi : Nat → Int32} {sc : Nat → Int32} {ti : Nat → Int32} {un : Nat → Int32} {ma : Nat → Int32} {dr : Nat → Int32} {fr : Nat → Int32} {to : Nat → Int32} {en : Nat → Int32} (n b : Nat) (Rr : Nat → rg_R) (P1 P2 : Nat → Int32) (T : Nat → Nat) (U : Nat → List Nat) (j : Nat) (hjn : j < n) (hrep : rm_Rep (nI n) (nI b) cof nu co se li le fi sc ti un ma (n, Rr, P1, P2, T, U, b, cof)) : rg_M l yM_go (Cond.code yM_go prog_8_method_19_code 2 none :: rg_tbl) { frames := 1, cells := 0, slots := 0, locals := 21 } (dC, dI) rg_cl [(cI, .int), (cL, .long)] (rm_W h a cI cL cod (nI n) (nI b) cof mad nu co se li le fi sc ti un ma dr fr to en) [.ref h, .int (nI j)] (rg_QV (dC, dI) rg_cl [(cI, .int), (cL, .long)] (S := rm_S) (rm_Pv (0, 0, rg_come (n, Rr, P1, P2, T, U, b, cof) j)) (fun u => rm_Wu h a cI cL u)) 0 0 := by
  refine rg_of prog_8_method_19_code 2 none (by decide) rfl (Nat.le_of_ble_eq_true rfl) ?_
  intro p e R s m args below meth c Q A H locs ls hR hQ hx hb hml hr hts hown hlk hnm hP hK hD hA hS hl
  have hl : lv_has ls 2 [(0, .ref h), (1, .int (nI j))] := hl
  have hts : ∀ w ∈ rg_tbl, w.before args s = true := fun w h => hts w (List.mem_cons_of_mem _ h)
  have hok := hrep.1
  have hn1 : 1 ≤ n := hok.1
  have hn60 : n ≤ 60 := hok.2.1
  have hb4 : b < 4 := hok.2.2.2.2.2.2.2.1
  have hTb : T b < n := (hok.2.2.2.2.2.2.1 b hb4).1
  have hti : ti b = nI (T b) := (hrep.2.2.2.2.2.2 b hb4).1
  have hma : ma b = nI (U b).length := (hrep.2.2.2.2.2.2 b hb4).2.1
  have hB := rg_isR_ok (n := n) (by omega) hjn
  refine lv_aload_n hx hb dM_go_0 rfl (lv_at hl 0 rfl) ?_
  refine lv_aload_n hx hb dM_go_1 rfl (lv_at hl 0 rfl) ?_
  refine lv_iload_n hx hb dM_go_2 rfl (lv_at hl 1 rfl) ?_
  refine rg_calli hD hS hA (va_runV (As := [.int (nI j)]) (rest := [.ref h]) ⟨hx, hb, hml, hown, hts⟩ (c_rm_isRevision n (nI j) _) (cwV 1 hts (rg_gV tw_726 tw_728 ts_M_isRevision tw_5 tw_729) rfl rfl rfl (by decide +kernel) ⟨by rw [hR]; exact Nat.le_of_ble_eq_true rfl, by rw [hR]; exact Nat.le_of_ble_eq_true rfl⟩) (rg_preV rfl hK hP hD (ci := 0) (q0 := 0) rfl rfl) rfl rfl hl.1 rfl (lv_room (Nat.le_of_ble_eq_true rfl)) dM_go_3 ⟨Nat.zero_le _, Nat.zero_le _⟩) (fun r1 u2 H locs hw3 hP hD hS => ?_)
  subst hw3
  have hP : va_P (dC, dI) rg_cl (rm_W h a cI cL cod (nI n) (nI b) cof mad nu co se li le fi sc ti un ma dr fr to en) H := hP
  have hD : va_D A (rm_W h a cI cL cod (nI n) (nI b) cof mad nu co se li le fi sc ti un ma dr fr to en) := hD
  refine rg_ifz_eq (tgt := 13) hx hb dM_go_6 (by decide) (fun h4 => absurd (hB.symm.trans h4) (by decide)) (fun h4 => ?_)
  refine lv_iconst (v := nI 0) hx hb dM_go_9 (by decide) ?_
  refine lv_goto (tgt := 14) hx hb dM_go_10 (by decide) ?_
  refine va_put (D := (dC, dI)) (ci := 0) (v := .int (nI 0)) (ty := .int) (C := "RevisionGroveModel") (T := TM) (N := 19) hx hb hts inM tyM tyM_ok nmM hown hK hP hD hS 0 rfl rfl 0 (by decide) (hts _ tw_601) (fun _ h9 => h9) rfl (by decide +kernel) rfl rfl (Nat.le_of_ble_eq_true rfl) dM_go_14 (fun H locs hP hD hS => ?_)
  have hP : va_P (dC, dI) rg_cl (rm_W h a cI cL (nI 0) (nI n) (nI b) cof mad nu co se li le fi sc ti un ma dr fr to en) H := hP
  have hD : va_D A (rm_W h a cI cL (nI 0) (nI n) (nI b) cof mad nu co se li le fi sc ti un ma dr fr to en) := hD
  refine lv_aload_n hx hb dM_go_17 rfl (lv_at hl 0 rfl) ?_
  refine va_get (D := (dC, dI)) (ci := 0) (C := "RevisionGroveModel") (T := TM) (N := 19) hx hb hts inM hown hK hP 0 rfl rfl 0 (by decide) (hts _ tw_601) (fun _ h9 => h9) rfl dM_go_18 ?_
  refine rg_ifN_ne (tgt := 29) hx hb dM_go_21 (by decide) (by decide) (fun h5 => by exfalso; omega) (fun h5 => ?_)
  refine lv_aload_n hx hb dM_go_24 rfl (lv_at hl 0 rfl) ?_
  refine lv_iload_n hx hb dM_go_25 rfl (lv_at hl 1 rfl) ?_
  refine rg_callv hD hS hA (va_runV (As := [.int (nI j)]) (rest := []) ⟨hx, hb, hml, hown, hts⟩ (c_rm_come b (by omega) (nI j) _) (cwV 1 hts (rg_gV tw_691 tw_693 ts_M_come tw_5 tw_694) rfl rfl rfl (by decide +kernel) ⟨by rw [hR]; exact Nat.le_of_ble_eq_true rfl, by rw [hR]; exact Nat.le_of_ble_eq_true rfl⟩) (rg_preV rfl hK hP hD (ci := 0) (q0 := 0) rfl rfl) rfl rfl hl.1 rfl (lv_room (Nat.le_of_ble_eq_true rfl)) dM_go_26 ⟨Nat.zero_le _, Nat.zero_le _⟩) (fun u7 H locs hw8 hP hD hS => ?_)
  have hP : va_P (dC, dI) rg_cl (rm_W h a cI cL (nI 0) (nI n) (nI b) cof mad nu co se li le fi sc (upd ti b (nI j)) un (upd ma b (nI 0)) dr fr to en) H := hP
  have hD : va_D A (rm_W h a cI cL (nI 0) (nI n) (nI b) cof mad nu co se li le fi sc (upd ti b (nI j)) un (upd ma b (nI 0)) dr fr to en) := hD
  rw [hQ]
  exact rg_vret hx hb hr hlk hK hP hD hS dM_go_29 (nI 0, nI n, nI b, cof, mad, nu, co, se, li, le, fi, sc, upd ti b (nI j), un, upd ma b (nI 0), dr, fr, to, en) rfl (⟨rm_Rep_come (g := (n, Rr, P1, P2, T, U, b, cof)) hrep hjn, rfl⟩)
set_option maxHeartbeats 4000000 in
set_option maxRecDepth 100000 in
theorem c_rm_go_bad {l : Launch} {dC : Nat → ClassId} {dI : Nat → Nat → Nat} {h : Nat} {a : Nat → Nat} {cI cL : ClassId} {cod : Int32} {cof : Int32} {mad : Int32} {nu : Nat → Int32} {co : Nat → Int64} {se : Nat → Int32} {li : Nat → Int32} {le : Nat → Int32} {fi : Nat → Int32} {sc : Nat → Int32} {ti : Nat → Int32} {un : Nat → Int32} {ma : Nat → Int32} {dr : Nat → Int32} {fr : Nat → Int32} {to : Nat → Int32} {en : Nat → Int32} (n b : Nat) (Rr : Nat → rg_R) (P1 P2 : Nat → Int32) (T : Nat → Nat) (U : Nat → List Nat) (x : Int32) (hB : rg_isR n x = false) (hrep : rm_Rep (nI n) (nI b) cof nu co se li le fi sc ti un ma (n, Rr, P1, P2, T, U, b, cof)) : rg_M l yM_go (Cond.code yM_go prog_8_method_19_code 2 none :: rg_tbl) { frames := 1, cells := 0, slots := 0, locals := 21 } (dC, dI) rg_cl [(cI, .int), (cL, .long)] (rm_W h a cI cL cod (nI n) (nI b) cof mad nu co se li le fi sc ti un ma dr fr to en) [.ref h, .int x] (rg_QV (dC, dI) rg_cl [(cI, .int), (cL, .long)] (S := rm_S) (rm_Pv (1, 0, (n, Rr, P1, P2, T, U, b, cof))) (fun u => rm_Wu h a cI cL u)) 0 0 := by
  refine rg_of prog_8_method_19_code 2 none (by decide) rfl (Nat.le_of_ble_eq_true rfl) ?_
  intro p e R s m args below meth c Q A H locs ls hR hQ hx hb hml hr hts hown hlk hnm hP hK hD hA hS hl
  have hl : lv_has ls 2 [(0, .ref h), (1, .int x)] := hl
  have hts : ∀ w ∈ rg_tbl, w.before args s = true := fun w h => hts w (List.mem_cons_of_mem _ h)
  have hok := hrep.1
  have hn1 : 1 ≤ n := hok.1
  have hn60 : n ≤ 60 := hok.2.1
  have hb4 : b < 4 := hok.2.2.2.2.2.2.2.1
  have hTb : T b < n := (hok.2.2.2.2.2.2.1 b hb4).1
  have hti : ti b = nI (T b) := (hrep.2.2.2.2.2.2 b hb4).1
  have hma : ma b = nI (U b).length := (hrep.2.2.2.2.2.2 b hb4).2.1
  refine lv_aload_n hx hb dM_go_0 rfl (lv_at hl 0 rfl) ?_
  refine lv_aload_n hx hb dM_go_1 rfl (lv_at hl 0 rfl) ?_
  refine lv_iload_n hx hb dM_go_2 rfl (lv_at hl 1 rfl) ?_
  refine rg_calli hD hS hA (va_runV (As := [.int x]) (rest := [.ref h]) ⟨hx, hb, hml, hown, hts⟩ (c_rm_isRevision n x _) (cwV 1 hts (rg_gV tw_726 tw_728 ts_M_isRevision tw_5 tw_729) rfl rfl rfl (by decide +kernel) ⟨by rw [hR]; exact Nat.le_of_ble_eq_true rfl, by rw [hR]; exact Nat.le_of_ble_eq_true rfl⟩) (rg_preV rfl hK hP hD (ci := 0) (q0 := 0) rfl rfl) rfl rfl hl.1 rfl (lv_room (Nat.le_of_ble_eq_true rfl)) dM_go_3 ⟨Nat.zero_le _, Nat.zero_le _⟩) (fun r1 u2 H locs hw3 hP hD hS => ?_)
  subst hw3
  have hP : va_P (dC, dI) rg_cl (rm_W h a cI cL cod (nI n) (nI b) cof mad nu co se li le fi sc ti un ma dr fr to en) H := hP
  have hD : va_D A (rm_W h a cI cL cod (nI n) (nI b) cof mad nu co se li le fi sc ti un ma dr fr to en) := hD
  refine rg_ifz_eq (tgt := 13) hx hb dM_go_6 (by decide) (fun h4 => ?_) (fun h4 => absurd (hB.symm.trans h4) (by decide))
  refine lv_iconst (v := nI 1) hx hb dM_go_13 (by decide) ?_
  refine va_put (D := (dC, dI)) (ci := 0) (v := .int (nI 1)) (ty := .int) (C := "RevisionGroveModel") (T := TM) (N := 19) hx hb hts inM tyM tyM_ok nmM hown hK hP hD hS 0 rfl rfl 0 (by decide) (hts _ tw_601) (fun _ h9 => h9) rfl (by decide +kernel) rfl rfl (Nat.le_of_ble_eq_true rfl) dM_go_14 (fun H locs hP hD hS => ?_)
  have hP : va_P (dC, dI) rg_cl (rm_W h a cI cL (nI 1) (nI n) (nI b) cof mad nu co se li le fi sc ti un ma dr fr to en) H := hP
  have hD : va_D A (rm_W h a cI cL (nI 1) (nI n) (nI b) cof mad nu co se li le fi sc ti un ma dr fr to en) := hD
  refine lv_aload_n hx hb dM_go_17 rfl (lv_at hl 0 rfl) ?_
  refine va_get (D := (dC, dI)) (ci := 0) (C := "RevisionGroveModel") (T := TM) (N := 19) hx hb hts inM hown hK hP 0 rfl rfl 0 (by decide) (hts _ tw_601) (fun _ h9 => h9) rfl dM_go_18 ?_
  refine rg_ifN_ne (tgt := 29) hx hb dM_go_21 (by decide) (by decide) (fun h5 => ?_) (fun h5 => by exfalso; omega)
  rw [hQ]
  exact rg_vret hx hb hr hlk hK hP hD hS dM_go_29 (nI 1, nI n, nI b, cof, mad, nu, co, se, li, le, fi, sc, ti, un, ma, dr, fr, to, en) rfl (⟨hrep, rfl⟩)
theorem c_rm_go {l : Launch} {dC : Nat → ClassId} {dI : Nat → Nat → Nat} {h : Nat} {a : Nat → Nat} {cI cL : ClassId} {cod : Int32} {cof : Int32} {mad : Int32} {nu : Nat → Int32} {co : Nat → Int64} {se : Nat → Int32} {li : Nat → Int32} {le : Nat → Int32} {fi : Nat → Int32} {sc : Nat → Int32} {ti : Nat → Int32} {un : Nat → Int32} {ma : Nat → Int32} {dr : Nat → Int32} {fr : Nat → Int32} {to : Nat → Int32} {en : Nat → Int32} (n b : Nat) (Rr : Nat → rg_R) (P1 P2 : Nat → Int32) (T : Nat → Nat) (U : Nat → List Nat) (x : Int32) (hrep : rm_Rep (nI n) (nI b) cof nu co se li le fi sc ti un ma (n, Rr, P1, P2, T, U, b, cof)) : rg_M l yM_go (Cond.code yM_go prog_8_method_19_code 2 none :: rg_tbl) { frames := 1, cells := 0, slots := 0, locals := 21 } (dC, dI) rg_cl [(cI, .int), (cL, .long)] (rm_W h a cI cL cod (nI n) (nI b) cof mad nu co se li le fi sc ti un ma dr fr to en) [.ref h, .int x] (rg_QV (dC, dI) rg_cl [(cI, .int), (cL, .long)] (S := rm_S) (rm_Pv (rg_oGo (n, Rr, P1, P2, T, U, b, cof) x)) (fun u => rm_Wu h a cI cL u)) 0 0 := by
  unfold rg_oGo
  show rg_M _ _ _ _ _ _ _ _ _ (rg_QV _ _ _ (rm_Pv (bif rg_isR n x then _ else _)) _) _ _
  cases hB : rg_isR n x with
  | false => exact c_rm_go_bad n b Rr P1 P2 T U x hB hrep
  | true =>
    obtain ⟨j, hj, rfl⟩ := rg_isR_of hB
    rw [nI_clamp (Nat.lt_of_lt_of_le hj (Nat.le_trans hrep.1.2.1 (by decide)))]
    exact c_rm_go_ok n b Rr P1 P2 T U j hj hrep
set_option maxHeartbeats 4000000 in
set_option maxRecDepth 100000 in
theorem c_rm_undo_bad {l : Launch} {dC : Nat → ClassId} {dI : Nat → Nat → Nat} {h : Nat} {a : Nat → Nat} {cI cL : ClassId} {cod : Int32} {cof : Int32} {mad : Int32} {nu : Nat → Int32} {co : Nat → Int64} {se : Nat → Int32} {li : Nat → Int32} {le : Nat → Int32} {fi : Nat → Int32} {sc : Nat → Int32} {ti : Nat → Int32} {un : Nat → Int32} {ma : Nat → Int32} {dr : Nat → Int32} {fr : Nat → Int32} {to : Nat → Int32} {en : Nat → Int32} (n b : Nat) (Rr : Nat → rg_R) (P1 P2 : Nat → Int32) (T : Nat → Nat) (U : Nat → List Nat) (ht0 : T b = 0) (hrep : rm_Rep (nI n) (nI b) cof nu co se li le fi sc ti un ma (n, Rr, P1, P2, T, U, b, cof)) : rg_M l yM_undo (Cond.code yM_undo prog_8_method_20_code 1 (some .int) :: rg_tbl) { frames := 1, cells := 0, slots := 0, locals := 20 } (dC, dI) rg_cl [(cI, .int), (cL, .long)] (rm_W h a cI cL cod (nI n) (nI b) cof mad nu co se li le fi sc ti un ma dr fr to en) [.ref h] (rg_QI (dC, dI) rg_cl [(cI, .int), (cL, .long)] (S := rm_S) (rm_Po (1, 0, (n, Rr, P1, P2, T, U, b, cof))) (fun u => rm_Wu h a cI cL u)) 0 0 := by
  refine rg_of prog_8_method_20_code 1 (some .int) (by decide) rfl (Nat.le_of_ble_eq_true rfl) ?_
  intro p e R s m args below meth c Q A H locs ls hR hQ hx hb hml hr hts hown hlk hnm hP hK hD hA hS hl
  have hl : lv_has ls 1 [(0, .ref h)] := hl
  have hts : ∀ w ∈ rg_tbl, w.before args s = true := fun w h => hts w (List.mem_cons_of_mem _ h)
  have hok := hrep.1
  have hn1 : 1 ≤ n := hok.1
  have hn60 : n ≤ 60 := hok.2.1
  have hb4 : b < 4 := hok.2.2.2.2.2.2.2.1
  have hTb : T b < n := (hok.2.2.2.2.2.2.1 b hb4).1
  have hti : ti b = nI (T b) := (hrep.2.2.2.2.2.2 b hb4).1
  have hma : ma b = nI (U b).length := (hrep.2.2.2.2.2.2 b hb4).2.1
  refine lv_aload_n hx hb dM_undo_0 rfl (lv_at hl 0 rfl) ?_
  refine lv_aload_n hx hb dM_undo_1 rfl (lv_at hl 0 rfl) ?_
  refine rg_calli hD hS hA (va_runV (As := []) (rest := [.ref h]) ⟨hx, hb, hml, hown, hts⟩ (c_rm_here b (by omega) _) (cwV 0 hts (rg_gV tw_667 tw_669 ts_M_here tw_5 tw_670) rfl rfl rfl (by decide +kernel) ⟨by rw [hR]; exact Nat.le_of_ble_eq_true rfl, by rw [hR]; exact Nat.le_of_ble_eq_true rfl⟩) (rg_preV rfl hK hP hD (ci := 0) (q0 := 0) rfl rfl) rfl rfl hl.1 rfl (lv_room (Nat.le_of_ble_eq_true rfl)) dM_undo_2 ⟨Nat.zero_le _, Nat.zero_le _⟩) (fun r1 u2 H locs hw3 hP hD hS => ?_)
  subst hw3
  have hP : va_P (dC, dI) rg_cl (rm_W h a cI cL cod (nI n) (nI b) cof mad nu co se li le fi sc ti un ma dr fr to en) H := hP
  have hD : va_D A (rm_W h a cI cL cod (nI n) (nI b) cof mad nu co se li le fi sc ti un ma dr fr to en) := hD
  refine rg_top (show (.int (ti b) : Value) = .int (nI (T b)) by rw [hti]) ?_
  refine rg_ifN_ne (tgt := 12) hx hb dM_undo_5 (by decide) (by omega) (fun h4 => by exfalso; omega) (fun h4 => ?_)
  refine lv_iconst (v := nI 1) hx hb dM_undo_8 (by decide) ?_
  refine lv_goto (tgt := 13) hx hb dM_undo_9 (by decide) ?_
  refine va_put (D := (dC, dI)) (ci := 0) (v := .int (nI 1)) (ty := .int) (C := "RevisionGroveModel") (T := TM) (N := 19) hx hb hts inM tyM tyM_ok nmM hown hK hP hD hS 0 rfl rfl 0 (by decide) (hts _ tw_601) (fun _ h9 => h9) rfl (by decide +kernel) rfl rfl (Nat.le_of_ble_eq_true rfl) dM_undo_13 (fun H locs hP hD hS => ?_)
  have hP : va_P (dC, dI) rg_cl (rm_W h a cI cL (nI 1) (nI n) (nI b) cof mad nu co se li le fi sc ti un ma dr fr to en) H := hP
  have hD : va_D A (rm_W h a cI cL (nI 1) (nI n) (nI b) cof mad nu co se li le fi sc ti un ma dr fr to en) := hD
  refine lv_aload_n hx hb dM_undo_16 rfl (lv_at hl 0 rfl) ?_
  refine va_get (D := (dC, dI)) (ci := 0) (C := "RevisionGroveModel") (T := TM) (N := 19) hx hb hts inM hown hK hP 0 rfl rfl 0 (by decide) (hts _ tw_601) (fun _ h9 => h9) rfl dM_undo_17 ?_
  refine rg_ifN_le (tgt := 25) hx hb dM_undo_20 (by decide) (by decide) (fun h5 => by exfalso; omega) (fun h5 => ?_)
  refine lv_iconst (v := nI 0) hx hb dM_undo_23 (by decide) ?_
  rw [hQ]
  exact rg_iret hx hb hr hlk hK hP hD hS dM_undo_24 (nI 1, nI n, nI b, cof, mad, nu, co, se, li, le, fi, sc, ti, un, ma, dr, fr, to, en) rfl (⟨hrep, rfl, rfl⟩)
set_option maxHeartbeats 4000000 in
set_option maxRecDepth 100000 in
theorem c_rm_undo_ok {l : Launch} {dC : Nat → ClassId} {dI : Nat → Nat → Nat} {h : Nat} {a : Nat → Nat} {cI cL : ClassId} {cod : Int32} {cof : Int32} {mad : Int32} {nu : Nat → Int32} {co : Nat → Int64} {se : Nat → Int32} {li : Nat → Int32} {le : Nat → Int32} {fi : Nat → Int32} {sc : Nat → Int32} {ti : Nat → Int32} {un : Nat → Int32} {ma : Nat → Int32} {dr : Nat → Int32} {fr : Nat → Int32} {to : Nat → Int32} {en : Nat → Int32} (n b : Nat) (Rr : Nat → rg_R) (P1 P2 : Nat → Int32) (T : Nat → Nat) (U : Nat → List Nat) (j : Nat) (hjt : j < T b) (hP1 : P1 (T b) = nI j) (hrep : rm_Rep (nI n) (nI b) cof nu co se li le fi sc ti un ma (n, Rr, P1, P2, T, U, b, cof)) : rg_M l yM_undo (Cond.code yM_undo prog_8_method_20_code 1 (some .int) :: rg_tbl) { frames := 1, cells := 0, slots := 0, locals := 20 } (dC, dI) rg_cl [(cI, .int), (cL, .long)] (rm_W h a cI cL cod (nI n) (nI b) cof mad nu co se li le fi sc ti un ma dr fr to en) [.ref h] (rg_QI (dC, dI) rg_cl [(cI, .int), (cL, .long)] (S := rm_S) (rm_Po (0, P1 (T b), rg_undo (n, Rr, P1, P2, T, U, b, cof))) (fun u => rm_Wu h a cI cL u)) 0 0 := by
  refine rg_of prog_8_method_20_code 1 (some .int) (by decide) rfl (Nat.le_of_ble_eq_true rfl) ?_
  intro p e R s m args below meth c Q A H locs ls hR hQ hx hb hml hr hts hown hlk hnm hP hK hD hA hS hl
  have hl : lv_has ls 1 [(0, .ref h)] := hl
  have hts : ∀ w ∈ rg_tbl, w.before args s = true := fun w h => hts w (List.mem_cons_of_mem _ h)
  have hok := hrep.1
  have hn1 : 1 ≤ n := hok.1
  have hn60 : n ≤ 60 := hok.2.1
  have hb4 : b < 4 := hok.2.2.2.2.2.2.2.1
  have hTb : T b < n := (hok.2.2.2.2.2.2.1 b hb4).1
  have hti : ti b = nI (T b) := (hrep.2.2.2.2.2.2 b hb4).1
  have hma : ma b = nI (U b).length := (hrep.2.2.2.2.2.2 b hb4).2.1
  have hUl := rg_fall_lt (hok.2.2.2.2.2.2.1 b hb4).2.2 (hok.2.2.2.2.2.2.1 b hb4).2.1 hTb
  have hUl : (U b).length + T b < n := hUl
  have hfi : fi (T b) = nI j := ((hrep.2.2.2.2.2.1 (T b) hTb).1).trans hP1
  refine lv_aload_n hx hb dM_undo_0 rfl (lv_at hl 0 rfl) ?_
  refine lv_aload_n hx hb dM_undo_1 rfl (lv_at hl 0 rfl) ?_
  refine rg_calli hD hS hA (va_runV (As := []) (rest := [.ref h]) ⟨hx, hb, hml, hown, hts⟩ (c_rm_here b (by omega) _) (cwV 0 hts (rg_gV tw_667 tw_669 ts_M_here tw_5 tw_670) rfl rfl rfl (by decide +kernel) ⟨by rw [hR]; exact Nat.le_of_ble_eq_true rfl, by rw [hR]; exact Nat.le_of_ble_eq_true rfl⟩) (rg_preV rfl hK hP hD (ci := 0) (q0 := 0) rfl rfl) rfl rfl hl.1 rfl (lv_room (Nat.le_of_ble_eq_true rfl)) dM_undo_2 ⟨Nat.zero_le _, Nat.zero_le _⟩) (fun r1 u2 H locs hw3 hP hD hS => ?_)
  subst hw3
  have hP : va_P (dC, dI) rg_cl (rm_W h a cI cL cod (nI n) (nI b) cof mad nu co se li le fi sc ti un ma dr fr to en) H := hP
  have hD : va_D A (rm_W h a cI cL cod (nI n) (nI b) cof mad nu co se li le fi sc ti un ma dr fr to en) := hD
  refine rg_top (show (.int (ti b) : Value) = .int (nI (T b)) by rw [hti]) ?_
  refine rg_ifN_ne (tgt := 12) hx hb dM_undo_5 (by decide) (by omega) (fun h4 => ?_) (fun h4 => by exfalso; omega)
  refine lv_iconst (v := nI 0) hx hb dM_undo_12 (by decide) ?_
  refine va_put (D := (dC, dI)) (ci := 0) (v := .int (nI 0)) (ty := .int) (C := "RevisionGroveModel") (T := TM) (N := 19) hx hb hts inM tyM tyM_ok nmM hown hK hP hD hS 0 rfl rfl 0 (by decide) (hts _ tw_601) (fun _ h9 => h9) rfl (by decide +kernel) rfl rfl (Nat.le_of_ble_eq_true rfl) dM_undo_13 (fun H locs hP hD hS => ?_)
  have hP : va_P (dC, dI) rg_cl (rm_W h a cI cL (nI 0) (nI n) (nI b) cof mad nu co se li le fi sc ti un ma dr fr to en) H := hP
  have hD : va_D A (rm_W h a cI cL (nI 0) (nI n) (nI b) cof mad nu co se li le fi sc ti un ma dr fr to en) := hD
  refine lv_aload_n hx hb dM_undo_16 rfl (lv_at hl 0 rfl) ?_
  refine va_get (D := (dC, dI)) (ci := 0) (C := "RevisionGroveModel") (T := TM) (N := 19) hx hb hts inM hown hK hP 0 rfl rfl 0 (by decide) (hts _ tw_601) (fun _ h9 => h9) rfl dM_undo_17 ?_
  refine rg_ifN_le (tgt := 25) hx hb dM_undo_20 (by decide) (by decide) (fun h5 => ?_) (fun h5 => by exfalso; omega)
  refine lv_aload_n hx hb dM_undo_25 rfl (lv_at hl 0 rfl) ?_
  refine va_get (D := (dC, dI)) (ci := 0) (C := "RevisionGroveModel") (T := TM) (N := 19) hx hb hts inM hown hK hP 0 rfl rfl 11 (by decide) (hts _ tw_612) (fun _ h9 => h9) rfl dM_undo_26 ?_
  refine lv_bipush (v := nI 60) hx hb dM_undo_29 (by decide) ?_
  refine lv_aload_n hx hb dM_undo_31 rfl (lv_at hl 0 rfl) ?_
  refine va_get (D := (dC, dI)) (ci := 0) (C := "RevisionGroveModel") (T := TM) (N := 19) hx hb hts inM hown hK hP 0 rfl rfl 9 (by decide) (hts _ tw_610) (fun _ h9 => h9) rfl dM_undo_32 ?_
  refine rg_imul hx hb dM_undo_35 ?_
  refine lv_aload_n hx hb dM_undo_36 rfl (lv_at hl 0 rfl) ?_
  refine va_get (D := (dC, dI)) (ci := 0) (C := "RevisionGroveModel") (T := TM) (N := 19) hx hb hts inM hown hK hP 0 rfl rfl 12 (by decide) (hts _ tw_613) (fun _ h9 => h9) rfl dM_undo_37 ?_
  refine lv_aload_n hx hb dM_undo_40 rfl (lv_at hl 0 rfl) ?_
  refine va_get (D := (dC, dI)) (ci := 0) (C := "RevisionGroveModel") (T := TM) (N := 19) hx hb hts inM hown hK hP 0 rfl rfl 9 (by decide) (hts _ tw_610) (fun _ h9 => h9) rfl dM_undo_41 ?_
  refine rg_iald hx hb hK hP 10 0 rfl rfl (by decide) (by omega) dM_undo_44 ?_
  refine rg_top (show (.int (ma b) : Value) = .int (nI ((U b).length)) by rw [hma]) ?_
  refine rg_iadd hx hb dM_undo_45 ?_
  refine lv_aload_n hx hb dM_undo_46 rfl (lv_at hl 0 rfl) ?_
  refine rg_calli hD hS hA (va_runV (As := []) (rest := [.int (nI (60 * b + ((U b).length))), .ref ((a 9))]) ⟨hx, hb, hml, hown, hts⟩ (c_rm_here b (by omega) _) (cwV 0 hts (rg_gV tw_667 tw_669 ts_M_here tw_5 tw_670) rfl rfl rfl (by decide +kernel) ⟨by rw [hR]; exact Nat.le_of_ble_eq_true rfl, by rw [hR]; exact Nat.le_of_ble_eq_true rfl⟩) (rg_preV rfl hK hP hD (ci := 0) (q0 := 0) rfl rfl) rfl rfl hl.1 rfl (lv_room (Nat.le_of_ble_eq_true rfl)) dM_undo_47 ⟨Nat.zero_le _, Nat.zero_le _⟩) (fun r6 u7 H locs hw8 hP hD hS => ?_)
  subst hw8
  have hP : va_P (dC, dI) rg_cl (rm_W h a cI cL (nI 0) (nI n) (nI b) cof mad nu co se li le fi sc ti un ma dr fr to en) H := hP
  have hD : va_D A (rm_W h a cI cL (nI 0) (nI n) (nI b) cof mad nu co se li le fi sc ti un ma dr fr to en) := hD
  refine rg_top (show (.int (ti b) : Value) = .int (nI (T b)) by rw [hti]) ?_
  refine rg_iast hx hb hK hP hD hS 9 0 rfl rfl (by decide) (by omega) dM_undo_50 (fun H locs hP hD hS => ?_)
  have hP : va_P (dC, dI) rg_cl (rm_W h a cI cL (nI 0) (nI n) (nI b) cof mad nu co se li le fi sc ti (upd un (60 * b + ((U b).length)) (nI (T b))) ma dr fr to en) H := hP
  have hD : va_D A (rm_W h a cI cL (nI 0) (nI n) (nI b) cof mad nu co se li le fi sc ti (upd un (60 * b + ((U b).length)) (nI (T b))) ma dr fr to en) := hD
  refine lv_aload_n hx hb dM_undo_51 rfl (lv_at hl 0 rfl) ?_
  refine va_get (D := (dC, dI)) (ci := 0) (C := "RevisionGroveModel") (T := TM) (N := 19) hx hb hts inM hown hK hP 0 rfl rfl 12 (by decide) (hts _ tw_613) (fun _ h9 => h9) rfl dM_undo_52 ?_
  refine lv_aload_n hx hb dM_undo_55 rfl (lv_at hl 0 rfl) ?_
  refine va_get (D := (dC, dI)) (ci := 0) (C := "RevisionGroveModel") (T := TM) (N := 19) hx hb hts inM hown hK hP 0 rfl rfl 9 (by decide) (hts _ tw_610) (fun _ h9 => h9) rfl dM_undo_56 ?_
  refine lv_dup2_11 hx hb dM_undo_59 rfl rfl ?_
  refine rg_iald hx hb hK hP 10 0 rfl rfl (by decide) (by omega) dM_undo_60 ?_
  refine rg_top (show (.int (ma b) : Value) = .int (nI ((U b).length)) by rw [hma]) ?_
  refine lv_iconst (v := nI 1) hx hb dM_undo_61 (by decide) ?_
  refine rg_iadd hx hb dM_undo_62 ?_
  refine rg_iast hx hb hK hP hD hS 10 0 rfl rfl (by decide) (by omega) dM_undo_63 (fun H locs hP hD hS => ?_)
  have hP : va_P (dC, dI) rg_cl (rm_W h a cI cL (nI 0) (nI n) (nI b) cof mad nu co se li le fi sc ti (upd un (60 * b + ((U b).length)) (nI (T b))) (upd ma b (nI ((U b).length + 1))) dr fr to en) H := hP
  have hD : va_D A (rm_W h a cI cL (nI 0) (nI n) (nI b) cof mad nu co se li le fi sc ti (upd un (60 * b + ((U b).length)) (nI (T b))) (upd ma b (nI ((U b).length + 1))) dr fr to en) := hD
  refine lv_aload_n hx hb dM_undo_64 rfl (lv_at hl 0 rfl) ?_
  refine va_get (D := (dC, dI)) (ci := 0) (C := "RevisionGroveModel") (T := TM) (N := 19) hx hb hts inM hown hK hP 0 rfl rfl 10 (by decide) (hts _ tw_611) (fun _ h9 => h9) rfl dM_undo_65 ?_
  refine lv_aload_n hx hb dM_undo_68 rfl (lv_at hl 0 rfl) ?_
  refine va_get (D := (dC, dI)) (ci := 0) (C := "RevisionGroveModel") (T := TM) (N := 19) hx hb hts inM hown hK hP 0 rfl rfl 9 (by decide) (hts _ tw_610) (fun _ h9 => h9) rfl dM_undo_69 ?_
  refine lv_aload_n hx hb dM_undo_72 rfl (lv_at hl 0 rfl) ?_
  refine va_get (D := (dC, dI)) (ci := 0) (C := "RevisionGroveModel") (T := TM) (N := 19) hx hb hts inM hown hK hP 0 rfl rfl 7 (by decide) (hts _ tw_608) (fun _ h9 => h9) rfl dM_undo_73 ?_
  refine lv_aload_n hx hb dM_undo_76 rfl (lv_at hl 0 rfl) ?_
  refine rg_calli hD hS hA (va_runV (As := []) (rest := [.ref ((a 6)), .int (nI b), .ref ((a 8))]) ⟨hx, hb, hml, hown, hts⟩ (c_rm_here b (by omega) _) (cwV 0 hts (rg_gV tw_667 tw_669 ts_M_here tw_5 tw_670) rfl rfl rfl (by decide +kernel) ⟨by rw [hR]; exact Nat.le_of_ble_eq_true rfl, by rw [hR]; exact Nat.le_of_ble_eq_true rfl⟩) (rg_preV rfl hK hP hD (ci := 0) (q0 := 0) rfl rfl) rfl rfl hl.1 rfl (lv_room (Nat.le_of_ble_eq_true rfl)) dM_undo_77 ⟨Nat.zero_le _, Nat.zero_le _⟩) (fun r9 u10 H locs hw11 hP hD hS => ?_)
  subst hw11
  have hP : va_P (dC, dI) rg_cl (rm_W h a cI cL (nI 0) (nI n) (nI b) cof mad nu co se li le fi sc ti (upd un (60 * b + ((U b).length)) (nI (T b))) (upd ma b (nI ((U b).length + 1))) dr fr to en) H := hP
  have hD : va_D A (rm_W h a cI cL (nI 0) (nI n) (nI b) cof mad nu co se li le fi sc ti (upd un (60 * b + ((U b).length)) (nI (T b))) (upd ma b (nI ((U b).length + 1))) dr fr to en) := hD
  refine rg_top (show (.int (ti b) : Value) = .int (nI (T b)) by rw [hti]) ?_
  refine rg_iald hx hb hK hP 6 0 rfl rfl (by decide) (by omega) dM_undo_80 ?_
  refine rg_top (show (.int (fi (T b)) : Value) = .int (nI j) by rw [hfi]) ?_
  refine rg_iast hx hb hK hP hD hS 8 0 rfl rfl (by decide) (by omega) dM_undo_81 (fun H locs hP hD hS => ?_)
  have hP : va_P (dC, dI) rg_cl (rm_W h a cI cL (nI 0) (nI n) (nI b) cof mad nu co se li le fi sc (upd ti b (nI j)) (upd un (60 * b + ((U b).length)) (nI (T b))) (upd ma b (nI ((U b).length + 1))) dr fr to en) H := hP
  have hD : va_D A (rm_W h a cI cL (nI 0) (nI n) (nI b) cof mad nu co se li le fi sc (upd ti b (nI j)) (upd un (60 * b + ((U b).length)) (nI (T b))) (upd ma b (nI ((U b).length + 1))) dr fr to en) := hD
  refine lv_aload_n hx hb dM_undo_82 rfl (lv_at hl 0 rfl) ?_
  refine rg_calli hD hS hA (va_runV (As := []) (rest := []) ⟨hx, hb, hml, hown, hts⟩ (c_rm_here b (by omega) _) (cwV 0 hts (rg_gV tw_667 tw_669 ts_M_here tw_5 tw_670) rfl rfl rfl (by decide +kernel) ⟨by rw [hR]; exact Nat.le_of_ble_eq_true rfl, by rw [hR]; exact Nat.le_of_ble_eq_true rfl⟩) (rg_preV rfl hK hP hD (ci := 0) (q0 := 0) rfl rfl) rfl rfl hl.1 rfl (lv_room (Nat.le_of_ble_eq_true rfl)) dM_undo_83 ⟨Nat.zero_le _, Nat.zero_le _⟩) (fun r12 u13 H locs hw14 hP hD hS => ?_)
  subst hw14
  have hP : va_P (dC, dI) rg_cl (rm_W h a cI cL (nI 0) (nI n) (nI b) cof mad nu co se li le fi sc (upd ti b (nI j)) (upd un (60 * b + ((U b).length)) (nI (T b))) (upd ma b (nI ((U b).length + 1))) dr fr to en) H := hP
  have hD : va_D A (rm_W h a cI cL (nI 0) (nI n) (nI b) cof mad nu co se li le fi sc (upd ti b (nI j)) (upd un (60 * b + ((U b).length)) (nI (T b))) (upd ma b (nI ((U b).length + 1))) dr fr to en) := hD
  refine rg_top (show (.int ((upd ti b (nI j)) b) : Value) = .int (nI j) by rw [pk_us]) ?_
  rw [hQ]
  exact rg_iret hx hb hr hlk hK hP hD hS dM_undo_86 (nI 0, nI n, nI b, cof, mad, nu, co, se, li, le, fi, sc, upd ti b (nI j), upd un (60 * b + ((U b).length)) (nI (T b)), upd ma b (nI ((U b).length + 1)), dr, fr, to, en) rfl (⟨rm_Rep_undo (g := (n, Rr, P1, P2, T, U, b, cof)) hrep hjt hP1, rfl, hP1.symm⟩)
theorem c_rm_undo {l : Launch} {dC : Nat → ClassId} {dI : Nat → Nat → Nat} {h : Nat} {a : Nat → Nat} {cI cL : ClassId} {cod : Int32} {cof : Int32} {mad : Int32} {nu : Nat → Int32} {co : Nat → Int64} {se : Nat → Int32} {li : Nat → Int32} {le : Nat → Int32} {fi : Nat → Int32} {sc : Nat → Int32} {ti : Nat → Int32} {un : Nat → Int32} {ma : Nat → Int32} {dr : Nat → Int32} {fr : Nat → Int32} {to : Nat → Int32} {en : Nat → Int32} (n b : Nat) (Rr : Nat → rg_R) (P1 P2 : Nat → Int32) (T : Nat → Nat) (U : Nat → List Nat) (hrep : rm_Rep (nI n) (nI b) cof nu co se li le fi sc ti un ma (n, Rr, P1, P2, T, U, b, cof)) : rg_M l yM_undo (Cond.code yM_undo prog_8_method_20_code 1 (some .int) :: rg_tbl) { frames := 1, cells := 0, slots := 0, locals := 20 } (dC, dI) rg_cl [(cI, .int), (cL, .long)] (rm_W h a cI cL cod (nI n) (nI b) cof mad nu co se li le fi sc ti un ma dr fr to en) [.ref h] (rg_QI (dC, dI) rg_cl [(cI, .int), (cL, .long)] (S := rm_S) (rm_Po (rg_oUndo (n, Rr, P1, P2, T, U, b, cof))) (fun u => rm_Wu h a cI cL u)) 0 0 := by
  have hb4 : b < 4 := hrep.1.2.2.2.2.2.2.2.1
  by_cases h0 : T b = 0
  · rw [show rg_oUndo (n, Rr, P1, P2, T, U, b, cof) = (1, 0, (n, Rr, P1, P2, T, U, b, cof)) from if_pos h0]; exact c_rm_undo_bad n b Rr P1 P2 T U h0 hrep
  · rw [show rg_oUndo (n, Rr, P1, P2, T, U, b, cof) = (0, P1 (T b), rg_undo (n, Rr, P1, P2, T, U, b, cof)) from if_neg h0]
    obtain ⟨j, hj, e9⟩ := hrep.1.2.2.2.2.1 (T b) (Nat.pos_of_ne_zero h0) (hrep.1.2.2.2.2.2.2.1 b hb4).1
    exact c_rm_undo_ok n b Rr P1 P2 T U j hj e9 hrep
set_option maxHeartbeats 4000000 in
set_option maxRecDepth 100000 in
theorem c_rm_redo_bad {l : Launch} {dC : Nat → ClassId} {dI : Nat → Nat → Nat} {h : Nat} {a : Nat → Nat} {cI cL : ClassId} {cod : Int32} {cof : Int32} {mad : Int32} {nu : Nat → Int32} {co : Nat → Int64} {se : Nat → Int32} {li : Nat → Int32} {le : Nat → Int32} {fi : Nat → Int32} {sc : Nat → Int32} {ti : Nat → Int32} {un : Nat → Int32} {ma : Nat → Int32} {dr : Nat → Int32} {fr : Nat → Int32} {to : Nat → Int32} {en : Nat → Int32} (n b : Nat) (Rr : Nat → rg_R) (P1 P2 : Nat → Int32) (T : Nat → Nat) (U : Nat → List Nat) (hU0 : (U b).length = 0) (hrep : rm_Rep (nI n) (nI b) cof nu co se li le fi sc ti un ma (n, Rr, P1, P2, T, U, b, cof)) : rg_M l yM_redo (Cond.code yM_redo prog_8_method_21_code 1 (some .int) :: rg_tbl) { frames := 1, cells := 0, slots := 0, locals := 20 } (dC, dI) rg_cl [(cI, .int), (cL, .long)] (rm_W h a cI cL cod (nI n) (nI b) cof mad nu co se li le fi sc ti un ma dr fr to en) [.ref h] (rg_QI (dC, dI) rg_cl [(cI, .int), (cL, .long)] (S := rm_S) (rm_Po (1, 0, (n, Rr, P1, P2, T, U, b, cof))) (fun u => rm_Wu h a cI cL u)) 0 0 := by
  refine rg_of prog_8_method_21_code 1 (some .int) (by decide) rfl (Nat.le_of_ble_eq_true rfl) ?_
  intro p e R s m args below meth c Q A H locs ls hR hQ hx hb hml hr hts hown hlk hnm hP hK hD hA hS hl
  have hl : lv_has ls 1 [(0, .ref h)] := hl
  have hts : ∀ w ∈ rg_tbl, w.before args s = true := fun w h => hts w (List.mem_cons_of_mem _ h)
  have hok := hrep.1
  have hn1 : 1 ≤ n := hok.1
  have hn60 : n ≤ 60 := hok.2.1
  have hb4 : b < 4 := hok.2.2.2.2.2.2.2.1
  have hTb : T b < n := (hok.2.2.2.2.2.2.1 b hb4).1
  have hti : ti b = nI (T b) := (hrep.2.2.2.2.2.2 b hb4).1
  have hma : ma b = nI (U b).length := (hrep.2.2.2.2.2.2 b hb4).2.1
  refine lv_aload_n hx hb dM_redo_0 rfl (lv_at hl 0 rfl) ?_
  refine lv_aload_n hx hb dM_redo_1 rfl (lv_at hl 0 rfl) ?_
  refine va_get (D := (dC, dI)) (ci := 0) (C := "RevisionGroveModel") (T := TM) (N := 19) hx hb hts inM hown hK hP 0 rfl rfl 12 (by decide) (hts _ tw_613) (fun _ h9 => h9) rfl dM_redo_2 ?_
  refine lv_aload_n hx hb dM_redo_5 rfl (lv_at hl 0 rfl) ?_
  refine va_get (D := (dC, dI)) (ci := 0) (C := "RevisionGroveModel") (T := TM) (N := 19) hx hb hts inM hown hK hP 0 rfl rfl 9 (by decide) (hts _ tw_610) (fun _ h9 => h9) rfl dM_redo_6 ?_
  refine rg_iald hx hb hK hP 10 0 rfl rfl (by decide) (by omega) dM_redo_9 ?_
  refine rg_top (show (.int (ma b) : Value) = .int (nI ((U b).length)) by rw [hma]) ?_
  refine rg_ifN_ne (tgt := 17) hx hb dM_redo_10 (by decide) (by omega) (fun h1 => by exfalso; omega) (fun h1 => ?_)
  refine lv_iconst (v := nI 1) hx hb dM_redo_13 (by decide) ?_
  refine lv_goto (tgt := 18) hx hb dM_redo_14 (by decide) ?_
  refine va_put (D := (dC, dI)) (ci := 0) (v := .int (nI 1)) (ty := .int) (C := "RevisionGroveModel") (T := TM) (N := 19) hx hb hts inM tyM tyM_ok nmM hown hK hP hD hS 0 rfl rfl 0 (by decide) (hts _ tw_601) (fun _ h9 => h9) rfl (by decide +kernel) rfl rfl (Nat.le_of_ble_eq_true rfl) dM_redo_18 (fun H locs hP hD hS => ?_)
  have hP : va_P (dC, dI) rg_cl (rm_W h a cI cL (nI 1) (nI n) (nI b) cof mad nu co se li le fi sc ti un ma dr fr to en) H := hP
  have hD : va_D A (rm_W h a cI cL (nI 1) (nI n) (nI b) cof mad nu co se li le fi sc ti un ma dr fr to en) := hD
  refine lv_aload_n hx hb dM_redo_21 rfl (lv_at hl 0 rfl) ?_
  refine va_get (D := (dC, dI)) (ci := 0) (C := "RevisionGroveModel") (T := TM) (N := 19) hx hb hts inM hown hK hP 0 rfl rfl 0 (by decide) (hts _ tw_601) (fun _ h9 => h9) rfl dM_redo_22 ?_
  refine rg_ifN_le (tgt := 30) hx hb dM_redo_25 (by decide) (by decide) (fun h2 => by exfalso; omega) (fun h2 => ?_)
  refine lv_iconst (v := nI 0) hx hb dM_redo_28 (by decide) ?_
  rw [hQ]
  exact rg_iret hx hb hr hlk hK hP hD hS dM_redo_29 (nI 1, nI n, nI b, cof, mad, nu, co, se, li, le, fi, sc, ti, un, ma, dr, fr, to, en) rfl (⟨hrep, rfl, rfl⟩)
set_option maxHeartbeats 4000000 in
set_option maxRecDepth 100000 in
theorem c_rm_redo_ok {l : Launch} {dC : Nat → ClassId} {dI : Nat → Nat → Nat} {h : Nat} {a : Nat → Nat} {cI cL : ClassId} {cod : Int32} {cof : Int32} {mad : Int32} {nu : Nat → Int32} {co : Nat → Int64} {se : Nat → Int32} {li : Nat → Int32} {le : Nat → Int32} {fi : Nat → Int32} {sc : Nat → Int32} {ti : Nat → Int32} {un : Nat → Int32} {ma : Nat → Int32} {dr : Nat → Int32} {fr : Nat → Int32} {to : Nat → Int32} {en : Nat → Int32} (n b : Nat) (Rr : Nat → rg_R) (P1 P2 : Nat → Int32) (T : Nat → Nat) (U : Nat → List Nat) (hU0 : 0 < (U b).length) (hrep : rm_Rep (nI n) (nI b) cof nu co se li le fi sc ti un ma (n, Rr, P1, P2, T, U, b, cof)) : rg_M l yM_redo (Cond.code yM_redo prog_8_method_21_code 1 (some .int) :: rg_tbl) { frames := 1, cells := 0, slots := 0, locals := 20 } (dC, dI) rg_cl [(cI, .int), (cL, .long)] (rm_W h a cI cL cod (nI n) (nI b) cof mad nu co se li le fi sc ti un ma dr fr to en) [.ref h] (rg_QI (dC, dI) rg_cl [(cI, .int), (cL, .long)] (S := rm_S) (rm_Po (0, nI (ra_last (U b)), rg_redo (n, Rr, P1, P2, T, U, b, cof))) (fun u => rm_Wu h a cI cL u)) 0 0 := by
  refine rg_of prog_8_method_21_code 1 (some .int) (by decide) rfl (Nat.le_of_ble_eq_true rfl) ?_
  intro p e R s m args below meth c Q A H locs ls hR hQ hx hb hml hr hts hown hlk hnm hP hK hD hA hS hl
  have hl : lv_has ls 1 [(0, .ref h)] := hl
  have hts : ∀ w ∈ rg_tbl, w.before args s = true := fun w h => hts w (List.mem_cons_of_mem _ h)
  have hok := hrep.1
  have hn1 : 1 ≤ n := hok.1
  have hn60 : n ≤ 60 := hok.2.1
  have hb4 : b < 4 := hok.2.2.2.2.2.2.2.1
  have hTb : T b < n := (hok.2.2.2.2.2.2.1 b hb4).1
  have hti : ti b = nI (T b) := (hrep.2.2.2.2.2.2 b hb4).1
  have hma : ma b = nI (U b).length := (hrep.2.2.2.2.2.2 b hb4).2.1
  have hUl := rg_fall_lt (hok.2.2.2.2.2.2.1 b hb4).2.2 (hok.2.2.2.2.2.2.1 b hb4).2.1 hTb
  have hUl : (U b).length + T b < n := hUl
  have hun : un (60 * b + ((U b).length - 1)) = nI (ra_last (U b)) := (hrep.2.2.2.2.2.2 b hb4).2.2 ((U b).length - 1) (Nat.sub_lt hU0 (by decide))
  refine lv_aload_n hx hb dM_redo_0 rfl (lv_at hl 0 rfl) ?_
  refine lv_aload_n hx hb dM_redo_1 rfl (lv_at hl 0 rfl) ?_
  refine va_get (D := (dC, dI)) (ci := 0) (C := "RevisionGroveModel") (T := TM) (N := 19) hx hb hts inM hown hK hP 0 rfl rfl 12 (by decide) (hts _ tw_613) (fun _ h9 => h9) rfl dM_redo_2 ?_
  refine lv_aload_n hx hb dM_redo_5 rfl (lv_at hl 0 rfl) ?_
  refine va_get (D := (dC, dI)) (ci := 0) (C := "RevisionGroveModel") (T := TM) (N := 19) hx hb hts inM hown hK hP 0 rfl rfl 9 (by decide) (hts _ tw_610) (fun _ h9 => h9) rfl dM_redo_6 ?_
  refine rg_iald hx hb hK hP 10 0 rfl rfl (by decide) (by omega) dM_redo_9 ?_
  refine rg_top (show (.int (ma b) : Value) = .int (nI ((U b).length)) by rw [hma]) ?_
  refine rg_ifN_ne (tgt := 17) hx hb dM_redo_10 (by decide) (by omega) (fun h1 => ?_) (fun h1 => by exfalso; omega)
  refine lv_iconst (v := nI 0) hx hb dM_redo_17 (by decide) ?_
  refine va_put (D := (dC, dI)) (ci := 0) (v := .int (nI 0)) (ty := .int) (C := "RevisionGroveModel") (T := TM) (N := 19) hx hb hts inM tyM tyM_ok nmM hown hK hP hD hS 0 rfl rfl 0 (by decide) (hts _ tw_601) (fun _ h9 => h9) rfl (by decide +kernel) rfl rfl (Nat.le_of_ble_eq_true rfl) dM_redo_18 (fun H locs hP hD hS => ?_)
  have hP : va_P (dC, dI) rg_cl (rm_W h a cI cL (nI 0) (nI n) (nI b) cof mad nu co se li le fi sc ti un ma dr fr to en) H := hP
  have hD : va_D A (rm_W h a cI cL (nI 0) (nI n) (nI b) cof mad nu co se li le fi sc ti un ma dr fr to en) := hD
  refine lv_aload_n hx hb dM_redo_21 rfl (lv_at hl 0 rfl) ?_
  refine va_get (D := (dC, dI)) (ci := 0) (C := "RevisionGroveModel") (T := TM) (N := 19) hx hb hts inM hown hK hP 0 rfl rfl 0 (by decide) (hts _ tw_601) (fun _ h9 => h9) rfl dM_redo_22 ?_
  refine rg_ifN_le (tgt := 30) hx hb dM_redo_25 (by decide) (by decide) (fun h2 => ?_) (fun h2 => by exfalso; omega)
  refine lv_aload_n hx hb dM_redo_30 rfl (lv_at hl 0 rfl) ?_
  refine va_get (D := (dC, dI)) (ci := 0) (C := "RevisionGroveModel") (T := TM) (N := 19) hx hb hts inM hown hK hP 0 rfl rfl 12 (by decide) (hts _ tw_613) (fun _ h9 => h9) rfl dM_redo_31 ?_
  refine lv_aload_n hx hb dM_redo_34 rfl (lv_at hl 0 rfl) ?_
  refine va_get (D := (dC, dI)) (ci := 0) (C := "RevisionGroveModel") (T := TM) (N := 19) hx hb hts inM hown hK hP 0 rfl rfl 9 (by decide) (hts _ tw_610) (fun _ h9 => h9) rfl dM_redo_35 ?_
  refine lv_dup2_11 hx hb dM_redo_38 rfl rfl ?_
  refine rg_iald hx hb hK hP 10 0 rfl rfl (by decide) (by omega) dM_redo_39 ?_
  refine rg_top (show (.int (ma b) : Value) = .int (nI ((U b).length)) by rw [hma]) ?_
  refine lv_iconst (v := nI 1) hx hb dM_redo_40 (by decide) ?_
  refine rg_isub hx hb dM_redo_41 (by omega) ?_
  refine rg_iast hx hb hK hP hD hS 10 0 rfl rfl (by decide) (by omega) dM_redo_42 (fun H locs hP hD hS => ?_)
  have hP : va_P (dC, dI) rg_cl (rm_W h a cI cL (nI 0) (nI n) (nI b) cof mad nu co se li le fi sc ti un (upd ma b (nI ((U b).length - 1))) dr fr to en) H := hP
  have hD : va_D A (rm_W h a cI cL (nI 0) (nI n) (nI b) cof mad nu co se li le fi sc ti un (upd ma b (nI ((U b).length - 1))) dr fr to en) := hD
  refine lv_aload_n hx hb dM_redo_43 rfl (lv_at hl 0 rfl) ?_
  refine va_get (D := (dC, dI)) (ci := 0) (C := "RevisionGroveModel") (T := TM) (N := 19) hx hb hts inM hown hK hP 0 rfl rfl 10 (by decide) (hts _ tw_611) (fun _ h9 => h9) rfl dM_redo_44 ?_
  refine lv_aload_n hx hb dM_redo_47 rfl (lv_at hl 0 rfl) ?_
  refine va_get (D := (dC, dI)) (ci := 0) (C := "RevisionGroveModel") (T := TM) (N := 19) hx hb hts inM hown hK hP 0 rfl rfl 9 (by decide) (hts _ tw_610) (fun _ h9 => h9) rfl dM_redo_48 ?_
  refine lv_aload_n hx hb dM_redo_51 rfl (lv_at hl 0 rfl) ?_
  refine va_get (D := (dC, dI)) (ci := 0) (C := "RevisionGroveModel") (T := TM) (N := 19) hx hb hts inM hown hK hP 0 rfl rfl 11 (by decide) (hts _ tw_612) (fun _ h9 => h9) rfl dM_redo_52 ?_
  refine lv_bipush (v := nI 60) hx hb dM_redo_55 (by decide) ?_
  refine lv_aload_n hx hb dM_redo_57 rfl (lv_at hl 0 rfl) ?_
  refine va_get (D := (dC, dI)) (ci := 0) (C := "RevisionGroveModel") (T := TM) (N := 19) hx hb hts inM hown hK hP 0 rfl rfl 9 (by decide) (hts _ tw_610) (fun _ h9 => h9) rfl dM_redo_58 ?_
  refine rg_imul hx hb dM_redo_61 ?_
  refine lv_aload_n hx hb dM_redo_62 rfl (lv_at hl 0 rfl) ?_
  refine va_get (D := (dC, dI)) (ci := 0) (C := "RevisionGroveModel") (T := TM) (N := 19) hx hb hts inM hown hK hP 0 rfl rfl 12 (by decide) (hts _ tw_613) (fun _ h9 => h9) rfl dM_redo_63 ?_
  refine lv_aload_n hx hb dM_redo_66 rfl (lv_at hl 0 rfl) ?_
  refine va_get (D := (dC, dI)) (ci := 0) (C := "RevisionGroveModel") (T := TM) (N := 19) hx hb hts inM hown hK hP 0 rfl rfl 9 (by decide) (hts _ tw_610) (fun _ h9 => h9) rfl dM_redo_67 ?_
  refine rg_iald hx hb hK hP 10 0 rfl rfl (by decide) (by omega) dM_redo_70 ?_
  refine rg_top (show (.int ((upd ma b (nI ((U b).length - 1))) b) : Value) = .int (nI ((U b).length - 1)) by rw [pk_us]) ?_
  refine rg_iadd hx hb dM_redo_71 ?_
  refine rg_iald hx hb hK hP 9 0 rfl rfl (by decide) (by omega) dM_redo_72 ?_
  refine rg_top (show (.int (un (60 * b + ((U b).length - 1))) : Value) = .int (nI (ra_last (U b))) by rw [hun]) ?_
  refine rg_iast hx hb hK hP hD hS 8 0 rfl rfl (by decide) (by omega) dM_redo_73 (fun H locs hP hD hS => ?_)
  have hP : va_P (dC, dI) rg_cl (rm_W h a cI cL (nI 0) (nI n) (nI b) cof mad nu co se li le fi sc (upd ti b (nI (ra_last (U b)))) un (upd ma b (nI ((U b).length - 1))) dr fr to en) H := hP
  have hD : va_D A (rm_W h a cI cL (nI 0) (nI n) (nI b) cof mad nu co se li le fi sc (upd ti b (nI (ra_last (U b)))) un (upd ma b (nI ((U b).length - 1))) dr fr to en) := hD
  refine lv_aload_n hx hb dM_redo_74 rfl (lv_at hl 0 rfl) ?_
  refine rg_calli hD hS hA (va_runV (As := []) (rest := []) ⟨hx, hb, hml, hown, hts⟩ (c_rm_here b (by omega) _) (cwV 0 hts (rg_gV tw_667 tw_669 ts_M_here tw_5 tw_670) rfl rfl rfl (by decide +kernel) ⟨by rw [hR]; exact Nat.le_of_ble_eq_true rfl, by rw [hR]; exact Nat.le_of_ble_eq_true rfl⟩) (rg_preV rfl hK hP hD (ci := 0) (q0 := 0) rfl rfl) rfl rfl hl.1 rfl (lv_room (Nat.le_of_ble_eq_true rfl)) dM_redo_75 ⟨Nat.zero_le _, Nat.zero_le _⟩) (fun r3 u4 H locs hw5 hP hD hS => ?_)
  subst hw5
  have hP : va_P (dC, dI) rg_cl (rm_W h a cI cL (nI 0) (nI n) (nI b) cof mad nu co se li le fi sc (upd ti b (nI (ra_last (U b)))) un (upd ma b (nI ((U b).length - 1))) dr fr to en) H := hP
  have hD : va_D A (rm_W h a cI cL (nI 0) (nI n) (nI b) cof mad nu co se li le fi sc (upd ti b (nI (ra_last (U b)))) un (upd ma b (nI ((U b).length - 1))) dr fr to en) := hD
  refine rg_top (show (.int ((upd ti b (nI (ra_last (U b)))) b) : Value) = .int (nI (ra_last (U b))) by rw [pk_us]) ?_
  rw [hQ]
  exact rg_iret hx hb hr hlk hK hP hD hS dM_redo_78 (nI 0, nI n, nI b, cof, mad, nu, co, se, li, le, fi, sc, upd ti b (nI (ra_last (U b))), un, upd ma b (nI ((U b).length - 1)), dr, fr, to, en) rfl (⟨rm_Rep_redo (g := (n, Rr, P1, P2, T, U, b, cof)) hrep hU0, rfl, rfl⟩)
theorem c_rm_redo {l : Launch} {dC : Nat → ClassId} {dI : Nat → Nat → Nat} {h : Nat} {a : Nat → Nat} {cI cL : ClassId} {cod : Int32} {cof : Int32} {mad : Int32} {nu : Nat → Int32} {co : Nat → Int64} {se : Nat → Int32} {li : Nat → Int32} {le : Nat → Int32} {fi : Nat → Int32} {sc : Nat → Int32} {ti : Nat → Int32} {un : Nat → Int32} {ma : Nat → Int32} {dr : Nat → Int32} {fr : Nat → Int32} {to : Nat → Int32} {en : Nat → Int32} (n b : Nat) (Rr : Nat → rg_R) (P1 P2 : Nat → Int32) (T : Nat → Nat) (U : Nat → List Nat) (hrep : rm_Rep (nI n) (nI b) cof nu co se li le fi sc ti un ma (n, Rr, P1, P2, T, U, b, cof)) : rg_M l yM_redo (Cond.code yM_redo prog_8_method_21_code 1 (some .int) :: rg_tbl) { frames := 1, cells := 0, slots := 0, locals := 20 } (dC, dI) rg_cl [(cI, .int), (cL, .long)] (rm_W h a cI cL cod (nI n) (nI b) cof mad nu co se li le fi sc ti un ma dr fr to en) [.ref h] (rg_QI (dC, dI) rg_cl [(cI, .int), (cL, .long)] (S := rm_S) (rm_Po (rg_oRedo (n, Rr, P1, P2, T, U, b, cof))) (fun u => rm_Wu h a cI cL u)) 0 0 := by
  by_cases h0 : (U b).length = 0
  · rw [show rg_oRedo (n, Rr, P1, P2, T, U, b, cof) = (1, 0, (n, Rr, P1, P2, T, U, b, cof)) from if_pos h0]; exact c_rm_redo_bad n b Rr P1 P2 T U h0 hrep
  · rw [show rg_oRedo (n, Rr, P1, P2, T, U, b, cof) = (0, nI (ra_last (U b)), rg_redo (n, Rr, P1, P2, T, U, b, cof)) from if_neg h0]
    exact c_rm_redo_ok n b Rr P1 P2 T U (Nat.pos_of_ne_zero h0) hrep
set_option maxHeartbeats 4000000 in
set_option maxRecDepth 100000 in
theorem c_rm_conflicts {l : Launch} {dC : Nat → ClassId} {dI : Nat → Nat → Nat} {h : Nat} {a : Nat → Nat} {cI cL : ClassId} {cod : Int32} {cof : Int32} {mad : Int32} {nu : Nat → Int32} {co : Nat → Int64} {se : Nat → Int32} {li : Nat → Int32} {le : Nat → Int32} {fi : Nat → Int32} {sc : Nat → Int32} {ti : Nat → Int32} {un : Nat → Int32} {ma : Nat → Int32} {dr : Nat → Int32} {fr : Nat → Int32} {to : Nat → Int32} {en : Nat → Int32} (n b : Nat) (Rr : Nat → rg_R) (P1 P2 : Nat → Int32) (T : Nat → Nat) (U : Nat → List Nat)  (hrep : rm_Rep (nI n) (nI b) cof nu co se li le fi sc ti un ma (n, Rr, P1, P2, T, U, b, cof)) : rg_M l yM_conflicts (Cond.code yM_conflicts prog_8_method_32_code 1 (some .int) :: rg_tbl) { frames := 0, cells := 0, slots := 0, locals := 0 } (dC, dI) rg_cl [(cI, .int), (cL, .long)] (rm_W h a cI cL cod (nI n) (nI b) cof mad nu co se li le fi sc ti un ma dr fr to en) [.ref h] (rg_QI (dC, dI) rg_cl [(cI, .int), (cL, .long)] (S := rm_S) (rm_Po (0, cof, (n, Rr, P1, P2, T, U, b, cof))) (fun u => rm_Wu h a cI cL u)) 0 0 := by
  refine rg_of prog_8_method_32_code 1 (some .int) (by decide) rfl (Nat.le_of_ble_eq_true rfl) ?_
  intro p e R s m args below meth c Q A H locs ls hR hQ hx hb hml hr hts hown hlk hnm hP hK hD hA hS hl
  have hl : lv_has ls 1 [(0, .ref h)] := hl
  have hts : ∀ w ∈ rg_tbl, w.before args s = true := fun w h => hts w (List.mem_cons_of_mem _ h)
  have hok := hrep.1
  have hn1 : 1 ≤ n := hok.1
  have hn60 : n ≤ 60 := hok.2.1
  have hb4 : b < 4 := hok.2.2.2.2.2.2.2.1
  have hTb : T b < n := (hok.2.2.2.2.2.2.1 b hb4).1
  have hti : ti b = nI (T b) := (hrep.2.2.2.2.2.2 b hb4).1
  have hma : ma b = nI (U b).length := (hrep.2.2.2.2.2.2 b hb4).2.1
  refine lv_aload_n hx hb dM_conflicts_0 rfl (lv_at hl 0 rfl) ?_
  refine lv_iconst (v := nI 0) hx hb dM_conflicts_1 (by decide) ?_
  refine va_put (D := (dC, dI)) (ci := 0) (v := .int (nI 0)) (ty := .int) (C := "RevisionGroveModel") (T := TM) (N := 19) hx hb hts inM tyM tyM_ok nmM hown hK hP hD hS 0 rfl rfl 0 (by decide) (hts _ tw_601) (fun _ h9 => h9) rfl (by decide +kernel) rfl rfl (Nat.le_of_ble_eq_true rfl) dM_conflicts_2 (fun H locs hP hD hS => ?_)
  have hP : va_P (dC, dI) rg_cl (rm_W h a cI cL (nI 0) (nI n) (nI b) cof mad nu co se li le fi sc ti un ma dr fr to en) H := hP
  have hD : va_D A (rm_W h a cI cL (nI 0) (nI n) (nI b) cof mad nu co se li le fi sc ti un ma dr fr to en) := hD
  refine lv_aload_n hx hb dM_conflicts_5 rfl (lv_at hl 0 rfl) ?_
  refine va_get (D := (dC, dI)) (ci := 0) (C := "RevisionGroveModel") (T := TM) (N := 19) hx hb hts inM hown hK hP 0 rfl rfl 13 (by decide) (hts _ tw_614) (fun _ h9 => h9) rfl dM_conflicts_6 ?_
  rw [hQ]
  exact rg_iret hx hb hr hlk hK hP hD hS dM_conflicts_9 (nI 0, nI n, nI b, cof, mad, nu, co, se, li, le, fi, sc, ti, un, ma, dr, fr, to, en) rfl (⟨hrep, rfl, rfl⟩)
end
section
/-! Reads: spec. -/
def rg_oPar (g : rg_A) (x : Int32) (w : Bool) : Int32 × Int32 × rg_A := bif rg_isR (ra_n g) x then (0, bif w then ra_Q g x.toNatClampNeg else ra_P g x.toNatClampNeg, g) else (1, 0, g)
def rg_oDif (g : rg_A) (x y : Int32) : Int32 × Int32 × rg_A := bif rg_isR (ra_n g) x && rg_isR (ra_n g) y then (0, rg_dif (ra_R g x.toNatClampNeg) (ra_R g y.toNatClampNeg), g) else (1, 0, g)
def rg_oFig (g : rg_A) (x : Int32) : Int32 × Int32 × rg_A :=
  if x = 0 then (0, nI (ra_t g), g) else if x = 1 then (0, nI (ra_n g), g) else if x = 2 then (0, nI (ra_B g), g) else if x = 3 then (0, nI (ra_U g (ra_B g)).length, g) else if x = 4 then (0, nI (ra_T g 0), g) else if x = 5 then (0, nI (ra_T g 1), g) else if x = 6 then (0, nI (ra_T g 2), g) else if x = 7 then (0, nI (ra_T g 3), g) else (1, 0, g)
def rg_vL (l : List Int32) (i : Int32) : Int32 × Int64 := if i = -1 then (0, (nI l.length).toInt64) else if i < 0 ∨ nI l.length ≤ i then (2, 0) else (0, (l.getD i.toNatClampNeg 0).toInt64)
def rg_val (X : rg_R) (f i : Int32) : Int32 × Int64 :=
  if f = 0 then (0, (X.1 0).toInt64) else if f = 1 then (0, (X.1 1).toInt64) else if f = 2 then (0, X.2.1 0) else if f = 3 then (0, X.2.1 1) else if f = 4 then (0, (X.2.2.1 0).toInt64 &&& 4294967295) else if f = 5 then (0, (X.2.2.1 1).toInt64 &&& 4294967295) else if f = 6 then rg_vL (X.2.2.2 0) i else if f = 7 then rg_vL (X.2.2.2 1) i else (1, 0)
def rg_oVal (g : rg_A) (x f i : Int32) : Int32 × Int64 := bif rg_isR (ra_n g) x then rg_val (ra_R g x.toNatClampNeg) f i else (1, 0)
def rm_Pl (o : Int32 × Int64) (g : rg_A) (z : Int64) (u : rm_S) : Prop := rm_Ru u g ∧ u.1 = o.1 ∧ z = o.2
theorem rg_m1_lt {k : Nat} (h : k < 2 ^ 31) : (-1 : Int32) < nI k := by
  rw [Int32.lt_iff_toInt_lt, nI_toInt h]
  show (-1 : Int) < _
  omega
theorem rg_nlt_m1 {k : Nat} (h : k < 2 ^ 31) : ¬ nI k < (-1 : Int32) := by
  rw [Int32.lt_iff_toInt_lt, nI_toInt h]
  show ¬ _ < (-1 : Int)
  omega
theorem rg_lt0 {x : Int32} (h : x < 0) (h2 : ¬ x = -1) : x < -1 := by
  rw [Int32.lt_iff_toInt_lt] at h ⊢
  have h3 : x.toInt ≠ -1 := fun q => h2 (Int32.toInt_inj.mp q)
  have h : x.toInt < 0 := h
  show x.toInt < -1
  omega
theorem rg_fig_out {x : Int32} (h : x < 0 ∨ 7 < x) : x.toInt < 0 ∨ 7 < x.toInt := by
  rcases h with h | h
  · left; rw [Int32.lt_iff_toInt_lt] at h; exact h
  · right; rw [Int32.lt_iff_toInt_lt] at h; exact h
end
section
set_option maxHeartbeats 4000000 in
set_option maxRecDepth 100000 in
theorem c_rm_parent_ok {l : Launch} {dC : Nat → ClassId} {dI : Nat → Nat → Nat} {h : Nat} {a : Nat → Nat} {cI cL : ClassId} {cod : Int32} {cof : Int32} {mad : Int32} {nu : Nat → Int32} {co : Nat → Int64} {se : Nat → Int32} {li : Nat → Int32} {le : Nat → Int32} {fi : Nat → Int32} {sc : Nat → Int32} {ti : Nat → Int32} {un : Nat → Int32} {ma : Nat → Int32} {dr : Nat → Int32} {fr : Nat → Int32} {to : Nat → Int32} {en : Nat → Int32} (n b : Nat) (Rr : Nat → rg_R) (P1 P2 : Nat → Int32) (T : Nat → Nat) (U : Nat → List Nat) (j : Nat) (w : Bool) (hjn : j < n) (hrep : rm_Rep (nI n) (nI b) cof nu co se li le fi sc ti un ma (n, Rr, P1, P2, T, U, b, cof)) : rg_M l yM_parent (Cond.code yM_parent prog_8_method_36_code 3 (some .int) :: rg_tbl) { frames := 1, cells := 0, slots := 0, locals := 21 } (dC, dI) rg_cl [(cI, .int), (cL, .long)] (rm_W h a cI cL cod (nI n) (nI b) cof mad nu co se li le fi sc ti un ma dr fr to en) [.ref h, .int (nI j), .int (bif w then 1 else 0)] (rg_QI (dC, dI) rg_cl [(cI, .int), (cL, .long)] (S := rm_S) (rm_Po (0, bif w then P2 j else P1 j, (n, Rr, P1, P2, T, U, b, cof))) (fun u => rm_Wu h a cI cL u)) 0 0 := by
  refine rg_of prog_8_method_36_code 3 (some .int) (by decide) rfl (Nat.le_of_ble_eq_true rfl) ?_
  intro p e R s m args below meth c Q A H locs ls hR hQ hx hb hml hr hts hown hlk hnm hP hK hD hA hS hl
  have hl : lv_has ls 3 [(0, .ref h), (1, .int (nI j)), (2, .int (bif w then 1 else 0))] := hl
  have hts : ∀ w ∈ rg_tbl, w.before args s = true := fun w h => hts w (List.mem_cons_of_mem _ h)
  have hok := hrep.1
  have hn1 : 1 ≤ n := hok.1
  have hn60 : n ≤ 60 := hok.2.1
  have hb4 : b < 4 := hok.2.2.2.2.2.2.2.1
  have hTb : T b < n := (hok.2.2.2.2.2.2.1 b hb4).1
  have hti : ti b = nI (T b) := (hrep.2.2.2.2.2.2 b hb4).1
  have hma : ma b = nI (U b).length := (hrep.2.2.2.2.2.2 b hb4).2.1
  have hB := rg_isR_ok (n := n) (by omega) hjn
  have hPj := hrep.2.2.2.2.2.1 j hjn
  have hPj1 : fi j = P1 j := hPj.1
  have hPj2 : sc j = P2 j := hPj.2
  refine lv_aload_n hx hb dM_parent_0 rfl (lv_at hl 0 rfl) ?_
  refine lv_aload_n hx hb dM_parent_1 rfl (lv_at hl 0 rfl) ?_
  refine lv_iload_n hx hb dM_parent_2 rfl (lv_at hl 1 rfl) ?_
  refine rg_calli hD hS hA (va_runV (As := [.int (nI j)]) (rest := [.ref h]) ⟨hx, hb, hml, hown, hts⟩ (c_rm_isRevision n (nI j) _) (cwV 1 hts (rg_gV tw_726 tw_728 ts_M_isRevision tw_5 tw_729) rfl rfl rfl (by decide +kernel) ⟨by rw [hR]; exact Nat.le_of_ble_eq_true rfl, by rw [hR]; exact Nat.le_of_ble_eq_true rfl⟩) (rg_preV rfl hK hP hD (ci := 0) (q0 := 0) rfl rfl) rfl rfl hl.1 rfl (lv_room (Nat.le_of_ble_eq_true rfl)) dM_parent_3 ⟨Nat.zero_le _, Nat.zero_le _⟩) (fun r1 u2 H locs hw3 hP hD hS => ?_)
  subst hw3
  have hP : va_P (dC, dI) rg_cl (rm_W h a cI cL cod (nI n) (nI b) cof mad nu co se li le fi sc ti un ma dr fr to en) H := hP
  have hD : va_D A (rm_W h a cI cL cod (nI n) (nI b) cof mad nu co se li le fi sc ti un ma dr fr to en) := hD
  refine rg_ifz_eq (tgt := 13) hx hb dM_parent_6 (by decide) (fun h4 => absurd (hB.symm.trans h4) (by decide)) (fun h4 => ?_)
  refine lv_iconst (v := nI 0) hx hb dM_parent_9 (by decide) ?_
  refine lv_goto (tgt := 14) hx hb dM_parent_10 (by decide) ?_
  refine va_put (D := (dC, dI)) (ci := 0) (v := .int (nI 0)) (ty := .int) (C := "RevisionGroveModel") (T := TM) (N := 19) hx hb hts inM tyM tyM_ok nmM hown hK hP hD hS 0 rfl rfl 0 (by decide) (hts _ tw_601) (fun _ h9 => h9) rfl (by decide +kernel) rfl rfl (Nat.le_of_ble_eq_true rfl) dM_parent_14 (fun H locs hP hD hS => ?_)
  have hP : va_P (dC, dI) rg_cl (rm_W h a cI cL (nI 0) (nI n) (nI b) cof mad nu co se li le fi sc ti un ma dr fr to en) H := hP
  have hD : va_D A (rm_W h a cI cL (nI 0) (nI n) (nI b) cof mad nu co se li le fi sc ti un ma dr fr to en) := hD
  refine lv_aload_n hx hb dM_parent_17 rfl (lv_at hl 0 rfl) ?_
  refine va_get (D := (dC, dI)) (ci := 0) (C := "RevisionGroveModel") (T := TM) (N := 19) hx hb hts inM hown hK hP 0 rfl rfl 0 (by decide) (hts _ tw_601) (fun _ h9 => h9) rfl dM_parent_18 ?_
  refine rg_ifN_le (tgt := 28) hx hb dM_parent_21 (by decide) (by decide) (fun h5 => ?_) (fun h5 => by exfalso; omega)
  refine lv_iload_n hx hb dM_parent_28 rfl (lv_at hl 2 rfl) ?_
  refine rg_ifz_eq (tgt := 41) hx hb dM_parent_29 (by decide) (fun h6 => ?_) (fun h6 => ?_)
  · refine lv_aload_n hx hb dM_parent_41 rfl (lv_at hl 0 rfl) ?_
    refine va_get (D := (dC, dI)) (ci := 0) (C := "RevisionGroveModel") (T := TM) (N := 19) hx hb hts inM hown hK hP 0 rfl rfl 7 (by decide) (hts _ tw_608) (fun _ h9 => h9) rfl dM_parent_42 ?_
    refine lv_iload_n hx hb dM_parent_45 rfl (lv_at hl 1 rfl) ?_
    refine rg_iald hx hb hK hP 6 0 rfl rfl (by decide) (by omega) dM_parent_46 ?_
    refine rg_top (show (.int (fi j) : Value) = .int (P1 j) by rw [hPj1]) ?_
    rw [hQ]
    exact rg_iret hx hb hr hlk hK hP hD hS dM_parent_47 (nI 0, nI n, nI b, cof, mad, nu, co, se, li, le, fi, sc, ti, un, ma, dr, fr, to, en) rfl (⟨hrep, rfl, by rw [h6]; rfl⟩)
  · refine lv_aload_n hx hb dM_parent_32 rfl (lv_at hl 0 rfl) ?_
    refine va_get (D := (dC, dI)) (ci := 0) (C := "RevisionGroveModel") (T := TM) (N := 19) hx hb hts inM hown hK hP 0 rfl rfl 8 (by decide) (hts _ tw_609) (fun _ h9 => h9) rfl dM_parent_33 ?_
    refine lv_iload_n hx hb dM_parent_36 rfl (lv_at hl 1 rfl) ?_
    refine rg_iald hx hb hK hP 7 0 rfl rfl (by decide) (by omega) dM_parent_37 ?_
    refine rg_top (show (.int (sc j) : Value) = .int (P2 j) by rw [hPj2]) ?_
    refine lv_goto (tgt := 47) hx hb dM_parent_38 (by decide) ?_
    rw [hQ]
    exact rg_iret hx hb hr hlk hK hP hD hS dM_parent_47 (nI 0, nI n, nI b, cof, mad, nu, co, se, li, le, fi, sc, ti, un, ma, dr, fr, to, en) rfl (⟨hrep, rfl, by rw [h6]; rfl⟩)
set_option maxHeartbeats 4000000 in
set_option maxRecDepth 100000 in
theorem c_rm_parent_bad {l : Launch} {dC : Nat → ClassId} {dI : Nat → Nat → Nat} {h : Nat} {a : Nat → Nat} {cI cL : ClassId} {cod : Int32} {cof : Int32} {mad : Int32} {nu : Nat → Int32} {co : Nat → Int64} {se : Nat → Int32} {li : Nat → Int32} {le : Nat → Int32} {fi : Nat → Int32} {sc : Nat → Int32} {ti : Nat → Int32} {un : Nat → Int32} {ma : Nat → Int32} {dr : Nat → Int32} {fr : Nat → Int32} {to : Nat → Int32} {en : Nat → Int32} (n b : Nat) (Rr : Nat → rg_R) (P1 P2 : Nat → Int32) (T : Nat → Nat) (U : Nat → List Nat) (x : Int32) (w : Bool) (hB : rg_isR n x = false) (hrep : rm_Rep (nI n) (nI b) cof nu co se li le fi sc ti un ma (n, Rr, P1, P2, T, U, b, cof)) : rg_M l yM_parent (Cond.code yM_parent prog_8_method_36_code 3 (some .int) :: rg_tbl) { frames := 1, cells := 0, slots := 0, locals := 21 } (dC, dI) rg_cl [(cI, .int), (cL, .long)] (rm_W h a cI cL cod (nI n) (nI b) cof mad nu co se li le fi sc ti un ma dr fr to en) [.ref h, .int x, .int (bif w then 1 else 0)] (rg_QI (dC, dI) rg_cl [(cI, .int), (cL, .long)] (S := rm_S) (rm_Po (1, 0, (n, Rr, P1, P2, T, U, b, cof))) (fun u => rm_Wu h a cI cL u)) 0 0 := by
  refine rg_of prog_8_method_36_code 3 (some .int) (by decide) rfl (Nat.le_of_ble_eq_true rfl) ?_
  intro p e R s m args below meth c Q A H locs ls hR hQ hx hb hml hr hts hown hlk hnm hP hK hD hA hS hl
  have hl : lv_has ls 3 [(0, .ref h), (1, .int x), (2, .int (bif w then 1 else 0))] := hl
  have hts : ∀ w ∈ rg_tbl, w.before args s = true := fun w h => hts w (List.mem_cons_of_mem _ h)
  have hok := hrep.1
  have hn1 : 1 ≤ n := hok.1
  have hn60 : n ≤ 60 := hok.2.1
  have hb4 : b < 4 := hok.2.2.2.2.2.2.2.1
  have hTb : T b < n := (hok.2.2.2.2.2.2.1 b hb4).1
  have hti : ti b = nI (T b) := (hrep.2.2.2.2.2.2 b hb4).1
  have hma : ma b = nI (U b).length := (hrep.2.2.2.2.2.2 b hb4).2.1
  refine lv_aload_n hx hb dM_parent_0 rfl (lv_at hl 0 rfl) ?_
  refine lv_aload_n hx hb dM_parent_1 rfl (lv_at hl 0 rfl) ?_
  refine lv_iload_n hx hb dM_parent_2 rfl (lv_at hl 1 rfl) ?_
  refine rg_calli hD hS hA (va_runV (As := [.int x]) (rest := [.ref h]) ⟨hx, hb, hml, hown, hts⟩ (c_rm_isRevision n x _) (cwV 1 hts (rg_gV tw_726 tw_728 ts_M_isRevision tw_5 tw_729) rfl rfl rfl (by decide +kernel) ⟨by rw [hR]; exact Nat.le_of_ble_eq_true rfl, by rw [hR]; exact Nat.le_of_ble_eq_true rfl⟩) (rg_preV rfl hK hP hD (ci := 0) (q0 := 0) rfl rfl) rfl rfl hl.1 rfl (lv_room (Nat.le_of_ble_eq_true rfl)) dM_parent_3 ⟨Nat.zero_le _, Nat.zero_le _⟩) (fun r1 u2 H locs hw3 hP hD hS => ?_)
  subst hw3
  have hP : va_P (dC, dI) rg_cl (rm_W h a cI cL cod (nI n) (nI b) cof mad nu co se li le fi sc ti un ma dr fr to en) H := hP
  have hD : va_D A (rm_W h a cI cL cod (nI n) (nI b) cof mad nu co se li le fi sc ti un ma dr fr to en) := hD
  refine rg_ifz_eq (tgt := 13) hx hb dM_parent_6 (by decide) (fun h4 => ?_) (fun h4 => absurd (hB.symm.trans h4) (by decide))
  refine lv_iconst (v := nI 1) hx hb dM_parent_13 (by decide) ?_
  refine va_put (D := (dC, dI)) (ci := 0) (v := .int (nI 1)) (ty := .int) (C := "RevisionGroveModel") (T := TM) (N := 19) hx hb hts inM tyM tyM_ok nmM hown hK hP hD hS 0 rfl rfl 0 (by decide) (hts _ tw_601) (fun _ h9 => h9) rfl (by decide +kernel) rfl rfl (Nat.le_of_ble_eq_true rfl) dM_parent_14 (fun H locs hP hD hS => ?_)
  have hP : va_P (dC, dI) rg_cl (rm_W h a cI cL (nI 1) (nI n) (nI b) cof mad nu co se li le fi sc ti un ma dr fr to en) H := hP
  have hD : va_D A (rm_W h a cI cL (nI 1) (nI n) (nI b) cof mad nu co se li le fi sc ti un ma dr fr to en) := hD
  refine lv_aload_n hx hb dM_parent_17 rfl (lv_at hl 0 rfl) ?_
  refine va_get (D := (dC, dI)) (ci := 0) (C := "RevisionGroveModel") (T := TM) (N := 19) hx hb hts inM hown hK hP 0 rfl rfl 0 (by decide) (hts _ tw_601) (fun _ h9 => h9) rfl dM_parent_18 ?_
  refine rg_ifN_le (tgt := 28) hx hb dM_parent_21 (by decide) (by decide) (fun h5 => by exfalso; omega) (fun h5 => ?_)
  refine lv_iconst (v := nI 0) hx hb dM_parent_24 (by decide) ?_
  refine lv_goto (tgt := 47) hx hb dM_parent_25 (by decide) ?_
  rw [hQ]
  exact rg_iret hx hb hr hlk hK hP hD hS dM_parent_47 (nI 1, nI n, nI b, cof, mad, nu, co, se, li, le, fi, sc, ti, un, ma, dr, fr, to, en) rfl (⟨hrep, rfl, rfl⟩)
theorem c_rm_parent {l : Launch} {dC : Nat → ClassId} {dI : Nat → Nat → Nat} {h : Nat} {a : Nat → Nat} {cI cL : ClassId} {cod : Int32} {cof : Int32} {mad : Int32} {nu : Nat → Int32} {co : Nat → Int64} {se : Nat → Int32} {li : Nat → Int32} {le : Nat → Int32} {fi : Nat → Int32} {sc : Nat → Int32} {ti : Nat → Int32} {un : Nat → Int32} {ma : Nat → Int32} {dr : Nat → Int32} {fr : Nat → Int32} {to : Nat → Int32} {en : Nat → Int32} (n b : Nat) (Rr : Nat → rg_R) (P1 P2 : Nat → Int32) (T : Nat → Nat) (U : Nat → List Nat) (x : Int32) (w : Bool) (hrep : rm_Rep (nI n) (nI b) cof nu co se li le fi sc ti un ma (n, Rr, P1, P2, T, U, b, cof)) : rg_M l yM_parent (Cond.code yM_parent prog_8_method_36_code 3 (some .int) :: rg_tbl) { frames := 1, cells := 0, slots := 0, locals := 21 } (dC, dI) rg_cl [(cI, .int), (cL, .long)] (rm_W h a cI cL cod (nI n) (nI b) cof mad nu co se li le fi sc ti un ma dr fr to en) [.ref h, .int x, .int (bif w then 1 else 0)] (rg_QI (dC, dI) rg_cl [(cI, .int), (cL, .long)] (S := rm_S) (rm_Po (rg_oPar (n, Rr, P1, P2, T, U, b, cof) x w)) (fun u => rm_Wu h a cI cL u)) 0 0 := by
  unfold rg_oPar
  show rg_M _ _ _ _ _ _ _ _ _ (rg_QI _ _ _ (rm_Po (bif rg_isR n x then _ else _)) _) _ _
  cases hB : rg_isR n x with
  | false => exact c_rm_parent_bad n b Rr P1 P2 T U x w hB hrep
  | true =>
    obtain ⟨j, hj, rfl⟩ := rg_isR_of hB
    rw [nI_clamp (Nat.lt_of_lt_of_le hj (Nat.le_trans hrep.1.2.1 (by decide)))]
    exact c_rm_parent_ok n b Rr P1 P2 T U j w hj hrep
set_option maxHeartbeats 4000000 in
set_option maxRecDepth 100000 in
theorem c_rm_figure_0 {l : Launch} {dC : Nat → ClassId} {dI : Nat → Nat → Nat} {h : Nat} {a : Nat → Nat} {cI cL : ClassId} {cod : Int32} {cof : Int32} {mad : Int32} {nu : Nat → Int32} {co : Nat → Int64} {se : Nat → Int32} {li : Nat → Int32} {le : Nat → Int32} {fi : Nat → Int32} {sc : Nat → Int32} {ti : Nat → Int32} {un : Nat → Int32} {ma : Nat → Int32} {dr : Nat → Int32} {fr : Nat → Int32} {to : Nat → Int32} {en : Nat → Int32} (n b : Nat) (Rr : Nat → rg_R) (P1 P2 : Nat → Int32) (T : Nat → Nat) (U : Nat → List Nat)  (hrep : rm_Rep (nI n) (nI b) cof nu co se li le fi sc ti un ma (n, Rr, P1, P2, T, U, b, cof)) : rg_M l yM_figure (Cond.code yM_figure prog_8_method_39_code 2 (some .int) :: rg_tbl) { frames := 1, cells := 0, slots := 0, locals := 20 } (dC, dI) rg_cl [(cI, .int), (cL, .long)] (rm_W h a cI cL cod (nI n) (nI b) cof mad nu co se li le fi sc ti un ma dr fr to en) [.ref h, .int (nI 0)] (rg_QI (dC, dI) rg_cl [(cI, .int), (cL, .long)] (S := rm_S) (rm_Po (0, nI (T b), (n, Rr, P1, P2, T, U, b, cof))) (fun u => rm_Wu h a cI cL u)) 0 0 := by
  refine rg_of prog_8_method_39_code 2 (some .int) (by decide) rfl (Nat.le_of_ble_eq_true rfl) ?_
  intro p e R s m args below meth c Q A H locs ls hR hQ hx hb hml hr hts hown hlk hnm hP hK hD hA hS hl
  have hl : lv_has ls 2 [(0, .ref h), (1, .int (nI 0))] := hl
  have hts : ∀ w ∈ rg_tbl, w.before args s = true := fun w h => hts w (List.mem_cons_of_mem _ h)
  have hok := hrep.1
  have hn1 : 1 ≤ n := hok.1
  have hn60 : n ≤ 60 := hok.2.1
  have hb4 : b < 4 := hok.2.2.2.2.2.2.2.1
  have hTb : T b < n := (hok.2.2.2.2.2.2.1 b hb4).1
  have hti : ti b = nI (T b) := (hrep.2.2.2.2.2.2 b hb4).1
  have hma : ma b = nI (U b).length := (hrep.2.2.2.2.2.2 b hb4).2.1
  refine lv_aload_n hx hb dM_figure_0 rfl (lv_at hl 0 rfl) ?_
  refine lv_iload_n hx hb dM_figure_1 rfl (lv_at hl 1 rfl) ?_
  refine rg_ifN_lt (tgt := 11) hx hb dM_figure_2 (by decide) (by omega) (fun h1 => h1.elim) (fun h1 => ?_)
  refine lv_iload_n hx hb dM_figure_5 rfl (lv_at hl 1 rfl) ?_
  refine lv_bipush (v := nI 7) hx hb dM_figure_6 (by decide) ?_
  refine rg_icmp_le (tgt := 15) hx hb dM_figure_8 (by decide) (by omega) (by omega) (fun h2 => ?_) (fun h2 => by exfalso; omega)
  refine lv_iconst (v := nI 0) hx hb dM_figure_15 (by decide) ?_
  refine va_put (D := (dC, dI)) (ci := 0) (v := .int (nI 0)) (ty := .int) (C := "RevisionGroveModel") (T := TM) (N := 19) hx hb hts inM tyM tyM_ok nmM hown hK hP hD hS 0 rfl rfl 0 (by decide) (hts _ tw_601) (fun _ h9 => h9) rfl (by decide +kernel) rfl rfl (Nat.le_of_ble_eq_true rfl) dM_figure_16 (fun H locs hP hD hS => ?_)
  have hP : va_P (dC, dI) rg_cl (rm_W h a cI cL (nI 0) (nI n) (nI b) cof mad nu co se li le fi sc ti un ma dr fr to en) H := hP
  have hD : va_D A (rm_W h a cI cL (nI 0) (nI n) (nI b) cof mad nu co se li le fi sc ti un ma dr fr to en) := hD
  refine lv_iload_n hx hb dM_figure_19 rfl (lv_at hl 1 rfl) ?_
  refine lv_tableIn (off := 48) (tgt := 68) hx hb dM_figure_20 (by decide) (by decide) (by decide) (by decide) ?_
  refine lv_aload_n hx hb dM_figure_68 rfl (lv_at hl 0 rfl) ?_
  refine rg_calli hD hS hA (va_runV (As := []) (rest := []) ⟨hx, hb, hml, hown, hts⟩ (c_rm_here b (by omega) _) (cwV 0 hts (rg_gV tw_667 tw_669 ts_M_here tw_5 tw_670) rfl rfl rfl (by decide +kernel) ⟨by rw [hR]; exact Nat.le_of_ble_eq_true rfl, by rw [hR]; exact Nat.le_of_ble_eq_true rfl⟩) (rg_preV rfl hK hP hD (ci := 0) (q0 := 0) rfl rfl) rfl rfl hl.1 rfl (lv_room (Nat.le_of_ble_eq_true rfl)) dM_figure_69 ⟨Nat.zero_le _, Nat.zero_le _⟩) (fun r3 u4 H locs hw5 hP hD hS => ?_)
  subst hw5
  have hP : va_P (dC, dI) rg_cl (rm_W h a cI cL (nI 0) (nI n) (nI b) cof mad nu co se li le fi sc ti un ma dr fr to en) H := hP
  have hD : va_D A (rm_W h a cI cL (nI 0) (nI n) (nI b) cof mad nu co se li le fi sc ti un ma dr fr to en) := hD
  refine rg_top (show (.int (ti b) : Value) = .int (nI (T b)) by rw [hti]) ?_
  rw [hQ]
  exact rg_iret hx hb hr hlk hK hP hD hS dM_figure_72 (nI 0, nI n, nI b, cof, mad, nu, co, se, li, le, fi, sc, ti, un, ma, dr, fr, to, en) rfl (⟨hrep, rfl, rfl⟩)
set_option maxHeartbeats 4000000 in
set_option maxRecDepth 100000 in
theorem c_rm_figure_1 {l : Launch} {dC : Nat → ClassId} {dI : Nat → Nat → Nat} {h : Nat} {a : Nat → Nat} {cI cL : ClassId} {cod : Int32} {cof : Int32} {mad : Int32} {nu : Nat → Int32} {co : Nat → Int64} {se : Nat → Int32} {li : Nat → Int32} {le : Nat → Int32} {fi : Nat → Int32} {sc : Nat → Int32} {ti : Nat → Int32} {un : Nat → Int32} {ma : Nat → Int32} {dr : Nat → Int32} {fr : Nat → Int32} {to : Nat → Int32} {en : Nat → Int32} (n b : Nat) (Rr : Nat → rg_R) (P1 P2 : Nat → Int32) (T : Nat → Nat) (U : Nat → List Nat)  (hrep : rm_Rep (nI n) (nI b) cof nu co se li le fi sc ti un ma (n, Rr, P1, P2, T, U, b, cof)) : rg_M l yM_figure (Cond.code yM_figure prog_8_method_39_code 2 (some .int) :: rg_tbl) { frames := 1, cells := 0, slots := 0, locals := 20 } (dC, dI) rg_cl [(cI, .int), (cL, .long)] (rm_W h a cI cL cod (nI n) (nI b) cof mad nu co se li le fi sc ti un ma dr fr to en) [.ref h, .int (nI 1)] (rg_QI (dC, dI) rg_cl [(cI, .int), (cL, .long)] (S := rm_S) (rm_Po (0, nI n, (n, Rr, P1, P2, T, U, b, cof))) (fun u => rm_Wu h a cI cL u)) 0 0 := by
  refine rg_of prog_8_method_39_code 2 (some .int) (by decide) rfl (Nat.le_of_ble_eq_true rfl) ?_
  intro p e R s m args below meth c Q A H locs ls hR hQ hx hb hml hr hts hown hlk hnm hP hK hD hA hS hl
  have hl : lv_has ls 2 [(0, .ref h), (1, .int (nI 1))] := hl
  have hts : ∀ w ∈ rg_tbl, w.before args s = true := fun w h => hts w (List.mem_cons_of_mem _ h)
  have hok := hrep.1
  have hn1 : 1 ≤ n := hok.1
  have hn60 : n ≤ 60 := hok.2.1
  have hb4 : b < 4 := hok.2.2.2.2.2.2.2.1
  have hTb : T b < n := (hok.2.2.2.2.2.2.1 b hb4).1
  have hti : ti b = nI (T b) := (hrep.2.2.2.2.2.2 b hb4).1
  have hma : ma b = nI (U b).length := (hrep.2.2.2.2.2.2 b hb4).2.1
  refine lv_aload_n hx hb dM_figure_0 rfl (lv_at hl 0 rfl) ?_
  refine lv_iload_n hx hb dM_figure_1 rfl (lv_at hl 1 rfl) ?_
  refine rg_ifN_lt (tgt := 11) hx hb dM_figure_2 (by decide) (by omega) (fun h1 => h1.elim) (fun h1 => ?_)
  refine lv_iload_n hx hb dM_figure_5 rfl (lv_at hl 1 rfl) ?_
  refine lv_bipush (v := nI 7) hx hb dM_figure_6 (by decide) ?_
  refine rg_icmp_le (tgt := 15) hx hb dM_figure_8 (by decide) (by omega) (by omega) (fun h2 => ?_) (fun h2 => by exfalso; omega)
  refine lv_iconst (v := nI 0) hx hb dM_figure_15 (by decide) ?_
  refine va_put (D := (dC, dI)) (ci := 0) (v := .int (nI 0)) (ty := .int) (C := "RevisionGroveModel") (T := TM) (N := 19) hx hb hts inM tyM tyM_ok nmM hown hK hP hD hS 0 rfl rfl 0 (by decide) (hts _ tw_601) (fun _ h9 => h9) rfl (by decide +kernel) rfl rfl (Nat.le_of_ble_eq_true rfl) dM_figure_16 (fun H locs hP hD hS => ?_)
  have hP : va_P (dC, dI) rg_cl (rm_W h a cI cL (nI 0) (nI n) (nI b) cof mad nu co se li le fi sc ti un ma dr fr to en) H := hP
  have hD : va_D A (rm_W h a cI cL (nI 0) (nI n) (nI b) cof mad nu co se li le fi sc ti un ma dr fr to en) := hD
  refine lv_iload_n hx hb dM_figure_19 rfl (lv_at hl 1 rfl) ?_
  refine lv_tableIn (off := 53) (tgt := 73) hx hb dM_figure_20 (by decide) (by decide) (by decide) (by decide) ?_
  refine lv_aload_n hx hb dM_figure_73 rfl (lv_at hl 0 rfl) ?_
  refine va_get (D := (dC, dI)) (ci := 0) (C := "RevisionGroveModel") (T := TM) (N := 19) hx hb hts inM hown hK hP 0 rfl rfl 1 (by decide) (hts _ tw_602) (fun _ h9 => h9) rfl dM_figure_74 ?_
  rw [hQ]
  exact rg_iret hx hb hr hlk hK hP hD hS dM_figure_77 (nI 0, nI n, nI b, cof, mad, nu, co, se, li, le, fi, sc, ti, un, ma, dr, fr, to, en) rfl (⟨hrep, rfl, rfl⟩)
set_option maxHeartbeats 4000000 in
set_option maxRecDepth 100000 in
theorem c_rm_figure_2 {l : Launch} {dC : Nat → ClassId} {dI : Nat → Nat → Nat} {h : Nat} {a : Nat → Nat} {cI cL : ClassId} {cod : Int32} {cof : Int32} {mad : Int32} {nu : Nat → Int32} {co : Nat → Int64} {se : Nat → Int32} {li : Nat → Int32} {le : Nat → Int32} {fi : Nat → Int32} {sc : Nat → Int32} {ti : Nat → Int32} {un : Nat → Int32} {ma : Nat → Int32} {dr : Nat → Int32} {fr : Nat → Int32} {to : Nat → Int32} {en : Nat → Int32} (n b : Nat) (Rr : Nat → rg_R) (P1 P2 : Nat → Int32) (T : Nat → Nat) (U : Nat → List Nat)  (hrep : rm_Rep (nI n) (nI b) cof nu co se li le fi sc ti un ma (n, Rr, P1, P2, T, U, b, cof)) : rg_M l yM_figure (Cond.code yM_figure prog_8_method_39_code 2 (some .int) :: rg_tbl) { frames := 1, cells := 0, slots := 0, locals := 20 } (dC, dI) rg_cl [(cI, .int), (cL, .long)] (rm_W h a cI cL cod (nI n) (nI b) cof mad nu co se li le fi sc ti un ma dr fr to en) [.ref h, .int (nI 2)] (rg_QI (dC, dI) rg_cl [(cI, .int), (cL, .long)] (S := rm_S) (rm_Po (0, nI b, (n, Rr, P1, P2, T, U, b, cof))) (fun u => rm_Wu h a cI cL u)) 0 0 := by
  refine rg_of prog_8_method_39_code 2 (some .int) (by decide) rfl (Nat.le_of_ble_eq_true rfl) ?_
  intro p e R s m args below meth c Q A H locs ls hR hQ hx hb hml hr hts hown hlk hnm hP hK hD hA hS hl
  have hl : lv_has ls 2 [(0, .ref h), (1, .int (nI 2))] := hl
  have hts : ∀ w ∈ rg_tbl, w.before args s = true := fun w h => hts w (List.mem_cons_of_mem _ h)
  have hok := hrep.1
  have hn1 : 1 ≤ n := hok.1
  have hn60 : n ≤ 60 := hok.2.1
  have hb4 : b < 4 := hok.2.2.2.2.2.2.2.1
  have hTb : T b < n := (hok.2.2.2.2.2.2.1 b hb4).1
  have hti : ti b = nI (T b) := (hrep.2.2.2.2.2.2 b hb4).1
  have hma : ma b = nI (U b).length := (hrep.2.2.2.2.2.2 b hb4).2.1
  refine lv_aload_n hx hb dM_figure_0 rfl (lv_at hl 0 rfl) ?_
  refine lv_iload_n hx hb dM_figure_1 rfl (lv_at hl 1 rfl) ?_
  refine rg_ifN_lt (tgt := 11) hx hb dM_figure_2 (by decide) (by omega) (fun h1 => h1.elim) (fun h1 => ?_)
  refine lv_iload_n hx hb dM_figure_5 rfl (lv_at hl 1 rfl) ?_
  refine lv_bipush (v := nI 7) hx hb dM_figure_6 (by decide) ?_
  refine rg_icmp_le (tgt := 15) hx hb dM_figure_8 (by decide) (by omega) (by omega) (fun h2 => ?_) (fun h2 => by exfalso; omega)
  refine lv_iconst (v := nI 0) hx hb dM_figure_15 (by decide) ?_
  refine va_put (D := (dC, dI)) (ci := 0) (v := .int (nI 0)) (ty := .int) (C := "RevisionGroveModel") (T := TM) (N := 19) hx hb hts inM tyM tyM_ok nmM hown hK hP hD hS 0 rfl rfl 0 (by decide) (hts _ tw_601) (fun _ h9 => h9) rfl (by decide +kernel) rfl rfl (Nat.le_of_ble_eq_true rfl) dM_figure_16 (fun H locs hP hD hS => ?_)
  have hP : va_P (dC, dI) rg_cl (rm_W h a cI cL (nI 0) (nI n) (nI b) cof mad nu co se li le fi sc ti un ma dr fr to en) H := hP
  have hD : va_D A (rm_W h a cI cL (nI 0) (nI n) (nI b) cof mad nu co se li le fi sc ti un ma dr fr to en) := hD
  refine lv_iload_n hx hb dM_figure_19 rfl (lv_at hl 1 rfl) ?_
  refine lv_tableIn (off := 58) (tgt := 78) hx hb dM_figure_20 (by decide) (by decide) (by decide) (by decide) ?_
  refine lv_aload_n hx hb dM_figure_78 rfl (lv_at hl 0 rfl) ?_
  refine va_get (D := (dC, dI)) (ci := 0) (C := "RevisionGroveModel") (T := TM) (N := 19) hx hb hts inM hown hK hP 0 rfl rfl 9 (by decide) (hts _ tw_610) (fun _ h9 => h9) rfl dM_figure_79 ?_
  rw [hQ]
  exact rg_iret hx hb hr hlk hK hP hD hS dM_figure_82 (nI 0, nI n, nI b, cof, mad, nu, co, se, li, le, fi, sc, ti, un, ma, dr, fr, to, en) rfl (⟨hrep, rfl, rfl⟩)
set_option maxHeartbeats 4000000 in
set_option maxRecDepth 100000 in
theorem c_rm_figure_3 {l : Launch} {dC : Nat → ClassId} {dI : Nat → Nat → Nat} {h : Nat} {a : Nat → Nat} {cI cL : ClassId} {cod : Int32} {cof : Int32} {mad : Int32} {nu : Nat → Int32} {co : Nat → Int64} {se : Nat → Int32} {li : Nat → Int32} {le : Nat → Int32} {fi : Nat → Int32} {sc : Nat → Int32} {ti : Nat → Int32} {un : Nat → Int32} {ma : Nat → Int32} {dr : Nat → Int32} {fr : Nat → Int32} {to : Nat → Int32} {en : Nat → Int32} (n b : Nat) (Rr : Nat → rg_R) (P1 P2 : Nat → Int32) (T : Nat → Nat) (U : Nat → List Nat)  (hrep : rm_Rep (nI n) (nI b) cof nu co se li le fi sc ti un ma (n, Rr, P1, P2, T, U, b, cof)) : rg_M l yM_figure (Cond.code yM_figure prog_8_method_39_code 2 (some .int) :: rg_tbl) { frames := 1, cells := 0, slots := 0, locals := 20 } (dC, dI) rg_cl [(cI, .int), (cL, .long)] (rm_W h a cI cL cod (nI n) (nI b) cof mad nu co se li le fi sc ti un ma dr fr to en) [.ref h, .int (nI 3)] (rg_QI (dC, dI) rg_cl [(cI, .int), (cL, .long)] (S := rm_S) (rm_Po (0, nI (U b).length, (n, Rr, P1, P2, T, U, b, cof))) (fun u => rm_Wu h a cI cL u)) 0 0 := by
  refine rg_of prog_8_method_39_code 2 (some .int) (by decide) rfl (Nat.le_of_ble_eq_true rfl) ?_
  intro p e R s m args below meth c Q A H locs ls hR hQ hx hb hml hr hts hown hlk hnm hP hK hD hA hS hl
  have hl : lv_has ls 2 [(0, .ref h), (1, .int (nI 3))] := hl
  have hts : ∀ w ∈ rg_tbl, w.before args s = true := fun w h => hts w (List.mem_cons_of_mem _ h)
  have hok := hrep.1
  have hn1 : 1 ≤ n := hok.1
  have hn60 : n ≤ 60 := hok.2.1
  have hb4 : b < 4 := hok.2.2.2.2.2.2.2.1
  have hTb : T b < n := (hok.2.2.2.2.2.2.1 b hb4).1
  have hti : ti b = nI (T b) := (hrep.2.2.2.2.2.2 b hb4).1
  have hma : ma b = nI (U b).length := (hrep.2.2.2.2.2.2 b hb4).2.1
  refine lv_aload_n hx hb dM_figure_0 rfl (lv_at hl 0 rfl) ?_
  refine lv_iload_n hx hb dM_figure_1 rfl (lv_at hl 1 rfl) ?_
  refine rg_ifN_lt (tgt := 11) hx hb dM_figure_2 (by decide) (by omega) (fun h1 => h1.elim) (fun h1 => ?_)
  refine lv_iload_n hx hb dM_figure_5 rfl (lv_at hl 1 rfl) ?_
  refine lv_bipush (v := nI 7) hx hb dM_figure_6 (by decide) ?_
  refine rg_icmp_le (tgt := 15) hx hb dM_figure_8 (by decide) (by omega) (by omega) (fun h2 => ?_) (fun h2 => by exfalso; omega)
  refine lv_iconst (v := nI 0) hx hb dM_figure_15 (by decide) ?_
  refine va_put (D := (dC, dI)) (ci := 0) (v := .int (nI 0)) (ty := .int) (C := "RevisionGroveModel") (T := TM) (N := 19) hx hb hts inM tyM tyM_ok nmM hown hK hP hD hS 0 rfl rfl 0 (by decide) (hts _ tw_601) (fun _ h9 => h9) rfl (by decide +kernel) rfl rfl (Nat.le_of_ble_eq_true rfl) dM_figure_16 (fun H locs hP hD hS => ?_)
  have hP : va_P (dC, dI) rg_cl (rm_W h a cI cL (nI 0) (nI n) (nI b) cof mad nu co se li le fi sc ti un ma dr fr to en) H := hP
  have hD : va_D A (rm_W h a cI cL (nI 0) (nI n) (nI b) cof mad nu co se li le fi sc ti un ma dr fr to en) := hD
  refine lv_iload_n hx hb dM_figure_19 rfl (lv_at hl 1 rfl) ?_
  refine lv_tableIn (off := 63) (tgt := 83) hx hb dM_figure_20 (by decide) (by decide) (by decide) (by decide) ?_
  refine lv_aload_n hx hb dM_figure_83 rfl (lv_at hl 0 rfl) ?_
  refine va_get (D := (dC, dI)) (ci := 0) (C := "RevisionGroveModel") (T := TM) (N := 19) hx hb hts inM hown hK hP 0 rfl rfl 12 (by decide) (hts _ tw_613) (fun _ h9 => h9) rfl dM_figure_84 ?_
  refine lv_aload_n hx hb dM_figure_87 rfl (lv_at hl 0 rfl) ?_
  refine va_get (D := (dC, dI)) (ci := 0) (C := "RevisionGroveModel") (T := TM) (N := 19) hx hb hts inM hown hK hP 0 rfl rfl 9 (by decide) (hts _ tw_610) (fun _ h9 => h9) rfl dM_figure_88 ?_
  refine rg_iald hx hb hK hP 10 0 rfl rfl (by decide) (by omega) dM_figure_91 ?_
  refine rg_top (show (.int (ma b) : Value) = .int (nI ((U b).length)) by rw [hma]) ?_
  rw [hQ]
  exact rg_iret hx hb hr hlk hK hP hD hS dM_figure_92 (nI 0, nI n, nI b, cof, mad, nu, co, se, li, le, fi, sc, ti, un, ma, dr, fr, to, en) rfl (⟨hrep, rfl, rfl⟩)
set_option maxHeartbeats 4000000 in
set_option maxRecDepth 100000 in
theorem c_rm_figure_4 {l : Launch} {dC : Nat → ClassId} {dI : Nat → Nat → Nat} {h : Nat} {a : Nat → Nat} {cI cL : ClassId} {cod : Int32} {cof : Int32} {mad : Int32} {nu : Nat → Int32} {co : Nat → Int64} {se : Nat → Int32} {li : Nat → Int32} {le : Nat → Int32} {fi : Nat → Int32} {sc : Nat → Int32} {ti : Nat → Int32} {un : Nat → Int32} {ma : Nat → Int32} {dr : Nat → Int32} {fr : Nat → Int32} {to : Nat → Int32} {en : Nat → Int32} (n b : Nat) (Rr : Nat → rg_R) (P1 P2 : Nat → Int32) (T : Nat → Nat) (U : Nat → List Nat)  (hrep : rm_Rep (nI n) (nI b) cof nu co se li le fi sc ti un ma (n, Rr, P1, P2, T, U, b, cof)) : rg_M l yM_figure (Cond.code yM_figure prog_8_method_39_code 2 (some .int) :: rg_tbl) { frames := 1, cells := 0, slots := 0, locals := 20 } (dC, dI) rg_cl [(cI, .int), (cL, .long)] (rm_W h a cI cL cod (nI n) (nI b) cof mad nu co se li le fi sc ti un ma dr fr to en) [.ref h, .int (nI 4)] (rg_QI (dC, dI) rg_cl [(cI, .int), (cL, .long)] (S := rm_S) (rm_Po (0, nI (T 0), (n, Rr, P1, P2, T, U, b, cof))) (fun u => rm_Wu h a cI cL u)) 0 0 := by
  refine rg_of prog_8_method_39_code 2 (some .int) (by decide) rfl (Nat.le_of_ble_eq_true rfl) ?_
  intro p e R s m args below meth c Q A H locs ls hR hQ hx hb hml hr hts hown hlk hnm hP hK hD hA hS hl
  have hl : lv_has ls 2 [(0, .ref h), (1, .int (nI 4))] := hl
  have hts : ∀ w ∈ rg_tbl, w.before args s = true := fun w h => hts w (List.mem_cons_of_mem _ h)
  have hok := hrep.1
  have hn1 : 1 ≤ n := hok.1
  have hn60 : n ≤ 60 := hok.2.1
  have hb4 : b < 4 := hok.2.2.2.2.2.2.2.1
  have hTb : T b < n := (hok.2.2.2.2.2.2.1 b hb4).1
  have hti : ti b = nI (T b) := (hrep.2.2.2.2.2.2 b hb4).1
  have hma : ma b = nI (U b).length := (hrep.2.2.2.2.2.2 b hb4).2.1
  have h4 : ti (4 - 4) = nI (T 0) := (hrep.2.2.2.2.2.2 0 (by decide)).1
  refine lv_aload_n hx hb dM_figure_0 rfl (lv_at hl 0 rfl) ?_
  refine lv_iload_n hx hb dM_figure_1 rfl (lv_at hl 1 rfl) ?_
  refine rg_ifN_lt (tgt := 11) hx hb dM_figure_2 (by decide) (by omega) (fun h1 => h1.elim) (fun h1 => ?_)
  refine lv_iload_n hx hb dM_figure_5 rfl (lv_at hl 1 rfl) ?_
  refine lv_bipush (v := nI 7) hx hb dM_figure_6 (by decide) ?_
  refine rg_icmp_le (tgt := 15) hx hb dM_figure_8 (by decide) (by omega) (by omega) (fun h2 => ?_) (fun h2 => by exfalso; omega)
  refine lv_iconst (v := nI 0) hx hb dM_figure_15 (by decide) ?_
  refine va_put (D := (dC, dI)) (ci := 0) (v := .int (nI 0)) (ty := .int) (C := "RevisionGroveModel") (T := TM) (N := 19) hx hb hts inM tyM tyM_ok nmM hown hK hP hD hS 0 rfl rfl 0 (by decide) (hts _ tw_601) (fun _ h9 => h9) rfl (by decide +kernel) rfl rfl (Nat.le_of_ble_eq_true rfl) dM_figure_16 (fun H locs hP hD hS => ?_)
  have hP : va_P (dC, dI) rg_cl (rm_W h a cI cL (nI 0) (nI n) (nI b) cof mad nu co se li le fi sc ti un ma dr fr to en) H := hP
  have hD : va_D A (rm_W h a cI cL (nI 0) (nI n) (nI b) cof mad nu co se li le fi sc ti un ma dr fr to en) := hD
  refine lv_iload_n hx hb dM_figure_19 rfl (lv_at hl 1 rfl) ?_
  refine lv_tableIn (off := 73) (tgt := 93) hx hb dM_figure_20 (by decide) (by decide) (by decide) (by decide) ?_
  refine lv_aload_n hx hb dM_figure_93 rfl (lv_at hl 0 rfl) ?_
  refine va_get (D := (dC, dI)) (ci := 0) (C := "RevisionGroveModel") (T := TM) (N := 19) hx hb hts inM hown hK hP 0 rfl rfl 10 (by decide) (hts _ tw_611) (fun _ h9 => h9) rfl dM_figure_94 ?_
  refine lv_iload_n hx hb dM_figure_97 rfl (lv_at hl 1 rfl) ?_
  refine lv_iconst (v := nI 4) hx hb dM_figure_98 (by decide) ?_
  refine rg_isub hx hb dM_figure_99 (by omega) ?_
  refine rg_iald hx hb hK hP 8 0 rfl rfl (by decide) (by omega) dM_figure_100 ?_
  refine rg_top (show (.int (ti (4 - 4)) : Value) = .int (nI (T 0)) by rw [h4]) ?_
  rw [hQ]
  exact rg_iret hx hb hr hlk hK hP hD hS dM_figure_101 (nI 0, nI n, nI b, cof, mad, nu, co, se, li, le, fi, sc, ti, un, ma, dr, fr, to, en) rfl (⟨hrep, rfl, rfl⟩)
set_option maxHeartbeats 4000000 in
set_option maxRecDepth 100000 in
theorem c_rm_figure_5 {l : Launch} {dC : Nat → ClassId} {dI : Nat → Nat → Nat} {h : Nat} {a : Nat → Nat} {cI cL : ClassId} {cod : Int32} {cof : Int32} {mad : Int32} {nu : Nat → Int32} {co : Nat → Int64} {se : Nat → Int32} {li : Nat → Int32} {le : Nat → Int32} {fi : Nat → Int32} {sc : Nat → Int32} {ti : Nat → Int32} {un : Nat → Int32} {ma : Nat → Int32} {dr : Nat → Int32} {fr : Nat → Int32} {to : Nat → Int32} {en : Nat → Int32} (n b : Nat) (Rr : Nat → rg_R) (P1 P2 : Nat → Int32) (T : Nat → Nat) (U : Nat → List Nat)  (hrep : rm_Rep (nI n) (nI b) cof nu co se li le fi sc ti un ma (n, Rr, P1, P2, T, U, b, cof)) : rg_M l yM_figure (Cond.code yM_figure prog_8_method_39_code 2 (some .int) :: rg_tbl) { frames := 1, cells := 0, slots := 0, locals := 20 } (dC, dI) rg_cl [(cI, .int), (cL, .long)] (rm_W h a cI cL cod (nI n) (nI b) cof mad nu co se li le fi sc ti un ma dr fr to en) [.ref h, .int (nI 5)] (rg_QI (dC, dI) rg_cl [(cI, .int), (cL, .long)] (S := rm_S) (rm_Po (0, nI (T 1), (n, Rr, P1, P2, T, U, b, cof))) (fun u => rm_Wu h a cI cL u)) 0 0 := by
  refine rg_of prog_8_method_39_code 2 (some .int) (by decide) rfl (Nat.le_of_ble_eq_true rfl) ?_
  intro p e R s m args below meth c Q A H locs ls hR hQ hx hb hml hr hts hown hlk hnm hP hK hD hA hS hl
  have hl : lv_has ls 2 [(0, .ref h), (1, .int (nI 5))] := hl
  have hts : ∀ w ∈ rg_tbl, w.before args s = true := fun w h => hts w (List.mem_cons_of_mem _ h)
  have hok := hrep.1
  have hn1 : 1 ≤ n := hok.1
  have hn60 : n ≤ 60 := hok.2.1
  have hb4 : b < 4 := hok.2.2.2.2.2.2.2.1
  have hTb : T b < n := (hok.2.2.2.2.2.2.1 b hb4).1
  have hti : ti b = nI (T b) := (hrep.2.2.2.2.2.2 b hb4).1
  have hma : ma b = nI (U b).length := (hrep.2.2.2.2.2.2 b hb4).2.1
  have h4 : ti (5 - 4) = nI (T 1) := (hrep.2.2.2.2.2.2 1 (by decide)).1
  refine lv_aload_n hx hb dM_figure_0 rfl (lv_at hl 0 rfl) ?_
  refine lv_iload_n hx hb dM_figure_1 rfl (lv_at hl 1 rfl) ?_
  refine rg_ifN_lt (tgt := 11) hx hb dM_figure_2 (by decide) (by omega) (fun h1 => h1.elim) (fun h1 => ?_)
  refine lv_iload_n hx hb dM_figure_5 rfl (lv_at hl 1 rfl) ?_
  refine lv_bipush (v := nI 7) hx hb dM_figure_6 (by decide) ?_
  refine rg_icmp_le (tgt := 15) hx hb dM_figure_8 (by decide) (by omega) (by omega) (fun h2 => ?_) (fun h2 => by exfalso; omega)
  refine lv_iconst (v := nI 0) hx hb dM_figure_15 (by decide) ?_
  refine va_put (D := (dC, dI)) (ci := 0) (v := .int (nI 0)) (ty := .int) (C := "RevisionGroveModel") (T := TM) (N := 19) hx hb hts inM tyM tyM_ok nmM hown hK hP hD hS 0 rfl rfl 0 (by decide) (hts _ tw_601) (fun _ h9 => h9) rfl (by decide +kernel) rfl rfl (Nat.le_of_ble_eq_true rfl) dM_figure_16 (fun H locs hP hD hS => ?_)
  have hP : va_P (dC, dI) rg_cl (rm_W h a cI cL (nI 0) (nI n) (nI b) cof mad nu co se li le fi sc ti un ma dr fr to en) H := hP
  have hD : va_D A (rm_W h a cI cL (nI 0) (nI n) (nI b) cof mad nu co se li le fi sc ti un ma dr fr to en) := hD
  refine lv_iload_n hx hb dM_figure_19 rfl (lv_at hl 1 rfl) ?_
  refine lv_tableIn (off := 73) (tgt := 93) hx hb dM_figure_20 (by decide) (by decide) (by decide) (by decide) ?_
  refine lv_aload_n hx hb dM_figure_93 rfl (lv_at hl 0 rfl) ?_
  refine va_get (D := (dC, dI)) (ci := 0) (C := "RevisionGroveModel") (T := TM) (N := 19) hx hb hts inM hown hK hP 0 rfl rfl 10 (by decide) (hts _ tw_611) (fun _ h9 => h9) rfl dM_figure_94 ?_
  refine lv_iload_n hx hb dM_figure_97 rfl (lv_at hl 1 rfl) ?_
  refine lv_iconst (v := nI 4) hx hb dM_figure_98 (by decide) ?_
  refine rg_isub hx hb dM_figure_99 (by omega) ?_
  refine rg_iald hx hb hK hP 8 0 rfl rfl (by decide) (by omega) dM_figure_100 ?_
  refine rg_top (show (.int (ti (5 - 4)) : Value) = .int (nI (T 1)) by rw [h4]) ?_
  rw [hQ]
  exact rg_iret hx hb hr hlk hK hP hD hS dM_figure_101 (nI 0, nI n, nI b, cof, mad, nu, co, se, li, le, fi, sc, ti, un, ma, dr, fr, to, en) rfl (⟨hrep, rfl, rfl⟩)
set_option maxHeartbeats 4000000 in
set_option maxRecDepth 100000 in
theorem c_rm_figure_6 {l : Launch} {dC : Nat → ClassId} {dI : Nat → Nat → Nat} {h : Nat} {a : Nat → Nat} {cI cL : ClassId} {cod : Int32} {cof : Int32} {mad : Int32} {nu : Nat → Int32} {co : Nat → Int64} {se : Nat → Int32} {li : Nat → Int32} {le : Nat → Int32} {fi : Nat → Int32} {sc : Nat → Int32} {ti : Nat → Int32} {un : Nat → Int32} {ma : Nat → Int32} {dr : Nat → Int32} {fr : Nat → Int32} {to : Nat → Int32} {en : Nat → Int32} (n b : Nat) (Rr : Nat → rg_R) (P1 P2 : Nat → Int32) (T : Nat → Nat) (U : Nat → List Nat)  (hrep : rm_Rep (nI n) (nI b) cof nu co se li le fi sc ti un ma (n, Rr, P1, P2, T, U, b, cof)) : rg_M l yM_figure (Cond.code yM_figure prog_8_method_39_code 2 (some .int) :: rg_tbl) { frames := 1, cells := 0, slots := 0, locals := 20 } (dC, dI) rg_cl [(cI, .int), (cL, .long)] (rm_W h a cI cL cod (nI n) (nI b) cof mad nu co se li le fi sc ti un ma dr fr to en) [.ref h, .int (nI 6)] (rg_QI (dC, dI) rg_cl [(cI, .int), (cL, .long)] (S := rm_S) (rm_Po (0, nI (T 2), (n, Rr, P1, P2, T, U, b, cof))) (fun u => rm_Wu h a cI cL u)) 0 0 := by
  refine rg_of prog_8_method_39_code 2 (some .int) (by decide) rfl (Nat.le_of_ble_eq_true rfl) ?_
  intro p e R s m args below meth c Q A H locs ls hR hQ hx hb hml hr hts hown hlk hnm hP hK hD hA hS hl
  have hl : lv_has ls 2 [(0, .ref h), (1, .int (nI 6))] := hl
  have hts : ∀ w ∈ rg_tbl, w.before args s = true := fun w h => hts w (List.mem_cons_of_mem _ h)
  have hok := hrep.1
  have hn1 : 1 ≤ n := hok.1
  have hn60 : n ≤ 60 := hok.2.1
  have hb4 : b < 4 := hok.2.2.2.2.2.2.2.1
  have hTb : T b < n := (hok.2.2.2.2.2.2.1 b hb4).1
  have hti : ti b = nI (T b) := (hrep.2.2.2.2.2.2 b hb4).1
  have hma : ma b = nI (U b).length := (hrep.2.2.2.2.2.2 b hb4).2.1
  have h4 : ti (6 - 4) = nI (T 2) := (hrep.2.2.2.2.2.2 2 (by decide)).1
  refine lv_aload_n hx hb dM_figure_0 rfl (lv_at hl 0 rfl) ?_
  refine lv_iload_n hx hb dM_figure_1 rfl (lv_at hl 1 rfl) ?_
  refine rg_ifN_lt (tgt := 11) hx hb dM_figure_2 (by decide) (by omega) (fun h1 => h1.elim) (fun h1 => ?_)
  refine lv_iload_n hx hb dM_figure_5 rfl (lv_at hl 1 rfl) ?_
  refine lv_bipush (v := nI 7) hx hb dM_figure_6 (by decide) ?_
  refine rg_icmp_le (tgt := 15) hx hb dM_figure_8 (by decide) (by omega) (by omega) (fun h2 => ?_) (fun h2 => by exfalso; omega)
  refine lv_iconst (v := nI 0) hx hb dM_figure_15 (by decide) ?_
  refine va_put (D := (dC, dI)) (ci := 0) (v := .int (nI 0)) (ty := .int) (C := "RevisionGroveModel") (T := TM) (N := 19) hx hb hts inM tyM tyM_ok nmM hown hK hP hD hS 0 rfl rfl 0 (by decide) (hts _ tw_601) (fun _ h9 => h9) rfl (by decide +kernel) rfl rfl (Nat.le_of_ble_eq_true rfl) dM_figure_16 (fun H locs hP hD hS => ?_)
  have hP : va_P (dC, dI) rg_cl (rm_W h a cI cL (nI 0) (nI n) (nI b) cof mad nu co se li le fi sc ti un ma dr fr to en) H := hP
  have hD : va_D A (rm_W h a cI cL (nI 0) (nI n) (nI b) cof mad nu co se li le fi sc ti un ma dr fr to en) := hD
  refine lv_iload_n hx hb dM_figure_19 rfl (lv_at hl 1 rfl) ?_
  refine lv_tableIn (off := 73) (tgt := 93) hx hb dM_figure_20 (by decide) (by decide) (by decide) (by decide) ?_
  refine lv_aload_n hx hb dM_figure_93 rfl (lv_at hl 0 rfl) ?_
  refine va_get (D := (dC, dI)) (ci := 0) (C := "RevisionGroveModel") (T := TM) (N := 19) hx hb hts inM hown hK hP 0 rfl rfl 10 (by decide) (hts _ tw_611) (fun _ h9 => h9) rfl dM_figure_94 ?_
  refine lv_iload_n hx hb dM_figure_97 rfl (lv_at hl 1 rfl) ?_
  refine lv_iconst (v := nI 4) hx hb dM_figure_98 (by decide) ?_
  refine rg_isub hx hb dM_figure_99 (by omega) ?_
  refine rg_iald hx hb hK hP 8 0 rfl rfl (by decide) (by omega) dM_figure_100 ?_
  refine rg_top (show (.int (ti (6 - 4)) : Value) = .int (nI (T 2)) by rw [h4]) ?_
  rw [hQ]
  exact rg_iret hx hb hr hlk hK hP hD hS dM_figure_101 (nI 0, nI n, nI b, cof, mad, nu, co, se, li, le, fi, sc, ti, un, ma, dr, fr, to, en) rfl (⟨hrep, rfl, rfl⟩)
set_option maxHeartbeats 4000000 in
set_option maxRecDepth 100000 in
theorem c_rm_figure_7 {l : Launch} {dC : Nat → ClassId} {dI : Nat → Nat → Nat} {h : Nat} {a : Nat → Nat} {cI cL : ClassId} {cod : Int32} {cof : Int32} {mad : Int32} {nu : Nat → Int32} {co : Nat → Int64} {se : Nat → Int32} {li : Nat → Int32} {le : Nat → Int32} {fi : Nat → Int32} {sc : Nat → Int32} {ti : Nat → Int32} {un : Nat → Int32} {ma : Nat → Int32} {dr : Nat → Int32} {fr : Nat → Int32} {to : Nat → Int32} {en : Nat → Int32} (n b : Nat) (Rr : Nat → rg_R) (P1 P2 : Nat → Int32) (T : Nat → Nat) (U : Nat → List Nat)  (hrep : rm_Rep (nI n) (nI b) cof nu co se li le fi sc ti un ma (n, Rr, P1, P2, T, U, b, cof)) : rg_M l yM_figure (Cond.code yM_figure prog_8_method_39_code 2 (some .int) :: rg_tbl) { frames := 1, cells := 0, slots := 0, locals := 20 } (dC, dI) rg_cl [(cI, .int), (cL, .long)] (rm_W h a cI cL cod (nI n) (nI b) cof mad nu co se li le fi sc ti un ma dr fr to en) [.ref h, .int (nI 7)] (rg_QI (dC, dI) rg_cl [(cI, .int), (cL, .long)] (S := rm_S) (rm_Po (0, nI (T 3), (n, Rr, P1, P2, T, U, b, cof))) (fun u => rm_Wu h a cI cL u)) 0 0 := by
  refine rg_of prog_8_method_39_code 2 (some .int) (by decide) rfl (Nat.le_of_ble_eq_true rfl) ?_
  intro p e R s m args below meth c Q A H locs ls hR hQ hx hb hml hr hts hown hlk hnm hP hK hD hA hS hl
  have hl : lv_has ls 2 [(0, .ref h), (1, .int (nI 7))] := hl
  have hts : ∀ w ∈ rg_tbl, w.before args s = true := fun w h => hts w (List.mem_cons_of_mem _ h)
  have hok := hrep.1
  have hn1 : 1 ≤ n := hok.1
  have hn60 : n ≤ 60 := hok.2.1
  have hb4 : b < 4 := hok.2.2.2.2.2.2.2.1
  have hTb : T b < n := (hok.2.2.2.2.2.2.1 b hb4).1
  have hti : ti b = nI (T b) := (hrep.2.2.2.2.2.2 b hb4).1
  have hma : ma b = nI (U b).length := (hrep.2.2.2.2.2.2 b hb4).2.1
  have h4 : ti (7 - 4) = nI (T 3) := (hrep.2.2.2.2.2.2 3 (by decide)).1
  refine lv_aload_n hx hb dM_figure_0 rfl (lv_at hl 0 rfl) ?_
  refine lv_iload_n hx hb dM_figure_1 rfl (lv_at hl 1 rfl) ?_
  refine rg_ifN_lt (tgt := 11) hx hb dM_figure_2 (by decide) (by omega) (fun h1 => h1.elim) (fun h1 => ?_)
  refine lv_iload_n hx hb dM_figure_5 rfl (lv_at hl 1 rfl) ?_
  refine lv_bipush (v := nI 7) hx hb dM_figure_6 (by decide) ?_
  refine rg_icmp_le (tgt := 15) hx hb dM_figure_8 (by decide) (by omega) (by omega) (fun h2 => ?_) (fun h2 => by exfalso; omega)
  refine lv_iconst (v := nI 0) hx hb dM_figure_15 (by decide) ?_
  refine va_put (D := (dC, dI)) (ci := 0) (v := .int (nI 0)) (ty := .int) (C := "RevisionGroveModel") (T := TM) (N := 19) hx hb hts inM tyM tyM_ok nmM hown hK hP hD hS 0 rfl rfl 0 (by decide) (hts _ tw_601) (fun _ h9 => h9) rfl (by decide +kernel) rfl rfl (Nat.le_of_ble_eq_true rfl) dM_figure_16 (fun H locs hP hD hS => ?_)
  have hP : va_P (dC, dI) rg_cl (rm_W h a cI cL (nI 0) (nI n) (nI b) cof mad nu co se li le fi sc ti un ma dr fr to en) H := hP
  have hD : va_D A (rm_W h a cI cL (nI 0) (nI n) (nI b) cof mad nu co se li le fi sc ti un ma dr fr to en) := hD
  refine lv_iload_n hx hb dM_figure_19 rfl (lv_at hl 1 rfl) ?_
  refine lv_tableIn (off := 73) (tgt := 93) hx hb dM_figure_20 (by decide) (by decide) (by decide) (by decide) ?_
  refine lv_aload_n hx hb dM_figure_93 rfl (lv_at hl 0 rfl) ?_
  refine va_get (D := (dC, dI)) (ci := 0) (C := "RevisionGroveModel") (T := TM) (N := 19) hx hb hts inM hown hK hP 0 rfl rfl 10 (by decide) (hts _ tw_611) (fun _ h9 => h9) rfl dM_figure_94 ?_
  refine lv_iload_n hx hb dM_figure_97 rfl (lv_at hl 1 rfl) ?_
  refine lv_iconst (v := nI 4) hx hb dM_figure_98 (by decide) ?_
  refine rg_isub hx hb dM_figure_99 (by omega) ?_
  refine rg_iald hx hb hK hP 8 0 rfl rfl (by decide) (by omega) dM_figure_100 ?_
  refine rg_top (show (.int (ti (7 - 4)) : Value) = .int (nI (T 3)) by rw [h4]) ?_
  rw [hQ]
  exact rg_iret hx hb hr hlk hK hP hD hS dM_figure_101 (nI 0, nI n, nI b, cof, mad, nu, co, se, li, le, fi, sc, ti, un, ma, dr, fr, to, en) rfl (⟨hrep, rfl, rfl⟩)
set_option maxHeartbeats 4000000 in
set_option maxRecDepth 100000 in
theorem c_rm_figure_bad {l : Launch} {dC : Nat → ClassId} {dI : Nat → Nat → Nat} {h : Nat} {a : Nat → Nat} {cI cL : ClassId} {cod : Int32} {cof : Int32} {mad : Int32} {nu : Nat → Int32} {co : Nat → Int64} {se : Nat → Int32} {li : Nat → Int32} {le : Nat → Int32} {fi : Nat → Int32} {sc : Nat → Int32} {ti : Nat → Int32} {un : Nat → Int32} {ma : Nat → Int32} {dr : Nat → Int32} {fr : Nat → Int32} {to : Nat → Int32} {en : Nat → Int32} (n b : Nat) (Rr : Nat → rg_R) (P1 P2 : Nat → Int32) (T : Nat → Nat) (U : Nat → List Nat) (x : Int32) (hx0 : x < 0 ∨ 7 < x) (hrep : rm_Rep (nI n) (nI b) cof nu co se li le fi sc ti un ma (n, Rr, P1, P2, T, U, b, cof)) : rg_M l yM_figure (Cond.code yM_figure prog_8_method_39_code 2 (some .int) :: rg_tbl) { frames := 1, cells := 0, slots := 0, locals := 20 } (dC, dI) rg_cl [(cI, .int), (cL, .long)] (rm_W h a cI cL cod (nI n) (nI b) cof mad nu co se li le fi sc ti un ma dr fr to en) [.ref h, .int x] (rg_QI (dC, dI) rg_cl [(cI, .int), (cL, .long)] (S := rm_S) (rm_Po (1, 0, (n, Rr, P1, P2, T, U, b, cof))) (fun u => rm_Wu h a cI cL u)) 0 0 := by
  refine rg_of prog_8_method_39_code 2 (some .int) (by decide) rfl (Nat.le_of_ble_eq_true rfl) ?_
  intro p e R s m args below meth c Q A H locs ls hR hQ hx hb hml hr hts hown hlk hnm hP hK hD hA hS hl
  have hl : lv_has ls 2 [(0, .ref h), (1, .int x)] := hl
  have hts : ∀ w ∈ rg_tbl, w.before args s = true := fun w h => hts w (List.mem_cons_of_mem _ h)
  have hok := hrep.1
  have hn1 : 1 ≤ n := hok.1
  have hn60 : n ≤ 60 := hok.2.1
  have hb4 : b < 4 := hok.2.2.2.2.2.2.2.1
  have hTb : T b < n := (hok.2.2.2.2.2.2.1 b hb4).1
  have hti : ti b = nI (T b) := (hrep.2.2.2.2.2.2 b hb4).1
  have hma : ma b = nI (U b).length := (hrep.2.2.2.2.2.2 b hb4).2.1
  refine lv_aload_n hx hb dM_figure_0 rfl (lv_at hl 0 rfl) ?_
  refine lv_iload_n hx hb dM_figure_1 rfl (lv_at hl 1 rfl) ?_
  refine lv_if_lt (tgt := 11) hx hb dM_figure_2 (by decide) (fun h1 => ?_) (fun h1 => ?_)
  · refine lv_iconst (v := nI 1) hx hb dM_figure_11 (by decide) ?_
    refine lv_goto (tgt := 16) hx hb dM_figure_12 (by decide) ?_
    refine va_put (D := (dC, dI)) (ci := 0) (v := .int (nI 1)) (ty := .int) (C := "RevisionGroveModel") (T := TM) (N := 19) hx hb hts inM tyM tyM_ok nmM hown hK hP hD hS 0 rfl rfl 0 (by decide) (hts _ tw_601) (fun _ h9 => h9) rfl (by decide +kernel) rfl rfl (Nat.le_of_ble_eq_true rfl) dM_figure_16 (fun H locs hP hD hS => ?_)
    have hP : va_P (dC, dI) rg_cl (rm_W h a cI cL (nI 1) (nI n) (nI b) cof mad nu co se li le fi sc ti un ma dr fr to en) H := hP
    have hD : va_D A (rm_W h a cI cL (nI 1) (nI n) (nI b) cof mad nu co se li le fi sc ti un ma dr fr to en) := hD
    refine lv_iload_n hx hb dM_figure_19 rfl (lv_at hl 1 rfl) ?_
    refine lv_tableOut (tgt := 102) hx hb dM_figure_20 (rg_fig_out hx0) (by decide) ?_
    refine lv_iconst (v := nI 0) hx hb dM_figure_102 (by decide) ?_
    rw [hQ]
    exact rg_iret hx hb hr hlk hK hP hD hS dM_figure_103 (nI 1, nI n, nI b, cof, mad, nu, co, se, li, le, fi, sc, ti, un, ma, dr, fr, to, en) rfl (⟨hrep, rfl, rfl⟩)
  · refine lv_iload_n hx hb dM_figure_5 rfl (lv_at hl 1 rfl) ?_
    refine lv_bipush (v := nI 7) hx hb dM_figure_6 (by decide) ?_
    refine lv_icmp_le (tgt := 15) hx hb dM_figure_8 (by decide) (fun h2 => absurd hx0 (fun q => q.elim h1 (fun q => Int32.not_lt.mpr h2 q))) (fun h2 => ?_)
    refine lv_iconst (v := nI 1) hx hb dM_figure_11 (by decide) ?_
    refine lv_goto (tgt := 16) hx hb dM_figure_12 (by decide) ?_
    refine va_put (D := (dC, dI)) (ci := 0) (v := .int (nI 1)) (ty := .int) (C := "RevisionGroveModel") (T := TM) (N := 19) hx hb hts inM tyM tyM_ok nmM hown hK hP hD hS 0 rfl rfl 0 (by decide) (hts _ tw_601) (fun _ h9 => h9) rfl (by decide +kernel) rfl rfl (Nat.le_of_ble_eq_true rfl) dM_figure_16 (fun H locs hP hD hS => ?_)
    have hP : va_P (dC, dI) rg_cl (rm_W h a cI cL (nI 1) (nI n) (nI b) cof mad nu co se li le fi sc ti un ma dr fr to en) H := hP
    have hD : va_D A (rm_W h a cI cL (nI 1) (nI n) (nI b) cof mad nu co se li le fi sc ti un ma dr fr to en) := hD
    refine lv_iload_n hx hb dM_figure_19 rfl (lv_at hl 1 rfl) ?_
    refine lv_tableOut (tgt := 102) hx hb dM_figure_20 (rg_fig_out hx0) (by decide) ?_
    refine lv_iconst (v := nI 0) hx hb dM_figure_102 (by decide) ?_
    rw [hQ]
    exact rg_iret hx hb hr hlk hK hP hD hS dM_figure_103 (nI 1, nI n, nI b, cof, mad, nu, co, se, li, le, fi, sc, ti, un, ma, dr, fr, to, en) rfl (⟨hrep, rfl, rfl⟩)
theorem c_rm_figure {l : Launch} {dC : Nat → ClassId} {dI : Nat → Nat → Nat} {h : Nat} {a : Nat → Nat} {cI cL : ClassId} {cod : Int32} {cof : Int32} {mad : Int32} {nu : Nat → Int32} {co : Nat → Int64} {se : Nat → Int32} {li : Nat → Int32} {le : Nat → Int32} {fi : Nat → Int32} {sc : Nat → Int32} {ti : Nat → Int32} {un : Nat → Int32} {ma : Nat → Int32} {dr : Nat → Int32} {fr : Nat → Int32} {to : Nat → Int32} {en : Nat → Int32} (n b : Nat) (Rr : Nat → rg_R) (P1 P2 : Nat → Int32) (T : Nat → Nat) (U : Nat → List Nat) (x : Int32) (hrep : rm_Rep (nI n) (nI b) cof nu co se li le fi sc ti un ma (n, Rr, P1, P2, T, U, b, cof)) : rg_M l yM_figure (Cond.code yM_figure prog_8_method_39_code 2 (some .int) :: rg_tbl) { frames := 1, cells := 0, slots := 0, locals := 20 } (dC, dI) rg_cl [(cI, .int), (cL, .long)] (rm_W h a cI cL cod (nI n) (nI b) cof mad nu co se li le fi sc ti un ma dr fr to en) [.ref h, .int x] (rg_QI (dC, dI) rg_cl [(cI, .int), (cL, .long)] (S := rm_S) (rm_Po (rg_oFig (n, Rr, P1, P2, T, U, b, cof) x)) (fun u => rm_Wu h a cI cL u)) 0 0 := by
  unfold rg_oFig
  by_cases h0 : x = 0
  · subst h0; rw [if_pos rfl]; exact c_rm_figure_0 n b Rr P1 P2 T U hrep
  · rw [if_neg h0]
    by_cases h1 : x = 1
    · subst h1; rw [if_pos rfl]; exact c_rm_figure_1 n b Rr P1 P2 T U hrep
    · rw [if_neg h1]
      by_cases h2 : x = 2
      · subst h2; rw [if_pos rfl]; exact c_rm_figure_2 n b Rr P1 P2 T U hrep
      · rw [if_neg h2]
        by_cases h3 : x = 3
        · subst h3; rw [if_pos rfl]; exact c_rm_figure_3 n b Rr P1 P2 T U hrep
        · rw [if_neg h3]
          by_cases h4 : x = 4
          · subst h4; rw [if_pos rfl]; exact c_rm_figure_4 n b Rr P1 P2 T U hrep
          · rw [if_neg h4]
            by_cases h5 : x = 5
            · subst h5; rw [if_pos rfl]; exact c_rm_figure_5 n b Rr P1 P2 T U hrep
            · rw [if_neg h5]
              by_cases h6 : x = 6
              · subst h6; rw [if_pos rfl]; exact c_rm_figure_6 n b Rr P1 P2 T U hrep
              · rw [if_neg h6]
                by_cases h7 : x = 7
                · subst h7; rw [if_pos rfl]; exact c_rm_figure_7 n b Rr P1 P2 T U hrep
                · rw [if_neg h7]
                  refine c_rm_figure_bad n b Rr P1 P2 T U x ?_ hrep
                  by_cases h8 : x < 0
                  · exact Or.inl h8
                  · by_cases h9 : 7 < x
                    · exact Or.inr h9
                    · obtain ⟨j, hj, rfl⟩ := nI_of2 (M := 7) (n := 7) (by decide) h8 (Int32.not_lt.mp h9)
                      rcases (show j = 0 ∨ j = 1 ∨ j = 2 ∨ j = 3 ∨ j = 4 ∨ j = 5 ∨ j = 6 ∨ j = 7 by omega) with rfl | rfl | rfl | rfl | rfl | rfl | rfl | rfl
                      · exact absurd rfl h0
                      · exact absurd rfl h1
                      · exact absurd rfl h2
                      · exact absurd rfl h3
                      · exact absurd rfl h4
                      · exact absurd rfl h5
                      · exact absurd rfl h6
                      · exact absurd rfl h7
set_option maxHeartbeats 4000000 in
set_option maxRecDepth 100000 in
theorem c_rm_differ_ok {l : Launch} {dC : Nat → ClassId} {dI : Nat → Nat → Nat} {h : Nat} {a : Nat → Nat} {cI cL : ClassId} {cod : Int32} {cof : Int32} {mad : Int32} {nu : Nat → Int32} {co : Nat → Int64} {se : Nat → Int32} {li : Nat → Int32} {le : Nat → Int32} {fi : Nat → Int32} {sc : Nat → Int32} {ti : Nat → Int32} {un : Nat → Int32} {ma : Nat → Int32} {dr : Nat → Int32} {fr : Nat → Int32} {to : Nat → Int32} {en : Nat → Int32} (n b : Nat) (Rr : Nat → rg_R) (P1 P2 : Nat → Int32) (T : Nat → Nat) (U : Nat → List Nat) (i j : Nat) (hin9 : i < n) (hjn9 : j < n) (hrep : rm_Rep (nI n) (nI b) cof nu co se li le fi sc ti un ma (n, Rr, P1, P2, T, U, b, cof)) : rg_M l yM_differ (Cond.code yM_differ prog_8_method_35_code 3 (some .int) :: rg_tbl) { frames := 2, cells := 0, slots := 0, locals := 49 } (dC, dI) rg_cl [(cI, .int), (cL, .long)] (rm_W h a cI cL cod (nI n) (nI b) cof mad nu co se li le fi sc ti un ma dr fr to en) [.ref h, .int (nI i), .int (nI j)] (rg_QI (dC, dI) rg_cl [(cI, .int), (cL, .long)] (S := rm_S) (rm_Po (0, rg_dif (Rr i) (Rr j), (n, Rr, P1, P2, T, U, b, cof))) (fun u => rm_Wu h a cI cL u)) 0 0 := by
  refine rg_of prog_8_method_35_code 3 (some .int) (by decide) rfl (Nat.le_of_ble_eq_true rfl) ?_
  intro p e R s m args below meth c Q A H locs ls hR hQ hx hb hml hr hts hown hlk hnm hP hK hD hA hS hl
  have hl : lv_has ls 3 [(0, .ref h), (1, .int (nI i)), (2, .int (nI j))] := hl
  have hts : ∀ w ∈ rg_tbl, w.before args s = true := fun w h => hts w (List.mem_cons_of_mem _ h)
  have hok := hrep.1
  have hn1 : 1 ≤ n := hok.1
  have hn60 : n ≤ 60 := hok.2.1
  have hb4 : b < 4 := hok.2.2.2.2.2.2.2.1
  have hTb : T b < n := (hok.2.2.2.2.2.2.1 b hb4).1
  have hti : ti b = nI (T b) := (hrep.2.2.2.2.2.2 b hb4).1
  have hma : ma b = nI (U b).length := (hrep.2.2.2.2.2.2 b hb4).2.1
  have hB := rg_isR_ok (n := n) (by omega) hin9
  have hB2 := rg_isR_ok (n := n) (by omega) hjn9
  refine lv_aload_n hx hb dM_differ_0 rfl (lv_at hl 0 rfl) ?_
  refine lv_aload_n hx hb dM_differ_1 rfl (lv_at hl 0 rfl) ?_
  refine lv_iload_n hx hb dM_differ_2 rfl (lv_at hl 1 rfl) ?_
  refine rg_calli hD hS hA (va_runV (As := [.int (nI i)]) (rest := [.ref h]) ⟨hx, hb, hml, hown, hts⟩ (c_rm_isRevision n (nI i) _) (cwV 1 hts (rg_gV tw_726 tw_728 ts_M_isRevision tw_5 tw_729) rfl rfl rfl (by decide +kernel) ⟨by rw [hR]; exact Nat.le_of_ble_eq_true rfl, by rw [hR]; exact Nat.le_of_ble_eq_true rfl⟩) (rg_preV rfl hK hP hD (ci := 0) (q0 := 0) rfl rfl) rfl rfl hl.1 rfl (lv_room (Nat.le_of_ble_eq_true rfl)) dM_differ_3 ⟨Nat.zero_le _, Nat.zero_le _⟩) (fun r1 u2 H locs hw3 hP hD hS => ?_)
  subst hw3
  have hP : va_P (dC, dI) rg_cl (rm_W h a cI cL cod (nI n) (nI b) cof mad nu co se li le fi sc ti un ma dr fr to en) H := hP
  have hD : va_D A (rm_W h a cI cL cod (nI n) (nI b) cof mad nu co se li le fi sc ti un ma dr fr to en) := hD
  refine rg_ifz_eq (tgt := 21) hx hb dM_differ_6 (by decide) (fun h4 => absurd (hB.symm.trans h4) (by decide)) (fun h4 => ?_)
  refine lv_aload_n hx hb dM_differ_9 rfl (lv_at hl 0 rfl) ?_
  refine lv_iload_n hx hb dM_differ_10 rfl (lv_at hl 2 rfl) ?_
  refine rg_calli hD hS hA (va_runV (As := [.int (nI j)]) (rest := [.ref h]) ⟨hx, hb, hml, hown, hts⟩ (c_rm_isRevision n (nI j) _) (cwV 1 hts (rg_gV tw_726 tw_728 ts_M_isRevision tw_5 tw_729) rfl rfl rfl (by decide +kernel) ⟨by rw [hR]; exact Nat.le_of_ble_eq_true rfl, by rw [hR]; exact Nat.le_of_ble_eq_true rfl⟩) (rg_preV rfl hK hP hD (ci := 0) (q0 := 0) rfl rfl) rfl rfl hl.1 rfl (lv_room (Nat.le_of_ble_eq_true rfl)) dM_differ_11 ⟨Nat.zero_le _, Nat.zero_le _⟩) (fun r5 u6 H locs hw7 hP hD hS => ?_)
  subst hw7
  have hP : va_P (dC, dI) rg_cl (rm_W h a cI cL cod (nI n) (nI b) cof mad nu co se li le fi sc ti un ma dr fr to en) H := hP
  have hD : va_D A (rm_W h a cI cL cod (nI n) (nI b) cof mad nu co se li le fi sc ti un ma dr fr to en) := hD
  refine rg_ifz_eq (tgt := 21) hx hb dM_differ_14 (by decide) (fun h8 => absurd (hB2.symm.trans h8) (by decide)) (fun h8 => ?_)
  refine lv_iconst (v := nI 0) hx hb dM_differ_17 (by decide) ?_
  refine lv_goto (tgt := 22) hx hb dM_differ_18 (by decide) ?_
  refine va_put (D := (dC, dI)) (ci := 0) (v := .int (nI 0)) (ty := .int) (C := "RevisionGroveModel") (T := TM) (N := 19) hx hb hts inM tyM tyM_ok nmM hown hK hP hD hS 0 rfl rfl 0 (by decide) (hts _ tw_601) (fun _ h9 => h9) rfl (by decide +kernel) rfl rfl (Nat.le_of_ble_eq_true rfl) dM_differ_22 (fun H locs hP hD hS => ?_)
  have hP : va_P (dC, dI) rg_cl (rm_W h a cI cL (nI 0) (nI n) (nI b) cof mad nu co se li le fi sc ti un ma dr fr to en) H := hP
  have hD : va_D A (rm_W h a cI cL (nI 0) (nI n) (nI b) cof mad nu co se li le fi sc ti un ma dr fr to en) := hD
  refine lv_aload_n hx hb dM_differ_25 rfl (lv_at hl 0 rfl) ?_
  refine va_get (D := (dC, dI)) (ci := 0) (C := "RevisionGroveModel") (T := TM) (N := 19) hx hb hts inM hown hK hP 0 rfl rfl 0 (by decide) (hts _ tw_601) (fun _ h9 => h9) rfl dM_differ_26 ?_
  refine rg_ifN_ne (tgt := 41) hx hb dM_differ_29 (by decide) (by decide) (fun h9 => by exfalso; omega) (fun h9 => ?_)
  refine lv_aload_n hx hb dM_differ_32 rfl (lv_at hl 0 rfl) ?_
  refine lv_iload_n hx hb dM_differ_33 rfl (lv_at hl 1 rfl) ?_
  refine lv_iload_n hx hb dM_differ_34 rfl (lv_at hl 2 rfl) ?_
  refine rg_calli hD hS hA (va_runV (As := [.int (nI i), .int (nI j)]) (rest := []) ⟨hx, hb, hml, hown, hts⟩ (c_rm_difference i j (by omega) (by omega) (Rr i) (Rr j) (hrep.2.2.2.2.1 i hin9) (hrep.2.2.2.2.1 j hjn9) _) (cwV 2 hts (rg_gV tw_679 tw_681 ts_M_difference tw_5 tw_682) rfl rfl rfl (by decide +kernel) ⟨by rw [hR]; exact Nat.le_of_ble_eq_true rfl, by rw [hR]; exact Nat.le_of_ble_eq_true rfl⟩) (rg_preV rfl hK hP hD (ci := 0) (q0 := 0) rfl rfl) rfl rfl hl.1 rfl (lv_room (Nat.le_of_ble_eq_true rfl)) dM_differ_35 ⟨Nat.zero_le _, Nat.zero_le _⟩) (fun r10 u11 H locs hw12 hP hD hS => ?_)
  subst hw12
  have hP : va_P (dC, dI) rg_cl (rm_W h a cI cL (nI 0) (nI n) (nI b) cof mad nu co se li le fi sc ti un ma dr fr to en) H := hP
  have hD : va_D A (rm_W h a cI cL (nI 0) (nI n) (nI b) cof mad nu co se li le fi sc ti un ma dr fr to en) := hD
  refine lv_goto (tgt := 42) hx hb dM_differ_38 (by decide) ?_
  rw [hQ]
  exact rg_iret hx hb hr hlk hK hP hD hS dM_differ_42 (nI 0, nI n, nI b, cof, mad, nu, co, se, li, le, fi, sc, ti, un, ma, dr, fr, to, en) rfl (⟨hrep, rfl, rfl⟩)
set_option maxHeartbeats 4000000 in
set_option maxRecDepth 100000 in
theorem c_rm_differ_bad1 {l : Launch} {dC : Nat → ClassId} {dI : Nat → Nat → Nat} {h : Nat} {a : Nat → Nat} {cI cL : ClassId} {cod : Int32} {cof : Int32} {mad : Int32} {nu : Nat → Int32} {co : Nat → Int64} {se : Nat → Int32} {li : Nat → Int32} {le : Nat → Int32} {fi : Nat → Int32} {sc : Nat → Int32} {ti : Nat → Int32} {un : Nat → Int32} {ma : Nat → Int32} {dr : Nat → Int32} {fr : Nat → Int32} {to : Nat → Int32} {en : Nat → Int32} (n b : Nat) (Rr : Nat → rg_R) (P1 P2 : Nat → Int32) (T : Nat → Nat) (U : Nat → List Nat) (x y : Int32) (hB : rg_isR n x = false) (hrep : rm_Rep (nI n) (nI b) cof nu co se li le fi sc ti un ma (n, Rr, P1, P2, T, U, b, cof)) : rg_M l yM_differ (Cond.code yM_differ prog_8_method_35_code 3 (some .int) :: rg_tbl) { frames := 2, cells := 0, slots := 0, locals := 49 } (dC, dI) rg_cl [(cI, .int), (cL, .long)] (rm_W h a cI cL cod (nI n) (nI b) cof mad nu co se li le fi sc ti un ma dr fr to en) [.ref h, .int x, .int y] (rg_QI (dC, dI) rg_cl [(cI, .int), (cL, .long)] (S := rm_S) (rm_Po (1, 0, (n, Rr, P1, P2, T, U, b, cof))) (fun u => rm_Wu h a cI cL u)) 0 0 := by
  refine rg_of prog_8_method_35_code 3 (some .int) (by decide) rfl (Nat.le_of_ble_eq_true rfl) ?_
  intro p e R s m args below meth c Q A H locs ls hR hQ hx hb hml hr hts hown hlk hnm hP hK hD hA hS hl
  have hl : lv_has ls 3 [(0, .ref h), (1, .int x), (2, .int y)] := hl
  have hts : ∀ w ∈ rg_tbl, w.before args s = true := fun w h => hts w (List.mem_cons_of_mem _ h)
  have hok := hrep.1
  have hn1 : 1 ≤ n := hok.1
  have hn60 : n ≤ 60 := hok.2.1
  have hb4 : b < 4 := hok.2.2.2.2.2.2.2.1
  have hTb : T b < n := (hok.2.2.2.2.2.2.1 b hb4).1
  have hti : ti b = nI (T b) := (hrep.2.2.2.2.2.2 b hb4).1
  have hma : ma b = nI (U b).length := (hrep.2.2.2.2.2.2 b hb4).2.1
  refine lv_aload_n hx hb dM_differ_0 rfl (lv_at hl 0 rfl) ?_
  refine lv_aload_n hx hb dM_differ_1 rfl (lv_at hl 0 rfl) ?_
  refine lv_iload_n hx hb dM_differ_2 rfl (lv_at hl 1 rfl) ?_
  refine rg_calli hD hS hA (va_runV (As := [.int x]) (rest := [.ref h]) ⟨hx, hb, hml, hown, hts⟩ (c_rm_isRevision n x _) (cwV 1 hts (rg_gV tw_726 tw_728 ts_M_isRevision tw_5 tw_729) rfl rfl rfl (by decide +kernel) ⟨by rw [hR]; exact Nat.le_of_ble_eq_true rfl, by rw [hR]; exact Nat.le_of_ble_eq_true rfl⟩) (rg_preV rfl hK hP hD (ci := 0) (q0 := 0) rfl rfl) rfl rfl hl.1 rfl (lv_room (Nat.le_of_ble_eq_true rfl)) dM_differ_3 ⟨Nat.zero_le _, Nat.zero_le _⟩) (fun r1 u2 H locs hw3 hP hD hS => ?_)
  subst hw3
  have hP : va_P (dC, dI) rg_cl (rm_W h a cI cL cod (nI n) (nI b) cof mad nu co se li le fi sc ti un ma dr fr to en) H := hP
  have hD : va_D A (rm_W h a cI cL cod (nI n) (nI b) cof mad nu co se li le fi sc ti un ma dr fr to en) := hD
  refine rg_ifz_eq (tgt := 21) hx hb dM_differ_6 (by decide) (fun h4 => ?_) (fun h4 => absurd (hB.symm.trans h4) (by decide))
  refine lv_iconst (v := nI 1) hx hb dM_differ_21 (by decide) ?_
  refine va_put (D := (dC, dI)) (ci := 0) (v := .int (nI 1)) (ty := .int) (C := "RevisionGroveModel") (T := TM) (N := 19) hx hb hts inM tyM tyM_ok nmM hown hK hP hD hS 0 rfl rfl 0 (by decide) (hts _ tw_601) (fun _ h9 => h9) rfl (by decide +kernel) rfl rfl (Nat.le_of_ble_eq_true rfl) dM_differ_22 (fun H locs hP hD hS => ?_)
  have hP : va_P (dC, dI) rg_cl (rm_W h a cI cL (nI 1) (nI n) (nI b) cof mad nu co se li le fi sc ti un ma dr fr to en) H := hP
  have hD : va_D A (rm_W h a cI cL (nI 1) (nI n) (nI b) cof mad nu co se li le fi sc ti un ma dr fr to en) := hD
  refine lv_aload_n hx hb dM_differ_25 rfl (lv_at hl 0 rfl) ?_
  refine va_get (D := (dC, dI)) (ci := 0) (C := "RevisionGroveModel") (T := TM) (N := 19) hx hb hts inM hown hK hP 0 rfl rfl 0 (by decide) (hts _ tw_601) (fun _ h9 => h9) rfl dM_differ_26 ?_
  refine rg_ifN_ne (tgt := 41) hx hb dM_differ_29 (by decide) (by decide) (fun h5 => ?_) (fun h5 => by exfalso; omega)
  refine lv_iconst (v := nI 0) hx hb dM_differ_41 (by decide) ?_
  rw [hQ]
  exact rg_iret hx hb hr hlk hK hP hD hS dM_differ_42 (nI 1, nI n, nI b, cof, mad, nu, co, se, li, le, fi, sc, ti, un, ma, dr, fr, to, en) rfl (⟨hrep, rfl, rfl⟩)
set_option maxHeartbeats 4000000 in
set_option maxRecDepth 100000 in
theorem c_rm_differ_bad2 {l : Launch} {dC : Nat → ClassId} {dI : Nat → Nat → Nat} {h : Nat} {a : Nat → Nat} {cI cL : ClassId} {cod : Int32} {cof : Int32} {mad : Int32} {nu : Nat → Int32} {co : Nat → Int64} {se : Nat → Int32} {li : Nat → Int32} {le : Nat → Int32} {fi : Nat → Int32} {sc : Nat → Int32} {ti : Nat → Int32} {un : Nat → Int32} {ma : Nat → Int32} {dr : Nat → Int32} {fr : Nat → Int32} {to : Nat → Int32} {en : Nat → Int32} (n b : Nat) (Rr : Nat → rg_R) (P1 P2 : Nat → Int32) (T : Nat → Nat) (U : Nat → List Nat) (x y : Int32) (hB : rg_isR n x = true) (hB2 : rg_isR n y = false) (hrep : rm_Rep (nI n) (nI b) cof nu co se li le fi sc ti un ma (n, Rr, P1, P2, T, U, b, cof)) : rg_M l yM_differ (Cond.code yM_differ prog_8_method_35_code 3 (some .int) :: rg_tbl) { frames := 2, cells := 0, slots := 0, locals := 49 } (dC, dI) rg_cl [(cI, .int), (cL, .long)] (rm_W h a cI cL cod (nI n) (nI b) cof mad nu co se li le fi sc ti un ma dr fr to en) [.ref h, .int x, .int y] (rg_QI (dC, dI) rg_cl [(cI, .int), (cL, .long)] (S := rm_S) (rm_Po (1, 0, (n, Rr, P1, P2, T, U, b, cof))) (fun u => rm_Wu h a cI cL u)) 0 0 := by
  refine rg_of prog_8_method_35_code 3 (some .int) (by decide) rfl (Nat.le_of_ble_eq_true rfl) ?_
  intro p e R s m args below meth c Q A H locs ls hR hQ hx hb hml hr hts hown hlk hnm hP hK hD hA hS hl
  have hl : lv_has ls 3 [(0, .ref h), (1, .int x), (2, .int y)] := hl
  have hts : ∀ w ∈ rg_tbl, w.before args s = true := fun w h => hts w (List.mem_cons_of_mem _ h)
  have hok := hrep.1
  have hn1 : 1 ≤ n := hok.1
  have hn60 : n ≤ 60 := hok.2.1
  have hb4 : b < 4 := hok.2.2.2.2.2.2.2.1
  have hTb : T b < n := (hok.2.2.2.2.2.2.1 b hb4).1
  have hti : ti b = nI (T b) := (hrep.2.2.2.2.2.2 b hb4).1
  have hma : ma b = nI (U b).length := (hrep.2.2.2.2.2.2 b hb4).2.1
  refine lv_aload_n hx hb dM_differ_0 rfl (lv_at hl 0 rfl) ?_
  refine lv_aload_n hx hb dM_differ_1 rfl (lv_at hl 0 rfl) ?_
  refine lv_iload_n hx hb dM_differ_2 rfl (lv_at hl 1 rfl) ?_
  refine rg_calli hD hS hA (va_runV (As := [.int x]) (rest := [.ref h]) ⟨hx, hb, hml, hown, hts⟩ (c_rm_isRevision n x _) (cwV 1 hts (rg_gV tw_726 tw_728 ts_M_isRevision tw_5 tw_729) rfl rfl rfl (by decide +kernel) ⟨by rw [hR]; exact Nat.le_of_ble_eq_true rfl, by rw [hR]; exact Nat.le_of_ble_eq_true rfl⟩) (rg_preV rfl hK hP hD (ci := 0) (q0 := 0) rfl rfl) rfl rfl hl.1 rfl (lv_room (Nat.le_of_ble_eq_true rfl)) dM_differ_3 ⟨Nat.zero_le _, Nat.zero_le _⟩) (fun r1 u2 H locs hw3 hP hD hS => ?_)
  subst hw3
  have hP : va_P (dC, dI) rg_cl (rm_W h a cI cL cod (nI n) (nI b) cof mad nu co se li le fi sc ti un ma dr fr to en) H := hP
  have hD : va_D A (rm_W h a cI cL cod (nI n) (nI b) cof mad nu co se li le fi sc ti un ma dr fr to en) := hD
  refine rg_ifz_eq (tgt := 21) hx hb dM_differ_6 (by decide) (fun h4 => absurd (hB.symm.trans h4) (by decide)) (fun h4 => ?_)
  refine lv_aload_n hx hb dM_differ_9 rfl (lv_at hl 0 rfl) ?_
  refine lv_iload_n hx hb dM_differ_10 rfl (lv_at hl 2 rfl) ?_
  refine rg_calli hD hS hA (va_runV (As := [.int y]) (rest := [.ref h]) ⟨hx, hb, hml, hown, hts⟩ (c_rm_isRevision n y _) (cwV 1 hts (rg_gV tw_726 tw_728 ts_M_isRevision tw_5 tw_729) rfl rfl rfl (by decide +kernel) ⟨by rw [hR]; exact Nat.le_of_ble_eq_true rfl, by rw [hR]; exact Nat.le_of_ble_eq_true rfl⟩) (rg_preV rfl hK hP hD (ci := 0) (q0 := 0) rfl rfl) rfl rfl hl.1 rfl (lv_room (Nat.le_of_ble_eq_true rfl)) dM_differ_11 ⟨Nat.zero_le _, Nat.zero_le _⟩) (fun r5 u6 H locs hw7 hP hD hS => ?_)
  subst hw7
  have hP : va_P (dC, dI) rg_cl (rm_W h a cI cL cod (nI n) (nI b) cof mad nu co se li le fi sc ti un ma dr fr to en) H := hP
  have hD : va_D A (rm_W h a cI cL cod (nI n) (nI b) cof mad nu co se li le fi sc ti un ma dr fr to en) := hD
  refine rg_ifz_eq (tgt := 21) hx hb dM_differ_14 (by decide) (fun h8 => ?_) (fun h8 => absurd (hB2.symm.trans h8) (by decide))
  refine lv_iconst (v := nI 1) hx hb dM_differ_21 (by decide) ?_
  refine va_put (D := (dC, dI)) (ci := 0) (v := .int (nI 1)) (ty := .int) (C := "RevisionGroveModel") (T := TM) (N := 19) hx hb hts inM tyM tyM_ok nmM hown hK hP hD hS 0 rfl rfl 0 (by decide) (hts _ tw_601) (fun _ h9 => h9) rfl (by decide +kernel) rfl rfl (Nat.le_of_ble_eq_true rfl) dM_differ_22 (fun H locs hP hD hS => ?_)
  have hP : va_P (dC, dI) rg_cl (rm_W h a cI cL (nI 1) (nI n) (nI b) cof mad nu co se li le fi sc ti un ma dr fr to en) H := hP
  have hD : va_D A (rm_W h a cI cL (nI 1) (nI n) (nI b) cof mad nu co se li le fi sc ti un ma dr fr to en) := hD
  refine lv_aload_n hx hb dM_differ_25 rfl (lv_at hl 0 rfl) ?_
  refine va_get (D := (dC, dI)) (ci := 0) (C := "RevisionGroveModel") (T := TM) (N := 19) hx hb hts inM hown hK hP 0 rfl rfl 0 (by decide) (hts _ tw_601) (fun _ h9 => h9) rfl dM_differ_26 ?_
  refine rg_ifN_ne (tgt := 41) hx hb dM_differ_29 (by decide) (by decide) (fun h9 => ?_) (fun h9 => by exfalso; omega)
  refine lv_iconst (v := nI 0) hx hb dM_differ_41 (by decide) ?_
  rw [hQ]
  exact rg_iret hx hb hr hlk hK hP hD hS dM_differ_42 (nI 1, nI n, nI b, cof, mad, nu, co, se, li, le, fi, sc, ti, un, ma, dr, fr, to, en) rfl (⟨hrep, rfl, rfl⟩)
theorem c_rm_differ {l : Launch} {dC : Nat → ClassId} {dI : Nat → Nat → Nat} {h : Nat} {a : Nat → Nat} {cI cL : ClassId} {cod : Int32} {cof : Int32} {mad : Int32} {nu : Nat → Int32} {co : Nat → Int64} {se : Nat → Int32} {li : Nat → Int32} {le : Nat → Int32} {fi : Nat → Int32} {sc : Nat → Int32} {ti : Nat → Int32} {un : Nat → Int32} {ma : Nat → Int32} {dr : Nat → Int32} {fr : Nat → Int32} {to : Nat → Int32} {en : Nat → Int32} (n b : Nat) (Rr : Nat → rg_R) (P1 P2 : Nat → Int32) (T : Nat → Nat) (U : Nat → List Nat) (x y : Int32) (hrep : rm_Rep (nI n) (nI b) cof nu co se li le fi sc ti un ma (n, Rr, P1, P2, T, U, b, cof)) : rg_M l yM_differ (Cond.code yM_differ prog_8_method_35_code 3 (some .int) :: rg_tbl) { frames := 2, cells := 0, slots := 0, locals := 49 } (dC, dI) rg_cl [(cI, .int), (cL, .long)] (rm_W h a cI cL cod (nI n) (nI b) cof mad nu co se li le fi sc ti un ma dr fr to en) [.ref h, .int x, .int y] (rg_QI (dC, dI) rg_cl [(cI, .int), (cL, .long)] (S := rm_S) (rm_Po (rg_oDif (n, Rr, P1, P2, T, U, b, cof) x y)) (fun u => rm_Wu h a cI cL u)) 0 0 := by
  unfold rg_oDif
  show rg_M _ _ _ _ _ _ _ _ _ (rg_QI _ _ _ (rm_Po (bif rg_isR n x && rg_isR n y then _ else _)) _) _ _
  cases hB : rg_isR n x with
  | false => exact c_rm_differ_bad1 n b Rr P1 P2 T U x y hB hrep
  | true =>
    cases hB2 : rg_isR n y with
    | false => exact c_rm_differ_bad2 n b Rr P1 P2 T U x y hB hB2 hrep
    | true =>
      obtain ⟨i, hi, rfl⟩ := rg_isR_of hB
      obtain ⟨j, hj, rfl⟩ := rg_isR_of hB2
      rw [nI_clamp (Nat.lt_of_lt_of_le hi (Nat.le_trans hrep.1.2.1 (by decide))), nI_clamp (Nat.lt_of_lt_of_le hj (Nat.le_trans hrep.1.2.1 (by decide)))]
      exact c_rm_differ_ok n b Rr P1 P2 T U i j hi hj hrep
set_option maxHeartbeats 4000000 in
set_option maxRecDepth 100000 in
theorem c_rm_value_badx {l : Launch} {dC : Nat → ClassId} {dI : Nat → Nat → Nat} {h : Nat} {a : Nat → Nat} {cI cL : ClassId} {cod : Int32} {cof : Int32} {mad : Int32} {nu : Nat → Int32} {co : Nat → Int64} {se : Nat → Int32} {li : Nat → Int32} {le : Nat → Int32} {fi : Nat → Int32} {sc : Nat → Int32} {ti : Nat → Int32} {un : Nat → Int32} {ma : Nat → Int32} {dr : Nat → Int32} {fr : Nat → Int32} {to : Nat → Int32} {en : Nat → Int32} (n b : Nat) (Rr : Nat → rg_R) (P1 P2 : Nat → Int32) (T : Nat → Nat) (U : Nat → List Nat) (x f i : Int32) (hB : rg_isR n x = false) (hrep : rm_Rep (nI n) (nI b) cof nu co se li le fi sc ti un ma (n, Rr, P1, P2, T, U, b, cof)) : rg_M l yM_value (Cond.code yM_value prog_8_method_34_code 5 (some .long) :: rg_tbl) { frames := 1, cells := 0, slots := 0, locals := 23 } (dC, dI) rg_cl [(cI, .int), (cL, .long)] (rm_W h a cI cL cod (nI n) (nI b) cof mad nu co se li le fi sc ti un ma dr fr to en) [.ref h, .int x, .int f, .int i] (rg_QL (dC, dI) rg_cl [(cI, .int), (cL, .long)] (S := rm_S) (rm_Pl (1, 0) (n, Rr, P1, P2, T, U, b, cof)) (fun u => rm_Wu h a cI cL u)) 0 0 := by
  refine rg_of prog_8_method_34_code 5 (some .long) (by decide) rfl (Nat.le_of_ble_eq_true rfl) ?_
  intro p e R s m args below meth c Q A H locs ls hR hQ hx hb hml hr hts hown hlk hnm hP hK hD hA hS hl
  have hl : lv_has ls 5 [(0, .ref h), (1, .int x), (2, .int f), (3, .int i)] := hl
  have hts : ∀ w ∈ rg_tbl, w.before args s = true := fun w h => hts w (List.mem_cons_of_mem _ h)
  have hok := hrep.1
  have hn1 : 1 ≤ n := hok.1
  have hn60 : n ≤ 60 := hok.2.1
  have hb4 : b < 4 := hok.2.2.2.2.2.2.2.1
  have hTb : T b < n := (hok.2.2.2.2.2.2.1 b hb4).1
  have hti : ti b = nI (T b) := (hrep.2.2.2.2.2.2 b hb4).1
  have hma : ma b = nI (U b).length := (hrep.2.2.2.2.2.2 b hb4).2.1
  refine lv_aload_n hx hb dM_value_0 rfl (lv_at hl 0 rfl) ?_
  refine lv_aload_n hx hb dM_value_1 rfl (lv_at hl 0 rfl) ?_
  refine lv_iload_n hx hb dM_value_2 rfl (lv_at hl 1 rfl) ?_
  refine rg_calli hD hS hA (va_runV (As := [.int x]) (rest := [.ref h]) ⟨hx, hb, hml, hown, hts⟩ (c_rm_isRevision n x _) (cwV 1 hts (rg_gV tw_726 tw_728 ts_M_isRevision tw_5 tw_729) rfl rfl rfl (by decide +kernel) ⟨by rw [hR]; exact Nat.le_of_ble_eq_true rfl, by rw [hR]; exact Nat.le_of_ble_eq_true rfl⟩) (rg_preV rfl hK hP hD (ci := 0) (q0 := 0) rfl rfl) rfl rfl hl.1 rfl (lv_room (Nat.le_of_ble_eq_true rfl)) dM_value_3 ⟨Nat.zero_le _, Nat.zero_le _⟩) (fun r1 u2 H locs hw3 hP hD hS => ?_)
  subst hw3
  have hP : va_P (dC, dI) rg_cl (rm_W h a cI cL cod (nI n) (nI b) cof mad nu co se li le fi sc ti un ma dr fr to en) H := hP
  have hD : va_D A (rm_W h a cI cL cod (nI n) (nI b) cof mad nu co se li le fi sc ti un ma dr fr to en) := hD
  refine rg_ifz_eq (tgt := 19) hx hb dM_value_6 (by decide) (fun h4 => ?_) (fun h4 => absurd (hB.symm.trans h4) (by decide))
  refine lv_iconst (v := nI 1) hx hb dM_value_19 (by decide) ?_
  refine lv_goto (tgt := 24) hx hb dM_value_20 (by decide) ?_
  refine va_put (D := (dC, dI)) (ci := 0) (v := .int (nI 1)) (ty := .int) (C := "RevisionGroveModel") (T := TM) (N := 19) hx hb hts inM tyM tyM_ok nmM hown hK hP hD hS 0 rfl rfl 0 (by decide) (hts _ tw_601) (fun _ h9 => h9) rfl (by decide +kernel) rfl rfl (Nat.le_of_ble_eq_true rfl) dM_value_24 (fun H locs hP hD hS => ?_)
  have hP : va_P (dC, dI) rg_cl (rm_W h a cI cL (nI 1) (nI n) (nI b) cof mad nu co se li le fi sc ti un ma dr fr to en) H := hP
  have hD : va_D A (rm_W h a cI cL (nI 1) (nI n) (nI b) cof mad nu co se li le fi sc ti un ma dr fr to en) := hD
  refine lv_aload_n hx hb dM_value_27 rfl (lv_at hl 0 rfl) ?_
  refine va_get (D := (dC, dI)) (ci := 0) (C := "RevisionGroveModel") (T := TM) (N := 19) hx hb hts inM hown hK hP 0 rfl rfl 0 (by decide) (hts _ tw_601) (fun _ h9 => h9) rfl dM_value_28 ?_
  refine rg_ifN_le (tgt := 36) hx hb dM_value_31 (by decide) (by decide) (fun h5 => by exfalso; omega) (fun h5 => ?_)
  refine lv_lconst (v := 0) hx hb dM_value_34 (by decide) ?_
  rw [hQ]
  exact rg_lret hx hb hr hlk hK hP hD hS dM_value_35 (nI 1, nI n, nI b, cof, mad, nu, co, se, li, le, fi, sc, ti, un, ma, dr, fr, to, en) rfl (⟨hrep, rfl, rfl⟩)
set_option maxHeartbeats 4000000 in
set_option maxRecDepth 100000 in
theorem c_rm_value_badf {l : Launch} {dC : Nat → ClassId} {dI : Nat → Nat → Nat} {h : Nat} {a : Nat → Nat} {cI cL : ClassId} {cod : Int32} {cof : Int32} {mad : Int32} {nu : Nat → Int32} {co : Nat → Int64} {se : Nat → Int32} {li : Nat → Int32} {le : Nat → Int32} {fi : Nat → Int32} {sc : Nat → Int32} {ti : Nat → Int32} {un : Nat → Int32} {ma : Nat → Int32} {dr : Nat → Int32} {fr : Nat → Int32} {to : Nat → Int32} {en : Nat → Int32} (n b : Nat) (Rr : Nat → rg_R) (P1 P2 : Nat → Int32) (T : Nat → Nat) (U : Nat → List Nat) (j : Nat) (hjn : j < n) (f i : Int32) (hf0 : f < 0 ∨ 7 < f) (hrep : rm_Rep (nI n) (nI b) cof nu co se li le fi sc ti un ma (n, Rr, P1, P2, T, U, b, cof)) : rg_M l yM_value (Cond.code yM_value prog_8_method_34_code 5 (some .long) :: rg_tbl) { frames := 1, cells := 0, slots := 0, locals := 23 } (dC, dI) rg_cl [(cI, .int), (cL, .long)] (rm_W h a cI cL cod (nI n) (nI b) cof mad nu co se li le fi sc ti un ma dr fr to en) [.ref h, .int (nI j), .int f, .int i] (rg_QL (dC, dI) rg_cl [(cI, .int), (cL, .long)] (S := rm_S) (rm_Pl (1, 0) (n, Rr, P1, P2, T, U, b, cof)) (fun u => rm_Wu h a cI cL u)) 0 0 := by
  refine rg_of prog_8_method_34_code 5 (some .long) (by decide) rfl (Nat.le_of_ble_eq_true rfl) ?_
  intro p e R s m args below meth c Q A H locs ls hR hQ hx hb hml hr hts hown hlk hnm hP hK hD hA hS hl
  have hl : lv_has ls 5 [(0, .ref h), (1, .int (nI j)), (2, .int f), (3, .int i)] := hl
  have hts : ∀ w ∈ rg_tbl, w.before args s = true := fun w h => hts w (List.mem_cons_of_mem _ h)
  have hok := hrep.1
  have hn1 : 1 ≤ n := hok.1
  have hn60 : n ≤ 60 := hok.2.1
  have hb4 : b < 4 := hok.2.2.2.2.2.2.2.1
  have hTb : T b < n := (hok.2.2.2.2.2.2.1 b hb4).1
  have hti : ti b = nI (T b) := (hrep.2.2.2.2.2.2 b hb4).1
  have hma : ma b = nI (U b).length := (hrep.2.2.2.2.2.2 b hb4).2.1
  have hB := rg_isR_ok (n := n) (by omega) hjn
  refine lv_aload_n hx hb dM_value_0 rfl (lv_at hl 0 rfl) ?_
  refine lv_aload_n hx hb dM_value_1 rfl (lv_at hl 0 rfl) ?_
  refine lv_iload_n hx hb dM_value_2 rfl (lv_at hl 1 rfl) ?_
  refine rg_calli hD hS hA (va_runV (As := [.int (nI j)]) (rest := [.ref h]) ⟨hx, hb, hml, hown, hts⟩ (c_rm_isRevision n (nI j) _) (cwV 1 hts (rg_gV tw_726 tw_728 ts_M_isRevision tw_5 tw_729) rfl rfl rfl (by decide +kernel) ⟨by rw [hR]; exact Nat.le_of_ble_eq_true rfl, by rw [hR]; exact Nat.le_of_ble_eq_true rfl⟩) (rg_preV rfl hK hP hD (ci := 0) (q0 := 0) rfl rfl) rfl rfl hl.1 rfl (lv_room (Nat.le_of_ble_eq_true rfl)) dM_value_3 ⟨Nat.zero_le _, Nat.zero_le _⟩) (fun r1 u2 H locs hw3 hP hD hS => ?_)
  subst hw3
  have hP : va_P (dC, dI) rg_cl (rm_W h a cI cL cod (nI n) (nI b) cof mad nu co se li le fi sc ti un ma dr fr to en) H := hP
  have hD : va_D A (rm_W h a cI cL cod (nI n) (nI b) cof mad nu co se li le fi sc ti un ma dr fr to en) := hD
  refine rg_ifz_eq (tgt := 19) hx hb dM_value_6 (by decide) (fun h4 => absurd (hB.symm.trans h4) (by decide)) (fun h4 => ?_)
  refine lv_iload_n hx hb dM_value_9 rfl (lv_at hl 2 rfl) ?_
  refine lv_if_lt (tgt := 19) hx hb dM_value_10 (by decide) (fun h5 => ?_) (fun h5 => ?_)
  · refine lv_iconst (v := nI 1) hx hb dM_value_19 (by decide) ?_
    refine lv_goto (tgt := 24) hx hb dM_value_20 (by decide) ?_
    refine va_put (D := (dC, dI)) (ci := 0) (v := .int (nI 1)) (ty := .int) (C := "RevisionGroveModel") (T := TM) (N := 19) hx hb hts inM tyM tyM_ok nmM hown hK hP hD hS 0 rfl rfl 0 (by decide) (hts _ tw_601) (fun _ h9 => h9) rfl (by decide +kernel) rfl rfl (Nat.le_of_ble_eq_true rfl) dM_value_24 (fun H locs hP hD hS => ?_)
    have hP : va_P (dC, dI) rg_cl (rm_W h a cI cL (nI 1) (nI n) (nI b) cof mad nu co se li le fi sc ti un ma dr fr to en) H := hP
    have hD : va_D A (rm_W h a cI cL (nI 1) (nI n) (nI b) cof mad nu co se li le fi sc ti un ma dr fr to en) := hD
    refine lv_aload_n hx hb dM_value_27 rfl (lv_at hl 0 rfl) ?_
    refine va_get (D := (dC, dI)) (ci := 0) (C := "RevisionGroveModel") (T := TM) (N := 19) hx hb hts inM hown hK hP 0 rfl rfl 0 (by decide) (hts _ tw_601) (fun _ h9 => h9) rfl dM_value_28 ?_
    refine rg_ifN_le (tgt := 36) hx hb dM_value_31 (by decide) (by decide) (fun h6 => by exfalso; omega) (fun h6 => ?_)
    refine lv_lconst (v := 0) hx hb dM_value_34 (by decide) ?_
    rw [hQ]
    exact rg_lret hx hb hr hlk hK hP hD hS dM_value_35 (nI 1, nI n, nI b, cof, mad, nu, co, se, li, le, fi, sc, ti, un, ma, dr, fr, to, en) rfl (⟨hrep, rfl, rfl⟩)
  · refine lv_iload_n hx hb dM_value_13 rfl (lv_at hl 2 rfl) ?_
    refine lv_bipush (v := nI 7) hx hb dM_value_14 (by decide) ?_
    refine lv_icmp_le (tgt := 23) hx hb dM_value_16 (by decide) (fun h7 => absurd hf0 (fun q => q.elim h5 (fun q => Int32.not_lt.mpr h7 q))) (fun h7 => ?_)
    refine lv_iconst (v := nI 1) hx hb dM_value_19 (by decide) ?_
    refine lv_goto (tgt := 24) hx hb dM_value_20 (by decide) ?_
    refine va_put (D := (dC, dI)) (ci := 0) (v := .int (nI 1)) (ty := .int) (C := "RevisionGroveModel") (T := TM) (N := 19) hx hb hts inM tyM tyM_ok nmM hown hK hP hD hS 0 rfl rfl 0 (by decide) (hts _ tw_601) (fun _ h9 => h9) rfl (by decide +kernel) rfl rfl (Nat.le_of_ble_eq_true rfl) dM_value_24 (fun H locs hP hD hS => ?_)
    have hP : va_P (dC, dI) rg_cl (rm_W h a cI cL (nI 1) (nI n) (nI b) cof mad nu co se li le fi sc ti un ma dr fr to en) H := hP
    have hD : va_D A (rm_W h a cI cL (nI 1) (nI n) (nI b) cof mad nu co se li le fi sc ti un ma dr fr to en) := hD
    refine lv_aload_n hx hb dM_value_27 rfl (lv_at hl 0 rfl) ?_
    refine va_get (D := (dC, dI)) (ci := 0) (C := "RevisionGroveModel") (T := TM) (N := 19) hx hb hts inM hown hK hP 0 rfl rfl 0 (by decide) (hts _ tw_601) (fun _ h9 => h9) rfl dM_value_28 ?_
    refine rg_ifN_le (tgt := 36) hx hb dM_value_31 (by decide) (by decide) (fun h8 => by exfalso; omega) (fun h8 => ?_)
    refine lv_lconst (v := 0) hx hb dM_value_34 (by decide) ?_
    rw [hQ]
    exact rg_lret hx hb hr hlk hK hP hD hS dM_value_35 (nI 1, nI n, nI b, cof, mad, nu, co, se, li, le, fi, sc, ti, un, ma, dr, fr, to, en) rfl (⟨hrep, rfl, rfl⟩)
set_option maxHeartbeats 4000000 in
set_option maxRecDepth 100000 in
theorem c_rm_value_0 {l : Launch} {dC : Nat → ClassId} {dI : Nat → Nat → Nat} {h : Nat} {a : Nat → Nat} {cI cL : ClassId} {cod : Int32} {cof : Int32} {mad : Int32} {nu : Nat → Int32} {co : Nat → Int64} {se : Nat → Int32} {li : Nat → Int32} {le : Nat → Int32} {fi : Nat → Int32} {sc : Nat → Int32} {ti : Nat → Int32} {un : Nat → Int32} {ma : Nat → Int32} {dr : Nat → Int32} {fr : Nat → Int32} {to : Nat → Int32} {en : Nat → Int32} (n b : Nat) (Rr : Nat → rg_R) (P1 P2 : Nat → Int32) (T : Nat → Nat) (U : Nat → List Nat) (j : Nat) (hjn : j < n) (i : Int32) (hrep : rm_Rep (nI n) (nI b) cof nu co se li le fi sc ti un ma (n, Rr, P1, P2, T, U, b, cof)) : rg_M l yM_value (Cond.code yM_value prog_8_method_34_code 5 (some .long) :: rg_tbl) { frames := 1, cells := 0, slots := 0, locals := 23 } (dC, dI) rg_cl [(cI, .int), (cL, .long)] (rm_W h a cI cL cod (nI n) (nI b) cof mad nu co se li le fi sc ti un ma dr fr to en) [.ref h, .int (nI j), .int (nI 0), .int i] (rg_QL (dC, dI) rg_cl [(cI, .int), (cL, .long)] (S := rm_S) (rm_Pl (0, ((Rr j).1 0).toInt64) (n, Rr, P1, P2, T, U, b, cof)) (fun u => rm_Wu h a cI cL u)) 0 0 := by
  refine rg_of prog_8_method_34_code 5 (some .long) (by decide) rfl (Nat.le_of_ble_eq_true rfl) ?_
  intro p e R s m args below meth c Q A H locs ls hR hQ hx hb hml hr hts hown hlk hnm hP hK hD hA hS hl
  have hl : lv_has ls 5 [(0, .ref h), (1, .int (nI j)), (2, .int (nI 0)), (3, .int i)] := hl
  have hts : ∀ w ∈ rg_tbl, w.before args s = true := fun w h => hts w (List.mem_cons_of_mem _ h)
  have hok := hrep.1
  have hn1 : 1 ≤ n := hok.1
  have hn60 : n ≤ 60 := hok.2.1
  have hb4 : b < 4 := hok.2.2.2.2.2.2.2.1
  have hTb : T b < n := (hok.2.2.2.2.2.2.1 b hb4).1
  have hti : ti b = nI (T b) := (hrep.2.2.2.2.2.2 b hb4).1
  have hma : ma b = nI (U b).length := (hrep.2.2.2.2.2.2 b hb4).2.1
  have hB := rg_isR_ok (n := n) (by omega) hjn
  have q0 : nu (2 * j + 0) = (Rr j).1 0 := (hrep.2.2.2.2.1 j hjn 0 (by decide)).1
  refine lv_aload_n hx hb dM_value_0 rfl (lv_at hl 0 rfl) ?_
  refine lv_aload_n hx hb dM_value_1 rfl (lv_at hl 0 rfl) ?_
  refine lv_iload_n hx hb dM_value_2 rfl (lv_at hl 1 rfl) ?_
  refine rg_calli hD hS hA (va_runV (As := [.int (nI j)]) (rest := [.ref h]) ⟨hx, hb, hml, hown, hts⟩ (c_rm_isRevision n (nI j) _) (cwV 1 hts (rg_gV tw_726 tw_728 ts_M_isRevision tw_5 tw_729) rfl rfl rfl (by decide +kernel) ⟨by rw [hR]; exact Nat.le_of_ble_eq_true rfl, by rw [hR]; exact Nat.le_of_ble_eq_true rfl⟩) (rg_preV rfl hK hP hD (ci := 0) (q0 := 0) rfl rfl) rfl rfl hl.1 rfl (lv_room (Nat.le_of_ble_eq_true rfl)) dM_value_3 ⟨Nat.zero_le _, Nat.zero_le _⟩) (fun r1 u2 H locs hw3 hP hD hS => ?_)
  subst hw3
  have hP : va_P (dC, dI) rg_cl (rm_W h a cI cL cod (nI n) (nI b) cof mad nu co se li le fi sc ti un ma dr fr to en) H := hP
  have hD : va_D A (rm_W h a cI cL cod (nI n) (nI b) cof mad nu co se li le fi sc ti un ma dr fr to en) := hD
  refine rg_ifz_eq (tgt := 19) hx hb dM_value_6 (by decide) (fun h4 => absurd (hB.symm.trans h4) (by decide)) (fun h4 => ?_)
  refine lv_iload_n hx hb dM_value_9 rfl (lv_at hl 2 rfl) ?_
  refine rg_ifN_lt (tgt := 19) hx hb dM_value_10 (by decide) (by omega) (fun h5 => h5.elim) (fun h5 => ?_)
  refine lv_iload_n hx hb dM_value_13 rfl (lv_at hl 2 rfl) ?_
  refine lv_bipush (v := nI 7) hx hb dM_value_14 (by decide) ?_
  refine rg_icmp_le (tgt := 23) hx hb dM_value_16 (by decide) (by omega) (by omega) (fun h6 => ?_) (fun h6 => by exfalso; omega)
  refine lv_iconst (v := nI 0) hx hb dM_value_23 (by decide) ?_
  refine va_put (D := (dC, dI)) (ci := 0) (v := .int (nI 0)) (ty := .int) (C := "RevisionGroveModel") (T := TM) (N := 19) hx hb hts inM tyM tyM_ok nmM hown hK hP hD hS 0 rfl rfl 0 (by decide) (hts _ tw_601) (fun _ h9 => h9) rfl (by decide +kernel) rfl rfl (Nat.le_of_ble_eq_true rfl) dM_value_24 (fun H locs hP hD hS => ?_)
  have hP : va_P (dC, dI) rg_cl (rm_W h a cI cL (nI 0) (nI n) (nI b) cof mad nu co se li le fi sc ti un ma dr fr to en) H := hP
  have hD : va_D A (rm_W h a cI cL (nI 0) (nI n) (nI b) cof mad nu co se li le fi sc ti un ma dr fr to en) := hD
  refine lv_aload_n hx hb dM_value_27 rfl (lv_at hl 0 rfl) ?_
  refine va_get (D := (dC, dI)) (ci := 0) (C := "RevisionGroveModel") (T := TM) (N := 19) hx hb hts inM hown hK hP 0 rfl rfl 0 (by decide) (hts _ tw_601) (fun _ h9 => h9) rfl dM_value_28 ?_
  refine rg_ifN_le (tgt := 36) hx hb dM_value_31 (by decide) (by decide) (fun h7 => ?_) (fun h7 => by exfalso; omega)
  refine lv_iconst (v := nI 2) hx hb dM_value_36 (by decide) ?_
  refine lv_iload_n hx hb dM_value_37 rfl (lv_at hl 1 rfl) ?_
  refine rg_imul hx hb dM_value_38 ?_
  refine lv_iload_n hx hb dM_value_39 rfl (lv_at hl 2 rfl) ?_
  refine lv_iconst (v := nI 2) hx hb dM_value_40 (by decide) ?_
  refine lv_irem hx hb dM_value_41 (by decide) ?_
  refine rg_top (show _ = Value.int (nI 0) by decide) ?_
  refine rg_iadd hx hb dM_value_42 ?_
  refine lv_istore (lv' := [(4, .int (nI (2 * j + 0))), (0, .ref h), (1, .int (nI j)), (2, .int (nI 0)), (3, .int i)]) hx hb dM_value_43 hl (by decide) rfl (fun ls hl => ?_)
  refine lv_iload_n hx hb dM_value_45 rfl (lv_at hl 3 rfl) ?_
  refine lv_bipush (v := nI 6) hx hb dM_value_46 (by decide) ?_
  refine rg_icmp_ge (tgt := 95) hx hb dM_value_48 (by decide) (by omega) (by omega) (fun h8 => by exfalso; omega) (fun h8 => ?_)
  refine lv_iload_n hx hb dM_value_51 rfl (lv_at hl 3 rfl) ?_
  refine lv_iconst (v := nI 2) hx hb dM_value_52 (by decide) ?_
  refine rg_icmp_ge (tgt := 67) hx hb dM_value_53 (by decide) (by omega) (by omega) (fun h9 => by exfalso; omega) (fun h9 => ?_)
  refine lv_aload_n hx hb dM_value_56 rfl (lv_at hl 1 rfl) ?_
  refine va_get (D := (dC, dI)) (ci := 0) (C := "RevisionGroveModel") (T := TM) (N := 19) hx hb hts inM hown hK hP 0 rfl rfl 2 (by decide) (hts _ tw_603) (fun _ h9 => h9) rfl dM_value_57 ?_
  refine lv_iload hx hb dM_value_60 (lv_at hl 0 rfl) ?_
  refine rg_iald hx hb hK hP 1 0 rfl rfl (by decide) (by omega) dM_value_62 ?_
  refine rg_top (show (.int (nu (2 * j + 0)) : Value) = .int ((Rr j).1 0) by rw [q0]) ?_
  refine lv_i2l (v := ((Rr j).1 0).toInt64) hx hb dM_value_63 rfl ?_
  refine lv_goto (tgt := 94) hx hb dM_value_64 (by decide) ?_
  rw [hQ]
  exact rg_lret hx hb hr hlk hK hP hD hS dM_value_94 (nI 0, nI n, nI b, cof, mad, nu, co, se, li, le, fi, sc, ti, un, ma, dr, fr, to, en) rfl (⟨hrep, rfl, rfl⟩)
set_option maxHeartbeats 4000000 in
set_option maxRecDepth 100000 in
theorem c_rm_value_1 {l : Launch} {dC : Nat → ClassId} {dI : Nat → Nat → Nat} {h : Nat} {a : Nat → Nat} {cI cL : ClassId} {cod : Int32} {cof : Int32} {mad : Int32} {nu : Nat → Int32} {co : Nat → Int64} {se : Nat → Int32} {li : Nat → Int32} {le : Nat → Int32} {fi : Nat → Int32} {sc : Nat → Int32} {ti : Nat → Int32} {un : Nat → Int32} {ma : Nat → Int32} {dr : Nat → Int32} {fr : Nat → Int32} {to : Nat → Int32} {en : Nat → Int32} (n b : Nat) (Rr : Nat → rg_R) (P1 P2 : Nat → Int32) (T : Nat → Nat) (U : Nat → List Nat) (j : Nat) (hjn : j < n) (i : Int32) (hrep : rm_Rep (nI n) (nI b) cof nu co se li le fi sc ti un ma (n, Rr, P1, P2, T, U, b, cof)) : rg_M l yM_value (Cond.code yM_value prog_8_method_34_code 5 (some .long) :: rg_tbl) { frames := 1, cells := 0, slots := 0, locals := 23 } (dC, dI) rg_cl [(cI, .int), (cL, .long)] (rm_W h a cI cL cod (nI n) (nI b) cof mad nu co se li le fi sc ti un ma dr fr to en) [.ref h, .int (nI j), .int (nI 1), .int i] (rg_QL (dC, dI) rg_cl [(cI, .int), (cL, .long)] (S := rm_S) (rm_Pl (0, ((Rr j).1 1).toInt64) (n, Rr, P1, P2, T, U, b, cof)) (fun u => rm_Wu h a cI cL u)) 0 0 := by
  refine rg_of prog_8_method_34_code 5 (some .long) (by decide) rfl (Nat.le_of_ble_eq_true rfl) ?_
  intro p e R s m args below meth c Q A H locs ls hR hQ hx hb hml hr hts hown hlk hnm hP hK hD hA hS hl
  have hl : lv_has ls 5 [(0, .ref h), (1, .int (nI j)), (2, .int (nI 1)), (3, .int i)] := hl
  have hts : ∀ w ∈ rg_tbl, w.before args s = true := fun w h => hts w (List.mem_cons_of_mem _ h)
  have hok := hrep.1
  have hn1 : 1 ≤ n := hok.1
  have hn60 : n ≤ 60 := hok.2.1
  have hb4 : b < 4 := hok.2.2.2.2.2.2.2.1
  have hTb : T b < n := (hok.2.2.2.2.2.2.1 b hb4).1
  have hti : ti b = nI (T b) := (hrep.2.2.2.2.2.2 b hb4).1
  have hma : ma b = nI (U b).length := (hrep.2.2.2.2.2.2 b hb4).2.1
  have hB := rg_isR_ok (n := n) (by omega) hjn
  have q0 : nu (2 * j + 1) = (Rr j).1 1 := (hrep.2.2.2.2.1 j hjn 1 (by decide)).1
  refine lv_aload_n hx hb dM_value_0 rfl (lv_at hl 0 rfl) ?_
  refine lv_aload_n hx hb dM_value_1 rfl (lv_at hl 0 rfl) ?_
  refine lv_iload_n hx hb dM_value_2 rfl (lv_at hl 1 rfl) ?_
  refine rg_calli hD hS hA (va_runV (As := [.int (nI j)]) (rest := [.ref h]) ⟨hx, hb, hml, hown, hts⟩ (c_rm_isRevision n (nI j) _) (cwV 1 hts (rg_gV tw_726 tw_728 ts_M_isRevision tw_5 tw_729) rfl rfl rfl (by decide +kernel) ⟨by rw [hR]; exact Nat.le_of_ble_eq_true rfl, by rw [hR]; exact Nat.le_of_ble_eq_true rfl⟩) (rg_preV rfl hK hP hD (ci := 0) (q0 := 0) rfl rfl) rfl rfl hl.1 rfl (lv_room (Nat.le_of_ble_eq_true rfl)) dM_value_3 ⟨Nat.zero_le _, Nat.zero_le _⟩) (fun r1 u2 H locs hw3 hP hD hS => ?_)
  subst hw3
  have hP : va_P (dC, dI) rg_cl (rm_W h a cI cL cod (nI n) (nI b) cof mad nu co se li le fi sc ti un ma dr fr to en) H := hP
  have hD : va_D A (rm_W h a cI cL cod (nI n) (nI b) cof mad nu co se li le fi sc ti un ma dr fr to en) := hD
  refine rg_ifz_eq (tgt := 19) hx hb dM_value_6 (by decide) (fun h4 => absurd (hB.symm.trans h4) (by decide)) (fun h4 => ?_)
  refine lv_iload_n hx hb dM_value_9 rfl (lv_at hl 2 rfl) ?_
  refine rg_ifN_lt (tgt := 19) hx hb dM_value_10 (by decide) (by omega) (fun h5 => h5.elim) (fun h5 => ?_)
  refine lv_iload_n hx hb dM_value_13 rfl (lv_at hl 2 rfl) ?_
  refine lv_bipush (v := nI 7) hx hb dM_value_14 (by decide) ?_
  refine rg_icmp_le (tgt := 23) hx hb dM_value_16 (by decide) (by omega) (by omega) (fun h6 => ?_) (fun h6 => by exfalso; omega)
  refine lv_iconst (v := nI 0) hx hb dM_value_23 (by decide) ?_
  refine va_put (D := (dC, dI)) (ci := 0) (v := .int (nI 0)) (ty := .int) (C := "RevisionGroveModel") (T := TM) (N := 19) hx hb hts inM tyM tyM_ok nmM hown hK hP hD hS 0 rfl rfl 0 (by decide) (hts _ tw_601) (fun _ h9 => h9) rfl (by decide +kernel) rfl rfl (Nat.le_of_ble_eq_true rfl) dM_value_24 (fun H locs hP hD hS => ?_)
  have hP : va_P (dC, dI) rg_cl (rm_W h a cI cL (nI 0) (nI n) (nI b) cof mad nu co se li le fi sc ti un ma dr fr to en) H := hP
  have hD : va_D A (rm_W h a cI cL (nI 0) (nI n) (nI b) cof mad nu co se li le fi sc ti un ma dr fr to en) := hD
  refine lv_aload_n hx hb dM_value_27 rfl (lv_at hl 0 rfl) ?_
  refine va_get (D := (dC, dI)) (ci := 0) (C := "RevisionGroveModel") (T := TM) (N := 19) hx hb hts inM hown hK hP 0 rfl rfl 0 (by decide) (hts _ tw_601) (fun _ h9 => h9) rfl dM_value_28 ?_
  refine rg_ifN_le (tgt := 36) hx hb dM_value_31 (by decide) (by decide) (fun h7 => ?_) (fun h7 => by exfalso; omega)
  refine lv_iconst (v := nI 2) hx hb dM_value_36 (by decide) ?_
  refine lv_iload_n hx hb dM_value_37 rfl (lv_at hl 1 rfl) ?_
  refine rg_imul hx hb dM_value_38 ?_
  refine lv_iload_n hx hb dM_value_39 rfl (lv_at hl 2 rfl) ?_
  refine lv_iconst (v := nI 2) hx hb dM_value_40 (by decide) ?_
  refine lv_irem hx hb dM_value_41 (by decide) ?_
  refine rg_top (show _ = Value.int (nI 1) by decide) ?_
  refine rg_iadd hx hb dM_value_42 ?_
  refine lv_istore (lv' := [(4, .int (nI (2 * j + 1))), (0, .ref h), (1, .int (nI j)), (2, .int (nI 1)), (3, .int i)]) hx hb dM_value_43 hl (by decide) rfl (fun ls hl => ?_)
  refine lv_iload_n hx hb dM_value_45 rfl (lv_at hl 3 rfl) ?_
  refine lv_bipush (v := nI 6) hx hb dM_value_46 (by decide) ?_
  refine rg_icmp_ge (tgt := 95) hx hb dM_value_48 (by decide) (by omega) (by omega) (fun h8 => by exfalso; omega) (fun h8 => ?_)
  refine lv_iload_n hx hb dM_value_51 rfl (lv_at hl 3 rfl) ?_
  refine lv_iconst (v := nI 2) hx hb dM_value_52 (by decide) ?_
  refine rg_icmp_ge (tgt := 67) hx hb dM_value_53 (by decide) (by omega) (by omega) (fun h9 => by exfalso; omega) (fun h9 => ?_)
  refine lv_aload_n hx hb dM_value_56 rfl (lv_at hl 1 rfl) ?_
  refine va_get (D := (dC, dI)) (ci := 0) (C := "RevisionGroveModel") (T := TM) (N := 19) hx hb hts inM hown hK hP 0 rfl rfl 2 (by decide) (hts _ tw_603) (fun _ h9 => h9) rfl dM_value_57 ?_
  refine lv_iload hx hb dM_value_60 (lv_at hl 0 rfl) ?_
  refine rg_iald hx hb hK hP 1 0 rfl rfl (by decide) (by omega) dM_value_62 ?_
  refine rg_top (show (.int (nu (2 * j + 1)) : Value) = .int ((Rr j).1 1) by rw [q0]) ?_
  refine lv_i2l (v := ((Rr j).1 1).toInt64) hx hb dM_value_63 rfl ?_
  refine lv_goto (tgt := 94) hx hb dM_value_64 (by decide) ?_
  rw [hQ]
  exact rg_lret hx hb hr hlk hK hP hD hS dM_value_94 (nI 0, nI n, nI b, cof, mad, nu, co, se, li, le, fi, sc, ti, un, ma, dr, fr, to, en) rfl (⟨hrep, rfl, rfl⟩)
set_option maxHeartbeats 4000000 in
set_option maxRecDepth 100000 in
theorem c_rm_value_2 {l : Launch} {dC : Nat → ClassId} {dI : Nat → Nat → Nat} {h : Nat} {a : Nat → Nat} {cI cL : ClassId} {cod : Int32} {cof : Int32} {mad : Int32} {nu : Nat → Int32} {co : Nat → Int64} {se : Nat → Int32} {li : Nat → Int32} {le : Nat → Int32} {fi : Nat → Int32} {sc : Nat → Int32} {ti : Nat → Int32} {un : Nat → Int32} {ma : Nat → Int32} {dr : Nat → Int32} {fr : Nat → Int32} {to : Nat → Int32} {en : Nat → Int32} (n b : Nat) (Rr : Nat → rg_R) (P1 P2 : Nat → Int32) (T : Nat → Nat) (U : Nat → List Nat) (j : Nat) (hjn : j < n) (i : Int32) (hrep : rm_Rep (nI n) (nI b) cof nu co se li le fi sc ti un ma (n, Rr, P1, P2, T, U, b, cof)) : rg_M l yM_value (Cond.code yM_value prog_8_method_34_code 5 (some .long) :: rg_tbl) { frames := 1, cells := 0, slots := 0, locals := 23 } (dC, dI) rg_cl [(cI, .int), (cL, .long)] (rm_W h a cI cL cod (nI n) (nI b) cof mad nu co se li le fi sc ti un ma dr fr to en) [.ref h, .int (nI j), .int (nI 2), .int i] (rg_QL (dC, dI) rg_cl [(cI, .int), (cL, .long)] (S := rm_S) (rm_Pl (0, (Rr j).2.1 0) (n, Rr, P1, P2, T, U, b, cof)) (fun u => rm_Wu h a cI cL u)) 0 0 := by
  refine rg_of prog_8_method_34_code 5 (some .long) (by decide) rfl (Nat.le_of_ble_eq_true rfl) ?_
  intro p e R s m args below meth c Q A H locs ls hR hQ hx hb hml hr hts hown hlk hnm hP hK hD hA hS hl
  have hl : lv_has ls 5 [(0, .ref h), (1, .int (nI j)), (2, .int (nI 2)), (3, .int i)] := hl
  have hts : ∀ w ∈ rg_tbl, w.before args s = true := fun w h => hts w (List.mem_cons_of_mem _ h)
  have hok := hrep.1
  have hn1 : 1 ≤ n := hok.1
  have hn60 : n ≤ 60 := hok.2.1
  have hb4 : b < 4 := hok.2.2.2.2.2.2.2.1
  have hTb : T b < n := (hok.2.2.2.2.2.2.1 b hb4).1
  have hti : ti b = nI (T b) := (hrep.2.2.2.2.2.2 b hb4).1
  have hma : ma b = nI (U b).length := (hrep.2.2.2.2.2.2 b hb4).2.1
  have hB := rg_isR_ok (n := n) (by omega) hjn
  have q0 : co (2 * j + 0) = (Rr j).2.1 0 := (hrep.2.2.2.2.1 j hjn 0 (by decide)).2.1
  refine lv_aload_n hx hb dM_value_0 rfl (lv_at hl 0 rfl) ?_
  refine lv_aload_n hx hb dM_value_1 rfl (lv_at hl 0 rfl) ?_
  refine lv_iload_n hx hb dM_value_2 rfl (lv_at hl 1 rfl) ?_
  refine rg_calli hD hS hA (va_runV (As := [.int (nI j)]) (rest := [.ref h]) ⟨hx, hb, hml, hown, hts⟩ (c_rm_isRevision n (nI j) _) (cwV 1 hts (rg_gV tw_726 tw_728 ts_M_isRevision tw_5 tw_729) rfl rfl rfl (by decide +kernel) ⟨by rw [hR]; exact Nat.le_of_ble_eq_true rfl, by rw [hR]; exact Nat.le_of_ble_eq_true rfl⟩) (rg_preV rfl hK hP hD (ci := 0) (q0 := 0) rfl rfl) rfl rfl hl.1 rfl (lv_room (Nat.le_of_ble_eq_true rfl)) dM_value_3 ⟨Nat.zero_le _, Nat.zero_le _⟩) (fun r1 u2 H locs hw3 hP hD hS => ?_)
  subst hw3
  have hP : va_P (dC, dI) rg_cl (rm_W h a cI cL cod (nI n) (nI b) cof mad nu co se li le fi sc ti un ma dr fr to en) H := hP
  have hD : va_D A (rm_W h a cI cL cod (nI n) (nI b) cof mad nu co se li le fi sc ti un ma dr fr to en) := hD
  refine rg_ifz_eq (tgt := 19) hx hb dM_value_6 (by decide) (fun h4 => absurd (hB.symm.trans h4) (by decide)) (fun h4 => ?_)
  refine lv_iload_n hx hb dM_value_9 rfl (lv_at hl 2 rfl) ?_
  refine rg_ifN_lt (tgt := 19) hx hb dM_value_10 (by decide) (by omega) (fun h5 => h5.elim) (fun h5 => ?_)
  refine lv_iload_n hx hb dM_value_13 rfl (lv_at hl 2 rfl) ?_
  refine lv_bipush (v := nI 7) hx hb dM_value_14 (by decide) ?_
  refine rg_icmp_le (tgt := 23) hx hb dM_value_16 (by decide) (by omega) (by omega) (fun h6 => ?_) (fun h6 => by exfalso; omega)
  refine lv_iconst (v := nI 0) hx hb dM_value_23 (by decide) ?_
  refine va_put (D := (dC, dI)) (ci := 0) (v := .int (nI 0)) (ty := .int) (C := "RevisionGroveModel") (T := TM) (N := 19) hx hb hts inM tyM tyM_ok nmM hown hK hP hD hS 0 rfl rfl 0 (by decide) (hts _ tw_601) (fun _ h9 => h9) rfl (by decide +kernel) rfl rfl (Nat.le_of_ble_eq_true rfl) dM_value_24 (fun H locs hP hD hS => ?_)
  have hP : va_P (dC, dI) rg_cl (rm_W h a cI cL (nI 0) (nI n) (nI b) cof mad nu co se li le fi sc ti un ma dr fr to en) H := hP
  have hD : va_D A (rm_W h a cI cL (nI 0) (nI n) (nI b) cof mad nu co se li le fi sc ti un ma dr fr to en) := hD
  refine lv_aload_n hx hb dM_value_27 rfl (lv_at hl 0 rfl) ?_
  refine va_get (D := (dC, dI)) (ci := 0) (C := "RevisionGroveModel") (T := TM) (N := 19) hx hb hts inM hown hK hP 0 rfl rfl 0 (by decide) (hts _ tw_601) (fun _ h9 => h9) rfl dM_value_28 ?_
  refine rg_ifN_le (tgt := 36) hx hb dM_value_31 (by decide) (by decide) (fun h7 => ?_) (fun h7 => by exfalso; omega)
  refine lv_iconst (v := nI 2) hx hb dM_value_36 (by decide) ?_
  refine lv_iload_n hx hb dM_value_37 rfl (lv_at hl 1 rfl) ?_
  refine rg_imul hx hb dM_value_38 ?_
  refine lv_iload_n hx hb dM_value_39 rfl (lv_at hl 2 rfl) ?_
  refine lv_iconst (v := nI 2) hx hb dM_value_40 (by decide) ?_
  refine lv_irem hx hb dM_value_41 (by decide) ?_
  refine rg_top (show _ = Value.int (nI 0) by decide) ?_
  refine rg_iadd hx hb dM_value_42 ?_
  refine lv_istore (lv' := [(4, .int (nI (2 * j + 0))), (0, .ref h), (1, .int (nI j)), (2, .int (nI 2)), (3, .int i)]) hx hb dM_value_43 hl (by decide) rfl (fun ls hl => ?_)
  refine lv_iload_n hx hb dM_value_45 rfl (lv_at hl 3 rfl) ?_
  refine lv_bipush (v := nI 6) hx hb dM_value_46 (by decide) ?_
  refine rg_icmp_ge (tgt := 95) hx hb dM_value_48 (by decide) (by omega) (by omega) (fun h8 => by exfalso; omega) (fun h8 => ?_)
  refine lv_iload_n hx hb dM_value_51 rfl (lv_at hl 3 rfl) ?_
  refine lv_iconst (v := nI 2) hx hb dM_value_52 (by decide) ?_
  refine rg_icmp_ge (tgt := 67) hx hb dM_value_53 (by decide) (by omega) (by omega) (fun h9 => ?_) (fun h9 => by exfalso; omega)
  refine lv_iload_n hx hb dM_value_67 rfl (lv_at hl 3 rfl) ?_
  refine lv_iconst (v := nI 4) hx hb dM_value_68 (by decide) ?_
  refine rg_icmp_ge (tgt := 82) hx hb dM_value_69 (by decide) (by omega) (by omega) (fun h10 => by exfalso; omega) (fun h10 => ?_)
  refine lv_aload_n hx hb dM_value_72 rfl (lv_at hl 1 rfl) ?_
  refine va_get (D := (dC, dI)) (ci := 0) (C := "RevisionGroveModel") (T := TM) (N := 19) hx hb hts inM hown hK hP 0 rfl rfl 3 (by decide) (hts _ tw_604) (fun _ h9 => h9) rfl dM_value_73 ?_
  refine lv_iload hx hb dM_value_76 (lv_at hl 0 rfl) ?_
  refine rg_lald hx hb hK hP 2 1 rfl rfl (by decide) (by omega) dM_value_78 ?_
  refine rg_top (show (.long (co (2 * j + 0)) : Value) = .long ((Rr j).2.1 0) by rw [q0]) ?_
  refine lv_goto (tgt := 94) hx hb dM_value_79 (by decide) ?_
  rw [hQ]
  exact rg_lret hx hb hr hlk hK hP hD hS dM_value_94 (nI 0, nI n, nI b, cof, mad, nu, co, se, li, le, fi, sc, ti, un, ma, dr, fr, to, en) rfl (⟨hrep, rfl, rfl⟩)
set_option maxHeartbeats 4000000 in
set_option maxRecDepth 100000 in
theorem c_rm_value_3 {l : Launch} {dC : Nat → ClassId} {dI : Nat → Nat → Nat} {h : Nat} {a : Nat → Nat} {cI cL : ClassId} {cod : Int32} {cof : Int32} {mad : Int32} {nu : Nat → Int32} {co : Nat → Int64} {se : Nat → Int32} {li : Nat → Int32} {le : Nat → Int32} {fi : Nat → Int32} {sc : Nat → Int32} {ti : Nat → Int32} {un : Nat → Int32} {ma : Nat → Int32} {dr : Nat → Int32} {fr : Nat → Int32} {to : Nat → Int32} {en : Nat → Int32} (n b : Nat) (Rr : Nat → rg_R) (P1 P2 : Nat → Int32) (T : Nat → Nat) (U : Nat → List Nat) (j : Nat) (hjn : j < n) (i : Int32) (hrep : rm_Rep (nI n) (nI b) cof nu co se li le fi sc ti un ma (n, Rr, P1, P2, T, U, b, cof)) : rg_M l yM_value (Cond.code yM_value prog_8_method_34_code 5 (some .long) :: rg_tbl) { frames := 1, cells := 0, slots := 0, locals := 23 } (dC, dI) rg_cl [(cI, .int), (cL, .long)] (rm_W h a cI cL cod (nI n) (nI b) cof mad nu co se li le fi sc ti un ma dr fr to en) [.ref h, .int (nI j), .int (nI 3), .int i] (rg_QL (dC, dI) rg_cl [(cI, .int), (cL, .long)] (S := rm_S) (rm_Pl (0, (Rr j).2.1 1) (n, Rr, P1, P2, T, U, b, cof)) (fun u => rm_Wu h a cI cL u)) 0 0 := by
  refine rg_of prog_8_method_34_code 5 (some .long) (by decide) rfl (Nat.le_of_ble_eq_true rfl) ?_
  intro p e R s m args below meth c Q A H locs ls hR hQ hx hb hml hr hts hown hlk hnm hP hK hD hA hS hl
  have hl : lv_has ls 5 [(0, .ref h), (1, .int (nI j)), (2, .int (nI 3)), (3, .int i)] := hl
  have hts : ∀ w ∈ rg_tbl, w.before args s = true := fun w h => hts w (List.mem_cons_of_mem _ h)
  have hok := hrep.1
  have hn1 : 1 ≤ n := hok.1
  have hn60 : n ≤ 60 := hok.2.1
  have hb4 : b < 4 := hok.2.2.2.2.2.2.2.1
  have hTb : T b < n := (hok.2.2.2.2.2.2.1 b hb4).1
  have hti : ti b = nI (T b) := (hrep.2.2.2.2.2.2 b hb4).1
  have hma : ma b = nI (U b).length := (hrep.2.2.2.2.2.2 b hb4).2.1
  have hB := rg_isR_ok (n := n) (by omega) hjn
  have q0 : co (2 * j + 1) = (Rr j).2.1 1 := (hrep.2.2.2.2.1 j hjn 1 (by decide)).2.1
  refine lv_aload_n hx hb dM_value_0 rfl (lv_at hl 0 rfl) ?_
  refine lv_aload_n hx hb dM_value_1 rfl (lv_at hl 0 rfl) ?_
  refine lv_iload_n hx hb dM_value_2 rfl (lv_at hl 1 rfl) ?_
  refine rg_calli hD hS hA (va_runV (As := [.int (nI j)]) (rest := [.ref h]) ⟨hx, hb, hml, hown, hts⟩ (c_rm_isRevision n (nI j) _) (cwV 1 hts (rg_gV tw_726 tw_728 ts_M_isRevision tw_5 tw_729) rfl rfl rfl (by decide +kernel) ⟨by rw [hR]; exact Nat.le_of_ble_eq_true rfl, by rw [hR]; exact Nat.le_of_ble_eq_true rfl⟩) (rg_preV rfl hK hP hD (ci := 0) (q0 := 0) rfl rfl) rfl rfl hl.1 rfl (lv_room (Nat.le_of_ble_eq_true rfl)) dM_value_3 ⟨Nat.zero_le _, Nat.zero_le _⟩) (fun r1 u2 H locs hw3 hP hD hS => ?_)
  subst hw3
  have hP : va_P (dC, dI) rg_cl (rm_W h a cI cL cod (nI n) (nI b) cof mad nu co se li le fi sc ti un ma dr fr to en) H := hP
  have hD : va_D A (rm_W h a cI cL cod (nI n) (nI b) cof mad nu co se li le fi sc ti un ma dr fr to en) := hD
  refine rg_ifz_eq (tgt := 19) hx hb dM_value_6 (by decide) (fun h4 => absurd (hB.symm.trans h4) (by decide)) (fun h4 => ?_)
  refine lv_iload_n hx hb dM_value_9 rfl (lv_at hl 2 rfl) ?_
  refine rg_ifN_lt (tgt := 19) hx hb dM_value_10 (by decide) (by omega) (fun h5 => h5.elim) (fun h5 => ?_)
  refine lv_iload_n hx hb dM_value_13 rfl (lv_at hl 2 rfl) ?_
  refine lv_bipush (v := nI 7) hx hb dM_value_14 (by decide) ?_
  refine rg_icmp_le (tgt := 23) hx hb dM_value_16 (by decide) (by omega) (by omega) (fun h6 => ?_) (fun h6 => by exfalso; omega)
  refine lv_iconst (v := nI 0) hx hb dM_value_23 (by decide) ?_
  refine va_put (D := (dC, dI)) (ci := 0) (v := .int (nI 0)) (ty := .int) (C := "RevisionGroveModel") (T := TM) (N := 19) hx hb hts inM tyM tyM_ok nmM hown hK hP hD hS 0 rfl rfl 0 (by decide) (hts _ tw_601) (fun _ h9 => h9) rfl (by decide +kernel) rfl rfl (Nat.le_of_ble_eq_true rfl) dM_value_24 (fun H locs hP hD hS => ?_)
  have hP : va_P (dC, dI) rg_cl (rm_W h a cI cL (nI 0) (nI n) (nI b) cof mad nu co se li le fi sc ti un ma dr fr to en) H := hP
  have hD : va_D A (rm_W h a cI cL (nI 0) (nI n) (nI b) cof mad nu co se li le fi sc ti un ma dr fr to en) := hD
  refine lv_aload_n hx hb dM_value_27 rfl (lv_at hl 0 rfl) ?_
  refine va_get (D := (dC, dI)) (ci := 0) (C := "RevisionGroveModel") (T := TM) (N := 19) hx hb hts inM hown hK hP 0 rfl rfl 0 (by decide) (hts _ tw_601) (fun _ h9 => h9) rfl dM_value_28 ?_
  refine rg_ifN_le (tgt := 36) hx hb dM_value_31 (by decide) (by decide) (fun h7 => ?_) (fun h7 => by exfalso; omega)
  refine lv_iconst (v := nI 2) hx hb dM_value_36 (by decide) ?_
  refine lv_iload_n hx hb dM_value_37 rfl (lv_at hl 1 rfl) ?_
  refine rg_imul hx hb dM_value_38 ?_
  refine lv_iload_n hx hb dM_value_39 rfl (lv_at hl 2 rfl) ?_
  refine lv_iconst (v := nI 2) hx hb dM_value_40 (by decide) ?_
  refine lv_irem hx hb dM_value_41 (by decide) ?_
  refine rg_top (show _ = Value.int (nI 1) by decide) ?_
  refine rg_iadd hx hb dM_value_42 ?_
  refine lv_istore (lv' := [(4, .int (nI (2 * j + 1))), (0, .ref h), (1, .int (nI j)), (2, .int (nI 3)), (3, .int i)]) hx hb dM_value_43 hl (by decide) rfl (fun ls hl => ?_)
  refine lv_iload_n hx hb dM_value_45 rfl (lv_at hl 3 rfl) ?_
  refine lv_bipush (v := nI 6) hx hb dM_value_46 (by decide) ?_
  refine rg_icmp_ge (tgt := 95) hx hb dM_value_48 (by decide) (by omega) (by omega) (fun h8 => by exfalso; omega) (fun h8 => ?_)
  refine lv_iload_n hx hb dM_value_51 rfl (lv_at hl 3 rfl) ?_
  refine lv_iconst (v := nI 2) hx hb dM_value_52 (by decide) ?_
  refine rg_icmp_ge (tgt := 67) hx hb dM_value_53 (by decide) (by omega) (by omega) (fun h9 => ?_) (fun h9 => by exfalso; omega)
  refine lv_iload_n hx hb dM_value_67 rfl (lv_at hl 3 rfl) ?_
  refine lv_iconst (v := nI 4) hx hb dM_value_68 (by decide) ?_
  refine rg_icmp_ge (tgt := 82) hx hb dM_value_69 (by decide) (by omega) (by omega) (fun h10 => by exfalso; omega) (fun h10 => ?_)
  refine lv_aload_n hx hb dM_value_72 rfl (lv_at hl 1 rfl) ?_
  refine va_get (D := (dC, dI)) (ci := 0) (C := "RevisionGroveModel") (T := TM) (N := 19) hx hb hts inM hown hK hP 0 rfl rfl 3 (by decide) (hts _ tw_604) (fun _ h9 => h9) rfl dM_value_73 ?_
  refine lv_iload hx hb dM_value_76 (lv_at hl 0 rfl) ?_
  refine rg_lald hx hb hK hP 2 1 rfl rfl (by decide) (by omega) dM_value_78 ?_
  refine rg_top (show (.long (co (2 * j + 1)) : Value) = .long ((Rr j).2.1 1) by rw [q0]) ?_
  refine lv_goto (tgt := 94) hx hb dM_value_79 (by decide) ?_
  rw [hQ]
  exact rg_lret hx hb hr hlk hK hP hD hS dM_value_94 (nI 0, nI n, nI b, cof, mad, nu, co, se, li, le, fi, sc, ti, un, ma, dr, fr, to, en) rfl (⟨hrep, rfl, rfl⟩)
set_option maxHeartbeats 4000000 in
set_option maxRecDepth 100000 in
theorem c_rm_value_4 {l : Launch} {dC : Nat → ClassId} {dI : Nat → Nat → Nat} {h : Nat} {a : Nat → Nat} {cI cL : ClassId} {cod : Int32} {cof : Int32} {mad : Int32} {nu : Nat → Int32} {co : Nat → Int64} {se : Nat → Int32} {li : Nat → Int32} {le : Nat → Int32} {fi : Nat → Int32} {sc : Nat → Int32} {ti : Nat → Int32} {un : Nat → Int32} {ma : Nat → Int32} {dr : Nat → Int32} {fr : Nat → Int32} {to : Nat → Int32} {en : Nat → Int32} (n b : Nat) (Rr : Nat → rg_R) (P1 P2 : Nat → Int32) (T : Nat → Nat) (U : Nat → List Nat) (j : Nat) (hjn : j < n) (i : Int32) (hrep : rm_Rep (nI n) (nI b) cof nu co se li le fi sc ti un ma (n, Rr, P1, P2, T, U, b, cof)) : rg_M l yM_value (Cond.code yM_value prog_8_method_34_code 5 (some .long) :: rg_tbl) { frames := 1, cells := 0, slots := 0, locals := 23 } (dC, dI) rg_cl [(cI, .int), (cL, .long)] (rm_W h a cI cL cod (nI n) (nI b) cof mad nu co se li le fi sc ti un ma dr fr to en) [.ref h, .int (nI j), .int (nI 4), .int i] (rg_QL (dC, dI) rg_cl [(cI, .int), (cL, .long)] (S := rm_S) (rm_Pl (0, ((Rr j).2.2.1 0).toInt64 &&& 4294967295) (n, Rr, P1, P2, T, U, b, cof)) (fun u => rm_Wu h a cI cL u)) 0 0 := by
  refine rg_of prog_8_method_34_code 5 (some .long) (by decide) rfl (Nat.le_of_ble_eq_true rfl) ?_
  intro p e R s m args below meth c Q A H locs ls hR hQ hx hb hml hr hts hown hlk hnm hP hK hD hA hS hl
  have hl : lv_has ls 5 [(0, .ref h), (1, .int (nI j)), (2, .int (nI 4)), (3, .int i)] := hl
  have hts : ∀ w ∈ rg_tbl, w.before args s = true := fun w h => hts w (List.mem_cons_of_mem _ h)
  have hok := hrep.1
  have hn1 : 1 ≤ n := hok.1
  have hn60 : n ≤ 60 := hok.2.1
  have hb4 : b < 4 := hok.2.2.2.2.2.2.2.1
  have hTb : T b < n := (hok.2.2.2.2.2.2.1 b hb4).1
  have hti : ti b = nI (T b) := (hrep.2.2.2.2.2.2 b hb4).1
  have hma : ma b = nI (U b).length := (hrep.2.2.2.2.2.2 b hb4).2.1
  have hB := rg_isR_ok (n := n) (by omega) hjn
  have q0 : se (2 * j + 0) = (Rr j).2.2.1 0 := (hrep.2.2.2.2.1 j hjn 0 (by decide)).2.2.1
  refine lv_aload_n hx hb dM_value_0 rfl (lv_at hl 0 rfl) ?_
  refine lv_aload_n hx hb dM_value_1 rfl (lv_at hl 0 rfl) ?_
  refine lv_iload_n hx hb dM_value_2 rfl (lv_at hl 1 rfl) ?_
  refine rg_calli hD hS hA (va_runV (As := [.int (nI j)]) (rest := [.ref h]) ⟨hx, hb, hml, hown, hts⟩ (c_rm_isRevision n (nI j) _) (cwV 1 hts (rg_gV tw_726 tw_728 ts_M_isRevision tw_5 tw_729) rfl rfl rfl (by decide +kernel) ⟨by rw [hR]; exact Nat.le_of_ble_eq_true rfl, by rw [hR]; exact Nat.le_of_ble_eq_true rfl⟩) (rg_preV rfl hK hP hD (ci := 0) (q0 := 0) rfl rfl) rfl rfl hl.1 rfl (lv_room (Nat.le_of_ble_eq_true rfl)) dM_value_3 ⟨Nat.zero_le _, Nat.zero_le _⟩) (fun r1 u2 H locs hw3 hP hD hS => ?_)
  subst hw3
  have hP : va_P (dC, dI) rg_cl (rm_W h a cI cL cod (nI n) (nI b) cof mad nu co se li le fi sc ti un ma dr fr to en) H := hP
  have hD : va_D A (rm_W h a cI cL cod (nI n) (nI b) cof mad nu co se li le fi sc ti un ma dr fr to en) := hD
  refine rg_ifz_eq (tgt := 19) hx hb dM_value_6 (by decide) (fun h4 => absurd (hB.symm.trans h4) (by decide)) (fun h4 => ?_)
  refine lv_iload_n hx hb dM_value_9 rfl (lv_at hl 2 rfl) ?_
  refine rg_ifN_lt (tgt := 19) hx hb dM_value_10 (by decide) (by omega) (fun h5 => h5.elim) (fun h5 => ?_)
  refine lv_iload_n hx hb dM_value_13 rfl (lv_at hl 2 rfl) ?_
  refine lv_bipush (v := nI 7) hx hb dM_value_14 (by decide) ?_
  refine rg_icmp_le (tgt := 23) hx hb dM_value_16 (by decide) (by omega) (by omega) (fun h6 => ?_) (fun h6 => by exfalso; omega)
  refine lv_iconst (v := nI 0) hx hb dM_value_23 (by decide) ?_
  refine va_put (D := (dC, dI)) (ci := 0) (v := .int (nI 0)) (ty := .int) (C := "RevisionGroveModel") (T := TM) (N := 19) hx hb hts inM tyM tyM_ok nmM hown hK hP hD hS 0 rfl rfl 0 (by decide) (hts _ tw_601) (fun _ h9 => h9) rfl (by decide +kernel) rfl rfl (Nat.le_of_ble_eq_true rfl) dM_value_24 (fun H locs hP hD hS => ?_)
  have hP : va_P (dC, dI) rg_cl (rm_W h a cI cL (nI 0) (nI n) (nI b) cof mad nu co se li le fi sc ti un ma dr fr to en) H := hP
  have hD : va_D A (rm_W h a cI cL (nI 0) (nI n) (nI b) cof mad nu co se li le fi sc ti un ma dr fr to en) := hD
  refine lv_aload_n hx hb dM_value_27 rfl (lv_at hl 0 rfl) ?_
  refine va_get (D := (dC, dI)) (ci := 0) (C := "RevisionGroveModel") (T := TM) (N := 19) hx hb hts inM hown hK hP 0 rfl rfl 0 (by decide) (hts _ tw_601) (fun _ h9 => h9) rfl dM_value_28 ?_
  refine rg_ifN_le (tgt := 36) hx hb dM_value_31 (by decide) (by decide) (fun h7 => ?_) (fun h7 => by exfalso; omega)
  refine lv_iconst (v := nI 2) hx hb dM_value_36 (by decide) ?_
  refine lv_iload_n hx hb dM_value_37 rfl (lv_at hl 1 rfl) ?_
  refine rg_imul hx hb dM_value_38 ?_
  refine lv_iload_n hx hb dM_value_39 rfl (lv_at hl 2 rfl) ?_
  refine lv_iconst (v := nI 2) hx hb dM_value_40 (by decide) ?_
  refine lv_irem hx hb dM_value_41 (by decide) ?_
  refine rg_top (show _ = Value.int (nI 0) by decide) ?_
  refine rg_iadd hx hb dM_value_42 ?_
  refine lv_istore (lv' := [(4, .int (nI (2 * j + 0))), (0, .ref h), (1, .int (nI j)), (2, .int (nI 4)), (3, .int i)]) hx hb dM_value_43 hl (by decide) rfl (fun ls hl => ?_)
  refine lv_iload_n hx hb dM_value_45 rfl (lv_at hl 3 rfl) ?_
  refine lv_bipush (v := nI 6) hx hb dM_value_46 (by decide) ?_
  refine rg_icmp_ge (tgt := 95) hx hb dM_value_48 (by decide) (by omega) (by omega) (fun h8 => by exfalso; omega) (fun h8 => ?_)
  refine lv_iload_n hx hb dM_value_51 rfl (lv_at hl 3 rfl) ?_
  refine lv_iconst (v := nI 2) hx hb dM_value_52 (by decide) ?_
  refine rg_icmp_ge (tgt := 67) hx hb dM_value_53 (by decide) (by omega) (by omega) (fun h9 => ?_) (fun h9 => by exfalso; omega)
  refine lv_iload_n hx hb dM_value_67 rfl (lv_at hl 3 rfl) ?_
  refine lv_iconst (v := nI 4) hx hb dM_value_68 (by decide) ?_
  refine rg_icmp_ge (tgt := 82) hx hb dM_value_69 (by decide) (by omega) (by omega) (fun h10 => ?_) (fun h10 => by exfalso; omega)
  refine lv_aload_n hx hb dM_value_82 rfl (lv_at hl 1 rfl) ?_
  refine va_get (D := (dC, dI)) (ci := 0) (C := "RevisionGroveModel") (T := TM) (N := 19) hx hb hts inM hown hK hP 0 rfl rfl 4 (by decide) (hts _ tw_605) (fun _ h9 => h9) rfl dM_value_83 ?_
  refine lv_iload hx hb dM_value_86 (lv_at hl 0 rfl) ?_
  refine rg_iald hx hb hK hP 3 0 rfl rfl (by decide) (by omega) dM_value_88 ?_
  refine rg_top (show (.int (se (2 * j + 0)) : Value) = .int ((Rr j).2.2.1 0) by rw [q0]) ?_
  refine lv_i2l (v := ((Rr j).2.2.1 0).toInt64) hx hb dM_value_89 rfl ?_
  refine lv_ldc2 (v := 4294967295) hx hb hown (hts _ tw_789) dM_value_90 ?_
  refine lv_land hx hb dM_value_93 ?_
  rw [hQ]
  exact rg_lret hx hb hr hlk hK hP hD hS dM_value_94 (nI 0, nI n, nI b, cof, mad, nu, co, se, li, le, fi, sc, ti, un, ma, dr, fr, to, en) rfl (⟨hrep, rfl, rfl⟩)
set_option maxHeartbeats 4000000 in
set_option maxRecDepth 100000 in
theorem c_rm_value_5 {l : Launch} {dC : Nat → ClassId} {dI : Nat → Nat → Nat} {h : Nat} {a : Nat → Nat} {cI cL : ClassId} {cod : Int32} {cof : Int32} {mad : Int32} {nu : Nat → Int32} {co : Nat → Int64} {se : Nat → Int32} {li : Nat → Int32} {le : Nat → Int32} {fi : Nat → Int32} {sc : Nat → Int32} {ti : Nat → Int32} {un : Nat → Int32} {ma : Nat → Int32} {dr : Nat → Int32} {fr : Nat → Int32} {to : Nat → Int32} {en : Nat → Int32} (n b : Nat) (Rr : Nat → rg_R) (P1 P2 : Nat → Int32) (T : Nat → Nat) (U : Nat → List Nat) (j : Nat) (hjn : j < n) (i : Int32) (hrep : rm_Rep (nI n) (nI b) cof nu co se li le fi sc ti un ma (n, Rr, P1, P2, T, U, b, cof)) : rg_M l yM_value (Cond.code yM_value prog_8_method_34_code 5 (some .long) :: rg_tbl) { frames := 1, cells := 0, slots := 0, locals := 23 } (dC, dI) rg_cl [(cI, .int), (cL, .long)] (rm_W h a cI cL cod (nI n) (nI b) cof mad nu co se li le fi sc ti un ma dr fr to en) [.ref h, .int (nI j), .int (nI 5), .int i] (rg_QL (dC, dI) rg_cl [(cI, .int), (cL, .long)] (S := rm_S) (rm_Pl (0, ((Rr j).2.2.1 1).toInt64 &&& 4294967295) (n, Rr, P1, P2, T, U, b, cof)) (fun u => rm_Wu h a cI cL u)) 0 0 := by
  refine rg_of prog_8_method_34_code 5 (some .long) (by decide) rfl (Nat.le_of_ble_eq_true rfl) ?_
  intro p e R s m args below meth c Q A H locs ls hR hQ hx hb hml hr hts hown hlk hnm hP hK hD hA hS hl
  have hl : lv_has ls 5 [(0, .ref h), (1, .int (nI j)), (2, .int (nI 5)), (3, .int i)] := hl
  have hts : ∀ w ∈ rg_tbl, w.before args s = true := fun w h => hts w (List.mem_cons_of_mem _ h)
  have hok := hrep.1
  have hn1 : 1 ≤ n := hok.1
  have hn60 : n ≤ 60 := hok.2.1
  have hb4 : b < 4 := hok.2.2.2.2.2.2.2.1
  have hTb : T b < n := (hok.2.2.2.2.2.2.1 b hb4).1
  have hti : ti b = nI (T b) := (hrep.2.2.2.2.2.2 b hb4).1
  have hma : ma b = nI (U b).length := (hrep.2.2.2.2.2.2 b hb4).2.1
  have hB := rg_isR_ok (n := n) (by omega) hjn
  have q0 : se (2 * j + 1) = (Rr j).2.2.1 1 := (hrep.2.2.2.2.1 j hjn 1 (by decide)).2.2.1
  refine lv_aload_n hx hb dM_value_0 rfl (lv_at hl 0 rfl) ?_
  refine lv_aload_n hx hb dM_value_1 rfl (lv_at hl 0 rfl) ?_
  refine lv_iload_n hx hb dM_value_2 rfl (lv_at hl 1 rfl) ?_
  refine rg_calli hD hS hA (va_runV (As := [.int (nI j)]) (rest := [.ref h]) ⟨hx, hb, hml, hown, hts⟩ (c_rm_isRevision n (nI j) _) (cwV 1 hts (rg_gV tw_726 tw_728 ts_M_isRevision tw_5 tw_729) rfl rfl rfl (by decide +kernel) ⟨by rw [hR]; exact Nat.le_of_ble_eq_true rfl, by rw [hR]; exact Nat.le_of_ble_eq_true rfl⟩) (rg_preV rfl hK hP hD (ci := 0) (q0 := 0) rfl rfl) rfl rfl hl.1 rfl (lv_room (Nat.le_of_ble_eq_true rfl)) dM_value_3 ⟨Nat.zero_le _, Nat.zero_le _⟩) (fun r1 u2 H locs hw3 hP hD hS => ?_)
  subst hw3
  have hP : va_P (dC, dI) rg_cl (rm_W h a cI cL cod (nI n) (nI b) cof mad nu co se li le fi sc ti un ma dr fr to en) H := hP
  have hD : va_D A (rm_W h a cI cL cod (nI n) (nI b) cof mad nu co se li le fi sc ti un ma dr fr to en) := hD
  refine rg_ifz_eq (tgt := 19) hx hb dM_value_6 (by decide) (fun h4 => absurd (hB.symm.trans h4) (by decide)) (fun h4 => ?_)
  refine lv_iload_n hx hb dM_value_9 rfl (lv_at hl 2 rfl) ?_
  refine rg_ifN_lt (tgt := 19) hx hb dM_value_10 (by decide) (by omega) (fun h5 => h5.elim) (fun h5 => ?_)
  refine lv_iload_n hx hb dM_value_13 rfl (lv_at hl 2 rfl) ?_
  refine lv_bipush (v := nI 7) hx hb dM_value_14 (by decide) ?_
  refine rg_icmp_le (tgt := 23) hx hb dM_value_16 (by decide) (by omega) (by omega) (fun h6 => ?_) (fun h6 => by exfalso; omega)
  refine lv_iconst (v := nI 0) hx hb dM_value_23 (by decide) ?_
  refine va_put (D := (dC, dI)) (ci := 0) (v := .int (nI 0)) (ty := .int) (C := "RevisionGroveModel") (T := TM) (N := 19) hx hb hts inM tyM tyM_ok nmM hown hK hP hD hS 0 rfl rfl 0 (by decide) (hts _ tw_601) (fun _ h9 => h9) rfl (by decide +kernel) rfl rfl (Nat.le_of_ble_eq_true rfl) dM_value_24 (fun H locs hP hD hS => ?_)
  have hP : va_P (dC, dI) rg_cl (rm_W h a cI cL (nI 0) (nI n) (nI b) cof mad nu co se li le fi sc ti un ma dr fr to en) H := hP
  have hD : va_D A (rm_W h a cI cL (nI 0) (nI n) (nI b) cof mad nu co se li le fi sc ti un ma dr fr to en) := hD
  refine lv_aload_n hx hb dM_value_27 rfl (lv_at hl 0 rfl) ?_
  refine va_get (D := (dC, dI)) (ci := 0) (C := "RevisionGroveModel") (T := TM) (N := 19) hx hb hts inM hown hK hP 0 rfl rfl 0 (by decide) (hts _ tw_601) (fun _ h9 => h9) rfl dM_value_28 ?_
  refine rg_ifN_le (tgt := 36) hx hb dM_value_31 (by decide) (by decide) (fun h7 => ?_) (fun h7 => by exfalso; omega)
  refine lv_iconst (v := nI 2) hx hb dM_value_36 (by decide) ?_
  refine lv_iload_n hx hb dM_value_37 rfl (lv_at hl 1 rfl) ?_
  refine rg_imul hx hb dM_value_38 ?_
  refine lv_iload_n hx hb dM_value_39 rfl (lv_at hl 2 rfl) ?_
  refine lv_iconst (v := nI 2) hx hb dM_value_40 (by decide) ?_
  refine lv_irem hx hb dM_value_41 (by decide) ?_
  refine rg_top (show _ = Value.int (nI 1) by decide) ?_
  refine rg_iadd hx hb dM_value_42 ?_
  refine lv_istore (lv' := [(4, .int (nI (2 * j + 1))), (0, .ref h), (1, .int (nI j)), (2, .int (nI 5)), (3, .int i)]) hx hb dM_value_43 hl (by decide) rfl (fun ls hl => ?_)
  refine lv_iload_n hx hb dM_value_45 rfl (lv_at hl 3 rfl) ?_
  refine lv_bipush (v := nI 6) hx hb dM_value_46 (by decide) ?_
  refine rg_icmp_ge (tgt := 95) hx hb dM_value_48 (by decide) (by omega) (by omega) (fun h8 => by exfalso; omega) (fun h8 => ?_)
  refine lv_iload_n hx hb dM_value_51 rfl (lv_at hl 3 rfl) ?_
  refine lv_iconst (v := nI 2) hx hb dM_value_52 (by decide) ?_
  refine rg_icmp_ge (tgt := 67) hx hb dM_value_53 (by decide) (by omega) (by omega) (fun h9 => ?_) (fun h9 => by exfalso; omega)
  refine lv_iload_n hx hb dM_value_67 rfl (lv_at hl 3 rfl) ?_
  refine lv_iconst (v := nI 4) hx hb dM_value_68 (by decide) ?_
  refine rg_icmp_ge (tgt := 82) hx hb dM_value_69 (by decide) (by omega) (by omega) (fun h10 => ?_) (fun h10 => by exfalso; omega)
  refine lv_aload_n hx hb dM_value_82 rfl (lv_at hl 1 rfl) ?_
  refine va_get (D := (dC, dI)) (ci := 0) (C := "RevisionGroveModel") (T := TM) (N := 19) hx hb hts inM hown hK hP 0 rfl rfl 4 (by decide) (hts _ tw_605) (fun _ h9 => h9) rfl dM_value_83 ?_
  refine lv_iload hx hb dM_value_86 (lv_at hl 0 rfl) ?_
  refine rg_iald hx hb hK hP 3 0 rfl rfl (by decide) (by omega) dM_value_88 ?_
  refine rg_top (show (.int (se (2 * j + 1)) : Value) = .int ((Rr j).2.2.1 1) by rw [q0]) ?_
  refine lv_i2l (v := ((Rr j).2.2.1 1).toInt64) hx hb dM_value_89 rfl ?_
  refine lv_ldc2 (v := 4294967295) hx hb hown (hts _ tw_789) dM_value_90 ?_
  refine lv_land hx hb dM_value_93 ?_
  rw [hQ]
  exact rg_lret hx hb hr hlk hK hP hD hS dM_value_94 (nI 0, nI n, nI b, cof, mad, nu, co, se, li, le, fi, sc, ti, un, ma, dr, fr, to, en) rfl (⟨hrep, rfl, rfl⟩)
set_option maxHeartbeats 4000000 in
set_option maxRecDepth 100000 in
theorem c_rm_value_6m {l : Launch} {dC : Nat → ClassId} {dI : Nat → Nat → Nat} {h : Nat} {a : Nat → Nat} {cI cL : ClassId} {cod : Int32} {cof : Int32} {mad : Int32} {nu : Nat → Int32} {co : Nat → Int64} {se : Nat → Int32} {li : Nat → Int32} {le : Nat → Int32} {fi : Nat → Int32} {sc : Nat → Int32} {ti : Nat → Int32} {un : Nat → Int32} {ma : Nat → Int32} {dr : Nat → Int32} {fr : Nat → Int32} {to : Nat → Int32} {en : Nat → Int32} (n b : Nat) (Rr : Nat → rg_R) (P1 P2 : Nat → Int32) (T : Nat → Nat) (U : Nat → List Nat) (j : Nat) (hjn : j < n) (l9 : List Int32) (hl9 : (Rr j).2.2.2 0 = l9)  (hrep : rm_Rep (nI n) (nI b) cof nu co se li le fi sc ti un ma (n, Rr, P1, P2, T, U, b, cof)) : rg_M l yM_value (Cond.code yM_value prog_8_method_34_code 5 (some .long) :: rg_tbl) { frames := 1, cells := 0, slots := 0, locals := 23 } (dC, dI) rg_cl [(cI, .int), (cL, .long)] (rm_W h a cI cL cod (nI n) (nI b) cof mad nu co se li le fi sc ti un ma dr fr to en) [.ref h, .int (nI j), .int (nI 6), .int ((-1))] (rg_QL (dC, dI) rg_cl [(cI, .int), (cL, .long)] (S := rm_S) (rm_Pl (0, (nI l9.length).toInt64) (n, Rr, P1, P2, T, U, b, cof)) (fun u => rm_Wu h a cI cL u)) 0 0 := by
  refine rg_of prog_8_method_34_code 5 (some .long) (by decide) rfl (Nat.le_of_ble_eq_true rfl) ?_
  intro p e R s m args below meth c Q A H locs ls hR hQ hx hb hml hr hts hown hlk hnm hP hK hD hA hS hl
  have hl : lv_has ls 5 [(0, .ref h), (1, .int (nI j)), (2, .int (nI 6)), (3, .int ((-1)))] := hl
  have hts : ∀ w ∈ rg_tbl, w.before args s = true := fun w h => hts w (List.mem_cons_of_mem _ h)
  have hok := hrep.1
  have hn1 : 1 ≤ n := hok.1
  have hn60 : n ≤ 60 := hok.2.1
  have hb4 : b < 4 := hok.2.2.2.2.2.2.2.1
  have hTb : T b < n := (hok.2.2.2.2.2.2.1 b hb4).1
  have hti : ti b = nI (T b) := (hrep.2.2.2.2.2.2 b hb4).1
  have hma : ma b = nI (U b).length := (hrep.2.2.2.2.2.2 b hb4).2.1
  have hB := rg_isR_ok (n := n) (by omega) hjn
  have q0 := hrep.2.2.2.2.1 j hjn 0 (by decide)
  have q4 := q0.2.2.2.1
  have q5 := q0.2.2.2.2.1
  have q6 := q0.2.2.2.2.2
  have hl9 : (Rr j).2.2.2 0 = l9 := hl9
  rw [show (ra_R (n, Rr, P1, P2, T, U, b, cof) j).2.2.2 0 = l9 from hl9] at q4 q5 q6
  refine lv_aload_n hx hb dM_value_0 rfl (lv_at hl 0 rfl) ?_
  refine lv_aload_n hx hb dM_value_1 rfl (lv_at hl 0 rfl) ?_
  refine lv_iload_n hx hb dM_value_2 rfl (lv_at hl 1 rfl) ?_
  refine rg_calli hD hS hA (va_runV (As := [.int (nI j)]) (rest := [.ref h]) ⟨hx, hb, hml, hown, hts⟩ (c_rm_isRevision n (nI j) _) (cwV 1 hts (rg_gV tw_726 tw_728 ts_M_isRevision tw_5 tw_729) rfl rfl rfl (by decide +kernel) ⟨by rw [hR]; exact Nat.le_of_ble_eq_true rfl, by rw [hR]; exact Nat.le_of_ble_eq_true rfl⟩) (rg_preV rfl hK hP hD (ci := 0) (q0 := 0) rfl rfl) rfl rfl hl.1 rfl (lv_room (Nat.le_of_ble_eq_true rfl)) dM_value_3 ⟨Nat.zero_le _, Nat.zero_le _⟩) (fun r1 u2 H locs hw3 hP hD hS => ?_)
  subst hw3
  have hP : va_P (dC, dI) rg_cl (rm_W h a cI cL cod (nI n) (nI b) cof mad nu co se li le fi sc ti un ma dr fr to en) H := hP
  have hD : va_D A (rm_W h a cI cL cod (nI n) (nI b) cof mad nu co se li le fi sc ti un ma dr fr to en) := hD
  refine rg_ifz_eq (tgt := 19) hx hb dM_value_6 (by decide) (fun h4 => absurd (hB.symm.trans h4) (by decide)) (fun h4 => ?_)
  refine lv_iload_n hx hb dM_value_9 rfl (lv_at hl 2 rfl) ?_
  refine rg_ifN_lt (tgt := 19) hx hb dM_value_10 (by decide) (by omega) (fun h5 => h5.elim) (fun h5 => ?_)
  refine lv_iload_n hx hb dM_value_13 rfl (lv_at hl 2 rfl) ?_
  refine lv_bipush (v := nI 7) hx hb dM_value_14 (by decide) ?_
  refine rg_icmp_le (tgt := 23) hx hb dM_value_16 (by decide) (by omega) (by omega) (fun h6 => ?_) (fun h6 => by exfalso; omega)
  refine lv_iconst (v := nI 0) hx hb dM_value_23 (by decide) ?_
  refine va_put (D := (dC, dI)) (ci := 0) (v := .int (nI 0)) (ty := .int) (C := "RevisionGroveModel") (T := TM) (N := 19) hx hb hts inM tyM tyM_ok nmM hown hK hP hD hS 0 rfl rfl 0 (by decide) (hts _ tw_601) (fun _ h9 => h9) rfl (by decide +kernel) rfl rfl (Nat.le_of_ble_eq_true rfl) dM_value_24 (fun H locs hP hD hS => ?_)
  have hP : va_P (dC, dI) rg_cl (rm_W h a cI cL (nI 0) (nI n) (nI b) cof mad nu co se li le fi sc ti un ma dr fr to en) H := hP
  have hD : va_D A (rm_W h a cI cL (nI 0) (nI n) (nI b) cof mad nu co se li le fi sc ti un ma dr fr to en) := hD
  refine lv_aload_n hx hb dM_value_27 rfl (lv_at hl 0 rfl) ?_
  refine va_get (D := (dC, dI)) (ci := 0) (C := "RevisionGroveModel") (T := TM) (N := 19) hx hb hts inM hown hK hP 0 rfl rfl 0 (by decide) (hts _ tw_601) (fun _ h9 => h9) rfl dM_value_28 ?_
  refine rg_ifN_le (tgt := 36) hx hb dM_value_31 (by decide) (by decide) (fun h7 => ?_) (fun h7 => by exfalso; omega)
  refine lv_iconst (v := nI 2) hx hb dM_value_36 (by decide) ?_
  refine lv_iload_n hx hb dM_value_37 rfl (lv_at hl 1 rfl) ?_
  refine rg_imul hx hb dM_value_38 ?_
  refine lv_iload_n hx hb dM_value_39 rfl (lv_at hl 2 rfl) ?_
  refine lv_iconst (v := nI 2) hx hb dM_value_40 (by decide) ?_
  refine lv_irem hx hb dM_value_41 (by decide) ?_
  refine rg_top (show _ = Value.int (nI 0) by decide) ?_
  refine rg_iadd hx hb dM_value_42 ?_
  refine lv_istore (lv' := [(4, .int (nI (2 * j + 0))), (0, .ref h), (1, .int (nI j)), (2, .int (nI 6)), (3, .int ((-1)))]) hx hb dM_value_43 hl (by decide) rfl (fun ls hl => ?_)
  refine lv_iload_n hx hb dM_value_45 rfl (lv_at hl 3 rfl) ?_
  refine lv_bipush (v := nI 6) hx hb dM_value_46 (by decide) ?_
  refine rg_icmp_ge (tgt := 95) hx hb dM_value_48 (by decide) (by omega) (by omega) (fun h8 => ?_) (fun h8 => by exfalso; omega)
  refine lv_aload_n hx hb dM_value_95 rfl (lv_at hl 1 rfl) ?_
  refine lv_iload_n hx hb dM_value_96 rfl (lv_at hl 4 rfl) ?_
  refine lv_iconst (v := -1) hx hb dM_value_97 (by decide) ?_
  refine lv_icmp_lt (tgt := 112) hx hb dM_value_98 (by decide) (fun h9 => absurd h9 (by decide)) (fun h9 => ?_)
  refine lv_iload_n hx hb dM_value_101 rfl (lv_at hl 4 rfl) ?_
  refine lv_aload_n hx hb dM_value_102 rfl (lv_at hl 1 rfl) ?_
  refine va_get (D := (dC, dI)) (ci := 0) (C := "RevisionGroveModel") (T := TM) (N := 19) hx hb hts inM hown hK hP 0 rfl rfl 6 (by decide) (hts _ tw_607) (fun _ h9 => h9) rfl dM_value_103 ?_
  refine lv_iload hx hb dM_value_106 (lv_at hl 0 rfl) ?_
  refine rg_iald hx hb hK hP 5 0 rfl rfl (by decide) (by omega) dM_value_108 ?_
  refine rg_top (show (.int (le (2 * j + 0)) : Value) = .int (nI l9.length) by rw [q5]) ?_
  refine lv_icmp_lt (tgt := 116) hx hb dM_value_109 (by decide) (fun h10 => ?_) (fun h10 => absurd (rg_m1_lt (by omega)) h10)
  refine lv_iconst (v := nI 0) hx hb dM_value_116 (by decide) ?_
  refine va_put (D := (dC, dI)) (ci := 0) (v := .int (nI 0)) (ty := .int) (C := "RevisionGroveModel") (T := TM) (N := 19) hx hb hts inM tyM tyM_ok nmM hown hK hP hD hS 0 rfl rfl 0 (by decide) (hts _ tw_601) (fun _ h9 => h9) rfl (by decide +kernel) rfl rfl (Nat.le_of_ble_eq_true rfl) dM_value_117 (fun H locs hP hD hS => ?_)
  have hP : va_P (dC, dI) rg_cl (rm_W h a cI cL (nI 0) (nI n) (nI b) cof mad nu co se li le fi sc ti un ma dr fr to en) H := hP
  have hD : va_D A (rm_W h a cI cL (nI 0) (nI n) (nI b) cof mad nu co se li le fi sc ti un ma dr fr to en) := hD
  refine lv_aload_n hx hb dM_value_120 rfl (lv_at hl 1 rfl) ?_
  refine va_get (D := (dC, dI)) (ci := 0) (C := "RevisionGroveModel") (T := TM) (N := 19) hx hb hts inM hown hK hP 0 rfl rfl 0 (by decide) (hts _ tw_601) (fun _ h9 => h9) rfl dM_value_121 ?_
  refine rg_ifN_le (tgt := 131) hx hb dM_value_124 (by decide) (by decide) (fun h11 => ?_) (fun h11 => by exfalso; omega)
  refine lv_iload_n hx hb dM_value_131 rfl (lv_at hl 4 rfl) ?_
  refine lv_if_ge (tgt := 146) hx hb dM_value_132 (by decide) (fun h12 => absurd h12 (by decide)) (fun h12 => ?_)
  refine lv_aload_n hx hb dM_value_135 rfl (lv_at hl 1 rfl) ?_
  refine va_get (D := (dC, dI)) (ci := 0) (C := "RevisionGroveModel") (T := TM) (N := 19) hx hb hts inM hown hK hP 0 rfl rfl 6 (by decide) (hts _ tw_607) (fun _ h9 => h9) rfl dM_value_136 ?_
  refine lv_iload hx hb dM_value_139 (lv_at hl 0 rfl) ?_
  refine rg_iald hx hb hK hP 5 0 rfl rfl (by decide) (by omega) dM_value_141 ?_
  refine rg_top (show (.int (le (2 * j + 0)) : Value) = .int (nI l9.length) by rw [q5]) ?_
  refine lv_i2l (v := (nI l9.length).toInt64) hx hb dM_value_142 rfl ?_
  refine lv_goto (tgt := 157) hx hb dM_value_143 (by decide) ?_
  rw [hQ]
  exact rg_lret hx hb hr hlk hK hP hD hS dM_value_157 (nI 0, nI n, nI b, cof, mad, nu, co, se, li, le, fi, sc, ti, un, ma, dr, fr, to, en) rfl (⟨hrep, rfl, rfl⟩)
set_option maxHeartbeats 4000000 in
set_option maxRecDepth 100000 in
theorem c_rm_value_6b {l : Launch} {dC : Nat → ClassId} {dI : Nat → Nat → Nat} {h : Nat} {a : Nat → Nat} {cI cL : ClassId} {cod : Int32} {cof : Int32} {mad : Int32} {nu : Nat → Int32} {co : Nat → Int64} {se : Nat → Int32} {li : Nat → Int32} {le : Nat → Int32} {fi : Nat → Int32} {sc : Nat → Int32} {ti : Nat → Int32} {un : Nat → Int32} {ma : Nat → Int32} {dr : Nat → Int32} {fr : Nat → Int32} {to : Nat → Int32} {en : Nat → Int32} (n b : Nat) (Rr : Nat → rg_R) (P1 P2 : Nat → Int32) (T : Nat → Nat) (U : Nat → List Nat) (j : Nat) (hjn : j < n) (l9 : List Int32) (hl9 : (Rr j).2.2.2 0 = l9) (i : Int32) (hi0 : i < -1 ∨ nI l9.length ≤ i) (hrep : rm_Rep (nI n) (nI b) cof nu co se li le fi sc ti un ma (n, Rr, P1, P2, T, U, b, cof)) : rg_M l yM_value (Cond.code yM_value prog_8_method_34_code 5 (some .long) :: rg_tbl) { frames := 1, cells := 0, slots := 0, locals := 23 } (dC, dI) rg_cl [(cI, .int), (cL, .long)] (rm_W h a cI cL cod (nI n) (nI b) cof mad nu co se li le fi sc ti un ma dr fr to en) [.ref h, .int (nI j), .int (nI 6), .int i] (rg_QL (dC, dI) rg_cl [(cI, .int), (cL, .long)] (S := rm_S) (rm_Pl (2, 0) (n, Rr, P1, P2, T, U, b, cof)) (fun u => rm_Wu h a cI cL u)) 0 0 := by
  refine rg_of prog_8_method_34_code 5 (some .long) (by decide) rfl (Nat.le_of_ble_eq_true rfl) ?_
  intro p e R s m args below meth c Q A H locs ls hR hQ hx hb hml hr hts hown hlk hnm hP hK hD hA hS hl
  have hl : lv_has ls 5 [(0, .ref h), (1, .int (nI j)), (2, .int (nI 6)), (3, .int i)] := hl
  have hts : ∀ w ∈ rg_tbl, w.before args s = true := fun w h => hts w (List.mem_cons_of_mem _ h)
  have hok := hrep.1
  have hn1 : 1 ≤ n := hok.1
  have hn60 : n ≤ 60 := hok.2.1
  have hb4 : b < 4 := hok.2.2.2.2.2.2.2.1
  have hTb : T b < n := (hok.2.2.2.2.2.2.1 b hb4).1
  have hti : ti b = nI (T b) := (hrep.2.2.2.2.2.2 b hb4).1
  have hma : ma b = nI (U b).length := (hrep.2.2.2.2.2.2 b hb4).2.1
  have hB := rg_isR_ok (n := n) (by omega) hjn
  have q0 := hrep.2.2.2.2.1 j hjn 0 (by decide)
  have q4 := q0.2.2.2.1
  have q5 := q0.2.2.2.2.1
  have q6 := q0.2.2.2.2.2
  have hl9 : (Rr j).2.2.2 0 = l9 := hl9
  rw [show (ra_R (n, Rr, P1, P2, T, U, b, cof) j).2.2.2 0 = l9 from hl9] at q4 q5 q6
  refine lv_aload_n hx hb dM_value_0 rfl (lv_at hl 0 rfl) ?_
  refine lv_aload_n hx hb dM_value_1 rfl (lv_at hl 0 rfl) ?_
  refine lv_iload_n hx hb dM_value_2 rfl (lv_at hl 1 rfl) ?_
  refine rg_calli hD hS hA (va_runV (As := [.int (nI j)]) (rest := [.ref h]) ⟨hx, hb, hml, hown, hts⟩ (c_rm_isRevision n (nI j) _) (cwV 1 hts (rg_gV tw_726 tw_728 ts_M_isRevision tw_5 tw_729) rfl rfl rfl (by decide +kernel) ⟨by rw [hR]; exact Nat.le_of_ble_eq_true rfl, by rw [hR]; exact Nat.le_of_ble_eq_true rfl⟩) (rg_preV rfl hK hP hD (ci := 0) (q0 := 0) rfl rfl) rfl rfl hl.1 rfl (lv_room (Nat.le_of_ble_eq_true rfl)) dM_value_3 ⟨Nat.zero_le _, Nat.zero_le _⟩) (fun r1 u2 H locs hw3 hP hD hS => ?_)
  subst hw3
  have hP : va_P (dC, dI) rg_cl (rm_W h a cI cL cod (nI n) (nI b) cof mad nu co se li le fi sc ti un ma dr fr to en) H := hP
  have hD : va_D A (rm_W h a cI cL cod (nI n) (nI b) cof mad nu co se li le fi sc ti un ma dr fr to en) := hD
  refine rg_ifz_eq (tgt := 19) hx hb dM_value_6 (by decide) (fun h4 => absurd (hB.symm.trans h4) (by decide)) (fun h4 => ?_)
  refine lv_iload_n hx hb dM_value_9 rfl (lv_at hl 2 rfl) ?_
  refine rg_ifN_lt (tgt := 19) hx hb dM_value_10 (by decide) (by omega) (fun h5 => h5.elim) (fun h5 => ?_)
  refine lv_iload_n hx hb dM_value_13 rfl (lv_at hl 2 rfl) ?_
  refine lv_bipush (v := nI 7) hx hb dM_value_14 (by decide) ?_
  refine rg_icmp_le (tgt := 23) hx hb dM_value_16 (by decide) (by omega) (by omega) (fun h6 => ?_) (fun h6 => by exfalso; omega)
  refine lv_iconst (v := nI 0) hx hb dM_value_23 (by decide) ?_
  refine va_put (D := (dC, dI)) (ci := 0) (v := .int (nI 0)) (ty := .int) (C := "RevisionGroveModel") (T := TM) (N := 19) hx hb hts inM tyM tyM_ok nmM hown hK hP hD hS 0 rfl rfl 0 (by decide) (hts _ tw_601) (fun _ h9 => h9) rfl (by decide +kernel) rfl rfl (Nat.le_of_ble_eq_true rfl) dM_value_24 (fun H locs hP hD hS => ?_)
  have hP : va_P (dC, dI) rg_cl (rm_W h a cI cL (nI 0) (nI n) (nI b) cof mad nu co se li le fi sc ti un ma dr fr to en) H := hP
  have hD : va_D A (rm_W h a cI cL (nI 0) (nI n) (nI b) cof mad nu co se li le fi sc ti un ma dr fr to en) := hD
  refine lv_aload_n hx hb dM_value_27 rfl (lv_at hl 0 rfl) ?_
  refine va_get (D := (dC, dI)) (ci := 0) (C := "RevisionGroveModel") (T := TM) (N := 19) hx hb hts inM hown hK hP 0 rfl rfl 0 (by decide) (hts _ tw_601) (fun _ h9 => h9) rfl dM_value_28 ?_
  refine rg_ifN_le (tgt := 36) hx hb dM_value_31 (by decide) (by decide) (fun h7 => ?_) (fun h7 => by exfalso; omega)
  refine lv_iconst (v := nI 2) hx hb dM_value_36 (by decide) ?_
  refine lv_iload_n hx hb dM_value_37 rfl (lv_at hl 1 rfl) ?_
  refine rg_imul hx hb dM_value_38 ?_
  refine lv_iload_n hx hb dM_value_39 rfl (lv_at hl 2 rfl) ?_
  refine lv_iconst (v := nI 2) hx hb dM_value_40 (by decide) ?_
  refine lv_irem hx hb dM_value_41 (by decide) ?_
  refine rg_top (show _ = Value.int (nI 0) by decide) ?_
  refine rg_iadd hx hb dM_value_42 ?_
  refine lv_istore (lv' := [(4, .int (nI (2 * j + 0))), (0, .ref h), (1, .int (nI j)), (2, .int (nI 6)), (3, .int i)]) hx hb dM_value_43 hl (by decide) rfl (fun ls hl => ?_)
  refine lv_iload_n hx hb dM_value_45 rfl (lv_at hl 3 rfl) ?_
  refine lv_bipush (v := nI 6) hx hb dM_value_46 (by decide) ?_
  refine rg_icmp_ge (tgt := 95) hx hb dM_value_48 (by decide) (by omega) (by omega) (fun h8 => ?_) (fun h8 => by exfalso; omega)
  refine lv_aload_n hx hb dM_value_95 rfl (lv_at hl 1 rfl) ?_
  refine lv_iload_n hx hb dM_value_96 rfl (lv_at hl 4 rfl) ?_
  refine lv_iconst (v := -1) hx hb dM_value_97 (by decide) ?_
  refine lv_icmp_lt (tgt := 112) hx hb dM_value_98 (by decide) (fun h9 => ?_) (fun h9 => ?_)
  · refine lv_iconst (v := nI 2) hx hb dM_value_112 (by decide) ?_
    refine lv_goto (tgt := 117) hx hb dM_value_113 (by decide) ?_
    refine va_put (D := (dC, dI)) (ci := 0) (v := .int (nI 2)) (ty := .int) (C := "RevisionGroveModel") (T := TM) (N := 19) hx hb hts inM tyM tyM_ok nmM hown hK hP hD hS 0 rfl rfl 0 (by decide) (hts _ tw_601) (fun _ h9 => h9) rfl (by decide +kernel) rfl rfl (Nat.le_of_ble_eq_true rfl) dM_value_117 (fun H locs hP hD hS => ?_)
    have hP : va_P (dC, dI) rg_cl (rm_W h a cI cL (nI 2) (nI n) (nI b) cof mad nu co se li le fi sc ti un ma dr fr to en) H := hP
    have hD : va_D A (rm_W h a cI cL (nI 2) (nI n) (nI b) cof mad nu co se li le fi sc ti un ma dr fr to en) := hD
    refine lv_aload_n hx hb dM_value_120 rfl (lv_at hl 1 rfl) ?_
    refine va_get (D := (dC, dI)) (ci := 0) (C := "RevisionGroveModel") (T := TM) (N := 19) hx hb hts inM hown hK hP 0 rfl rfl 0 (by decide) (hts _ tw_601) (fun _ h9 => h9) rfl dM_value_121 ?_
    refine rg_ifN_le (tgt := 131) hx hb dM_value_124 (by decide) (by decide) (fun h10 => by exfalso; omega) (fun h10 => ?_)
    refine lv_lconst (v := 0) hx hb dM_value_127 (by decide) ?_
    refine lv_goto (tgt := 157) hx hb dM_value_128 (by decide) ?_
    rw [hQ]
    exact rg_lret hx hb hr hlk hK hP hD hS dM_value_157 (nI 2, nI n, nI b, cof, mad, nu, co, se, li, le, fi, sc, ti, un, ma, dr, fr, to, en) rfl (⟨hrep, rfl, rfl⟩)
  · refine lv_iload_n hx hb dM_value_101 rfl (lv_at hl 4 rfl) ?_
    refine lv_aload_n hx hb dM_value_102 rfl (lv_at hl 1 rfl) ?_
    refine va_get (D := (dC, dI)) (ci := 0) (C := "RevisionGroveModel") (T := TM) (N := 19) hx hb hts inM hown hK hP 0 rfl rfl 6 (by decide) (hts _ tw_607) (fun _ h9 => h9) rfl dM_value_103 ?_
    refine lv_iload hx hb dM_value_106 (lv_at hl 0 rfl) ?_
    refine rg_iald hx hb hK hP 5 0 rfl rfl (by decide) (by omega) dM_value_108 ?_
    refine rg_top (show (.int (le (2 * j + 0)) : Value) = .int (nI l9.length) by rw [q5]) ?_
    refine lv_icmp_lt (tgt := 116) hx hb dM_value_109 (by decide) (fun h11 => absurd hi0 (fun q => q.elim h9 (fun q => Int32.not_lt.mpr q h11))) (fun h11 => ?_)
    refine lv_iconst (v := nI 2) hx hb dM_value_112 (by decide) ?_
    refine lv_goto (tgt := 117) hx hb dM_value_113 (by decide) ?_
    refine va_put (D := (dC, dI)) (ci := 0) (v := .int (nI 2)) (ty := .int) (C := "RevisionGroveModel") (T := TM) (N := 19) hx hb hts inM tyM tyM_ok nmM hown hK hP hD hS 0 rfl rfl 0 (by decide) (hts _ tw_601) (fun _ h9 => h9) rfl (by decide +kernel) rfl rfl (Nat.le_of_ble_eq_true rfl) dM_value_117 (fun H locs hP hD hS => ?_)
    have hP : va_P (dC, dI) rg_cl (rm_W h a cI cL (nI 2) (nI n) (nI b) cof mad nu co se li le fi sc ti un ma dr fr to en) H := hP
    have hD : va_D A (rm_W h a cI cL (nI 2) (nI n) (nI b) cof mad nu co se li le fi sc ti un ma dr fr to en) := hD
    refine lv_aload_n hx hb dM_value_120 rfl (lv_at hl 1 rfl) ?_
    refine va_get (D := (dC, dI)) (ci := 0) (C := "RevisionGroveModel") (T := TM) (N := 19) hx hb hts inM hown hK hP 0 rfl rfl 0 (by decide) (hts _ tw_601) (fun _ h9 => h9) rfl dM_value_121 ?_
    refine rg_ifN_le (tgt := 131) hx hb dM_value_124 (by decide) (by decide) (fun h12 => by exfalso; omega) (fun h12 => ?_)
    refine lv_lconst (v := 0) hx hb dM_value_127 (by decide) ?_
    refine lv_goto (tgt := 157) hx hb dM_value_128 (by decide) ?_
    rw [hQ]
    exact rg_lret hx hb hr hlk hK hP hD hS dM_value_157 (nI 2, nI n, nI b, cof, mad, nu, co, se, li, le, fi, sc, ti, un, ma, dr, fr, to, en) rfl (⟨hrep, rfl, rfl⟩)
set_option maxHeartbeats 4000000 in
set_option maxRecDepth 100000 in
theorem c_rm_value_6i {l : Launch} {dC : Nat → ClassId} {dI : Nat → Nat → Nat} {h : Nat} {a : Nat → Nat} {cI cL : ClassId} {cod : Int32} {cof : Int32} {mad : Int32} {nu : Nat → Int32} {co : Nat → Int64} {se : Nat → Int32} {li : Nat → Int32} {le : Nat → Int32} {fi : Nat → Int32} {sc : Nat → Int32} {ti : Nat → Int32} {un : Nat → Int32} {ma : Nat → Int32} {dr : Nat → Int32} {fr : Nat → Int32} {to : Nat → Int32} {en : Nat → Int32} (n b : Nat) (Rr : Nat → rg_R) (P1 P2 : Nat → Int32) (T : Nat → Nat) (U : Nat → List Nat) (j : Nat) (hjn : j < n) (l9 : List Int32) (hl9 : (Rr j).2.2.2 0 = l9) (i : Nat) (hi0 : i < l9.length) (hrep : rm_Rep (nI n) (nI b) cof nu co se li le fi sc ti un ma (n, Rr, P1, P2, T, U, b, cof)) : rg_M l yM_value (Cond.code yM_value prog_8_method_34_code 5 (some .long) :: rg_tbl) { frames := 1, cells := 0, slots := 0, locals := 23 } (dC, dI) rg_cl [(cI, .int), (cL, .long)] (rm_W h a cI cL cod (nI n) (nI b) cof mad nu co se li le fi sc ti un ma dr fr to en) [.ref h, .int (nI j), .int (nI 6), .int (nI i)] (rg_QL (dC, dI) rg_cl [(cI, .int), (cL, .long)] (S := rm_S) (rm_Pl (0, (l9.getD i 0).toInt64) (n, Rr, P1, P2, T, U, b, cof)) (fun u => rm_Wu h a cI cL u)) 0 0 := by
  refine rg_of prog_8_method_34_code 5 (some .long) (by decide) rfl (Nat.le_of_ble_eq_true rfl) ?_
  intro p e R s m args below meth c Q A H locs ls hR hQ hx hb hml hr hts hown hlk hnm hP hK hD hA hS hl
  have hl : lv_has ls 5 [(0, .ref h), (1, .int (nI j)), (2, .int (nI 6)), (3, .int (nI i))] := hl
  have hts : ∀ w ∈ rg_tbl, w.before args s = true := fun w h => hts w (List.mem_cons_of_mem _ h)
  have hok := hrep.1
  have hn1 : 1 ≤ n := hok.1
  have hn60 : n ≤ 60 := hok.2.1
  have hb4 : b < 4 := hok.2.2.2.2.2.2.2.1
  have hTb : T b < n := (hok.2.2.2.2.2.2.1 b hb4).1
  have hti : ti b = nI (T b) := (hrep.2.2.2.2.2.2 b hb4).1
  have hma : ma b = nI (U b).length := (hrep.2.2.2.2.2.2 b hb4).2.1
  have hB := rg_isR_ok (n := n) (by omega) hjn
  have q0 := hrep.2.2.2.2.1 j hjn 0 (by decide)
  have q4 := q0.2.2.2.1
  have q5 := q0.2.2.2.2.1
  have q6 := q0.2.2.2.2.2
  have hl9 : (Rr j).2.2.2 0 = l9 := hl9
  rw [show (ra_R (n, Rr, P1, P2, T, U, b, cof) j).2.2.2 0 = l9 from hl9] at q4 q5 q6
  have hat : li (16 * j + 8 * (6 - 6) + i) = l9.getD i 0 := q6 i hi0
  refine lv_aload_n hx hb dM_value_0 rfl (lv_at hl 0 rfl) ?_
  refine lv_aload_n hx hb dM_value_1 rfl (lv_at hl 0 rfl) ?_
  refine lv_iload_n hx hb dM_value_2 rfl (lv_at hl 1 rfl) ?_
  refine rg_calli hD hS hA (va_runV (As := [.int (nI j)]) (rest := [.ref h]) ⟨hx, hb, hml, hown, hts⟩ (c_rm_isRevision n (nI j) _) (cwV 1 hts (rg_gV tw_726 tw_728 ts_M_isRevision tw_5 tw_729) rfl rfl rfl (by decide +kernel) ⟨by rw [hR]; exact Nat.le_of_ble_eq_true rfl, by rw [hR]; exact Nat.le_of_ble_eq_true rfl⟩) (rg_preV rfl hK hP hD (ci := 0) (q0 := 0) rfl rfl) rfl rfl hl.1 rfl (lv_room (Nat.le_of_ble_eq_true rfl)) dM_value_3 ⟨Nat.zero_le _, Nat.zero_le _⟩) (fun r1 u2 H locs hw3 hP hD hS => ?_)
  subst hw3
  have hP : va_P (dC, dI) rg_cl (rm_W h a cI cL cod (nI n) (nI b) cof mad nu co se li le fi sc ti un ma dr fr to en) H := hP
  have hD : va_D A (rm_W h a cI cL cod (nI n) (nI b) cof mad nu co se li le fi sc ti un ma dr fr to en) := hD
  refine rg_ifz_eq (tgt := 19) hx hb dM_value_6 (by decide) (fun h4 => absurd (hB.symm.trans h4) (by decide)) (fun h4 => ?_)
  refine lv_iload_n hx hb dM_value_9 rfl (lv_at hl 2 rfl) ?_
  refine rg_ifN_lt (tgt := 19) hx hb dM_value_10 (by decide) (by omega) (fun h5 => h5.elim) (fun h5 => ?_)
  refine lv_iload_n hx hb dM_value_13 rfl (lv_at hl 2 rfl) ?_
  refine lv_bipush (v := nI 7) hx hb dM_value_14 (by decide) ?_
  refine rg_icmp_le (tgt := 23) hx hb dM_value_16 (by decide) (by omega) (by omega) (fun h6 => ?_) (fun h6 => by exfalso; omega)
  refine lv_iconst (v := nI 0) hx hb dM_value_23 (by decide) ?_
  refine va_put (D := (dC, dI)) (ci := 0) (v := .int (nI 0)) (ty := .int) (C := "RevisionGroveModel") (T := TM) (N := 19) hx hb hts inM tyM tyM_ok nmM hown hK hP hD hS 0 rfl rfl 0 (by decide) (hts _ tw_601) (fun _ h9 => h9) rfl (by decide +kernel) rfl rfl (Nat.le_of_ble_eq_true rfl) dM_value_24 (fun H locs hP hD hS => ?_)
  have hP : va_P (dC, dI) rg_cl (rm_W h a cI cL (nI 0) (nI n) (nI b) cof mad nu co se li le fi sc ti un ma dr fr to en) H := hP
  have hD : va_D A (rm_W h a cI cL (nI 0) (nI n) (nI b) cof mad nu co se li le fi sc ti un ma dr fr to en) := hD
  refine lv_aload_n hx hb dM_value_27 rfl (lv_at hl 0 rfl) ?_
  refine va_get (D := (dC, dI)) (ci := 0) (C := "RevisionGroveModel") (T := TM) (N := 19) hx hb hts inM hown hK hP 0 rfl rfl 0 (by decide) (hts _ tw_601) (fun _ h9 => h9) rfl dM_value_28 ?_
  refine rg_ifN_le (tgt := 36) hx hb dM_value_31 (by decide) (by decide) (fun h7 => ?_) (fun h7 => by exfalso; omega)
  refine lv_iconst (v := nI 2) hx hb dM_value_36 (by decide) ?_
  refine lv_iload_n hx hb dM_value_37 rfl (lv_at hl 1 rfl) ?_
  refine rg_imul hx hb dM_value_38 ?_
  refine lv_iload_n hx hb dM_value_39 rfl (lv_at hl 2 rfl) ?_
  refine lv_iconst (v := nI 2) hx hb dM_value_40 (by decide) ?_
  refine lv_irem hx hb dM_value_41 (by decide) ?_
  refine rg_top (show _ = Value.int (nI 0) by decide) ?_
  refine rg_iadd hx hb dM_value_42 ?_
  refine lv_istore (lv' := [(4, .int (nI (2 * j + 0))), (0, .ref h), (1, .int (nI j)), (2, .int (nI 6)), (3, .int (nI i))]) hx hb dM_value_43 hl (by decide) rfl (fun ls hl => ?_)
  refine lv_iload_n hx hb dM_value_45 rfl (lv_at hl 3 rfl) ?_
  refine lv_bipush (v := nI 6) hx hb dM_value_46 (by decide) ?_
  refine rg_icmp_ge (tgt := 95) hx hb dM_value_48 (by decide) (by omega) (by omega) (fun h8 => ?_) (fun h8 => by exfalso; omega)
  refine lv_aload_n hx hb dM_value_95 rfl (lv_at hl 1 rfl) ?_
  refine lv_iload_n hx hb dM_value_96 rfl (lv_at hl 4 rfl) ?_
  refine lv_iconst (v := -1) hx hb dM_value_97 (by decide) ?_
  refine lv_icmp_lt (tgt := 112) hx hb dM_value_98 (by decide) (fun h9 => absurd h9 (rg_nlt_m1 (by omega))) (fun h9 => ?_)
  refine lv_iload_n hx hb dM_value_101 rfl (lv_at hl 4 rfl) ?_
  refine lv_aload_n hx hb dM_value_102 rfl (lv_at hl 1 rfl) ?_
  refine va_get (D := (dC, dI)) (ci := 0) (C := "RevisionGroveModel") (T := TM) (N := 19) hx hb hts inM hown hK hP 0 rfl rfl 6 (by decide) (hts _ tw_607) (fun _ h9 => h9) rfl dM_value_103 ?_
  refine lv_iload hx hb dM_value_106 (lv_at hl 0 rfl) ?_
  refine rg_iald hx hb hK hP 5 0 rfl rfl (by decide) (by omega) dM_value_108 ?_
  refine rg_top (show (.int (le (2 * j + 0)) : Value) = .int (nI l9.length) by rw [q5]) ?_
  refine rg_icmp_lt (tgt := 116) hx hb dM_value_109 (by decide) (by omega) (by omega) (fun h10 => ?_) (fun h10 => by exfalso; omega)
  refine lv_iconst (v := nI 0) hx hb dM_value_116 (by decide) ?_
  refine va_put (D := (dC, dI)) (ci := 0) (v := .int (nI 0)) (ty := .int) (C := "RevisionGroveModel") (T := TM) (N := 19) hx hb hts inM tyM tyM_ok nmM hown hK hP hD hS 0 rfl rfl 0 (by decide) (hts _ tw_601) (fun _ h9 => h9) rfl (by decide +kernel) rfl rfl (Nat.le_of_ble_eq_true rfl) dM_value_117 (fun H locs hP hD hS => ?_)
  have hP : va_P (dC, dI) rg_cl (rm_W h a cI cL (nI 0) (nI n) (nI b) cof mad nu co se li le fi sc ti un ma dr fr to en) H := hP
  have hD : va_D A (rm_W h a cI cL (nI 0) (nI n) (nI b) cof mad nu co se li le fi sc ti un ma dr fr to en) := hD
  refine lv_aload_n hx hb dM_value_120 rfl (lv_at hl 1 rfl) ?_
  refine va_get (D := (dC, dI)) (ci := 0) (C := "RevisionGroveModel") (T := TM) (N := 19) hx hb hts inM hown hK hP 0 rfl rfl 0 (by decide) (hts _ tw_601) (fun _ h9 => h9) rfl dM_value_121 ?_
  refine rg_ifN_le (tgt := 131) hx hb dM_value_124 (by decide) (by decide) (fun h11 => ?_) (fun h11 => by exfalso; omega)
  refine lv_iload_n hx hb dM_value_131 rfl (lv_at hl 4 rfl) ?_
  refine rg_ifN_ge (tgt := 146) hx hb dM_value_132 (by decide) (by omega) (fun h12 => ?_) (fun h12 => h12.elim)
  refine lv_aload_n hx hb dM_value_146 rfl (lv_at hl 1 rfl) ?_
  refine lv_iload_n hx hb dM_value_147 rfl (lv_at hl 2 rfl) ?_
  refine lv_iload_n hx hb dM_value_148 rfl (lv_at hl 3 rfl) ?_
  refine lv_bipush (v := nI 6) hx hb dM_value_149 (by decide) ?_
  refine rg_isub hx hb dM_value_151 (by omega) ?_
  refine lv_iload_n hx hb dM_value_152 rfl (lv_at hl 4 rfl) ?_
  refine rg_calli hD hS hA (va_runV (As := [.int (nI j), .int (nI (6 - 6)), .int (nI i)]) (rest := []) ⟨hx, hb, hml, hown, hts⟩ (c_rm_at j (6 - 6) i (by omega) _) (cwV 3 hts (rg_gV tw_769 tw_771 ts_M_at tw_5 tw_772) rfl rfl rfl (by decide +kernel) ⟨by rw [hR]; exact Nat.le_of_ble_eq_true rfl, by rw [hR]; exact Nat.le_of_ble_eq_true rfl⟩) (rg_preV rfl hK hP hD (ci := 0) (q0 := 0) rfl rfl) rfl rfl hl.1 rfl (lv_room (Nat.le_of_ble_eq_true rfl)) dM_value_153 ⟨Nat.zero_le _, Nat.zero_le _⟩) (fun r13 u14 H locs hw15 hP hD hS => ?_)
  subst hw15
  have hP : va_P (dC, dI) rg_cl (rm_W h a cI cL (nI 0) (nI n) (nI b) cof mad nu co se li le fi sc ti un ma dr fr to en) H := hP
  have hD : va_D A (rm_W h a cI cL (nI 0) (nI n) (nI b) cof mad nu co se li le fi sc ti un ma dr fr to en) := hD
  refine rg_top (show (.int (li (16 * j + 8 * (6 - 6) + i)) : Value) = .int (l9.getD i 0) by rw [hat]) ?_
  refine lv_i2l (v := (l9.getD i 0).toInt64) hx hb dM_value_156 rfl ?_
  rw [hQ]
  exact rg_lret hx hb hr hlk hK hP hD hS dM_value_157 (nI 0, nI n, nI b, cof, mad, nu, co, se, li, le, fi, sc, ti, un, ma, dr, fr, to, en) rfl (⟨hrep, rfl, rfl⟩)
set_option maxHeartbeats 4000000 in
set_option maxRecDepth 100000 in
theorem c_rm_value_7m {l : Launch} {dC : Nat → ClassId} {dI : Nat → Nat → Nat} {h : Nat} {a : Nat → Nat} {cI cL : ClassId} {cod : Int32} {cof : Int32} {mad : Int32} {nu : Nat → Int32} {co : Nat → Int64} {se : Nat → Int32} {li : Nat → Int32} {le : Nat → Int32} {fi : Nat → Int32} {sc : Nat → Int32} {ti : Nat → Int32} {un : Nat → Int32} {ma : Nat → Int32} {dr : Nat → Int32} {fr : Nat → Int32} {to : Nat → Int32} {en : Nat → Int32} (n b : Nat) (Rr : Nat → rg_R) (P1 P2 : Nat → Int32) (T : Nat → Nat) (U : Nat → List Nat) (j : Nat) (hjn : j < n) (l9 : List Int32) (hl9 : (Rr j).2.2.2 1 = l9)  (hrep : rm_Rep (nI n) (nI b) cof nu co se li le fi sc ti un ma (n, Rr, P1, P2, T, U, b, cof)) : rg_M l yM_value (Cond.code yM_value prog_8_method_34_code 5 (some .long) :: rg_tbl) { frames := 1, cells := 0, slots := 0, locals := 23 } (dC, dI) rg_cl [(cI, .int), (cL, .long)] (rm_W h a cI cL cod (nI n) (nI b) cof mad nu co se li le fi sc ti un ma dr fr to en) [.ref h, .int (nI j), .int (nI 7), .int ((-1))] (rg_QL (dC, dI) rg_cl [(cI, .int), (cL, .long)] (S := rm_S) (rm_Pl (0, (nI l9.length).toInt64) (n, Rr, P1, P2, T, U, b, cof)) (fun u => rm_Wu h a cI cL u)) 0 0 := by
  refine rg_of prog_8_method_34_code 5 (some .long) (by decide) rfl (Nat.le_of_ble_eq_true rfl) ?_
  intro p e R s m args below meth c Q A H locs ls hR hQ hx hb hml hr hts hown hlk hnm hP hK hD hA hS hl
  have hl : lv_has ls 5 [(0, .ref h), (1, .int (nI j)), (2, .int (nI 7)), (3, .int ((-1)))] := hl
  have hts : ∀ w ∈ rg_tbl, w.before args s = true := fun w h => hts w (List.mem_cons_of_mem _ h)
  have hok := hrep.1
  have hn1 : 1 ≤ n := hok.1
  have hn60 : n ≤ 60 := hok.2.1
  have hb4 : b < 4 := hok.2.2.2.2.2.2.2.1
  have hTb : T b < n := (hok.2.2.2.2.2.2.1 b hb4).1
  have hti : ti b = nI (T b) := (hrep.2.2.2.2.2.2 b hb4).1
  have hma : ma b = nI (U b).length := (hrep.2.2.2.2.2.2 b hb4).2.1
  have hB := rg_isR_ok (n := n) (by omega) hjn
  have q0 := hrep.2.2.2.2.1 j hjn 1 (by decide)
  have q4 := q0.2.2.2.1
  have q5 := q0.2.2.2.2.1
  have q6 := q0.2.2.2.2.2
  have hl9 : (Rr j).2.2.2 1 = l9 := hl9
  rw [show (ra_R (n, Rr, P1, P2, T, U, b, cof) j).2.2.2 1 = l9 from hl9] at q4 q5 q6
  refine lv_aload_n hx hb dM_value_0 rfl (lv_at hl 0 rfl) ?_
  refine lv_aload_n hx hb dM_value_1 rfl (lv_at hl 0 rfl) ?_
  refine lv_iload_n hx hb dM_value_2 rfl (lv_at hl 1 rfl) ?_
  refine rg_calli hD hS hA (va_runV (As := [.int (nI j)]) (rest := [.ref h]) ⟨hx, hb, hml, hown, hts⟩ (c_rm_isRevision n (nI j) _) (cwV 1 hts (rg_gV tw_726 tw_728 ts_M_isRevision tw_5 tw_729) rfl rfl rfl (by decide +kernel) ⟨by rw [hR]; exact Nat.le_of_ble_eq_true rfl, by rw [hR]; exact Nat.le_of_ble_eq_true rfl⟩) (rg_preV rfl hK hP hD (ci := 0) (q0 := 0) rfl rfl) rfl rfl hl.1 rfl (lv_room (Nat.le_of_ble_eq_true rfl)) dM_value_3 ⟨Nat.zero_le _, Nat.zero_le _⟩) (fun r1 u2 H locs hw3 hP hD hS => ?_)
  subst hw3
  have hP : va_P (dC, dI) rg_cl (rm_W h a cI cL cod (nI n) (nI b) cof mad nu co se li le fi sc ti un ma dr fr to en) H := hP
  have hD : va_D A (rm_W h a cI cL cod (nI n) (nI b) cof mad nu co se li le fi sc ti un ma dr fr to en) := hD
  refine rg_ifz_eq (tgt := 19) hx hb dM_value_6 (by decide) (fun h4 => absurd (hB.symm.trans h4) (by decide)) (fun h4 => ?_)
  refine lv_iload_n hx hb dM_value_9 rfl (lv_at hl 2 rfl) ?_
  refine rg_ifN_lt (tgt := 19) hx hb dM_value_10 (by decide) (by omega) (fun h5 => h5.elim) (fun h5 => ?_)
  refine lv_iload_n hx hb dM_value_13 rfl (lv_at hl 2 rfl) ?_
  refine lv_bipush (v := nI 7) hx hb dM_value_14 (by decide) ?_
  refine rg_icmp_le (tgt := 23) hx hb dM_value_16 (by decide) (by omega) (by omega) (fun h6 => ?_) (fun h6 => by exfalso; omega)
  refine lv_iconst (v := nI 0) hx hb dM_value_23 (by decide) ?_
  refine va_put (D := (dC, dI)) (ci := 0) (v := .int (nI 0)) (ty := .int) (C := "RevisionGroveModel") (T := TM) (N := 19) hx hb hts inM tyM tyM_ok nmM hown hK hP hD hS 0 rfl rfl 0 (by decide) (hts _ tw_601) (fun _ h9 => h9) rfl (by decide +kernel) rfl rfl (Nat.le_of_ble_eq_true rfl) dM_value_24 (fun H locs hP hD hS => ?_)
  have hP : va_P (dC, dI) rg_cl (rm_W h a cI cL (nI 0) (nI n) (nI b) cof mad nu co se li le fi sc ti un ma dr fr to en) H := hP
  have hD : va_D A (rm_W h a cI cL (nI 0) (nI n) (nI b) cof mad nu co se li le fi sc ti un ma dr fr to en) := hD
  refine lv_aload_n hx hb dM_value_27 rfl (lv_at hl 0 rfl) ?_
  refine va_get (D := (dC, dI)) (ci := 0) (C := "RevisionGroveModel") (T := TM) (N := 19) hx hb hts inM hown hK hP 0 rfl rfl 0 (by decide) (hts _ tw_601) (fun _ h9 => h9) rfl dM_value_28 ?_
  refine rg_ifN_le (tgt := 36) hx hb dM_value_31 (by decide) (by decide) (fun h7 => ?_) (fun h7 => by exfalso; omega)
  refine lv_iconst (v := nI 2) hx hb dM_value_36 (by decide) ?_
  refine lv_iload_n hx hb dM_value_37 rfl (lv_at hl 1 rfl) ?_
  refine rg_imul hx hb dM_value_38 ?_
  refine lv_iload_n hx hb dM_value_39 rfl (lv_at hl 2 rfl) ?_
  refine lv_iconst (v := nI 2) hx hb dM_value_40 (by decide) ?_
  refine lv_irem hx hb dM_value_41 (by decide) ?_
  refine rg_top (show _ = Value.int (nI 1) by decide) ?_
  refine rg_iadd hx hb dM_value_42 ?_
  refine lv_istore (lv' := [(4, .int (nI (2 * j + 1))), (0, .ref h), (1, .int (nI j)), (2, .int (nI 7)), (3, .int ((-1)))]) hx hb dM_value_43 hl (by decide) rfl (fun ls hl => ?_)
  refine lv_iload_n hx hb dM_value_45 rfl (lv_at hl 3 rfl) ?_
  refine lv_bipush (v := nI 6) hx hb dM_value_46 (by decide) ?_
  refine rg_icmp_ge (tgt := 95) hx hb dM_value_48 (by decide) (by omega) (by omega) (fun h8 => ?_) (fun h8 => by exfalso; omega)
  refine lv_aload_n hx hb dM_value_95 rfl (lv_at hl 1 rfl) ?_
  refine lv_iload_n hx hb dM_value_96 rfl (lv_at hl 4 rfl) ?_
  refine lv_iconst (v := -1) hx hb dM_value_97 (by decide) ?_
  refine lv_icmp_lt (tgt := 112) hx hb dM_value_98 (by decide) (fun h9 => absurd h9 (by decide)) (fun h9 => ?_)
  refine lv_iload_n hx hb dM_value_101 rfl (lv_at hl 4 rfl) ?_
  refine lv_aload_n hx hb dM_value_102 rfl (lv_at hl 1 rfl) ?_
  refine va_get (D := (dC, dI)) (ci := 0) (C := "RevisionGroveModel") (T := TM) (N := 19) hx hb hts inM hown hK hP 0 rfl rfl 6 (by decide) (hts _ tw_607) (fun _ h9 => h9) rfl dM_value_103 ?_
  refine lv_iload hx hb dM_value_106 (lv_at hl 0 rfl) ?_
  refine rg_iald hx hb hK hP 5 0 rfl rfl (by decide) (by omega) dM_value_108 ?_
  refine rg_top (show (.int (le (2 * j + 1)) : Value) = .int (nI l9.length) by rw [q5]) ?_
  refine lv_icmp_lt (tgt := 116) hx hb dM_value_109 (by decide) (fun h10 => ?_) (fun h10 => absurd (rg_m1_lt (by omega)) h10)
  refine lv_iconst (v := nI 0) hx hb dM_value_116 (by decide) ?_
  refine va_put (D := (dC, dI)) (ci := 0) (v := .int (nI 0)) (ty := .int) (C := "RevisionGroveModel") (T := TM) (N := 19) hx hb hts inM tyM tyM_ok nmM hown hK hP hD hS 0 rfl rfl 0 (by decide) (hts _ tw_601) (fun _ h9 => h9) rfl (by decide +kernel) rfl rfl (Nat.le_of_ble_eq_true rfl) dM_value_117 (fun H locs hP hD hS => ?_)
  have hP : va_P (dC, dI) rg_cl (rm_W h a cI cL (nI 0) (nI n) (nI b) cof mad nu co se li le fi sc ti un ma dr fr to en) H := hP
  have hD : va_D A (rm_W h a cI cL (nI 0) (nI n) (nI b) cof mad nu co se li le fi sc ti un ma dr fr to en) := hD
  refine lv_aload_n hx hb dM_value_120 rfl (lv_at hl 1 rfl) ?_
  refine va_get (D := (dC, dI)) (ci := 0) (C := "RevisionGroveModel") (T := TM) (N := 19) hx hb hts inM hown hK hP 0 rfl rfl 0 (by decide) (hts _ tw_601) (fun _ h9 => h9) rfl dM_value_121 ?_
  refine rg_ifN_le (tgt := 131) hx hb dM_value_124 (by decide) (by decide) (fun h11 => ?_) (fun h11 => by exfalso; omega)
  refine lv_iload_n hx hb dM_value_131 rfl (lv_at hl 4 rfl) ?_
  refine lv_if_ge (tgt := 146) hx hb dM_value_132 (by decide) (fun h12 => absurd h12 (by decide)) (fun h12 => ?_)
  refine lv_aload_n hx hb dM_value_135 rfl (lv_at hl 1 rfl) ?_
  refine va_get (D := (dC, dI)) (ci := 0) (C := "RevisionGroveModel") (T := TM) (N := 19) hx hb hts inM hown hK hP 0 rfl rfl 6 (by decide) (hts _ tw_607) (fun _ h9 => h9) rfl dM_value_136 ?_
  refine lv_iload hx hb dM_value_139 (lv_at hl 0 rfl) ?_
  refine rg_iald hx hb hK hP 5 0 rfl rfl (by decide) (by omega) dM_value_141 ?_
  refine rg_top (show (.int (le (2 * j + 1)) : Value) = .int (nI l9.length) by rw [q5]) ?_
  refine lv_i2l (v := (nI l9.length).toInt64) hx hb dM_value_142 rfl ?_
  refine lv_goto (tgt := 157) hx hb dM_value_143 (by decide) ?_
  rw [hQ]
  exact rg_lret hx hb hr hlk hK hP hD hS dM_value_157 (nI 0, nI n, nI b, cof, mad, nu, co, se, li, le, fi, sc, ti, un, ma, dr, fr, to, en) rfl (⟨hrep, rfl, rfl⟩)
set_option maxHeartbeats 4000000 in
set_option maxRecDepth 100000 in
theorem c_rm_value_7b {l : Launch} {dC : Nat → ClassId} {dI : Nat → Nat → Nat} {h : Nat} {a : Nat → Nat} {cI cL : ClassId} {cod : Int32} {cof : Int32} {mad : Int32} {nu : Nat → Int32} {co : Nat → Int64} {se : Nat → Int32} {li : Nat → Int32} {le : Nat → Int32} {fi : Nat → Int32} {sc : Nat → Int32} {ti : Nat → Int32} {un : Nat → Int32} {ma : Nat → Int32} {dr : Nat → Int32} {fr : Nat → Int32} {to : Nat → Int32} {en : Nat → Int32} (n b : Nat) (Rr : Nat → rg_R) (P1 P2 : Nat → Int32) (T : Nat → Nat) (U : Nat → List Nat) (j : Nat) (hjn : j < n) (l9 : List Int32) (hl9 : (Rr j).2.2.2 1 = l9) (i : Int32) (hi0 : i < -1 ∨ nI l9.length ≤ i) (hrep : rm_Rep (nI n) (nI b) cof nu co se li le fi sc ti un ma (n, Rr, P1, P2, T, U, b, cof)) : rg_M l yM_value (Cond.code yM_value prog_8_method_34_code 5 (some .long) :: rg_tbl) { frames := 1, cells := 0, slots := 0, locals := 23 } (dC, dI) rg_cl [(cI, .int), (cL, .long)] (rm_W h a cI cL cod (nI n) (nI b) cof mad nu co se li le fi sc ti un ma dr fr to en) [.ref h, .int (nI j), .int (nI 7), .int i] (rg_QL (dC, dI) rg_cl [(cI, .int), (cL, .long)] (S := rm_S) (rm_Pl (2, 0) (n, Rr, P1, P2, T, U, b, cof)) (fun u => rm_Wu h a cI cL u)) 0 0 := by
  refine rg_of prog_8_method_34_code 5 (some .long) (by decide) rfl (Nat.le_of_ble_eq_true rfl) ?_
  intro p e R s m args below meth c Q A H locs ls hR hQ hx hb hml hr hts hown hlk hnm hP hK hD hA hS hl
  have hl : lv_has ls 5 [(0, .ref h), (1, .int (nI j)), (2, .int (nI 7)), (3, .int i)] := hl
  have hts : ∀ w ∈ rg_tbl, w.before args s = true := fun w h => hts w (List.mem_cons_of_mem _ h)
  have hok := hrep.1
  have hn1 : 1 ≤ n := hok.1
  have hn60 : n ≤ 60 := hok.2.1
  have hb4 : b < 4 := hok.2.2.2.2.2.2.2.1
  have hTb : T b < n := (hok.2.2.2.2.2.2.1 b hb4).1
  have hti : ti b = nI (T b) := (hrep.2.2.2.2.2.2 b hb4).1
  have hma : ma b = nI (U b).length := (hrep.2.2.2.2.2.2 b hb4).2.1
  have hB := rg_isR_ok (n := n) (by omega) hjn
  have q0 := hrep.2.2.2.2.1 j hjn 1 (by decide)
  have q4 := q0.2.2.2.1
  have q5 := q0.2.2.2.2.1
  have q6 := q0.2.2.2.2.2
  have hl9 : (Rr j).2.2.2 1 = l9 := hl9
  rw [show (ra_R (n, Rr, P1, P2, T, U, b, cof) j).2.2.2 1 = l9 from hl9] at q4 q5 q6
  refine lv_aload_n hx hb dM_value_0 rfl (lv_at hl 0 rfl) ?_
  refine lv_aload_n hx hb dM_value_1 rfl (lv_at hl 0 rfl) ?_
  refine lv_iload_n hx hb dM_value_2 rfl (lv_at hl 1 rfl) ?_
  refine rg_calli hD hS hA (va_runV (As := [.int (nI j)]) (rest := [.ref h]) ⟨hx, hb, hml, hown, hts⟩ (c_rm_isRevision n (nI j) _) (cwV 1 hts (rg_gV tw_726 tw_728 ts_M_isRevision tw_5 tw_729) rfl rfl rfl (by decide +kernel) ⟨by rw [hR]; exact Nat.le_of_ble_eq_true rfl, by rw [hR]; exact Nat.le_of_ble_eq_true rfl⟩) (rg_preV rfl hK hP hD (ci := 0) (q0 := 0) rfl rfl) rfl rfl hl.1 rfl (lv_room (Nat.le_of_ble_eq_true rfl)) dM_value_3 ⟨Nat.zero_le _, Nat.zero_le _⟩) (fun r1 u2 H locs hw3 hP hD hS => ?_)
  subst hw3
  have hP : va_P (dC, dI) rg_cl (rm_W h a cI cL cod (nI n) (nI b) cof mad nu co se li le fi sc ti un ma dr fr to en) H := hP
  have hD : va_D A (rm_W h a cI cL cod (nI n) (nI b) cof mad nu co se li le fi sc ti un ma dr fr to en) := hD
  refine rg_ifz_eq (tgt := 19) hx hb dM_value_6 (by decide) (fun h4 => absurd (hB.symm.trans h4) (by decide)) (fun h4 => ?_)
  refine lv_iload_n hx hb dM_value_9 rfl (lv_at hl 2 rfl) ?_
  refine rg_ifN_lt (tgt := 19) hx hb dM_value_10 (by decide) (by omega) (fun h5 => h5.elim) (fun h5 => ?_)
  refine lv_iload_n hx hb dM_value_13 rfl (lv_at hl 2 rfl) ?_
  refine lv_bipush (v := nI 7) hx hb dM_value_14 (by decide) ?_
  refine rg_icmp_le (tgt := 23) hx hb dM_value_16 (by decide) (by omega) (by omega) (fun h6 => ?_) (fun h6 => by exfalso; omega)
  refine lv_iconst (v := nI 0) hx hb dM_value_23 (by decide) ?_
  refine va_put (D := (dC, dI)) (ci := 0) (v := .int (nI 0)) (ty := .int) (C := "RevisionGroveModel") (T := TM) (N := 19) hx hb hts inM tyM tyM_ok nmM hown hK hP hD hS 0 rfl rfl 0 (by decide) (hts _ tw_601) (fun _ h9 => h9) rfl (by decide +kernel) rfl rfl (Nat.le_of_ble_eq_true rfl) dM_value_24 (fun H locs hP hD hS => ?_)
  have hP : va_P (dC, dI) rg_cl (rm_W h a cI cL (nI 0) (nI n) (nI b) cof mad nu co se li le fi sc ti un ma dr fr to en) H := hP
  have hD : va_D A (rm_W h a cI cL (nI 0) (nI n) (nI b) cof mad nu co se li le fi sc ti un ma dr fr to en) := hD
  refine lv_aload_n hx hb dM_value_27 rfl (lv_at hl 0 rfl) ?_
  refine va_get (D := (dC, dI)) (ci := 0) (C := "RevisionGroveModel") (T := TM) (N := 19) hx hb hts inM hown hK hP 0 rfl rfl 0 (by decide) (hts _ tw_601) (fun _ h9 => h9) rfl dM_value_28 ?_
  refine rg_ifN_le (tgt := 36) hx hb dM_value_31 (by decide) (by decide) (fun h7 => ?_) (fun h7 => by exfalso; omega)
  refine lv_iconst (v := nI 2) hx hb dM_value_36 (by decide) ?_
  refine lv_iload_n hx hb dM_value_37 rfl (lv_at hl 1 rfl) ?_
  refine rg_imul hx hb dM_value_38 ?_
  refine lv_iload_n hx hb dM_value_39 rfl (lv_at hl 2 rfl) ?_
  refine lv_iconst (v := nI 2) hx hb dM_value_40 (by decide) ?_
  refine lv_irem hx hb dM_value_41 (by decide) ?_
  refine rg_top (show _ = Value.int (nI 1) by decide) ?_
  refine rg_iadd hx hb dM_value_42 ?_
  refine lv_istore (lv' := [(4, .int (nI (2 * j + 1))), (0, .ref h), (1, .int (nI j)), (2, .int (nI 7)), (3, .int i)]) hx hb dM_value_43 hl (by decide) rfl (fun ls hl => ?_)
  refine lv_iload_n hx hb dM_value_45 rfl (lv_at hl 3 rfl) ?_
  refine lv_bipush (v := nI 6) hx hb dM_value_46 (by decide) ?_
  refine rg_icmp_ge (tgt := 95) hx hb dM_value_48 (by decide) (by omega) (by omega) (fun h8 => ?_) (fun h8 => by exfalso; omega)
  refine lv_aload_n hx hb dM_value_95 rfl (lv_at hl 1 rfl) ?_
  refine lv_iload_n hx hb dM_value_96 rfl (lv_at hl 4 rfl) ?_
  refine lv_iconst (v := -1) hx hb dM_value_97 (by decide) ?_
  refine lv_icmp_lt (tgt := 112) hx hb dM_value_98 (by decide) (fun h9 => ?_) (fun h9 => ?_)
  · refine lv_iconst (v := nI 2) hx hb dM_value_112 (by decide) ?_
    refine lv_goto (tgt := 117) hx hb dM_value_113 (by decide) ?_
    refine va_put (D := (dC, dI)) (ci := 0) (v := .int (nI 2)) (ty := .int) (C := "RevisionGroveModel") (T := TM) (N := 19) hx hb hts inM tyM tyM_ok nmM hown hK hP hD hS 0 rfl rfl 0 (by decide) (hts _ tw_601) (fun _ h9 => h9) rfl (by decide +kernel) rfl rfl (Nat.le_of_ble_eq_true rfl) dM_value_117 (fun H locs hP hD hS => ?_)
    have hP : va_P (dC, dI) rg_cl (rm_W h a cI cL (nI 2) (nI n) (nI b) cof mad nu co se li le fi sc ti un ma dr fr to en) H := hP
    have hD : va_D A (rm_W h a cI cL (nI 2) (nI n) (nI b) cof mad nu co se li le fi sc ti un ma dr fr to en) := hD
    refine lv_aload_n hx hb dM_value_120 rfl (lv_at hl 1 rfl) ?_
    refine va_get (D := (dC, dI)) (ci := 0) (C := "RevisionGroveModel") (T := TM) (N := 19) hx hb hts inM hown hK hP 0 rfl rfl 0 (by decide) (hts _ tw_601) (fun _ h9 => h9) rfl dM_value_121 ?_
    refine rg_ifN_le (tgt := 131) hx hb dM_value_124 (by decide) (by decide) (fun h10 => by exfalso; omega) (fun h10 => ?_)
    refine lv_lconst (v := 0) hx hb dM_value_127 (by decide) ?_
    refine lv_goto (tgt := 157) hx hb dM_value_128 (by decide) ?_
    rw [hQ]
    exact rg_lret hx hb hr hlk hK hP hD hS dM_value_157 (nI 2, nI n, nI b, cof, mad, nu, co, se, li, le, fi, sc, ti, un, ma, dr, fr, to, en) rfl (⟨hrep, rfl, rfl⟩)
  · refine lv_iload_n hx hb dM_value_101 rfl (lv_at hl 4 rfl) ?_
    refine lv_aload_n hx hb dM_value_102 rfl (lv_at hl 1 rfl) ?_
    refine va_get (D := (dC, dI)) (ci := 0) (C := "RevisionGroveModel") (T := TM) (N := 19) hx hb hts inM hown hK hP 0 rfl rfl 6 (by decide) (hts _ tw_607) (fun _ h9 => h9) rfl dM_value_103 ?_
    refine lv_iload hx hb dM_value_106 (lv_at hl 0 rfl) ?_
    refine rg_iald hx hb hK hP 5 0 rfl rfl (by decide) (by omega) dM_value_108 ?_
    refine rg_top (show (.int (le (2 * j + 1)) : Value) = .int (nI l9.length) by rw [q5]) ?_
    refine lv_icmp_lt (tgt := 116) hx hb dM_value_109 (by decide) (fun h11 => absurd hi0 (fun q => q.elim h9 (fun q => Int32.not_lt.mpr q h11))) (fun h11 => ?_)
    refine lv_iconst (v := nI 2) hx hb dM_value_112 (by decide) ?_
    refine lv_goto (tgt := 117) hx hb dM_value_113 (by decide) ?_
    refine va_put (D := (dC, dI)) (ci := 0) (v := .int (nI 2)) (ty := .int) (C := "RevisionGroveModel") (T := TM) (N := 19) hx hb hts inM tyM tyM_ok nmM hown hK hP hD hS 0 rfl rfl 0 (by decide) (hts _ tw_601) (fun _ h9 => h9) rfl (by decide +kernel) rfl rfl (Nat.le_of_ble_eq_true rfl) dM_value_117 (fun H locs hP hD hS => ?_)
    have hP : va_P (dC, dI) rg_cl (rm_W h a cI cL (nI 2) (nI n) (nI b) cof mad nu co se li le fi sc ti un ma dr fr to en) H := hP
    have hD : va_D A (rm_W h a cI cL (nI 2) (nI n) (nI b) cof mad nu co se li le fi sc ti un ma dr fr to en) := hD
    refine lv_aload_n hx hb dM_value_120 rfl (lv_at hl 1 rfl) ?_
    refine va_get (D := (dC, dI)) (ci := 0) (C := "RevisionGroveModel") (T := TM) (N := 19) hx hb hts inM hown hK hP 0 rfl rfl 0 (by decide) (hts _ tw_601) (fun _ h9 => h9) rfl dM_value_121 ?_
    refine rg_ifN_le (tgt := 131) hx hb dM_value_124 (by decide) (by decide) (fun h12 => by exfalso; omega) (fun h12 => ?_)
    refine lv_lconst (v := 0) hx hb dM_value_127 (by decide) ?_
    refine lv_goto (tgt := 157) hx hb dM_value_128 (by decide) ?_
    rw [hQ]
    exact rg_lret hx hb hr hlk hK hP hD hS dM_value_157 (nI 2, nI n, nI b, cof, mad, nu, co, se, li, le, fi, sc, ti, un, ma, dr, fr, to, en) rfl (⟨hrep, rfl, rfl⟩)
set_option maxHeartbeats 4000000 in
set_option maxRecDepth 100000 in
theorem c_rm_value_7i {l : Launch} {dC : Nat → ClassId} {dI : Nat → Nat → Nat} {h : Nat} {a : Nat → Nat} {cI cL : ClassId} {cod : Int32} {cof : Int32} {mad : Int32} {nu : Nat → Int32} {co : Nat → Int64} {se : Nat → Int32} {li : Nat → Int32} {le : Nat → Int32} {fi : Nat → Int32} {sc : Nat → Int32} {ti : Nat → Int32} {un : Nat → Int32} {ma : Nat → Int32} {dr : Nat → Int32} {fr : Nat → Int32} {to : Nat → Int32} {en : Nat → Int32} (n b : Nat) (Rr : Nat → rg_R) (P1 P2 : Nat → Int32) (T : Nat → Nat) (U : Nat → List Nat) (j : Nat) (hjn : j < n) (l9 : List Int32) (hl9 : (Rr j).2.2.2 1 = l9) (i : Nat) (hi0 : i < l9.length) (hrep : rm_Rep (nI n) (nI b) cof nu co se li le fi sc ti un ma (n, Rr, P1, P2, T, U, b, cof)) : rg_M l yM_value (Cond.code yM_value prog_8_method_34_code 5 (some .long) :: rg_tbl) { frames := 1, cells := 0, slots := 0, locals := 23 } (dC, dI) rg_cl [(cI, .int), (cL, .long)] (rm_W h a cI cL cod (nI n) (nI b) cof mad nu co se li le fi sc ti un ma dr fr to en) [.ref h, .int (nI j), .int (nI 7), .int (nI i)] (rg_QL (dC, dI) rg_cl [(cI, .int), (cL, .long)] (S := rm_S) (rm_Pl (0, (l9.getD i 0).toInt64) (n, Rr, P1, P2, T, U, b, cof)) (fun u => rm_Wu h a cI cL u)) 0 0 := by
  refine rg_of prog_8_method_34_code 5 (some .long) (by decide) rfl (Nat.le_of_ble_eq_true rfl) ?_
  intro p e R s m args below meth c Q A H locs ls hR hQ hx hb hml hr hts hown hlk hnm hP hK hD hA hS hl
  have hl : lv_has ls 5 [(0, .ref h), (1, .int (nI j)), (2, .int (nI 7)), (3, .int (nI i))] := hl
  have hts : ∀ w ∈ rg_tbl, w.before args s = true := fun w h => hts w (List.mem_cons_of_mem _ h)
  have hok := hrep.1
  have hn1 : 1 ≤ n := hok.1
  have hn60 : n ≤ 60 := hok.2.1
  have hb4 : b < 4 := hok.2.2.2.2.2.2.2.1
  have hTb : T b < n := (hok.2.2.2.2.2.2.1 b hb4).1
  have hti : ti b = nI (T b) := (hrep.2.2.2.2.2.2 b hb4).1
  have hma : ma b = nI (U b).length := (hrep.2.2.2.2.2.2 b hb4).2.1
  have hB := rg_isR_ok (n := n) (by omega) hjn
  have q0 := hrep.2.2.2.2.1 j hjn 1 (by decide)
  have q4 := q0.2.2.2.1
  have q5 := q0.2.2.2.2.1
  have q6 := q0.2.2.2.2.2
  have hl9 : (Rr j).2.2.2 1 = l9 := hl9
  rw [show (ra_R (n, Rr, P1, P2, T, U, b, cof) j).2.2.2 1 = l9 from hl9] at q4 q5 q6
  have hat : li (16 * j + 8 * (7 - 6) + i) = l9.getD i 0 := q6 i hi0
  refine lv_aload_n hx hb dM_value_0 rfl (lv_at hl 0 rfl) ?_
  refine lv_aload_n hx hb dM_value_1 rfl (lv_at hl 0 rfl) ?_
  refine lv_iload_n hx hb dM_value_2 rfl (lv_at hl 1 rfl) ?_
  refine rg_calli hD hS hA (va_runV (As := [.int (nI j)]) (rest := [.ref h]) ⟨hx, hb, hml, hown, hts⟩ (c_rm_isRevision n (nI j) _) (cwV 1 hts (rg_gV tw_726 tw_728 ts_M_isRevision tw_5 tw_729) rfl rfl rfl (by decide +kernel) ⟨by rw [hR]; exact Nat.le_of_ble_eq_true rfl, by rw [hR]; exact Nat.le_of_ble_eq_true rfl⟩) (rg_preV rfl hK hP hD (ci := 0) (q0 := 0) rfl rfl) rfl rfl hl.1 rfl (lv_room (Nat.le_of_ble_eq_true rfl)) dM_value_3 ⟨Nat.zero_le _, Nat.zero_le _⟩) (fun r1 u2 H locs hw3 hP hD hS => ?_)
  subst hw3
  have hP : va_P (dC, dI) rg_cl (rm_W h a cI cL cod (nI n) (nI b) cof mad nu co se li le fi sc ti un ma dr fr to en) H := hP
  have hD : va_D A (rm_W h a cI cL cod (nI n) (nI b) cof mad nu co se li le fi sc ti un ma dr fr to en) := hD
  refine rg_ifz_eq (tgt := 19) hx hb dM_value_6 (by decide) (fun h4 => absurd (hB.symm.trans h4) (by decide)) (fun h4 => ?_)
  refine lv_iload_n hx hb dM_value_9 rfl (lv_at hl 2 rfl) ?_
  refine rg_ifN_lt (tgt := 19) hx hb dM_value_10 (by decide) (by omega) (fun h5 => h5.elim) (fun h5 => ?_)
  refine lv_iload_n hx hb dM_value_13 rfl (lv_at hl 2 rfl) ?_
  refine lv_bipush (v := nI 7) hx hb dM_value_14 (by decide) ?_
  refine rg_icmp_le (tgt := 23) hx hb dM_value_16 (by decide) (by omega) (by omega) (fun h6 => ?_) (fun h6 => by exfalso; omega)
  refine lv_iconst (v := nI 0) hx hb dM_value_23 (by decide) ?_
  refine va_put (D := (dC, dI)) (ci := 0) (v := .int (nI 0)) (ty := .int) (C := "RevisionGroveModel") (T := TM) (N := 19) hx hb hts inM tyM tyM_ok nmM hown hK hP hD hS 0 rfl rfl 0 (by decide) (hts _ tw_601) (fun _ h9 => h9) rfl (by decide +kernel) rfl rfl (Nat.le_of_ble_eq_true rfl) dM_value_24 (fun H locs hP hD hS => ?_)
  have hP : va_P (dC, dI) rg_cl (rm_W h a cI cL (nI 0) (nI n) (nI b) cof mad nu co se li le fi sc ti un ma dr fr to en) H := hP
  have hD : va_D A (rm_W h a cI cL (nI 0) (nI n) (nI b) cof mad nu co se li le fi sc ti un ma dr fr to en) := hD
  refine lv_aload_n hx hb dM_value_27 rfl (lv_at hl 0 rfl) ?_
  refine va_get (D := (dC, dI)) (ci := 0) (C := "RevisionGroveModel") (T := TM) (N := 19) hx hb hts inM hown hK hP 0 rfl rfl 0 (by decide) (hts _ tw_601) (fun _ h9 => h9) rfl dM_value_28 ?_
  refine rg_ifN_le (tgt := 36) hx hb dM_value_31 (by decide) (by decide) (fun h7 => ?_) (fun h7 => by exfalso; omega)
  refine lv_iconst (v := nI 2) hx hb dM_value_36 (by decide) ?_
  refine lv_iload_n hx hb dM_value_37 rfl (lv_at hl 1 rfl) ?_
  refine rg_imul hx hb dM_value_38 ?_
  refine lv_iload_n hx hb dM_value_39 rfl (lv_at hl 2 rfl) ?_
  refine lv_iconst (v := nI 2) hx hb dM_value_40 (by decide) ?_
  refine lv_irem hx hb dM_value_41 (by decide) ?_
  refine rg_top (show _ = Value.int (nI 1) by decide) ?_
  refine rg_iadd hx hb dM_value_42 ?_
  refine lv_istore (lv' := [(4, .int (nI (2 * j + 1))), (0, .ref h), (1, .int (nI j)), (2, .int (nI 7)), (3, .int (nI i))]) hx hb dM_value_43 hl (by decide) rfl (fun ls hl => ?_)
  refine lv_iload_n hx hb dM_value_45 rfl (lv_at hl 3 rfl) ?_
  refine lv_bipush (v := nI 6) hx hb dM_value_46 (by decide) ?_
  refine rg_icmp_ge (tgt := 95) hx hb dM_value_48 (by decide) (by omega) (by omega) (fun h8 => ?_) (fun h8 => by exfalso; omega)
  refine lv_aload_n hx hb dM_value_95 rfl (lv_at hl 1 rfl) ?_
  refine lv_iload_n hx hb dM_value_96 rfl (lv_at hl 4 rfl) ?_
  refine lv_iconst (v := -1) hx hb dM_value_97 (by decide) ?_
  refine lv_icmp_lt (tgt := 112) hx hb dM_value_98 (by decide) (fun h9 => absurd h9 (rg_nlt_m1 (by omega))) (fun h9 => ?_)
  refine lv_iload_n hx hb dM_value_101 rfl (lv_at hl 4 rfl) ?_
  refine lv_aload_n hx hb dM_value_102 rfl (lv_at hl 1 rfl) ?_
  refine va_get (D := (dC, dI)) (ci := 0) (C := "RevisionGroveModel") (T := TM) (N := 19) hx hb hts inM hown hK hP 0 rfl rfl 6 (by decide) (hts _ tw_607) (fun _ h9 => h9) rfl dM_value_103 ?_
  refine lv_iload hx hb dM_value_106 (lv_at hl 0 rfl) ?_
  refine rg_iald hx hb hK hP 5 0 rfl rfl (by decide) (by omega) dM_value_108 ?_
  refine rg_top (show (.int (le (2 * j + 1)) : Value) = .int (nI l9.length) by rw [q5]) ?_
  refine rg_icmp_lt (tgt := 116) hx hb dM_value_109 (by decide) (by omega) (by omega) (fun h10 => ?_) (fun h10 => by exfalso; omega)
  refine lv_iconst (v := nI 0) hx hb dM_value_116 (by decide) ?_
  refine va_put (D := (dC, dI)) (ci := 0) (v := .int (nI 0)) (ty := .int) (C := "RevisionGroveModel") (T := TM) (N := 19) hx hb hts inM tyM tyM_ok nmM hown hK hP hD hS 0 rfl rfl 0 (by decide) (hts _ tw_601) (fun _ h9 => h9) rfl (by decide +kernel) rfl rfl (Nat.le_of_ble_eq_true rfl) dM_value_117 (fun H locs hP hD hS => ?_)
  have hP : va_P (dC, dI) rg_cl (rm_W h a cI cL (nI 0) (nI n) (nI b) cof mad nu co se li le fi sc ti un ma dr fr to en) H := hP
  have hD : va_D A (rm_W h a cI cL (nI 0) (nI n) (nI b) cof mad nu co se li le fi sc ti un ma dr fr to en) := hD
  refine lv_aload_n hx hb dM_value_120 rfl (lv_at hl 1 rfl) ?_
  refine va_get (D := (dC, dI)) (ci := 0) (C := "RevisionGroveModel") (T := TM) (N := 19) hx hb hts inM hown hK hP 0 rfl rfl 0 (by decide) (hts _ tw_601) (fun _ h9 => h9) rfl dM_value_121 ?_
  refine rg_ifN_le (tgt := 131) hx hb dM_value_124 (by decide) (by decide) (fun h11 => ?_) (fun h11 => by exfalso; omega)
  refine lv_iload_n hx hb dM_value_131 rfl (lv_at hl 4 rfl) ?_
  refine rg_ifN_ge (tgt := 146) hx hb dM_value_132 (by decide) (by omega) (fun h12 => ?_) (fun h12 => h12.elim)
  refine lv_aload_n hx hb dM_value_146 rfl (lv_at hl 1 rfl) ?_
  refine lv_iload_n hx hb dM_value_147 rfl (lv_at hl 2 rfl) ?_
  refine lv_iload_n hx hb dM_value_148 rfl (lv_at hl 3 rfl) ?_
  refine lv_bipush (v := nI 6) hx hb dM_value_149 (by decide) ?_
  refine rg_isub hx hb dM_value_151 (by omega) ?_
  refine lv_iload_n hx hb dM_value_152 rfl (lv_at hl 4 rfl) ?_
  refine rg_calli hD hS hA (va_runV (As := [.int (nI j), .int (nI (7 - 6)), .int (nI i)]) (rest := []) ⟨hx, hb, hml, hown, hts⟩ (c_rm_at j (7 - 6) i (by omega) _) (cwV 3 hts (rg_gV tw_769 tw_771 ts_M_at tw_5 tw_772) rfl rfl rfl (by decide +kernel) ⟨by rw [hR]; exact Nat.le_of_ble_eq_true rfl, by rw [hR]; exact Nat.le_of_ble_eq_true rfl⟩) (rg_preV rfl hK hP hD (ci := 0) (q0 := 0) rfl rfl) rfl rfl hl.1 rfl (lv_room (Nat.le_of_ble_eq_true rfl)) dM_value_153 ⟨Nat.zero_le _, Nat.zero_le _⟩) (fun r13 u14 H locs hw15 hP hD hS => ?_)
  subst hw15
  have hP : va_P (dC, dI) rg_cl (rm_W h a cI cL (nI 0) (nI n) (nI b) cof mad nu co se li le fi sc ti un ma dr fr to en) H := hP
  have hD : va_D A (rm_W h a cI cL (nI 0) (nI n) (nI b) cof mad nu co se li le fi sc ti un ma dr fr to en) := hD
  refine rg_top (show (.int (li (16 * j + 8 * (7 - 6) + i)) : Value) = .int (l9.getD i 0) by rw [hat]) ?_
  refine lv_i2l (v := (l9.getD i 0).toInt64) hx hb dM_value_156 rfl ?_
  rw [hQ]
  exact rg_lret hx hb hr hlk hK hP hD hS dM_value_157 (nI 0, nI n, nI b, cof, mad, nu, co, se, li, le, fi, sc, ti, un, ma, dr, fr, to, en) rfl (⟨hrep, rfl, rfl⟩)
theorem c_rm_value {l : Launch} {dC : Nat → ClassId} {dI : Nat → Nat → Nat} {h : Nat} {a : Nat → Nat} {cI cL : ClassId} {cod : Int32} {cof : Int32} {mad : Int32} {nu : Nat → Int32} {co : Nat → Int64} {se : Nat → Int32} {li : Nat → Int32} {le : Nat → Int32} {fi : Nat → Int32} {sc : Nat → Int32} {ti : Nat → Int32} {un : Nat → Int32} {ma : Nat → Int32} {dr : Nat → Int32} {fr : Nat → Int32} {to : Nat → Int32} {en : Nat → Int32} (n b : Nat) (Rr : Nat → rg_R) (P1 P2 : Nat → Int32) (T : Nat → Nat) (U : Nat → List Nat) (x f i : Int32) (hrep : rm_Rep (nI n) (nI b) cof nu co se li le fi sc ti un ma (n, Rr, P1, P2, T, U, b, cof)) : rg_M l yM_value (Cond.code yM_value prog_8_method_34_code 5 (some .long) :: rg_tbl) { frames := 1, cells := 0, slots := 0, locals := 23 } (dC, dI) rg_cl [(cI, .int), (cL, .long)] (rm_W h a cI cL cod (nI n) (nI b) cof mad nu co se li le fi sc ti un ma dr fr to en) [.ref h, .int x, .int f, .int i] (rg_QL (dC, dI) rg_cl [(cI, .int), (cL, .long)] (S := rm_S) (rm_Pl (rg_oVal (n, Rr, P1, P2, T, U, b, cof) x f i) (n, Rr, P1, P2, T, U, b, cof)) (fun u => rm_Wu h a cI cL u)) 0 0 := by
  unfold rg_oVal
  show rg_M _ _ _ _ _ _ _ _ _ (rg_QL _ _ _ (rm_Pl (bif rg_isR n x then rg_val (Rr x.toNatClampNeg) f i else (1, 0)) (n, Rr, P1, P2, T, U, b, cof)) _) _ _
  cases hB : rg_isR n x with
  | false => exact c_rm_value_badx n b Rr P1 P2 T U x f i hB hrep
  | true =>
    obtain ⟨j, hj, rfl⟩ := rg_isR_of hB
    rw [nI_clamp (Nat.lt_of_lt_of_le hj (Nat.le_trans hrep.1.2.1 (by decide)))]
    show rg_M _ _ _ _ _ _ _ _ _ (rg_QL _ _ _ (rm_Pl (rg_val (Rr j) f i) (n, Rr, P1, P2, T, U, b, cof)) _) _ _
    unfold rg_val
    by_cases h0 : f = 0
    · subst h0; rw [if_pos rfl]; exact c_rm_value_0 n b Rr P1 P2 T U j hj i hrep
    · rw [if_neg h0]
      by_cases h1 : f = 1
      · subst h1; rw [if_pos rfl]; exact c_rm_value_1 n b Rr P1 P2 T U j hj i hrep
      · rw [if_neg h1]
        by_cases h2 : f = 2
        · subst h2; rw [if_pos rfl]; exact c_rm_value_2 n b Rr P1 P2 T U j hj i hrep
        · rw [if_neg h2]
          by_cases h3 : f = 3
          · subst h3; rw [if_pos rfl]; exact c_rm_value_3 n b Rr P1 P2 T U j hj i hrep
          · rw [if_neg h3]
            by_cases h4 : f = 4
            · subst h4; rw [if_pos rfl]; exact c_rm_value_4 n b Rr P1 P2 T U j hj i hrep
            · rw [if_neg h4]
              by_cases h5 : f = 5
              · subst h5; rw [if_pos rfl]; exact c_rm_value_5 n b Rr P1 P2 T U j hj i hrep
              · rw [if_neg h5]
                by_cases h6 : f = 6
                · subst h6; rw [if_pos rfl]
                  unfold rg_vL
                  by_cases hm : i = -1
                  · subst hm; rw [if_pos rfl]; exact c_rm_value_6m n b Rr P1 P2 T U j hj _ rfl hrep
                  · rw [if_neg hm]
                    by_cases hi : i < 0 ∨ nI ((Rr j).2.2.2 0).length ≤ i
                    · rw [if_pos hi]
                      refine c_rm_value_6b n b Rr P1 P2 T U j hj _ rfl i ?_ hrep
                      rcases hi with hi | hi
                      · exact Or.inl (rg_lt0 hi hm)
                      · exact Or.inr hi
                    · rw [if_neg hi]
                      obtain ⟨q, hq, rfl⟩ := nI_of (fun z => hi (Or.inl z))
                      rw [nI_clamp hq]
                      exact c_rm_value_6i n b Rr P1 P2 T U j hj _ rfl q (Nat.lt_of_not_le fun z => hi (Or.inr (nI_le z hq))) hrep
                · rw [if_neg h6]
                  by_cases h7 : f = 7
                  · subst h7; rw [if_pos rfl]
                    unfold rg_vL
                    by_cases hm : i = -1
                    · subst hm; rw [if_pos rfl]; exact c_rm_value_7m n b Rr P1 P2 T U j hj _ rfl hrep
                    · rw [if_neg hm]
                      by_cases hi : i < 0 ∨ nI ((Rr j).2.2.2 1).length ≤ i
                      · rw [if_pos hi]
                        refine c_rm_value_7b n b Rr P1 P2 T U j hj _ rfl i ?_ hrep
                        rcases hi with hi | hi
                        · exact Or.inl (rg_lt0 hi hm)
                        · exact Or.inr hi
                      · rw [if_neg hi]
                        obtain ⟨q, hq, rfl⟩ := nI_of (fun z => hi (Or.inl z))
                        rw [nI_clamp hq]
                        exact c_rm_value_7i n b Rr P1 P2 T U j hj _ rfl q (Nat.lt_of_not_le fun z => hi (Or.inr (nI_le z hq))) hrep
                  · rw [if_neg h7]
                    refine c_rm_value_badf n b Rr P1 P2 T U j hj f i ?_ hrep
                    by_cases h8 : f < 0
                    · exact Or.inl h8
                    · by_cases h9 : 7 < f
                      · exact Or.inr h9
                      · obtain ⟨q, hq, rfl⟩ := nI_of2 (M := 7) (n := 7) (by decide) h8 (Int32.not_lt.mp h9)
                        rcases (show q = 0 ∨ q = 1 ∨ q = 2 ∨ q = 3 ∨ q = 4 ∨ q = 5 ∨ q = 6 ∨ q = 7 by omega) with rfl | rfl | rfl | rfl | rfl | rfl | rfl | rfl
                        · exact absurd rfl h0
                        · exact absurd rfl h1
                        · exact absurd rfl h2
                        · exact absurd rfl h3
                        · exact absurd rfl h4
                        · exact absurd rfl h5
                        · exact absurd rfl h6
                        · exact absurd rfl h7
end
