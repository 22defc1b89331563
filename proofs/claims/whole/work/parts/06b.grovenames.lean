/-! The class: names, fields. -/
abbrev yG_init : MethodName := ⟨"RevisionGrove", "<init>", "()V"⟩
abbrev yG_put : MethodName := ⟨"RevisionGrove", "put", "(II)I"⟩
abbrev yG_add : MethodName := ⟨"RevisionGrove", "add", "(II)I"⟩
abbrev yG_mark : MethodName := ⟨"RevisionGrove", "mark", "(IIZ)I"⟩
abbrev yG_insert : MethodName := ⟨"RevisionGrove", "insert", "(III)I"⟩
abbrev yG_remove : MethodName := ⟨"RevisionGrove", "remove", "(II)I"⟩
abbrev yG_point : MethodName := ⟨"RevisionGrove", "point", "(I)V"⟩
abbrev yG_turn : MethodName := ⟨"RevisionGrove", "turn", "(I)I"⟩
abbrev yG_go : MethodName := ⟨"RevisionGrove", "go", "(I)V"⟩
abbrev yG_undo : MethodName := ⟨"RevisionGrove", "undo", "()I"⟩
abbrev yG_redo : MethodName := ⟨"RevisionGrove", "redo", "()I"⟩
abbrev yG_merge : MethodName := ⟨"RevisionGrove", "merge", "(II)I"⟩
abbrev yG_conflicts : MethodName := ⟨"RevisionGrove", "conflicts", "()I"⟩
abbrev yG_base : MethodName := ⟨"RevisionGrove", "base", "(I)I"⟩
abbrev yG_value : MethodName := ⟨"RevisionGrove", "value", "(III)J"⟩
abbrev yG_differ : MethodName := ⟨"RevisionGrove", "differ", "(II)I"⟩
abbrev yG_parent : MethodName := ⟨"RevisionGrove", "parent", "(IZ)I"⟩
abbrev yG_prune : MethodName := ⟨"RevisionGrove", "prune", "()I"⟩
abbrev yG_figure : MethodName := ⟨"RevisionGrove", "figure", "(I)I"⟩
abbrev yG_requireKind : MethodName := ⟨"RevisionGrove", "requireKind", "(II)V"⟩
abbrev yG_requireBranch : MethodName := ⟨"RevisionGrove", "requireBranch", "(I)V"⟩
abbrev yG_requireRevision : MethodName := ⟨"RevisionGrove", "requireRevision", "(I)V"⟩
abbrev yG_draftPresent : MethodName := ⟨"RevisionGrove", "draftPresent", "()V"⟩
abbrev yG_draftJoined : MethodName := ⟨"RevisionGrove", "draftJoined", "(III)I"⟩
abbrev yG_comeToChanged : MethodName := ⟨"RevisionGrove", "comeToChanged", "(I)I"⟩
abbrev yG_comeToDraft : MethodName := ⟨"RevisionGrove", "comeToDraft", "(I)V"⟩
def TG : u_T := fun k => match k with
  | 0 => ("RevisionGrove", "revisions", "LRevisionGrove$Revisions;", true)
  | 1 => ("RevisionGrove", "branches", "LRevisionGrove$Branches;", true)
  | 2 => ("RevisionGrove", "draft", "LRevisionGrove$Fields;", true)
  | _ => ("RevisionGrove", "latestConflicts", "I", false)
def tyG : Nat → FieldType := fun k => match k with
  | 0 => .object "RevisionGrove$Revisions"
  | 1 => .object "RevisionGrove$Branches"
  | 2 => .object "RevisionGrove$Fields"
  | _ => .int
theorem nmG : ∀ a, a < 4 → ∀ b, b < 4 → a ≠ b → (TG a).2.1 ≠ (TG b).2.1 := by decide +kernel
theorem tyG_ok : ∀ k, k < 4 → parseFieldDescriptor (TG k).2.2.1 = some (tyG k) := by decide +kernel
theorem inG : ∀ w ∈ u_ws "RevisionGrove" TG 4, w ∈ rg_tbl := by
  intro w hw
  simp only [u_ws, List.mem_map, List.mem_range] at hw
  obtain ⟨k, hk, rfl⟩ := hw
  rcases (show k = 0 ∨ k = 1 ∨ k = 2 ∨ k = 3 by omega) with rfl | rfl | rfl | rfl
  · exact tw_90
  · exact tw_92
  · exact tw_94
  · exact tw_96
abbrev yR_init : MethodName := ⟨"RevisionGrove$Revisions", "<init>", "()V"⟩
abbrev yR_count : MethodName := ⟨"RevisionGrove$Revisions", "count", "()I"⟩
abbrev yR_has : MethodName := ⟨"RevisionGrove$Revisions", "has", "(I)Z"⟩
abbrev yR_fields : MethodName := ⟨"RevisionGrove$Revisions", "fields", "(I)LRevisionGrove$Fields;"⟩
abbrev yR_firstParent : MethodName := ⟨"RevisionGrove$Revisions", "firstParent", "(I)I"⟩
abbrev yR_secondParent : MethodName := ⟨"RevisionGrove$Revisions", "secondParent", "(I)I"⟩
abbrev yR_ancestorsOf : MethodName := ⟨"RevisionGrove$Revisions", "ancestorsOf", "(I)J"⟩
abbrev yR_isAncestor : MethodName := ⟨"RevisionGrove$Revisions", "isAncestor", "(II)Z"⟩
abbrev yR_latestShared : MethodName := ⟨"RevisionGrove$Revisions", "latestShared", "(II)I"⟩
abbrev yR_make : MethodName := ⟨"RevisionGrove$Revisions", "make", "(LRevisionGrove$Fields;II)I"⟩
abbrev yR_keepOnly : MethodName := ⟨"RevisionGrove$Revisions", "keepOnly", "(J)V"⟩
abbrev yR_newNumber : MethodName := ⟨"RevisionGrove$Revisions", "newNumber", "(I)I"⟩
abbrev yR_link : MethodName := ⟨"RevisionGrove$Revisions", "link", "(III)V"⟩
abbrev yR_ancestorsOrNone : MethodName := ⟨"RevisionGrove$Revisions", "ancestorsOrNone", "(I)J"⟩
abbrev yR_holds : MethodName := ⟨"RevisionGrove$Revisions", "holds", "(JI)Z"⟩
def TR : u_T := fun k => match k with
  | 0 => ("RevisionGrove$Revisions", "records", "[LRevisionGrove$Fields;", true)
  | 1 => ("RevisionGrove$Revisions", "firstParents", "[I", true)
  | 2 => ("RevisionGrove$Revisions", "secondParents", "[I", true)
  | 3 => ("RevisionGrove$Revisions", "ancestors", "[J", true)
  | 4 => ("RevisionGrove$Revisions", "newNumbers", "[I", true)
  | _ => ("RevisionGrove$Revisions", "count", "I", false)
def tyR : Nat → FieldType := fun k => match k with
  | 0 => .array (.object "RevisionGrove$Fields")
  | 1 => .array .int
  | 2 => .array .int
  | 3 => .array .long
  | 4 => .array .int
  | _ => .int
theorem nmR : ∀ a, a < 6 → ∀ b, b < 6 → a ≠ b → (TR a).2.1 ≠ (TR b).2.1 := by decide +kernel
theorem tyR_ok : ∀ k, k < 6 → parseFieldDescriptor (TR k).2.2.1 = some (tyR k) := by decide +kernel
theorem inR : ∀ w ∈ u_ws "RevisionGrove$Revisions" TR 6, w ∈ rg_tbl := by
  intro w hw
  simp only [u_ws, List.mem_map, List.mem_range] at hw
  obtain ⟨k, hk, rfl⟩ := hw
  rcases (show k = 0 ∨ k = 1 ∨ k = 2 ∨ k = 3 ∨ k = 4 ∨ k = 5 by omega) with rfl | rfl | rfl | rfl | rfl | rfl
  · exact tw_50
  · exact tw_52
  · exact tw_54
  · exact tw_56
  · exact tw_58
  · exact tw_60
abbrev yB_init : MethodName := ⟨"RevisionGrove$Branches", "<init>", "()V"⟩
abbrev yB_presentBranch : MethodName := ⟨"RevisionGrove$Branches", "presentBranch", "()I"⟩
abbrev yB_presentRevision : MethodName := ⟨"RevisionGrove$Branches", "presentRevision", "()I"⟩
abbrev yB_revisionOf : MethodName := ⟨"RevisionGrove$Branches", "revisionOf", "(I)I"⟩
abbrev yB_undoneCount : MethodName := ⟨"RevisionGrove$Branches", "undoneCount", "()I"⟩
abbrev yB_makePresent : MethodName := ⟨"RevisionGrove$Branches", "makePresent", "(I)V"⟩
abbrev yB_lead : MethodName := ⟨"RevisionGrove$Branches", "lead", "(II)V"⟩
abbrev yB_come : MethodName := ⟨"RevisionGrove$Branches", "come", "(I)V"⟩
abbrev yB_stepBack : MethodName := ⟨"RevisionGrove$Branches", "stepBack", "(I)V"⟩
abbrev yB_stepForward : MethodName := ⟨"RevisionGrove$Branches", "stepForward", "()V"⟩
abbrev yB_needed : MethodName := ⟨"RevisionGrove$Branches", "needed", "(LRevisionGrove$Revisions;)J"⟩
abbrev yB_renumber : MethodName := ⟨"RevisionGrove$Branches", "renumber", "(LRevisionGrove$Revisions;)V"⟩
def TB : u_T := fun k => match k with
  | 0 => ("RevisionGrove$Branches", "pointed", "[I", true)
  | 1 => ("RevisionGrove$Branches", "undone", "[[I", true)
  | 2 => ("RevisionGrove$Branches", "undoneCounts", "[I", true)
  | _ => ("RevisionGrove$Branches", "present", "I", false)
def tyB : Nat → FieldType := fun k => match k with
  | 0 => .array .int
  | 1 => .array (.array .int)
  | 2 => .array .int
  | _ => .int
theorem nmB : ∀ a, a < 4 → ∀ b, b < 4 → a ≠ b → (TB a).2.1 ≠ (TB b).2.1 := by decide +kernel
theorem tyB_ok : ∀ k, k < 4 → parseFieldDescriptor (TB k).2.2.1 = some (tyB k) := by decide +kernel
theorem inB : ∀ w ∈ u_ws "RevisionGrove$Branches" TB 4, w ∈ rg_tbl := by
  intro w hw
  simp only [u_ws, List.mem_map, List.mem_range] at hw
  obtain ⟨k, hk, rfl⟩ := hw
  rcases (show k = 0 ∨ k = 1 ∨ k = 2 ∨ k = 3 by omega) with rfl | rfl | rfl | rfl
  · exact tw_75
  · exact tw_77
  · exact tw_79
  · exact tw_81
abbrev yF_init : MethodName := ⟨"RevisionGrove$Fields", "<init>", "()V"⟩
abbrev yF_cell : MethodName := ⟨"RevisionGrove$Fields", "cell", "(I)J"⟩
abbrev yF_setCell : MethodName := ⟨"RevisionGrove$Fields", "setCell", "(IJ)V"⟩
abbrev yF_length : MethodName := ⟨"RevisionGrove$Fields", "length", "(I)I"⟩
abbrev yF_hasPlace : MethodName := ⟨"RevisionGrove$Fields", "hasPlace", "(II)Z"⟩
abbrev yF_intAt : MethodName := ⟨"RevisionGrove$Fields", "intAt", "(II)J"⟩
abbrev yF_insertInt : MethodName := ⟨"RevisionGrove$Fields", "insertInt", "(III)V"⟩
abbrev yF_removeInt : MethodName := ⟨"RevisionGrove$Fields", "removeInt", "(II)V"⟩
abbrev yF_clearList : MethodName := ⟨"RevisionGrove$Fields", "clearList", "(I)V"⟩
abbrev yF_append : MethodName := ⟨"RevisionGrove$Fields", "append", "(ILRevisionGrove$Fields;II)V"⟩
abbrev yF_isSame : MethodName := ⟨"RevisionGrove$Fields", "isSame", "(LRevisionGrove$Fields;I)Z"⟩
abbrev yF_sameAtBeginning : MethodName := ⟨"RevisionGrove$Fields", "sameAtBeginning", "(LRevisionGrove$Fields;I)I"⟩
abbrev yF_sameAtEnd : MethodName := ⟨"RevisionGrove$Fields", "sameAtEnd", "(LRevisionGrove$Fields;II)I"⟩
abbrev yF_take : MethodName := ⟨"RevisionGrove$Fields", "take", "(LRevisionGrove$Fields;I)V"⟩
abbrev yF_takeAll : MethodName := ⟨"RevisionGrove$Fields", "takeAll", "(LRevisionGrove$Fields;)V"⟩
abbrev yF_hasSamePlaces : MethodName := ⟨"RevisionGrove$Fields", "hasSamePlaces", "(LRevisionGrove$Fields;I)Z"⟩
abbrev yF_firstPlace : MethodName := ⟨"RevisionGrove$Fields", "firstPlace", "(I)I"⟩
def TF : u_T := fun k => match k with
  | _ => ("RevisionGrove$Fields", "cells", "[J", true)
def tyF : Nat → FieldType := fun k => match k with
  | _ => .array .long
theorem nmF : ∀ a, a < 1 → ∀ b, b < 1 → a ≠ b → (TF a).2.1 ≠ (TF b).2.1 := by decide +kernel
theorem tyF_ok : ∀ k, k < 1 → parseFieldDescriptor (TF k).2.2.1 = some (tyF k) := by decide +kernel
theorem inF : ∀ w ∈ u_ws "RevisionGrove$Fields" TF 1, w ∈ rg_tbl := by
  intro w hw
  simp only [u_ws, List.mem_map, List.mem_range] at hw
  obtain ⟨k, hk, rfl⟩ := hw
  rcases (show k = 0 by omega) with rfl
  · exact tw_39
abbrev yC_init : MethodName := ⟨"RevisionGrove$Change", "<init>", "(LRevisionGrove$Fields;LRevisionGrove$Fields;I)V"⟩
abbrev yC_growth : MethodName := ⟨"RevisionGrove$Change", "growth", "()I"⟩
def TC : u_T := fun k => match k with
  | 0 => ("RevisionGrove$Change", "version", "LRevisionGrove$Fields;", true)
  | 1 => ("RevisionGrove$Change", "begin", "I", true)
  | 2 => ("RevisionGrove$Change", "end", "I", true)
  | _ => ("RevisionGrove$Change", "versionEnd", "I", true)
def tyC : Nat → FieldType := fun k => match k with
  | 0 => .object "RevisionGrove$Fields"
  | 1 => .int
  | 2 => .int
  | _ => .int
theorem nmC : ∀ a, a < 4 → ∀ b, b < 4 → a ≠ b → (TC a).2.1 ≠ (TC b).2.1 := by decide +kernel
theorem tyC_ok : ∀ k, k < 4 → parseFieldDescriptor (TC k).2.2.1 = some (tyC k) := by decide +kernel
theorem inC : ∀ w ∈ u_ws "RevisionGrove$Change" TC 4, w ∈ rg_tbl := by
  intro w hw
  simp only [u_ws, List.mem_map, List.mem_range] at hw
  obtain ⟨k, hk, rfl⟩ := hw
  rcases (show k = 0 ∨ k = 1 ∨ k = 2 ∨ k = 3 by omega) with rfl | rfl | rfl | rfl
  · exact tw_524
  · exact tw_526
  · exact tw_528
  · exact tw_530
abbrev yJ_join : MethodName := ⟨"RevisionGrove$Joining", "join", "(LRevisionGrove$Fields;LRevisionGrove$Fields;LRevisionGrove$Fields;LRevisionGrove$Fields;LRevisionGrove$Fields;)I"⟩
abbrev yJ_joinField : MethodName := ⟨"RevisionGrove$Joining", "joinField", "(LRevisionGrove$Fields;LRevisionGrove$Fields;LRevisionGrove$Fields;LRevisionGrove$Fields;I)Z"⟩
abbrev yJ_joinedSet : MethodName := ⟨"RevisionGrove$Joining", "joinedSet", "(JJJ)J"⟩
abbrev yJ_joinList : MethodName := ⟨"RevisionGrove$Joining", "joinList", "(LRevisionGrove$Fields;LRevisionGrove$Fields;LRevisionGrove$Change;LRevisionGrove$Change;I)Z"⟩
