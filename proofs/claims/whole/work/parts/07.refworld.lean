/-! The reference's world; calls by the one list of words. -/
abbrev rg_cl : List vw_C := [("RevisionGroveModel", TM, 19), ("RevisionGrove", TG, 4), ("RevisionGrove$Revisions", TR, 6), ("RevisionGrove$Branches", TB, 4), ("RevisionGrove$Fields", TF, 1), ("RevisionGrove$Change", TC, 4)]
def rm_W (h : Nat) (a : Nat → Nat) (cI cL : ClassId) (cod : Int32) (cnt : Int32) (bra : Int32) (cof : Int32) (mad : Int32) (nu : Nat → Int32) (co : Nat → Int64) (se : Nat → Int32) (li : Nat → Int32) (le : Nat → Int32) (fi : Nat → Int32) (sc : Nat → Int32) (ti : Nat → Int32) (un : Nat → Int32) (ma : Nat → Int32) (dr : Nat → Int32) (fr : Nat → Int32) (to : Nat → Int32) (en : Nat → Int32) : va_W :=
  [(h, .inr (0, [.int cod, .int cnt, .ref (a 1), .ref (a 2), .ref (a 3), .ref (a 4), .ref (a 5), .ref (a 6), .ref (a 7), .int bra, .ref (a 8), .ref (a 9), .ref (a 10), .int cof, .int mad, .ref (a 11), .ref (a 12), .ref (a 13), .ref (a 14)])), (a 1, .inl (cI, 122, .inl nu)), (a 2, .inl (cL, 122, .inr (.inl co))), (a 3, .inl (cI, 122, .inl se)), (a 4, .inl (cI, 976, .inl li)), (a 5, .inl (cI, 122, .inl le)), (a 6, .inl (cI, 61, .inl fi)), (a 7, .inl (cI, 61, .inl sc)), (a 8, .inl (cI, 4, .inl ti)), (a 9, .inl (cI, 240, .inl un)), (a 10, .inl (cI, 4, .inl ma)), (a 11, .inl (cI, 24, .inl dr)), (a 12, .inl (cI, 2, .inl fr)), (a 13, .inl (cI, 2, .inl to)), (a 14, .inl (cI, 2, .inl en))]
theorem rg_gV {own C : String} {idx maxL : Nat} {y : MethodName} {c : ByteArray} {ret : Option FieldType} (h1 : Cond.methodLink own idx y ∈ rg_tbl) (h2 : Cond.instanceMethod y ∈ rg_tbl) (h3 : Cond.selects C y y ∈ rg_tbl) (h4 : Cond.initialized C ∈ rg_tbl) (h5 : Cond.code y c maxL ret ∈ rg_tbl) : GoodIn rg_tbl (wsV own idx C y (Cond.code y c maxL ret :: rg_tbl)) := by
  intro w hw
  unfold wsV at hw
  have h9 : w ∈ rg_tbl := by
    rcases List.mem_append.mp hw with h | h
    · simp only [List.mem_cons, List.not_mem_nil, or_false] at h
      rcases h with rfl | rfl | rfl | rfl <;> assumption
    · rcases List.mem_cons.mp h with rfl | h
      · exact h5
      · exact h
  exact ⟨h9, rg_good h9⟩
theorem rg_gS {own : String} {idx maxL : Nat} {y : MethodName} {c : ByteArray} {ret : Option FieldType} (h1 : Cond.methodLink own idx y ∈ rg_tbl) (h2 : Cond.static y ∈ rg_tbl) (h4 : Cond.initialized own ∈ rg_tbl) (h5 : Cond.code y c maxL ret ∈ rg_tbl) : GoodIn rg_tbl (wsS own idx y (Cond.code y c maxL ret :: rg_tbl)) := by
  intro w hw
  unfold wsS at hw
  have h9 : w ∈ rg_tbl := by
    rcases List.mem_append.mp hw with h | h
    · simp only [List.mem_cons, List.not_mem_nil, or_false] at h
      rcases h with rfl | rfl | rfl <;> assumption
    · rcases List.mem_cons.mp h with rfl | h
      · exact h5
      · exact h
  exact ⟨h9, rg_good h9⟩
