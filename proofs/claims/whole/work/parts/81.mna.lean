/-! new int[4][60]: an own row out of the machine's words. -/
/-- the word arrayOver of an array type, apart from a call's arguments -/
def va_AOA (t : FieldType) (U : State) : Prop := (Cond.arrayOver (.array t)).before #[] U = true
theorem va_AOA.use {t : FieldType} {A : Array Value} {U : State} (h : va_AOA t U) : (Cond.arrayOver (.array t)).before A U = true := h
theorem va_AOA.moved {t : FieldType} {u U : State} (hvm : u.vm.Alike U.vm) (h : va_AOA t u) : va_AOA t U := by
  unfold va_AOA Cond.before Cond.holds at h ⊢
  simp only [Cond.value] at h ⊢
  simp only [hvm.findClass]
  cases hc : u.vm.findClass (FieldType.array t).toString with
  | none => rw [hc] at h; simp at h
  | some comp =>
    rw [hc, Option.bind_some, beq_iff_eq, Option.bind_eq_some_iff] at h
    obtain ⟨c, hi, h3⟩ := h
    rw [Option.map_eq_some_iff] at h3
    obtain ⟨k, hk, h4⟩ := h3
    obtain ⟨k', hk', he⟩ := hvm.2.2 _ _ hk
    have hi2 : (U.vm.classes.findIdx? fun (x : Class) => match x.kind with | .array component _ => component == comp | _ => false) = some c := by
      have e1 := va_idx_bare U.vm comp
      have e2 := va_idx_bare u.vm comp
      rw [show U.vm.bare = u.vm.bare by first | exact hvm.bare_eq | exact hvm.bare_eq.symm] at e1
      exact e1.symm.trans (e2.trans hi)
    rw [Option.bind_some, beq_iff_eq, Option.bind_eq_some_iff]
    refine ⟨c, hi2, ?_⟩
    rw [hk', Option.map_some, show k'.kind = k.kind by rw [he]]
    exact congrArg some h4
theorem va_AOA.spec {t : FieldType} {U : State} (h : va_AOA t U) : ∃ (comp c : ClassId) (k : Class), U.vm.findClass (FieldType.array t).toString = some comp ∧ U.vm.classes[c]? = some k ∧ k.kind = .array comp (.array t) ∧ U.vm.findClass ("[" ++ (FieldType.array t).toString) = some c := by
  unfold va_AOA Cond.before Cond.holds at h
  simp only [Cond.value] at h
  cases hc : U.vm.findClass (FieldType.array t).toString with
  | none => rw [hc] at h; simp at h
  | some comp =>
    rw [hc, Option.bind_some, beq_iff_eq, Option.bind_eq_some_iff] at h
    obtain ⟨c, hi, h3⟩ := h
    rw [Option.map_eq_some_iff] at h3
    obtain ⟨k, hk, h4⟩ := h3
    obtain ⟨hlt, hp, -⟩ := Array.findIdx?_eq_some_iff_getElem.mp hi
    have hkk : U.vm.classes[c] = k := (Array.getElem?_eq_some_iff.mp hk).2
    rw [hkk] at hp
    cases hkind : k.kind with
    | array component ty =>
      rw [hkind] at h4 hp
      have e1 : component = comp := by simpa using hp
      rw [Bool.and_eq_true, decide_eq_true_iff, decide_eq_true_iff] at h4
      exact ⟨comp, c, k, rfl, hk, by rw [hkind, e1, h4.1], h4.2⟩
    | _ => rw [hkind] at h4; cases h4
-- the machine's states while the rows are made
def rn_out (cA : ClassId) (h i : Nat) : Cell := arrV cA 4 (fun j => va_rf (if j < i then some (h + 1 + j) else none))
def rn_in (cI : ClassId) : Cell := arrV cI 60 (fun _ => .int 0)
theorem rn_out_s (cA : ClassId) (h i : Nat) : (rn_out cA h i).setSlot i (.ref (h + 1 + i)) = rn_out cA h (i + 1) := by
  unfold rn_out
  rw [arrV_store]
  refine congrArg (arrV cA 4) (funext fun j => ?_)
  by_cases e : j = i
  · subst e
    simp [updV, va_rf]
  · by_cases h1 : j < i
    · simp [updV, e, h1, Nat.lt_succ_of_lt h1]
    · simp [updV, e, h1, show ¬ j < i + 1 by omega]
def rn_st (S : State) (cA cI : ClassId) : Nat → State
  | 0 => S.pushCell (rn_out cA S.heap.size 0)
  | i + 1 => ((rn_st S cA cI i).pushCell (rn_in cI)).setCell S.heap.size (rn_out cA S.heap.size (i + 1))
theorem rn_facts (S : State) (cA cI : ClassId) : ∀ i, (rn_st S cA cI i).heap.size = S.heap.size + 1 + i ∧ (rn_st S cA cI i).heap[S.heap.size]? = some (rn_out cA S.heap.size i) ∧ (rn_st S cA cI i).vm = S.vm ∧ (rn_st S cA cI i).slotsUsed = S.slotsUsed + 4 + i * 60 ∧ (∀ a : Nat, a < S.heap.size → (rn_st S cA cI i).heap[a]? = S.heap[a]?) ∧ ∀ j, j < i → (rn_st S cA cI i).heap[S.heap.size + 1 + j]? = some (rn_in cI) := by
  intro i
  induction i with
  | zero => exact ⟨by simp [rn_st], by simp [rn_st], rfl, by simp [rn_st, rn_out, arrV_size], fun a ha => State.heap_pushCell_of_lt _ _ ha, fun j hj => absurd hj (Nat.not_lt_zero j)⟩
  | succ i ih =>
    obtain ⟨f1, f2, f3, f4, f5, f6⟩ := ih
    have hlt : S.heap.size < (rn_st S cA cI i).heap.size := by omega
    have g2 : ((rn_st S cA cI i).pushCell (rn_in cI)).heap[S.heap.size]? = some (rn_out cA S.heap.size i) := by rw [State.heap_pushCell_of_lt (h := hlt)]; exact f2
    refine ⟨?_, State.heap_setCell_self g2, by simp [rn_st, f3], ?_, fun a ha => ?_, fun j hj => ?_⟩
    · simp [rn_st, State.setCell, f1]; omega
    · simp [rn_st, f4, rn_in, arrV_size]; omega
    · show (((rn_st S cA cI i).pushCell (rn_in cI)).setCell S.heap.size _).heap[a]? = _
      rw [State.heap_setCell_other (Nat.ne_of_gt ha), State.heap_pushCell_of_lt (h := show a < (rn_st S cA cI i).heap.size by omega)]
      exact f5 a ha
    · show (((rn_st S cA cI i).pushCell (rn_in cI)).setCell S.heap.size _).heap[S.heap.size + 1 + j]? = _
      rw [State.heap_setCell_other (show S.heap.size ≠ S.heap.size + 1 + j by omega)]
      by_cases hji : j < i
      · rw [State.heap_pushCell_of_lt (h := show S.heap.size + 1 + j < (rn_st S cA cI i).heap.size by omega)]
        exact f6 j hji
      · rw [show S.heap.size + 1 + j = (rn_st S cA cI i).heap.size by omega]
        exact State.heap_pushCell_size _ _
theorem rn_top (S : State) (f : JFrame) (cA cI : ClassId) : ∀ i, rn_st (S.setTop f) cA cI i = (rn_st S cA cI i).setTop f := by
  intro i
  induction i with
  | zero => rfl
  | succ i ih => simp only [rn_st, ih, State.heap_setTop, State.pushCell_setTop, State.setCell_setTop]
section RNM
variable {E : CtlPost} {e : Env} {d : Bool} {acts : List Action} {S : State}
theorem rn_row {cI c0 : ClassId} {kI : Class} (hkI : S.vm.classes[cI]? = some kI) (hkindI : kI.kind = .array c0 .int) (hl : 60 ≤ e.platform.arrayLengthLimit) (hh : 240 ≤ e.platform.maxHeapBytes) (hc : S.heap.size < e.platform.maxCells) (hs : S.slotsUsed + 60 ≤ e.platform.maxSlots)
    {Q : Addr → Pre} (hq : ∀ acts', Q S.heap.size d acts' (S.pushCell (rn_in cI))) : wp (multianewarray.make cI [nI 60]) Q E e d acts S := by
  rw [multianewarray.make]
  simp only [wp_bind', W.ite, show ¬ nI 60 < 0 by decide, if_false, wp_pure', W.theClass, hkI, hkindI, Option.some.injEq, exists_eq_left']
  refine W.newArray_of hkI hkindI (by show ¬ 60 > _; omega) (by show ¬ 60 * 4 > _; omega) hc (by show S.slotsUsed + 60 ≤ _; exact hs) rfl (fun acts' => ?_)
  have e1 : ({ cls := cI, slots := Array.replicate (nI 60).toNatClampNeg (defaultValue .int) } : Cell) = rn_in cI := arrV_new cI 60 (.int 0)
  rw [e1]
  exact hq acts'
theorem rn_make {cA cI c0 : ClassId} {kA kI : Class} (hkA : S.vm.classes[cA]? = some kA) (hkindA : kA.kind = .array cI (.array .int)) (hkI : S.vm.classes[cI]? = some kI) (hkindI : kI.kind = .array c0 .int) (hl : 60 ≤ e.platform.arrayLengthLimit) (hh : 240 ≤ e.platform.maxHeapBytes) (hc : S.heap.size + 5 ≤ e.platform.maxCells) (hs : S.slotsUsed + 244 ≤ e.platform.maxSlots)
    {Q : Addr → Pre} (hq : ∀ d' acts', Q S.heap.size d' acts' (rn_st S cA cI 4)) : wp (multianewarray.make cA [nI 4, nI 60]) Q E e d acts S := by
  rw [multianewarray.make]
  simp only [wp_bind', W.ite, show ¬ nI 4 < 0 by decide, if_false, wp_pure', W.theClass, hkA, hkindA, Option.some.injEq, exists_eq_left']
  refine W.newArray_of hkA hkindA (by show ¬ 4 > _; omega) (by show ¬ 4 * 4 > _; omega) (by omega) (by show S.slotsUsed + 4 ≤ _; omega) rfl (fun acts' => ?_)
  have e1 : ({ cls := cA, slots := Array.replicate (nI 4).toNatClampNeg .null } : Cell) = rn_out cA S.heap.size 0 := by
    rw [show (nI 4).toNatClampNeg = 4 by decide]
    refine (arrV_new cA 4 .null).trans ?_
    unfold rn_out
    refine congrArg (arrV cA 4) (funext fun j => ?_)
    simp [va_rf]
  rw [e1]
  simp only [show ([nI 60].find? (fun x => decide (x < 0))) = none by decide]
  rw [ite_self, wp_bind', Std.Legacy.Range.forIn_eq_forIn_range']
  show wp (forIn (List.range' 0 4 1) PUnit.unit _) _ E e d acts' _
  refine wp_forIn_inv (fun rest s' => ∃ i, i ≤ 4 ∧ rest = List.range' i (4 - i) ∧ s' = rn_st S cA cI i) _ _ ⟨0, Nat.zero_le _, rfl, rfl⟩ ?_ ?_
  · rintro x rest s' d' acts9 Q' ⟨i, hi, hr, rfl⟩ hnext
    have hlt : i < 4 := by
      rcases Nat.lt_or_ge i 4 with h | h
      · exact h
      · rw [show 4 - i = 0 by omega] at hr; cases hr
    rw [show 4 - i = (4 - (i + 1)) + 1 by omega, List.range'_succ] at hr
    obtain ⟨rfl, hrest⟩ := List.cons.inj hr
    obtain ⟨f1, f2, f3, f4, -, -⟩ := rn_facts S cA cI x
    simp only [wp_bind']
    refine rn_row (by rw [f3]; exact hkI) hkindI hl hh (by omega) (by omega) (fun acts8 => ?_)
    simp only [wp_bind', W.writeLoc, wp_pure']
    refine ⟨rn_out cA S.heap.size x, by rw [State.heap_pushCell_of_lt (h := show S.heap.size < (rn_st S cA cI x).heap.size by omega)]; exact f2, by unfold rn_out; simp [arrV], by unfold rn_out; rw [arrV_size]; exact hlt, ?_, hnext _ _ _ ⟨x + 1, hlt, hrest, ?_⟩⟩
    · unfold rn_out
      simp [State.fitsSlot, State.slotType?, arrV, f3, hkA, hkindA, fits]
    · rw [f1, rn_out_s]
      rfl
  · rintro s' d' acts9 ⟨i, hi, hr, rfl⟩
    have hi4 : i = 4 := by
      rcases Nat.lt_or_ge i 4 with h | h
      · rw [show 4 - i = (4 - (i + 1)) + 1 by omega, List.range'_succ] at hr; cases hr
      · omega
    subst hi4
    simp only [wp_pure']
    exact hq _ _
end RNM
section RNS
variable {p : Program} {l : Launch} {e : Env} {R : Room} {s : State} {m : MethodId} {args : Array Value} {below : List Frame} {meth : Method} {c : Code} {T : State} {locs : List Loc} {cells slots : Nat}
theorem rn_stand (X : Stand p l e R s m args below meth c T locs cells slots) (cA cI : ClassId) : ∀ i, ∃ J : List Loc, (∀ x ∈ J, s.heap.size ≤ x.base) ∧ Stand p l e R s m args below meth c (rn_st T cA cI i) (locs ++ J) (cells + 1 + i) (slots + 4 + i * 60) := by
  intro i
  induction i with
  | zero =>
    have h := X.pushed (rn_out cA T.heap.size 0)
    rw [show (rn_out cA T.heap.size 0).slots.size = 4 by unfold rn_out; rw [arrV_size]] at h
    exact ⟨[], fun x hx => absurd hx List.not_mem_nil, by rw [List.append_nil]; exact h⟩
  | succ i ih =>
    obtain ⟨J, hJ, Xi⟩ := ih
    obtain ⟨f1, f2, -, -, -, -⟩ := rn_facts T cA cI i
    have hcell : ((rn_st T cA cI i).pushCell (rn_in cI)).heap[T.heap.size]? = some (rn_out cA T.heap.size i) := by rw [State.heap_pushCell_of_lt (h := show T.heap.size < (rn_st T cA cI i).heap.size by omega)]; exact f2
    have h := (Xi.pushed (rn_in cI)).stored hcell i (.ref (T.heap.size + 1 + i))
    rw [rn_out_s, show (rn_in cI).slots.size = 60 by unfold rn_in; rw [arrV_size], List.append_assoc] at h
    refine ⟨J ++ [⟨T.heap.size, i⟩], fun x hx => ?_, ?_⟩
    · rcases List.mem_append.mp hx with h9 | h9
      · exact hJ x h9
      · rw [List.mem_singleton.mp h9]; exact X.same.2.1
    · rw [show slots + 4 + (i + 1) * 60 = slots + 4 + i * 60 + 60 by omega]
      exact h
theorem rn_step (X : Stand p l e R s m args below meth c T locs cells slots) (hexec : p.tables.exec = Jvm.exec) {own : String} {index : Nat} (hown : s.vm.findClass own = some m.cls) (hclink : (Cond.classLink own index "[[I").before args s = true) (hover : va_AOA .int s) (harr : (Cond.arrayClass .int).before args s = true)
    {g : JFrame} (hg : g.method = m) (hdg : decode c.code g.pc = .ok (.multianewarray index 2, 4)) {rest : List Value} (hstack : g.stack = .int (nI 60) :: .int (nI 4) :: rest) (hcells : cells + 5 ≤ R.cells) (hslots : slots + 244 ≤ R.slots) :
    ∃ (vm₁ : Vm) (cA cI : ClassId), s.vm.findClass "[[I" = some cA ∧ s.vm.findClass "[I" = some cI ∧ Stand p l e R s m args below meth c (rn_st (T.setVm vm₁) cA cI 4) locs (cells + 5) (slots + 244) ∧
      ∀ target, Steps p.tables e below ((rn_st (T.setVm vm₁) cA cI 4).setTop { g with pc := g.pc + 4, stack := .ref T.heap.size :: rest }) target → Steps p.tables e below (T.setTop g) target := by
  subst hg
  have hpl : e.platform.magicAccessors = ({} : Platform).magicAccessors := by rw [X.admits.platform]
  obtain ⟨cI, cA, kA, hcI, hkA, hkindA, hcA⟩ := va_AOA.spec hover
  obtain ⟨cI9, kI, c0, hcI9, hkI, hkindI⟩ := Cond.arrayClass_spec harr
  obtain rfl : cI9 = cI := Option.some.inj (hcI9.symm.trans hcI)
  obtain ⟨cA9, hcA9, hcl⟩ := Cond.classLink_spec hown hclink e.platform hpl
  obtain rfl : cA9 = cA := Option.some.inj (hcA9.symm.trans hcA)
  obtain ⟨hg₁, hwarm₁, -⟩ := State.classEntry (e := e) X.warmed hcl
  generalize T.vm.noted g.method.cls index (.cls cA9) = vm₁ at hg₁ hwarm₁
  obtain ⟨kA₁, hkA₁, heA⟩ := hwarm₁.alike.2.2 _ _ hkA
  obtain ⟨kI₁, hkI₁, heI⟩ := hwarm₁.alike.2.2 _ _ hkI
  have X₁ := X.noted hwarm₁
  obtain ⟨J, hJ, XF⟩ := rn_stand X₁ cA9 cI9 4
  obtain ⟨hr1, hr2⟩ := X.roomAbove hcells hslots
  refine ⟨vm₁, cA9, cI9, hcA, hcI, XF.forget hJ, fun target hrest => ?_⟩
  jvm_step X.here [hexec, hdg]
  simp only [multianewarray.sem, wp_bind', W.resolveClassAt_links (State.method?_setTop g X.here.top) hg₁]
  rw [W.popN, if_neg (by decide)]
  refine ⟨g, State.topJava?_setTop' (s := T.setVm vm₁) g X.here.top, [.int (nI 4), .int (nI 60)], rest, rfl, hstack, ?_⟩
  simp only [List.mapM_cons, List.mapM_nil, wp_bind', wp_pure']
  refine rn_make (S := ((T.setTop g).setVm vm₁).setTop { g with stack := rest }) (kA := kA₁) (kI := kI₁) (c0 := c0) hkA₁ (by rw [heA]; exact hkindA) hkI₁ (by rw [heI]; exact hkindI) (by rw [Launch.admits_arrayLengthLimit X.admits]; decide) (by rw [Launch.admits_maxHeapBytes X.admits]; decide) hr1 hr2 (fun d' acts' => ?_)
  have eS : ((T.setTop g).setVm vm₁).setTop { g with stack := rest } = (T.setVm vm₁).setTop { g with stack := rest } := by
    show ((T.setVm vm₁).setTop g).setTop _ = _
    rw [State.setTop_setTop]
  rw [eS, rn_top]
  simp only [wp_bind', W.mark, W.pushRef, State.topJava?_setTop' _ XF.here.top, Option.some.injEq, exists_eq_left', State.setTop_setTop, State.heap_setTop]
  intro acts
  simp [jvm, XF.here.top]
  exact hrest
end RNS

