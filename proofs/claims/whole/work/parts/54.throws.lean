/-! Throws: what a throw needs; contracts of methods that return or throw. -/
abbrev rx_names : List String := ["java/lang/RuntimeException", "java/lang/Exception"]
def rx_bad : List Cond := [.castable "java/lang/IllegalArgumentException" "java/lang/IllegalArgumentException", .castable "java/lang/IllegalStateException" "java/lang/IllegalStateException", .castable "java/lang/IndexOutOfBoundsException" "java/lang/IndexOutOfBoundsException", .castable "java/util/NoSuchElementException" "java/util/NoSuchElementException", .declares ⟨"java/lang/RuntimeException", "<init>", "(Ljava/lang/String;)V"⟩, .declares ⟨"java/lang/Exception", "<init>", "(Ljava/lang/String;)V"⟩, .declares ⟨"java/lang/Throwable", "<init>", "(Ljava/lang/String;)V"⟩, .fieldLinkNest "RevisionGrove$Joining" 71 "RevisionGrove$Change" "version" "LRevisionGrove$Fields;" "RevisionGrove", .fieldLinkNest "RevisionGrove$Joining" 52 "RevisionGrove$Change" "begin" "I" "RevisionGrove", .fieldLinkNest "RevisionGrove$Joining" 48 "RevisionGrove$Change" "end" "I" "RevisionGrove", .fieldLinkNest "RevisionGrove$Joining" 75 "RevisionGrove$Change" "versionEnd" "I" "RevisionGrove"]
def rx_strs : List (Nat × String) := [(185, "no field of this kind"), (205, "no room for another revision"), (55, "no such element"), (67, "no such place to insert at"), (72, "the list is full"), (83, "no int at this place"), (187, "no such branch"), (193, "no such revision"), (116, "nothing to undo"), (125, "nothing to redo"), (130, "no such side"), (142, "a conflict is left"), (151, "no such field"), (183, "no such figure")]
theorem rx_inA : ∀ w ∈ (vx_atS "RevisionGrove" 57 "java/lang/IllegalArgumentException" rx_names).filter goodWord, w ∈ lw_tbl := by decide +kernel
theorem rx_bdA : ∀ w ∈ (vx_atS "RevisionGrove" 57 "java/lang/IllegalArgumentException" rx_names).filter (fun w => !goodWord w), w ∈ rx_bad := by decide +kernel
theorem rx_gdA : ∀ w ∈ Cond.classLink "RevisionGrove" 53 "java/lang/IllegalArgumentException" :: Cond.initialized "java/lang/IllegalArgumentException" :: vx_atS "RevisionGrove" 57 "java/lang/IllegalArgumentException" rx_names, vx_ot w = true := by decide +kernel
theorem rx_clA : Cond.classLink "RevisionGrove" 53 "java/lang/IllegalArgumentException" ∈ rg_tbl := rg_mem (List.mem_append_left _ (List.mem_of_getElem? (l := tables_1_1) (i := 162) (by decide +kernel))) (by decide +kernel)
theorem rx_itA : Cond.initialized "java/lang/IllegalArgumentException" ∈ rg_tbl := rg_mem (List.mem_append_left _ (List.mem_of_getElem? (l := tables_1_1) (i := 9) (by decide +kernel))) (by decide +kernel)
theorem rx_inS : ∀ w ∈ (vx_atS "RevisionGrove" 74 "java/lang/IllegalStateException" rx_names).filter goodWord, w ∈ lw_tbl := by decide +kernel
theorem rx_bdS : ∀ w ∈ (vx_atS "RevisionGrove" 74 "java/lang/IllegalStateException" rx_names).filter (fun w => !goodWord w), w ∈ rx_bad := by decide +kernel
theorem rx_gdS : ∀ w ∈ Cond.classLink "RevisionGrove" 70 "java/lang/IllegalStateException" :: Cond.initialized "java/lang/IllegalStateException" :: vx_atS "RevisionGrove" 74 "java/lang/IllegalStateException" rx_names, vx_ot w = true := by decide +kernel
theorem rx_clS : Cond.classLink "RevisionGrove" 70 "java/lang/IllegalStateException" ∈ rg_tbl := rg_mem (List.mem_append_right _ (List.mem_append_left _ (List.mem_of_getElem? (l := tables_1_2) (i := 27) (by decide +kernel)))) (by decide +kernel)
theorem rx_itS : Cond.initialized "java/lang/IllegalStateException" ∈ rg_tbl := rg_mem (List.mem_append_left _ (List.mem_of_getElem? (l := tables_1_1) (i := 11) (by decide +kernel))) (by decide +kernel)
theorem rx_inB : ∀ w ∈ (vx_atS "RevisionGrove" 69 "java/lang/IndexOutOfBoundsException" rx_names).filter goodWord, w ∈ lw_tbl := by decide +kernel
theorem rx_bdB : ∀ w ∈ (vx_atS "RevisionGrove" 69 "java/lang/IndexOutOfBoundsException" rx_names).filter (fun w => !goodWord w), w ∈ rx_bad := by decide +kernel
theorem rx_gdB : ∀ w ∈ Cond.classLink "RevisionGrove" 65 "java/lang/IndexOutOfBoundsException" :: Cond.initialized "java/lang/IndexOutOfBoundsException" :: vx_atS "RevisionGrove" 69 "java/lang/IndexOutOfBoundsException" rx_names, vx_ot w = true := by decide +kernel
theorem rx_clB : Cond.classLink "RevisionGrove" 65 "java/lang/IndexOutOfBoundsException" ∈ rg_tbl := rg_mem (List.mem_append_right _ (List.mem_append_left _ (List.mem_of_getElem? (l := tables_1_2) (i := 87) (by decide +kernel)))) (by decide +kernel)
theorem rx_itB : Cond.initialized "java/lang/IndexOutOfBoundsException" ∈ rg_tbl := rg_mem (List.mem_append_left _ (List.mem_of_getElem? (l := tables_1_1) (i := 12) (by decide +kernel))) (by decide +kernel)
def rx_T (A : Nat → Prop) (U : State) (H : Heap) : Prop :=
  vx_Zq Bundle.tN "UNASSIGNED_STACK" Bundle.steD A U H ∧ vx_Zq Bundle.tN "SUPPRESSED_SENTINEL" Bundle.listD A U H ∧ (∀ w ∈ rx_bad, va_Nw w U) ∧ ∀ q ∈ rx_strs, ∃ sa, vk_R "RevisionGrove" q.1 q.2 sa U
theorem rx_bad_tab : ∀ w ∈ rx_bad, w.onTables = true := by decide +kernel
theorem rx_bad_warm {s U : State} (hW : s.WarmedH U.vm) (h : ∀ w ∈ rx_bad, va_Nw w s) : ∀ w ∈ rx_bad, va_Nw w U := by
  intro w hw
  have hz := h w hw
  simp only [rx_bad, List.mem_cons, List.not_mem_nil, or_false] at hw
  rcases hw with rfl | rfl | rfl | rfl | rfl | rfl | rfl | rfl | rfl | rfl | rfl
  · exact va_Nw.warmC hW hz
  · exact va_Nw.warmC hW hz
  · exact va_Nw.warmC hW hz
  · exact va_Nw.warmC hW hz
  · exact va_Nw.warmD hW hz
  · exact va_Nw.warmD hW hz
  · exact va_Nw.warmD hW hz
  · exact va_Nw.warmF hW hz
  · exact va_Nw.warmF hW hz
  · exact va_Nw.warmF hW hz
  · exact va_Nw.warmF hW hz
theorem rx_T.call {A B : Nat → Prop} {s U : State} {H : Heap} (h : rx_T A s s.heap) (hW : s.WarmedH U.vm) (hU : U.heap = H) (hk : ∀ a : Nat, a < s.heap.size → ¬ A a → H[a]? = s.heap[a]?) (hAB : ∀ q, B q → A q) : rx_T B U U.heap := by
  obtain ⟨h1, h2, h3, h4⟩ := h
  rw [hU]
  refine ⟨((h1.kept hk).narrow hAB).moved hW.alike, ((h2.kept hk).narrow hAB).moved hW.alike, rx_bad_warm hW h3, fun q hq => ?_⟩
  obtain ⟨sa, h5⟩ := h4 q hq
  exact ⟨sa, h5.warm hW⟩
theorem rx_T.blind {A : Nat → Prop} {U : State} {g : JFrame} {mk : MethodId} {a : Array Value} (h : rx_T A U U.heap) : rx_T A (U.calling g mk a) (U.calling g mk a).heap := by
  obtain ⟨h1, h2, h3, h4⟩ := h
  refine ⟨h1.moved (U := U.calling g mk a) (Vm.Alike.refl U.vm), h2.moved (U := U.calling g mk a) (Vm.Alike.refl U.vm), fun w hw => va_Nw.same (u := U) (U := U.calling g mk a) (rx_bad_tab w hw) rfl (h3 w hw), fun q hq => ?_⟩
  obtain ⟨sa, h5⟩ := h4 q hq
  exact ⟨sa, h5.same (U := U.calling g mk a) rfl⟩
def rx_X (D : va_G) (cl : List vw_C) (tys : List (ClassId × FieldType)) {S : Type} (pX : String → S → Prop) (wX : S → va_W) (A : Nat → Prop) : String → State → State → Prop :=
  fun E st t => ∃ u : S, pX E u ∧ rg_B D cl tys A wX u t ∧ va_F A st t
def rx_M (l : Launch) (y : MethodName) (wd : List Cond) (rm : Room) (D : va_G) (cl : List vw_C) (tys : List (ClassId × FieldType)) (ws : va_W) (av : List Value) (Qc : (Nat → Prop) → Array Value → State → Outcome → State → Prop) (XC : (Nat → Prop) → String → State → State → Prop) (mc ms : Nat) : Prop :=
  ∀ sz : Nat, vx_Met l y wd rm (va_Pc av (fun U => rg_in D cl tys ws sz U ∧ rx_T (va_A ws sz) U U.heap)) (Qc (va_A ws sz)) (XC (va_A ws sz)) mc ms (va_A ws sz)
theorem rx_of {l : Launch} {y : MethodName} {wd wd' : List Cond} {rm : Room} {D : va_G} {cl : List vw_C} {tys : List (ClassId × FieldType)} {ws : va_W} {av : List Value} {Qc : (Nat → Prop) → Array Value → State → Outcome → State → Prop} {XC : (Nat → Prop) → String → State → State → Prop} {mc ms : Nat} (cc : ByteArray) (maxL : Nat) (ret : Option FieldType)
    (hy : plainName y.cls = true) (hw : wd = Cond.code y cc maxL ret :: wd') (hlen : (lg_sl av).length ≤ maxL)
    (body : ∀ (p : Program) (e : Env) (R : Room) (s : State) (m : MethodId) (args : Array Value) (below : List Frame) (meth : Method) (c : Code) (Q : State → Prop) (A : Nat → Prop) (H : Heap) (locs : List Loc) (ls : Array Slot), R = rm → Q = vx_MQ below (Qc A) (XC A) args s mc ms A → p.tables.exec = Jvm.exec → c.code = cc → c.maxLocals = maxL → meth.sig.returnType = ret → (∀ w ∈ wd, w.before args s = true) → s.vm.findClass y.cls = some m.cls → meth.locks = false → meth.name = y.name → (∀ x ∈ c.exceptionTable.toList, False) → rx_T A s s.heap →
      va_P D cl ws H → va_K D cl tys s → va_D A ws → (∀ q : Nat, s.heap.size ≤ q → A q) → va_S A s.heap H locs → lv_has ls maxL (lv_args 0 av) →
      W p l e R s m args below meth c H locs 0 0 Q (F0 m 0 ls [])) : rx_M l y wd rm D cl tys ws av Qc XC mc ms := by
  intro sz
  refine vx_ofW (cc := cc) (maxL := maxL) (ret := ret) hy hw ?_
  intro p e s m args below meth c s₁ B hml hno hv
  obtain ⟨rfl, ⟨hsz, hP, hK, hD0⟩, hT⟩ := hv
  subst hsz
  have hl := lv_entry av (n := maxL) hlen
  rw [lg_entry_eq]
  exact body p e _ s m _ below meth c _ (va_A ws s.heap.size) s.heap [] _ rfl rfl B.exec B.bytes hml B.returns (atoms_spec (ws := wd) B.pre) (findClass_of_methodNamed B.named) B.notSynchronized (name_of_methodNamed B.named B.method).1 hno hT hP hK (hD0.self (sz := s.heap.size)) (fun q h => Or.inr h) va_S.rf hl
section RXA
variable {p : Program} {l : Launch} {e : Env} {R : Room} {s : State} {m : MethodId} {args : Array Value} {below : List Frame} {meth : Method} {c : Code} {H : Heap} {locs : List Loc} {cells slots : Nat} {Q : State → Prop}
variable {cc : ByteArray} {pc : Nat} {ls : Array Slot} {rest st0 : List Value} {D : va_G} {cl : List vw_C} {A : Nat → Prop} {tys : List (ClassId × FieldType)} {ws : va_W} {H0 : Heap} {aa : Array Value} {mc ms mc' ms' : Nat} {Qc : Array Value → State → Outcome → State → Prop}
-- behind a throw the world is as it was
theorem rx_keep {S : Type} {pX : String → S → Prop} {wX : S → va_W} {E : String} {u : S} {t : State} (hu : pX E u) (hw : wX u = ws) (hK : va_K D cl tys s) (hP : va_P D cl ws H) (hD : va_D A ws) (hS : va_S A s.heap H locs) (ha : s.vm.Alike t.vm) (hz : H.size ≤ t.heap.size) (hk : ∀ q : Nat, q < H.size → t.heap[q]? = H[q]?) : rx_X D cl tys pX wX A E s t := by
  subst hw
  refine ⟨u, hu, ⟨fun k q hq => (hP k q hq).kept (hk q.1 (hP k q hq).lt), va_K.moved ha hK, hD⟩, Nat.le_trans hS.1 hz, fun q h1 h2 => ?_⟩
  rw [hk q (Nat.lt_of_lt_of_le h1 hS.1)]
  exact hS.2.1 q h1 h2
theorem rx_throw {cls text : String} {ik is ic : Nat} {S : Type} {pX : String → S → Prop} {wX : S → va_W} (u : S) (hu : pX cls u) (hw : wX u = ws) (hx : p.tables.exec = Jvm.exec) (hb : c.code = cc) (hlt : l.stackTraces = false) (hown : s.vm.findClass "RevisionGrove" = some m.cls) (hts : ∀ w ∈ rg_tbl, w.before args s = true) (hT : rx_T A s s.heap) (hno : ∀ x ∈ c.exceptionTable.toList, False)
    (hcls : Bundle.fit cls = true) (hcl : Cond.classLink "RevisionGrove" ik cls ∈ rg_tbl) (hit : Cond.initialized cls ∈ rg_tbl) (hin : ∀ w ∈ (vx_atS "RevisionGrove" ic cls rx_names).filter goodWord, w ∈ lw_tbl) (hbd : ∀ w ∈ (vx_atS "RevisionGrove" ic cls rx_names).filter (fun w => !goodWord w), w ∈ rx_bad) (hgd : ∀ w ∈ Cond.classLink "RevisionGrove" ik cls :: Cond.initialized cls :: vx_atS "RevisionGrove" ic cls rx_names, vx_ot w = true) (hst : (is, text) ∈ rx_strs)
    (hK : va_K D cl tys s) (hP : va_P D cl ws H) (hD : va_D A ws) (hS : va_S A s.heap H locs) (hsize : ls.size = c.maxLocals)
    (d0 : decode cc pc = .ok (.new ik, 3)) (d3 : decode cc (pc + 3) = .ok (.dup, 1)) (d4 : decode cc (pc + 4) = .ok (.ldc is, 2)) (d6 : decode cc (pc + 6) = .ok (.invokespecial ic, 3)) (d9 : decode cc (pc + 9) = .ok (.athrow, 1))
    (hRf : 5 < R.frames) (hRl : (rest.map fun v => v.category).sum + 82 ≤ R.locals) (hRc : cells + 1 ≤ R.cells) (hRs : slots + 6 ≤ R.slots) (hlk : meth.locks = false) (hc : cells + 1 ≤ mc) (hs : slots + 6 ≤ ms) :
    W p l e R s m args below meth c H locs cells slots (vx_MQ below Qc (rx_X D cl tys pX wX A) args s mc ms A) (F0 m pc ls rest) := by
  obtain ⟨hU, hN, hB, hR⟩ := hT
  obtain ⟨sa, hsa⟩ := hR _ hst
  refine vx_throwS (names := rx_names) hx hb hlt hown hcls (by decide +kernel) (hts _ hcl) (hts _ hit) hsa (vx_hat (B := rx_bad) (fun w hw9 => hts w (List.mem_filter.mpr ⟨hin w hw9, (List.mem_filter.mp hw9).2⟩)) hbd (fun w hw9 => va_Nw.use (rx_bad_tab w hw9) (hB w hw9))) hgd hU hN hS hsize d0 d3 d4 d6 d9 (fun x h => (hno x h).elim) hRf hRl hRc hRs hlk (fun t ha hz hk => rx_keep hu hw hK hP hD hS ha hz hk) hS.2.2 hc hs
-- returns of a method that may throw
theorem rx_ret {g : JFrame} {XC : String → State → State → Prop} {free : Addr → Prop} (h1 : cells ≤ mc) (h2 : slots ≤ ms) (k : W p l e R s m args below meth c H locs mc ms (MQ below Qc args s mc ms free) g) : W p l e R s m args below meth c H locs cells slots (vx_MQ below Qc XC args s mc ms free) g := W.widen h1 h2 (vx_ret k)
-- a callee's start
theorem rx_preS {av vs : List Value} (he : vs = av) (hT : rx_T A s s.heap) (hS : va_S A s.heap H locs) (hA : ∀ q : Nat, s.heap.size ≤ q → A q) (hK : va_K D cl tys s) (hP : va_P D cl ws H) (hD : va_D A ws) : PreS s H (va_Pc av (fun U => rg_in D cl tys ws H.size U ∧ rx_T (va_A ws H.size) U U.heap)) vs := by
  obtain ⟨h1, h2⟩ := rg_preS (av := av) he hK hP hD
  refine ⟨fun a U g mk q => ⟨q.1, (h1 a U g mk ⟨q.1, q.2.1⟩).2, q.2.2.blind⟩, fun U hU hW => ⟨(h2 U hU hW).1, (h2 U hU hW).2, hT.call hW hU hS.2.1 (rg_free hD hS hA)⟩⟩
theorem rx_preV {av vs : List Value} {b ci q0 : Nat} {q : vw_C} {fs : List Value} (he : (.ref b :: vs) = av) (hT : rx_T A s s.heap) (hS : va_S A s.heap H locs) (hA : ∀ q : Nat, s.heap.size ≤ q → A q) (hK : va_K D cl tys s) (hP : va_P D cl ws H) (hD : va_D A ws) (hc : cl[ci]? = some q) (hq : ws[q0]? = some (b, .inr (ci, fs))) : PreV s H q.1 b (va_Pc av (fun U => rg_in D cl tys ws H.size U ∧ rx_T (va_A ws H.size) U U.heap)) vs := by
  obtain ⟨h1, h2, h3⟩ := rg_preV (av := av) he hK hP hD hc hq
  refine ⟨fun a U g mk q => ⟨q.1, (h1 a U g mk ⟨q.1, q.2.1⟩).2, q.2.2.blind⟩, h2, fun U hU hW => ⟨(h3 U hU hW).1, (h3 U hU hW).2, hT.call hW hU hS.2.1 (rg_free hD hS hA)⟩⟩
-- a call whose throw goes on to the caller
theorem rx_on {S S' : Type} {pX : String → S → Prop} {wX : S → va_W} {pX' : String → S' → Prop} {wX' : S' → va_W} (hgo : ∀ E u, pX E u → ∃ u', pX' E u' ∧ wX' u' = wX u) (hno : ∀ x ∈ c.exceptionTable.toList, False) (hlk : meth.locks = false) (hD : va_D A ws) (hS : va_S A s.heap H locs) (hA : ∀ q : Nat, s.heap.size ≤ q → A q)
    {E : String} {ce : Cell} {q9 : Addr} {u : S} {t : State} {H1 : Heap} {locs1 : List Loc} (ht : t.heap = H1) (hvm : s.vm.Alike t.vm) (hp : pX E u) (hB : rg_B D cl tys (va_A ws H.size) wX u t) (hS1 : va_S A s.heap H1 locs1) (hce : H1[q9]? = some ce) (hcv : ce.vm = .none) (hcl : s.vm.findClass E = some ce.cls) (hc : cells ≤ mc) (hs : slots ≤ ms) :
    vx_W p l e R s m args below meth c H1 locs1 cells slots (vx_MQ below Qc (rx_X D cl tys pX' wX' A) args s mc ms A) (F0 m pc ls rest) q9 := by
  obtain ⟨u', h1, h2⟩ := hgo E u hp
  obtain ⟨b1, b2, b3⟩ := hB
  have hF := rg_free hD hS hA
  refine vx_out (E := E) (fun x h => (hno x h).elim) hlk hce hcv hcl (fun t' ht' ha' => ⟨u', h1, ⟨?_, va_K.moved ha' (va_K.moved hvm.symm b2), by rw [h2]; exact b3.weaken (fun _ q _ h => hF q.1 h)⟩, hS1.F ht'⟩) hS1.2.2 hc hs
  rw [h2, ht', ← ht]
  exact b1
theorem rx_calli {S SX SX' : Type} {post : Int32 → S → Prop} {w1 : S → va_W} {pX : String → SX → Prop} {wX : SX → va_W} {pX' : String → SX' → Prop} {wX' : SX' → va_W} (hQ : Q = vx_MQ below Qc (rx_X D cl tys pX' wX' A) args s mc' ms' A) (hgo : ∀ E u, pX E u → ∃ u', pX' E u' ∧ wX' u' = wX u) (hno : ∀ x ∈ c.exceptionTable.toList, False) (hlk : meth.locks = false) (hD : va_D A ws) (hS : va_S A s.heap H locs) (hA : ∀ q : Nat, s.heap.size ≤ q → A q) (hc : cells + mc ≤ mc') (hs : slots + ms ≤ ms')
    (hr : vx_Run p l e R s m args below meth c H locs cells slots mc ms (F0 m pc ls st0) rest (rg_QI D cl tys post w1 (va_A ws H.size) aa) (rx_X D cl tys pX wX (va_A ws H.size)) (va_A ws H.size))
    (kk : ∀ (r : Int32) (u : S) (H1 : Heap) (locs1 : List Loc), post r u → va_P D cl (w1 u) H1 → va_D A (w1 u) → va_S A s.heap H1 locs1 → W p l e R s m args below meth c H1 locs1 (cells + mc) (slots + ms) Q (F0 m (pc + 3) ls (.int r :: rest))) : W p l e R s m args below meth c H locs cells slots Q (F0 m pc ls st0) := by
  have hF := rg_free hD hS hA
  have hr9 : vx_Run p l e R s m args below meth c H locs cells slots mc ms (F0 m pc ls st0) rest (va_Qi post (rg_B D cl tys (va_A ws H.size) w1) (va_A ws H.size) aa) (vx_X (fun _ : SX => True) (fun E u t => pX E u ∧ rg_B D cl tys (va_A ws H.size) wX u t) (va_A ws H.size)) (va_A ws H.size) := by
    intro T hT X
    rcases hr T hT X with h | ⟨q, st₀, t, T', L, E, ce, h0, X', hL, e1, e2, ⟨u, hp, hb, hF9⟩, h9⟩
    · exact Or.inl h
    · exact Or.inr ⟨q, st₀, t, T', L, E, ce, h0, X', hL, e1, e2, ⟨u, trivial, ⟨hp, hb⟩, hF9⟩, h9⟩
  refine vx_calli hr9 hS (fun q _ h => hF q h) hF (fun q _ h => hF q h) (fun E ce q9 u t H1 locs1 ht hvm _ hB _ _ hS1 hce hcv hcl => ?_) (fun r u t H1 locs1 ht _ hw hB _ _ hS1 => ?_)
  · rw [hQ]
    exact rx_on hgo hno hlk hD hS hA ht hvm hB.1 hB.2 hS1 hce hcv hcl hc hs
  · obtain ⟨hP1, -, hD1⟩ := hB
    rw [ht] at hP1
    exact kk r u H1 locs1 hw hP1 (hD1.weaken (fun _ q _ h => hF q.1 h)) hS1
theorem rx_callv {S SX SX' : Type} {post : S → Prop} {w1 : S → va_W} {pX : String → SX → Prop} {wX : SX → va_W} {pX' : String → SX' → Prop} {wX' : SX' → va_W} (hQ : Q = vx_MQ below Qc (rx_X D cl tys pX' wX' A) args s mc' ms' A) (hgo : ∀ E u, pX E u → ∃ u', pX' E u' ∧ wX' u' = wX u) (hno : ∀ x ∈ c.exceptionTable.toList, False) (hlk : meth.locks = false) (hD : va_D A ws) (hS : va_S A s.heap H locs) (hA : ∀ q : Nat, s.heap.size ≤ q → A q) (hc : cells + mc ≤ mc') (hs : slots + ms ≤ ms')
    (hr : vx_Run p l e R s m args below meth c H locs cells slots mc ms (F0 m pc ls st0) rest (rg_QV D cl tys post w1 (va_A ws H.size) aa) (rx_X D cl tys pX wX (va_A ws H.size)) (va_A ws H.size))
    (kk : ∀ (u : S) (H1 : Heap) (locs1 : List Loc), post u → va_P D cl (w1 u) H1 → va_D A (w1 u) → va_S A s.heap H1 locs1 → W p l e R s m args below meth c H1 locs1 (cells + mc) (slots + ms) Q (F0 m (pc + 3) ls rest)) : W p l e R s m args below meth c H locs cells slots Q (F0 m pc ls st0) := by
  have hF := rg_free hD hS hA
  have hr9 : vx_Run p l e R s m args below meth c H locs cells slots mc ms (F0 m pc ls st0) rest (va_Qv post (rg_B D cl tys (va_A ws H.size) w1) (va_A ws H.size) aa) (vx_X (fun _ : SX => True) (fun E u t => pX E u ∧ rg_B D cl tys (va_A ws H.size) wX u t) (va_A ws H.size)) (va_A ws H.size) := by
    intro T hT X
    rcases hr T hT X with h | ⟨q, st₀, t, T', L, E, ce, h0, X', hL, e1, e2, ⟨u, hp, hb, hF9⟩, h9⟩
    · exact Or.inl h
    · exact Or.inr ⟨q, st₀, t, T', L, E, ce, h0, X', hL, e1, e2, ⟨u, trivial, ⟨hp, hb⟩, hF9⟩, h9⟩
  refine vx_callv hr9 hS (fun q _ h => hF q h) hF (fun q _ h => hF q h) (fun E ce q9 u t H1 locs1 ht hvm _ hB _ _ hS1 hce hcv hcl => ?_) (fun u t H1 locs1 ht _ hw hB _ _ hS1 => ?_)
  · rw [hQ]
    exact rx_on hgo hno hlk hD hS hA ht hvm hB.1 hB.2 hS1 hce hcv hcl hc hs
  · obtain ⟨hP1, -, hD1⟩ := hB
    rw [ht] at hP1
    exact kk u H1 locs1 hw hP1 (hD1.weaken (fun _ q _ h => hF q.1 h)) hS1
end RXA

