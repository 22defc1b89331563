/-! Rows for constructors: worlds in another order; new arrays of classes that are known; contracts that know the words arrayOver. -/
theorem rg_P_perm {D : va_G} {cl : List vw_C} {ws ws' : va_W} {H : Heap} (h : List.Perm ws ws') (hP : va_P D cl ws H) : va_P D cl ws' H := fun k q hq => by
  obtain ⟨k', hk'⟩ := List.getElem?_of_mem (h.mem_iff.mpr (List.mem_of_getElem? hq))
  exact hP k' q hk'
theorem rg_D_nd {A : Nat → Prop} {ws : va_W} : va_D A ws ↔ (ws.map Prod.fst).Nodup ∧ ∀ q ∈ ws, A q.1 := by
  constructor
  · rintro ⟨h1, h2⟩
    refine ⟨?_, fun q hq => ?_⟩
    · unfold List.Nodup
      rw [List.pairwise_iff_getElem]
      intro i j hi hj hij e
      rw [List.length_map] at hi hj
      have := h1 i j ws[i] ws[j] (List.getElem?_eq_getElem hi) (List.getElem?_eq_getElem hj) (by simpa using e)
      omega
    · obtain ⟨k, hk⟩ := List.getElem?_of_mem hq
      exact h2 k q hk
  · rintro ⟨h1, h2⟩
    refine ⟨fun i j p q hp hq e => ?_, fun k q hq => h2 q (List.mem_of_getElem? hq)⟩
    unfold List.Nodup at h1
    rw [List.pairwise_iff_getElem] at h1
    obtain ⟨hi, rfl⟩ := List.getElem?_eq_some_iff.mp hp
    obtain ⟨hj, rfl⟩ := List.getElem?_eq_some_iff.mp hq
    rcases Nat.lt_trichotomy i j with h | h | h
    · exact absurd (show (ws.map Prod.fst)[i]'(by rw [List.length_map]; exact hi) = (ws.map Prod.fst)[j]'(by rw [List.length_map]; exact hj) by rw [List.getElem_map, List.getElem_map]; exact e) (h1 i j (by rw [List.length_map]; exact hi) (by rw [List.length_map]; exact hj) h)
    · exact h
    · exact absurd (show (ws.map Prod.fst)[j]'(by rw [List.length_map]; exact hj) = (ws.map Prod.fst)[i]'(by rw [List.length_map]; exact hi) by rw [List.getElem_map, List.getElem_map]; exact e.symm) (h1 j i (by rw [List.length_map]; exact hj) (by rw [List.length_map]; exact hi) h)
theorem rg_D_perm {A : Nat → Prop} {ws ws' : va_W} (h : List.Perm ws ws') (hD : va_D A ws) : va_D A ws' := by
  rw [rg_D_nd] at hD ⊢
  exact ⟨(h.map Prod.fst).nodup_iff.mp hD.1, fun q hq => hD.2 q (h.mem_iff.mpr hq)⟩
theorem rg_RA_one {U : State} {c1 c2 : ClassId} {ty : FieldType} (h1 : va_RA U c1 ty) (h2 : va_RA U c2 ty) : c1 = c2 := by
  cases ty with
  | object C =>
    obtain ⟨_, _, -, -, -, e1⟩ := h1
    obtain ⟨_, _, -, -, -, e2⟩ := h2
    exact Option.some.inj (e1.symm.trans e2)
  | _ => exact Option.some.inj (h1.symm.trans h2)
theorem rg_K_one {D : va_G} {cl : List vw_C} {tys : List (ClassId × FieldType)} {s : State} {c1 c2 : ClassId} {ty : FieldType} {t0 : Nat} (hK : va_K D cl tys s) (hK1 : va_K D cl (tys ++ [(c1, ty)]) s) (ht : tys[t0]? = some (c2, ty)) : c1 = c2 :=
  rg_RA_one (hK1.2 tys.length (c1, ty) (by rw [List.getElem?_append_right (Nat.le_refl _), Nat.sub_self]; rfl)).2 (hK.2 t0 _ ht).2
-- the constructors' extra words
abbrev gw_ne1 : Cond := Cond.methodLinkNest "RevisionGrove$Revisions" 31 ⟨"RevisionGrove$Fields", "<init>", "()V"⟩ "RevisionGrove"
abbrev gw_ne2 : Cond := Cond.methodLinkNest "RevisionGrove" 18 ⟨"RevisionGrove$Branches", "<init>", "()V"⟩ "RevisionGrove"
abbrev gw_ne3 : Cond := Cond.methodLinkNest "RevisionGrove" 25 ⟨"RevisionGrove$Fields", "<init>", "()V"⟩ "RevisionGrove"
def gw_AO (U : State) : Prop := va_AO "RevisionGrove$Fields" U ∧ va_AOA .int U ∧ va_Nw gw_ne1 U ∧ va_Nw gw_ne2 U ∧ va_Nw gw_ne3 U
theorem gw_AO.warm {s U : State} (hW : s.WarmedH U.vm) (h : gw_AO s) : gw_AO U := ⟨h.1.moved hW.alike, h.2.1.moved hW.alike, va_Nw.warmM hW h.2.2.1, va_Nw.warmM hW h.2.2.2.1, va_Nw.warmM hW h.2.2.2.2⟩
theorem gw_AO.blind {U : State} {g : JFrame} {mk : MethodId} {a : Array Value} (h : gw_AO U) : gw_AO (U.calling g mk a) :=
  ⟨h.1.moved (U := U.calling g mk a) (Vm.Alike.refl U.vm), h.2.1.moved (U := U.calling g mk a) (Vm.Alike.refl U.vm), va_Nw.same (u := U) (U := U.calling g mk a) rfl rfl h.2.2.1, va_Nw.same (u := U) (U := U.calling g mk a) rfl rfl h.2.2.2.1, va_Nw.same (u := U) (U := U.calling g mk a) rfl rfl h.2.2.2.2⟩
section RKS
variable {p : Program} {l : Launch} {e : Env} {R : Room} {s : State} {m : MethodId} {args : Array Value} {below : List Frame} {meth : Method} {c : Code} {H : Heap} {locs : List Loc} {cells slots : Nat} {Q : State → Prop}
variable {cc : ByteArray} {pc : Nat} {ls : Array Slot} {rest : List Value} {D : va_G} {cl : List vw_C} {A : Nat → Prop} {a : Nat} {tys : List (ClassId × FieldType)} {ws : va_W} {H0 : Heap}
theorem rg_newa (hexec : p.tables.exec = Jvm.exec) (hb : c.code = cc) {atype : ArrayType} (harr : (Cond.arrayClass (newarray.typeOf atype)).before args s = true) {ty : FieldType} (hty : newarray.typeOf atype = ty) (t0 : Nat) {cA : ClassId} (ht : tys[t0]? = some (cA, ty)) (hK : va_K D cl tys s) (hP : va_P D cl ws H) (hD : va_D A ws) (hS : va_S A H0 H locs) (hA : ∀ q, H0.size ≤ q → A q)
    {n : Int32} {N' : Nat} {a0 : vp_A} (ha : ∀ cA : ClassId, vp_cell cA a0 = arrV cA N' (fun _ => defaultValue ty)) (hn : ¬ n < 0) (hN : n.toNatClampNeg = N') (hbytes : N' * componentBytes ty ≤ 536870912) (hcells : cells + 1 ≤ R.cells) (hslots : slots + N' ≤ R.slots) (hdg : decode cc pc = .ok (.newarray atype, 2))
    (kk : ∀ (q : Nat) (H1 : Heap), va_P D cl (ws ++ [(q, .inl (cA, a0))]) H1 → va_D A (ws ++ [(q, .inl (cA, a0))]) → va_S A H0 H1 locs →
      W p l e R s m args below meth c H1 locs (cells + 1) (slots + N') Q (F0 m (pc + 2) ls (.ref q :: rest))) : W p l e R s m args below meth c H locs cells slots Q (F0 m pc ls (.int n :: rest)) := by
  refine va_newa hexec hb harr hty hK hP hD hS hA ha hn hN hbytes hcells hslots hdg (fun q c1 H1 hK1 hP1 hD1 hS1 => ?_)
  obtain rfl := rg_K_one hK hK1 ht
  exact kk q H1 hP1 hD1 hS1
theorem rg_newq (hexec : p.tables.exec = Jvm.exec) (hb : c.code = cc) {own C : String} {index : Nat} (hown : s.vm.findClass own = some m.cls) (hclink : (Cond.classLink own index C).before args s = true) (hover : va_AO C s) (t0 : Nat) {cA : ClassId} (ht : tys[t0]? = some (cA, .object C)) (hK : va_K D cl tys s) (hP : va_P D cl ws H) (hD : va_D A ws) (hS : va_S A H0 H locs) (hA : ∀ q, H0.size ≤ q → A q)
    {n : Int32} {N' : Nat} (hn : ¬ n < 0) (hN : n.toNatClampNeg = N') (hbytes : N' * 4 ≤ 536870912) (hcells : cells + 1 ≤ R.cells) (hslots : slots + N' ≤ R.slots) (hdg : decode cc pc = .ok (.anewarray index, 3))
    (kk : ∀ (q : Nat) (H1 : Heap), va_P D cl (ws ++ [(q, .inl (cA, N', .inr (.inr (.inr (.inr (fun _ => none))))))]) H1 → va_D A (ws ++ [(q, .inl (cA, N', .inr (.inr (.inr (.inr (fun _ => none))))))]) → va_S A H0 H1 locs →
      W p l e R s m args below meth c H1 locs (cells + 1) (slots + N') Q (F0 m (pc + 3) ls (.ref q :: rest))) : W p l e R s m args below meth c H locs cells slots Q (F0 m pc ls (.int n :: rest)) := by
  refine va_newq hexec hb hown hclink hover hK hP hD hS hA hn hN hbytes hcells hslots hdg (fun q c1 H1 hK1 hP1 hD1 hS1 => ?_)
  obtain rfl := rg_K_one hK hK1 ht
  exact kk q H1 hP1 hD1 hS1
theorem rg_rows_at {r : Nat → Nat} {cI : ClassId} {k : Nat} {x : Nat × va_E} (h : (gw_rows r cI (fun _ _ => 0))[k]? = some x) : k < 4 ∧ x = (r k, .inl (cI, 60, .inl (fun _ => 0))) := by
  unfold gw_rows at h
  rw [List.getElem?_map] at h
  by_cases hk : k < 4
  · rw [List.getElem?_range hk] at h
    exact ⟨hk, (Option.some.inj h).symm⟩
  · rw [List.getElem?_eq_none (by rw [List.length_range]; omega)] at h
    cases h
theorem rg_mna {X : va_W} (hexec : p.tables.exec = Jvm.exec) (hb : c.code = cc) {own : String} {index : Nat} (hown : s.vm.findClass own = some m.cls) (hclink : (Cond.classLink own index "[[I").before args s = true) (hover : va_AOA .int s) (harr : (Cond.arrayClass .int).before args s = true) (t0 t1 : Nat) {cA cI : ClassId} (ht : tys[t0]? = some (cA, .array .int)) (ht1 : tys[t1]? = some (cI, .int))
    (hK : va_K D cl tys s) (hP : va_P D cl X H) (hD : va_D A X) (hS : va_S A H0 H locs) (hA : ∀ q, H0.size ≤ q → A q) (hcells : cells + 5 ≤ R.cells) (hslots : slots + 244 ≤ R.slots) (hdg : decode cc pc = .ok (.multianewarray index 2, 4))
    (kk : ∀ (q : Nat) (r : Nat → Nat) (H1 : Heap), va_P D cl ((X ++ [(q, .inl (cA, 4, .inr (.inr (.inr (.inr (fun i => if i < 4 then some (r i) else none))))))]) ++ gw_rows r cI (fun _ _ => 0)) H1 → va_D A ((X ++ [(q, .inl (cA, 4, .inr (.inr (.inr (.inr (fun i => if i < 4 then some (r i) else none))))))]) ++ gw_rows r cI (fun _ _ => 0)) → va_S A H0 H1 locs →
      W p l e R s m args below meth c H1 locs (cells + 5) (slots + 244) Q (F0 m (pc + 4) ls (.ref q :: rest))) : W p l e R s m args below meth c H locs cells slots Q (F0 m pc ls (.int (nI 60) :: .int (nI 4) :: rest)) := by
  intro T hT X9
  obtain ⟨vm₁, cA9, cI9, hcA, hcI, XF, step⟩ := rn_step X9 hexec hown hclink hover harr (g := F0 m pc ls (.int (nI 60) :: .int (nI 4) :: rest)) rfl (by rw [hb]; exact hdg) rfl hcells hslots
  obtain rfl : cA9 = cA := Option.some.inj (hcA.symm.trans (hK.2 t0 _ ht).2)
  obtain rfl : cI9 = cI := Option.some.inj (hcI.symm.trans (hK.2 t1 _ ht1).2)
  have hTh : (T.setVm vm₁).heap = H := hT
  obtain ⟨f1, f2, -, -, f5, f6⟩ := rn_facts (T.setVm vm₁) cA9 cI9 4
  rw [hTh] at f1 f2 f5 f6
  generalize hF : rn_st (T.setVm vm₁) cA9 cI9 4 = F at XF step f1 f2 f5 f6
  have hlt : ∀ (k : Nat) (x : Nat × va_E), X[k]? = some x → x.1 < H.size := fun k x hx => (hP k x hx).lt
  have hP1 : va_P D cl ((X ++ [(H.size, .inl (cA9, 4, .inr (.inr (.inr (.inr (fun i => if i < 4 then some (H.size + 1 + i) else none))))))]) ++ gw_rows (fun i => H.size + 1 + i) cI9 (fun _ _ => 0)) F.heap := by
    refine rg_P_app (rg_P_app (hP.kept (fun k x hx => f5 x.1 (hlt k x hx))) (fun k x hx => ?_)) (fun k x hx => ?_)
    · have hz : k < 1 := (List.getElem?_eq_some_iff.mp hx).1
      rw [show k = 0 by omega] at hx
      cases hx
      show F.heap[H.size]? = some (vp_cell _ _)
      rw [vp_cell_q]
      exact f2
    · obtain ⟨hk, rfl⟩ := rg_rows_at hx
      show F.heap[H.size + 1 + k]? = some (vp_cell _ _)
      rw [vp_cell_i]
      exact f6 k hk
  have hD1 : va_D A ((X ++ [(H.size, .inl (cA9, 4, .inr (.inr (.inr (.inr (fun i => if i < 4 then some (H.size + 1 + i) else none))))))]) ++ gw_rows (fun i => H.size + 1 + i) cI9 (fun _ _ => 0)) := by
    refine va_D.app (hD.push hP rfl (hA _ hS.1)) ⟨fun i j x y hx hy e => ?_, fun k x hx => ?_⟩ (fun i j x y hx hy e => ?_)
    · obtain ⟨-, rfl⟩ := rg_rows_at hx
      obtain ⟨-, rfl⟩ := rg_rows_at hy
      have e : H.size + 1 + i = H.size + 1 + j := e
      omega
    · obtain ⟨-, rfl⟩ := rg_rows_at hx
      exact hA _ (by have h9 := hS.1; show H0.size ≤ H.size + 1 + k; omega)
    · obtain ⟨-, rfl⟩ := rg_rows_at hy
      have e : x.1 = H.size + 1 + j := e
      rcases rg_apc hx with h9 | ⟨j9, -, h9⟩
      · have := hlt i x h9
        omega
      · have hz : j9 < 1 := (List.getElem?_eq_some_iff.mp h9).1
        rw [show j9 = 0 by omega] at h9
        cases h9
        have e : H.size = H.size + 1 + j := e
        omega
  obtain ⟨t, a1, b1⟩ := kk H.size (fun i => H.size + 1 + i) F.heap hP1 hD1 ⟨by rw [f1]; have h9 := hS.1; omega, fun x h1 h2 => (f5 x (Nat.lt_of_lt_of_le h1 hS.1)).trans (hS.2.1 x h1 h2), hS.2.2⟩ F rfl XF
  refine ⟨t, step t ?_, b1⟩
  have e : T.heap.size = H.size := by rw [hT]
  rw [e]
  exact a1
end RKS
def rk_M (l : Launch) (y : MethodName) (wd : List Cond) (rm : Room) (D : va_G) (cl : List vw_C) (tys : List (ClassId × FieldType)) (ws : va_W) (av : List Value) (Qc : (Nat → Prop) → Array Value → State → Outcome → State → Prop) (mc ms : Nat) : Prop :=
  ∀ sz : Nat, Met l y wd rm (va_Pc av (fun U => rg_in D cl tys ws sz U ∧ gw_AO U)) (Qc (va_A ws sz)) mc ms (va_A ws sz)
theorem rk_of {l : Launch} {y : MethodName} {wd wd' : List Cond} {rm : Room} {D : va_G} {cl : List vw_C} {tys : List (ClassId × FieldType)} {ws : va_W} {av : List Value} {Qc : (Nat → Prop) → Array Value → State → Outcome → State → Prop} {mc ms : Nat} (cc : ByteArray) (maxL : Nat) (ret : Option FieldType)
    (hy : plainName y.cls = true) (hw : wd = Cond.code y cc maxL ret :: wd') (hlen : (lg_sl av).length ≤ maxL)
    (body : ∀ (p : Program) (e : Env) (R : Room) (s : State) (m : MethodId) (args : Array Value) (below : List Frame) (meth : Method) (c : Code) (Q : State → Prop) (A : Nat → Prop) (H : Heap) (locs : List Loc) (ls : Array Slot), R = rm → Q = MQ below (Qc A) args s mc ms A → p.tables.exec = Jvm.exec → c.code = cc → c.maxLocals = maxL → meth.sig.returnType = ret → (∀ w ∈ wd, w.before args s = true) → s.vm.findClass y.cls = some m.cls → meth.locks = false → meth.name = y.name → gw_AO s →
      va_P D cl ws H → va_K D cl tys s → va_D A ws → (∀ q : Nat, s.heap.size ≤ q → A q) → va_S A s.heap H locs → lv_has ls maxL (lv_args 0 av) →
      W p l e R s m args below meth c H locs 0 0 Q (F0 m 0 ls [])) : rk_M l y wd rm D cl tys ws av Qc mc ms := by
  intro sz
  refine Met.ofW (cc := cc) (maxL := maxL) (ret := ret) hy hw ?_
  intro p e s m args below meth c s₁ B hml hv
  obtain ⟨rfl, ⟨hsz, hP, hK, hD0⟩, hao⟩ := hv
  subst hsz
  have hl := lv_entry av (n := maxL) hlen
  rw [lg_entry_eq]
  exact body p e _ s m _ below meth c _ (va_A ws s.heap.size) s.heap [] _ rfl rfl B.exec B.bytes hml B.returns (atoms_spec (ws := wd) B.pre) (findClass_of_methodNamed B.named) B.notSynchronized (name_of_methodNamed B.named B.method).1 hao hP hK (hD0.self (sz := s.heap.size)) (fun q h => Or.inr h) va_S.rf hl
theorem rk_preS {D : va_G} {cl : List vw_C} {A : Nat → Prop} {tys : List (ClassId × FieldType)} {ws : va_W} {s : State} {H : Heap} {av : List Value} {vs : List Value} (he : vs = av) (hao : gw_AO s) (hK : va_K D cl tys s) (hP : va_P D cl ws H) (hD : va_D A ws) : PreS s H (va_Pc av (fun U => rg_in D cl tys ws H.size U ∧ gw_AO U)) vs := by
  obtain ⟨h1, h2⟩ := rg_preS (av := av) he hK hP hD
  exact ⟨fun a U g mk q => ⟨q.1, (h1 a U g mk ⟨q.1, q.2.1⟩).2, q.2.2.blind⟩, fun U hU hW => ⟨(h2 U hU hW).1, (h2 U hU hW).2, hao.warm hW⟩⟩
theorem rk_fV {l : Launch} {y : MethodName} {wd : List Cond} {rm : Room} {D : va_G} {cl : List vw_C} {tys : List (ClassId × FieldType)} {ws : va_W} {av : List Value} {mc ms : Nat} {S : Type} {w1 : S → va_W} {post : S → Prop} (wr : va_W) (h : rk_M l y wd rm D cl tys ws av (rg_QV D cl tys post w1) mc ms) : rk_M l y wd rm D cl tys (ws ++ wr) av (rg_QV D cl tys post (fun u => w1 u ++ wr)) mc ms := by
  intro sz
  refine rg_mono (h sz) (fun a s hp => ⟨hp.1, rg_in_l hp.2.1, hp.2.2⟩) ?_ (fun q h => rg_A_l h)
  rintro a s o t hp ⟨⟨u, e, hu, hP1, hK1, hD1⟩, hF⟩
  obtain ⟨b1, b2, b3⟩ := rg_frc hp.2.1 hP1 hD1 hF
  exact ⟨⟨u, e, hu, b1, hK1, b2⟩, b3⟩
