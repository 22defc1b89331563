/-! The law's wrappers: a throw of the class is caught there, its code answered. -/
def gw_NC (U : State) : Prop := va_Nc "java/lang/IllegalStateException" "java/lang/IllegalArgumentException" U ∧ va_Nc "java/lang/IndexOutOfBoundsException" "java/lang/IllegalArgumentException" U ∧ va_Nc "java/lang/IllegalStateException" "java/lang/IndexOutOfBoundsException" U
theorem gw_NC.moved {u U : State} (hvm : u.vm.Alike U.vm) (h : gw_NC u) : gw_NC U := ⟨h.1.moved hvm, h.2.1.moved hvm, h.2.2.moved hvm⟩
theorem vx_only {l : Launch} {y : MethodName} {wd : List Cond} {rm : Room} {P : Array Value → State → Prop} {Qc : Array Value → State → Outcome → State → Prop} {mc ms : Nat} {free : Addr → Prop} (h : vx_Met l y wd rm P Qc (fun _ _ _ => False) mc ms free) : Met l y wd rm P Qc mc ms free := by
  intro p e ha hc hk s m args below hf hs9 hp hK
  obtain ⟨n, o, b1, b2, b3, b4⟩ := h p e ha hc hk s m args below hf hs9 hp hK
  refine ⟨n, o, b1, b2, b3, ?_⟩
  rcases b4 with b4 | ⟨q, ho, E, ce, L, c1, _⟩
  · exact b4
  · exact c1.elim
def rw_M (l : Launch) (y : MethodName) (wd : List Cond) (rm : Room) (D : va_G) (cl : List vw_C) (tys : List (ClassId × FieldType)) (ws : va_W) (av : List Value) (Qc : (Nat → Prop) → Array Value → State → Outcome → State → Prop) (mc ms : Nat) : Prop :=
  ∀ sz : Nat, Met l y wd rm (va_Pc av (fun U => (rg_in D cl tys ws sz U ∧ rx_T (va_A ws sz) U U.heap) ∧ gw_NC U)) (Qc (va_A ws sz)) mc ms (va_A ws sz)
theorem rw_of {l : Launch} {y : MethodName} {wd wd' : List Cond} {rm : Room} {D : va_G} {cl : List vw_C} {tys : List (ClassId × FieldType)} {ws : va_W} {av : List Value} {Qc : (Nat → Prop) → Array Value → State → Outcome → State → Prop} {mc ms : Nat} (cc : ByteArray) (maxL : Nat) (ret : Option FieldType) (hh : List (Nat × Nat × Nat × Nat))
    (hy : plainName y.cls = true) (hw : wd = Cond.codeWith y cc maxL ret hh :: wd') (hlen : (lg_sl av).length ≤ maxL)
    (body : ∀ (p : Program) (e : Env) (R : Room) (s : State) (m : MethodId) (args : Array Value) (below : List Frame) (meth : Method) (c : Code) (Q : State → Prop) (A : Nat → Prop) (H : Heap) (locs : List Loc) (ls : Array Slot), R = rm → Q = vx_MQ below (Qc A) (fun _ _ _ => False) args s mc ms A → p.tables.exec = Jvm.exec → c.code = cc → c.maxLocals = maxL → meth.sig.returnType = ret → (∀ w ∈ wd, w.before args s = true) → s.vm.findClass y.cls = some m.cls → meth.locks = false → c.exceptionTable.toList = tableOf hh → rx_T A s s.heap → gw_NC s →
      va_P D cl ws H → va_K D cl tys s → va_D A ws → (∀ q : Nat, s.heap.size ≤ q → A q) → va_S A s.heap H locs → lv_has ls maxL (lv_args 0 av) →
      W p l e R s m args below meth c H locs 0 0 Q (F0 m 0 ls [])) : rw_M l y wd rm D cl tys ws av Qc mc ms := by
  intro sz
  refine vx_only (vx_ofWH (cc := cc) (maxL := maxL) (ret := ret) (hh := hh) hy hw ?_)
  intro p e s m args below meth c s₁ B hml hv
  obtain ⟨rfl, ⟨⟨hsz, hP, hK, hD0⟩, hT⟩, hnc⟩ := hv
  subst hsz
  have hl := lv_entry av (n := maxL) hlen
  rw [lg_entry_eq]
  exact body p e _ s m _ below meth c _ (va_A ws s.heap.size) s.heap [] _ rfl rfl B.exec B.bytes hml B.returns (atoms_spec (ws := wd) B.pre) (findClass_of_methodNamed B.named) B.notSynchronized (vx_table (x := y) B (atoms_spec (ws := wd) B.pre _ (by rw [hw]; exact List.mem_cons_self))) hT hnc hP hK (hD0.self (sz := s.heap.size)) (fun q h => Or.inr h) va_S.rf hl
section RWC
variable {p : Program} {l : Launch} {e : Env} {R : Room} {s : State} {m : MethodId} {args : Array Value} {below : List Frame} {meth : Method} {c : Code} {H : Heap} {locs : List Loc} {cells slots mc ms : Nat} {Q : State → Prop}
variable {cc : ByteArray} {pc : Nat} {ls : Array Slot} {rest st0 : List Value} {D : va_G} {cl : List vw_C} {A : Nat → Prop} {tys : List (ClassId × FieldType)} {ws : va_W} {aa : Array Value}
theorem rw_calli {S SX : Type} {post : Int32 → S → Prop} {w1 : S → va_W} {pX : String → SX → Prop} {wX : SX → va_W} (hD : va_D A ws) (hS : va_S A s.heap H locs) (hA : ∀ q : Nat, s.heap.size ≤ q → A q)
    (hr : vx_Run p l e R s m args below meth c H locs cells slots mc ms (F0 m pc ls st0) rest (rg_QI D cl tys post w1 (va_A ws H.size) aa) (rx_X D cl tys pX wX (va_A ws H.size)) (va_A ws H.size))
    (kx : ∀ (E : String) (ce : Cell) (q9 : Addr) (u : SX) (H1 : Heap) (locs1 : List Loc), pX E u → va_P D cl (wX u) H1 → va_D A (wX u) → va_S A s.heap H1 locs1 → H1[q9]? = some ce → ce.vm = .none → s.vm.findClass E = some ce.cls → vx_W p l e R s m args below meth c H1 locs1 (cells + mc) (slots + ms) Q (F0 m pc ls rest) q9)
    (kk : ∀ (r : Int32) (u : S) (H1 : Heap) (locs1 : List Loc), post r u → va_P D cl (w1 u) H1 → va_D A (w1 u) → va_S A s.heap H1 locs1 → W p l e R s m args below meth c H1 locs1 (cells + mc) (slots + ms) Q (F0 m (pc + 3) ls (.int r :: rest))) : W p l e R s m args below meth c H locs cells slots Q (F0 m pc ls st0) := by
  have hF := rg_free hD hS hA
  have hr9 : vx_Run p l e R s m args below meth c H locs cells slots mc ms (F0 m pc ls st0) rest (va_Qi post (rg_B D cl tys (va_A ws H.size) w1) (va_A ws H.size) aa) (vx_X (fun _ : SX => True) (fun E u t => pX E u ∧ rg_B D cl tys (va_A ws H.size) wX u t) (va_A ws H.size)) (va_A ws H.size) := by
    intro T hT X
    rcases hr T hT X with h | ⟨q, st₀, t, T', L, E, ce, h0, X', hL, e1, e2, ⟨u, hp, hb, hF9⟩, h9⟩
    · exact Or.inl h
    · exact Or.inr ⟨q, st₀, t, T', L, E, ce, h0, X', hL, e1, e2, ⟨u, trivial, ⟨hp, hb⟩, hF9⟩, h9⟩
  refine vx_calli hr9 hS (fun q _ h => hF q h) hF (fun q _ h => hF q h) (fun E ce q9 u t H1 locs1 ht hvm _ hB _ _ hS1 hce hcv hcl => ?_) (fun r u t H1 locs1 ht _ hw hB _ _ hS1 => ?_)
  · obtain ⟨hp, hP1, -, hD1⟩ := hB
    rw [ht] at hP1
    exact kx E ce q9 u H1 locs1 hp hP1 (hD1.weaken (fun _ q _ h => hF q.1 h)) hS1 hce hcv hcl
  · obtain ⟨hP1, -, hD1⟩ := hB
    rw [ht] at hP1
    exact kk r u H1 locs1 hw hP1 (hD1.weaken (fun _ q _ h => hF q.1 h)) hS1
theorem rw_calll {S SX : Type} {post : Int64 → S → Prop} {w1 : S → va_W} {pX : String → SX → Prop} {wX : SX → va_W} (hD : va_D A ws) (hS : va_S A s.heap H locs) (hA : ∀ q : Nat, s.heap.size ≤ q → A q)
    (hr : vx_Run p l e R s m args below meth c H locs cells slots mc ms (F0 m pc ls st0) rest (rg_QL D cl tys post w1 (va_A ws H.size) aa) (rx_X D cl tys pX wX (va_A ws H.size)) (va_A ws H.size))
    (kx : ∀ (E : String) (ce : Cell) (q9 : Addr) (u : SX) (H1 : Heap) (locs1 : List Loc), pX E u → va_P D cl (wX u) H1 → va_D A (wX u) → va_S A s.heap H1 locs1 → H1[q9]? = some ce → ce.vm = .none → s.vm.findClass E = some ce.cls → vx_W p l e R s m args below meth c H1 locs1 (cells + mc) (slots + ms) Q (F0 m pc ls rest) q9)
    (kk : ∀ (r : Int64) (u : S) (H1 : Heap) (locs1 : List Loc), post r u → va_P D cl (w1 u) H1 → va_D A (w1 u) → va_S A s.heap H1 locs1 → W p l e R s m args below meth c H1 locs1 (cells + mc) (slots + ms) Q (F0 m (pc + 3) ls (.long r :: rest))) : W p l e R s m args below meth c H locs cells slots Q (F0 m pc ls st0) := by
  have hF := rg_free hD hS hA
  have hr9 : vx_Run p l e R s m args below meth c H locs cells slots mc ms (F0 m pc ls st0) rest (va_Ql post (rg_B D cl tys (va_A ws H.size) w1) (va_A ws H.size) aa) (vx_X (fun _ : SX => True) (fun E u t => pX E u ∧ rg_B D cl tys (va_A ws H.size) wX u t) (va_A ws H.size)) (va_A ws H.size) := by
    intro T hT X
    rcases hr T hT X with h | ⟨q, st₀, t, T', L, E, ce, h0, X', hL, e1, e2, ⟨u, hp, hb, hF9⟩, h9⟩
    · exact Or.inl h
    · exact Or.inr ⟨q, st₀, t, T', L, E, ce, h0, X', hL, e1, e2, ⟨u, trivial, ⟨hp, hb⟩, hF9⟩, h9⟩
  refine vx_calll hr9 hS (fun q _ h => hF q h) hF (fun q _ h => hF q h) (fun E ce q9 u t H1 locs1 ht hvm _ hB _ _ hS1 hce hcv hcl => ?_) (fun r u t H1 locs1 ht _ hw hB _ _ hS1 => ?_)
  · obtain ⟨hp, hP1, -, hD1⟩ := hB
    rw [ht] at hP1
    exact kx E ce q9 u H1 locs1 hp hP1 (hD1.weaken (fun _ q _ h => hF q.1 h)) hS1 hce hcv hcl
  · obtain ⟨hP1, -, hD1⟩ := hB
    rw [ht] at hP1
    exact kk r u H1 locs1 hw hP1 (hD1.weaken (fun _ q _ h => hF q.1 h)) hS1
theorem rw_callv {S SX : Type} {post : S → Prop} {w1 : S → va_W} {pX : String → SX → Prop} {wX : SX → va_W} (hD : va_D A ws) (hS : va_S A s.heap H locs) (hA : ∀ q : Nat, s.heap.size ≤ q → A q)
    (hr : vx_Run p l e R s m args below meth c H locs cells slots mc ms (F0 m pc ls st0) rest (rg_QV D cl tys post w1 (va_A ws H.size) aa) (rx_X D cl tys pX wX (va_A ws H.size)) (va_A ws H.size))
    (kx : ∀ (E : String) (ce : Cell) (q9 : Addr) (u : SX) (H1 : Heap) (locs1 : List Loc), pX E u → va_P D cl (wX u) H1 → va_D A (wX u) → va_S A s.heap H1 locs1 → H1[q9]? = some ce → ce.vm = .none → s.vm.findClass E = some ce.cls → vx_W p l e R s m args below meth c H1 locs1 (cells + mc) (slots + ms) Q (F0 m pc ls rest) q9)
    (kk : ∀ (u : S) (H1 : Heap) (locs1 : List Loc), post u → va_P D cl (w1 u) H1 → va_D A (w1 u) → va_S A s.heap H1 locs1 → W p l e R s m args below meth c H1 locs1 (cells + mc) (slots + ms) Q (F0 m (pc + 3) ls (rest))) : W p l e R s m args below meth c H locs cells slots Q (F0 m pc ls st0) := by
  have hF := rg_free hD hS hA
  have hr9 : vx_Run p l e R s m args below meth c H locs cells slots mc ms (F0 m pc ls st0) rest (va_Qv post (rg_B D cl tys (va_A ws H.size) w1) (va_A ws H.size) aa) (vx_X (fun _ : SX => True) (fun E u t => pX E u ∧ rg_B D cl tys (va_A ws H.size) wX u t) (va_A ws H.size)) (va_A ws H.size) := by
    intro T hT X
    rcases hr T hT X with h | ⟨q, st₀, t, T', L, E, ce, h0, X', hL, e1, e2, ⟨u, hp, hb, hF9⟩, h9⟩
    · exact Or.inl h
    · exact Or.inr ⟨q, st₀, t, T', L, E, ce, h0, X', hL, e1, e2, ⟨u, trivial, ⟨hp, hb⟩, hF9⟩, h9⟩
  refine vx_callv hr9 hS (fun q _ h => hF q h) hF (fun q _ h => hF q h) (fun E ce q9 u t H1 locs1 ht hvm _ hB _ _ hS1 hce hcv hcl => ?_) (fun u t H1 locs1 ht _ hw hB _ _ hS1 => ?_)
  · obtain ⟨hp, hP1, -, hD1⟩ := hB
    rw [ht] at hP1
    exact kx E ce q9 u H1 locs1 hp hP1 (hD1.weaken (fun _ q _ h => hF q.1 h)) hS1 hce hcv hcl
  · obtain ⟨hP1, -, hD1⟩ := hB
    rw [ht] at hP1
    exact kk u H1 locs1 hw hP1 (hD1.weaken (fun _ q _ h => hF q.1 h)) hS1
end RWC
abbrev gw_RW2 : Room := { frames := 9, cells := 17, slots := 70, locals := 190 }
abbrev gw_S2 : Type := gw_S × (Nat → Int64)
def gw_W2 (wu : gw_S → va_W) (ao : Nat) (cL : ClassId) (v : gw_S2) : va_W := wu v.1 ++ [(ao, .inl (cL, 1, .inr (.inl v.2)))]
def gw_PW (o : Int32 × Int32 × rg_A) (z : Int32) (v : gw_S2) : Prop := z = o.1 ∧ gw_Ru v.1 o.2.2 ∧ (o.1 = 0 → v.2 0 = o.2.1.toInt64)
def gw_PWl (o : Int32 × Int64) (g : rg_A) (z : Int32) (v : gw_S2) : Prop := z = o.1 ∧ gw_Ru v.1 g ∧ (o.1 = 0 → v.2 0 = o.2)
def gw_PWv (o : Int32 × Int32 × rg_A) (z : Int32) (u : gw_S) : Prop := z = o.1 ∧ gw_Ru u o.2.2
theorem gw_eI_c {c : Int32} {E : String} (h : (c, E) ∈ gw_eI) : (c = 1 ∧ E = "java/lang/IllegalArgumentException") ∨ (c = 2 ∧ E = "java/lang/IllegalStateException") := by simpa [gw_eI] using h
theorem gw_eL_c {c : Int32} {E : String} (h : (c, E) ∈ gw_eL) : (c = 1 ∧ E = "java/lang/IllegalArgumentException") ∨ (c = 2 ∧ E = "java/lang/IndexOutOfBoundsException") ∨ (c = 3 ∧ E = "java/lang/IllegalStateException") := by simpa [gw_eL] using h
theorem gw_eV_c {c : Int32} {E : String} (h : (c, E) ∈ gw_eV) : (c = 1 ∧ E = "java/lang/IllegalArgumentException") ∨ (c = 2 ∧ E = "java/lang/IndexOutOfBoundsException") := by simpa [gw_eV] using h
theorem gw_eA_c {c : Int32} {E : String} (h : (c, E) ∈ gw_eA) : c = 1 ∧ E = "java/lang/IllegalArgumentException" := by simpa [gw_eA] using h
theorem gw_eN_c {c : Int32} {E : String} (h : (c, E) ∈ gw_eN) : c = 1 ∧ E = "java/util/NoSuchElementException" := by simpa [gw_eN] using h
theorem gw_ne0 {c k : Int32} (h : c = k) (hk : k ≠ 0) {P : Prop} (h0 : c = 0) : P := absurd (h.symm.trans h0) hk
set_option maxHeartbeats 4000000 in
set_option maxRecDepth 100000 in
theorem cw_put {l : Launch} {dC : Nat → ClassId} {dI : Nat → Nat → Nat} {ad fo fa ur : Nat → Nat} {cI cL cF cA : ClassId} (hlt : l.stackTraces = false) {u : gw_S} {g : rg_A} (hu : gw_Ru u g) {ao : Nat} {ov : Nat → Int64} (f v : Int32) : rw_M l yL_put (Cond.codeWith yL_put method_3_code 5 (some .int) [(0, 10, 13, 13), (0, 10, 17, 15)] :: rg_tbl) gw_RW2 (dC, dI) rg_cl (gw_tys cI cL cF cA) (gw_Wu ad fo fa ur cI cL cF cA u ++ [(ao, .inl (cL, 1, .inr (.inl ov)))]) [.ref (ad 0), .int f, .int v, .ref ao] (rg_QI (dC, dI) rg_cl (gw_tys cI cL cF cA) (S := gw_S2) (gw_PW (rg_oPut g f v)) (fun v => gw_W2 (fun u => gw_Wu ad fo fa ur cI cL cF cA u) ao cL v)) 17 70 := by
  refine rw_of method_3_code 5 (some .int) [(0, 10, 13, 13), (0, 10, 17, 15)] (by decide) rfl (Nat.le_of_ble_eq_true rfl) ?_
  intro p e R s m args below meth c Q A H locs ls hR hQ hx hb hml hr hts hown hlk htab hT hnc hP hK hD hA hS hl
  have hl : lv_has ls 5 [(0, .ref (ad 0)), (1, .int f), (2, .int v), (3, .ref ao)] := hl
  have hts : ∀ w ∈ rg_tbl, w.before args s = true := fun w h => hts w (List.mem_cons_of_mem _ h)
  have hq0 : (gw_Wu ad fo fa ur cI cL cF cA u ++ [(ao, .inl (cL, 1, .inr (.inl ov)))])[0]? = some (ad 0, .inr (1, [.ref (ad 1), .ref (ad 2), .ref (fo 60), .int u.2.2.2.2.2.2.2.2.2.2])) := by obtain ⟨rc, fp, sp, an, nn, cnt, pt, un, uc, pr, lc⟩ := u; rfl
  refine lv_aload_n hx hb dL_put_0 rfl (lv_at hl 3 rfl) ?_
  refine lv_iconst (v := nI 0) hx hb dL_put_1 (by decide) ?_
  refine lv_aload_n hx hb dL_put_2 rfl (lv_at hl 0 rfl) ?_
  refine lv_iload_n hx hb dL_put_3 rfl (lv_at hl 1 rfl) ?_
  refine lv_iload_n hx hb dL_put_4 rfl (lv_at hl 2 rfl) ?_
  refine rw_calli hD hS hA (vx_runV (As := [.int f, .int v]) (rest := [.int (nI 0), .ref ao]) ⟨hx, hb, hml, hown, hts⟩ (rx_fI [(ao, .inl (cL, 1, .inr (.inl ov)))] (cg_put hlt hu f v) _) (cwV 2 hts (rg_gV tw_155 tw_156 tw_157 tw_1 tw_158) rfl rfl rfl (by decide +kernel) ⟨(by rw [hR]; exact Nat.le_of_ble_eq_true rfl), (by rw [hR]; exact Nat.le_of_ble_eq_true rfl)⟩) (rx_preV rfl hT hS hA hK hP hD (ci := 1) (q0 := 0) rfl hq0) rfl rfl hl.1 rfl (lv_room (Nat.le_of_ble_eq_true rfl)) dL_put_5 ⟨(by rw [hR]; exact Nat.le_of_ble_eq_true rfl), (by rw [hR]; exact Nat.le_of_ble_eq_true rfl)⟩) (fun E ce q9 u1 H locs hpx hP hD hS hce hcv hcl => ?_) (fun r9 u1 H locs hw hP hD hS => ?_)
  · obtain ⟨hru, hmem⟩ := hpx
    rcases gw_eI_c hmem with ⟨hc, rfl⟩ | ⟨hc, rfl⟩
    · refine vx_catch (E := "java/lang/IllegalArgumentException") (name := "java/lang/IllegalArgumentException") hown [] ⟨0, 10, 13, 13⟩ [⟨0, 10, 17, 15⟩] htab (fun z hz => absurd hz List.not_mem_nil) (by decide) (by decide) (hts _ tw_153) (va_Nw.use (w := .castable "java/lang/IllegalArgumentException" "java/lang/IllegalArgumentException") rfl (hT.2.2.1 _ (List.mem_of_getElem? (i := 0) rfl))) hce hcv hcl ?_
      refine lv_astore (lv' := (4, .ref q9) :: [(0, .ref (ad 0)), (1, .int f), (2, .int v), (3, .ref ao)]) hx hb dL_put_13 hl (by decide) rfl (fun ls hl => ?_)
      refine lv_iconst (v := nI 1) hx hb dL_put_15 (by decide) ?_
      rw [hQ]
      exact vx_ret (rg_iret hx hb hr hlk hK hP hD hS dL_put_16 (u1, ov) rfl ⟨hc.symm, hru, gw_ne0 hc (by decide)⟩)
    · refine vx_catch (E := "java/lang/IllegalStateException") (name := "java/lang/IllegalStateException") hown [⟨0, 10, 13, 13⟩] ⟨0, 10, 17, 15⟩ [] htab (fun z hz => by
        obtain rfl := List.mem_singleton.mp hz
        exact Or.inr ⟨by decide, "java/lang/IllegalArgumentException", hts _ tw_153, hnc.1⟩) (by decide) (by decide) (hts _ tw_154) (va_Nw.use (w := .castable "java/lang/IllegalStateException" "java/lang/IllegalStateException") rfl (hT.2.2.1 _ (List.mem_of_getElem? (i := 1) rfl))) hce hcv hcl ?_
      refine lv_astore (lv' := (4, .ref q9) :: [(0, .ref (ad 0)), (1, .int f), (2, .int v), (3, .ref ao)]) hx hb dL_put_17 hl (by decide) rfl (fun ls hl => ?_)
      refine lv_iconst (v := nI 2) hx hb dL_put_19 (by decide) ?_
      rw [hQ]
      exact vx_ret (rg_iret hx hb hr hlk hK hP hD hS dL_put_20 (u1, ov) rfl ⟨hc.symm, hru, gw_ne0 hc (by decide)⟩)
  · refine lv_i2l (v := r9.toInt64) hx hb dL_put_8 rfl ?_
    refine rg_last hx hb hK hP hD hS _ 1 (rg_apr (k := 0) rfl) rfl (by decide) (by decide) dL_put_9 (fun H locs hP hD hS => ?_)
    rw [rg_seta] at hP hD
    refine lv_goto (tgt := 21) hx hb dL_put_10 (by decide) ?_
    refine lv_iconst (v := nI 0) hx hb dL_put_21 (by decide) ?_
    rw [hQ]
    exact vx_ret (rg_iret hx hb hr hlk hK hP hD hS dL_put_22 (u1, vp_updL ov 0 (r9.toInt64)) rfl ⟨hw.2.1.symm, hw.1, fun _ => (show vp_updL ov 0 (r9.toInt64) 0 = _ from pk_uLs).trans (congrArg Int32.toInt64 hw.2.2)⟩)
set_option maxHeartbeats 4000000 in
set_option maxRecDepth 100000 in
theorem cw_add {l : Launch} {dC : Nat → ClassId} {dI : Nat → Nat → Nat} {ad fo fa ur : Nat → Nat} {cI cL cF cA : ClassId} (hlt : l.stackTraces = false) {u : gw_S} {g : rg_A} (hu : gw_Ru u g) {ao : Nat} {ov : Nat → Int64} (f v : Int32) : rw_M l yL_add (Cond.codeWith yL_add method_4_code 5 (some .int) [(0, 10, 13, 13), (0, 10, 17, 15)] :: rg_tbl) gw_RW2 (dC, dI) rg_cl (gw_tys cI cL cF cA) (gw_Wu ad fo fa ur cI cL cF cA u ++ [(ao, .inl (cL, 1, .inr (.inl ov)))]) [.ref (ad 0), .int f, .int v, .ref ao] (rg_QI (dC, dI) rg_cl (gw_tys cI cL cF cA) (S := gw_S2) (gw_PW (rg_oAdd g f v)) (fun v => gw_W2 (fun u => gw_Wu ad fo fa ur cI cL cF cA u) ao cL v)) 17 70 := by
  refine rw_of method_4_code 5 (some .int) [(0, 10, 13, 13), (0, 10, 17, 15)] (by decide) rfl (Nat.le_of_ble_eq_true rfl) ?_
  intro p e R s m args below meth c Q A H locs ls hR hQ hx hb hml hr hts hown hlk htab hT hnc hP hK hD hA hS hl
  have hl : lv_has ls 5 [(0, .ref (ad 0)), (1, .int f), (2, .int v), (3, .ref ao)] := hl
  have hts : ∀ w ∈ rg_tbl, w.before args s = true := fun w h => hts w (List.mem_cons_of_mem _ h)
  have hq0 : (gw_Wu ad fo fa ur cI cL cF cA u ++ [(ao, .inl (cL, 1, .inr (.inl ov)))])[0]? = some (ad 0, .inr (1, [.ref (ad 1), .ref (ad 2), .ref (fo 60), .int u.2.2.2.2.2.2.2.2.2.2])) := by obtain ⟨rc, fp, sp, an, nn, cnt, pt, un, uc, pr, lc⟩ := u; rfl
  refine lv_aload_n hx hb dL_add_0 rfl (lv_at hl 3 rfl) ?_
  refine lv_iconst (v := nI 0) hx hb dL_add_1 (by decide) ?_
  refine lv_aload_n hx hb dL_add_2 rfl (lv_at hl 0 rfl) ?_
  refine lv_iload_n hx hb dL_add_3 rfl (lv_at hl 1 rfl) ?_
  refine lv_iload_n hx hb dL_add_4 rfl (lv_at hl 2 rfl) ?_
  refine rw_calli hD hS hA (vx_runV (As := [.int f, .int v]) (rest := [.int (nI 0), .ref ao]) ⟨hx, hb, hml, hown, hts⟩ (rx_fI [(ao, .inl (cL, 1, .inr (.inl ov)))] (cg_add hlt hu f v) _) (cwV 2 hts (rg_gV tw_298 tw_299 tw_300 tw_1 tw_301) rfl rfl rfl (by decide +kernel) ⟨(by rw [hR]; exact Nat.le_of_ble_eq_true rfl), (by rw [hR]; exact Nat.le_of_ble_eq_true rfl)⟩) (rx_preV rfl hT hS hA hK hP hD (ci := 1) (q0 := 0) rfl hq0) rfl rfl hl.1 rfl (lv_room (Nat.le_of_ble_eq_true rfl)) dL_add_5 ⟨(by rw [hR]; exact Nat.le_of_ble_eq_true rfl), (by rw [hR]; exact Nat.le_of_ble_eq_true rfl)⟩) (fun E ce q9 u1 H locs hpx hP hD hS hce hcv hcl => ?_) (fun r9 u1 H locs hw hP hD hS => ?_)
  · obtain ⟨hru, hmem⟩ := hpx
    rcases gw_eI_c hmem with ⟨hc, rfl⟩ | ⟨hc, rfl⟩
    · refine vx_catch (E := "java/lang/IllegalArgumentException") (name := "java/lang/IllegalArgumentException") hown [] ⟨0, 10, 13, 13⟩ [⟨0, 10, 17, 15⟩] htab (fun z hz => absurd hz List.not_mem_nil) (by decide) (by decide) (hts _ tw_153) (va_Nw.use (w := .castable "java/lang/IllegalArgumentException" "java/lang/IllegalArgumentException") rfl (hT.2.2.1 _ (List.mem_of_getElem? (i := 0) rfl))) hce hcv hcl ?_
      refine lv_astore (lv' := (4, .ref q9) :: [(0, .ref (ad 0)), (1, .int f), (2, .int v), (3, .ref ao)]) hx hb dL_add_13 hl (by decide) rfl (fun ls hl => ?_)
      refine lv_iconst (v := nI 1) hx hb dL_add_15 (by decide) ?_
      rw [hQ]
      exact vx_ret (rg_iret hx hb hr hlk hK hP hD hS dL_add_16 (u1, ov) rfl ⟨hc.symm, hru, gw_ne0 hc (by decide)⟩)
    · refine vx_catch (E := "java/lang/IllegalStateException") (name := "java/lang/IllegalStateException") hown [⟨0, 10, 13, 13⟩] ⟨0, 10, 17, 15⟩ [] htab (fun z hz => by
        obtain rfl := List.mem_singleton.mp hz
        exact Or.inr ⟨by decide, "java/lang/IllegalArgumentException", hts _ tw_153, hnc.1⟩) (by decide) (by decide) (hts _ tw_154) (va_Nw.use (w := .castable "java/lang/IllegalStateException" "java/lang/IllegalStateException") rfl (hT.2.2.1 _ (List.mem_of_getElem? (i := 1) rfl))) hce hcv hcl ?_
      refine lv_astore (lv' := (4, .ref q9) :: [(0, .ref (ad 0)), (1, .int f), (2, .int v), (3, .ref ao)]) hx hb dL_add_17 hl (by decide) rfl (fun ls hl => ?_)
      refine lv_iconst (v := nI 2) hx hb dL_add_19 (by decide) ?_
      rw [hQ]
      exact vx_ret (rg_iret hx hb hr hlk hK hP hD hS dL_add_20 (u1, ov) rfl ⟨hc.symm, hru, gw_ne0 hc (by decide)⟩)
  · refine lv_i2l (v := r9.toInt64) hx hb dL_add_8 rfl ?_
    refine rg_last hx hb hK hP hD hS _ 1 (rg_apr (k := 0) rfl) rfl (by decide) (by decide) dL_add_9 (fun H locs hP hD hS => ?_)
    rw [rg_seta] at hP hD
    refine lv_goto (tgt := 21) hx hb dL_add_10 (by decide) ?_
    refine lv_iconst (v := nI 0) hx hb dL_add_21 (by decide) ?_
    rw [hQ]
    exact vx_ret (rg_iret hx hb hr hlk hK hP hD hS dL_add_22 (u1, vp_updL ov 0 (r9.toInt64)) rfl ⟨hw.2.1.symm, hw.1, fun _ => (show vp_updL ov 0 (r9.toInt64) 0 = _ from pk_uLs).trans (congrArg Int32.toInt64 hw.2.2)⟩)
set_option maxHeartbeats 4000000 in
set_option maxRecDepth 100000 in
theorem cw_mark {l : Launch} {dC : Nat → ClassId} {dI : Nat → Nat → Nat} {ad fo fa ur : Nat → Nat} {cI cL cF cA : ClassId} (hlt : l.stackTraces = false) {u : gw_S} {g : rg_A} (hu : gw_Ru u g) {ao : Nat} {ov : Nat → Int64} (f x : Int32) (w : Bool) : rw_M l yL_mark (Cond.codeWith yL_mark method_5_code 6 (some .int) [(0, 12, 15, 13), (0, 12, 19, 15)] :: rg_tbl) gw_RW2 (dC, dI) rg_cl (gw_tys cI cL cF cA) (gw_Wu ad fo fa ur cI cL cF cA u ++ [(ao, .inl (cL, 1, .inr (.inl ov)))]) [.ref (ad 0), .int f, .int x, .int (bif w then 1 else 0), .ref ao] (rg_QI (dC, dI) rg_cl (gw_tys cI cL cF cA) (S := gw_S2) (gw_PW (rg_oMark g f x w)) (fun v => gw_W2 (fun u => gw_Wu ad fo fa ur cI cL cF cA u) ao cL v)) 17 70 := by
  refine rw_of method_5_code 6 (some .int) [(0, 12, 15, 13), (0, 12, 19, 15)] (by decide) rfl (Nat.le_of_ble_eq_true rfl) ?_
  intro p e R s m args below meth c Q A H locs ls hR hQ hx hb hml hr hts hown hlk htab hT hnc hP hK hD hA hS hl
  have hl : lv_has ls 6 [(0, .ref (ad 0)), (1, .int f), (2, .int x), (3, .int (bif w then 1 else 0)), (4, .ref ao)] := hl
  have hts : ∀ w ∈ rg_tbl, w.before args s = true := fun w h => hts w (List.mem_cons_of_mem _ h)
  have hq0 : (gw_Wu ad fo fa ur cI cL cF cA u ++ [(ao, .inl (cL, 1, .inr (.inl ov)))])[0]? = some (ad 0, .inr (1, [.ref (ad 1), .ref (ad 2), .ref (fo 60), .int u.2.2.2.2.2.2.2.2.2.2])) := by obtain ⟨rc, fp, sp, an, nn, cnt, pt, un, uc, pr, lc⟩ := u; rfl
  refine lv_aload hx hb dL_mark_0 (lv_at hl 4 rfl) ?_
  refine lv_iconst (v := nI 0) hx hb dL_mark_2 (by decide) ?_
  refine lv_aload_n hx hb dL_mark_3 rfl (lv_at hl 0 rfl) ?_
  refine lv_iload_n hx hb dL_mark_4 rfl (lv_at hl 1 rfl) ?_
  refine lv_iload_n hx hb dL_mark_5 rfl (lv_at hl 2 rfl) ?_
  refine lv_iload_n hx hb dL_mark_6 rfl (lv_at hl 3 rfl) ?_
  refine rw_calli hD hS hA (vx_runV (As := [.int f, .int x, .int (bif w then 1 else 0)]) (rest := [.int (nI 0), .ref ao]) ⟨hx, hb, hml, hown, hts⟩ (rx_fI [(ao, .inl (cL, 1, .inr (.inl ov)))] (cg_mark hlt hu f x w) _) (cwV 3 hts (rg_gV tw_309 tw_310 tw_311 tw_1 tw_312) rfl rfl rfl (by decide +kernel) ⟨(by rw [hR]; exact Nat.le_of_ble_eq_true rfl), (by rw [hR]; exact Nat.le_of_ble_eq_true rfl)⟩) (rx_preV rfl hT hS hA hK hP hD (ci := 1) (q0 := 0) rfl hq0) rfl rfl hl.1 rfl (lv_room (Nat.le_of_ble_eq_true rfl)) dL_mark_7 ⟨(by rw [hR]; exact Nat.le_of_ble_eq_true rfl), (by rw [hR]; exact Nat.le_of_ble_eq_true rfl)⟩) (fun E ce q9 u1 H locs hpx hP hD hS hce hcv hcl => ?_) (fun r9 u1 H locs hw hP hD hS => ?_)
  · obtain ⟨hru, hmem⟩ := hpx
    rcases gw_eI_c hmem with ⟨hc, rfl⟩ | ⟨hc, rfl⟩
    · refine vx_catch (E := "java/lang/IllegalArgumentException") (name := "java/lang/IllegalArgumentException") hown [] ⟨0, 12, 15, 13⟩ [⟨0, 12, 19, 15⟩] htab (fun z hz => absurd hz List.not_mem_nil) (by decide) (by decide) (hts _ tw_153) (va_Nw.use (w := .castable "java/lang/IllegalArgumentException" "java/lang/IllegalArgumentException") rfl (hT.2.2.1 _ (List.mem_of_getElem? (i := 0) rfl))) hce hcv hcl ?_
      refine lv_astore (lv' := (5, .ref q9) :: [(0, .ref (ad 0)), (1, .int f), (2, .int x), (3, .int (bif w then 1 else 0)), (4, .ref ao)]) hx hb dL_mark_15 hl (by decide) rfl (fun ls hl => ?_)
      refine lv_iconst (v := nI 1) hx hb dL_mark_17 (by decide) ?_
      rw [hQ]
      exact vx_ret (rg_iret hx hb hr hlk hK hP hD hS dL_mark_18 (u1, ov) rfl ⟨hc.symm, hru, gw_ne0 hc (by decide)⟩)
    · refine vx_catch (E := "java/lang/IllegalStateException") (name := "java/lang/IllegalStateException") hown [⟨0, 12, 15, 13⟩] ⟨0, 12, 19, 15⟩ [] htab (fun z hz => by
        obtain rfl := List.mem_singleton.mp hz
        exact Or.inr ⟨by decide, "java/lang/IllegalArgumentException", hts _ tw_153, hnc.1⟩) (by decide) (by decide) (hts _ tw_154) (va_Nw.use (w := .castable "java/lang/IllegalStateException" "java/lang/IllegalStateException") rfl (hT.2.2.1 _ (List.mem_of_getElem? (i := 1) rfl))) hce hcv hcl ?_
      refine lv_astore (lv' := (5, .ref q9) :: [(0, .ref (ad 0)), (1, .int f), (2, .int x), (3, .int (bif w then 1 else 0)), (4, .ref ao)]) hx hb dL_mark_19 hl (by decide) rfl (fun ls hl => ?_)
      refine lv_iconst (v := nI 2) hx hb dL_mark_21 (by decide) ?_
      rw [hQ]
      exact vx_ret (rg_iret hx hb hr hlk hK hP hD hS dL_mark_22 (u1, ov) rfl ⟨hc.symm, hru, gw_ne0 hc (by decide)⟩)
  · refine lv_i2l (v := r9.toInt64) hx hb dL_mark_10 rfl ?_
    refine rg_last hx hb hK hP hD hS _ 1 (rg_apr (k := 0) rfl) rfl (by decide) (by decide) dL_mark_11 (fun H locs hP hD hS => ?_)
    rw [rg_seta] at hP hD
    refine lv_goto (tgt := 23) hx hb dL_mark_12 (by decide) ?_
    refine lv_iconst (v := nI 0) hx hb dL_mark_23 (by decide) ?_
    rw [hQ]
    exact vx_ret (rg_iret hx hb hr hlk hK hP hD hS dL_mark_24 (u1, vp_updL ov 0 (r9.toInt64)) rfl ⟨hw.2.1.symm, hw.1, fun _ => (show vp_updL ov 0 (r9.toInt64) 0 = _ from pk_uLs).trans (congrArg Int32.toInt64 hw.2.2)⟩)
set_option maxHeartbeats 4000000 in
set_option maxRecDepth 100000 in
theorem cw_insert {l : Launch} {dC : Nat → ClassId} {dI : Nat → Nat → Nat} {ad fo fa ur : Nat → Nat} {cI cL cF cA : ClassId} (hlt : l.stackTraces = false) {u : gw_S} {g : rg_A} (hu : gw_Ru u g) {ao : Nat} {ov : Nat → Int64} (f x v : Int32) : rw_M l yL_insert (Cond.codeWith yL_insert method_6_code 6 (some .int) [(0, 12, 15, 13), (0, 12, 19, 28), (0, 12, 23, 15)] :: rg_tbl) gw_RW2 (dC, dI) rg_cl (gw_tys cI cL cF cA) (gw_Wu ad fo fa ur cI cL cF cA u ++ [(ao, .inl (cL, 1, .inr (.inl ov)))]) [.ref (ad 0), .int f, .int x, .int v, .ref ao] (rg_QI (dC, dI) rg_cl (gw_tys cI cL cF cA) (S := gw_S2) (gw_PW (rg_oIns g f x v)) (fun v => gw_W2 (fun u => gw_Wu ad fo fa ur cI cL cF cA u) ao cL v)) 17 70 := by
  refine rw_of method_6_code 6 (some .int) [(0, 12, 15, 13), (0, 12, 19, 28), (0, 12, 23, 15)] (by decide) rfl (Nat.le_of_ble_eq_true rfl) ?_
  intro p e R s m args below meth c Q A H locs ls hR hQ hx hb hml hr hts hown hlk htab hT hnc hP hK hD hA hS hl
  have hl : lv_has ls 6 [(0, .ref (ad 0)), (1, .int f), (2, .int x), (3, .int v), (4, .ref ao)] := hl
  have hts : ∀ w ∈ rg_tbl, w.before args s = true := fun w h => hts w (List.mem_cons_of_mem _ h)
  have hq0 : (gw_Wu ad fo fa ur cI cL cF cA u ++ [(ao, .inl (cL, 1, .inr (.inl ov)))])[0]? = some (ad 0, .inr (1, [.ref (ad 1), .ref (ad 2), .ref (fo 60), .int u.2.2.2.2.2.2.2.2.2.2])) := by obtain ⟨rc, fp, sp, an, nn, cnt, pt, un, uc, pr, lc⟩ := u; rfl
  refine lv_aload hx hb dL_insert_0 (lv_at hl 4 rfl) ?_
  refine lv_iconst (v := nI 0) hx hb dL_insert_2 (by decide) ?_
  refine lv_aload_n hx hb dL_insert_3 rfl (lv_at hl 0 rfl) ?_
  refine lv_iload_n hx hb dL_insert_4 rfl (lv_at hl 1 rfl) ?_
  refine lv_iload_n hx hb dL_insert_5 rfl (lv_at hl 2 rfl) ?_
  refine lv_iload_n hx hb dL_insert_6 rfl (lv_at hl 3 rfl) ?_
  refine rw_calli hD hS hA (vx_runV (As := [.int f, .int x, .int v]) (rest := [.int (nI 0), .ref ao]) ⟨hx, hb, hml, hown, hts⟩ (rx_fI [(ao, .inl (cL, 1, .inr (.inl ov)))] (cg_insert hlt hu f x v) _) (cwV 3 hts (rg_gV tw_319 tw_320 tw_321 tw_1 tw_322) rfl rfl rfl (by decide +kernel) ⟨(by rw [hR]; exact Nat.le_of_ble_eq_true rfl), (by rw [hR]; exact Nat.le_of_ble_eq_true rfl)⟩) (rx_preV rfl hT hS hA hK hP hD (ci := 1) (q0 := 0) rfl hq0) rfl rfl hl.1 rfl (lv_room (Nat.le_of_ble_eq_true rfl)) dL_insert_7 ⟨(by rw [hR]; exact Nat.le_of_ble_eq_true rfl), (by rw [hR]; exact Nat.le_of_ble_eq_true rfl)⟩) (fun E ce q9 u1 H locs hpx hP hD hS hce hcv hcl => ?_) (fun r9 u1 H locs hw hP hD hS => ?_)
  · obtain ⟨hru, hmem⟩ := hpx
    rcases gw_eL_c hmem with ⟨hc, rfl⟩ | ⟨hc, rfl⟩ | ⟨hc, rfl⟩
    · refine vx_catch (E := "java/lang/IllegalArgumentException") (name := "java/lang/IllegalArgumentException") hown [] ⟨0, 12, 15, 13⟩ [⟨0, 12, 19, 28⟩, ⟨0, 12, 23, 15⟩] htab (fun z hz => absurd hz List.not_mem_nil) (by decide) (by decide) (hts _ tw_153) (va_Nw.use (w := .castable "java/lang/IllegalArgumentException" "java/lang/IllegalArgumentException") rfl (hT.2.2.1 _ (List.mem_of_getElem? (i := 0) rfl))) hce hcv hcl ?_
      refine lv_astore (lv' := (5, .ref q9) :: [(0, .ref (ad 0)), (1, .int f), (2, .int x), (3, .int v), (4, .ref ao)]) hx hb dL_insert_15 hl (by decide) rfl (fun ls hl => ?_)
      refine lv_iconst (v := nI 1) hx hb dL_insert_17 (by decide) ?_
      rw [hQ]
      exact vx_ret (rg_iret hx hb hr hlk hK hP hD hS dL_insert_18 (u1, ov) rfl ⟨hc.symm, hru, gw_ne0 hc (by decide)⟩)
    · refine vx_catch (E := "java/lang/IndexOutOfBoundsException") (name := "java/lang/IndexOutOfBoundsException") hown [⟨0, 12, 15, 13⟩] ⟨0, 12, 19, 28⟩ [⟨0, 12, 23, 15⟩] htab (fun z hz => by
        obtain rfl := List.mem_singleton.mp hz
        exact Or.inr ⟨by decide, "java/lang/IllegalArgumentException", hts _ tw_153, hnc.2.1⟩) (by decide) (by decide) (hts _ tw_318) (va_Nw.use (w := .castable "java/lang/IndexOutOfBoundsException" "java/lang/IndexOutOfBoundsException") rfl (hT.2.2.1 _ (List.mem_of_getElem? (i := 2) rfl))) hce hcv hcl ?_
      refine lv_astore (lv' := (5, .ref q9) :: [(0, .ref (ad 0)), (1, .int f), (2, .int x), (3, .int v), (4, .ref ao)]) hx hb dL_insert_19 hl (by decide) rfl (fun ls hl => ?_)
      refine lv_iconst (v := nI 2) hx hb dL_insert_21 (by decide) ?_
      rw [hQ]
      exact vx_ret (rg_iret hx hb hr hlk hK hP hD hS dL_insert_22 (u1, ov) rfl ⟨hc.symm, hru, gw_ne0 hc (by decide)⟩)
    · refine vx_catch (E := "java/lang/IllegalStateException") (name := "java/lang/IllegalStateException") hown [⟨0, 12, 15, 13⟩, ⟨0, 12, 19, 28⟩] ⟨0, 12, 23, 15⟩ [] htab (fun z hz => by
        rcases List.mem_cons.mp hz with rfl | hz
        · exact Or.inr ⟨by decide, "java/lang/IllegalArgumentException", hts _ tw_153, hnc.1⟩
        · obtain rfl := List.mem_singleton.mp hz
          exact Or.inr ⟨by decide, "java/lang/IndexOutOfBoundsException", hts _ tw_318, hnc.2.2⟩) (by decide) (by decide) (hts _ tw_154) (va_Nw.use (w := .castable "java/lang/IllegalStateException" "java/lang/IllegalStateException") rfl (hT.2.2.1 _ (List.mem_of_getElem? (i := 1) rfl))) hce hcv hcl ?_
      refine lv_astore (lv' := (5, .ref q9) :: [(0, .ref (ad 0)), (1, .int f), (2, .int x), (3, .int v), (4, .ref ao)]) hx hb dL_insert_23 hl (by decide) rfl (fun ls hl => ?_)
      refine lv_iconst (v := nI 3) hx hb dL_insert_25 (by decide) ?_
      rw [hQ]
      exact vx_ret (rg_iret hx hb hr hlk hK hP hD hS dL_insert_26 (u1, ov) rfl ⟨hc.symm, hru, gw_ne0 hc (by decide)⟩)
  · refine lv_i2l (v := r9.toInt64) hx hb dL_insert_10 rfl ?_
    refine rg_last hx hb hK hP hD hS _ 1 (rg_apr (k := 0) rfl) rfl (by decide) (by decide) dL_insert_11 (fun H locs hP hD hS => ?_)
    rw [rg_seta] at hP hD
    refine lv_goto (tgt := 27) hx hb dL_insert_12 (by decide) ?_
    refine lv_iconst (v := nI 0) hx hb dL_insert_27 (by decide) ?_
    rw [hQ]
    exact vx_ret (rg_iret hx hb hr hlk hK hP hD hS dL_insert_28 (u1, vp_updL ov 0 (r9.toInt64)) rfl ⟨hw.2.1.symm, hw.1, fun _ => (show vp_updL ov 0 (r9.toInt64) 0 = _ from pk_uLs).trans (congrArg Int32.toInt64 hw.2.2)⟩)
set_option maxHeartbeats 4000000 in
set_option maxRecDepth 100000 in
theorem cw_remove {l : Launch} {dC : Nat → ClassId} {dI : Nat → Nat → Nat} {ad fo fa ur : Nat → Nat} {cI cL cF cA : ClassId} (hlt : l.stackTraces = false) {u : gw_S} {g : rg_A} (hu : gw_Ru u g) {ao : Nat} {ov : Nat → Int64} (f x : Int32) : rw_M l yL_remove (Cond.codeWith yL_remove method_7_code 5 (some .int) [(0, 10, 13, 13), (0, 10, 17, 28), (0, 10, 21, 15)] :: rg_tbl) gw_RW2 (dC, dI) rg_cl (gw_tys cI cL cF cA) (gw_Wu ad fo fa ur cI cL cF cA u ++ [(ao, .inl (cL, 1, .inr (.inl ov)))]) [.ref (ad 0), .int f, .int x, .ref ao] (rg_QI (dC, dI) rg_cl (gw_tys cI cL cF cA) (S := gw_S2) (gw_PW (rg_oRem g f x)) (fun v => gw_W2 (fun u => gw_Wu ad fo fa ur cI cL cF cA u) ao cL v)) 17 70 := by
  refine rw_of method_7_code 5 (some .int) [(0, 10, 13, 13), (0, 10, 17, 28), (0, 10, 21, 15)] (by decide) rfl (Nat.le_of_ble_eq_true rfl) ?_
  intro p e R s m args below meth c Q A H locs ls hR hQ hx hb hml hr hts hown hlk htab hT hnc hP hK hD hA hS hl
  have hl : lv_has ls 5 [(0, .ref (ad 0)), (1, .int f), (2, .int x), (3, .ref ao)] := hl
  have hts : ∀ w ∈ rg_tbl, w.before args s = true := fun w h => hts w (List.mem_cons_of_mem _ h)
  have hq0 : (gw_Wu ad fo fa ur cI cL cF cA u ++ [(ao, .inl (cL, 1, .inr (.inl ov)))])[0]? = some (ad 0, .inr (1, [.ref (ad 1), .ref (ad 2), .ref (fo 60), .int u.2.2.2.2.2.2.2.2.2.2])) := by obtain ⟨rc, fp, sp, an, nn, cnt, pt, un, uc, pr, lc⟩ := u; rfl
  refine lv_aload_n hx hb dL_remove_0 rfl (lv_at hl 3 rfl) ?_
  refine lv_iconst (v := nI 0) hx hb dL_remove_1 (by decide) ?_
  refine lv_aload_n hx hb dL_remove_2 rfl (lv_at hl 0 rfl) ?_
  refine lv_iload_n hx hb dL_remove_3 rfl (lv_at hl 1 rfl) ?_
  refine lv_iload_n hx hb dL_remove_4 rfl (lv_at hl 2 rfl) ?_
  refine rw_calli hD hS hA (vx_runV (As := [.int f, .int x]) (rest := [.int (nI 0), .ref ao]) ⟨hx, hb, hml, hown, hts⟩ (rx_fI [(ao, .inl (cL, 1, .inr (.inl ov)))] (cg_remove hlt hu f x) _) (cwV 2 hts (rg_gV tw_352 tw_353 tw_354 tw_1 tw_355) rfl rfl rfl (by decide +kernel) ⟨(by rw [hR]; exact Nat.le_of_ble_eq_true rfl), (by rw [hR]; exact Nat.le_of_ble_eq_true rfl)⟩) (rx_preV rfl hT hS hA hK hP hD (ci := 1) (q0 := 0) rfl hq0) rfl rfl hl.1 rfl (lv_room (Nat.le_of_ble_eq_true rfl)) dL_remove_5 ⟨(by rw [hR]; exact Nat.le_of_ble_eq_true rfl), (by rw [hR]; exact Nat.le_of_ble_eq_true rfl)⟩) (fun E ce q9 u1 H locs hpx hP hD hS hce hcv hcl => ?_) (fun r9 u1 H locs hw hP hD hS => ?_)
  · obtain ⟨hru, hmem⟩ := hpx
    rcases gw_eL_c hmem with ⟨hc, rfl⟩ | ⟨hc, rfl⟩ | ⟨hc, rfl⟩
    · refine vx_catch (E := "java/lang/IllegalArgumentException") (name := "java/lang/IllegalArgumentException") hown [] ⟨0, 10, 13, 13⟩ [⟨0, 10, 17, 28⟩, ⟨0, 10, 21, 15⟩] htab (fun z hz => absurd hz List.not_mem_nil) (by decide) (by decide) (hts _ tw_153) (va_Nw.use (w := .castable "java/lang/IllegalArgumentException" "java/lang/IllegalArgumentException") rfl (hT.2.2.1 _ (List.mem_of_getElem? (i := 0) rfl))) hce hcv hcl ?_
      refine lv_astore (lv' := (4, .ref q9) :: [(0, .ref (ad 0)), (1, .int f), (2, .int x), (3, .ref ao)]) hx hb dL_remove_13 hl (by decide) rfl (fun ls hl => ?_)
      refine lv_iconst (v := nI 1) hx hb dL_remove_15 (by decide) ?_
      rw [hQ]
      exact vx_ret (rg_iret hx hb hr hlk hK hP hD hS dL_remove_16 (u1, ov) rfl ⟨hc.symm, hru, gw_ne0 hc (by decide)⟩)
    · refine vx_catch (E := "java/lang/IndexOutOfBoundsException") (name := "java/lang/IndexOutOfBoundsException") hown [⟨0, 10, 13, 13⟩] ⟨0, 10, 17, 28⟩ [⟨0, 10, 21, 15⟩] htab (fun z hz => by
        obtain rfl := List.mem_singleton.mp hz
        exact Or.inr ⟨by decide, "java/lang/IllegalArgumentException", hts _ tw_153, hnc.2.1⟩) (by decide) (by decide) (hts _ tw_318) (va_Nw.use (w := .castable "java/lang/IndexOutOfBoundsException" "java/lang/IndexOutOfBoundsException") rfl (hT.2.2.1 _ (List.mem_of_getElem? (i := 2) rfl))) hce hcv hcl ?_
      refine lv_astore (lv' := (4, .ref q9) :: [(0, .ref (ad 0)), (1, .int f), (2, .int x), (3, .ref ao)]) hx hb dL_remove_17 hl (by decide) rfl (fun ls hl => ?_)
      refine lv_iconst (v := nI 2) hx hb dL_remove_19 (by decide) ?_
      rw [hQ]
      exact vx_ret (rg_iret hx hb hr hlk hK hP hD hS dL_remove_20 (u1, ov) rfl ⟨hc.symm, hru, gw_ne0 hc (by decide)⟩)
    · refine vx_catch (E := "java/lang/IllegalStateException") (name := "java/lang/IllegalStateException") hown [⟨0, 10, 13, 13⟩, ⟨0, 10, 17, 28⟩] ⟨0, 10, 21, 15⟩ [] htab (fun z hz => by
        rcases List.mem_cons.mp hz with rfl | hz
        · exact Or.inr ⟨by decide, "java/lang/IllegalArgumentException", hts _ tw_153, hnc.1⟩
        · obtain rfl := List.mem_singleton.mp hz
          exact Or.inr ⟨by decide, "java/lang/IndexOutOfBoundsException", hts _ tw_318, hnc.2.2⟩) (by decide) (by decide) (hts _ tw_154) (va_Nw.use (w := .castable "java/lang/IllegalStateException" "java/lang/IllegalStateException") rfl (hT.2.2.1 _ (List.mem_of_getElem? (i := 1) rfl))) hce hcv hcl ?_
      refine lv_astore (lv' := (4, .ref q9) :: [(0, .ref (ad 0)), (1, .int f), (2, .int x), (3, .ref ao)]) hx hb dL_remove_21 hl (by decide) rfl (fun ls hl => ?_)
      refine lv_iconst (v := nI 3) hx hb dL_remove_23 (by decide) ?_
      rw [hQ]
      exact vx_ret (rg_iret hx hb hr hlk hK hP hD hS dL_remove_24 (u1, ov) rfl ⟨hc.symm, hru, gw_ne0 hc (by decide)⟩)
  · refine lv_i2l (v := r9.toInt64) hx hb dL_remove_8 rfl ?_
    refine rg_last hx hb hK hP hD hS _ 1 (rg_apr (k := 0) rfl) rfl (by decide) (by decide) dL_remove_9 (fun H locs hP hD hS => ?_)
    rw [rg_seta] at hP hD
    refine lv_goto (tgt := 25) hx hb dL_remove_10 (by decide) ?_
    refine lv_iconst (v := nI 0) hx hb dL_remove_25 (by decide) ?_
    rw [hQ]
    exact vx_ret (rg_iret hx hb hr hlk hK hP hD hS dL_remove_26 (u1, vp_updL ov 0 (r9.toInt64)) rfl ⟨hw.2.1.symm, hw.1, fun _ => (show vp_updL ov 0 (r9.toInt64) 0 = _ from pk_uLs).trans (congrArg Int32.toInt64 hw.2.2)⟩)
set_option maxHeartbeats 4000000 in
set_option maxRecDepth 100000 in
theorem cw_point {l : Launch} {dC : Nat → ClassId} {dI : Nat → Nat → Nat} {ad fo fa ur : Nat → Nat} {cI cL cF cA : ClassId} (hlt : l.stackTraces = false) {u : gw_S} {g : rg_A} (hu : gw_Ru u g) (x : Int32) : rw_M l yL_point (Cond.codeWith yL_point method_8_code 3 (some .int) [(0, 5, 8, 13)] :: rg_tbl) gw_RW2 (dC, dI) rg_cl (gw_tys cI cL cF cA) (gw_Wu ad fo fa ur cI cL cF cA u) [.ref (ad 0), .int x] (rg_QI (dC, dI) rg_cl (gw_tys cI cL cF cA) (S := gw_S) (gw_PWv (rg_oPoint g x)) (fun u => gw_Wu ad fo fa ur cI cL cF cA u)) 17 70 := by
  refine rw_of method_8_code 3 (some .int) [(0, 5, 8, 13)] (by decide) rfl (Nat.le_of_ble_eq_true rfl) ?_
  intro p e R s m args below meth c Q A H locs ls hR hQ hx hb hml hr hts hown hlk htab hT hnc hP hK hD hA hS hl
  have hl : lv_has ls 3 [(0, .ref (ad 0)), (1, .int x)] := hl
  have hts : ∀ w ∈ rg_tbl, w.before args s = true := fun w h => hts w (List.mem_cons_of_mem _ h)
  have hq0 : (gw_Wu ad fo fa ur cI cL cF cA u)[0]? = some (ad 0, .inr (1, [.ref (ad 1), .ref (ad 2), .ref (fo 60), .int u.2.2.2.2.2.2.2.2.2.2])) := by obtain ⟨rc, fp, sp, an, nn, cnt, pt, un, uc, pr, lc⟩ := u; rfl
  refine lv_aload_n hx hb dL_point_0 rfl (lv_at hl 0 rfl) ?_
  refine lv_iload_n hx hb dL_point_1 rfl (lv_at hl 1 rfl) ?_
  refine rw_callv hD hS hA (vx_runV (As := [.int x]) (rest := []) ⟨hx, hb, hml, hown, hts⟩ (cg_point hlt hu x _) (cwV 1 hts (rg_gV tw_368 tw_369 tw_370 tw_1 tw_371) rfl rfl rfl (by decide +kernel) ⟨(by rw [hR]; exact Nat.le_of_ble_eq_true rfl), (by rw [hR]; exact Nat.le_of_ble_eq_true rfl)⟩) (rx_preV rfl hT hS hA hK hP hD (ci := 1) (q0 := 0) rfl hq0) rfl rfl hl.1 rfl (lv_room (Nat.le_of_ble_eq_true rfl)) dL_point_2 ⟨(by rw [hR]; exact Nat.le_of_ble_eq_true rfl), (by rw [hR]; exact Nat.le_of_ble_eq_true rfl)⟩) (fun E ce q9 u1 H locs hpx hP hD hS hce hcv hcl => ?_) (fun u1 H locs hw hP hD hS => ?_)
  · obtain ⟨hru, hmem⟩ := hpx
    obtain ⟨hc, rfl⟩ := gw_eA_c hmem
    refine vx_catch (E := "java/lang/IllegalArgumentException") (name := "java/lang/IllegalArgumentException") hown [] ⟨0, 5, 8, 13⟩ [] htab (fun z hz => absurd hz List.not_mem_nil) (by decide) (by decide) (hts _ tw_153) (va_Nw.use (w := .castable "java/lang/IllegalArgumentException" "java/lang/IllegalArgumentException") rfl (hT.2.2.1 _ (List.mem_of_getElem? (i := 0) rfl))) hce hcv hcl ?_
    refine lv_astore_n (lv' := (2, .ref q9) :: [(0, .ref (ad 0)), (1, .int x)]) hx hb dL_point_8 rfl hl (by decide) rfl (fun ls hl => ?_)
    refine lv_iconst (v := nI 1) hx hb dL_point_9 (by decide) ?_
    rw [hQ]
    exact vx_ret (rg_iret hx hb hr hlk hK hP hD hS dL_point_10 u1 rfl ⟨hc.symm, hru⟩)
  · refine lv_goto (tgt := 11) hx hb dL_point_5 (by decide) ?_
    refine lv_iconst (v := nI 0) hx hb dL_point_11 (by decide) ?_
    rw [hQ]
    exact vx_ret (rg_iret hx hb hr hlk hK hP hD hS dL_point_12 u1 rfl ⟨hw.2.symm, hw.1⟩)
set_option maxHeartbeats 4000000 in
set_option maxRecDepth 100000 in
theorem cw_turn {l : Launch} {dC : Nat → ClassId} {dI : Nat → Nat → Nat} {ad fo fa ur : Nat → Nat} {cI cL cF cA : ClassId} (hlt : l.stackTraces = false) {u : gw_S} {g : rg_A} (hu : gw_Ru u g) {ao : Nat} {ov : Nat → Int64} (x : Int32) : rw_M l yL_turn (Cond.codeWith yL_turn method_9_code 4 (some .int) [(0, 9, 12, 13)] :: rg_tbl) gw_RW2 (dC, dI) rg_cl (gw_tys cI cL cF cA) (gw_Wu ad fo fa ur cI cL cF cA u ++ [(ao, .inl (cL, 1, .inr (.inl ov)))]) [.ref (ad 0), .int x, .ref ao] (rg_QI (dC, dI) rg_cl (gw_tys cI cL cF cA) (S := gw_S2) (gw_PW (rg_oTurn g x)) (fun v => gw_W2 (fun u => gw_Wu ad fo fa ur cI cL cF cA u) ao cL v)) 17 70 := by
  refine rw_of method_9_code 4 (some .int) [(0, 9, 12, 13)] (by decide) rfl (Nat.le_of_ble_eq_true rfl) ?_
  intro p e R s m args below meth c Q A H locs ls hR hQ hx hb hml hr hts hown hlk htab hT hnc hP hK hD hA hS hl
  have hl : lv_has ls 4 [(0, .ref (ad 0)), (1, .int x), (2, .ref ao)] := hl
  have hts : ∀ w ∈ rg_tbl, w.before args s = true := fun w h => hts w (List.mem_cons_of_mem _ h)
  have hq0 : (gw_Wu ad fo fa ur cI cL cF cA u ++ [(ao, .inl (cL, 1, .inr (.inl ov)))])[0]? = some (ad 0, .inr (1, [.ref (ad 1), .ref (ad 2), .ref (fo 60), .int u.2.2.2.2.2.2.2.2.2.2])) := by obtain ⟨rc, fp, sp, an, nn, cnt, pt, un, uc, pr, lc⟩ := u; rfl
  refine lv_aload_n hx hb dL_turn_0 rfl (lv_at hl 2 rfl) ?_
  refine lv_iconst (v := nI 0) hx hb dL_turn_1 (by decide) ?_
  refine lv_aload_n hx hb dL_turn_2 rfl (lv_at hl 0 rfl) ?_
  refine lv_iload_n hx hb dL_turn_3 rfl (lv_at hl 1 rfl) ?_
  refine rw_calli hD hS hA (vx_runV (As := [.int x]) (rest := [.int (nI 0), .ref ao]) ⟨hx, hb, hml, hown, hts⟩ (rx_fI [(ao, .inl (cL, 1, .inr (.inl ov)))] (cg_turn hlt hu x) _) (cwV 1 hts (rg_gV tw_384 tw_385 tw_386 tw_1 tw_387) rfl rfl rfl (by decide +kernel) ⟨(by rw [hR]; exact Nat.le_of_ble_eq_true rfl), (by rw [hR]; exact Nat.le_of_ble_eq_true rfl)⟩) (rx_preV rfl hT hS hA hK hP hD (ci := 1) (q0 := 0) rfl hq0) rfl rfl hl.1 rfl (lv_room (Nat.le_of_ble_eq_true rfl)) dL_turn_4 ⟨(by rw [hR]; exact Nat.le_of_ble_eq_true rfl), (by rw [hR]; exact Nat.le_of_ble_eq_true rfl)⟩) (fun E ce q9 u1 H locs hpx hP hD hS hce hcv hcl => ?_) (fun r9 u1 H locs hw hP hD hS => ?_)
  · obtain ⟨hru, hmem⟩ := hpx
    obtain ⟨hc, rfl⟩ := gw_eA_c hmem
    refine vx_catch (E := "java/lang/IllegalArgumentException") (name := "java/lang/IllegalArgumentException") hown [] ⟨0, 9, 12, 13⟩ [] htab (fun z hz => absurd hz List.not_mem_nil) (by decide) (by decide) (hts _ tw_153) (va_Nw.use (w := .castable "java/lang/IllegalArgumentException" "java/lang/IllegalArgumentException") rfl (hT.2.2.1 _ (List.mem_of_getElem? (i := 0) rfl))) hce hcv hcl ?_
    refine lv_astore_n (lv' := (3, .ref q9) :: [(0, .ref (ad 0)), (1, .int x), (2, .ref ao)]) hx hb dL_turn_12 rfl hl (by decide) rfl (fun ls hl => ?_)
    refine lv_iconst (v := nI 1) hx hb dL_turn_13 (by decide) ?_
    rw [hQ]
    exact vx_ret (rg_iret hx hb hr hlk hK hP hD hS dL_turn_14 (u1, ov) rfl ⟨hc.symm, hru, gw_ne0 hc (by decide)⟩)
  · refine lv_i2l (v := r9.toInt64) hx hb dL_turn_7 rfl ?_
    refine rg_last hx hb hK hP hD hS _ 1 (rg_apr (k := 0) rfl) rfl (by decide) (by decide) dL_turn_8 (fun H locs hP hD hS => ?_)
    rw [rg_seta] at hP hD
    refine lv_goto (tgt := 15) hx hb dL_turn_9 (by decide) ?_
    refine lv_iconst (v := nI 0) hx hb dL_turn_15 (by decide) ?_
    rw [hQ]
    exact vx_ret (rg_iret hx hb hr hlk hK hP hD hS dL_turn_16 (u1, vp_updL ov 0 (r9.toInt64)) rfl ⟨hw.2.1.symm, hw.1, fun _ => (show vp_updL ov 0 (r9.toInt64) 0 = _ from pk_uLs).trans (congrArg Int32.toInt64 hw.2.2)⟩)
set_option maxHeartbeats 4000000 in
set_option maxRecDepth 100000 in
theorem cw_go {l : Launch} {dC : Nat → ClassId} {dI : Nat → Nat → Nat} {ad fo fa ur : Nat → Nat} {cI cL cF cA : ClassId} (hlt : l.stackTraces = false) {u : gw_S} {g : rg_A} (hu : gw_Ru u g) (x : Int32) : rw_M l yL_go (Cond.codeWith yL_go method_10_code 3 (some .int) [(0, 5, 8, 13)] :: rg_tbl) gw_RW2 (dC, dI) rg_cl (gw_tys cI cL cF cA) (gw_Wu ad fo fa ur cI cL cF cA u) [.ref (ad 0), .int x] (rg_QI (dC, dI) rg_cl (gw_tys cI cL cF cA) (S := gw_S) (gw_PWv (rg_oGo g x)) (fun u => gw_Wu ad fo fa ur cI cL cF cA u)) 17 70 := by
  refine rw_of method_10_code 3 (some .int) [(0, 5, 8, 13)] (by decide) rfl (Nat.le_of_ble_eq_true rfl) ?_
  intro p e R s m args below meth c Q A H locs ls hR hQ hx hb hml hr hts hown hlk htab hT hnc hP hK hD hA hS hl
  have hl : lv_has ls 3 [(0, .ref (ad 0)), (1, .int x)] := hl
  have hts : ∀ w ∈ rg_tbl, w.before args s = true := fun w h => hts w (List.mem_cons_of_mem _ h)
  have hq0 : (gw_Wu ad fo fa ur cI cL cF cA u)[0]? = some (ad 0, .inr (1, [.ref (ad 1), .ref (ad 2), .ref (fo 60), .int u.2.2.2.2.2.2.2.2.2.2])) := by obtain ⟨rc, fp, sp, an, nn, cnt, pt, un, uc, pr, lc⟩ := u; rfl
  refine lv_aload_n hx hb dL_go_0 rfl (lv_at hl 0 rfl) ?_
  refine lv_iload_n hx hb dL_go_1 rfl (lv_at hl 1 rfl) ?_
  refine rw_callv hD hS hA (vx_runV (As := [.int x]) (rest := []) ⟨hx, hb, hml, hown, hts⟩ (cg_go hlt hu x _) (cwV 1 hts (rg_gV tw_395 tw_396 tw_397 tw_1 tw_398) rfl rfl rfl (by decide +kernel) ⟨(by rw [hR]; exact Nat.le_of_ble_eq_true rfl), (by rw [hR]; exact Nat.le_of_ble_eq_true rfl)⟩) (rx_preV rfl hT hS hA hK hP hD (ci := 1) (q0 := 0) rfl hq0) rfl rfl hl.1 rfl (lv_room (Nat.le_of_ble_eq_true rfl)) dL_go_2 ⟨(by rw [hR]; exact Nat.le_of_ble_eq_true rfl), (by rw [hR]; exact Nat.le_of_ble_eq_true rfl)⟩) (fun E ce q9 u1 H locs hpx hP hD hS hce hcv hcl => ?_) (fun u1 H locs hw hP hD hS => ?_)
  · obtain ⟨hru, hmem⟩ := hpx
    obtain ⟨hc, rfl⟩ := gw_eA_c hmem
    refine vx_catch (E := "java/lang/IllegalArgumentException") (name := "java/lang/IllegalArgumentException") hown [] ⟨0, 5, 8, 13⟩ [] htab (fun z hz => absurd hz List.not_mem_nil) (by decide) (by decide) (hts _ tw_153) (va_Nw.use (w := .castable "java/lang/IllegalArgumentException" "java/lang/IllegalArgumentException") rfl (hT.2.2.1 _ (List.mem_of_getElem? (i := 0) rfl))) hce hcv hcl ?_
    refine lv_astore_n (lv' := (2, .ref q9) :: [(0, .ref (ad 0)), (1, .int x)]) hx hb dL_go_8 rfl hl (by decide) rfl (fun ls hl => ?_)
    refine lv_iconst (v := nI 1) hx hb dL_go_9 (by decide) ?_
    rw [hQ]
    exact vx_ret (rg_iret hx hb hr hlk hK hP hD hS dL_go_10 u1 rfl ⟨hc.symm, hru⟩)
  · refine lv_goto (tgt := 11) hx hb dL_go_5 (by decide) ?_
    refine lv_iconst (v := nI 0) hx hb dL_go_11 (by decide) ?_
    rw [hQ]
    exact vx_ret (rg_iret hx hb hr hlk hK hP hD hS dL_go_12 u1 rfl ⟨hw.2.symm, hw.1⟩)
set_option maxHeartbeats 4000000 in
set_option maxRecDepth 100000 in
theorem cw_undo {l : Launch} {dC : Nat → ClassId} {dI : Nat → Nat → Nat} {ad fo fa ur : Nat → Nat} {cI cL cF cA : ClassId} (hlt : l.stackTraces = false) {u : gw_S} {g : rg_A} (hu : gw_Ru u g) {ao : Nat} {ov : Nat → Int64}  : rw_M l yL_undo (Cond.codeWith yL_undo method_11_code 3 (some .int) [(0, 8, 11, 48)] :: rg_tbl) gw_RW2 (dC, dI) rg_cl (gw_tys cI cL cF cA) (gw_Wu ad fo fa ur cI cL cF cA u ++ [(ao, .inl (cL, 1, .inr (.inl ov)))]) [.ref (ad 0), .ref ao] (rg_QI (dC, dI) rg_cl (gw_tys cI cL cF cA) (S := gw_S2) (gw_PW (rg_oUndo g)) (fun v => gw_W2 (fun u => gw_Wu ad fo fa ur cI cL cF cA u) ao cL v)) 17 70 := by
  refine rw_of method_11_code 3 (some .int) [(0, 8, 11, 48)] (by decide) rfl (Nat.le_of_ble_eq_true rfl) ?_
  intro p e R s m args below meth c Q A H locs ls hR hQ hx hb hml hr hts hown hlk htab hT hnc hP hK hD hA hS hl
  have hl : lv_has ls 3 [(0, .ref (ad 0)), (1, .ref ao)] := hl
  have hts : ∀ w ∈ rg_tbl, w.before args s = true := fun w h => hts w (List.mem_cons_of_mem _ h)
  have hq0 : (gw_Wu ad fo fa ur cI cL cF cA u ++ [(ao, .inl (cL, 1, .inr (.inl ov)))])[0]? = some (ad 0, .inr (1, [.ref (ad 1), .ref (ad 2), .ref (fo 60), .int u.2.2.2.2.2.2.2.2.2.2])) := by obtain ⟨rc, fp, sp, an, nn, cnt, pt, un, uc, pr, lc⟩ := u; rfl
  refine lv_aload_n hx hb dL_undo_0 rfl (lv_at hl 1 rfl) ?_
  refine lv_iconst (v := nI 0) hx hb dL_undo_1 (by decide) ?_
  refine lv_aload_n hx hb dL_undo_2 rfl (lv_at hl 0 rfl) ?_
  refine rw_calli hD hS hA (vx_runV (As := []) (rest := [.int (nI 0), .ref ao]) ⟨hx, hb, hml, hown, hts⟩ (rx_fI [(ao, .inl (cL, 1, .inr (.inl ov)))] (cg_undo hlt hu ) _) (cwV 0 hts (rg_gV tw_412 tw_413 tw_414 tw_1 tw_415) rfl rfl rfl (by decide +kernel) ⟨(by rw [hR]; exact Nat.le_of_ble_eq_true rfl), (by rw [hR]; exact Nat.le_of_ble_eq_true rfl)⟩) (rx_preV rfl hT hS hA hK hP hD (ci := 1) (q0 := 0) rfl hq0) rfl rfl hl.1 rfl (lv_room (Nat.le_of_ble_eq_true rfl)) dL_undo_3 ⟨(by rw [hR]; exact Nat.le_of_ble_eq_true rfl), (by rw [hR]; exact Nat.le_of_ble_eq_true rfl)⟩) (fun E ce q9 u1 H locs hpx hP hD hS hce hcv hcl => ?_) (fun r9 u1 H locs hw hP hD hS => ?_)
  · obtain ⟨hru, hmem⟩ := hpx
    obtain ⟨hc, rfl⟩ := gw_eN_c hmem
    refine vx_catch (E := "java/util/NoSuchElementException") (name := "java/util/NoSuchElementException") hown [] ⟨0, 8, 11, 48⟩ [] htab (fun z hz => absurd hz List.not_mem_nil) (by decide) (by decide) (hts _ tw_411) (va_Nw.use (w := .castable "java/util/NoSuchElementException" "java/util/NoSuchElementException") rfl (hT.2.2.1 _ (List.mem_of_getElem? (i := 3) rfl))) hce hcv hcl ?_
    refine lv_astore_n (lv' := (2, .ref q9) :: [(0, .ref (ad 0)), (1, .ref ao)]) hx hb dL_undo_11 rfl hl (by decide) rfl (fun ls hl => ?_)
    refine lv_iconst (v := nI 1) hx hb dL_undo_12 (by decide) ?_
    rw [hQ]
    exact vx_ret (rg_iret hx hb hr hlk hK hP hD hS dL_undo_13 (u1, ov) rfl ⟨hc.symm, hru, gw_ne0 hc (by decide)⟩)
  · refine lv_i2l (v := r9.toInt64) hx hb dL_undo_6 rfl ?_
    refine rg_last hx hb hK hP hD hS _ 1 (rg_apr (k := 0) rfl) rfl (by decide) (by decide) dL_undo_7 (fun H locs hP hD hS => ?_)
    rw [rg_seta] at hP hD
    refine lv_goto (tgt := 14) hx hb dL_undo_8 (by decide) ?_
    refine lv_iconst (v := nI 0) hx hb dL_undo_14 (by decide) ?_
    rw [hQ]
    exact vx_ret (rg_iret hx hb hr hlk hK hP hD hS dL_undo_15 (u1, vp_updL ov 0 (r9.toInt64)) rfl ⟨hw.2.1.symm, hw.1, fun _ => (show vp_updL ov 0 (r9.toInt64) 0 = _ from pk_uLs).trans (congrArg Int32.toInt64 hw.2.2)⟩)
set_option maxHeartbeats 4000000 in
set_option maxRecDepth 100000 in
theorem cw_redo {l : Launch} {dC : Nat → ClassId} {dI : Nat → Nat → Nat} {ad fo fa ur : Nat → Nat} {cI cL cF cA : ClassId} (hlt : l.stackTraces = false) {u : gw_S} {g : rg_A} (hu : gw_Ru u g) {ao : Nat} {ov : Nat → Int64}  : rw_M l yL_redo (Cond.codeWith yL_redo method_12_code 3 (some .int) [(0, 8, 11, 48)] :: rg_tbl) gw_RW2 (dC, dI) rg_cl (gw_tys cI cL cF cA) (gw_Wu ad fo fa ur cI cL cF cA u ++ [(ao, .inl (cL, 1, .inr (.inl ov)))]) [.ref (ad 0), .ref ao] (rg_QI (dC, dI) rg_cl (gw_tys cI cL cF cA) (S := gw_S2) (gw_PW (rg_oRedo g)) (fun v => gw_W2 (fun u => gw_Wu ad fo fa ur cI cL cF cA u) ao cL v)) 17 70 := by
  refine rw_of method_12_code 3 (some .int) [(0, 8, 11, 48)] (by decide) rfl (Nat.le_of_ble_eq_true rfl) ?_
  intro p e R s m args below meth c Q A H locs ls hR hQ hx hb hml hr hts hown hlk htab hT hnc hP hK hD hA hS hl
  have hl : lv_has ls 3 [(0, .ref (ad 0)), (1, .ref ao)] := hl
  have hts : ∀ w ∈ rg_tbl, w.before args s = true := fun w h => hts w (List.mem_cons_of_mem _ h)
  have hq0 : (gw_Wu ad fo fa ur cI cL cF cA u ++ [(ao, .inl (cL, 1, .inr (.inl ov)))])[0]? = some (ad 0, .inr (1, [.ref (ad 1), .ref (ad 2), .ref (fo 60), .int u.2.2.2.2.2.2.2.2.2.2])) := by obtain ⟨rc, fp, sp, an, nn, cnt, pt, un, uc, pr, lc⟩ := u; rfl
  refine lv_aload_n hx hb dL_redo_0 rfl (lv_at hl 1 rfl) ?_
  refine lv_iconst (v := nI 0) hx hb dL_redo_1 (by decide) ?_
  refine lv_aload_n hx hb dL_redo_2 rfl (lv_at hl 0 rfl) ?_
  refine rw_calli hD hS hA (vx_runV (As := []) (rest := [.int (nI 0), .ref ao]) ⟨hx, hb, hml, hown, hts⟩ (rx_fI [(ao, .inl (cL, 1, .inr (.inl ov)))] (cg_redo hlt hu ) _) (cwV 0 hts (rg_gV tw_443 tw_444 tw_445 tw_1 tw_446) rfl rfl rfl (by decide +kernel) ⟨(by rw [hR]; exact Nat.le_of_ble_eq_true rfl), (by rw [hR]; exact Nat.le_of_ble_eq_true rfl)⟩) (rx_preV rfl hT hS hA hK hP hD (ci := 1) (q0 := 0) rfl hq0) rfl rfl hl.1 rfl (lv_room (Nat.le_of_ble_eq_true rfl)) dL_redo_3 ⟨(by rw [hR]; exact Nat.le_of_ble_eq_true rfl), (by rw [hR]; exact Nat.le_of_ble_eq_true rfl)⟩) (fun E ce q9 u1 H locs hpx hP hD hS hce hcv hcl => ?_) (fun r9 u1 H locs hw hP hD hS => ?_)
  · obtain ⟨hru, hmem⟩ := hpx
    obtain ⟨hc, rfl⟩ := gw_eN_c hmem
    refine vx_catch (E := "java/util/NoSuchElementException") (name := "java/util/NoSuchElementException") hown [] ⟨0, 8, 11, 48⟩ [] htab (fun z hz => absurd hz List.not_mem_nil) (by decide) (by decide) (hts _ tw_411) (va_Nw.use (w := .castable "java/util/NoSuchElementException" "java/util/NoSuchElementException") rfl (hT.2.2.1 _ (List.mem_of_getElem? (i := 3) rfl))) hce hcv hcl ?_
    refine lv_astore_n (lv' := (2, .ref q9) :: [(0, .ref (ad 0)), (1, .ref ao)]) hx hb dL_redo_11 rfl hl (by decide) rfl (fun ls hl => ?_)
    refine lv_iconst (v := nI 1) hx hb dL_redo_12 (by decide) ?_
    rw [hQ]
    exact vx_ret (rg_iret hx hb hr hlk hK hP hD hS dL_redo_13 (u1, ov) rfl ⟨hc.symm, hru, gw_ne0 hc (by decide)⟩)
  · refine lv_i2l (v := r9.toInt64) hx hb dL_redo_6 rfl ?_
    refine rg_last hx hb hK hP hD hS _ 1 (rg_apr (k := 0) rfl) rfl (by decide) (by decide) dL_redo_7 (fun H locs hP hD hS => ?_)
    rw [rg_seta] at hP hD
    refine lv_goto (tgt := 14) hx hb dL_redo_8 (by decide) ?_
    refine lv_iconst (v := nI 0) hx hb dL_redo_14 (by decide) ?_
    rw [hQ]
    exact vx_ret (rg_iret hx hb hr hlk hK hP hD hS dL_redo_15 (u1, vp_updL ov 0 (r9.toInt64)) rfl ⟨hw.2.1.symm, hw.1, fun _ => (show vp_updL ov 0 (r9.toInt64) 0 = _ from pk_uLs).trans (congrArg Int32.toInt64 hw.2.2)⟩)
set_option maxHeartbeats 4000000 in
set_option maxRecDepth 100000 in
theorem cw_merge {l : Launch} {dC : Nat → ClassId} {dI : Nat → Nat → Nat} {ad fo fa ur : Nat → Nat} {cI cL cF cA : ClassId} (hlt : l.stackTraces = false) {u : gw_S} {g : rg_A} (hu : gw_Ru u g) {ao : Nat} {ov : Nat → Int64} (x y : Int32) : rw_M l yL_merge (Cond.codeWith yL_merge method_13_code 5 (some .int) [(0, 10, 13, 13), (0, 10, 17, 15)] :: rg_tbl) gw_RW2 (dC, dI) rg_cl (gw_tys cI cL cF cA) (gw_Wu ad fo fa ur cI cL cF cA u ++ [(ao, .inl (cL, 1, .inr (.inl ov)))]) [.ref (ad 0), .int x, .int y, .ref ao] (rg_QI (dC, dI) rg_cl (gw_tys cI cL cF cA) (S := gw_S2) (gw_PW (rg_oMerge g x y)) (fun v => gw_W2 (fun u => gw_Wu ad fo fa ur cI cL cF cA u) ao cL v)) 17 70 := by
  refine rw_of method_13_code 5 (some .int) [(0, 10, 13, 13), (0, 10, 17, 15)] (by decide) rfl (Nat.le_of_ble_eq_true rfl) ?_
  intro p e R s m args below meth c Q A H locs ls hR hQ hx hb hml hr hts hown hlk htab hT hnc hP hK hD hA hS hl
  have hl : lv_has ls 5 [(0, .ref (ad 0)), (1, .int x), (2, .int y), (3, .ref ao)] := hl
  have hts : ∀ w ∈ rg_tbl, w.before args s = true := fun w h => hts w (List.mem_cons_of_mem _ h)
  have hq0 : (gw_Wu ad fo fa ur cI cL cF cA u ++ [(ao, .inl (cL, 1, .inr (.inl ov)))])[0]? = some (ad 0, .inr (1, [.ref (ad 1), .ref (ad 2), .ref (fo 60), .int u.2.2.2.2.2.2.2.2.2.2])) := by obtain ⟨rc, fp, sp, an, nn, cnt, pt, un, uc, pr, lc⟩ := u; rfl
  refine lv_aload_n hx hb dL_merge_0 rfl (lv_at hl 3 rfl) ?_
  refine lv_iconst (v := nI 0) hx hb dL_merge_1 (by decide) ?_
  refine lv_aload_n hx hb dL_merge_2 rfl (lv_at hl 0 rfl) ?_
  refine lv_iload_n hx hb dL_merge_3 rfl (lv_at hl 1 rfl) ?_
  refine lv_iload_n hx hb dL_merge_4 rfl (lv_at hl 2 rfl) ?_
  refine rw_calli hD hS hA (vx_runV (As := [.int x, .int y]) (rest := [.int (nI 0), .ref ao]) ⟨hx, hb, hml, hown, hts⟩ (rx_fI [(ao, .inl (cL, 1, .inr (.inl ov)))] (cg_merge hlt hu x y) _) (cwV 2 hts (rg_gV tw_459 tw_460 tw_461 tw_1 tw_462) rfl rfl rfl (by decide +kernel) ⟨(by rw [hR]; exact Nat.le_of_ble_eq_true rfl), (by rw [hR]; exact Nat.le_of_ble_eq_true rfl)⟩) (rx_preV rfl hT hS hA hK hP hD (ci := 1) (q0 := 0) rfl hq0) rfl rfl hl.1 rfl (lv_room (Nat.le_of_ble_eq_true rfl)) dL_merge_5 ⟨(by rw [hR]; exact Nat.le_of_ble_eq_true rfl), (by rw [hR]; exact Nat.le_of_ble_eq_true rfl)⟩) (fun E ce q9 u1 H locs hpx hP hD hS hce hcv hcl => ?_) (fun r9 u1 H locs hw hP hD hS => ?_)
  · obtain ⟨hru, hmem⟩ := hpx
    rcases gw_eI_c hmem with ⟨hc, rfl⟩ | ⟨hc, rfl⟩
    · refine vx_catch (E := "java/lang/IllegalArgumentException") (name := "java/lang/IllegalArgumentException") hown [] ⟨0, 10, 13, 13⟩ [⟨0, 10, 17, 15⟩] htab (fun z hz => absurd hz List.not_mem_nil) (by decide) (by decide) (hts _ tw_153) (va_Nw.use (w := .castable "java/lang/IllegalArgumentException" "java/lang/IllegalArgumentException") rfl (hT.2.2.1 _ (List.mem_of_getElem? (i := 0) rfl))) hce hcv hcl ?_
      refine lv_astore (lv' := (4, .ref q9) :: [(0, .ref (ad 0)), (1, .int x), (2, .int y), (3, .ref ao)]) hx hb dL_merge_13 hl (by decide) rfl (fun ls hl => ?_)
      refine lv_iconst (v := nI 1) hx hb dL_merge_15 (by decide) ?_
      rw [hQ]
      exact vx_ret (rg_iret hx hb hr hlk hK hP hD hS dL_merge_16 (u1, ov) rfl ⟨hc.symm, hru, gw_ne0 hc (by decide)⟩)
    · refine vx_catch (E := "java/lang/IllegalStateException") (name := "java/lang/IllegalStateException") hown [⟨0, 10, 13, 13⟩] ⟨0, 10, 17, 15⟩ [] htab (fun z hz => by
        obtain rfl := List.mem_singleton.mp hz
        exact Or.inr ⟨by decide, "java/lang/IllegalArgumentException", hts _ tw_153, hnc.1⟩) (by decide) (by decide) (hts _ tw_154) (va_Nw.use (w := .castable "java/lang/IllegalStateException" "java/lang/IllegalStateException") rfl (hT.2.2.1 _ (List.mem_of_getElem? (i := 1) rfl))) hce hcv hcl ?_
      refine lv_astore (lv' := (4, .ref q9) :: [(0, .ref (ad 0)), (1, .int x), (2, .int y), (3, .ref ao)]) hx hb dL_merge_17 hl (by decide) rfl (fun ls hl => ?_)
      refine lv_iconst (v := nI 2) hx hb dL_merge_19 (by decide) ?_
      rw [hQ]
      exact vx_ret (rg_iret hx hb hr hlk hK hP hD hS dL_merge_20 (u1, ov) rfl ⟨hc.symm, hru, gw_ne0 hc (by decide)⟩)
  · refine lv_i2l (v := r9.toInt64) hx hb dL_merge_8 rfl ?_
    refine rg_last hx hb hK hP hD hS _ 1 (rg_apr (k := 0) rfl) rfl (by decide) (by decide) dL_merge_9 (fun H locs hP hD hS => ?_)
    rw [rg_seta] at hP hD
    refine lv_goto (tgt := 21) hx hb dL_merge_10 (by decide) ?_
    refine lv_iconst (v := nI 0) hx hb dL_merge_21 (by decide) ?_
    rw [hQ]
    exact vx_ret (rg_iret hx hb hr hlk hK hP hD hS dL_merge_22 (u1, vp_updL ov 0 (r9.toInt64)) rfl ⟨hw.2.1.symm, hw.1, fun _ => (show vp_updL ov 0 (r9.toInt64) 0 = _ from pk_uLs).trans (congrArg Int32.toInt64 hw.2.2)⟩)
set_option maxHeartbeats 4000000 in
set_option maxRecDepth 100000 in
theorem cw_base {l : Launch} {dC : Nat → ClassId} {dI : Nat → Nat → Nat} {ad fo fa ur : Nat → Nat} {cI cL cF cA : ClassId} (hlt : l.stackTraces = false) {u : gw_S} {g : rg_A} (hu : gw_Ru u g) {ao : Nat} {ov : Nat → Int64} (x : Int32) : rw_M l yL_base (Cond.codeWith yL_base method_14_code 4 (some .int) [(0, 9, 12, 13)] :: rg_tbl) gw_RW2 (dC, dI) rg_cl (gw_tys cI cL cF cA) (gw_Wu ad fo fa ur cI cL cF cA u ++ [(ao, .inl (cL, 1, .inr (.inl ov)))]) [.ref (ad 0), .int x, .ref ao] (rg_QI (dC, dI) rg_cl (gw_tys cI cL cF cA) (S := gw_S2) (gw_PW (rg_oBase g x)) (fun v => gw_W2 (fun u => gw_Wu ad fo fa ur cI cL cF cA u) ao cL v)) 17 70 := by
  refine rw_of method_14_code 4 (some .int) [(0, 9, 12, 13)] (by decide) rfl (Nat.le_of_ble_eq_true rfl) ?_
  intro p e R s m args below meth c Q A H locs ls hR hQ hx hb hml hr hts hown hlk htab hT hnc hP hK hD hA hS hl
  have hl : lv_has ls 4 [(0, .ref (ad 0)), (1, .int x), (2, .ref ao)] := hl
  have hts : ∀ w ∈ rg_tbl, w.before args s = true := fun w h => hts w (List.mem_cons_of_mem _ h)
  have hq0 : (gw_Wu ad fo fa ur cI cL cF cA u ++ [(ao, .inl (cL, 1, .inr (.inl ov)))])[0]? = some (ad 0, .inr (1, [.ref (ad 1), .ref (ad 2), .ref (fo 60), .int u.2.2.2.2.2.2.2.2.2.2])) := by obtain ⟨rc, fp, sp, an, nn, cnt, pt, un, uc, pr, lc⟩ := u; rfl
  refine lv_aload_n hx hb dL_base_0 rfl (lv_at hl 2 rfl) ?_
  refine lv_iconst (v := nI 0) hx hb dL_base_1 (by decide) ?_
  refine lv_aload_n hx hb dL_base_2 rfl (lv_at hl 0 rfl) ?_
  refine lv_iload_n hx hb dL_base_3 rfl (lv_at hl 1 rfl) ?_
  refine rw_calli hD hS hA (vx_runV (As := [.int x]) (rest := [.int (nI 0), .ref ao]) ⟨hx, hb, hml, hown, hts⟩ (rx_fI [(ao, .inl (cL, 1, .inr (.inl ov)))] (cg_base hlt hu x) _) (cwV 1 hts (rg_gV tw_553 tw_554 tw_555 tw_1 tw_556) rfl rfl rfl (by decide +kernel) ⟨(by rw [hR]; exact Nat.le_of_ble_eq_true rfl), (by rw [hR]; exact Nat.le_of_ble_eq_true rfl)⟩) (rx_preV rfl hT hS hA hK hP hD (ci := 1) (q0 := 0) rfl hq0) rfl rfl hl.1 rfl (lv_room (Nat.le_of_ble_eq_true rfl)) dL_base_4 ⟨(by rw [hR]; exact Nat.le_of_ble_eq_true rfl), (by rw [hR]; exact Nat.le_of_ble_eq_true rfl)⟩) (fun E ce q9 u1 H locs hpx hP hD hS hce hcv hcl => ?_) (fun r9 u1 H locs hw hP hD hS => ?_)
  · obtain ⟨hru, hmem⟩ := hpx
    obtain ⟨hc, rfl⟩ := gw_eA_c hmem
    refine vx_catch (E := "java/lang/IllegalArgumentException") (name := "java/lang/IllegalArgumentException") hown [] ⟨0, 9, 12, 13⟩ [] htab (fun z hz => absurd hz List.not_mem_nil) (by decide) (by decide) (hts _ tw_153) (va_Nw.use (w := .castable "java/lang/IllegalArgumentException" "java/lang/IllegalArgumentException") rfl (hT.2.2.1 _ (List.mem_of_getElem? (i := 0) rfl))) hce hcv hcl ?_
    refine lv_astore_n (lv' := (3, .ref q9) :: [(0, .ref (ad 0)), (1, .int x), (2, .ref ao)]) hx hb dL_base_12 rfl hl (by decide) rfl (fun ls hl => ?_)
    refine lv_iconst (v := nI 1) hx hb dL_base_13 (by decide) ?_
    rw [hQ]
    exact vx_ret (rg_iret hx hb hr hlk hK hP hD hS dL_base_14 (u1, ov) rfl ⟨hc.symm, hru, gw_ne0 hc (by decide)⟩)
  · refine lv_i2l (v := r9.toInt64) hx hb dL_base_7 rfl ?_
    refine rg_last hx hb hK hP hD hS _ 1 (rg_apr (k := 0) rfl) rfl (by decide) (by decide) dL_base_8 (fun H locs hP hD hS => ?_)
    rw [rg_seta] at hP hD
    refine lv_goto (tgt := 15) hx hb dL_base_9 (by decide) ?_
    refine lv_iconst (v := nI 0) hx hb dL_base_15 (by decide) ?_
    rw [hQ]
    exact vx_ret (rg_iret hx hb hr hlk hK hP hD hS dL_base_16 (u1, vp_updL ov 0 (r9.toInt64)) rfl ⟨hw.2.1.symm, hw.1, fun _ => (show vp_updL ov 0 (r9.toInt64) 0 = _ from pk_uLs).trans (congrArg Int32.toInt64 hw.2.2)⟩)
set_option maxHeartbeats 4000000 in
set_option maxRecDepth 100000 in
theorem cw_value {l : Launch} {dC : Nat → ClassId} {dI : Nat → Nat → Nat} {ad fo fa ur : Nat → Nat} {cI cL cF cA : ClassId} (hlt : l.stackTraces = false) {u : gw_S} {g : rg_A} (hu : gw_Ru u g) {ao : Nat} {ov : Nat → Int64} (x f i : Int32) : rw_M l yL_value (Cond.codeWith yL_value method_15_code 6 (some .int) [(0, 11, 14, 13), (0, 11, 18, 28)] :: rg_tbl) gw_RW2 (dC, dI) rg_cl (gw_tys cI cL cF cA) (gw_Wu ad fo fa ur cI cL cF cA u ++ [(ao, .inl (cL, 1, .inr (.inl ov)))]) [.ref (ad 0), .int x, .int f, .int i, .ref ao] (rg_QI (dC, dI) rg_cl (gw_tys cI cL cF cA) (S := gw_S2) (gw_PWl (rg_oVal g x f i) g) (fun v => gw_W2 (fun u => gw_Wu ad fo fa ur cI cL cF cA u) ao cL v)) 17 70 := by
  refine rw_of method_15_code 6 (some .int) [(0, 11, 14, 13), (0, 11, 18, 28)] (by decide) rfl (Nat.le_of_ble_eq_true rfl) ?_
  intro p e R s m args below meth c Q A H locs ls hR hQ hx hb hml hr hts hown hlk htab hT hnc hP hK hD hA hS hl
  have hl : lv_has ls 6 [(0, .ref (ad 0)), (1, .int x), (2, .int f), (3, .int i), (4, .ref ao)] := hl
  have hts : ∀ w ∈ rg_tbl, w.before args s = true := fun w h => hts w (List.mem_cons_of_mem _ h)
  have hq0 : (gw_Wu ad fo fa ur cI cL cF cA u ++ [(ao, .inl (cL, 1, .inr (.inl ov)))])[0]? = some (ad 0, .inr (1, [.ref (ad 1), .ref (ad 2), .ref (fo 60), .int u.2.2.2.2.2.2.2.2.2.2])) := by obtain ⟨rc, fp, sp, an, nn, cnt, pt, un, uc, pr, lc⟩ := u; rfl
  refine lv_aload hx hb dL_value_0 (lv_at hl 4 rfl) ?_
  refine lv_iconst (v := nI 0) hx hb dL_value_2 (by decide) ?_
  refine lv_aload_n hx hb dL_value_3 rfl (lv_at hl 0 rfl) ?_
  refine lv_iload_n hx hb dL_value_4 rfl (lv_at hl 1 rfl) ?_
  refine lv_iload_n hx hb dL_value_5 rfl (lv_at hl 2 rfl) ?_
  refine lv_iload_n hx hb dL_value_6 rfl (lv_at hl 3 rfl) ?_
  refine rw_calll hD hS hA (vx_runV (As := [.int x, .int f, .int i]) (rest := [.int (nI 0), .ref ao]) ⟨hx, hb, hml, hown, hts⟩ (rx_fL [(ao, .inl (cL, 1, .inr (.inl ov)))] (cg_value hlt hu x f i) _) (cwV 3 hts (rg_gV tw_560 tw_561 tw_562 tw_1 tw_563) rfl rfl rfl (by decide +kernel) ⟨(by rw [hR]; exact Nat.le_of_ble_eq_true rfl), (by rw [hR]; exact Nat.le_of_ble_eq_true rfl)⟩) (rx_preV rfl hT hS hA hK hP hD (ci := 1) (q0 := 0) rfl hq0) rfl rfl hl.1 rfl (lv_room (Nat.le_of_ble_eq_true rfl)) dL_value_7 ⟨(by rw [hR]; exact Nat.le_of_ble_eq_true rfl), (by rw [hR]; exact Nat.le_of_ble_eq_true rfl)⟩) (fun E ce q9 u1 H locs hpx hP hD hS hce hcv hcl => ?_) (fun r9 u1 H locs hw hP hD hS => ?_)
  · obtain ⟨hru, hmem⟩ := hpx
    rcases gw_eV_c hmem with ⟨hc, rfl⟩ | ⟨hc, rfl⟩
    · refine vx_catch (E := "java/lang/IllegalArgumentException") (name := "java/lang/IllegalArgumentException") hown [] ⟨0, 11, 14, 13⟩ [⟨0, 11, 18, 28⟩] htab (fun z hz => absurd hz List.not_mem_nil) (by decide) (by decide) (hts _ tw_153) (va_Nw.use (w := .castable "java/lang/IllegalArgumentException" "java/lang/IllegalArgumentException") rfl (hT.2.2.1 _ (List.mem_of_getElem? (i := 0) rfl))) hce hcv hcl ?_
      refine lv_astore (lv' := (5, .ref q9) :: [(0, .ref (ad 0)), (1, .int x), (2, .int f), (3, .int i), (4, .ref ao)]) hx hb dL_value_14 hl (by decide) rfl (fun ls hl => ?_)
      refine lv_iconst (v := nI 1) hx hb dL_value_16 (by decide) ?_
      rw [hQ]
      exact vx_ret (rg_iret hx hb hr hlk hK hP hD hS dL_value_17 (u1, ov) rfl ⟨hc.symm, hru, gw_ne0 hc (by decide)⟩)
    · refine vx_catch (E := "java/lang/IndexOutOfBoundsException") (name := "java/lang/IndexOutOfBoundsException") hown [⟨0, 11, 14, 13⟩] ⟨0, 11, 18, 28⟩ [] htab (fun z hz => by
        obtain rfl := List.mem_singleton.mp hz
        exact Or.inr ⟨by decide, "java/lang/IllegalArgumentException", hts _ tw_153, hnc.2.1⟩) (by decide) (by decide) (hts _ tw_318) (va_Nw.use (w := .castable "java/lang/IndexOutOfBoundsException" "java/lang/IndexOutOfBoundsException") rfl (hT.2.2.1 _ (List.mem_of_getElem? (i := 2) rfl))) hce hcv hcl ?_
      refine lv_astore (lv' := (5, .ref q9) :: [(0, .ref (ad 0)), (1, .int x), (2, .int f), (3, .int i), (4, .ref ao)]) hx hb dL_value_18 hl (by decide) rfl (fun ls hl => ?_)
      refine lv_iconst (v := nI 2) hx hb dL_value_20 (by decide) ?_
      rw [hQ]
      exact vx_ret (rg_iret hx hb hr hlk hK hP hD hS dL_value_21 (u1, ov) rfl ⟨hc.symm, hru, gw_ne0 hc (by decide)⟩)
  · refine rg_last hx hb hK hP hD hS _ 1 (rg_apr (k := 0) rfl) rfl (by decide) (by decide) dL_value_10 (fun H locs hP hD hS => ?_)
    rw [rg_seta] at hP hD
    refine lv_goto (tgt := 22) hx hb dL_value_11 (by decide) ?_
    refine lv_iconst (v := nI 0) hx hb dL_value_22 (by decide) ?_
    rw [hQ]
    exact vx_ret (rg_iret hx hb hr hlk hK hP hD hS dL_value_23 (u1, vp_updL ov 0 (r9)) rfl ⟨hw.2.1.symm, hw.1, fun _ => (show vp_updL ov 0 r9 0 = _ from pk_uLs).trans hw.2.2⟩)
set_option maxHeartbeats 4000000 in
set_option maxRecDepth 100000 in
theorem cw_differ {l : Launch} {dC : Nat → ClassId} {dI : Nat → Nat → Nat} {ad fo fa ur : Nat → Nat} {cI cL cF cA : ClassId} (hlt : l.stackTraces = false) {u : gw_S} {g : rg_A} (hu : gw_Ru u g) {ao : Nat} {ov : Nat → Int64} (x y : Int32) : rw_M l yL_differ (Cond.codeWith yL_differ method_16_code 5 (some .int) [(0, 10, 13, 13)] :: rg_tbl) gw_RW2 (dC, dI) rg_cl (gw_tys cI cL cF cA) (gw_Wu ad fo fa ur cI cL cF cA u ++ [(ao, .inl (cL, 1, .inr (.inl ov)))]) [.ref (ad 0), .int x, .int y, .ref ao] (rg_QI (dC, dI) rg_cl (gw_tys cI cL cF cA) (S := gw_S2) (gw_PW (rg_oDif g x y)) (fun v => gw_W2 (fun u => gw_Wu ad fo fa ur cI cL cF cA u) ao cL v)) 17 70 := by
  refine rw_of method_16_code 5 (some .int) [(0, 10, 13, 13)] (by decide) rfl (Nat.le_of_ble_eq_true rfl) ?_
  intro p e R s m args below meth c Q A H locs ls hR hQ hx hb hml hr hts hown hlk htab hT hnc hP hK hD hA hS hl
  have hl : lv_has ls 5 [(0, .ref (ad 0)), (1, .int x), (2, .int y), (3, .ref ao)] := hl
  have hts : ∀ w ∈ rg_tbl, w.before args s = true := fun w h => hts w (List.mem_cons_of_mem _ h)
  have hq0 : (gw_Wu ad fo fa ur cI cL cF cA u ++ [(ao, .inl (cL, 1, .inr (.inl ov)))])[0]? = some (ad 0, .inr (1, [.ref (ad 1), .ref (ad 2), .ref (fo 60), .int u.2.2.2.2.2.2.2.2.2.2])) := by obtain ⟨rc, fp, sp, an, nn, cnt, pt, un, uc, pr, lc⟩ := u; rfl
  refine lv_aload_n hx hb dL_differ_0 rfl (lv_at hl 3 rfl) ?_
  refine lv_iconst (v := nI 0) hx hb dL_differ_1 (by decide) ?_
  refine lv_aload_n hx hb dL_differ_2 rfl (lv_at hl 0 rfl) ?_
  refine lv_iload_n hx hb dL_differ_3 rfl (lv_at hl 1 rfl) ?_
  refine lv_iload_n hx hb dL_differ_4 rfl (lv_at hl 2 rfl) ?_
  refine rw_calli hD hS hA (vx_runV (As := [.int x, .int y]) (rest := [.int (nI 0), .ref ao]) ⟨hx, hb, hml, hown, hts⟩ (rx_fI [(ao, .inl (cL, 1, .inr (.inl ov)))] (cg_differ hlt hu x y) _) (cwV 2 hts (rg_gV tw_572 tw_573 tw_574 tw_1 tw_575) rfl rfl rfl (by decide +kernel) ⟨(by rw [hR]; exact Nat.le_of_ble_eq_true rfl), (by rw [hR]; exact Nat.le_of_ble_eq_true rfl)⟩) (rx_preV rfl hT hS hA hK hP hD (ci := 1) (q0 := 0) rfl hq0) rfl rfl hl.1 rfl (lv_room (Nat.le_of_ble_eq_true rfl)) dL_differ_5 ⟨(by rw [hR]; exact Nat.le_of_ble_eq_true rfl), (by rw [hR]; exact Nat.le_of_ble_eq_true rfl)⟩) (fun E ce q9 u1 H locs hpx hP hD hS hce hcv hcl => ?_) (fun r9 u1 H locs hw hP hD hS => ?_)
  · obtain ⟨hru, hmem⟩ := hpx
    obtain ⟨hc, rfl⟩ := gw_eA_c hmem
    refine vx_catch (E := "java/lang/IllegalArgumentException") (name := "java/lang/IllegalArgumentException") hown [] ⟨0, 10, 13, 13⟩ [] htab (fun z hz => absurd hz List.not_mem_nil) (by decide) (by decide) (hts _ tw_153) (va_Nw.use (w := .castable "java/lang/IllegalArgumentException" "java/lang/IllegalArgumentException") rfl (hT.2.2.1 _ (List.mem_of_getElem? (i := 0) rfl))) hce hcv hcl ?_
    refine lv_astore (lv' := (4, .ref q9) :: [(0, .ref (ad 0)), (1, .int x), (2, .int y), (3, .ref ao)]) hx hb dL_differ_13 hl (by decide) rfl (fun ls hl => ?_)
    refine lv_iconst (v := nI 1) hx hb dL_differ_15 (by decide) ?_
    rw [hQ]
    exact vx_ret (rg_iret hx hb hr hlk hK hP hD hS dL_differ_16 (u1, ov) rfl ⟨hc.symm, hru, gw_ne0 hc (by decide)⟩)
  · refine lv_i2l (v := r9.toInt64) hx hb dL_differ_8 rfl ?_
    refine rg_last hx hb hK hP hD hS _ 1 (rg_apr (k := 0) rfl) rfl (by decide) (by decide) dL_differ_9 (fun H locs hP hD hS => ?_)
    rw [rg_seta] at hP hD
    refine lv_goto (tgt := 17) hx hb dL_differ_10 (by decide) ?_
    refine lv_iconst (v := nI 0) hx hb dL_differ_17 (by decide) ?_
    rw [hQ]
    exact vx_ret (rg_iret hx hb hr hlk hK hP hD hS dL_differ_18 (u1, vp_updL ov 0 (r9.toInt64)) rfl ⟨hw.2.1.symm, hw.1, fun _ => (show vp_updL ov 0 (r9.toInt64) 0 = _ from pk_uLs).trans (congrArg Int32.toInt64 hw.2.2)⟩)
set_option maxHeartbeats 4000000 in
set_option maxRecDepth 100000 in
theorem cw_parent {l : Launch} {dC : Nat → ClassId} {dI : Nat → Nat → Nat} {ad fo fa ur : Nat → Nat} {cI cL cF cA : ClassId} (hlt : l.stackTraces = false) {u : gw_S} {g : rg_A} (hu : gw_Ru u g) {ao : Nat} {ov : Nat → Int64} (x : Int32) (w : Bool) : rw_M l yL_parent (Cond.codeWith yL_parent method_17_code 5 (some .int) [(0, 10, 13, 13)] :: rg_tbl) gw_RW2 (dC, dI) rg_cl (gw_tys cI cL cF cA) (gw_Wu ad fo fa ur cI cL cF cA u ++ [(ao, .inl (cL, 1, .inr (.inl ov)))]) [.ref (ad 0), .int x, .int (bif w then 1 else 0), .ref ao] (rg_QI (dC, dI) rg_cl (gw_tys cI cL cF cA) (S := gw_S2) (gw_PW (rg_oPar g x w)) (fun v => gw_W2 (fun u => gw_Wu ad fo fa ur cI cL cF cA u) ao cL v)) 17 70 := by
  refine rw_of method_17_code 5 (some .int) [(0, 10, 13, 13)] (by decide) rfl (Nat.le_of_ble_eq_true rfl) ?_
  intro p e R s m args below meth c Q A H locs ls hR hQ hx hb hml hr hts hown hlk htab hT hnc hP hK hD hA hS hl
  have hl : lv_has ls 5 [(0, .ref (ad 0)), (1, .int x), (2, .int (bif w then 1 else 0)), (3, .ref ao)] := hl
  have hts : ∀ w ∈ rg_tbl, w.before args s = true := fun w h => hts w (List.mem_cons_of_mem _ h)
  have hq0 : (gw_Wu ad fo fa ur cI cL cF cA u ++ [(ao, .inl (cL, 1, .inr (.inl ov)))])[0]? = some (ad 0, .inr (1, [.ref (ad 1), .ref (ad 2), .ref (fo 60), .int u.2.2.2.2.2.2.2.2.2.2])) := by obtain ⟨rc, fp, sp, an, nn, cnt, pt, un, uc, pr, lc⟩ := u; rfl
  refine lv_aload_n hx hb dL_parent_0 rfl (lv_at hl 3 rfl) ?_
  refine lv_iconst (v := nI 0) hx hb dL_parent_1 (by decide) ?_
  refine lv_aload_n hx hb dL_parent_2 rfl (lv_at hl 0 rfl) ?_
  refine lv_iload_n hx hb dL_parent_3 rfl (lv_at hl 1 rfl) ?_
  refine lv_iload_n hx hb dL_parent_4 rfl (lv_at hl 2 rfl) ?_
  refine rw_calli hD hS hA (vx_runV (As := [.int x, .int (bif w then 1 else 0)]) (rest := [.int (nI 0), .ref ao]) ⟨hx, hb, hml, hown, hts⟩ (rx_fI [(ao, .inl (cL, 1, .inr (.inl ov)))] (cg_parent hlt hu x w) _) (cwV 2 hts (rg_gV tw_579 tw_580 tw_581 tw_1 tw_582) rfl rfl rfl (by decide +kernel) ⟨(by rw [hR]; exact Nat.le_of_ble_eq_true rfl), (by rw [hR]; exact Nat.le_of_ble_eq_true rfl)⟩) (rx_preV rfl hT hS hA hK hP hD (ci := 1) (q0 := 0) rfl hq0) rfl rfl hl.1 rfl (lv_room (Nat.le_of_ble_eq_true rfl)) dL_parent_5 ⟨(by rw [hR]; exact Nat.le_of_ble_eq_true rfl), (by rw [hR]; exact Nat.le_of_ble_eq_true rfl)⟩) (fun E ce q9 u1 H locs hpx hP hD hS hce hcv hcl => ?_) (fun r9 u1 H locs hw hP hD hS => ?_)
  · obtain ⟨hru, hmem⟩ := hpx
    obtain ⟨hc, rfl⟩ := gw_eA_c hmem
    refine vx_catch (E := "java/lang/IllegalArgumentException") (name := "java/lang/IllegalArgumentException") hown [] ⟨0, 10, 13, 13⟩ [] htab (fun z hz => absurd hz List.not_mem_nil) (by decide) (by decide) (hts _ tw_153) (va_Nw.use (w := .castable "java/lang/IllegalArgumentException" "java/lang/IllegalArgumentException") rfl (hT.2.2.1 _ (List.mem_of_getElem? (i := 0) rfl))) hce hcv hcl ?_
    refine lv_astore (lv' := (4, .ref q9) :: [(0, .ref (ad 0)), (1, .int x), (2, .int (bif w then 1 else 0)), (3, .ref ao)]) hx hb dL_parent_13 hl (by decide) rfl (fun ls hl => ?_)
    refine lv_iconst (v := nI 1) hx hb dL_parent_15 (by decide) ?_
    rw [hQ]
    exact vx_ret (rg_iret hx hb hr hlk hK hP hD hS dL_parent_16 (u1, ov) rfl ⟨hc.symm, hru, gw_ne0 hc (by decide)⟩)
  · refine lv_i2l (v := r9.toInt64) hx hb dL_parent_8 rfl ?_
    refine rg_last hx hb hK hP hD hS _ 1 (rg_apr (k := 0) rfl) rfl (by decide) (by decide) dL_parent_9 (fun H locs hP hD hS => ?_)
    rw [rg_seta] at hP hD
    refine lv_goto (tgt := 17) hx hb dL_parent_10 (by decide) ?_
    refine lv_iconst (v := nI 0) hx hb dL_parent_17 (by decide) ?_
    rw [hQ]
    exact vx_ret (rg_iret hx hb hr hlk hK hP hD hS dL_parent_18 (u1, vp_updL ov 0 (r9.toInt64)) rfl ⟨hw.2.1.symm, hw.1, fun _ => (show vp_updL ov 0 (r9.toInt64) 0 = _ from pk_uLs).trans (congrArg Int32.toInt64 hw.2.2)⟩)
set_option maxHeartbeats 4000000 in
set_option maxRecDepth 100000 in
theorem cw_figure {l : Launch} {dC : Nat → ClassId} {dI : Nat → Nat → Nat} {ad fo fa ur : Nat → Nat} {cI cL cF cA : ClassId} (hlt : l.stackTraces = false) {u : gw_S} {g : rg_A} (hu : gw_Ru u g) {ao : Nat} {ov : Nat → Int64} (x : Int32) : rw_M l yL_figure (Cond.codeWith yL_figure method_18_code 4 (some .int) [(0, 9, 12, 13)] :: rg_tbl) gw_RW2 (dC, dI) rg_cl (gw_tys cI cL cF cA) (gw_Wu ad fo fa ur cI cL cF cA u ++ [(ao, .inl (cL, 1, .inr (.inl ov)))]) [.ref (ad 0), .int x, .ref ao] (rg_QI (dC, dI) rg_cl (gw_tys cI cL cF cA) (S := gw_S2) (gw_PW (rg_oFig g x)) (fun v => gw_W2 (fun u => gw_Wu ad fo fa ur cI cL cF cA u) ao cL v)) 17 70 := by
  refine rw_of method_18_code 4 (some .int) [(0, 9, 12, 13)] (by decide) rfl (Nat.le_of_ble_eq_true rfl) ?_
  intro p e R s m args below meth c Q A H locs ls hR hQ hx hb hml hr hts hown hlk htab hT hnc hP hK hD hA hS hl
  have hl : lv_has ls 4 [(0, .ref (ad 0)), (1, .int x), (2, .ref ao)] := hl
  have hts : ∀ w ∈ rg_tbl, w.before args s = true := fun w h => hts w (List.mem_cons_of_mem _ h)
  have hq0 : (gw_Wu ad fo fa ur cI cL cF cA u ++ [(ao, .inl (cL, 1, .inr (.inl ov)))])[0]? = some (ad 0, .inr (1, [.ref (ad 1), .ref (ad 2), .ref (fo 60), .int u.2.2.2.2.2.2.2.2.2.2])) := by obtain ⟨rc, fp, sp, an, nn, cnt, pt, un, uc, pr, lc⟩ := u; rfl
  refine lv_aload_n hx hb dL_figure_0 rfl (lv_at hl 2 rfl) ?_
  refine lv_iconst (v := nI 0) hx hb dL_figure_1 (by decide) ?_
  refine lv_aload_n hx hb dL_figure_2 rfl (lv_at hl 0 rfl) ?_
  refine lv_iload_n hx hb dL_figure_3 rfl (lv_at hl 1 rfl) ?_
  refine rw_calli hD hS hA (vx_runV (As := [.int x]) (rest := [.int (nI 0), .ref ao]) ⟨hx, hb, hml, hown, hts⟩ (rx_fI [(ao, .inl (cL, 1, .inr (.inl ov)))] (cg_figure hlt hu x) _) (cwV 1 hts (rg_gV tw_590 tw_591 tw_592 tw_1 tw_593) rfl rfl rfl (by decide +kernel) ⟨(by rw [hR]; exact Nat.le_of_ble_eq_true rfl), (by rw [hR]; exact Nat.le_of_ble_eq_true rfl)⟩) (rx_preV rfl hT hS hA hK hP hD (ci := 1) (q0 := 0) rfl hq0) rfl rfl hl.1 rfl (lv_room (Nat.le_of_ble_eq_true rfl)) dL_figure_4 ⟨(by rw [hR]; exact Nat.le_of_ble_eq_true rfl), (by rw [hR]; exact Nat.le_of_ble_eq_true rfl)⟩) (fun E ce q9 u1 H locs hpx hP hD hS hce hcv hcl => ?_) (fun r9 u1 H locs hw hP hD hS => ?_)
  · obtain ⟨hru, hmem⟩ := hpx
    obtain ⟨hc, rfl⟩ := gw_eA_c hmem
    refine vx_catch (E := "java/lang/IllegalArgumentException") (name := "java/lang/IllegalArgumentException") hown [] ⟨0, 9, 12, 13⟩ [] htab (fun z hz => absurd hz List.not_mem_nil) (by decide) (by decide) (hts _ tw_153) (va_Nw.use (w := .castable "java/lang/IllegalArgumentException" "java/lang/IllegalArgumentException") rfl (hT.2.2.1 _ (List.mem_of_getElem? (i := 0) rfl))) hce hcv hcl ?_
    refine lv_astore_n (lv' := (3, .ref q9) :: [(0, .ref (ad 0)), (1, .int x), (2, .ref ao)]) hx hb dL_figure_12 rfl hl (by decide) rfl (fun ls hl => ?_)
    refine lv_iconst (v := nI 1) hx hb dL_figure_13 (by decide) ?_
    rw [hQ]
    exact vx_ret (rg_iret hx hb hr hlk hK hP hD hS dL_figure_14 (u1, ov) rfl ⟨hc.symm, hru, gw_ne0 hc (by decide)⟩)
  · refine lv_i2l (v := r9.toInt64) hx hb dL_figure_7 rfl ?_
    refine rg_last hx hb hK hP hD hS _ 1 (rg_apr (k := 0) rfl) rfl (by decide) (by decide) dL_figure_8 (fun H locs hP hD hS => ?_)
    rw [rg_seta] at hP hD
    refine lv_goto (tgt := 15) hx hb dL_figure_9 (by decide) ?_
    refine lv_iconst (v := nI 0) hx hb dL_figure_15 (by decide) ?_
    rw [hQ]
    exact vx_ret (rg_iret hx hb hr hlk hK hP hD hS dL_figure_16 (u1, vp_updL ov 0 (r9.toInt64)) rfl ⟨hw.2.1.symm, hw.1, fun _ => (show vp_updL ov 0 (r9.toInt64) 0 = _ from pk_uLs).trans (congrArg Int32.toInt64 hw.2.2)⟩)
