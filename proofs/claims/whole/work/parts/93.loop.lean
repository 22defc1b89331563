/-! The law's loop, and its start. -/
def R_law : String := "RevisionGroveLaw"
def lw_P (b : Addr) (xs : List Int32) (args : Array Value) (s : State) : Prop := args = #[.ref b] ∧ s.IntsAt b xs ∧ xs.length ≤ 2048 ∧ (Jvm.Cond.and given_1 narrow_1).before args s = true
def lw_Q (_ : Array Value) (s : State) (o : Outcome) (t : State) : Prop := o = .returned (some (.int 1)) ∧ Framed s o t [] 601024 7293034
def lw_Z (below : List Frame) (a : Array Value) (s : State) : State → Prop := fun t => ∃ o, t.status = .running ∧ Ended t below o ∧ lw_Q a s o t
/-- the law's own end, with 1 on the stack, nothing written that was there before, its room as the claim has it -/
theorem lw_ret {p : Program} {l : Launch} {e : Env} {s : State} {m : MethodId} {below : List Frame} {meth : Method} {c : Code} {b : Nat} (hx : p.tables.exec = Jvm.exec) (hb : c.code = code) (hr : meth.sig.returnType = ret) (hlocks : meth.locks = false) {pc : Nat} {H : Heap} {ls : Array Slot} (hdg : decode code pc = .ok (.ireturn, 1)) : W p l e room_1 s m #[Value.ref b] below meth c H [] 601024 7293034 (lw_Z below #[Value.ref b] s) (F0 m pc ls [.int 1]) := by
  intro T hT X
  obtain ⟨fs, hret, hrun, hended, hW, hframe⟩ := X.leave (v := some (.int 1)) (hlocks := hlocks) (fun h => by rw [hr] at h; cases h)
  have hmeth' : T.vm.method? m = some meth := X.method'
  refine ⟨T.setFrames fs, ?_, .returned (some (.int 1)), hrun, hended, rfl, ⟨_, rfl⟩, hW, hframe⟩
  jvm_step X.here [X.here.top, hx, hb, hdg, hmeth', hr, ret, narrow_b1]
  (try refine ⟨rfl, ?_⟩); (try refine ⟨rfl, ?_⟩)
  first | (intro acts; rw [hret _ acts rfl rfl rfl]) | rw [hret _ _ rfl rfl rfl]
  exact Steps.refl _
/-- what holds at the law's entry: the machine, the code, the tables' words (any of lw_tbl by 'hts w (by decide +kernel)'), the script of L ints xs at the cell b, what the Statement gives of the start (any of its parts by flat_of_before) -/
def lw_At (p : Program) (s : State) (m : MethodId) (meth : Method) (c : Code) (b L : Nat) (xs : Nat → Int32) : Prop :=
  p.tables.exec = Jvm.exec ∧ c.code = code ∧ meth.sig.returnType = ret ∧ c.maxLocals = 8 ∧ s.vm.findClass R_law = some m.cls ∧ (∀ w ∈ lw_tbl, w.before #[Value.ref b] s = true) ∧ va_X b L xs s s.heap ∧ b < s.heap.size ∧ meth.locks = false ∧ (Jvm.Cond.and given_1 narrow_1).before #[Value.ref b] s = true
theorem gw_pm3 {α : Type} (M G O : List α) : List.Perm ((M ++ G) ++ O) ((G ++ O) ++ M) := by
  classical
  rw [List.perm_iff_count]
  intro z
  simp only [List.count_append]
  omega
set_option maxHeartbeats 4000000 in
set_option maxRecDepth 100000 in
theorem rl_loop {p : Program} {e : Env} {s : State} {m : MethodId} {below : List Frame} {meth : Method} {c : Code} (l : Launch) (hlt : l.stackTraces = false) {b L : Nat} {xs : Nat → Int32} (hL : L ≤ 2048) (C1 : rl_At p s m meth c b L xs) (hr : meth.sig.returnType = ret) (hlk : meth.locks = false) {dC : Nat → ClassId} {dI : Nat → Nat → Nat} {ad fo fa ur : Nat → Nat} {cI cL cF cA : ClassId} {ao h : Nat} {a : Nat → Nat} (hT : rx_T (fun q => s.heap.size ≤ q) s s.heap) (hnc : gw_NC s) (hK : va_K (dC, dI) rg_cl (gw_tys cI cL cF cA) s) :
    ∀ (fuel j : Nat) (u : gw_S) (ov : Nat → Int64) (w : rm_S) (g : rg_A) (H : Heap) (locs : List Loc) (ls : Array Slot) (cells slots : Nat), L - 4 * j < fuel → 4 * j ≤ L → cells = 153 + 17 * j → slots = 3975 + 70 * j → gw_Ru u g → rm_Ru w g → va_P (dC, dI) rg_cl ((gw_Wu ad fo fa ur cI cL cF cA u ++ rl_O ao cL ov) ++ rm_Wu h a cI cL w) H → va_D (fun q => s.heap.size ≤ q) ((gw_Wu ad fo fa ur cI cL cF cA u ++ rl_O ao cL ov) ++ rm_Wu h a cI cL w) → va_S (fun q => s.heap.size ≤ q) s.heap H locs → lv_has ls 8 [(0, .ref b), (1, .ref (ad 0)), (2, .ref h), (3, .ref ao), (4, .int (nI (4 * j)))] → W p l e room_1 s m #[Value.ref b] below meth c H locs cells slots (lw_Z below #[Value.ref b] s) (F0 m 23 ls []) := by
  obtain ⟨hx, hb, hml, hown, hts, hX, hbl⟩ := id C1
  have hbA : ¬ s.heap.size ≤ b := Nat.not_le.mpr hbl
  intro fuel
  induction fuel with
  | zero => intro j u ov w g H locs ls cells slots hf; exact absurd hf (Nat.not_lt_zero _)
  | succ fuel ih =>
    intro j u ov w g H locs ls cells slots hf hjL hcs hsl hu hw hP hD hS hl
    refine lv_iload hx hb dl_23 (lv_at hl 4 rfl) ?_
    refine lv_aload_n hx hb dl_25 rfl (lv_at hl 0 rfl) ?_
    refine va_slen hx hb hX hbl hbA hS dl_26 ?_
    refine lv_iconst (v := nI 4) hx hb dl_27 (by decide) ?_
    refine lv_isub hx hb dl_28 ?_
    refine lv_icmp_gt (tgt := 1163) hx hb dl_29 (by decide) (fun hgt => ?_) (fun hgt => ?_)
    · refine lv_iconst (v := nI 1) hx hb dl_1163 (by decide) ?_
      refine W.widen (k := 601024) (n := 7293034) (by omega) (by omega) ?_
      exact va_forget hS.2.2 (lw_ret hx hb hr hlk dl_1164)
    · have hj4 : 4 * j + 4 ≤ L := Nat.le_of_not_lt (fun q => hgt ((rl_sub4 hL (by omega)).mpr q))
      have hc : cells + 17 ≤ 601024 := by omega
      have hs : slots + 70 ≤ 7293034 := by omega
      have K : ∀ (u : gw_S) (ov : Nat → Int64) (w : rm_S) (g : rg_A) (H : Heap) (locs : List Loc) (ls : Array Slot), gw_Ru u g → rm_Ru w g → va_P (dC, dI) rg_cl ((gw_Wu ad fo fa ur cI cL cF cA u ++ rl_O ao cL ov) ++ rm_Wu h a cI cL w) H → va_D (fun q => s.heap.size ≤ q) ((gw_Wu ad fo fa ur cI cL cF cA u ++ rl_O ao cL ov) ++ rm_Wu h a cI cL w) → va_S (fun q => s.heap.size ≤ q) s.heap H locs → lv_has ls 8 [(0, .ref b), (1, .ref (ad 0)), (2, .ref h), (3, .ref ao), (4, .int (nI (4 * j)))] → W p l e room_1 s m #[Value.ref b] below meth c H locs (cells + 17) (slots + 70) (lw_Z below #[Value.ref b] s) (F0 m 1157 ls []) := by
        intro u ov w g H locs ls hu hw hP hD hS hl
        refine lv_iinc (k := 4) (v := nI (4 * (j + 1))) (lv' := [(4, .int (nI (4 * (j + 1)))), (0, .ref b), (1, .ref (ad 0)), (2, .ref h), (3, .ref ao)]) hx hb dl_1157 hl rfl (show nI (4 * j) + 4 = nI (4 * (j + 1)) from nI_add (4 * j) 4) (by decide) rfl (fun ls hl => ?_)
        refine lv_goto (tgt := 23) hx hb dl_1160 (by decide) ?_
        exact ih (j + 1) u ov w g H locs ls _ _ (by omega) (by omega) (by omega) (by omega) hu hw hP hD hS (lv_sub hl [1, 2, 3, 4, 0] rfl)
      refine lv_aload_n hx hb dl_32 rfl (lv_at hl 0 rfl) ?_
      refine lv_iload hx hb dl_33 (lv_at hl 4 rfl) ?_
      refine rl_sld hx hb hX hbl hbA hS hL (show 4 * j < L by omega) dl_35 ?_
      refine lv_bipush (v := nI 31) hx hb dl_36 (by decide) ?_
      refine lv_iand hx hb dl_38 ?_
      obtain ⟨k, hk, ek⟩ := rl_key (xs (4 * j))
      refine rg_top (congrArg Value.int ek) ?_
      by_cases h18 : k < 18
      · rcases (show k = 0 ∨ k = 1 ∨ k = 2 ∨ k = 3 ∨ k = 4 ∨ k = 5 ∨ k = 6 ∨ k = 7 ∨ k = 8 ∨ k = 9 ∨ k = 10 ∨ k = 11 ∨ k = 12 ∨ k = 13 ∨ k = 14 ∨ k = 15 ∨ k = 16 ∨ k = 17 by omega) with rfl | rfl | rfl | rfl | rfl | rfl | rfl | rfl | rfl | rfl | rfl | rfl | rfl | rfl | rfl | rfl | rfl | rfl
        · exact lv_tableIn (off := 85) (tgt := 124) hx hb dl_39 (by decide) (by decide) (by decide) (by decide) (st_put hlt C1 hL hT hnc hK hu hw hj4 hc hs hP hD hS hl K)
        · exact lv_tableIn (off := 153) (tgt := 192) hx hb dl_39 (by decide) (by decide) (by decide) (by decide) (st_add hlt C1 hL hT hnc hK hu hw hj4 hc hs hP hD hS hl K)
        · exact lv_tableIn (off := 221) (tgt := 260) hx hb dl_39 (by decide) (by decide) (by decide) (by decide) (st_mark hlt C1 hL hT hnc hK hu hw hj4 hc hs hP hD hS hl K)
        · exact lv_tableIn (off := 317) (tgt := 356) hx hb dl_39 (by decide) (by decide) (by decide) (by decide) (st_insert hlt C1 hL hT hnc hK hu hw hj4 hc hs hP hD hS hl K)
        · exact lv_tableIn (off := 397) (tgt := 436) hx hb dl_39 (by decide) (by decide) (by decide) (by decide) (st_remove hlt C1 hL hT hnc hK hu hw hj4 hc hs hP hD hS hl K)
        · exact lv_tableIn (off := 465) (tgt := 504) hx hb dl_39 (by decide) (by decide) (by decide) (by decide) (st_point hlt C1 hL hT hnc hK hu hw hj4 hc hs hP hD hS hl K)
        · exact lv_tableIn (off := 501) (tgt := 540) hx hb dl_39 (by decide) (by decide) (by decide) (by decide) (st_turn hlt C1 hL hT hnc hK hu hw hj4 hc hs hP hD hS hl K)
        · exact lv_tableIn (off := 557) (tgt := 596) hx hb dl_39 (by decide) (by decide) (by decide) (by decide) (st_go hlt C1 hL hT hnc hK hu hw hj4 hc hs hP hD hS hl K)
        · exact lv_tableIn (off := 593) (tgt := 632) hx hb dl_39 (by decide) (by decide) (by decide) (by decide) (st_undo hlt C1 hL hT hnc hK hu hw hj4 hc hs hP hD hS hl K)
        · exact lv_tableIn (off := 637) (tgt := 676) hx hb dl_39 (by decide) (by decide) (by decide) (by decide) (st_redo hlt C1 hL hT hnc hK hu hw hj4 hc hs hP hD hS hl K)
        · exact lv_tableIn (off := 681) (tgt := 720) hx hb dl_39 (by decide) (by decide) (by decide) (by decide) (st_merge hlt C1 hL hT hnc hK hu hw hj4 hc hs hP hD hS hl K)
        · exact lv_tableIn (off := 749) (tgt := 788) hx hb dl_39 (by decide) (by decide) (by decide) (by decide) (st_conflicts hlt C1 hL hT hnc hK hu hw hj4 hc hs hP hD hS hl K)
        · exact lv_tableIn (off := 762) (tgt := 801) hx hb dl_39 (by decide) (by decide) (by decide) (by decide) (st_base hlt C1 hL hT hnc hK hu hw hj4 hc hs hP hD hS hl K)
        · exact lv_tableIn (off := 818) (tgt := 857) hx hb dl_39 (by decide) (by decide) (by decide) (by decide) (st_value hlt C1 hL hT hnc hK hu hw hj4 hc hs hP hD hS hl K)
        · exact lv_tableIn (off := 897) (tgt := 936) hx hb dl_39 (by decide) (by decide) (by decide) (by decide) (st_differ hlt C1 hL hT hnc hK hu hw hj4 hc hs hP hD hS hl K)
        · exact lv_tableIn (off := 965) (tgt := 1004) hx hb dl_39 (by decide) (by decide) (by decide) (by decide) (st_parent hlt C1 hL hT hnc hK hu hw hj4 hc hs hP hD hS hl K)
        · exact lv_tableIn (off := 1049) (tgt := 1088) hx hb dl_39 (by decide) (by decide) (by decide) (by decide) (st_prune hlt C1 hL hT hnc hK hu hw hj4 hc hs hP hD hS hl K)
        · exact lv_tableIn (off := 1062) (tgt := 1101) hx hb dl_39 (by decide) (by decide) (by decide) (by decide) (st_figure hlt C1 hL hT hnc hK hu hw hj4 hc hs hP hD hS hl K)
      · refine lv_tableOut (tgt := 1157) hx hb dl_39 (Or.inr (by rw [nI_toInt (by omega)]; omega)) (by decide) ?_
        refine W.widen (Nat.le_add_right _ 17) (Nat.le_add_right _ 70) ?_
        exact K u ov w g H locs ls hu hw hP hD hS hl
set_option maxHeartbeats 4000000 in
set_option maxRecDepth 100000 in
theorem whole_start {p : Program} {e : Env} {s : State} {m : MethodId} {below : List Frame} {meth : Method} {c : Code} (l : Launch) (hlt : l.stackTraces = false) {b L : Nat} {xs : Nat → Int32} (hL : L ≤ 2048) (C0 : lw_At p s m meth c b L xs) : W p l e room_1 s m #[Value.ref b] below meth c s.heap [] 0 0 (lw_Z below #[Value.ref b] s) (entryFrame m ([Value.ref b] : List Value).toArray 8) := by
  obtain ⟨hx, hb, hr, hml, hown, htw, hX, hbl, hlk, hgv⟩ := C0
  have hown : s.vm.findClass "RevisionGroveLaw" = some m.cls := hown
  have hts : ∀ w ∈ rg_tbl, w.before #[Value.ref b] s = true := fun w h9 => htw w (rl_sub w h9)
  obtain ⟨dC, dI, cI, cL, cF, cA, hK⟩ := rl_K htw
  have hT := rl_T htw hgv
  have hao := rl_AO htw
  have hnc := rl_NC hgv
  have hKm : va_K (dC, dI) rg_cl [(cI, .int), (cL, .long)] s := hK.sub [0, 1] rfl
  have C1 : rl_At p s m meth c b L xs := ⟨hx, hb, hml, hown, hts, hX, hbl⟩
  have hA : ∀ q : Nat, s.heap.size ≤ q → s.heap.size ≤ q := fun q h9 => h9
  have hP : va_P (dC, dI) rg_cl [] s.heap := fun k q hq => by cases hq
  have hD : va_D (fun q => s.heap.size ≤ q) [] := ⟨(fun i j p q hp => by cases hp), (fun k q hq => by cases hq)⟩
  have hS : va_S (fun q => s.heap.size ≤ q) s.heap s.heap [] := va_S.rf
  have body : ∀ ls : Array Slot, lv_has ls 8 [(0, .ref b)] → W p l e room_1 s m #[Value.ref b] below meth c s.heap [] 0 0 (lw_Z below #[Value.ref b] s) (F0 m 0 ls []) := by
    intro ls hl
    refine va_new (ci := 1) (fs := [.null, .null, .null, .int 0]) (C := "RevisionGrove") (T := TG) (N := 4) hx hb hts inG tyG tyG_ok hown (hts _ tw_17) (hts _ tw_18) (hts _ tw_1) hK hP hD hS hA rfl (fun j hj => by rcases (show j = 0 ∨ j = 1 ∨ j = 2 ∨ j = 3 by omega) with rfl | rfl | rfl | rfl <;> rfl) (Nat.le_of_ble_eq_true rfl) (Nat.le_of_ble_eq_true rfl) dl_0 (fun q1 H hP hD hS => ?_)
    have hP : va_P (dC, dI) rg_cl [(q1, .inr (1, [.null, .null, .null, .int 0]))] H := hP
    have hD : va_D (fun q => s.heap.size ≤ q) [(q1, .inr (1, [.null, .null, .null, .int 0]))] := hD
    refine lv_dup hx hb dl_3 rfl ?_
    have hM := c_G_init (l := l) (dC := dC) (dI := dI) (cI := cI) (cL := cL) (cF := cF) (cA := cA) (a9 := q1) H.size
    refine rg_callv hD hS hA (va_runI (As := []) (rest := [.ref q1]) ⟨hx, hb, hml, hown, hts⟩ hM (cwI 0 hts (rg_gI tw_21) rfl rfl rfl (hts _ tw_1) (hts _ tw_19) (hts _ tw_20) rfl (by decide +kernel) ⟨(Nat.le_of_ble_eq_true rfl), (Nat.le_of_ble_eq_true rfl)⟩) (rk_preS rfl hao hK hP hD) rfl rfl hl.1 rfl (lv_room (Nat.le_of_ble_eq_true rfl)) dl_4 ⟨(Nat.le_of_ble_eq_true rfl), (Nat.le_of_ble_eq_true rfl)⟩) (fun v1 H locs hv1 hP hD hS => ?_)
    have hP : va_P (dC, dI) rg_cl (gw_W0 cI cL cF cA v1) H := hP
    have hD : va_D (fun q => s.heap.size ≤ q) (gw_W0 cI cL cF cA v1) := hD
    refine lv_astore_n (lv' := [(1, .ref q1), (0, .ref b)]) hx hb dl_7 rfl hl (by decide) rfl (fun ls hl => ?_)
    refine va_new (ci := 0) (fs := [.int 0, .int 0, .null, .null, .null, .null, .null, .null, .null, .int 0, .null, .null, .null, .int 0, .int 0, .null, .null, .null, .null]) (C := "RevisionGroveModel") (T := TM) (N := 19) hx hb hts inM tyM tyM_ok hown (hts _ tw_595) (hts _ tw_596) (hts _ tw_5) hK hP hD hS hA rfl (fun j hj => by rcases (show j = 0 ∨ j = 1 ∨ j = 2 ∨ j = 3 ∨ j = 4 ∨ j = 5 ∨ j = 6 ∨ j = 7 ∨ j = 8 ∨ j = 9 ∨ j = 10 ∨ j = 11 ∨ j = 12 ∨ j = 13 ∨ j = 14 ∨ j = 15 ∨ j = 16 ∨ j = 17 ∨ j = 18 by omega) with rfl | rfl | rfl | rfl | rfl | rfl | rfl | rfl | rfl | rfl | rfl | rfl | rfl | rfl | rfl | rfl | rfl | rfl | rfl <;> rfl) (Nat.le_of_ble_eq_true rfl) (Nat.le_of_ble_eq_true rfl) dl_8 (fun q2 H hP hD hS => ?_)
    refine lv_dup hx hb dl_11 rfl ?_
    have hP := rg_P_comm hP
    have hD := rg_D_comm hD
    have hM := rg_fV (gw_W0 cI cL cF cA v1) (c_rm_init (l := l) (dC := dC) (dI := dI) (cI := cI) (cL := cL) (a9 := q2)) H.size
    refine rg_callv hD hS hA (va_runI (As := []) (rest := [.ref q2]) ⟨hx, hb, hml, hown, hts⟩ hM (cwI 0 hts (rg_gI tw_599) rfl rfl rfl (hts _ tw_5) (hts _ tw_597) (hts _ tw_598) rfl (by decide +kernel) ⟨(Nat.le_of_ble_eq_true rfl), (Nat.le_of_ble_eq_true rfl)⟩) (rg_preS rfl hKm hP hD) rfl rfl hl.1 rfl (lv_room (Nat.le_of_ble_eq_true rfl)) dl_12 ⟨(Nat.le_of_ble_eq_true rfl), (Nat.le_of_ble_eq_true rfl)⟩) (fun a H locs _ hP hD hS => ?_)
    refine lv_astore_n (lv' := [(2, .ref q2), (1, .ref q1), (0, .ref b)]) hx hb dl_15 rfl hl (by decide) rfl (fun ls hl => ?_)
    refine lv_iconst (v := nI 1) hx hb dl_16 (by decide) ?_
    refine rg_newa (atype := .long) (ty := .long) (a0 := (1, .inr (.inl (fun _ => 0)))) hx hb (hts _ tw_43) rfl 1 rfl hK hP hD hS hA (fun _ => rfl) (by decide) (by decide) (by decide) (Nat.le_of_ble_eq_true rfl) (Nat.le_of_ble_eq_true rfl) dl_17 (fun q3 H hP hD hS => ?_)
    refine lv_astore_n (lv' := [(3, .ref q3), (2, .ref q2), (1, .ref q1), (0, .ref b)]) hx hb dl_19 rfl hl (by decide) rfl (fun ls hl => ?_)
    refine lv_iconst (v := nI 0) hx hb dl_20 (by decide) ?_
    refine lv_istore (lv' := [(4, .int (nI 0)), (3, .ref q3), (2, .ref q2), (1, .ref q1), (0, .ref b)]) hx hb dl_21 hl (by decide) rfl (fun ls hl => ?_)
    have hP := rg_P_perm (gw_pm3 _ _ _) hP
    have hD := rg_D_perm (gw_pm3 _ _ _) hD
    rw [← hv1] at hl
    exact rl_loop l hlt hL C1 hr hlk (ad := v1.1) (fo := v1.2.1) (fa := v1.2.2.1) (ur := v1.2.2.2) (ao := q3) (h := q2) (a := a) hT hnc hK (L + 1) 0 ((fun _ _ => 0), (upd (fun _ => 0) 0 (-1)), (upd (fun _ => 0) 0 (-1)), (vp_updL (fun _ => 0) 0 (1 : Int64)), (fun _ => 0), nI 1, (fun _ => 0), (fun _ _ => 0), (fun _ => 0), 0, nI 0) (fun _ => 0) (0, nI 1, 0, 0, 0, (fun _ => 0), (fun _ => 0), (fun _ => 0), (fun _ => 0), (fun _ => 0), (upd (fun _ => 0) 0 (-1)), (upd (fun _ => 0) 0 (-1)), (fun _ => 0), (fun _ => 0), (fun _ => 0), (fun _ => 0), (fun _ => 0), (fun _ => 0), (fun _ => 0)) rg_ini H _ ls _ _ (by omega) (by omega) rfl rfl rg_ini_g rg_ini_m hP hD hS (lv_sub hl [4, 3, 2, 1, 0] rfl)
  rw [lg_entry_eq]
  exact body _ (lv_entry [.ref b] (n := 8) (Nat.le_of_ble_eq_true rfl))
