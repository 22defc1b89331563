/-! Rows of the law. -/
theorem rg_gSw {own : String} {idx maxL : Nat} {y : MethodName} {c : ByteArray} {ret : Option FieldType} {hh : List (Nat × Nat × Nat × Nat)} (h1 : Cond.methodLink own idx y ∈ rg_tbl) (h2 : Cond.static y ∈ rg_tbl) (h4 : Cond.initialized y.cls ∈ rg_tbl) (h5 : Cond.codeWith y c maxL ret hh ∈ rg_tbl) : GoodIn rg_tbl (va_wsS own idx y (Cond.codeWith y c maxL ret hh :: rg_tbl)) := by
  intro w hw
  unfold va_wsS at hw
  have h9 : w ∈ rg_tbl := by
    rcases List.mem_append.mp hw with h | h
    · simp only [List.mem_cons, List.not_mem_nil, or_false] at h
      rcases h with rfl | rfl | rfl <;> assumption
    · rcases List.mem_cons.mp h with rfl | h
      · exact h5
      · exact h
  exact ⟨h9, rg_good h9⟩
theorem rw_preS {D : va_G} {cl : List vw_C} {A : Nat → Prop} {tys : List (ClassId × FieldType)} {ws : va_W} {s : State} {H : Heap} {locs : List Loc} {av vs : List Value} (he : vs = av) (hT : rx_T A s s.heap) (hnc : gw_NC s) (hS : va_S A s.heap H locs) (hA : ∀ q : Nat, s.heap.size ≤ q → A q) (hK : va_K D cl tys s) (hP : va_P D cl ws H) (hD : va_D A ws) : PreS s H (va_Pc av (fun U => (rg_in D cl tys ws H.size U ∧ rx_T (va_A ws H.size) U U.heap) ∧ gw_NC U)) vs := by
  obtain ⟨h1, h2⟩ := rx_preS (av := av) he hT hS hA hK hP hD
  exact ⟨fun a U g mk q => ⟨q.1, (h1 a U g mk ⟨q.1, q.2.1⟩).2, q.2.2.moved (u := U) (U := U.calling g mk a) (Vm.Alike.refl U.vm)⟩, fun U hU hW => ⟨(h2 U hU hW).1, (h2 U hU hW).2, hnc.moved hW.alike⟩⟩
theorem rw_fI {l : Launch} {y : MethodName} {wd : List Cond} {rm : Room} {D : va_G} {cl : List vw_C} {tys : List (ClassId × FieldType)} {ws : va_W} {av : List Value} {mc ms : Nat} {S : Type} {w1 : S → va_W} {post : Int32 → S → Prop} (wr : va_W) (h : rw_M l y wd rm D cl tys ws av (rg_QI D cl tys post w1) mc ms) : rw_M l y wd rm D cl tys (ws ++ wr) av (rg_QI D cl tys post (fun u => w1 u ++ wr)) mc ms := by
  intro sz
  refine rg_mono (h sz) (fun a s hp => ⟨hp.1, ⟨rg_in_l hp.2.1.1, hp.2.1.2.narrow (fun q h => rg_A_l h)⟩, hp.2.2⟩) ?_ (fun q h => rg_A_l h)
  rintro a s o t hp ⟨⟨r, u, e, hu, hP1, hK1, hD1⟩, hF⟩
  obtain ⟨b1, b2, b3⟩ := rg_frc hp.2.1.1 hP1 hD1 hF
  exact ⟨⟨r, u, e, hu, b1, hK1, b2⟩, b3⟩
theorem rl_qg {ad fo fa ur : Nat → Nat} {cI cL cF cA : ClassId} (u : gw_S) (X : va_W) : ∃ fs, (gw_Wu ad fo fa ur cI cL cF cA u ++ X)[0]? = some (ad 0, .inr (1, fs)) := by
  obtain ⟨rc, fp, sp, an, nn, cnt, pt, un, uc, pr, lc⟩ := u
  exact ⟨_, rfl⟩
theorem rl_qm {h : Nat} {a : Nat → Nat} {cI cL : ClassId} (w : rm_S) (X : va_W) : ∃ fs, (rm_Wu h a cI cL w ++ X)[0]? = some (h, .inr (0, fs)) := by
  obtain ⟨cod, cnt, bra, cof, mad, nu, co, se, li, le, fi, sc, ti, un, ma, dr, fr, to, en⟩ := w
  exact ⟨_, rfl⟩
section RLR
variable {p : Program} {l : Launch} {e : Env} {R : Room} {s : State} {m : MethodId} {args : Array Value} {below : List Frame} {meth : Method} {c : Code} {H : Heap} {locs : List Loc} {cells slots : Nat} {Q : State → Prop}
variable {cc : ByteArray} {pc : Nat} {ls : Array Slot} {rest : List Value} {A : Nat → Prop} {H0 : Heap}
theorem rl_sld (hx : p.tables.exec = Jvm.exec) (hb : c.code = cc) {b L : Nat} {xs : Nat → Int32} (hX : va_X b L xs s H0) (hbl : b < H0.size) (hbA : ¬ A b) (hS : va_S A H0 H locs) (hL : L ≤ 2048) {k : Nat} (hk : k < L) (hdg : decode cc pc = .ok (.iaload, 1))
    (kk : W p l e R s m args below meth c H locs cells slots Q (F0 m (pc + 1) ls (.int (xs k) :: rest))) : W p l e R s m args below meth c H locs cells slots Q (F0 m pc ls (.int (nI k) :: .ref b :: rest)) := by
  refine va_sld hx hb hX hbl hbA hS (vp_in_nI hk (by omega)) hdg ?_
  rw [nI_clamp (by omega)]
  exact kk
theorem rl_bool (hx : p.tables.exec = Jvm.exec) (hb : c.code = cc) {x : Int32} {t1 t2 : Nat} {o1 o2 : Int} (d0 : decode cc pc = .ok (.ifCond .eq o1, 3)) (h1 : (pc : Int) + o1 = (t1 : Int)) (d1 : decode cc (pc + 3) = .ok (.iconst 1, 1)) (d2 : decode cc (pc + 3 + 1) = .ok (.goto o2, 3)) (h2 : ((pc + 3 + 1 : Nat) : Int) + o2 = (t2 : Int)) (d3 : decode cc t1 = .ok (.iconst 0, 1)) (h3 : t1 + 1 = t2)
    (kk : W p l e R s m args below meth c H locs cells slots Q (F0 m t2 ls (.int (bif !(decide (x = 0)) then 1 else 0) :: rest))) : W p l e R s m args below meth c H locs cells slots Q (F0 m pc ls (.int x :: rest)) := by
  refine lv_if_eq (tgt := t1) hx hb d0 h1 (fun h => ?_) (fun h => ?_)
  · rw [decide_eq_true h] at kk
    refine lv_iconst (v := 0) hx hb d3 (by decide) ?_
    rw [h3]
    exact kk
  · rw [decide_eq_false h] at kk
    refine lv_iconst (v := 1) hx hb d1 (by decide) ?_
    exact lv_goto (tgt := t2) hx hb d2 h2 kk
end RLR
theorem rl_sub4 {L i : Nat} (hL : L ≤ 2048) (hi : i ≤ 4096) : (Int32.ofNat L - nI 4 < nI i) ↔ L < i + 4 := by
  have e1 : (Int32.ofNat L).toInt = (L : Int) := nI_toInt (n := L) (by omega)
  rw [Int32.lt_iff_toInt_lt, Int32.toInt_sub, e1, nI_toInt (n := 4) (by decide), nI_toInt (n := i) (by omega)]
  rw [Int.bmod_eq_of_le (by omega) (by omega)]
  omega
theorem rl_key (x : Int32) : ∃ k, k < 32 ∧ x &&& nI 31 = nI k := by
  refine ⟨(x &&& nI 31).toBitVec.toNat, ?_, ?_⟩
  · rw [Int32.toBitVec_and, BitVec.toNat_and]
    have h : (nI 31).toBitVec.toNat = 31 := by decide
    rw [h]
    exact Nat.lt_of_le_of_lt Nat.and_le_right (by decide)
  · apply Int32.toBitVec_inj.mp
    show _ = (Int32.ofNat _).toBitVec
    rw [Int32.toBitVec_ofNat']
    simp
theorem cm_put {l : Launch} {dC : Nat → ClassId} {dI : Nat → Nat → Nat} {h : Nat} {a : Nat → Nat} {cI cL : ClassId} {w : rm_S} {g : rg_A} (hw : rm_Ru w g) (f v : Int32) : rg_M l yM_put (Cond.code yM_put prog_8_method_10_code 3 (some .int) :: rg_tbl) { frames := 3, cells := 0, slots := 0, locals := 69 } (dC, dI) rg_cl [(cI, .int), (cL, .long)] (rm_Wu h a cI cL w) [.ref h, .int f, .int v] (rg_QI (dC, dI) rg_cl [(cI, .int), (cL, .long)] (S := rm_S) (rm_Po (rg_oPut g f v)) (fun w => rm_Wu h a cI cL w)) 0 0 := by
  obtain ⟨cod, cnt, bra, cof, mad, nu, co, se, li, le, fi, sc, ti, un, ma, dr, fr, to, en⟩ := w
  obtain ⟨n, Rr, P1, P2, T, U, b, c9⟩ := g
  obtain ⟨rfl, rfl, rfl⟩ : cnt = nI n ∧ bra = nI b ∧ cof = c9 := ⟨hw.2.1, hw.2.2.1, hw.2.2.2.1⟩
  exact c_rm_put n b Rr P1 P2 T U f v hw
theorem cm_add {l : Launch} {dC : Nat → ClassId} {dI : Nat → Nat → Nat} {h : Nat} {a : Nat → Nat} {cI cL : ClassId} {w : rm_S} {g : rg_A} (hw : rm_Ru w g) (f v : Int32) : rg_M l yM_add (Cond.code yM_add prog_8_method_11_code 3 (some .int) :: rg_tbl) { frames := 3, cells := 0, slots := 0, locals := 69 } (dC, dI) rg_cl [(cI, .int), (cL, .long)] (rm_Wu h a cI cL w) [.ref h, .int f, .int v] (rg_QI (dC, dI) rg_cl [(cI, .int), (cL, .long)] (S := rm_S) (rm_Po (rg_oAdd g f v)) (fun w => rm_Wu h a cI cL w)) 0 0 := by
  obtain ⟨cod, cnt, bra, cof, mad, nu, co, se, li, le, fi, sc, ti, un, ma, dr, fr, to, en⟩ := w
  obtain ⟨n, Rr, P1, P2, T, U, b, c9⟩ := g
  obtain ⟨rfl, rfl, rfl⟩ : cnt = nI n ∧ bra = nI b ∧ cof = c9 := ⟨hw.2.1, hw.2.2.1, hw.2.2.2.1⟩
  exact c_rm_add n b Rr P1 P2 T U f v hw
theorem cm_mark {l : Launch} {dC : Nat → ClassId} {dI : Nat → Nat → Nat} {h : Nat} {a : Nat → Nat} {cI cL : ClassId} {w : rm_S} {g : rg_A} (hw : rm_Ru w g) (f x : Int32) (v : Bool) : rg_M l yM_mark (Cond.code yM_mark prog_8_method_12_code 5 (some .int) :: rg_tbl) { frames := 3, cells := 0, slots := 0, locals := 69 } (dC, dI) rg_cl [(cI, .int), (cL, .long)] (rm_Wu h a cI cL w) [.ref h, .int f, .int x, .int (bif v then 1 else 0)] (rg_QI (dC, dI) rg_cl [(cI, .int), (cL, .long)] (S := rm_S) (rm_Po (rg_oMark g f x v)) (fun w => rm_Wu h a cI cL w)) 0 0 := by
  obtain ⟨cod, cnt, bra, cof, mad, nu, co, se, li, le, fi, sc, ti, un, ma, dr, fr, to, en⟩ := w
  obtain ⟨n, Rr, P1, P2, T, U, b, c9⟩ := g
  obtain ⟨rfl, rfl, rfl⟩ : cnt = nI n ∧ bra = nI b ∧ cof = c9 := ⟨hw.2.1, hw.2.2.1, hw.2.2.2.1⟩
  exact c_rm_mark n b Rr P1 P2 T U f x v hw
theorem cm_insert {l : Launch} {dC : Nat → ClassId} {dI : Nat → Nat → Nat} {h : Nat} {a : Nat → Nat} {cI cL : ClassId} {w : rm_S} {g : rg_A} (hw : rm_Ru w g) (f x v : Int32) : rg_M l yM_insert (Cond.code yM_insert prog_8_method_13_code 7 (some .int) :: rg_tbl) { frames := 3, cells := 0, slots := 0, locals := 69 } (dC, dI) rg_cl [(cI, .int), (cL, .long)] (rm_Wu h a cI cL w) [.ref h, .int f, .int x, .int v] (rg_QI (dC, dI) rg_cl [(cI, .int), (cL, .long)] (S := rm_S) (rm_Po (rg_oIns g f x v)) (fun w => rm_Wu h a cI cL w)) 0 0 := by
  obtain ⟨cod, cnt, bra, cof, mad, nu, co, se, li, le, fi, sc, ti, un, ma, dr, fr, to, en⟩ := w
  obtain ⟨n, Rr, P1, P2, T, U, b, c9⟩ := g
  obtain ⟨rfl, rfl, rfl⟩ : cnt = nI n ∧ bra = nI b ∧ cof = c9 := ⟨hw.2.1, hw.2.2.1, hw.2.2.2.1⟩
  exact c_rm_insert n b Rr P1 P2 T U f x v hw
theorem cm_remove {l : Launch} {dC : Nat → ClassId} {dI : Nat → Nat → Nat} {h : Nat} {a : Nat → Nat} {cI cL : ClassId} {w : rm_S} {g : rg_A} (hw : rm_Ru w g) (f x : Int32) : rg_M l yM_remove (Cond.code yM_remove prog_8_method_14_code 6 (some .int) :: rg_tbl) { frames := 3, cells := 0, slots := 0, locals := 69 } (dC, dI) rg_cl [(cI, .int), (cL, .long)] (rm_Wu h a cI cL w) [.ref h, .int f, .int x] (rg_QI (dC, dI) rg_cl [(cI, .int), (cL, .long)] (S := rm_S) (rm_Po (rg_oRem g f x)) (fun w => rm_Wu h a cI cL w)) 0 0 := by
  obtain ⟨cod, cnt, bra, cof, mad, nu, co, se, li, le, fi, sc, ti, un, ma, dr, fr, to, en⟩ := w
  obtain ⟨n, Rr, P1, P2, T, U, b, c9⟩ := g
  obtain ⟨rfl, rfl, rfl⟩ : cnt = nI n ∧ bra = nI b ∧ cof = c9 := ⟨hw.2.1, hw.2.2.1, hw.2.2.2.1⟩
  exact c_rm_remove n b Rr P1 P2 T U f x hw
theorem cm_point {l : Launch} {dC : Nat → ClassId} {dI : Nat → Nat → Nat} {h : Nat} {a : Nat → Nat} {cI cL : ClassId} {w : rm_S} {g : rg_A} (hw : rm_Ru w g) (x : Int32) : rg_M l yM_point (Cond.code yM_point prog_8_method_17_code 2 none :: rg_tbl) { frames := 1, cells := 0, slots := 0, locals := 20 } (dC, dI) rg_cl [(cI, .int), (cL, .long)] (rm_Wu h a cI cL w) [.ref h, .int x] (rg_QV (dC, dI) rg_cl [(cI, .int), (cL, .long)] (S := rm_S) (rm_Pv (rg_oPoint g x)) (fun w => rm_Wu h a cI cL w)) 0 0 := by
  obtain ⟨cod, cnt, bra, cof, mad, nu, co, se, li, le, fi, sc, ti, un, ma, dr, fr, to, en⟩ := w
  obtain ⟨n, Rr, P1, P2, T, U, b, c9⟩ := g
  obtain ⟨rfl, rfl, rfl⟩ : cnt = nI n ∧ bra = nI b ∧ cof = c9 := ⟨hw.2.1, hw.2.2.1, hw.2.2.2.1⟩
  exact c_rm_point n b Rr P1 P2 T U x hw
theorem cm_turn {l : Launch} {dC : Nat → ClassId} {dI : Nat → Nat → Nat} {h : Nat} {a : Nat → Nat} {cI cL : ClassId} {w : rm_S} {g : rg_A} (hw : rm_Ru w g) (x : Int32) : rg_M l yM_turn (Cond.code yM_turn prog_8_method_18_code 2 (some .int) :: rg_tbl) { frames := 1, cells := 0, slots := 0, locals := 20 } (dC, dI) rg_cl [(cI, .int), (cL, .long)] (rm_Wu h a cI cL w) [.ref h, .int x] (rg_QI (dC, dI) rg_cl [(cI, .int), (cL, .long)] (S := rm_S) (rm_Po (rg_oTurn g x)) (fun w => rm_Wu h a cI cL w)) 0 0 := by
  obtain ⟨cod, cnt, bra, cof, mad, nu, co, se, li, le, fi, sc, ti, un, ma, dr, fr, to, en⟩ := w
  obtain ⟨n, Rr, P1, P2, T, U, b, c9⟩ := g
  obtain ⟨rfl, rfl, rfl⟩ : cnt = nI n ∧ bra = nI b ∧ cof = c9 := ⟨hw.2.1, hw.2.2.1, hw.2.2.2.1⟩
  exact c_rm_turn n b Rr P1 P2 T U x hw
theorem cm_go {l : Launch} {dC : Nat → ClassId} {dI : Nat → Nat → Nat} {h : Nat} {a : Nat → Nat} {cI cL : ClassId} {w : rm_S} {g : rg_A} (hw : rm_Ru w g) (x : Int32) : rg_M l yM_go (Cond.code yM_go prog_8_method_19_code 2 none :: rg_tbl) { frames := 1, cells := 0, slots := 0, locals := 21 } (dC, dI) rg_cl [(cI, .int), (cL, .long)] (rm_Wu h a cI cL w) [.ref h, .int x] (rg_QV (dC, dI) rg_cl [(cI, .int), (cL, .long)] (S := rm_S) (rm_Pv (rg_oGo g x)) (fun w => rm_Wu h a cI cL w)) 0 0 := by
  obtain ⟨cod, cnt, bra, cof, mad, nu, co, se, li, le, fi, sc, ti, un, ma, dr, fr, to, en⟩ := w
  obtain ⟨n, Rr, P1, P2, T, U, b, c9⟩ := g
  obtain ⟨rfl, rfl, rfl⟩ : cnt = nI n ∧ bra = nI b ∧ cof = c9 := ⟨hw.2.1, hw.2.2.1, hw.2.2.2.1⟩
  exact c_rm_go n b Rr P1 P2 T U x hw
theorem cm_undo {l : Launch} {dC : Nat → ClassId} {dI : Nat → Nat → Nat} {h : Nat} {a : Nat → Nat} {cI cL : ClassId} {w : rm_S} {g : rg_A} (hw : rm_Ru w g)  : rg_M l yM_undo (Cond.code yM_undo prog_8_method_20_code 1 (some .int) :: rg_tbl) { frames := 1, cells := 0, slots := 0, locals := 20 } (dC, dI) rg_cl [(cI, .int), (cL, .long)] (rm_Wu h a cI cL w) [.ref h] (rg_QI (dC, dI) rg_cl [(cI, .int), (cL, .long)] (S := rm_S) (rm_Po (rg_oUndo g)) (fun w => rm_Wu h a cI cL w)) 0 0 := by
  obtain ⟨cod, cnt, bra, cof, mad, nu, co, se, li, le, fi, sc, ti, un, ma, dr, fr, to, en⟩ := w
  obtain ⟨n, Rr, P1, P2, T, U, b, c9⟩ := g
  obtain ⟨rfl, rfl, rfl⟩ : cnt = nI n ∧ bra = nI b ∧ cof = c9 := ⟨hw.2.1, hw.2.2.1, hw.2.2.2.1⟩
  exact c_rm_undo n b Rr P1 P2 T U  hw
theorem cm_redo {l : Launch} {dC : Nat → ClassId} {dI : Nat → Nat → Nat} {h : Nat} {a : Nat → Nat} {cI cL : ClassId} {w : rm_S} {g : rg_A} (hw : rm_Ru w g)  : rg_M l yM_redo (Cond.code yM_redo prog_8_method_21_code 1 (some .int) :: rg_tbl) { frames := 1, cells := 0, slots := 0, locals := 20 } (dC, dI) rg_cl [(cI, .int), (cL, .long)] (rm_Wu h a cI cL w) [.ref h] (rg_QI (dC, dI) rg_cl [(cI, .int), (cL, .long)] (S := rm_S) (rm_Po (rg_oRedo g)) (fun w => rm_Wu h a cI cL w)) 0 0 := by
  obtain ⟨cod, cnt, bra, cof, mad, nu, co, se, li, le, fi, sc, ti, un, ma, dr, fr, to, en⟩ := w
  obtain ⟨n, Rr, P1, P2, T, U, b, c9⟩ := g
  obtain ⟨rfl, rfl, rfl⟩ : cnt = nI n ∧ bra = nI b ∧ cof = c9 := ⟨hw.2.1, hw.2.2.1, hw.2.2.2.1⟩
  exact c_rm_redo n b Rr P1 P2 T U  hw
theorem cm_merge {l : Launch} {dC : Nat → ClassId} {dI : Nat → Nat → Nat} {h : Nat} {a : Nat → Nat} {cI cL : ClassId} {w : rm_S} {g : rg_A} (hw : rm_Ru w g) (x y : Int32) : rg_M l yM_merge (Cond.code yM_merge prog_8_method_31_code 9 (some .int) :: rg_tbl) { frames := 4, cells := 0, slots := 0, locals := 106 } (dC, dI) rg_cl [(cI, .int), (cL, .long)] (rm_Wu h a cI cL w) [.ref h, .int x, .int y] (rg_QI (dC, dI) rg_cl [(cI, .int), (cL, .long)] (S := rm_S) (rm_Po (rg_oMerge g x y)) (fun w => rm_Wu h a cI cL w)) 0 0 := by
  obtain ⟨cod, cnt, bra, cof, mad, nu, co, se, li, le, fi, sc, ti, un, ma, dr, fr, to, en⟩ := w
  obtain ⟨n, Rr, P1, P2, T, U, b, c9⟩ := g
  obtain ⟨rfl, rfl, rfl⟩ : cnt = nI n ∧ bra = nI b ∧ cof = c9 := ⟨hw.2.1, hw.2.2.1, hw.2.2.2.1⟩
  exact c_rm_merge n b Rr P1 P2 T U x y hw
theorem cm_base {l : Launch} {dC : Nat → ClassId} {dI : Nat → Nat → Nat} {h : Nat} {a : Nat → Nat} {cI cL : ClassId} {w : rm_S} {g : rg_A} (hw : rm_Ru w g) (x : Int32) : rg_M l yM_base (Cond.code yM_base prog_8_method_33_code 2 (some .int) :: rg_tbl) { frames := 2, cells := 0, slots := 0, locals := 50 } (dC, dI) rg_cl [(cI, .int), (cL, .long)] (rm_Wu h a cI cL w) [.ref h, .int x] (rg_QI (dC, dI) rg_cl [(cI, .int), (cL, .long)] (S := rm_S) (rm_Po (rg_oBase g x)) (fun w => rm_Wu h a cI cL w)) 0 0 := by
  obtain ⟨cod, cnt, bra, cof, mad, nu, co, se, li, le, fi, sc, ti, un, ma, dr, fr, to, en⟩ := w
  obtain ⟨n, Rr, P1, P2, T, U, b, c9⟩ := g
  obtain ⟨rfl, rfl, rfl⟩ : cnt = nI n ∧ bra = nI b ∧ cof = c9 := ⟨hw.2.1, hw.2.2.1, hw.2.2.2.1⟩
  exact c_rm_base n b Rr P1 P2 T U x hw
theorem cm_value {l : Launch} {dC : Nat → ClassId} {dI : Nat → Nat → Nat} {h : Nat} {a : Nat → Nat} {cI cL : ClassId} {w : rm_S} {g : rg_A} (hw : rm_Ru w g) (x f i : Int32) : rg_M l yM_value (Cond.code yM_value prog_8_method_34_code 5 (some .long) :: rg_tbl) { frames := 1, cells := 0, slots := 0, locals := 23 } (dC, dI) rg_cl [(cI, .int), (cL, .long)] (rm_Wu h a cI cL w) [.ref h, .int x, .int f, .int i] (rg_QL (dC, dI) rg_cl [(cI, .int), (cL, .long)] (S := rm_S) (rm_Pl (rg_oVal g x f i) g) (fun w => rm_Wu h a cI cL w)) 0 0 := by
  obtain ⟨cod, cnt, bra, cof, mad, nu, co, se, li, le, fi, sc, ti, un, ma, dr, fr, to, en⟩ := w
  obtain ⟨n, Rr, P1, P2, T, U, b, c9⟩ := g
  obtain ⟨rfl, rfl, rfl⟩ : cnt = nI n ∧ bra = nI b ∧ cof = c9 := ⟨hw.2.1, hw.2.2.1, hw.2.2.2.1⟩
  exact c_rm_value n b Rr P1 P2 T U x f i hw
theorem cm_differ {l : Launch} {dC : Nat → ClassId} {dI : Nat → Nat → Nat} {h : Nat} {a : Nat → Nat} {cI cL : ClassId} {w : rm_S} {g : rg_A} (hw : rm_Ru w g) (x y : Int32) : rg_M l yM_differ (Cond.code yM_differ prog_8_method_35_code 3 (some .int) :: rg_tbl) { frames := 2, cells := 0, slots := 0, locals := 49 } (dC, dI) rg_cl [(cI, .int), (cL, .long)] (rm_Wu h a cI cL w) [.ref h, .int x, .int y] (rg_QI (dC, dI) rg_cl [(cI, .int), (cL, .long)] (S := rm_S) (rm_Po (rg_oDif g x y)) (fun w => rm_Wu h a cI cL w)) 0 0 := by
  obtain ⟨cod, cnt, bra, cof, mad, nu, co, se, li, le, fi, sc, ti, un, ma, dr, fr, to, en⟩ := w
  obtain ⟨n, Rr, P1, P2, T, U, b, c9⟩ := g
  obtain ⟨rfl, rfl, rfl⟩ : cnt = nI n ∧ bra = nI b ∧ cof = c9 := ⟨hw.2.1, hw.2.2.1, hw.2.2.2.1⟩
  exact c_rm_differ n b Rr P1 P2 T U x y hw
theorem cm_parent {l : Launch} {dC : Nat → ClassId} {dI : Nat → Nat → Nat} {h : Nat} {a : Nat → Nat} {cI cL : ClassId} {w : rm_S} {g : rg_A} (hw : rm_Ru w g) (x : Int32) (v : Bool) : rg_M l yM_parent (Cond.code yM_parent prog_8_method_36_code 3 (some .int) :: rg_tbl) { frames := 1, cells := 0, slots := 0, locals := 21 } (dC, dI) rg_cl [(cI, .int), (cL, .long)] (rm_Wu h a cI cL w) [.ref h, .int x, .int (bif v then 1 else 0)] (rg_QI (dC, dI) rg_cl [(cI, .int), (cL, .long)] (S := rm_S) (rm_Po (rg_oPar g x v)) (fun w => rm_Wu h a cI cL w)) 0 0 := by
  obtain ⟨cod, cnt, bra, cof, mad, nu, co, se, li, le, fi, sc, ti, un, ma, dr, fr, to, en⟩ := w
  obtain ⟨n, Rr, P1, P2, T, U, b, c9⟩ := g
  obtain ⟨rfl, rfl, rfl⟩ : cnt = nI n ∧ bra = nI b ∧ cof = c9 := ⟨hw.2.1, hw.2.2.1, hw.2.2.2.1⟩
  exact c_rm_parent n b Rr P1 P2 T U x v hw
theorem cm_figure {l : Launch} {dC : Nat → ClassId} {dI : Nat → Nat → Nat} {h : Nat} {a : Nat → Nat} {cI cL : ClassId} {w : rm_S} {g : rg_A} (hw : rm_Ru w g) (x : Int32) : rg_M l yM_figure (Cond.code yM_figure prog_8_method_39_code 2 (some .int) :: rg_tbl) { frames := 1, cells := 0, slots := 0, locals := 20 } (dC, dI) rg_cl [(cI, .int), (cL, .long)] (rm_Wu h a cI cL w) [.ref h, .int x] (rg_QI (dC, dI) rg_cl [(cI, .int), (cL, .long)] (S := rm_S) (rm_Po (rg_oFig g x)) (fun w => rm_Wu h a cI cL w)) 0 0 := by
  obtain ⟨cod, cnt, bra, cof, mad, nu, co, se, li, le, fi, sc, ti, un, ma, dr, fr, to, en⟩ := w
  obtain ⟨n, Rr, P1, P2, T, U, b, c9⟩ := g
  obtain ⟨rfl, rfl, rfl⟩ : cnt = nI n ∧ bra = nI b ∧ cof = c9 := ⟨hw.2.1, hw.2.2.1, hw.2.2.2.1⟩
  exact c_rm_figure n b Rr P1 P2 T U x hw
theorem cm_conflicts {l : Launch} {dC : Nat → ClassId} {dI : Nat → Nat → Nat} {h : Nat} {a : Nat → Nat} {cI cL : ClassId} {w : rm_S} {g : rg_A} (hw : rm_Ru w g)  : rg_M l yM_conflicts (Cond.code yM_conflicts prog_8_method_32_code 1 (some .int) :: rg_tbl) { frames := 0, cells := 0, slots := 0, locals := 0 } (dC, dI) rg_cl [(cI, .int), (cL, .long)] (rm_Wu h a cI cL w) [.ref h] (rg_QI (dC, dI) rg_cl [(cI, .int), (cL, .long)] (S := rm_S) (rm_Po ((0, ra_c g, g))) (fun w => rm_Wu h a cI cL w)) 0 0 := by
  obtain ⟨cod, cnt, bra, cof, mad, nu, co, se, li, le, fi, sc, ti, un, ma, dr, fr, to, en⟩ := w
  obtain ⟨n, Rr, P1, P2, T, U, b, c9⟩ := g
  obtain ⟨rfl, rfl, rfl⟩ : cnt = nI n ∧ bra = nI b ∧ cof = c9 := ⟨hw.2.1, hw.2.2.1, hw.2.2.2.1⟩
  exact c_rm_conflicts n b Rr P1 P2 T U  hw
theorem cm_prune {l : Launch} {dC : Nat → ClassId} {dI : Nat → Nat → Nat} {h : Nat} {a : Nat → Nat} {cI cL : ClassId} {w : rm_S} {g : rg_A} (hw : rm_Ru w g)  : rg_M l yM_prune (Cond.code yM_prune prog_8_method_38_code 6 (some .int) :: rg_tbl) { frames := 1, cells := 0, slots := 0, locals := 25 } (dC, dI) rg_cl [(cI, .int), (cL, .long)] (rm_Wu h a cI cL w) [.ref h] (rg_QI (dC, dI) rg_cl [(cI, .int), (cL, .long)] (S := rm_S) (rm_Po (rg_oPrune g)) (fun w => rm_Wu h a cI cL w)) 0 0 := by
  obtain ⟨cod, cnt, bra, cof, mad, nu, co, se, li, le, fi, sc, ti, un, ma, dr, fr, to, en⟩ := w
  obtain ⟨n, Rr, P1, P2, T, U, b, c9⟩ := g
  obtain ⟨rfl, rfl, rfl⟩ : cnt = nI n ∧ bra = nI b ∧ cof = c9 := ⟨hw.2.1, hw.2.2.1, hw.2.2.2.1⟩
  exact c_rm_prune n b Rr P1 P2 T U  hw
theorem cm_thrown {l : Launch} {dC : Nat → ClassId} {dI : Nat → Nat → Nat} {h : Nat} {a : Nat → Nat} {cI cL : ClassId} {w : rm_S} : rg_M l yM_thrown (Cond.code yM_thrown prog_8_method_2_code 1 (some .int) :: rg_tbl) { frames := 0, cells := 0, slots := 0, locals := 0 } (dC, dI) rg_cl [(cI, .int), (cL, .long)] (rm_Wu h a cI cL w) [.ref h] (rg_QI (dC, dI) rg_cl [(cI, .int), (cL, .long)] (S := Unit) (fun r _ => r = w.1) (fun _ => rm_Wu h a cI cL w)) 0 0 := by
  obtain ⟨cod, cnt, bra, cof, mad, nu, co, se, li, le, fi, sc, ti, un, ma, dr, fr, to, en⟩ := w
  exact c_rm_thrown
