set_option maxHeartbeats 4000000 in
set_option maxRecDepth 100000 in
theorem c_B_presentBranch {l : Launch} {dC : Nat → ClassId} {dI : Nat → Nat → Nat} {ad fo fa ur : Nat → Nat} {cI cL cF cA : ClassId} {rec : Nat → Nat → Int64} {fp : Nat → Int32} {sp : Nat → Int32} {an : Nat → Int64} {nn : Nat → Int32} {cnt : Int32} {pt : Nat → Int32} {un : Nat → Nat → Int32} {uc : Nat → Int32} {pr : Int32} {lc : Int32}  : rg_M l yB_presentBranch (Cond.code yB_presentBranch prog_2_method_2_code 1 (some .int) :: rg_tbl) { frames := 0, cells := 0, slots := 0, locals := 0 } (dC, dI) rg_cl (gw_tys cI cL cF cA) (gw_W ad fo fa ur cI cL cF cA rec fp sp an nn cnt pt un uc pr lc) [.ref ((ad 2))] (rg_QI (dC, dI) rg_cl (gw_tys cI cL cF cA) (S := Unit) (fun z _ => z = pr) (fun _ => gw_W ad fo fa ur cI cL cF cA rec fp sp an nn cnt pt un uc pr lc)) 0 0 := by
  refine rg_of prog_2_method_2_code 1 (some .int) (by decide) rfl (Nat.le_of_ble_eq_true rfl) ?_
  intro p e R s m args below meth c Q A H locs ls hR hQ hx hb hml hr hts hown hlk hnm hP hK hD hA hS hl
  have hl : lv_has ls 1 [(0, .ref ((ad 2)))] := hl
  have hts : ∀ w ∈ rg_tbl, w.before args s = true := fun w h => hts w (List.mem_cons_of_mem _ h)
  refine lv_aload_n hx hb dB_presentBranch_0 rfl (lv_at hl 0 rfl) ?_
  refine va_get (D := (dC, dI)) (ci := 3) (C := "RevisionGrove$Branches") (T := TB) (N := 4) hx hb hts inB hown hK hP 2 rfl rfl 3 (by decide) (hts _ tw_74) (fun _ h9 => h9) rfl dB_presentBranch_1 ?_
  rw [hQ]
  exact rg_iret hx hb hr hlk hK hP hD hS dB_presentBranch_4 () rfl (rfl)
set_option maxHeartbeats 4000000 in
set_option maxRecDepth 100000 in
theorem c_B_presentRevision {l : Launch} {dC : Nat → ClassId} {dI : Nat → Nat → Nat} {ad fo fa ur : Nat → Nat} {cI cL cF cA : ClassId} {rec : Nat → Nat → Int64} {fp : Nat → Int32} {sp : Nat → Int32} {an : Nat → Int64} {nn : Nat → Int32} {cnt : Int32} {pt : Nat → Int32} {un : Nat → Nat → Int32} {uc : Nat → Int32} {lc : Int32} (b : Nat) (hb4 : b < 4) : rg_M l yB_presentRevision (Cond.code yB_presentRevision prog_2_method_3_code 1 (some .int) :: rg_tbl) { frames := 0, cells := 0, slots := 0, locals := 0 } (dC, dI) rg_cl (gw_tys cI cL cF cA) (gw_W ad fo fa ur cI cL cF cA rec fp sp an nn cnt pt un uc (nI b) lc) [.ref ((ad 2))] (rg_QI (dC, dI) rg_cl (gw_tys cI cL cF cA) (S := Unit) (fun z _ => z = pt b) (fun _ => gw_W ad fo fa ur cI cL cF cA rec fp sp an nn cnt pt un uc (nI b) lc)) 0 0 := by
  refine rg_of prog_2_method_3_code 1 (some .int) (by decide) rfl (Nat.le_of_ble_eq_true rfl) ?_
  intro p e R s m args below meth c Q A H locs ls hR hQ hx hb hml hr hts hown hlk hnm hP hK hD hA hS hl
  have hl : lv_has ls 1 [(0, .ref ((ad 2)))] := hl
  have hts : ∀ w ∈ rg_tbl, w.before args s = true := fun w h => hts w (List.mem_cons_of_mem _ h)
  refine lv_aload_n hx hb dB_presentRevision_0 rfl (lv_at hl 0 rfl) ?_
  refine va_get (D := (dC, dI)) (ci := 3) (C := "RevisionGrove$Branches") (T := TB) (N := 4) hx hb hts inB hown hK hP 2 rfl rfl 0 (by decide) (hts _ tw_71) (fun _ h9 => h9) rfl dB_presentRevision_1 ?_
  refine lv_aload_n hx hb dB_presentRevision_4 rfl (lv_at hl 0 rfl) ?_
  refine va_get (D := (dC, dI)) (ci := 3) (C := "RevisionGrove$Branches") (T := TB) (N := 4) hx hb hts inB hown hK hP 2 rfl rfl 3 (by decide) (hts _ tw_74) (fun _ h9 => h9) rfl dB_presentRevision_5 ?_
  refine rg_iald hx hb hK hP 8 0 rfl rfl (by decide) (by omega) dB_presentRevision_8 ?_
  rw [hQ]
  exact rg_iret hx hb hr hlk hK hP hD hS dB_presentRevision_9 () rfl (rfl)
set_option maxHeartbeats 4000000 in
set_option maxRecDepth 100000 in
theorem c_B_revisionOf {l : Launch} {dC : Nat → ClassId} {dI : Nat → Nat → Nat} {ad fo fa ur : Nat → Nat} {cI cL cF cA : ClassId} {rec : Nat → Nat → Int64} {fp : Nat → Int32} {sp : Nat → Int32} {an : Nat → Int64} {nn : Nat → Int32} {cnt : Int32} {pt : Nat → Int32} {un : Nat → Nat → Int32} {uc : Nat → Int32} {pr : Int32} {lc : Int32} (b : Nat) (hb4 : b < 4) : rg_M l yB_revisionOf (Cond.code yB_revisionOf prog_2_method_4_code 2 (some .int) :: rg_tbl) { frames := 0, cells := 0, slots := 0, locals := 0 } (dC, dI) rg_cl (gw_tys cI cL cF cA) (gw_W ad fo fa ur cI cL cF cA rec fp sp an nn cnt pt un uc pr lc) [.ref ((ad 2)), .int (nI b)] (rg_QI (dC, dI) rg_cl (gw_tys cI cL cF cA) (S := Unit) (fun z _ => z = pt b) (fun _ => gw_W ad fo fa ur cI cL cF cA rec fp sp an nn cnt pt un uc pr lc)) 0 0 := by
  refine rg_of prog_2_method_4_code 2 (some .int) (by decide) rfl (Nat.le_of_ble_eq_true rfl) ?_
  intro p e R s m args below meth c Q A H locs ls hR hQ hx hb hml hr hts hown hlk hnm hP hK hD hA hS hl
  have hl : lv_has ls 2 [(0, .ref ((ad 2))), (1, .int (nI b))] := hl
  have hts : ∀ w ∈ rg_tbl, w.before args s = true := fun w h => hts w (List.mem_cons_of_mem _ h)
  refine lv_aload_n hx hb dB_revisionOf_0 rfl (lv_at hl 0 rfl) ?_
  refine va_get (D := (dC, dI)) (ci := 3) (C := "RevisionGrove$Branches") (T := TB) (N := 4) hx hb hts inB hown hK hP 2 rfl rfl 0 (by decide) (hts _ tw_71) (fun _ h9 => h9) rfl dB_revisionOf_1 ?_
  refine lv_iload_n hx hb dB_revisionOf_4 rfl (lv_at hl 1 rfl) ?_
  refine rg_iald hx hb hK hP 8 0 rfl rfl (by decide) (by omega) dB_revisionOf_5 ?_
  rw [hQ]
  exact rg_iret hx hb hr hlk hK hP hD hS dB_revisionOf_6 () rfl (rfl)
set_option maxHeartbeats 4000000 in
set_option maxRecDepth 100000 in
theorem c_B_undoneCount {l : Launch} {dC : Nat → ClassId} {dI : Nat → Nat → Nat} {ad fo fa ur : Nat → Nat} {cI cL cF cA : ClassId} {rec : Nat → Nat → Int64} {fp : Nat → Int32} {sp : Nat → Int32} {an : Nat → Int64} {nn : Nat → Int32} {cnt : Int32} {pt : Nat → Int32} {un : Nat → Nat → Int32} {uc : Nat → Int32} {lc : Int32} (b : Nat) (hb4 : b < 4) : rg_M l yB_undoneCount (Cond.code yB_undoneCount prog_2_method_5_code 1 (some .int) :: rg_tbl) { frames := 0, cells := 0, slots := 0, locals := 0 } (dC, dI) rg_cl (gw_tys cI cL cF cA) (gw_W ad fo fa ur cI cL cF cA rec fp sp an nn cnt pt un uc (nI b) lc) [.ref ((ad 2))] (rg_QI (dC, dI) rg_cl (gw_tys cI cL cF cA) (S := Unit) (fun z _ => z = uc b) (fun _ => gw_W ad fo fa ur cI cL cF cA rec fp sp an nn cnt pt un uc (nI b) lc)) 0 0 := by
  refine rg_of prog_2_method_5_code 1 (some .int) (by decide) rfl (Nat.le_of_ble_eq_true rfl) ?_
  intro p e R s m args below meth c Q A H locs ls hR hQ hx hb hml hr hts hown hlk hnm hP hK hD hA hS hl
  have hl : lv_has ls 1 [(0, .ref ((ad 2)))] := hl
  have hts : ∀ w ∈ rg_tbl, w.before args s = true := fun w h => hts w (List.mem_cons_of_mem _ h)
  refine lv_aload_n hx hb dB_undoneCount_0 rfl (lv_at hl 0 rfl) ?_
  refine va_get (D := (dC, dI)) (ci := 3) (C := "RevisionGrove$Branches") (T := TB) (N := 4) hx hb hts inB hown hK hP 2 rfl rfl 2 (by decide) (hts _ tw_73) (fun _ h9 => h9) rfl dB_undoneCount_1 ?_
  refine lv_aload_n hx hb dB_undoneCount_4 rfl (lv_at hl 0 rfl) ?_
  refine va_get (D := (dC, dI)) (ci := 3) (C := "RevisionGrove$Branches") (T := TB) (N := 4) hx hb hts inB hown hK hP 2 rfl rfl 3 (by decide) (hts _ tw_74) (fun _ h9 => h9) rfl dB_undoneCount_5 ?_
  refine rg_iald hx hb hK hP 10 0 rfl rfl (by decide) (by omega) dB_undoneCount_8 ?_
  rw [hQ]
  exact rg_iret hx hb hr hlk hK hP hD hS dB_undoneCount_9 () rfl (rfl)
set_option maxHeartbeats 4000000 in
set_option maxRecDepth 100000 in
theorem c_B_makePresent {l : Launch} {dC : Nat → ClassId} {dI : Nat → Nat → Nat} {ad fo fa ur : Nat → Nat} {cI cL cF cA : ClassId} {rec : Nat → Nat → Int64} {fp : Nat → Int32} {sp : Nat → Int32} {an : Nat → Int64} {nn : Nat → Int32} {cnt : Int32} {pt : Nat → Int32} {un : Nat → Nat → Int32} {uc : Nat → Int32} {pr : Int32} {lc : Int32} (x : Int32) : rg_M l yB_makePresent (Cond.code yB_makePresent prog_2_method_6_code 2 none :: rg_tbl) { frames := 0, cells := 0, slots := 0, locals := 0 } (dC, dI) rg_cl (gw_tys cI cL cF cA) (gw_W ad fo fa ur cI cL cF cA rec fp sp an nn cnt pt un uc pr lc) [.ref ((ad 2)), .int x] (rg_QV (dC, dI) rg_cl (gw_tys cI cL cF cA) (S := Unit) (fun _ => True) (fun _ => gw_W ad fo fa ur cI cL cF cA rec fp sp an nn cnt pt un uc x lc)) 0 0 := by
  refine rg_of prog_2_method_6_code 2 none (by decide) rfl (Nat.le_of_ble_eq_true rfl) ?_
  intro p e R s m args below meth c Q A H locs ls hR hQ hx hb hml hr hts hown hlk hnm hP hK hD hA hS hl
  have hl : lv_has ls 2 [(0, .ref ((ad 2))), (1, .int x)] := hl
  have hts : ∀ w ∈ rg_tbl, w.before args s = true := fun w h => hts w (List.mem_cons_of_mem _ h)
  refine lv_aload_n hx hb dB_makePresent_0 rfl (lv_at hl 0 rfl) ?_
  refine lv_iload_n hx hb dB_makePresent_1 rfl (lv_at hl 1 rfl) ?_
  refine va_put (D := (dC, dI)) (ci := 3) (v := .int x) (ty := .int) (C := "RevisionGrove$Branches") (T := TB) (N := 4) hx hb hts inB tyB tyB_ok nmB hown hK hP hD hS 2 rfl rfl 3 (by decide) (hts _ tw_74) (fun _ h9 => h9) rfl (by decide +kernel) rfl rfl (Nat.le_of_ble_eq_true rfl) dB_makePresent_2 (fun H locs hP hD hS => ?_)
  have hP : va_P (dC, dI) rg_cl (gw_W ad fo fa ur cI cL cF cA rec fp sp an nn cnt pt un uc x lc) H := hP
  have hD : va_D A (gw_W ad fo fa ur cI cL cF cA rec fp sp an nn cnt pt un uc x lc) := hD
  rw [hQ]
  exact rg_vret hx hb hr hlk hK hP hD hS dB_makePresent_5 () rfl (trivial)
set_option maxHeartbeats 4000000 in
set_option maxRecDepth 100000 in
theorem c_B_lead {l : Launch} {dC : Nat → ClassId} {dI : Nat → Nat → Nat} {ad fo fa ur : Nat → Nat} {cI cL cF cA : ClassId} {rec : Nat → Nat → Int64} {fp : Nat → Int32} {sp : Nat → Int32} {an : Nat → Int64} {nn : Nat → Int32} {cnt : Int32} {pt : Nat → Int32} {un : Nat → Nat → Int32} {uc : Nat → Int32} {pr : Int32} {lc : Int32} (b : Nat) (hb4 : b < 4) (v : Int32) : rg_M l yB_lead (Cond.code yB_lead prog_2_method_7_code 3 none :: rg_tbl) { frames := 0, cells := 0, slots := 0, locals := 0 } (dC, dI) rg_cl (gw_tys cI cL cF cA) (gw_W ad fo fa ur cI cL cF cA rec fp sp an nn cnt pt un uc pr lc) [.ref ((ad 2)), .int (nI b), .int v] (rg_QV (dC, dI) rg_cl (gw_tys cI cL cF cA) (S := Unit) (fun _ => True) (fun _ => gw_W ad fo fa ur cI cL cF cA rec fp sp an nn cnt (upd pt b v) un (upd uc b (nI 0)) pr lc)) 0 0 := by
  refine rg_of prog_2_method_7_code 3 none (by decide) rfl (Nat.le_of_ble_eq_true rfl) ?_
  intro p e R s m args below meth c Q A H locs ls hR hQ hx hb hml hr hts hown hlk hnm hP hK hD hA hS hl
  have hl : lv_has ls 3 [(0, .ref ((ad 2))), (1, .int (nI b)), (2, .int v)] := hl
  have hts : ∀ w ∈ rg_tbl, w.before args s = true := fun w h => hts w (List.mem_cons_of_mem _ h)
  refine lv_aload_n hx hb dB_lead_0 rfl (lv_at hl 0 rfl) ?_
  refine va_get (D := (dC, dI)) (ci := 3) (C := "RevisionGrove$Branches") (T := TB) (N := 4) hx hb hts inB hown hK hP 2 rfl rfl 0 (by decide) (hts _ tw_71) (fun _ h9 => h9) rfl dB_lead_1 ?_
  refine lv_iload_n hx hb dB_lead_4 rfl (lv_at hl 1 rfl) ?_
  refine lv_iload_n hx hb dB_lead_5 rfl (lv_at hl 2 rfl) ?_
  refine rg_iast hx hb hK hP hD hS 8 0 rfl rfl (by decide) (by omega) dB_lead_6 (fun H locs hP hD hS => ?_)
  have hP : va_P (dC, dI) rg_cl (gw_W ad fo fa ur cI cL cF cA rec fp sp an nn cnt (upd pt b v) un uc pr lc) H := hP
  have hD : va_D A (gw_W ad fo fa ur cI cL cF cA rec fp sp an nn cnt (upd pt b v) un uc pr lc) := hD
  refine lv_aload_n hx hb dB_lead_7 rfl (lv_at hl 0 rfl) ?_
  refine va_get (D := (dC, dI)) (ci := 3) (C := "RevisionGrove$Branches") (T := TB) (N := 4) hx hb hts inB hown hK hP 2 rfl rfl 2 (by decide) (hts _ tw_73) (fun _ h9 => h9) rfl dB_lead_8 ?_
  refine lv_iload_n hx hb dB_lead_11 rfl (lv_at hl 1 rfl) ?_
  refine lv_iconst (v := nI 0) hx hb dB_lead_12 (by decide) ?_
  refine rg_iast hx hb hK hP hD hS 10 0 rfl rfl (by decide) (by omega) dB_lead_13 (fun H locs hP hD hS => ?_)
  have hP : va_P (dC, dI) rg_cl (gw_W ad fo fa ur cI cL cF cA rec fp sp an nn cnt (upd pt b v) un (upd uc b (nI 0)) pr lc) H := hP
  have hD : va_D A (gw_W ad fo fa ur cI cL cF cA rec fp sp an nn cnt (upd pt b v) un (upd uc b (nI 0)) pr lc) := hD
  rw [hQ]
  exact rg_vret hx hb hr hlk hK hP hD hS dB_lead_14 () rfl (trivial)
set_option maxHeartbeats 4000000 in
set_option maxRecDepth 100000 in
theorem c_B_come {l : Launch} {dC : Nat → ClassId} {dI : Nat → Nat → Nat} {ad fo fa ur : Nat → Nat} {cI cL cF cA : ClassId} {rec : Nat → Nat → Int64} {fp : Nat → Int32} {sp : Nat → Int32} {an : Nat → Int64} {nn : Nat → Int32} {cnt : Int32} {pt : Nat → Int32} {un : Nat → Nat → Int32} {uc : Nat → Int32} {lc : Int32} (b : Nat) (hb4 : b < 4) (v : Int32) : rg_M l yB_come (Cond.code yB_come prog_2_method_8_code 2 none :: rg_tbl) { frames := 1, cells := 0, slots := 0, locals := 22 } (dC, dI) rg_cl (gw_tys cI cL cF cA) (gw_W ad fo fa ur cI cL cF cA rec fp sp an nn cnt pt un uc (nI b) lc) [.ref ((ad 2)), .int v] (rg_QV (dC, dI) rg_cl (gw_tys cI cL cF cA) (S := Unit) (fun _ => True) (fun _ => gw_W ad fo fa ur cI cL cF cA rec fp sp an nn cnt (upd pt b v) un (upd uc b (nI 0)) (nI b) lc)) 0 0 := by
  refine rg_of prog_2_method_8_code 2 none (by decide) rfl (Nat.le_of_ble_eq_true rfl) ?_
  intro p e R s m args below meth c Q A H locs ls hR hQ hx hb hml hr hts hown hlk hnm hP hK hD hA hS hl
  have hl : lv_has ls 2 [(0, .ref ((ad 2))), (1, .int v)] := hl
  have hts : ∀ w ∈ rg_tbl, w.before args s = true := fun w h => hts w (List.mem_cons_of_mem _ h)
  refine lv_aload_n hx hb dB_come_0 rfl (lv_at hl 0 rfl) ?_
  refine lv_aload_n hx hb dB_come_1 rfl (lv_at hl 0 rfl) ?_
  refine va_get (D := (dC, dI)) (ci := 3) (C := "RevisionGrove$Branches") (T := TB) (N := 4) hx hb hts inB hown hK hP 2 rfl rfl 3 (by decide) (hts _ tw_74) (fun _ h9 => h9) rfl dB_come_2 ?_
  refine lv_iload_n hx hb dB_come_5 rfl (lv_at hl 1 rfl) ?_
  refine rg_callv hD hS hA (va_runV (As := [.int (nI b), .int v]) (rest := []) ⟨hx, hb, hml, hown, hts⟩ (c_B_lead b (by omega) v _) (cwV 2 hts (rg_gV tw_291 tw_292 tw_293 tw_4 tw_294) rfl rfl rfl (by decide +kernel) ⟨by rw [hR]; exact Nat.le_of_ble_eq_true rfl, by rw [hR]; exact Nat.le_of_ble_eq_true rfl⟩) (rg_preV rfl hK hP hD (ci := 3) (q0 := 2) rfl rfl) rfl rfl hl.1 rfl (lv_room (Nat.le_of_ble_eq_true rfl)) dB_come_6 ⟨Nat.zero_le _, Nat.zero_le _⟩) (fun u2 H locs hw3 hP hD hS => ?_)
  have hP : va_P (dC, dI) rg_cl (gw_W ad fo fa ur cI cL cF cA rec fp sp an nn cnt (upd pt b v) un (upd uc b (nI 0)) (nI b) lc) H := hP
  have hD : va_D A (gw_W ad fo fa ur cI cL cF cA rec fp sp an nn cnt (upd pt b v) un (upd uc b (nI 0)) (nI b) lc) := hD
  rw [hQ]
  exact rg_vret hx hb hr hlk hK hP hD hS dB_come_9 () rfl (trivial)
set_option maxHeartbeats 4000000 in
set_option maxRecDepth 100000 in
theorem c_B_stepBack {l : Launch} {dC : Nat → ClassId} {dI : Nat → Nat → Nat} {ad fo fa ur : Nat → Nat} {cI cL cF cA : ClassId} {rec : Nat → Nat → Int64} {fp : Nat → Int32} {sp : Nat → Int32} {an : Nat → Int64} {nn : Nat → Int32} {cnt : Int32} {pt : Nat → Int32} {un : Nat → Nat → Int32} {uc : Nat → Int32} {lc : Int32} (b : Nat) (hb4 : b < 4) (k : Nat) (hk6 : k < 60) (hk9 : uc b = nI k) (v : Int32) : rg_M l yB_stepBack (Cond.code yB_stepBack prog_2_method_9_code 2 none :: rg_tbl) { frames := 0, cells := 0, slots := 0, locals := 0 } (dC, dI) rg_cl (gw_tys cI cL cF cA) (gw_W ad fo fa ur cI cL cF cA rec fp sp an nn cnt pt un uc (nI b) lc) [.ref ((ad 2)), .int v] (rg_QV (dC, dI) rg_cl (gw_tys cI cL cF cA) (S := Unit) (fun _ => True) (fun _ => gw_W ad fo fa ur cI cL cF cA rec fp sp an nn cnt (upd pt b v) (va_up un b (upd (un b) k (pt b))) (upd uc b (nI (k + 1))) (nI b) lc)) 0 0 := by
  refine rg_of prog_2_method_9_code 2 none (by decide) rfl (Nat.le_of_ble_eq_true rfl) ?_
  intro p e R s m args below meth c Q A H locs ls hR hQ hx hb hml hr hts hown hlk hnm hP hK hD hA hS hl
  have hl : lv_has ls 2 [(0, .ref ((ad 2))), (1, .int v)] := hl
  have hts : ∀ w ∈ rg_tbl, w.before args s = true := fun w h => hts w (List.mem_cons_of_mem _ h)
  refine lv_aload_n hx hb dB_stepBack_0 rfl (lv_at hl 0 rfl) ?_
  refine va_get (D := (dC, dI)) (ci := 3) (C := "RevisionGrove$Branches") (T := TB) (N := 4) hx hb hts inB hown hK hP 2 rfl rfl 1 (by decide) (hts _ tw_72) (fun _ h9 => h9) rfl dB_stepBack_1 ?_
  refine lv_aload_n hx hb dB_stepBack_4 rfl (lv_at hl 0 rfl) ?_
  refine va_get (D := (dC, dI)) (ci := 3) (C := "RevisionGrove$Branches") (T := TB) (N := 4) hx hb hts inB hown hK hP 2 rfl rfl 3 (by decide) (hts _ tw_74) (fun _ h9 => h9) rfl dB_stepBack_5 ?_
  refine gw_undo hx hb hK hP (by omega) dB_stepBack_8 ?_
  refine lv_aload_n hx hb dB_stepBack_9 rfl (lv_at hl 0 rfl) ?_
  refine va_get (D := (dC, dI)) (ci := 3) (C := "RevisionGrove$Branches") (T := TB) (N := 4) hx hb hts inB hown hK hP 2 rfl rfl 2 (by decide) (hts _ tw_73) (fun _ h9 => h9) rfl dB_stepBack_10 ?_
  refine lv_aload_n hx hb dB_stepBack_13 rfl (lv_at hl 0 rfl) ?_
  refine va_get (D := (dC, dI)) (ci := 3) (C := "RevisionGrove$Branches") (T := TB) (N := 4) hx hb hts inB hown hK hP 2 rfl rfl 3 (by decide) (hts _ tw_74) (fun _ h9 => h9) rfl dB_stepBack_14 ?_
  refine rg_iald hx hb hK hP 10 0 rfl rfl (by decide) (by omega) dB_stepBack_17 ?_
  refine rg_top (show (.int (uc b) : Value) = .int (nI k) by rw [hk9]) ?_
  refine lv_aload_n hx hb dB_stepBack_18 rfl (lv_at hl 0 rfl) ?_
  refine va_get (D := (dC, dI)) (ci := 3) (C := "RevisionGrove$Branches") (T := TB) (N := 4) hx hb hts inB hown hK hP 2 rfl rfl 0 (by decide) (hts _ tw_71) (fun _ h9 => h9) rfl dB_stepBack_19 ?_
  refine lv_aload_n hx hb dB_stepBack_22 rfl (lv_at hl 0 rfl) ?_
  refine va_get (D := (dC, dI)) (ci := 3) (C := "RevisionGrove$Branches") (T := TB) (N := 4) hx hb hts inB hown hK hP 2 rfl rfl 3 (by decide) (hts _ tw_74) (fun _ h9 => h9) rfl dB_stepBack_23 ?_
  refine rg_iald hx hb hK hP 8 0 rfl rfl (by decide) (by omega) dB_stepBack_26 ?_
  refine gw_rast hx hb hK hP hD hS (by omega) (by omega) dB_stepBack_27 (fun H locs hP hD hS => ?_)
  have hP : va_P (dC, dI) rg_cl (gw_W ad fo fa ur cI cL cF cA rec fp sp an nn cnt pt (va_up un b (upd (un b) k (pt b))) uc (nI b) lc) H := hP
  have hD : va_D A (gw_W ad fo fa ur cI cL cF cA rec fp sp an nn cnt pt (va_up un b (upd (un b) k (pt b))) uc (nI b) lc) := hD
  refine lv_aload_n hx hb dB_stepBack_28 rfl (lv_at hl 0 rfl) ?_
  refine va_get (D := (dC, dI)) (ci := 3) (C := "RevisionGrove$Branches") (T := TB) (N := 4) hx hb hts inB hown hK hP 2 rfl rfl 2 (by decide) (hts _ tw_73) (fun _ h9 => h9) rfl dB_stepBack_29 ?_
  refine lv_aload_n hx hb dB_stepBack_32 rfl (lv_at hl 0 rfl) ?_
  refine va_get (D := (dC, dI)) (ci := 3) (C := "RevisionGrove$Branches") (T := TB) (N := 4) hx hb hts inB hown hK hP 2 rfl rfl 3 (by decide) (hts _ tw_74) (fun _ h9 => h9) rfl dB_stepBack_33 ?_
  refine lv_dup2_11 hx hb dB_stepBack_36 rfl rfl ?_
  refine rg_iald hx hb hK hP 10 0 rfl rfl (by decide) (by omega) dB_stepBack_37 ?_
  refine rg_top (show (.int (uc b) : Value) = .int (nI k) by rw [hk9]) ?_
  refine lv_iconst (v := nI 1) hx hb dB_stepBack_38 (by decide) ?_
  refine rg_iadd hx hb dB_stepBack_39 ?_
  refine rg_iast hx hb hK hP hD hS 10 0 rfl rfl (by decide) (by omega) dB_stepBack_40 (fun H locs hP hD hS => ?_)
  have hP : va_P (dC, dI) rg_cl (gw_W ad fo fa ur cI cL cF cA rec fp sp an nn cnt pt (va_up un b (upd (un b) k (pt b))) (upd uc b (nI (k + 1))) (nI b) lc) H := hP
  have hD : va_D A (gw_W ad fo fa ur cI cL cF cA rec fp sp an nn cnt pt (va_up un b (upd (un b) k (pt b))) (upd uc b (nI (k + 1))) (nI b) lc) := hD
  refine lv_aload_n hx hb dB_stepBack_41 rfl (lv_at hl 0 rfl) ?_
  refine va_get (D := (dC, dI)) (ci := 3) (C := "RevisionGrove$Branches") (T := TB) (N := 4) hx hb hts inB hown hK hP 2 rfl rfl 0 (by decide) (hts _ tw_71) (fun _ h9 => h9) rfl dB_stepBack_42 ?_
  refine lv_aload_n hx hb dB_stepBack_45 rfl (lv_at hl 0 rfl) ?_
  refine va_get (D := (dC, dI)) (ci := 3) (C := "RevisionGrove$Branches") (T := TB) (N := 4) hx hb hts inB hown hK hP 2 rfl rfl 3 (by decide) (hts _ tw_74) (fun _ h9 => h9) rfl dB_stepBack_46 ?_
  refine lv_iload_n hx hb dB_stepBack_49 rfl (lv_at hl 1 rfl) ?_
  refine rg_iast hx hb hK hP hD hS 8 0 rfl rfl (by decide) (by omega) dB_stepBack_50 (fun H locs hP hD hS => ?_)
  have hP : va_P (dC, dI) rg_cl (gw_W ad fo fa ur cI cL cF cA rec fp sp an nn cnt (upd pt b v) (va_up un b (upd (un b) k (pt b))) (upd uc b (nI (k + 1))) (nI b) lc) H := hP
  have hD : va_D A (gw_W ad fo fa ur cI cL cF cA rec fp sp an nn cnt (upd pt b v) (va_up un b (upd (un b) k (pt b))) (upd uc b (nI (k + 1))) (nI b) lc) := hD
  rw [hQ]
  exact rg_vret hx hb hr hlk hK hP hD hS dB_stepBack_51 () rfl (trivial)
set_option maxHeartbeats 4000000 in
set_option maxRecDepth 100000 in
theorem c_B_stepForward {l : Launch} {dC : Nat → ClassId} {dI : Nat → Nat → Nat} {ad fo fa ur : Nat → Nat} {cI cL cF cA : ClassId} {rec : Nat → Nat → Int64} {fp : Nat → Int32} {sp : Nat → Int32} {an : Nat → Int64} {nn : Nat → Int32} {cnt : Int32} {pt : Nat → Int32} {un : Nat → Nat → Int32} {uc : Nat → Int32} {lc : Int32} (b : Nat) (hb4 : b < 4) (k : Nat) (hk6 : k < 60) (hk0 : 0 < k) (hk9 : uc b = nI k) : rg_M l yB_stepForward (Cond.code yB_stepForward prog_2_method_10_code 1 none :: rg_tbl) { frames := 0, cells := 0, slots := 0, locals := 0 } (dC, dI) rg_cl (gw_tys cI cL cF cA) (gw_W ad fo fa ur cI cL cF cA rec fp sp an nn cnt pt un uc (nI b) lc) [.ref ((ad 2))] (rg_QV (dC, dI) rg_cl (gw_tys cI cL cF cA) (S := Unit) (fun _ => True) (fun _ => gw_W ad fo fa ur cI cL cF cA rec fp sp an nn cnt (upd pt b (un b (k - 1))) un (upd uc b (nI (k - 1))) (nI b) lc)) 0 0 := by
  refine rg_of prog_2_method_10_code 1 none (by decide) rfl (Nat.le_of_ble_eq_true rfl) ?_
  intro p e R s m args below meth c Q A H locs ls hR hQ hx hb hml hr hts hown hlk hnm hP hK hD hA hS hl
  have hl : lv_has ls 1 [(0, .ref ((ad 2)))] := hl
  have hts : ∀ w ∈ rg_tbl, w.before args s = true := fun w h => hts w (List.mem_cons_of_mem _ h)
  refine lv_aload_n hx hb dB_stepForward_0 rfl (lv_at hl 0 rfl) ?_
  refine va_get (D := (dC, dI)) (ci := 3) (C := "RevisionGrove$Branches") (T := TB) (N := 4) hx hb hts inB hown hK hP 2 rfl rfl 2 (by decide) (hts _ tw_73) (fun _ h9 => h9) rfl dB_stepForward_1 ?_
  refine lv_aload_n hx hb dB_stepForward_4 rfl (lv_at hl 0 rfl) ?_
  refine va_get (D := (dC, dI)) (ci := 3) (C := "RevisionGrove$Branches") (T := TB) (N := 4) hx hb hts inB hown hK hP 2 rfl rfl 3 (by decide) (hts _ tw_74) (fun _ h9 => h9) rfl dB_stepForward_5 ?_
  refine lv_dup2_11 hx hb dB_stepForward_8 rfl rfl ?_
  refine rg_iald hx hb hK hP 10 0 rfl rfl (by decide) (by omega) dB_stepForward_9 ?_
  refine rg_top (show (.int (uc b) : Value) = .int (nI k) by rw [hk9]) ?_
  refine lv_iconst (v := nI 1) hx hb dB_stepForward_10 (by decide) ?_
  refine rg_isub hx hb dB_stepForward_11 (by omega) ?_
  refine rg_iast hx hb hK hP hD hS 10 0 rfl rfl (by decide) (by omega) dB_stepForward_12 (fun H locs hP hD hS => ?_)
  have hP : va_P (dC, dI) rg_cl (gw_W ad fo fa ur cI cL cF cA rec fp sp an nn cnt pt un (upd uc b (nI (k - 1))) (nI b) lc) H := hP
  have hD : va_D A (gw_W ad fo fa ur cI cL cF cA rec fp sp an nn cnt pt un (upd uc b (nI (k - 1))) (nI b) lc) := hD
  refine lv_aload_n hx hb dB_stepForward_13 rfl (lv_at hl 0 rfl) ?_
  refine va_get (D := (dC, dI)) (ci := 3) (C := "RevisionGrove$Branches") (T := TB) (N := 4) hx hb hts inB hown hK hP 2 rfl rfl 0 (by decide) (hts _ tw_71) (fun _ h9 => h9) rfl dB_stepForward_14 ?_
  refine lv_aload_n hx hb dB_stepForward_17 rfl (lv_at hl 0 rfl) ?_
  refine va_get (D := (dC, dI)) (ci := 3) (C := "RevisionGrove$Branches") (T := TB) (N := 4) hx hb hts inB hown hK hP 2 rfl rfl 3 (by decide) (hts _ tw_74) (fun _ h9 => h9) rfl dB_stepForward_18 ?_
  refine lv_aload_n hx hb dB_stepForward_21 rfl (lv_at hl 0 rfl) ?_
  refine va_get (D := (dC, dI)) (ci := 3) (C := "RevisionGrove$Branches") (T := TB) (N := 4) hx hb hts inB hown hK hP 2 rfl rfl 1 (by decide) (hts _ tw_72) (fun _ h9 => h9) rfl dB_stepForward_22 ?_
  refine lv_aload_n hx hb dB_stepForward_25 rfl (lv_at hl 0 rfl) ?_
  refine va_get (D := (dC, dI)) (ci := 3) (C := "RevisionGrove$Branches") (T := TB) (N := 4) hx hb hts inB hown hK hP 2 rfl rfl 3 (by decide) (hts _ tw_74) (fun _ h9 => h9) rfl dB_stepForward_26 ?_
  refine gw_undo hx hb hK hP (by omega) dB_stepForward_29 ?_
  refine lv_aload_n hx hb dB_stepForward_30 rfl (lv_at hl 0 rfl) ?_
  refine va_get (D := (dC, dI)) (ci := 3) (C := "RevisionGrove$Branches") (T := TB) (N := 4) hx hb hts inB hown hK hP 2 rfl rfl 2 (by decide) (hts _ tw_73) (fun _ h9 => h9) rfl dB_stepForward_31 ?_
  refine lv_aload_n hx hb dB_stepForward_34 rfl (lv_at hl 0 rfl) ?_
  refine va_get (D := (dC, dI)) (ci := 3) (C := "RevisionGrove$Branches") (T := TB) (N := 4) hx hb hts inB hown hK hP 2 rfl rfl 3 (by decide) (hts _ tw_74) (fun _ h9 => h9) rfl dB_stepForward_35 ?_
  refine rg_iald hx hb hK hP 10 0 rfl rfl (by decide) (by omega) dB_stepForward_38 ?_
  refine rg_top (show (.int ((upd uc b (nI (k - 1))) b) : Value) = .int (nI (k - 1)) by rw [pk_us]) ?_
  refine gw_rald hx hb hK hP (by omega) (by omega) dB_stepForward_39 ?_
  refine rg_iast hx hb hK hP hD hS 8 0 rfl rfl (by decide) (by omega) dB_stepForward_40 (fun H locs hP hD hS => ?_)
  have hP : va_P (dC, dI) rg_cl (gw_W ad fo fa ur cI cL cF cA rec fp sp an nn cnt (upd pt b (un b (k - 1))) un (upd uc b (nI (k - 1))) (nI b) lc) H := hP
  have hD : va_D A (gw_W ad fo fa ur cI cL cF cA rec fp sp an nn cnt (upd pt b (un b (k - 1))) un (upd uc b (nI (k - 1))) (nI b) lc) := hD
  rw [hQ]
  exact rg_vret hx hb hr hlk hK hP hD hS dB_stepForward_41 () rfl (trivial)
