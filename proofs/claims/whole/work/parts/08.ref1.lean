set_option maxHeartbeats 4000000 in
set_option maxRecDepth 100000 in
theorem c_rm_thrown {l : Launch} {dC : Nat → ClassId} {dI : Nat → Nat → Nat} {h : Nat} {a : Nat → Nat} {cI cL : ClassId} {cod : Int32} {cnt : Int32} {bra : Int32} {cof : Int32} {mad : Int32} {nu : Nat → Int32} {co : Nat → Int64} {se : Nat → Int32} {li : Nat → Int32} {le : Nat → Int32} {fi : Nat → Int32} {sc : Nat → Int32} {ti : Nat → Int32} {un : Nat → Int32} {ma : Nat → Int32} {dr : Nat → Int32} {fr : Nat → Int32} {to : Nat → Int32} {en : Nat → Int32}  : rg_M l yM_thrown (Cond.code yM_thrown prog_8_method_2_code 1 (some .int) :: rg_tbl) { frames := 0, cells := 0, slots := 0, locals := 0 } (dC, dI) rg_cl [(cI, .int), (cL, .long)] (rm_W h a cI cL cod cnt bra cof mad nu co se li le fi sc ti un ma dr fr to en) [.ref h] (rg_QI (dC, dI) rg_cl [(cI, .int), (cL, .long)] (S := Unit) (fun r _ => r = cod) (fun _ => rm_W h a cI cL cod cnt bra cof mad nu co se li le fi sc ti un ma dr fr to en)) 0 0 := by
  refine rg_of prog_8_method_2_code 1 (some .int) (by decide) rfl (Nat.le_of_ble_eq_true rfl) ?_
  intro p e R s m args below meth c Q A H locs ls hR hQ hx hb hml hr hts hown hlk hnm hP hK hD hA hS hl
  have hl : lv_has ls 1 [(0, .ref h)] := hl
  have hts : ∀ w ∈ rg_tbl, w.before args s = true := fun w h => hts w (List.mem_cons_of_mem _ h)
  refine lv_aload_n hx hb dM_thrown_0 rfl (lv_at hl 0 rfl) ?_
  refine va_get (D := (dC, dI)) (ci := 0) (C := "RevisionGroveModel") (T := TM) (N := 19) hx hb hts inM hown hK hP 0 rfl rfl 0 (by decide) (hts _ tw_601) (fun _ h9 => h9) rfl dM_thrown_1 ?_
  rw [hQ]
  exact rg_iret hx hb hr hlk hK hP hD hS dM_thrown_4 () rfl (by first | rfl | trivial)
set_option maxHeartbeats 4000000 in
set_option maxRecDepth 100000 in
theorem c_rm_here {l : Launch} {dC : Nat → ClassId} {dI : Nat → Nat → Nat} {h : Nat} {a : Nat → Nat} {cI cL : ClassId} {cod : Int32} {cnt : Int32} {cof : Int32} {mad : Int32} {nu : Nat → Int32} {co : Nat → Int64} {se : Nat → Int32} {li : Nat → Int32} {le : Nat → Int32} {fi : Nat → Int32} {sc : Nat → Int32} {ti : Nat → Int32} {un : Nat → Int32} {ma : Nat → Int32} {dr : Nat → Int32} {fr : Nat → Int32} {to : Nat → Int32} {en : Nat → Int32} (b : Nat) (hb4 : b < 4) : rg_M l yM_here (Cond.code yM_here prog_8_method_3_code 1 (some .int) :: rg_tbl) { frames := 0, cells := 0, slots := 0, locals := 0 } (dC, dI) rg_cl [(cI, .int), (cL, .long)] (rm_W h a cI cL cod cnt (nI b) cof mad nu co se li le fi sc ti un ma dr fr to en) [.ref h] (rg_QI (dC, dI) rg_cl [(cI, .int), (cL, .long)] (S := Unit) (fun r _ => r = ti b) (fun _ => rm_W h a cI cL cod cnt (nI b) cof mad nu co se li le fi sc ti un ma dr fr to en)) 0 0 := by
  refine rg_of prog_8_method_3_code 1 (some .int) (by decide) rfl (Nat.le_of_ble_eq_true rfl) ?_
  intro p e R s m args below meth c Q A H locs ls hR hQ hx hb hml hr hts hown hlk hnm hP hK hD hA hS hl
  have hl : lv_has ls 1 [(0, .ref h)] := hl
  have hts : ∀ w ∈ rg_tbl, w.before args s = true := fun w h => hts w (List.mem_cons_of_mem _ h)
  refine lv_aload_n hx hb dM_here_0 rfl (lv_at hl 0 rfl) ?_
  refine va_get (D := (dC, dI)) (ci := 0) (C := "RevisionGroveModel") (T := TM) (N := 19) hx hb hts inM hown hK hP 0 rfl rfl 10 (by decide) (hts _ tw_611) (fun _ h9 => h9) rfl dM_here_1 ?_
  refine lv_aload_n hx hb dM_here_4 rfl (lv_at hl 0 rfl) ?_
  refine va_get (D := (dC, dI)) (ci := 0) (C := "RevisionGroveModel") (T := TM) (N := 19) hx hb hts inM hown hK hP 0 rfl rfl 9 (by decide) (hts _ tw_610) (fun _ h9 => h9) rfl dM_here_5 ?_
  refine rg_iald hx hb hK hP 8 0 rfl rfl (by decide) (by omega) dM_here_8 ?_
  rw [hQ]
  exact rg_iret hx hb hr hlk hK hP hD hS dM_here_9 () rfl (by first | rfl | trivial)
set_option maxHeartbeats 4000000 in
set_option maxRecDepth 100000 in
theorem c_rm_come {l : Launch} {dC : Nat → ClassId} {dI : Nat → Nat → Nat} {h : Nat} {a : Nat → Nat} {cI cL : ClassId} {cod : Int32} {cnt : Int32} {cof : Int32} {mad : Int32} {nu : Nat → Int32} {co : Nat → Int64} {se : Nat → Int32} {li : Nat → Int32} {le : Nat → Int32} {fi : Nat → Int32} {sc : Nat → Int32} {ti : Nat → Int32} {un : Nat → Int32} {ma : Nat → Int32} {dr : Nat → Int32} {fr : Nat → Int32} {to : Nat → Int32} {en : Nat → Int32} (b : Nat) (hb4 : b < 4) (v : Int32) : rg_M l yM_come (Cond.code yM_come prog_8_method_5_code 2 none :: rg_tbl) { frames := 0, cells := 0, slots := 0, locals := 0 } (dC, dI) rg_cl [(cI, .int), (cL, .long)] (rm_W h a cI cL cod cnt (nI b) cof mad nu co se li le fi sc ti un ma dr fr to en) [.ref h, .int v] (rg_QV (dC, dI) rg_cl [(cI, .int), (cL, .long)] (S := Unit) (fun _ => True) (fun _ => rm_W h a cI cL cod cnt (nI b) cof mad nu co se li le fi sc (upd ti b v) un (upd ma b (nI 0)) dr fr to en)) 0 0 := by
  refine rg_of prog_8_method_5_code 2 none (by decide) rfl (Nat.le_of_ble_eq_true rfl) ?_
  intro p e R s m args below meth c Q A H locs ls hR hQ hx hb hml hr hts hown hlk hnm hP hK hD hA hS hl
  have hl : lv_has ls 2 [(0, .ref h), (1, .int v)] := hl
  have hts : ∀ w ∈ rg_tbl, w.before args s = true := fun w h => hts w (List.mem_cons_of_mem _ h)
  refine lv_aload_n hx hb dM_come_0 rfl (lv_at hl 0 rfl) ?_
  refine va_get (D := (dC, dI)) (ci := 0) (C := "RevisionGroveModel") (T := TM) (N := 19) hx hb hts inM hown hK hP 0 rfl rfl 10 (by decide) (hts _ tw_611) (fun _ h9 => h9) rfl dM_come_1 ?_
  refine lv_aload_n hx hb dM_come_4 rfl (lv_at hl 0 rfl) ?_
  refine va_get (D := (dC, dI)) (ci := 0) (C := "RevisionGroveModel") (T := TM) (N := 19) hx hb hts inM hown hK hP 0 rfl rfl 9 (by decide) (hts _ tw_610) (fun _ h9 => h9) rfl dM_come_5 ?_
  refine lv_iload_n hx hb dM_come_8 rfl (lv_at hl 1 rfl) ?_
  refine rg_iast hx hb hK hP hD hS 8 0 rfl rfl (by decide) (by omega) dM_come_9 (fun H locs hP hD hS => ?_)
  have hP : va_P (dC, dI) rg_cl (rm_W h a cI cL cod cnt (nI b) cof mad nu co se li le fi sc (upd ti b v) un ma dr fr to en) H := hP
  have hD : va_D A (rm_W h a cI cL cod cnt (nI b) cof mad nu co se li le fi sc (upd ti b v) un ma dr fr to en) := hD
  refine lv_aload_n hx hb dM_come_10 rfl (lv_at hl 0 rfl) ?_
  refine va_get (D := (dC, dI)) (ci := 0) (C := "RevisionGroveModel") (T := TM) (N := 19) hx hb hts inM hown hK hP 0 rfl rfl 12 (by decide) (hts _ tw_613) (fun _ h9 => h9) rfl dM_come_11 ?_
  refine lv_aload_n hx hb dM_come_14 rfl (lv_at hl 0 rfl) ?_
  refine va_get (D := (dC, dI)) (ci := 0) (C := "RevisionGroveModel") (T := TM) (N := 19) hx hb hts inM hown hK hP 0 rfl rfl 9 (by decide) (hts _ tw_610) (fun _ h9 => h9) rfl dM_come_15 ?_
  refine lv_iconst (v := nI 0) hx hb dM_come_18 (by decide) ?_
  refine rg_iast hx hb hK hP hD hS 10 0 rfl rfl (by decide) (by omega) dM_come_19 (fun H locs hP hD hS => ?_)
  have hP : va_P (dC, dI) rg_cl (rm_W h a cI cL cod cnt (nI b) cof mad nu co se li le fi sc (upd ti b v) un (upd ma b (nI 0)) dr fr to en) H := hP
  have hD : va_D A (rm_W h a cI cL cod cnt (nI b) cof mad nu co se li le fi sc (upd ti b v) un (upd ma b (nI 0)) dr fr to en) := hD
  rw [hQ]
  exact rg_vret hx hb hr hlk hK hP hD hS dM_come_20 () rfl (by first | rfl | trivial)
set_option maxHeartbeats 4000000 in
set_option maxRecDepth 100000 in
theorem c_rm_at {l : Launch} {dC : Nat → ClassId} {dI : Nat → Nat → Nat} {h : Nat} {a : Nat → Nat} {cI cL : ClassId} {cod : Int32} {cnt : Int32} {bra : Int32} {cof : Int32} {mad : Int32} {nu : Nat → Int32} {co : Nat → Int64} {se : Nat → Int32} {li : Nat → Int32} {le : Nat → Int32} {fi : Nat → Int32} {sc : Nat → Int32} {ti : Nat → Int32} {un : Nat → Int32} {ma : Nat → Int32} {dr : Nat → Int32} {fr : Nat → Int32} {to : Nat → Int32} {en : Nat → Int32} (r f k : Nat) (hi : 16 * r + 8 * f + k < 976) : rg_M l yM_at (Cond.code yM_at prog_8_method_26_code 4 (some .int) :: rg_tbl) { frames := 0, cells := 0, slots := 0, locals := 0 } (dC, dI) rg_cl [(cI, .int), (cL, .long)] (rm_W h a cI cL cod cnt bra cof mad nu co se li le fi sc ti un ma dr fr to en) [.ref h, .int (nI r), .int (nI f), .int (nI k)] (rg_QI (dC, dI) rg_cl [(cI, .int), (cL, .long)] (S := Unit) (fun x _ => x = li (16 * r + 8 * f + k)) (fun _ => rm_W h a cI cL cod cnt bra cof mad nu co se li le fi sc ti un ma dr fr to en)) 0 0 := by
  refine rg_of prog_8_method_26_code 4 (some .int) (by decide) rfl (Nat.le_of_ble_eq_true rfl) ?_
  intro p e R s m args below meth c Q A H locs ls hR hQ hx hb hml hr hts hown hlk hnm hP hK hD hA hS hl
  have hl : lv_has ls 4 [(0, .ref h), (1, .int (nI r)), (2, .int (nI f)), (3, .int (nI k))] := hl
  have hts : ∀ w ∈ rg_tbl, w.before args s = true := fun w h => hts w (List.mem_cons_of_mem _ h)
  refine lv_aload_n hx hb dM_at_0 rfl (lv_at hl 0 rfl) ?_
  refine va_get (D := (dC, dI)) (ci := 0) (C := "RevisionGroveModel") (T := TM) (N := 19) hx hb hts inM hown hK hP 0 rfl rfl 5 (by decide) (hts _ tw_606) (fun _ h9 => h9) rfl dM_at_1 ?_
  refine lv_bipush (v := nI 16) hx hb dM_at_4 (by decide) ?_
  refine lv_iload_n hx hb dM_at_6 rfl (lv_at hl 1 rfl) ?_
  refine rg_imul hx hb dM_at_7 ?_
  refine lv_bipush (v := nI 8) hx hb dM_at_8 (by decide) ?_
  refine lv_iload_n hx hb dM_at_10 rfl (lv_at hl 2 rfl) ?_
  refine rg_imul hx hb dM_at_11 ?_
  refine rg_iadd hx hb dM_at_12 ?_
  refine lv_iload_n hx hb dM_at_13 rfl (lv_at hl 3 rfl) ?_
  refine rg_iadd hx hb dM_at_14 ?_
  refine rg_iald hx hb hK hP 4 0 rfl rfl (by decide) (by omega) dM_at_15 ?_
  rw [hQ]
  exact rg_iret hx hb hr hlk hK hP hD hS dM_at_16 () rfl (by first | rfl | trivial)
set_option maxHeartbeats 4000000 in
set_option maxRecDepth 100000 in
theorem c_rm_finish {l : Launch} {dC : Nat → ClassId} {dI : Nat → Nat → Nat} {h : Nat} {a : Nat → Nat} {cI cL : ClassId} {cod : Int32} {cof : Int32} {mad : Int32} {nu : Nat → Int32} {co : Nat → Int64} {se : Nat → Int32} {li : Nat → Int32} {le : Nat → Int32} {fi : Nat → Int32} {sc : Nat → Int32} {ti : Nat → Int32} {un : Nat → Int32} {ma : Nat → Int32} {dr : Nat → Int32} {fr : Nat → Int32} {to : Nat → Int32} {en : Nat → Int32} (b n : Nat) (hb4 : b < 4) (hn : n < 61) (v w : Int32) : rg_M l yM_finish (Cond.code yM_finish prog_8_method_8_code 3 (some .int) :: rg_tbl) { frames := 1, cells := 0, slots := 0, locals := 21 } (dC, dI) rg_cl [(cI, .int), (cL, .long)] (rm_W h a cI cL cod (nI n) (nI b) cof mad nu co se li le fi sc ti un ma dr fr to en) [.ref h, .int v, .int w] (rg_QI (dC, dI) rg_cl [(cI, .int), (cL, .long)] (S := Unit) (fun r _ => r = nI n) (fun _ => rm_W h a cI cL cod (nI (n + 1)) (nI b) cof mad nu co se li le (upd fi n v) (upd sc n w) (upd ti b (nI n)) un (upd ma b (nI 0)) dr fr to en)) 0 0 := by
  refine rg_of prog_8_method_8_code 3 (some .int) (by decide) rfl (Nat.le_of_ble_eq_true rfl) ?_
  intro p e R s m args below meth c Q A H locs ls hR hQ hx hb hml hr hts hown hlk hnm hP hK hD hA hS hl
  have hl : lv_has ls 3 [(0, .ref h), (1, .int v), (2, .int w)] := hl
  have hts : ∀ w ∈ rg_tbl, w.before args s = true := fun w h => hts w (List.mem_cons_of_mem _ h)
  refine lv_aload_n hx hb dM_finish_0 rfl (lv_at hl 0 rfl) ?_
  refine va_get (D := (dC, dI)) (ci := 0) (C := "RevisionGroveModel") (T := TM) (N := 19) hx hb hts inM hown hK hP 0 rfl rfl 7 (by decide) (hts _ tw_608) (fun _ h9 => h9) rfl dM_finish_1 ?_
  refine lv_aload_n hx hb dM_finish_4 rfl (lv_at hl 0 rfl) ?_
  refine va_get (D := (dC, dI)) (ci := 0) (C := "RevisionGroveModel") (T := TM) (N := 19) hx hb hts inM hown hK hP 0 rfl rfl 1 (by decide) (hts _ tw_602) (fun _ h9 => h9) rfl dM_finish_5 ?_
  refine lv_iload_n hx hb dM_finish_8 rfl (lv_at hl 1 rfl) ?_
  refine rg_iast hx hb hK hP hD hS 6 0 rfl rfl (by decide) (by omega) dM_finish_9 (fun H locs hP hD hS => ?_)
  have hP : va_P (dC, dI) rg_cl (rm_W h a cI cL cod (nI n) (nI b) cof mad nu co se li le (upd fi n v) sc ti un ma dr fr to en) H := hP
  have hD : va_D A (rm_W h a cI cL cod (nI n) (nI b) cof mad nu co se li le (upd fi n v) sc ti un ma dr fr to en) := hD
  refine lv_aload_n hx hb dM_finish_10 rfl (lv_at hl 0 rfl) ?_
  refine va_get (D := (dC, dI)) (ci := 0) (C := "RevisionGroveModel") (T := TM) (N := 19) hx hb hts inM hown hK hP 0 rfl rfl 8 (by decide) (hts _ tw_609) (fun _ h9 => h9) rfl dM_finish_11 ?_
  refine lv_aload_n hx hb dM_finish_14 rfl (lv_at hl 0 rfl) ?_
  refine va_get (D := (dC, dI)) (ci := 0) (C := "RevisionGroveModel") (T := TM) (N := 19) hx hb hts inM hown hK hP 0 rfl rfl 1 (by decide) (hts _ tw_602) (fun _ h9 => h9) rfl dM_finish_15 ?_
  refine lv_iload_n hx hb dM_finish_18 rfl (lv_at hl 2 rfl) ?_
  refine rg_iast hx hb hK hP hD hS 7 0 rfl rfl (by decide) (by omega) dM_finish_19 (fun H locs hP hD hS => ?_)
  have hP : va_P (dC, dI) rg_cl (rm_W h a cI cL cod (nI n) (nI b) cof mad nu co se li le (upd fi n v) (upd sc n w) ti un ma dr fr to en) H := hP
  have hD : va_D A (rm_W h a cI cL cod (nI n) (nI b) cof mad nu co se li le (upd fi n v) (upd sc n w) ti un ma dr fr to en) := hD
  refine lv_aload_n hx hb dM_finish_20 rfl (lv_at hl 0 rfl) ?_
  refine lv_dup hx hb dM_finish_21 rfl ?_
  refine va_get (D := (dC, dI)) (ci := 0) (C := "RevisionGroveModel") (T := TM) (N := 19) hx hb hts inM hown hK hP 0 rfl rfl 1 (by decide) (hts _ tw_602) (fun _ h9 => h9) rfl dM_finish_22 ?_
  refine lv_iconst (v := nI 1) hx hb dM_finish_25 (by decide) ?_
  refine rg_iadd hx hb dM_finish_26 ?_
  refine va_put (D := (dC, dI)) (ci := 0) (v := .int (nI (n + 1))) (ty := .int) (C := "RevisionGroveModel") (T := TM) (N := 19) hx hb hts inM tyM tyM_ok nmM hown hK hP hD hS 0 rfl rfl 1 (by decide) (hts _ tw_602) (fun _ h9 => h9) rfl (by decide +kernel) rfl rfl (Nat.le_of_ble_eq_true rfl) dM_finish_27 (fun H locs hP hD hS => ?_)
  have hP : va_P (dC, dI) rg_cl (rm_W h a cI cL cod (nI (n + 1)) (nI b) cof mad nu co se li le (upd fi n v) (upd sc n w) ti un ma dr fr to en) H := hP
  have hD : va_D A (rm_W h a cI cL cod (nI (n + 1)) (nI b) cof mad nu co se li le (upd fi n v) (upd sc n w) ti un ma dr fr to en) := hD
  refine lv_aload_n hx hb dM_finish_30 rfl (lv_at hl 0 rfl) ?_
  refine lv_aload_n hx hb dM_finish_31 rfl (lv_at hl 0 rfl) ?_
  refine va_get (D := (dC, dI)) (ci := 0) (C := "RevisionGroveModel") (T := TM) (N := 19) hx hb hts inM hown hK hP 0 rfl rfl 1 (by decide) (hts _ tw_602) (fun _ h9 => h9) rfl dM_finish_32 ?_
  refine lv_iconst (v := nI 1) hx hb dM_finish_35 (by decide) ?_
  refine rg_isub hx hb dM_finish_36 (by omega) ?_
  refine rg_callv hD hS hA (va_runV (As := [.int (nI (n + 1 - 1))]) (rest := []) ⟨hx, hb, hml, hown, hts⟩ (c_rm_come b (by omega) (nI (n + 1 - 1)) _) (cwV 1 hts (rg_gV tw_691 tw_693 ts_M_come tw_5 tw_694) rfl rfl rfl (by decide +kernel) ⟨by rw [hR]; exact Nat.le_of_ble_eq_true rfl, by rw [hR]; exact Nat.le_of_ble_eq_true rfl⟩) (rg_preV rfl hK hP hD (ci := 0) (q0 := 0) rfl rfl) rfl rfl hl.1 rfl (lv_room (Nat.le_of_ble_eq_true rfl)) dM_finish_37 ⟨Nat.zero_le _, Nat.zero_le _⟩) (fun u2 H locs hw3 hP hD hS => ?_)
  have hP : va_P (dC, dI) rg_cl (rm_W h a cI cL cod (nI (n + 1)) (nI b) cof mad nu co se li le (upd fi n v) (upd sc n w) (upd ti b (nI (n + 1 - 1))) un (upd ma b (nI 0)) dr fr to en) H := hP
  have hD : va_D A (rm_W h a cI cL cod (nI (n + 1)) (nI b) cof mad nu co se li le (upd fi n v) (upd sc n w) (upd ti b (nI (n + 1 - 1))) un (upd ma b (nI 0)) dr fr to en) := hD
  refine lv_aload_n hx hb dM_finish_40 rfl (lv_at hl 0 rfl) ?_
  refine va_get (D := (dC, dI)) (ci := 0) (C := "RevisionGroveModel") (T := TM) (N := 19) hx hb hts inM hown hK hP 0 rfl rfl 1 (by decide) (hts _ tw_602) (fun _ h9 => h9) rfl dM_finish_41 ?_
  refine lv_iconst (v := nI 1) hx hb dM_finish_44 (by decide) ?_
  refine rg_isub hx hb dM_finish_45 (by omega) ?_
  rw [hQ]
  exact rg_iret hx hb hr hlk hK hP hD hS dM_finish_46 () rfl (by first | rfl | trivial)
set_option maxHeartbeats 4000000 in
set_option maxRecDepth 100000 in
theorem c_rm_copy {l : Launch} {dC : Nat → ClassId} {dI : Nat → Nat → Nat} {h : Nat} {a : Nat → Nat} {cI cL : ClassId} {cod : Int32} {cnt : Int32} {bra : Int32} {cof : Int32} {mad : Int32} {nu : Nat → Int32} {co : Nat → Int64} {se : Nat → Int32} {li : Nat → Int32} {le : Nat → Int32} {fi : Nat → Int32} {sc : Nat → Int32} {ti : Nat → Int32} {un : Nat → Int32} {ma : Nat → Int32} {dr : Nat → Int32} {fr : Nat → Int32} {to : Nat → Int32} {en : Nat → Int32} (r t : Nat) (hr6 : r < 61) (ht6 : t < 61) : rg_M l yM_copy (Cond.code yM_copy prog_8_method_4_code 4 none :: rg_tbl) { frames := 0, cells := 0, slots := 0, locals := 0 } (dC, dI) rg_cl [(cI, .int), (cL, .long)] (rm_W h a cI cL cod cnt bra cof mad nu co se li le fi sc ti un ma dr fr to en) [.ref h, .int (nI r), .int (nI t)] (rg_QV (dC, dI) rg_cl [(cI, .int), (cL, .long)] (S := Unit) (fun _ => True) (fun _ => rm_W h a cI cL cod cnt bra cof mad (va_cpy nu nu (2 * r) (2 * t) 2) (va_cpy co co (2 * r) (2 * t) 2) (va_cpy se se (2 * r) (2 * t) 2) (va_cpy li li (16 * r) (16 * t) 16) (va_cpy le le (2 * r) (2 * t) 2) (upd fi t (fi r)) (upd sc t (sc r)) ti un ma dr fr to en)) 0 0 := by
  refine rg_of prog_8_method_4_code 4 none (by decide) rfl (Nat.le_of_ble_eq_true rfl) ?_
  intro p e R s m args below meth c Q A H locs ls hR hQ hx hb hml hr hts hown hlk hnm hP hK hD hA hS hl
  have hl : lv_has ls 4 [(0, .ref h), (1, .int (nI r)), (2, .int (nI t))] := hl
  have hts : ∀ w ∈ rg_tbl, w.before args s = true := fun w h => hts w (List.mem_cons_of_mem _ h)
  refine lv_iconst (v := nI 0) hx hb dM_copy_0 (by decide) ?_
  refine lv_istore_n (lv' := [(3, .int (nI 0)), (0, .ref h), (1, .int (nI r)), (2, .int (nI t))]) hx hb dM_copy_1 rfl hl (by decide) rfl (fun ls hl => ?_)
  have lp2 : ∀ (fuel : Nat) (f : Nat) (H : Heap) (locs : List Loc) (ls : Array Slot), 2 - f < fuel → f ≤ 2 → va_P (dC, dI) rg_cl (rm_W h a cI cL cod cnt bra cof mad (va_cpy nu nu (2 * r) (2 * t) f) (va_cpy co co (2 * r) (2 * t) f) (va_cpy se se (2 * r) (2 * t) f) li (va_cpy le le (2 * r) (2 * t) f) fi sc ti un ma dr fr to en) H → va_D A (rm_W h a cI cL cod cnt bra cof mad (va_cpy nu nu (2 * r) (2 * t) f) (va_cpy co co (2 * r) (2 * t) f) (va_cpy se se (2 * r) (2 * t) f) li (va_cpy le le (2 * r) (2 * t) f) fi sc ti un ma dr fr to en) → va_S A s.heap H locs → lv_has ls 4 [(0, .ref h), (1, .int (nI r)), (2, .int (nI t)), (3, .int (nI f))] → W p l e R s m args below meth c H locs 0 0 Q (F0 m 2 ls []) := by
    intro fuel
    induction fuel with
    | zero => intro f H locs ls hf; exact absurd hf (Nat.not_lt_zero _)
    | succ fuel ih2 =>
      intro f H locs ls hfu2 hf2 hP hD hS hl
      refine lv_iload_n hx hb dM_copy_2 rfl (lv_at hl 3 rfl) ?_
      refine lv_iconst (v := nI 2) hx hb dM_copy_3 (by decide) ?_
      refine rg_icmp_ge (tgt := 93) hx hb dM_copy_4 (by decide) (by omega) (by omega) (fun h1 => ?_) (fun h1 => ?_)
      · refine lv_iconst (v := nI 0) hx hb dM_copy_93 (by decide) ?_
        refine lv_istore_n (lv' := [(3, .int (nI 0)), (0, .ref h), (1, .int (nI r)), (2, .int (nI t))]) hx hb dM_copy_94 rfl hl (by decide) rfl (fun ls hl => ?_)
        have lp95 : ∀ (fuel : Nat) (k : Nat) (H : Heap) (locs : List Loc) (ls : Array Slot), 16 - k < fuel → k ≤ 16 → va_P (dC, dI) rg_cl (rm_W h a cI cL cod cnt bra cof mad (va_cpy nu nu (2 * r) (2 * t) 2) (va_cpy co co (2 * r) (2 * t) 2) (va_cpy se se (2 * r) (2 * t) 2) (va_cpy li li (16 * r) (16 * t) k) (va_cpy le le (2 * r) (2 * t) 2) fi sc ti un ma dr fr to en) H → va_D A (rm_W h a cI cL cod cnt bra cof mad (va_cpy nu nu (2 * r) (2 * t) 2) (va_cpy co co (2 * r) (2 * t) 2) (va_cpy se se (2 * r) (2 * t) 2) (va_cpy li li (16 * r) (16 * t) k) (va_cpy le le (2 * r) (2 * t) 2) fi sc ti un ma dr fr to en) → va_S A s.heap H locs → lv_has ls 4 [(0, .ref h), (1, .int (nI r)), (2, .int (nI t)), (3, .int (nI k))] → W p l e R s m args below meth c H locs 0 0 Q (F0 m 95 ls []) := by
          intro fuel
          induction fuel with
          | zero => intro k H locs ls hf; exact absurd hf (Nat.not_lt_zero _)
          | succ fuel ih95 =>
            intro k H locs ls hfu95 hk16 hP hD hS hl
            refine lv_iload_n hx hb dM_copy_95 rfl (lv_at hl 3 rfl) ?_
            refine lv_bipush (v := nI 16) hx hb dM_copy_96 (by decide) ?_
            refine rg_icmp_ge (tgt := 129) hx hb dM_copy_98 (by decide) (by omega) (by omega) (fun h2 => ?_) (fun h2 => ?_)
            · refine lv_aload_n hx hb dM_copy_129 rfl (lv_at hl 0 rfl) ?_
              refine va_get (D := (dC, dI)) (ci := 0) (C := "RevisionGroveModel") (T := TM) (N := 19) hx hb hts inM hown hK hP 0 rfl rfl 7 (by decide) (hts _ tw_608) (fun _ h9 => h9) rfl dM_copy_130 ?_
              refine lv_iload_n hx hb dM_copy_133 rfl (lv_at hl 2 rfl) ?_
              refine lv_aload_n hx hb dM_copy_134 rfl (lv_at hl 0 rfl) ?_
              refine va_get (D := (dC, dI)) (ci := 0) (C := "RevisionGroveModel") (T := TM) (N := 19) hx hb hts inM hown hK hP 0 rfl rfl 7 (by decide) (hts _ tw_608) (fun _ h9 => h9) rfl dM_copy_135 ?_
              refine lv_iload_n hx hb dM_copy_138 rfl (lv_at hl 1 rfl) ?_
              refine rg_iald hx hb hK hP 6 0 rfl rfl (by decide) (by omega) dM_copy_139 ?_
              refine rg_iast hx hb hK hP hD hS 6 0 rfl rfl (by decide) (by omega) dM_copy_140 (fun H locs hP hD hS => ?_)
              have hP : va_P (dC, dI) rg_cl (rm_W h a cI cL cod cnt bra cof mad (va_cpy nu nu (2 * r) (2 * t) 2) (va_cpy co co (2 * r) (2 * t) 2) (va_cpy se se (2 * r) (2 * t) 2) (va_cpy li li (16 * r) (16 * t) k) (va_cpy le le (2 * r) (2 * t) 2) (upd fi t (fi r)) sc ti un ma dr fr to en) H := hP
              have hD : va_D A (rm_W h a cI cL cod cnt bra cof mad (va_cpy nu nu (2 * r) (2 * t) 2) (va_cpy co co (2 * r) (2 * t) 2) (va_cpy se se (2 * r) (2 * t) 2) (va_cpy li li (16 * r) (16 * t) k) (va_cpy le le (2 * r) (2 * t) 2) (upd fi t (fi r)) sc ti un ma dr fr to en) := hD
              refine lv_aload_n hx hb dM_copy_141 rfl (lv_at hl 0 rfl) ?_
              refine va_get (D := (dC, dI)) (ci := 0) (C := "RevisionGroveModel") (T := TM) (N := 19) hx hb hts inM hown hK hP 0 rfl rfl 8 (by decide) (hts _ tw_609) (fun _ h9 => h9) rfl dM_copy_142 ?_
              refine lv_iload_n hx hb dM_copy_145 rfl (lv_at hl 2 rfl) ?_
              refine lv_aload_n hx hb dM_copy_146 rfl (lv_at hl 0 rfl) ?_
              refine va_get (D := (dC, dI)) (ci := 0) (C := "RevisionGroveModel") (T := TM) (N := 19) hx hb hts inM hown hK hP 0 rfl rfl 8 (by decide) (hts _ tw_609) (fun _ h9 => h9) rfl dM_copy_147 ?_
              refine lv_iload_n hx hb dM_copy_150 rfl (lv_at hl 1 rfl) ?_
              refine rg_iald hx hb hK hP 7 0 rfl rfl (by decide) (by omega) dM_copy_151 ?_
              refine rg_iast hx hb hK hP hD hS 7 0 rfl rfl (by decide) (by omega) dM_copy_152 (fun H locs hP hD hS => ?_)
              have hP : va_P (dC, dI) rg_cl (rm_W h a cI cL cod cnt bra cof mad (va_cpy nu nu (2 * r) (2 * t) 2) (va_cpy co co (2 * r) (2 * t) 2) (va_cpy se se (2 * r) (2 * t) 2) (va_cpy li li (16 * r) (16 * t) k) (va_cpy le le (2 * r) (2 * t) 2) (upd fi t (fi r)) (upd sc t (sc r)) ti un ma dr fr to en) H := hP
              have hD : va_D A (rm_W h a cI cL cod cnt bra cof mad (va_cpy nu nu (2 * r) (2 * t) 2) (va_cpy co co (2 * r) (2 * t) 2) (va_cpy se se (2 * r) (2 * t) 2) (va_cpy li li (16 * r) (16 * t) k) (va_cpy le le (2 * r) (2 * t) 2) (upd fi t (fi r)) (upd sc t (sc r)) ti un ma dr fr to en) := hD
              obtain rfl : k = 16 := by omega
              rw [hQ]
              exact rg_vret hx hb hr hlk hK hP hD hS dM_copy_153 () rfl trivial
            · refine lv_aload_n hx hb dM_copy_101 rfl (lv_at hl 0 rfl) ?_
              refine va_get (D := (dC, dI)) (ci := 0) (C := "RevisionGroveModel") (T := TM) (N := 19) hx hb hts inM hown hK hP 0 rfl rfl 5 (by decide) (hts _ tw_606) (fun _ h9 => h9) rfl dM_copy_102 ?_
              refine lv_bipush (v := nI 16) hx hb dM_copy_105 (by decide) ?_
              refine lv_iload_n hx hb dM_copy_107 rfl (lv_at hl 2 rfl) ?_
              refine rg_imul hx hb dM_copy_108 ?_
              refine lv_iload_n hx hb dM_copy_109 rfl (lv_at hl 3 rfl) ?_
              refine rg_iadd hx hb dM_copy_110 ?_
              refine lv_aload_n hx hb dM_copy_111 rfl (lv_at hl 0 rfl) ?_
              refine va_get (D := (dC, dI)) (ci := 0) (C := "RevisionGroveModel") (T := TM) (N := 19) hx hb hts inM hown hK hP 0 rfl rfl 5 (by decide) (hts _ tw_606) (fun _ h9 => h9) rfl dM_copy_112 ?_
              refine lv_bipush (v := nI 16) hx hb dM_copy_115 (by decide) ?_
              refine lv_iload_n hx hb dM_copy_117 rfl (lv_at hl 1 rfl) ?_
              refine rg_imul hx hb dM_copy_118 ?_
              refine lv_iload_n hx hb dM_copy_119 rfl (lv_at hl 3 rfl) ?_
              refine rg_iadd hx hb dM_copy_120 ?_
              refine rg_iald hx hb hK hP 4 0 rfl rfl (by decide) (by omega) dM_copy_121 ?_
              refine rg_iast hx hb hK hP hD hS 4 0 rfl rfl (by decide) (by omega) dM_copy_122 (fun H locs hP hD hS => ?_)
              have hP : va_P (dC, dI) rg_cl (rm_W h a cI cL cod cnt bra cof mad (va_cpy nu nu (2 * r) (2 * t) 2) (va_cpy co co (2 * r) (2 * t) 2) (va_cpy se se (2 * r) (2 * t) 2) (upd (va_cpy li li (16 * r) (16 * t) k) (16 * t + k) ((va_cpy li li (16 * r) (16 * t) k) (16 * r + k))) (va_cpy le le (2 * r) (2 * t) 2) fi sc ti un ma dr fr to en) H := hP
              have hD : va_D A (rm_W h a cI cL cod cnt bra cof mad (va_cpy nu nu (2 * r) (2 * t) 2) (va_cpy co co (2 * r) (2 * t) 2) (va_cpy se se (2 * r) (2 * t) 2) (upd (va_cpy li li (16 * r) (16 * t) k) (16 * t + k) ((va_cpy li li (16 * r) (16 * t) k) (16 * r + k))) (va_cpy le le (2 * r) (2 * t) 2) fi sc ti un ma dr fr to en) := hD
              refine lv_iinc (k := 3) (v := nI (k + 1)) (lv' := [(3, .int (nI (k + 1))), (0, .ref h), (1, .int (nI r)), (2, .int (nI t))]) hx hb dM_copy_123 hl rfl (nI_1 _) (by decide) rfl (fun ls hl => ?_)
              refine lv_goto (tgt := 95) hx hb dM_copy_126 (by decide) ?_
              exact ih95 (k + 1) _ _ _ (by omega) (by omega) (by rw [← rg_cpyI li (16 * r) (16 * t) k (by omega)]; exact hP) (by rw [← rg_cpyI li (16 * r) (16 * t) k (by omega)]; exact hD) hS (lv_sub hl [1, 2, 3, 0] rfl)
        exact lp95 _ 0 _ _ _ (Nat.lt_succ_self _) (by omega) (by obtain rfl : f = 2 := (by omega); rw [rg_cpy0 li]; exact hP) (by obtain rfl : f = 2 := (by omega); rw [rg_cpy0 li]; exact hD) hS (lv_sub hl [1, 2, 3, 0] rfl)
      · refine lv_aload_n hx hb dM_copy_7 rfl (lv_at hl 0 rfl) ?_
        refine va_get (D := (dC, dI)) (ci := 0) (C := "RevisionGroveModel") (T := TM) (N := 19) hx hb hts inM hown hK hP 0 rfl rfl 2 (by decide) (hts _ tw_603) (fun _ h9 => h9) rfl dM_copy_8 ?_
        refine lv_iconst (v := nI 2) hx hb dM_copy_11 (by decide) ?_
        refine lv_iload_n hx hb dM_copy_12 rfl (lv_at hl 2 rfl) ?_
        refine rg_imul hx hb dM_copy_13 ?_
        refine lv_iload_n hx hb dM_copy_14 rfl (lv_at hl 3 rfl) ?_
        refine rg_iadd hx hb dM_copy_15 ?_
        refine lv_aload_n hx hb dM_copy_16 rfl (lv_at hl 0 rfl) ?_
        refine va_get (D := (dC, dI)) (ci := 0) (C := "RevisionGroveModel") (T := TM) (N := 19) hx hb hts inM hown hK hP 0 rfl rfl 2 (by decide) (hts _ tw_603) (fun _ h9 => h9) rfl dM_copy_17 ?_
        refine lv_iconst (v := nI 2) hx hb dM_copy_20 (by decide) ?_
        refine lv_iload_n hx hb dM_copy_21 rfl (lv_at hl 1 rfl) ?_
        refine rg_imul hx hb dM_copy_22 ?_
        refine lv_iload_n hx hb dM_copy_23 rfl (lv_at hl 3 rfl) ?_
        refine rg_iadd hx hb dM_copy_24 ?_
        refine rg_iald hx hb hK hP 1 0 rfl rfl (by decide) (by omega) dM_copy_25 ?_
        refine rg_iast hx hb hK hP hD hS 1 0 rfl rfl (by decide) (by omega) dM_copy_26 (fun H locs hP hD hS => ?_)
        have hP : va_P (dC, dI) rg_cl (rm_W h a cI cL cod cnt bra cof mad (upd (va_cpy nu nu (2 * r) (2 * t) f) (2 * t + f) ((va_cpy nu nu (2 * r) (2 * t) f) (2 * r + f))) (va_cpy co co (2 * r) (2 * t) f) (va_cpy se se (2 * r) (2 * t) f) li (va_cpy le le (2 * r) (2 * t) f) fi sc ti un ma dr fr to en) H := hP
        have hD : va_D A (rm_W h a cI cL cod cnt bra cof mad (upd (va_cpy nu nu (2 * r) (2 * t) f) (2 * t + f) ((va_cpy nu nu (2 * r) (2 * t) f) (2 * r + f))) (va_cpy co co (2 * r) (2 * t) f) (va_cpy se se (2 * r) (2 * t) f) li (va_cpy le le (2 * r) (2 * t) f) fi sc ti un ma dr fr to en) := hD
        refine lv_aload_n hx hb dM_copy_27 rfl (lv_at hl 0 rfl) ?_
        refine va_get (D := (dC, dI)) (ci := 0) (C := "RevisionGroveModel") (T := TM) (N := 19) hx hb hts inM hown hK hP 0 rfl rfl 3 (by decide) (hts _ tw_604) (fun _ h9 => h9) rfl dM_copy_28 ?_
        refine lv_iconst (v := nI 2) hx hb dM_copy_31 (by decide) ?_
        refine lv_iload_n hx hb dM_copy_32 rfl (lv_at hl 2 rfl) ?_
        refine rg_imul hx hb dM_copy_33 ?_
        refine lv_iload_n hx hb dM_copy_34 rfl (lv_at hl 3 rfl) ?_
        refine rg_iadd hx hb dM_copy_35 ?_
        refine lv_aload_n hx hb dM_copy_36 rfl (lv_at hl 0 rfl) ?_
        refine va_get (D := (dC, dI)) (ci := 0) (C := "RevisionGroveModel") (T := TM) (N := 19) hx hb hts inM hown hK hP 0 rfl rfl 3 (by decide) (hts _ tw_604) (fun _ h9 => h9) rfl dM_copy_37 ?_
        refine lv_iconst (v := nI 2) hx hb dM_copy_40 (by decide) ?_
        refine lv_iload_n hx hb dM_copy_41 rfl (lv_at hl 1 rfl) ?_
        refine rg_imul hx hb dM_copy_42 ?_
        refine lv_iload_n hx hb dM_copy_43 rfl (lv_at hl 3 rfl) ?_
        refine rg_iadd hx hb dM_copy_44 ?_
        refine rg_lald hx hb hK hP 2 1 rfl rfl (by decide) (by omega) dM_copy_45 ?_
        refine rg_last hx hb hK hP hD hS 2 1 rfl rfl (by decide) (by omega) dM_copy_46 (fun H locs hP hD hS => ?_)
        have hP : va_P (dC, dI) rg_cl (rm_W h a cI cL cod cnt bra cof mad (upd (va_cpy nu nu (2 * r) (2 * t) f) (2 * t + f) ((va_cpy nu nu (2 * r) (2 * t) f) (2 * r + f))) (vp_updL (va_cpy co co (2 * r) (2 * t) f) (2 * t + f) ((va_cpy co co (2 * r) (2 * t) f) (2 * r + f))) (va_cpy se se (2 * r) (2 * t) f) li (va_cpy le le (2 * r) (2 * t) f) fi sc ti un ma dr fr to en) H := hP
        have hD : va_D A (rm_W h a cI cL cod cnt bra cof mad (upd (va_cpy nu nu (2 * r) (2 * t) f) (2 * t + f) ((va_cpy nu nu (2 * r) (2 * t) f) (2 * r + f))) (vp_updL (va_cpy co co (2 * r) (2 * t) f) (2 * t + f) ((va_cpy co co (2 * r) (2 * t) f) (2 * r + f))) (va_cpy se se (2 * r) (2 * t) f) li (va_cpy le le (2 * r) (2 * t) f) fi sc ti un ma dr fr to en) := hD
        refine lv_aload_n hx hb dM_copy_47 rfl (lv_at hl 0 rfl) ?_
        refine va_get (D := (dC, dI)) (ci := 0) (C := "RevisionGroveModel") (T := TM) (N := 19) hx hb hts inM hown hK hP 0 rfl rfl 4 (by decide) (hts _ tw_605) (fun _ h9 => h9) rfl dM_copy_48 ?_
        refine lv_iconst (v := nI 2) hx hb dM_copy_51 (by decide) ?_
        refine lv_iload_n hx hb dM_copy_52 rfl (lv_at hl 2 rfl) ?_
        refine rg_imul hx hb dM_copy_53 ?_
        refine lv_iload_n hx hb dM_copy_54 rfl (lv_at hl 3 rfl) ?_
        refine rg_iadd hx hb dM_copy_55 ?_
        refine lv_aload_n hx hb dM_copy_56 rfl (lv_at hl 0 rfl) ?_
        refine va_get (D := (dC, dI)) (ci := 0) (C := "RevisionGroveModel") (T := TM) (N := 19) hx hb hts inM hown hK hP 0 rfl rfl 4 (by decide) (hts _ tw_605) (fun _ h9 => h9) rfl dM_copy_57 ?_
        refine lv_iconst (v := nI 2) hx hb dM_copy_60 (by decide) ?_
        refine lv_iload_n hx hb dM_copy_61 rfl (lv_at hl 1 rfl) ?_
        refine rg_imul hx hb dM_copy_62 ?_
        refine lv_iload_n hx hb dM_copy_63 rfl (lv_at hl 3 rfl) ?_
        refine rg_iadd hx hb dM_copy_64 ?_
        refine rg_iald hx hb hK hP 3 0 rfl rfl (by decide) (by omega) dM_copy_65 ?_
        refine rg_iast hx hb hK hP hD hS 3 0 rfl rfl (by decide) (by omega) dM_copy_66 (fun H locs hP hD hS => ?_)
        have hP : va_P (dC, dI) rg_cl (rm_W h a cI cL cod cnt bra cof mad (upd (va_cpy nu nu (2 * r) (2 * t) f) (2 * t + f) ((va_cpy nu nu (2 * r) (2 * t) f) (2 * r + f))) (vp_updL (va_cpy co co (2 * r) (2 * t) f) (2 * t + f) ((va_cpy co co (2 * r) (2 * t) f) (2 * r + f))) (upd (va_cpy se se (2 * r) (2 * t) f) (2 * t + f) ((va_cpy se se (2 * r) (2 * t) f) (2 * r + f))) li (va_cpy le le (2 * r) (2 * t) f) fi sc ti un ma dr fr to en) H := hP
        have hD : va_D A (rm_W h a cI cL cod cnt bra cof mad (upd (va_cpy nu nu (2 * r) (2 * t) f) (2 * t + f) ((va_cpy nu nu (2 * r) (2 * t) f) (2 * r + f))) (vp_updL (va_cpy co co (2 * r) (2 * t) f) (2 * t + f) ((va_cpy co co (2 * r) (2 * t) f) (2 * r + f))) (upd (va_cpy se se (2 * r) (2 * t) f) (2 * t + f) ((va_cpy se se (2 * r) (2 * t) f) (2 * r + f))) li (va_cpy le le (2 * r) (2 * t) f) fi sc ti un ma dr fr to en) := hD
        refine lv_aload_n hx hb dM_copy_67 rfl (lv_at hl 0 rfl) ?_
        refine va_get (D := (dC, dI)) (ci := 0) (C := "RevisionGroveModel") (T := TM) (N := 19) hx hb hts inM hown hK hP 0 rfl rfl 6 (by decide) (hts _ tw_607) (fun _ h9 => h9) rfl dM_copy_68 ?_
        refine lv_iconst (v := nI 2) hx hb dM_copy_71 (by decide) ?_
        refine lv_iload_n hx hb dM_copy_72 rfl (lv_at hl 2 rfl) ?_
        refine rg_imul hx hb dM_copy_73 ?_
        refine lv_iload_n hx hb dM_copy_74 rfl (lv_at hl 3 rfl) ?_
        refine rg_iadd hx hb dM_copy_75 ?_
        refine lv_aload_n hx hb dM_copy_76 rfl (lv_at hl 0 rfl) ?_
        refine va_get (D := (dC, dI)) (ci := 0) (C := "RevisionGroveModel") (T := TM) (N := 19) hx hb hts inM hown hK hP 0 rfl rfl 6 (by decide) (hts _ tw_607) (fun _ h9 => h9) rfl dM_copy_77 ?_
        refine lv_iconst (v := nI 2) hx hb dM_copy_80 (by decide) ?_
        refine lv_iload_n hx hb dM_copy_81 rfl (lv_at hl 1 rfl) ?_
        refine rg_imul hx hb dM_copy_82 ?_
        refine lv_iload_n hx hb dM_copy_83 rfl (lv_at hl 3 rfl) ?_
        refine rg_iadd hx hb dM_copy_84 ?_
        refine rg_iald hx hb hK hP 5 0 rfl rfl (by decide) (by omega) dM_copy_85 ?_
        refine rg_iast hx hb hK hP hD hS 5 0 rfl rfl (by decide) (by omega) dM_copy_86 (fun H locs hP hD hS => ?_)
        have hP : va_P (dC, dI) rg_cl (rm_W h a cI cL cod cnt bra cof mad (upd (va_cpy nu nu (2 * r) (2 * t) f) (2 * t + f) ((va_cpy nu nu (2 * r) (2 * t) f) (2 * r + f))) (vp_updL (va_cpy co co (2 * r) (2 * t) f) (2 * t + f) ((va_cpy co co (2 * r) (2 * t) f) (2 * r + f))) (upd (va_cpy se se (2 * r) (2 * t) f) (2 * t + f) ((va_cpy se se (2 * r) (2 * t) f) (2 * r + f))) li (upd (va_cpy le le (2 * r) (2 * t) f) (2 * t + f) ((va_cpy le le (2 * r) (2 * t) f) (2 * r + f))) fi sc ti un ma dr fr to en) H := hP
        have hD : va_D A (rm_W h a cI cL cod cnt bra cof mad (upd (va_cpy nu nu (2 * r) (2 * t) f) (2 * t + f) ((va_cpy nu nu (2 * r) (2 * t) f) (2 * r + f))) (vp_updL (va_cpy co co (2 * r) (2 * t) f) (2 * t + f) ((va_cpy co co (2 * r) (2 * t) f) (2 * r + f))) (upd (va_cpy se se (2 * r) (2 * t) f) (2 * t + f) ((va_cpy se se (2 * r) (2 * t) f) (2 * r + f))) li (upd (va_cpy le le (2 * r) (2 * t) f) (2 * t + f) ((va_cpy le le (2 * r) (2 * t) f) (2 * r + f))) fi sc ti un ma dr fr to en) := hD
        refine lv_iinc (k := 3) (v := nI (f + 1)) (lv' := [(3, .int (nI (f + 1))), (0, .ref h), (1, .int (nI r)), (2, .int (nI t))]) hx hb dM_copy_87 hl rfl (nI_1 _) (by decide) rfl (fun ls hl => ?_)
        refine lv_goto (tgt := 2) hx hb dM_copy_90 (by decide) ?_
        exact ih2 (f + 1) _ _ _ (by omega) (by omega) (by rw [← rg_cpyI nu (2 * r) (2 * t) f (by omega), ← rg_cpyL co (2 * r) (2 * t) f (by omega), ← rg_cpyI se (2 * r) (2 * t) f (by omega), ← rg_cpyI le (2 * r) (2 * t) f (by omega)]; exact hP) (by rw [← rg_cpyI nu (2 * r) (2 * t) f (by omega), ← rg_cpyL co (2 * r) (2 * t) f (by omega), ← rg_cpyI se (2 * r) (2 * t) f (by omega), ← rg_cpyI le (2 * r) (2 * t) f (by omega)]; exact hD) hS (lv_sub hl [1, 2, 3, 0] rfl)
  exact lp2 _ 0 _ _ _ (Nat.lt_succ_self _) (by omega) (by rw [rg_cpy0 nu, rg_cpy0 co, rg_cpy0 se, rg_cpy0 le]; exact hP) (by rw [rg_cpy0 nu, rg_cpy0 co, rg_cpy0 se, rg_cpy0 le]; exact hD) hS (lv_sub hl [1, 2, 3, 0] rfl)
