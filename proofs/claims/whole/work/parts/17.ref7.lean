set_option maxHeartbeats 4000000 in
set_option maxRecDepth 100000 in
theorem c_rm_point_ok {l : Launch} {dC : Nat → ClassId} {dI : Nat → Nat → Nat} {h : Nat} {a : Nat → Nat} {cI cL : ClassId} {cod : Int32} {cof : Int32} {mad : Int32} {nu : Nat → Int32} {co : Nat → Int64} {se : Nat → Int32} {li : Nat → Int32} {le : Nat → Int32} {fi : Nat → Int32} {sc : Nat → Int32} {ti : Nat → Int32} {un : Nat → Int32} {ma : Nat → Int32} {dr : Nat → Int32} {fr : Nat → Int32} {to : Nat → Int32} {en : Nat → Int32} (n b : Nat) (Rr : Nat → rg_R) (P1 P2 : Nat → Int32) (T : Nat → Nat) (U : Nat → List Nat) (j : Nat) (hj4 : j < 4) (hrep : rm_Rep (nI n) (nI b) cof nu co se li le fi sc ti un ma (n, Rr, P1, P2, T, U, b, cof)) : rg_M l yM_point (Cond.code yM_point prog_8_method_17_code 2 none :: rg_tbl) { frames := 1, cells := 0, slots := 0, locals := 20 } (dC, dI) rg_cl [(cI, .int), (cL, .long)] (rm_W h a cI cL cod (nI n) (nI b) cof mad nu co se li le fi sc ti un ma dr fr to en) [.ref h, .int (nI j)] (rg_QV (dC, dI) rg_cl [(cI, .int), (cL, .long)] (S := rm_S) (rm_Pv (0, 0, rg_point (n, Rr, P1, P2, T, U, b, cof) j)) (fun u => rm_Wu h a cI cL u)) 0 0 := by
  refine rg_of prog_8_method_17_code 2 none (by decide) rfl (Nat.le_of_ble_eq_true rfl) ?_
  intro p e R s m args below meth c Q A H locs ls hR hQ hx hb hml hr hts hown hlk hnm hP hK hD hA hS hl
  have hl : lv_has ls 2 [(0, .ref h), (1, .int (nI j))] := hl
  have hts : ∀ w ∈ rg_tbl, w.before args s = true := fun w h => hts w (List.mem_cons_of_mem _ h)
  have hok := hrep.1
  have hn1 : 1 ≤ n := hok.1
  have hn60 : n ≤ 60 := hok.2.1
  have hb4 : b < 4 := hok.2.2.2.2.2.2.2.1
  have hTb : T b < n := (hok.2.2.2.2.2.2.1 b hb4).1
  have hti : ti b = nI (T b) := (hrep.2.2.2.2.2.2 b hb4).1
  have hma : ma b = nI (U b).length := (hrep.2.2.2.2.2.2 b hb4).2.1
  have hB := rg_isB_ok hj4
  refine lv_aload_n hx hb dM_point_0 rfl (lv_at hl 0 rfl) ?_
  refine lv_iload_n hx hb dM_point_1 rfl (lv_at hl 1 rfl) ?_
  refine rg_calli hD hS hA (va_runS (As := [.int (nI j)]) (rest := [.ref h]) ⟨hx, hb, hml, hown, hts⟩ (c_rm_isBranch (nI j) _) (cwS 1 hts (rg_gS tw_715 tw_716 tw_5 tw_717) rfl rfl rfl (by decide +kernel) ⟨by rw [hR]; exact Nat.le_of_ble_eq_true rfl, by rw [hR]; exact Nat.le_of_ble_eq_true rfl⟩) (rg_preS rfl hK hP hD) rfl rfl hl.1 rfl (lv_room (Nat.le_of_ble_eq_true rfl)) dM_point_2 ⟨Nat.zero_le _, Nat.zero_le _⟩) (fun r1 u2 H locs hw3 hP hD hS => ?_)
  subst hw3
  have hP : va_P (dC, dI) rg_cl (rm_W h a cI cL cod (nI n) (nI b) cof mad nu co se li le fi sc ti un ma dr fr to en) H := hP
  have hD : va_D A (rm_W h a cI cL cod (nI n) (nI b) cof mad nu co se li le fi sc ti un ma dr fr to en) := hD
  refine rg_ifz_eq (tgt := 12) hx hb dM_point_5 (by decide) (fun h4 => absurd (hB.symm.trans h4) (by decide)) (fun h4 => ?_)
  refine lv_iconst (v := nI 0) hx hb dM_point_8 (by decide) ?_
  refine lv_goto (tgt := 13) hx hb dM_point_9 (by decide) ?_
  refine va_put (D := (dC, dI)) (ci := 0) (v := .int (nI 0)) (ty := .int) (C := "RevisionGroveModel") (T := TM) (N := 19) hx hb hts inM tyM tyM_ok nmM hown hK hP hD hS 0 rfl rfl 0 (by decide) (hts _ tw_601) (fun _ h9 => h9) rfl (by decide +kernel) rfl rfl (Nat.le_of_ble_eq_true rfl) dM_point_13 (fun H locs hP hD hS => ?_)
  have hP : va_P (dC, dI) rg_cl (rm_W h a cI cL (nI 0) (nI n) (nI b) cof mad nu co se li le fi sc ti un ma dr fr to en) H := hP
  have hD : va_D A (rm_W h a cI cL (nI 0) (nI n) (nI b) cof mad nu co se li le fi sc ti un ma dr fr to en) := hD
  refine lv_aload_n hx hb dM_point_16 rfl (lv_at hl 0 rfl) ?_
  refine va_get (D := (dC, dI)) (ci := 0) (C := "RevisionGroveModel") (T := TM) (N := 19) hx hb hts inM hown hK hP 0 rfl rfl 0 (by decide) (hts _ tw_601) (fun _ h9 => h9) rfl dM_point_17 ?_
  refine rg_ifN_le (tgt := 24) hx hb dM_point_20 (by decide) (by decide) (fun h5 => ?_) (fun h5 => by exfalso; omega)
  refine lv_aload_n hx hb dM_point_24 rfl (lv_at hl 0 rfl) ?_
  refine va_get (D := (dC, dI)) (ci := 0) (C := "RevisionGroveModel") (T := TM) (N := 19) hx hb hts inM hown hK hP 0 rfl rfl 10 (by decide) (hts _ tw_611) (fun _ h9 => h9) rfl dM_point_25 ?_
  refine lv_iload_n hx hb dM_point_28 rfl (lv_at hl 1 rfl) ?_
  refine lv_aload_n hx hb dM_point_29 rfl (lv_at hl 0 rfl) ?_
  refine rg_calli hD hS hA (va_runV (As := []) (rest := [.int (nI j), .ref ((a 8))]) ⟨hx, hb, hml, hown, hts⟩ (c_rm_here b (by omega) _) (cwV 0 hts (rg_gV tw_667 tw_669 ts_M_here tw_5 tw_670) rfl rfl rfl (by decide +kernel) ⟨by rw [hR]; exact Nat.le_of_ble_eq_true rfl, by rw [hR]; exact Nat.le_of_ble_eq_true rfl⟩) (rg_preV rfl hK hP hD (ci := 0) (q0 := 0) rfl rfl) rfl rfl hl.1 rfl (lv_room (Nat.le_of_ble_eq_true rfl)) dM_point_30 ⟨Nat.zero_le _, Nat.zero_le _⟩) (fun r6 u7 H locs hw8 hP hD hS => ?_)
  subst hw8
  have hP : va_P (dC, dI) rg_cl (rm_W h a cI cL (nI 0) (nI n) (nI b) cof mad nu co se li le fi sc ti un ma dr fr to en) H := hP
  have hD : va_D A (rm_W h a cI cL (nI 0) (nI n) (nI b) cof mad nu co se li le fi sc ti un ma dr fr to en) := hD
  refine rg_top (show (.int (ti b) : Value) = .int (nI (T b)) by rw [hti]) ?_
  refine rg_iast hx hb hK hP hD hS 8 0 rfl rfl (by decide) (by omega) dM_point_33 (fun H locs hP hD hS => ?_)
  have hP : va_P (dC, dI) rg_cl (rm_W h a cI cL (nI 0) (nI n) (nI b) cof mad nu co se li le fi sc (upd ti j (nI (T b))) un ma dr fr to en) H := hP
  have hD : va_D A (rm_W h a cI cL (nI 0) (nI n) (nI b) cof mad nu co se li le fi sc (upd ti j (nI (T b))) un ma dr fr to en) := hD
  refine lv_aload_n hx hb dM_point_34 rfl (lv_at hl 0 rfl) ?_
  refine va_get (D := (dC, dI)) (ci := 0) (C := "RevisionGroveModel") (T := TM) (N := 19) hx hb hts inM hown hK hP 0 rfl rfl 12 (by decide) (hts _ tw_613) (fun _ h9 => h9) rfl dM_point_35 ?_
  refine lv_iload_n hx hb dM_point_38 rfl (lv_at hl 1 rfl) ?_
  refine lv_iload_n hx hb dM_point_39 rfl (lv_at hl 1 rfl) ?_
  refine lv_aload_n hx hb dM_point_40 rfl (lv_at hl 0 rfl) ?_
  refine va_get (D := (dC, dI)) (ci := 0) (C := "RevisionGroveModel") (T := TM) (N := 19) hx hb hts inM hown hK hP 0 rfl rfl 9 (by decide) (hts _ tw_610) (fun _ h9 => h9) rfl dM_point_41 ?_
  have J44 : ∀ v9 : Int32, v9 = (if j = b then ma j else nI 0) → W p l e R s m args below meth c H locs 0 0 Q (F0 m 57 ls [.int v9, .int (nI j), .ref ((a 10))]) := by
    intro v9 hv9
    subst hv9
    refine rg_iast hx hb hK hP hD hS 10 0 rfl rfl (by decide) (by omega) dM_point_57 (fun H locs hP hD hS => ?_)
    have hP : va_P (dC, dI) rg_cl (rm_W h a cI cL (nI 0) (nI n) (nI b) cof mad nu co se li le fi sc (upd ti j (nI (T b))) un (upd ma j (if j = b then ma j else nI 0)) dr fr to en) H := hP
    have hD : va_D A (rm_W h a cI cL (nI 0) (nI n) (nI b) cof mad nu co se li le fi sc (upd ti j (nI (T b))) un (upd ma j (if j = b then ma j else nI 0)) dr fr to en) := hD
    rw [hQ]
    exact rg_vret hx hb hr hlk hK hP hD hS dM_point_58 (nI 0, nI n, nI b, cof, mad, nu, co, se, li, le, fi, sc, upd ti j (nI (T b)), un, upd ma j (if j = b then ma j else nI 0), dr, fr, to, en) rfl (⟨rm_Rep_point (g := (n, Rr, P1, P2, T, U, b, cof)) hrep hj4, rfl⟩)
  refine rg_icmp_ne (tgt := 56) hx hb dM_point_44 (by decide) (by omega) (by omega) (fun h9 => ?_) (fun h9 => ?_)
  · refine lv_iconst (v := nI 0) hx hb dM_point_56 (by decide) ?_
    exact J44 _ (by rw [if_neg h9])
  · refine lv_aload_n hx hb dM_point_47 rfl (lv_at hl 0 rfl) ?_
    refine va_get (D := (dC, dI)) (ci := 0) (C := "RevisionGroveModel") (T := TM) (N := 19) hx hb hts inM hown hK hP 0 rfl rfl 12 (by decide) (hts _ tw_613) (fun _ h9 => h9) rfl dM_point_48 ?_
    refine lv_iload_n hx hb dM_point_51 rfl (lv_at hl 1 rfl) ?_
    refine rg_iald hx hb hK hP 10 0 rfl rfl (by decide) (by omega) dM_point_52 ?_
    refine lv_goto (tgt := 57) hx hb dM_point_53 (by decide) ?_
    exact J44 _ (by rw [if_pos h9])
set_option maxHeartbeats 4000000 in
set_option maxRecDepth 100000 in
theorem c_rm_point_bad {l : Launch} {dC : Nat → ClassId} {dI : Nat → Nat → Nat} {h : Nat} {a : Nat → Nat} {cI cL : ClassId} {cod : Int32} {cof : Int32} {mad : Int32} {nu : Nat → Int32} {co : Nat → Int64} {se : Nat → Int32} {li : Nat → Int32} {le : Nat → Int32} {fi : Nat → Int32} {sc : Nat → Int32} {ti : Nat → Int32} {un : Nat → Int32} {ma : Nat → Int32} {dr : Nat → Int32} {fr : Nat → Int32} {to : Nat → Int32} {en : Nat → Int32} (n b : Nat) (Rr : Nat → rg_R) (P1 P2 : Nat → Int32) (T : Nat → Nat) (U : Nat → List Nat) (x : Int32) (hB : rg_isB x = false) (hrep : rm_Rep (nI n) (nI b) cof nu co se li le fi sc ti un ma (n, Rr, P1, P2, T, U, b, cof)) : rg_M l yM_point (Cond.code yM_point prog_8_method_17_code 2 none :: rg_tbl) { frames := 1, cells := 0, slots := 0, locals := 20 } (dC, dI) rg_cl [(cI, .int), (cL, .long)] (rm_W h a cI cL cod (nI n) (nI b) cof mad nu co se li le fi sc ti un ma dr fr to en) [.ref h, .int x] (rg_QV (dC, dI) rg_cl [(cI, .int), (cL, .long)] (S := rm_S) (rm_Pv (1, 0, (n, Rr, P1, P2, T, U, b, cof))) (fun u => rm_Wu h a cI cL u)) 0 0 := by
  refine rg_of prog_8_method_17_code 2 none (by decide) rfl (Nat.le_of_ble_eq_true rfl) ?_
  intro p e R s m args below meth c Q A H locs ls hR hQ hx hb hml hr hts hown hlk hnm hP hK hD hA hS hl
  have hl : lv_has ls 2 [(0, .ref h), (1, .int x)] := hl
  have hts : ∀ w ∈ rg_tbl, w.before args s = true := fun w h => hts w (List.mem_cons_of_mem _ h)
  have hok := hrep.1
  have hn1 : 1 ≤ n := hok.1
  have hn60 : n ≤ 60 := hok.2.1
  have hb4 : b < 4 := hok.2.2.2.2.2.2.2.1
  have hTb : T b < n := (hok.2.2.2.2.2.2.1 b hb4).1
  have hti : ti b = nI (T b) := (hrep.2.2.2.2.2.2 b hb4).1
  have hma : ma b = nI (U b).length := (hrep.2.2.2.2.2.2 b hb4).2.1
  refine lv_aload_n hx hb dM_point_0 rfl (lv_at hl 0 rfl) ?_
  refine lv_iload_n hx hb dM_point_1 rfl (lv_at hl 1 rfl) ?_
  refine rg_calli hD hS hA (va_runS (As := [.int x]) (rest := [.ref h]) ⟨hx, hb, hml, hown, hts⟩ (c_rm_isBranch x _) (cwS 1 hts (rg_gS tw_715 tw_716 tw_5 tw_717) rfl rfl rfl (by decide +kernel) ⟨by rw [hR]; exact Nat.le_of_ble_eq_true rfl, by rw [hR]; exact Nat.le_of_ble_eq_true rfl⟩) (rg_preS rfl hK hP hD) rfl rfl hl.1 rfl (lv_room (Nat.le_of_ble_eq_true rfl)) dM_point_2 ⟨Nat.zero_le _, Nat.zero_le _⟩) (fun r1 u2 H locs hw3 hP hD hS => ?_)
  subst hw3
  have hP : va_P (dC, dI) rg_cl (rm_W h a cI cL cod (nI n) (nI b) cof mad nu co se li le fi sc ti un ma dr fr to en) H := hP
  have hD : va_D A (rm_W h a cI cL cod (nI n) (nI b) cof mad nu co se li le fi sc ti un ma dr fr to en) := hD
  refine rg_ifz_eq (tgt := 12) hx hb dM_point_5 (by decide) (fun h4 => ?_) (fun h4 => absurd (hB.symm.trans h4) (by decide))
  refine lv_iconst (v := nI 1) hx hb dM_point_12 (by decide) ?_
  refine va_put (D := (dC, dI)) (ci := 0) (v := .int (nI 1)) (ty := .int) (C := "RevisionGroveModel") (T := TM) (N := 19) hx hb hts inM tyM tyM_ok nmM hown hK hP hD hS 0 rfl rfl 0 (by decide) (hts _ tw_601) (fun _ h9 => h9) rfl (by decide +kernel) rfl rfl (Nat.le_of_ble_eq_true rfl) dM_point_13 (fun H locs hP hD hS => ?_)
  have hP : va_P (dC, dI) rg_cl (rm_W h a cI cL (nI 1) (nI n) (nI b) cof mad nu co se li le fi sc ti un ma dr fr to en) H := hP
  have hD : va_D A (rm_W h a cI cL (nI 1) (nI n) (nI b) cof mad nu co se li le fi sc ti un ma dr fr to en) := hD
  refine lv_aload_n hx hb dM_point_16 rfl (lv_at hl 0 rfl) ?_
  refine va_get (D := (dC, dI)) (ci := 0) (C := "RevisionGroveModel") (T := TM) (N := 19) hx hb hts inM hown hK hP 0 rfl rfl 0 (by decide) (hts _ tw_601) (fun _ h9 => h9) rfl dM_point_17 ?_
  refine rg_ifN_le (tgt := 24) hx hb dM_point_20 (by decide) (by decide) (fun h5 => by exfalso; omega) (fun h5 => ?_)
  rw [hQ]
  exact rg_vret hx hb hr hlk hK hP hD hS dM_point_23 (nI 1, nI n, nI b, cof, mad, nu, co, se, li, le, fi, sc, ti, un, ma, dr, fr, to, en) rfl (⟨hrep, rfl⟩)
theorem c_rm_point {l : Launch} {dC : Nat → ClassId} {dI : Nat → Nat → Nat} {h : Nat} {a : Nat → Nat} {cI cL : ClassId} {cod : Int32} {cof : Int32} {mad : Int32} {nu : Nat → Int32} {co : Nat → Int64} {se : Nat → Int32} {li : Nat → Int32} {le : Nat → Int32} {fi : Nat → Int32} {sc : Nat → Int32} {ti : Nat → Int32} {un : Nat → Int32} {ma : Nat → Int32} {dr : Nat → Int32} {fr : Nat → Int32} {to : Nat → Int32} {en : Nat → Int32} (n b : Nat) (Rr : Nat → rg_R) (P1 P2 : Nat → Int32) (T : Nat → Nat) (U : Nat → List Nat) (x : Int32) (hrep : rm_Rep (nI n) (nI b) cof nu co se li le fi sc ti un ma (n, Rr, P1, P2, T, U, b, cof)) : rg_M l yM_point (Cond.code yM_point prog_8_method_17_code 2 none :: rg_tbl) { frames := 1, cells := 0, slots := 0, locals := 20 } (dC, dI) rg_cl [(cI, .int), (cL, .long)] (rm_W h a cI cL cod (nI n) (nI b) cof mad nu co se li le fi sc ti un ma dr fr to en) [.ref h, .int x] (rg_QV (dC, dI) rg_cl [(cI, .int), (cL, .long)] (S := rm_S) (rm_Pv (rg_oPoint (n, Rr, P1, P2, T, U, b, cof) x)) (fun u => rm_Wu h a cI cL u)) 0 0 := by
  unfold rg_oPoint
  cases hB : rg_isB x with
  | false => exact c_rm_point_bad n b Rr P1 P2 T U x hB hrep
  | true =>
    obtain ⟨j, hj, rfl⟩ := rg_isB_of hB
    rw [nI_clamp (by omega)]
    exact c_rm_point_ok n b Rr P1 P2 T U j hj hrep
set_option maxHeartbeats 4000000 in
set_option maxRecDepth 100000 in
theorem c_rm_turn_ok {l : Launch} {dC : Nat → ClassId} {dI : Nat → Nat → Nat} {h : Nat} {a : Nat → Nat} {cI cL : ClassId} {cod : Int32} {cof : Int32} {mad : Int32} {nu : Nat → Int32} {co : Nat → Int64} {se : Nat → Int32} {li : Nat → Int32} {le : Nat → Int32} {fi : Nat → Int32} {sc : Nat → Int32} {ti : Nat → Int32} {un : Nat → Int32} {ma : Nat → Int32} {dr : Nat → Int32} {fr : Nat → Int32} {to : Nat → Int32} {en : Nat → Int32} (n b : Nat) (Rr : Nat → rg_R) (P1 P2 : Nat → Int32) (T : Nat → Nat) (U : Nat → List Nat) (j : Nat) (hj4 : j < 4) (hrep : rm_Rep (nI n) (nI b) cof nu co se li le fi sc ti un ma (n, Rr, P1, P2, T, U, b, cof)) : rg_M l yM_turn (Cond.code yM_turn prog_8_method_18_code 2 (some .int) :: rg_tbl) { frames := 1, cells := 0, slots := 0, locals := 20 } (dC, dI) rg_cl [(cI, .int), (cL, .long)] (rm_W h a cI cL cod (nI n) (nI b) cof mad nu co se li le fi sc ti un ma dr fr to en) [.ref h, .int (nI j)] (rg_QI (dC, dI) rg_cl [(cI, .int), (cL, .long)] (S := rm_S) (rm_Po (0, nI (T j), rg_turn (n, Rr, P1, P2, T, U, b, cof) j)) (fun u => rm_Wu h a cI cL u)) 0 0 := by
  refine rg_of prog_8_method_18_code 2 (some .int) (by decide) rfl (Nat.le_of_ble_eq_true rfl) ?_
  intro p e R s m args below meth c Q A H locs ls hR hQ hx hb hml hr hts hown hlk hnm hP hK hD hA hS hl
  have hl : lv_has ls 2 [(0, .ref h), (1, .int (nI j))] := hl
  have hts : ∀ w ∈ rg_tbl, w.before args s = true := fun w h => hts w (List.mem_cons_of_mem _ h)
  have hok := hrep.1
  have hn1 : 1 ≤ n := hok.1
  have hn60 : n ≤ 60 := hok.2.1
  have hb4 : b < 4 := hok.2.2.2.2.2.2.2.1
  have hTb : T b < n := (hok.2.2.2.2.2.2.1 b hb4).1
  have hti : ti b = nI (T b) := (hrep.2.2.2.2.2.2 b hb4).1
  have hma : ma b = nI (U b).length := (hrep.2.2.2.2.2.2 b hb4).2.1
  have hB := rg_isB_ok hj4
  have htj : ti j = nI (T j) := (hrep.2.2.2.2.2.2 j hj4).1
  refine lv_aload_n hx hb dM_turn_0 rfl (lv_at hl 0 rfl) ?_
  refine lv_iload_n hx hb dM_turn_1 rfl (lv_at hl 1 rfl) ?_
  refine rg_calli hD hS hA (va_runS (As := [.int (nI j)]) (rest := [.ref h]) ⟨hx, hb, hml, hown, hts⟩ (c_rm_isBranch (nI j) _) (cwS 1 hts (rg_gS tw_715 tw_716 tw_5 tw_717) rfl rfl rfl (by decide +kernel) ⟨by rw [hR]; exact Nat.le_of_ble_eq_true rfl, by rw [hR]; exact Nat.le_of_ble_eq_true rfl⟩) (rg_preS rfl hK hP hD) rfl rfl hl.1 rfl (lv_room (Nat.le_of_ble_eq_true rfl)) dM_turn_2 ⟨Nat.zero_le _, Nat.zero_le _⟩) (fun r1 u2 H locs hw3 hP hD hS => ?_)
  subst hw3
  have hP : va_P (dC, dI) rg_cl (rm_W h a cI cL cod (nI n) (nI b) cof mad nu co se li le fi sc ti un ma dr fr to en) H := hP
  have hD : va_D A (rm_W h a cI cL cod (nI n) (nI b) cof mad nu co se li le fi sc ti un ma dr fr to en) := hD
  refine rg_ifz_eq (tgt := 12) hx hb dM_turn_5 (by decide) (fun h4 => absurd (hB.symm.trans h4) (by decide)) (fun h4 => ?_)
  refine lv_iconst (v := nI 0) hx hb dM_turn_8 (by decide) ?_
  refine lv_goto (tgt := 13) hx hb dM_turn_9 (by decide) ?_
  refine va_put (D := (dC, dI)) (ci := 0) (v := .int (nI 0)) (ty := .int) (C := "RevisionGroveModel") (T := TM) (N := 19) hx hb hts inM tyM tyM_ok nmM hown hK hP hD hS 0 rfl rfl 0 (by decide) (hts _ tw_601) (fun _ h9 => h9) rfl (by decide +kernel) rfl rfl (Nat.le_of_ble_eq_true rfl) dM_turn_13 (fun H locs hP hD hS => ?_)
  have hP : va_P (dC, dI) rg_cl (rm_W h a cI cL (nI 0) (nI n) (nI b) cof mad nu co se li le fi sc ti un ma dr fr to en) H := hP
  have hD : va_D A (rm_W h a cI cL (nI 0) (nI n) (nI b) cof mad nu co se li le fi sc ti un ma dr fr to en) := hD
  refine lv_aload_n hx hb dM_turn_16 rfl (lv_at hl 0 rfl) ?_
  refine lv_aload_n hx hb dM_turn_17 rfl (lv_at hl 0 rfl) ?_
  refine va_get (D := (dC, dI)) (ci := 0) (C := "RevisionGroveModel") (T := TM) (N := 19) hx hb hts inM hown hK hP 0 rfl rfl 0 (by decide) (hts _ tw_601) (fun _ h9 => h9) rfl dM_turn_18 ?_
  refine rg_ifN_le (tgt := 31) hx hb dM_turn_21 (by decide) (by decide) (fun h5 => ?_) (fun h5 => by exfalso; omega)
  refine lv_iload_n hx hb dM_turn_31 rfl (lv_at hl 1 rfl) ?_
  refine va_put (D := (dC, dI)) (ci := 0) (v := .int (nI j)) (ty := .int) (C := "RevisionGroveModel") (T := TM) (N := 19) hx hb hts inM tyM tyM_ok nmM hown hK hP hD hS 0 rfl rfl 9 (by decide) (hts _ tw_610) (fun _ h9 => h9) rfl (by decide +kernel) rfl rfl (Nat.le_of_ble_eq_true rfl) dM_turn_32 (fun H locs hP hD hS => ?_)
  have hP : va_P (dC, dI) rg_cl (rm_W h a cI cL (nI 0) (nI n) (nI j) cof mad nu co se li le fi sc ti un ma dr fr to en) H := hP
  have hD : va_D A (rm_W h a cI cL (nI 0) (nI n) (nI j) cof mad nu co se li le fi sc ti un ma dr fr to en) := hD
  refine lv_aload_n hx hb dM_turn_35 rfl (lv_at hl 0 rfl) ?_
  refine va_get (D := (dC, dI)) (ci := 0) (C := "RevisionGroveModel") (T := TM) (N := 19) hx hb hts inM hown hK hP 0 rfl rfl 0 (by decide) (hts _ tw_601) (fun _ h9 => h9) rfl dM_turn_36 ?_
  refine rg_ifN_le (tgt := 46) hx hb dM_turn_39 (by decide) (by decide) (fun h6 => ?_) (fun h6 => by exfalso; omega)
  refine lv_aload_n hx hb dM_turn_46 rfl (lv_at hl 0 rfl) ?_
  refine rg_calli hD hS hA (va_runV (As := []) (rest := []) ⟨hx, hb, hml, hown, hts⟩ (c_rm_here j (by omega) _) (cwV 0 hts (rg_gV tw_667 tw_669 ts_M_here tw_5 tw_670) rfl rfl rfl (by decide +kernel) ⟨by rw [hR]; exact Nat.le_of_ble_eq_true rfl, by rw [hR]; exact Nat.le_of_ble_eq_true rfl⟩) (rg_preV rfl hK hP hD (ci := 0) (q0 := 0) rfl rfl) rfl rfl hl.1 rfl (lv_room (Nat.le_of_ble_eq_true rfl)) dM_turn_47 ⟨Nat.zero_le _, Nat.zero_le _⟩) (fun r7 u8 H locs hw9 hP hD hS => ?_)
  subst hw9
  have hP : va_P (dC, dI) rg_cl (rm_W h a cI cL (nI 0) (nI n) (nI j) cof mad nu co se li le fi sc ti un ma dr fr to en) H := hP
  have hD : va_D A (rm_W h a cI cL (nI 0) (nI n) (nI j) cof mad nu co se li le fi sc ti un ma dr fr to en) := hD
  refine rg_top (show (.int (ti j) : Value) = .int (nI (T j)) by rw [htj]) ?_
  rw [hQ]
  exact rg_iret hx hb hr hlk hK hP hD hS dM_turn_50 (nI 0, nI n, nI j, cof, mad, nu, co, se, li, le, fi, sc, ti, un, ma, dr, fr, to, en) rfl (⟨rm_Rep_turn (g := (n, Rr, P1, P2, T, U, b, cof)) hrep hj4, rfl, rfl⟩)
set_option maxHeartbeats 4000000 in
set_option maxRecDepth 100000 in
theorem c_rm_turn_bad {l : Launch} {dC : Nat → ClassId} {dI : Nat → Nat → Nat} {h : Nat} {a : Nat → Nat} {cI cL : ClassId} {cod : Int32} {cof : Int32} {mad : Int32} {nu : Nat → Int32} {co : Nat → Int64} {se : Nat → Int32} {li : Nat → Int32} {le : Nat → Int32} {fi : Nat → Int32} {sc : Nat → Int32} {ti : Nat → Int32} {un : Nat → Int32} {ma : Nat → Int32} {dr : Nat → Int32} {fr : Nat → Int32} {to : Nat → Int32} {en : Nat → Int32} (n b : Nat) (Rr : Nat → rg_R) (P1 P2 : Nat → Int32) (T : Nat → Nat) (U : Nat → List Nat) (x : Int32) (hB : rg_isB x = false) (hrep : rm_Rep (nI n) (nI b) cof nu co se li le fi sc ti un ma (n, Rr, P1, P2, T, U, b, cof)) : rg_M l yM_turn (Cond.code yM_turn prog_8_method_18_code 2 (some .int) :: rg_tbl) { frames := 1, cells := 0, slots := 0, locals := 20 } (dC, dI) rg_cl [(cI, .int), (cL, .long)] (rm_W h a cI cL cod (nI n) (nI b) cof mad nu co se li le fi sc ti un ma dr fr to en) [.ref h, .int x] (rg_QI (dC, dI) rg_cl [(cI, .int), (cL, .long)] (S := rm_S) (rm_Po (1, 0, (n, Rr, P1, P2, T, U, b, cof))) (fun u => rm_Wu h a cI cL u)) 0 0 := by
  refine rg_of prog_8_method_18_code 2 (some .int) (by decide) rfl (Nat.le_of_ble_eq_true rfl) ?_
  intro p e R s m args below meth c Q A H locs ls hR hQ hx hb hml hr hts hown hlk hnm hP hK hD hA hS hl
  have hl : lv_has ls 2 [(0, .ref h), (1, .int x)] := hl
  have hts : ∀ w ∈ rg_tbl, w.before args s = true := fun w h => hts w (List.mem_cons_of_mem _ h)
  have hok := hrep.1
  have hn1 : 1 ≤ n := hok.1
  have hn60 : n ≤ 60 := hok.2.1
  have hb4 : b < 4 := hok.2.2.2.2.2.2.2.1
  have hTb : T b < n := (hok.2.2.2.2.2.2.1 b hb4).1
  have hti : ti b = nI (T b) := (hrep.2.2.2.2.2.2 b hb4).1
  have hma : ma b = nI (U b).length := (hrep.2.2.2.2.2.2 b hb4).2.1
  refine lv_aload_n hx hb dM_turn_0 rfl (lv_at hl 0 rfl) ?_
  refine lv_iload_n hx hb dM_turn_1 rfl (lv_at hl 1 rfl) ?_
  refine rg_calli hD hS hA (va_runS (As := [.int x]) (rest := [.ref h]) ⟨hx, hb, hml, hown, hts⟩ (c_rm_isBranch x _) (cwS 1 hts (rg_gS tw_715 tw_716 tw_5 tw_717) rfl rfl rfl (by decide +kernel) ⟨by rw [hR]; exact Nat.le_of_ble_eq_true rfl, by rw [hR]; exact Nat.le_of_ble_eq_true rfl⟩) (rg_preS rfl hK hP hD) rfl rfl hl.1 rfl (lv_room (Nat.le_of_ble_eq_true rfl)) dM_turn_2 ⟨Nat.zero_le _, Nat.zero_le _⟩) (fun r1 u2 H locs hw3 hP hD hS => ?_)
  subst hw3
  have hP : va_P (dC, dI) rg_cl (rm_W h a cI cL cod (nI n) (nI b) cof mad nu co se li le fi sc ti un ma dr fr to en) H := hP
  have hD : va_D A (rm_W h a cI cL cod (nI n) (nI b) cof mad nu co se li le fi sc ti un ma dr fr to en) := hD
  refine rg_ifz_eq (tgt := 12) hx hb dM_turn_5 (by decide) (fun h4 => ?_) (fun h4 => absurd (hB.symm.trans h4) (by decide))
  refine lv_iconst (v := nI 1) hx hb dM_turn_12 (by decide) ?_
  refine va_put (D := (dC, dI)) (ci := 0) (v := .int (nI 1)) (ty := .int) (C := "RevisionGroveModel") (T := TM) (N := 19) hx hb hts inM tyM tyM_ok nmM hown hK hP hD hS 0 rfl rfl 0 (by decide) (hts _ tw_601) (fun _ h9 => h9) rfl (by decide +kernel) rfl rfl (Nat.le_of_ble_eq_true rfl) dM_turn_13 (fun H locs hP hD hS => ?_)
  have hP : va_P (dC, dI) rg_cl (rm_W h a cI cL (nI 1) (nI n) (nI b) cof mad nu co se li le fi sc ti un ma dr fr to en) H := hP
  have hD : va_D A (rm_W h a cI cL (nI 1) (nI n) (nI b) cof mad nu co se li le fi sc ti un ma dr fr to en) := hD
  refine lv_aload_n hx hb dM_turn_16 rfl (lv_at hl 0 rfl) ?_
  refine lv_aload_n hx hb dM_turn_17 rfl (lv_at hl 0 rfl) ?_
  refine va_get (D := (dC, dI)) (ci := 0) (C := "RevisionGroveModel") (T := TM) (N := 19) hx hb hts inM hown hK hP 0 rfl rfl 0 (by decide) (hts _ tw_601) (fun _ h9 => h9) rfl dM_turn_18 ?_
  refine rg_ifN_le (tgt := 31) hx hb dM_turn_21 (by decide) (by decide) (fun h5 => by exfalso; omega) (fun h5 => ?_)
  refine lv_aload_n hx hb dM_turn_24 rfl (lv_at hl 0 rfl) ?_
  refine va_get (D := (dC, dI)) (ci := 0) (C := "RevisionGroveModel") (T := TM) (N := 19) hx hb hts inM hown hK hP 0 rfl rfl 9 (by decide) (hts _ tw_610) (fun _ h9 => h9) rfl dM_turn_25 ?_
  refine lv_goto (tgt := 32) hx hb dM_turn_28 (by decide) ?_
  refine va_put (D := (dC, dI)) (ci := 0) (v := .int (nI b)) (ty := .int) (C := "RevisionGroveModel") (T := TM) (N := 19) hx hb hts inM tyM tyM_ok nmM hown hK hP hD hS 0 rfl rfl 9 (by decide) (hts _ tw_610) (fun _ h9 => h9) rfl (by decide +kernel) rfl rfl (Nat.le_of_ble_eq_true rfl) dM_turn_32 (fun H locs hP hD hS => ?_)
  have hP : va_P (dC, dI) rg_cl (rm_W h a cI cL (nI 1) (nI n) (nI b) cof mad nu co se li le fi sc ti un ma dr fr to en) H := hP
  have hD : va_D A (rm_W h a cI cL (nI 1) (nI n) (nI b) cof mad nu co se li le fi sc ti un ma dr fr to en) := hD
  refine lv_aload_n hx hb dM_turn_35 rfl (lv_at hl 0 rfl) ?_
  refine va_get (D := (dC, dI)) (ci := 0) (C := "RevisionGroveModel") (T := TM) (N := 19) hx hb hts inM hown hK hP 0 rfl rfl 0 (by decide) (hts _ tw_601) (fun _ h9 => h9) rfl dM_turn_36 ?_
  refine rg_ifN_le (tgt := 46) hx hb dM_turn_39 (by decide) (by decide) (fun h6 => by exfalso; omega) (fun h6 => ?_)
  refine lv_iconst (v := nI 0) hx hb dM_turn_42 (by decide) ?_
  refine lv_goto (tgt := 50) hx hb dM_turn_43 (by decide) ?_
  rw [hQ]
  exact rg_iret hx hb hr hlk hK hP hD hS dM_turn_50 (nI 1, nI n, nI b, cof, mad, nu, co, se, li, le, fi, sc, ti, un, ma, dr, fr, to, en) rfl (⟨hrep, rfl, rfl⟩)
theorem c_rm_turn {l : Launch} {dC : Nat → ClassId} {dI : Nat → Nat → Nat} {h : Nat} {a : Nat → Nat} {cI cL : ClassId} {cod : Int32} {cof : Int32} {mad : Int32} {nu : Nat → Int32} {co : Nat → Int64} {se : Nat → Int32} {li : Nat → Int32} {le : Nat → Int32} {fi : Nat → Int32} {sc : Nat → Int32} {ti : Nat → Int32} {un : Nat → Int32} {ma : Nat → Int32} {dr : Nat → Int32} {fr : Nat → Int32} {to : Nat → Int32} {en : Nat → Int32} (n b : Nat) (Rr : Nat → rg_R) (P1 P2 : Nat → Int32) (T : Nat → Nat) (U : Nat → List Nat) (x : Int32) (hrep : rm_Rep (nI n) (nI b) cof nu co se li le fi sc ti un ma (n, Rr, P1, P2, T, U, b, cof)) : rg_M l yM_turn (Cond.code yM_turn prog_8_method_18_code 2 (some .int) :: rg_tbl) { frames := 1, cells := 0, slots := 0, locals := 20 } (dC, dI) rg_cl [(cI, .int), (cL, .long)] (rm_W h a cI cL cod (nI n) (nI b) cof mad nu co se li le fi sc ti un ma dr fr to en) [.ref h, .int x] (rg_QI (dC, dI) rg_cl [(cI, .int), (cL, .long)] (S := rm_S) (rm_Po (rg_oTurn (n, Rr, P1, P2, T, U, b, cof) x)) (fun u => rm_Wu h a cI cL u)) 0 0 := by
  unfold rg_oTurn
  cases hB : rg_isB x with
  | false => exact c_rm_turn_bad n b Rr P1 P2 T U x hB hrep
  | true =>
    obtain ⟨j, hj, rfl⟩ := rg_isB_of hB
    rw [nI_clamp (by omega)]
    exact c_rm_turn_ok n b Rr P1 P2 T U j hj hrep
set_option maxHeartbeats 4000000 in
set_option maxRecDepth 100000 in
theorem c_rm_go_ok {l : Launch} {dC : Nat → ClassId} {dI : Nat → Nat → Nat} {h : Nat} {a : Nat → Nat} {cI cL : ClassId} {cod : Int32} {cof : Int32} {mad : Int32} {nu : Nat → Int32} {co : Nat → Int64} {se : Nat → Int32} {li : Nat → Int32} {le : Nat → Int32} {fi : Nat → Int32} {sc : Nat → Int32} {ti : Nat → Int32} {un : Nat → Int32} {ma : Nat → Int32} {dr : Nat → Int32} {fr : Nat → Int32} {to : Nat → Int32} {en : Nat → Int32} (n b : Nat) (Rr : Nat → rg_R) (P1 P2 : Nat → Int32) (T : Nat → Nat) (U : Nat → List Nat) (j : Nat) (hjn : j < n) (hrep : rm_Rep (nI n) (nI b) cof nu co se li le fi sc ti un ma (n, Rr, P1, P2, T, U, b, cof)) : rg_M l yM_go (Cond.code yM_go prog_8_method_19_code 2 none :: rg_tbl) { frames := 1, cells := 0, slots := 0, locals := 21 } (dC, dI) rg_cl [(cI, .int), (cL, .long)] (rm_W h a cI cL cod (nI n) (nI b) cof mad nu co se li le fi sc ti un ma dr fr to en) [.ref h, .int (nI j)] (rg_QV (dC, dI) rg_cl [(cI, .int), (cL, .long)] (S := rm_S) (rm_Pv (0, 0, rg_come (n, Rr, P1, P2, T, U, b, cof) j)) (fun u => rm_Wu h a cI cL u)) 0 0 := by
  refine rg_of prog_8_method_19_code 2 none (by decide) rfl (Nat.le_of_ble_eq_true rfl) ?_
  intro p e R s m args below meth c Q A H locs ls hR hQ hx hb hml hr hts hown hlk hnm hP hK hD hA hS hl
  have hl : lv_has ls 2 [(0, .ref h), (1, .int (nI j))] := hl
  have hts : ∀ w ∈ rg_tbl, w.before args s = true := fun w h => hts w (List.mem_cons_of_mem _ h)
  have hok := hrep.1
  have hn1 : 1 ≤ n := hok.1
  have hn60 : n ≤ 60 := hok.2.1
  have hb4 : b < 4 := hok.2.2.2.2.2.2.2.1
  have hTb : T b < n := (hok.2.2.2.2.2.2.1 b hb4).1
  have hti : ti b = nI (T b) := (hrep.2.2.2.2.2.2 b hb4).1
  have hma : ma b = nI (U b).length := (hrep.2.2.2.2.2.2 b hb4).2.1
  have hB := rg_isR_ok (n := n) (by omega) hjn
  refine lv_aload_n hx hb dM_go_0 rfl (lv_at hl 0 rfl) ?_
  refine lv_aload_n hx hb dM_go_1 rfl (lv_at hl 0 rfl) ?_
  refine lv_iload_n hx hb dM_go_2 rfl (lv_at hl 1 rfl) ?_
  refine rg_calli hD hS hA (va_runV (As := [.int (nI j)]) (rest := [.ref h]) ⟨hx, hb, hml, hown, hts⟩ (c_rm_isRevision n (nI j) _) (cwV 1 hts (rg_gV tw_726 tw_728 ts_M_isRevision tw_5 tw_729) rfl rfl rfl (by decide +kernel) ⟨by rw [hR]; exact Nat.le_of_ble_eq_true rfl, by rw [hR]; exact Nat.le_of_ble_eq_true rfl⟩) (rg_preV rfl hK hP hD (ci := 0) (q0 := 0) rfl rfl) rfl rfl hl.1 rfl (lv_room (Nat.le_of_ble_eq_true rfl)) dM_go_3 ⟨Nat.zero_le _, Nat.zero_le _⟩) (fun r1 u2 H locs hw3 hP hD hS => ?_)
  subst hw3
  have hP : va_P (dC, dI) rg_cl (rm_W h a cI cL cod (nI n) (nI b) cof mad nu co se li le fi sc ti un ma dr fr to en) H := hP
  have hD : va_D A (rm_W h a cI cL cod (nI n) (nI b) cof mad nu co se li le fi sc ti un ma dr fr to en) := hD
  refine rg_ifz_eq (tgt := 13) hx hb dM_go_6 (by decide) (fun h4 => absurd (hB.symm.trans h4) (by decide)) (fun h4 => ?_)
  refine lv_iconst (v := nI 0) hx hb dM_go_9 (by decide) ?_
  refine lv_goto (tgt := 14) hx hb dM_go_10 (by decide) ?_
  refine va_put (D := (dC, dI)) (ci := 0) (v := .int (nI 0)) (ty := .int) (C := "RevisionGroveModel") (T := TM) (N := 19) hx hb hts inM tyM tyM_ok nmM hown hK hP hD hS 0 rfl rfl 0 (by decide) (hts _ tw_601) (fun _ h9 => h9) rfl (by decide +kernel) rfl rfl (Nat.le_of_ble_eq_true rfl) dM_go_14 (fun H locs hP hD hS => ?_)
  have hP : va_P (dC, dI) rg_cl (rm_W h a cI cL (nI 0) (nI n) (nI b) cof mad nu co se li le fi sc ti un ma dr fr to en) H := hP
  have hD : va_D A (rm_W h a cI cL (nI 0) (nI n) (nI b) cof mad nu co se li le fi sc ti un ma dr fr to en) := hD
  refine lv_aload_n hx hb dM_go_17 rfl (lv_at hl 0 rfl) ?_
  refine va_get (D := (dC, dI)) (ci := 0) (C := "RevisionGroveModel") (T := TM) (N := 19) hx hb hts inM hown hK hP 0 rfl rfl 0 (by decide) (hts _ tw_601) (fun _ h9 => h9) rfl dM_go_18 ?_
  refine rg_ifN_ne (tgt := 29) hx hb dM_go_21 (by decide) (by decide) (fun h5 => by exfalso; omega) (fun h5 => ?_)
  refine lv_aload_n hx hb dM_go_24 rfl (lv_at hl 0 rfl) ?_
  refine lv_iload_n hx hb dM_go_25 rfl (lv_at hl 1 rfl) ?_
  refine rg_callv hD hS hA (va_runV (As := [.int (nI j)]) (rest := []) ⟨hx, hb, hml, hown, hts⟩ (c_rm_come b (by omega) (nI j) _) (cwV 1 hts (rg_gV tw_691 tw_693 ts_M_come tw_5 tw_694) rfl rfl rfl (by decide +kernel) ⟨by rw [hR]; exact Nat.le_of_ble_eq_true rfl, by rw [hR]; exact Nat.le_of_ble_eq_true rfl⟩) (rg_preV rfl hK hP hD (ci := 0) (q0 := 0) rfl rfl) rfl rfl hl.1 rfl (lv_room (Nat.le_of_ble_eq_true rfl)) dM_go_26 ⟨Nat.zero_le _, Nat.zero_le _⟩) (fun u7 H locs hw8 hP hD hS => ?_)
  have hP : va_P (dC, dI) rg_cl (rm_W h a cI cL (nI 0) (nI n) (nI b) cof mad nu co se li le fi sc (upd ti b (nI j)) un (upd ma b (nI 0)) dr fr to en) H := hP
  have hD : va_D A (rm_W h a cI cL (nI 0) (nI n) (nI b) cof mad nu co se li le fi sc (upd ti b (nI j)) un (upd ma b (nI 0)) dr fr to en) := hD
  rw [hQ]
  exact rg_vret hx hb hr hlk hK hP hD hS dM_go_29 (nI 0, nI n, nI b, cof, mad, nu, co, se, li, le, fi, sc, upd ti b (nI j), un, upd ma b (nI 0), dr, fr, to, en) rfl (⟨rm_Rep_come (g := (n, Rr, P1, P2, T, U, b, cof)) hrep hjn, rfl⟩)
set_option maxHeartbeats 4000000 in
set_option maxRecDepth 100000 in
theorem c_rm_go_bad {l : Launch} {dC : Nat → ClassId} {dI : Nat → Nat → Nat} {h : Nat} {a : Nat → Nat} {cI cL : ClassId} {cod : Int32} {cof : Int32} {mad : Int32} {nu : Nat → Int32} {co : Nat → Int64} {se : Nat → Int32} {li : Nat → Int32} {le : Nat → Int32} {fi : Nat → Int32} {sc : Nat → Int32} {ti : Nat → Int32} {un : Nat → Int32} {ma : Nat → Int32} {dr : Nat → Int32} {fr : Nat → Int32} {to : Nat → Int32} {en : Nat → Int32} (n b : Nat) (Rr : Nat → rg_R) (P1 P2 : Nat → Int32) (T : Nat → Nat) (U : Nat → List Nat) (x : Int32) (hB : rg_isR n x = false) (hrep : rm_Rep (nI n) (nI b) cof nu co se li le fi sc ti un ma (n, Rr, P1, P2, T, U, b, cof)) : rg_M l yM_go (Cond.code yM_go prog_8_method_19_code 2 none :: rg_tbl) { frames := 1, cells := 0, slots := 0, locals := 21 } (dC, dI) rg_cl [(cI, .int), (cL, .long)] (rm_W h a cI cL cod (nI n) (nI b) cof mad nu co se li le fi sc ti un ma dr fr to en) [.ref h, .int x] (rg_QV (dC, dI) rg_cl [(cI, .int), (cL, .long)] (S := rm_S) (rm_Pv (1, 0, (n, Rr, P1, P2, T, U, b, cof))) (fun u => rm_Wu h a cI cL u)) 0 0 := by
  refine rg_of prog_8_method_19_code 2 none (by decide) rfl (Nat.le_of_ble_eq_true rfl) ?_
  intro p e R s m args below meth c Q A H locs ls hR hQ hx hb hml hr hts hown hlk hnm hP hK hD hA hS hl
  have hl : lv_has ls 2 [(0, .ref h), (1, .int x)] := hl
  have hts : ∀ w ∈ rg_tbl, w.before args s = true := fun w h => hts w (List.mem_cons_of_mem _ h)
  have hok := hrep.1
  have hn1 : 1 ≤ n := hok.1
  have hn60 : n ≤ 60 := hok.2.1
  have hb4 : b < 4 := hok.2.2.2.2.2.2.2.1
  have hTb : T b < n := (hok.2.2.2.2.2.2.1 b hb4).1
  have hti : ti b = nI (T b) := (hrep.2.2.2.2.2.2 b hb4).1
  have hma : ma b = nI (U b).length := (hrep.2.2.2.2.2.2 b hb4).2.1
  refine lv_aload_n hx hb dM_go_0 rfl (lv_at hl 0 rfl) ?_
  refine lv_aload_n hx hb dM_go_1 rfl (lv_at hl 0 rfl) ?_
  refine lv_iload_n hx hb dM_go_2 rfl (lv_at hl 1 rfl) ?_
  refine rg_calli hD hS hA (va_runV (As := [.int x]) (rest := [.ref h]) ⟨hx, hb, hml, hown, hts⟩ (c_rm_isRevision n x _) (cwV 1 hts (rg_gV tw_726 tw_728 ts_M_isRevision tw_5 tw_729) rfl rfl rfl (by decide +kernel) ⟨by rw [hR]; exact Nat.le_of_ble_eq_true rfl, by rw [hR]; exact Nat.le_of_ble_eq_true rfl⟩) (rg_preV rfl hK hP hD (ci := 0) (q0 := 0) rfl rfl) rfl rfl hl.1 rfl (lv_room (Nat.le_of_ble_eq_true rfl)) dM_go_3 ⟨Nat.zero_le _, Nat.zero_le _⟩) (fun r1 u2 H locs hw3 hP hD hS => ?_)
  subst hw3
  have hP : va_P (dC, dI) rg_cl (rm_W h a cI cL cod (nI n) (nI b) cof mad nu co se li le fi sc ti un ma dr fr to en) H := hP
  have hD : va_D A (rm_W h a cI cL cod (nI n) (nI b) cof mad nu co se li le fi sc ti un ma dr fr to en) := hD
  refine rg_ifz_eq (tgt := 13) hx hb dM_go_6 (by decide) (fun h4 => ?_) (fun h4 => absurd (hB.symm.trans h4) (by decide))
  refine lv_iconst (v := nI 1) hx hb dM_go_13 (by decide) ?_
  refine va_put (D := (dC, dI)) (ci := 0) (v := .int (nI 1)) (ty := .int) (C := "RevisionGroveModel") (T := TM) (N := 19) hx hb hts inM tyM tyM_ok nmM hown hK hP hD hS 0 rfl rfl 0 (by decide) (hts _ tw_601) (fun _ h9 => h9) rfl (by decide +kernel) rfl rfl (Nat.le_of_ble_eq_true rfl) dM_go_14 (fun H locs hP hD hS => ?_)
  have hP : va_P (dC, dI) rg_cl (rm_W h a cI cL (nI 1) (nI n) (nI b) cof mad nu co se li le fi sc ti un ma dr fr to en) H := hP
  have hD : va_D A (rm_W h a cI cL (nI 1) (nI n) (nI b) cof mad nu co se li le fi sc ti un ma dr fr to en) := hD
  refine lv_aload_n hx hb dM_go_17 rfl (lv_at hl 0 rfl) ?_
  refine va_get (D := (dC, dI)) (ci := 0) (C := "RevisionGroveModel") (T := TM) (N := 19) hx hb hts inM hown hK hP 0 rfl rfl 0 (by decide) (hts _ tw_601) (fun _ h9 => h9) rfl dM_go_18 ?_
  refine rg_ifN_ne (tgt := 29) hx hb dM_go_21 (by decide) (by decide) (fun h5 => ?_) (fun h5 => by exfalso; omega)
  rw [hQ]
  exact rg_vret hx hb hr hlk hK hP hD hS dM_go_29 (nI 1, nI n, nI b, cof, mad, nu, co, se, li, le, fi, sc, ti, un, ma, dr, fr, to, en) rfl (⟨hrep, rfl⟩)
theorem c_rm_go {l : Launch} {dC : Nat → ClassId} {dI : Nat → Nat → Nat} {h : Nat} {a : Nat → Nat} {cI cL : ClassId} {cod : Int32} {cof : Int32} {mad : Int32} {nu : Nat → Int32} {co : Nat → Int64} {se : Nat → Int32} {li : Nat → Int32} {le : Nat → Int32} {fi : Nat → Int32} {sc : Nat → Int32} {ti : Nat → Int32} {un : Nat → Int32} {ma : Nat → Int32} {dr : Nat → Int32} {fr : Nat → Int32} {to : Nat → Int32} {en : Nat → Int32} (n b : Nat) (Rr : Nat → rg_R) (P1 P2 : Nat → Int32) (T : Nat → Nat) (U : Nat → List Nat) (x : Int32) (hrep : rm_Rep (nI n) (nI b) cof nu co se li le fi sc ti un ma (n, Rr, P1, P2, T, U, b, cof)) : rg_M l yM_go (Cond.code yM_go prog_8_method_19_code 2 none :: rg_tbl) { frames := 1, cells := 0, slots := 0, locals := 21 } (dC, dI) rg_cl [(cI, .int), (cL, .long)] (rm_W h a cI cL cod (nI n) (nI b) cof mad nu co se li le fi sc ti un ma dr fr to en) [.ref h, .int x] (rg_QV (dC, dI) rg_cl [(cI, .int), (cL, .long)] (S := rm_S) (rm_Pv (rg_oGo (n, Rr, P1, P2, T, U, b, cof) x)) (fun u => rm_Wu h a cI cL u)) 0 0 := by
  unfold rg_oGo
  show rg_M _ _ _ _ _ _ _ _ _ (rg_QV _ _ _ (rm_Pv (bif rg_isR n x then _ else _)) _) _ _
  cases hB : rg_isR n x with
  | false => exact c_rm_go_bad n b Rr P1 P2 T U x hB hrep
  | true =>
    obtain ⟨j, hj, rfl⟩ := rg_isR_of hB
    rw [nI_clamp (Nat.lt_of_lt_of_le hj (Nat.le_trans hrep.1.2.1 (by decide)))]
    exact c_rm_go_ok n b Rr P1 P2 T U j hj hrep
set_option maxHeartbeats 4000000 in
set_option maxRecDepth 100000 in
theorem c_rm_undo_bad {l : Launch} {dC : Nat → ClassId} {dI : Nat → Nat → Nat} {h : Nat} {a : Nat → Nat} {cI cL : ClassId} {cod : Int32} {cof : Int32} {mad : Int32} {nu : Nat → Int32} {co : Nat → Int64} {se : Nat → Int32} {li : Nat → Int32} {le : Nat → Int32} {fi : Nat → Int32} {sc : Nat → Int32} {ti : Nat → Int32} {un : Nat → Int32} {ma : Nat → Int32} {dr : Nat → Int32} {fr : Nat → Int32} {to : Nat → Int32} {en : Nat → Int32} (n b : Nat) (Rr : Nat → rg_R) (P1 P2 : Nat → Int32) (T : Nat → Nat) (U : Nat → List Nat) (ht0 : T b = 0) (hrep : rm_Rep (nI n) (nI b) cof nu co se li le fi sc ti un ma (n, Rr, P1, P2, T, U, b, cof)) : rg_M l yM_undo (Cond.code yM_undo prog_8_method_20_code 1 (some .int) :: rg_tbl) { frames := 1, cells := 0, slots := 0, locals := 20 } (dC, dI) rg_cl [(cI, .int), (cL, .long)] (rm_W h a cI cL cod (nI n) (nI b) cof mad nu co se li le fi sc ti un ma dr fr to en) [.ref h] (rg_QI (dC, dI) rg_cl [(cI, .int), (cL, .long)] (S := rm_S) (rm_Po (1, 0, (n, Rr, P1, P2, T, U, b, cof))) (fun u => rm_Wu h a cI cL u)) 0 0 := by
  refine rg_of prog_8_method_20_code 1 (some .int) (by decide) rfl (Nat.le_of_ble_eq_true rfl) ?_
  intro p e R s m args below meth c Q A H locs ls hR hQ hx hb hml hr hts hown hlk hnm hP hK hD hA hS hl
  have hl : lv_has ls 1 [(0, .ref h)] := hl
  have hts : ∀ w ∈ rg_tbl, w.before args s = true := fun w h => hts w (List.mem_cons_of_mem _ h)
  have hok := hrep.1
  have hn1 : 1 ≤ n := hok.1
  have hn60 : n ≤ 60 := hok.2.1
  have hb4 : b < 4 := hok.2.2.2.2.2.2.2.1
  have hTb : T b < n := (hok.2.2.2.2.2.2.1 b hb4).1
  have hti : ti b = nI (T b) := (hrep.2.2.2.2.2.2 b hb4).1
  have hma : ma b = nI (U b).length := (hrep.2.2.2.2.2.2 b hb4).2.1
  refine lv_aload_n hx hb dM_undo_0 rfl (lv_at hl 0 rfl) ?_
  refine lv_aload_n hx hb dM_undo_1 rfl (lv_at hl 0 rfl) ?_
  refine rg_calli hD hS hA (va_runV (As := []) (rest := [.ref h]) ⟨hx, hb, hml, hown, hts⟩ (c_rm_here b (by omega) _) (cwV 0 hts (rg_gV tw_667 tw_669 ts_M_here tw_5 tw_670) rfl rfl rfl (by decide +kernel) ⟨by rw [hR]; exact Nat.le_of_ble_eq_true rfl, by rw [hR]; exact Nat.le_of_ble_eq_true rfl⟩) (rg_preV rfl hK hP hD (ci := 0) (q0 := 0) rfl rfl) rfl rfl hl.1 rfl (lv_room (Nat.le_of_ble_eq_true rfl)) dM_undo_2 ⟨Nat.zero_le _, Nat.zero_le _⟩) (fun r1 u2 H locs hw3 hP hD hS => ?_)
  subst hw3
  have hP : va_P (dC, dI) rg_cl (rm_W h a cI cL cod (nI n) (nI b) cof mad nu co se li le fi sc ti un ma dr fr to en) H := hP
  have hD : va_D A (rm_W h a cI cL cod (nI n) (nI b) cof mad nu co se li le fi sc ti un ma dr fr to en) := hD
  refine rg_top (show (.int (ti b) : Value) = .int (nI (T b)) by rw [hti]) ?_
  refine rg_ifN_ne (tgt := 12) hx hb dM_undo_5 (by decide) (by omega) (fun h4 => by exfalso; omega) (fun h4 => ?_)
  refine lv_iconst (v := nI 1) hx hb dM_undo_8 (by decide) ?_
  refine lv_goto (tgt := 13) hx hb dM_undo_9 (by decide) ?_
  refine va_put (D := (dC, dI)) (ci := 0) (v := .int (nI 1)) (ty := .int) (C := "RevisionGroveModel") (T := TM) (N := 19) hx hb hts inM tyM tyM_ok nmM hown hK hP hD hS 0 rfl rfl 0 (by decide) (hts _ tw_601) (fun _ h9 => h9) rfl (by decide +kernel) rfl rfl (Nat.le_of_ble_eq_true rfl) dM_undo_13 (fun H locs hP hD hS => ?_)
  have hP : va_P (dC, dI) rg_cl (rm_W h a cI cL (nI 1) (nI n) (nI b) cof mad nu co se li le fi sc ti un ma dr fr to en) H := hP
  have hD : va_D A (rm_W h a cI cL (nI 1) (nI n) (nI b) cof mad nu co se li le fi sc ti un ma dr fr to en) := hD
  refine lv_aload_n hx hb dM_undo_16 rfl (lv_at hl 0 rfl) ?_
  refine va_get (D := (dC, dI)) (ci := 0) (C := "RevisionGroveModel") (T := TM) (N := 19) hx hb hts inM hown hK hP 0 rfl rfl 0 (by decide) (hts _ tw_601) (fun _ h9 => h9) rfl dM_undo_17 ?_
  refine rg_ifN_le (tgt := 25) hx hb dM_undo_20 (by decide) (by decide) (fun h5 => by exfalso; omega) (fun h5 => ?_)
  refine lv_iconst (v := nI 0) hx hb dM_undo_23 (by decide) ?_
  rw [hQ]
  exact rg_iret hx hb hr hlk hK hP hD hS dM_undo_24 (nI 1, nI n, nI b, cof, mad, nu, co, se, li, le, fi, sc, ti, un, ma, dr, fr, to, en) rfl (⟨hrep, rfl, rfl⟩)
set_option maxHeartbeats 4000000 in
set_option maxRecDepth 100000 in
theorem c_rm_undo_ok {l : Launch} {dC : Nat → ClassId} {dI : Nat → Nat → Nat} {h : Nat} {a : Nat → Nat} {cI cL : ClassId} {cod : Int32} {cof : Int32} {mad : Int32} {nu : Nat → Int32} {co : Nat → Int64} {se : Nat → Int32} {li : Nat → Int32} {le : Nat → Int32} {fi : Nat → Int32} {sc : Nat → Int32} {ti : Nat → Int32} {un : Nat → Int32} {ma : Nat → Int32} {dr : Nat → Int32} {fr : Nat → Int32} {to : Nat → Int32} {en : Nat → Int32} (n b : Nat) (Rr : Nat → rg_R) (P1 P2 : Nat → Int32) (T : Nat → Nat) (U : Nat → List Nat) (j : Nat) (hjt : j < T b) (hP1 : P1 (T b) = nI j) (hrep : rm_Rep (nI n) (nI b) cof nu co se li le fi sc ti un ma (n, Rr, P1, P2, T, U, b, cof)) : rg_M l yM_undo (Cond.code yM_undo prog_8_method_20_code 1 (some .int) :: rg_tbl) { frames := 1, cells := 0, slots := 0, locals := 20 } (dC, dI) rg_cl [(cI, .int), (cL, .long)] (rm_W h a cI cL cod (nI n) (nI b) cof mad nu co se li le fi sc ti un ma dr fr to en) [.ref h] (rg_QI (dC, dI) rg_cl [(cI, .int), (cL, .long)] (S := rm_S) (rm_Po (0, P1 (T b), rg_undo (n, Rr, P1, P2, T, U, b, cof))) (fun u => rm_Wu h a cI cL u)) 0 0 := by
  refine rg_of prog_8_method_20_code 1 (some .int) (by decide) rfl (Nat.le_of_ble_eq_true rfl) ?_
  intro p e R s m args below meth c Q A H locs ls hR hQ hx hb hml hr hts hown hlk hnm hP hK hD hA hS hl
  have hl : lv_has ls 1 [(0, .ref h)] := hl
  have hts : ∀ w ∈ rg_tbl, w.before args s = true := fun w h => hts w (List.mem_cons_of_mem _ h)
  have hok := hrep.1
  have hn1 : 1 ≤ n := hok.1
  have hn60 : n ≤ 60 := hok.2.1
  have hb4 : b < 4 := hok.2.2.2.2.2.2.2.1
  have hTb : T b < n := (hok.2.2.2.2.2.2.1 b hb4).1
  have hti : ti b = nI (T b) := (hrep.2.2.2.2.2.2 b hb4).1
  have hma : ma b = nI (U b).length := (hrep.2.2.2.2.2.2 b hb4).2.1
  have hUl := rg_fall_lt (hok.2.2.2.2.2.2.1 b hb4).2.2 (hok.2.2.2.2.2.2.1 b hb4).2.1 hTb
  have hUl : (U b).length + T b < n := hUl
  have hfi : fi (T b) = nI j := ((hrep.2.2.2.2.2.1 (T b) hTb).1).trans hP1
  refine lv_aload_n hx hb dM_undo_0 rfl (lv_at hl 0 rfl) ?_
  refine lv_aload_n hx hb dM_undo_1 rfl (lv_at hl 0 rfl) ?_
  refine rg_calli hD hS hA (va_runV (As := []) (rest := [.ref h]) ⟨hx, hb, hml, hown, hts⟩ (c_rm_here b (by omega) _) (cwV 0 hts (rg_gV tw_667 tw_669 ts_M_here tw_5 tw_670) rfl rfl rfl (by decide +kernel) ⟨by rw [hR]; exact Nat.le_of_ble_eq_true rfl, by rw [hR]; exact Nat.le_of_ble_eq_true rfl⟩) (rg_preV rfl hK hP hD (ci := 0) (q0 := 0) rfl rfl) rfl rfl hl.1 rfl (lv_room (Nat.le_of_ble_eq_true rfl)) dM_undo_2 ⟨Nat.zero_le _, Nat.zero_le _⟩) (fun r1 u2 H locs hw3 hP hD hS => ?_)
  subst hw3
  have hP : va_P (dC, dI) rg_cl (rm_W h a cI cL cod (nI n) (nI b) cof mad nu co se li le fi sc ti un ma dr fr to en) H := hP
  have hD : va_D A (rm_W h a cI cL cod (nI n) (nI b) cof mad nu co se li le fi sc ti un ma dr fr to en) := hD
  refine rg_top (show (.int (ti b) : Value) = .int (nI (T b)) by rw [hti]) ?_
  refine rg_ifN_ne (tgt := 12) hx hb dM_undo_5 (by decide) (by omega) (fun h4 => ?_) (fun h4 => by exfalso; omega)
  refine lv_iconst (v := nI 0) hx hb dM_undo_12 (by decide) ?_
  refine va_put (D := (dC, dI)) (ci := 0) (v := .int (nI 0)) (ty := .int) (C := "RevisionGroveModel") (T := TM) (N := 19) hx hb hts inM tyM tyM_ok nmM hown hK hP hD hS 0 rfl rfl 0 (by decide) (hts _ tw_601) (fun _ h9 => h9) rfl (by decide +kernel) rfl rfl (Nat.le_of_ble_eq_true rfl) dM_undo_13 (fun H locs hP hD hS => ?_)
  have hP : va_P (dC, dI) rg_cl (rm_W h a cI cL (nI 0) (nI n) (nI b) cof mad nu co se li le fi sc ti un ma dr fr to en) H := hP
  have hD : va_D A (rm_W h a cI cL (nI 0) (nI n) (nI b) cof mad nu co se li le fi sc ti un ma dr fr to en) := hD
  refine lv_aload_n hx hb dM_undo_16 rfl (lv_at hl 0 rfl) ?_
  refine va_get (D := (dC, dI)) (ci := 0) (C := "RevisionGroveModel") (T := TM) (N := 19) hx hb hts inM hown hK hP 0 rfl rfl 0 (by decide) (hts _ tw_601) (fun _ h9 => h9) rfl dM_undo_17 ?_
  refine rg_ifN_le (tgt := 25) hx hb dM_undo_20 (by decide) (by decide) (fun h5 => ?_) (fun h5 => by exfalso; omega)
  refine lv_aload_n hx hb dM_undo_25 rfl (lv_at hl 0 rfl) ?_
  refine va_get (D := (dC, dI)) (ci := 0) (C := "RevisionGroveModel") (T := TM) (N := 19) hx hb hts inM hown hK hP 0 rfl rfl 11 (by decide) (hts _ tw_612) (fun _ h9 => h9) rfl dM_undo_26 ?_
  refine lv_bipush (v := nI 60) hx hb dM_undo_29 (by decide) ?_
  refine lv_aload_n hx hb dM_undo_31 rfl (lv_at hl 0 rfl) ?_
  refine va_get (D := (dC, dI)) (ci := 0) (C := "RevisionGroveModel") (T := TM) (N := 19) hx hb hts inM hown hK hP 0 rfl rfl 9 (by decide) (hts _ tw_610) (fun _ h9 => h9) rfl dM_undo_32 ?_
  refine rg_imul hx hb dM_undo_35 ?_
  refine lv_aload_n hx hb dM_undo_36 rfl (lv_at hl 0 rfl) ?_
  refine va_get (D := (dC, dI)) (ci := 0) (C := "RevisionGroveModel") (T := TM) (N := 19) hx hb hts inM hown hK hP 0 rfl rfl 12 (by decide) (hts _ tw_613) (fun _ h9 => h9) rfl dM_undo_37 ?_
  refine lv_aload_n hx hb dM_undo_40 rfl (lv_at hl 0 rfl) ?_
  refine va_get (D := (dC, dI)) (ci := 0) (C := "RevisionGroveModel") (T := TM) (N := 19) hx hb hts inM hown hK hP 0 rfl rfl 9 (by decide) (hts _ tw_610) (fun _ h9 => h9) rfl dM_undo_41 ?_
  refine rg_iald hx hb hK hP 10 0 rfl rfl (by decide) (by omega) dM_undo_44 ?_
  refine rg_top (show (.int (ma b) : Value) = .int (nI ((U b).length)) by rw [hma]) ?_
  refine rg_iadd hx hb dM_undo_45 ?_
  refine lv_aload_n hx hb dM_undo_46 rfl (lv_at hl 0 rfl) ?_
  refine rg_calli hD hS hA (va_runV (As := []) (rest := [.int (nI (60 * b + ((U b).length))), .ref ((a 9))]) ⟨hx, hb, hml, hown, hts⟩ (c_rm_here b (by omega) _) (cwV 0 hts (rg_gV tw_667 tw_669 ts_M_here tw_5 tw_670) rfl rfl rfl (by decide +kernel) ⟨by rw [hR]; exact Nat.le_of_ble_eq_true rfl, by rw [hR]; exact Nat.le_of_ble_eq_true rfl⟩) (rg_preV rfl hK hP hD (ci := 0) (q0 := 0) rfl rfl) rfl rfl hl.1 rfl (lv_room (Nat.le_of_ble_eq_true rfl)) dM_undo_47 ⟨Nat.zero_le _, Nat.zero_le _⟩) (fun r6 u7 H locs hw8 hP hD hS => ?_)
  subst hw8
  have hP : va_P (dC, dI) rg_cl (rm_W h a cI cL (nI 0) (nI n) (nI b) cof mad nu co se li le fi sc ti un ma dr fr to en) H := hP
  have hD : va_D A (rm_W h a cI cL (nI 0) (nI n) (nI b) cof mad nu co se li le fi sc ti un ma dr fr to en) := hD
  refine rg_top (show (.int (ti b) : Value) = .int (nI (T b)) by rw [hti]) ?_
  refine rg_iast hx hb hK hP hD hS 9 0 rfl rfl (by decide) (by omega) dM_undo_50 (fun H locs hP hD hS => ?_)
  have hP : va_P (dC, dI) rg_cl (rm_W h a cI cL (nI 0) (nI n) (nI b) cof mad nu co se li le fi sc ti (upd un (60 * b + ((U b).length)) (nI (T b))) ma dr fr to en) H := hP
  have hD : va_D A (rm_W h a cI cL (nI 0) (nI n) (nI b) cof mad nu co se li le fi sc ti (upd un (60 * b + ((U b).length)) (nI (T b))) ma dr fr to en) := hD
  refine lv_aload_n hx hb dM_undo_51 rfl (lv_at hl 0 rfl) ?_
  refine va_get (D := (dC, dI)) (ci := 0) (C := "RevisionGroveModel") (T := TM) (N := 19) hx hb hts inM hown hK hP 0 rfl rfl 12 (by decide) (hts _ tw_613) (fun _ h9 => h9) rfl dM_undo_52 ?_
  refine lv_aload_n hx hb dM_undo_55 rfl (lv_at hl 0 rfl) ?_
  refine va_get (D := (dC, dI)) (ci := 0) (C := "RevisionGroveModel") (T := TM) (N := 19) hx hb hts inM hown hK hP 0 rfl rfl 9 (by decide) (hts _ tw_610) (fun _ h9 => h9) rfl dM_undo_56 ?_
  refine lv_dup2_11 hx hb dM_undo_59 rfl rfl ?_
  refine rg_iald hx hb hK hP 10 0 rfl rfl (by decide) (by omega) dM_undo_60 ?_
  refine rg_top (show (.int (ma b) : Value) = .int (nI ((U b).length)) by rw [hma]) ?_
  refine lv_iconst (v := nI 1) hx hb dM_undo_61 (by decide) ?_
  refine rg_iadd hx hb dM_undo_62 ?_
  refine rg_iast hx hb hK hP hD hS 10 0 rfl rfl (by decide) (by omega) dM_undo_63 (fun H locs hP hD hS => ?_)
  have hP : va_P (dC, dI) rg_cl (rm_W h a cI cL (nI 0) (nI n) (nI b) cof mad nu co se li le fi sc ti (upd un (60 * b + ((U b).length)) (nI (T b))) (upd ma b (nI ((U b).length + 1))) dr fr to en) H := hP
  have hD : va_D A (rm_W h a cI cL (nI 0) (nI n) (nI b) cof mad nu co se li le fi sc ti (upd un (60 * b + ((U b).length)) (nI (T b))) (upd ma b (nI ((U b).length + 1))) dr fr to en) := hD
  refine lv_aload_n hx hb dM_undo_64 rfl (lv_at hl 0 rfl) ?_
  refine va_get (D := (dC, dI)) (ci := 0) (C := "RevisionGroveModel") (T := TM) (N := 19) hx hb hts inM hown hK hP 0 rfl rfl 10 (by decide) (hts _ tw_611) (fun _ h9 => h9) rfl dM_undo_65 ?_
  refine lv_aload_n hx hb dM_undo_68 rfl (lv_at hl 0 rfl) ?_
  refine va_get (D := (dC, dI)) (ci := 0) (C := "RevisionGroveModel") (T := TM) (N := 19) hx hb hts inM hown hK hP 0 rfl rfl 9 (by decide) (hts _ tw_610) (fun _ h9 => h9) rfl dM_undo_69 ?_
  refine lv_aload_n hx hb dM_undo_72 rfl (lv_at hl 0 rfl) ?_
  refine va_get (D := (dC, dI)) (ci := 0) (C := "RevisionGroveModel") (T := TM) (N := 19) hx hb hts inM hown hK hP 0 rfl rfl 7 (by decide) (hts _ tw_608) (fun _ h9 => h9) rfl dM_undo_73 ?_
  refine lv_aload_n hx hb dM_undo_76 rfl (lv_at hl 0 rfl) ?_
  refine rg_calli hD hS hA (va_runV (As := []) (rest := [.ref ((a 6)), .int (nI b), .ref ((a 8))]) ⟨hx, hb, hml, hown, hts⟩ (c_rm_here b (by omega) _) (cwV 0 hts (rg_gV tw_667 tw_669 ts_M_here tw_5 tw_670) rfl rfl rfl (by decide +kernel) ⟨by rw [hR]; exact Nat.le_of_ble_eq_true rfl, by rw [hR]; exact Nat.le_of_ble_eq_true rfl⟩) (rg_preV rfl hK hP hD (ci := 0) (q0 := 0) rfl rfl) rfl rfl hl.1 rfl (lv_room (Nat.le_of_ble_eq_true rfl)) dM_undo_77 ⟨Nat.zero_le _, Nat.zero_le _⟩) (fun r9 u10 H locs hw11 hP hD hS => ?_)
  subst hw11
  have hP : va_P (dC, dI) rg_cl (rm_W h a cI cL (nI 0) (nI n) (nI b) cof mad nu co se li le fi sc ti (upd un (60 * b + ((U b).length)) (nI (T b))) (upd ma b (nI ((U b).length + 1))) dr fr to en) H := hP
  have hD : va_D A (rm_W h a cI cL (nI 0) (nI n) (nI b) cof mad nu co se li le fi sc ti (upd un (60 * b + ((U b).length)) (nI (T b))) (upd ma b (nI ((U b).length + 1))) dr fr to en) := hD
  refine rg_top (show (.int (ti b) : Value) = .int (nI (T b)) by rw [hti]) ?_
  refine rg_iald hx hb hK hP 6 0 rfl rfl (by decide) (by omega) dM_undo_80 ?_
  refine rg_top (show (.int (fi (T b)) : Value) = .int (nI j) by rw [hfi]) ?_
  refine rg_iast hx hb hK hP hD hS 8 0 rfl rfl (by decide) (by omega) dM_undo_81 (fun H locs hP hD hS => ?_)
  have hP : va_P (dC, dI) rg_cl (rm_W h a cI cL (nI 0) (nI n) (nI b) cof mad nu co se li le fi sc (upd ti b (nI j)) (upd un (60 * b + ((U b).length)) (nI (T b))) (upd ma b (nI ((U b).length + 1))) dr fr to en) H := hP
  have hD : va_D A (rm_W h a cI cL (nI 0) (nI n) (nI b) cof mad nu co se li le fi sc (upd ti b (nI j)) (upd un (60 * b + ((U b).length)) (nI (T b))) (upd ma b (nI ((U b).length + 1))) dr fr to en) := hD
  refine lv_aload_n hx hb dM_undo_82 rfl (lv_at hl 0 rfl) ?_
  refine rg_calli hD hS hA (va_runV (As := []) (rest := []) ⟨hx, hb, hml, hown, hts⟩ (c_rm_here b (by omega) _) (cwV 0 hts (rg_gV tw_667 tw_669 ts_M_here tw_5 tw_670) rfl rfl rfl (by decide +kernel) ⟨by rw [hR]; exact Nat.le_of_ble_eq_true rfl, by rw [hR]; exact Nat.le_of_ble_eq_true rfl⟩) (rg_preV rfl hK hP hD (ci := 0) (q0 := 0) rfl rfl) rfl rfl hl.1 rfl (lv_room (Nat.le_of_ble_eq_true rfl)) dM_undo_83 ⟨Nat.zero_le _, Nat.zero_le _⟩) (fun r12 u13 H locs hw14 hP hD hS => ?_)
  subst hw14
  have hP : va_P (dC, dI) rg_cl (rm_W h a cI cL (nI 0) (nI n) (nI b) cof mad nu co se li le fi sc (upd ti b (nI j)) (upd un (60 * b + ((U b).length)) (nI (T b))) (upd ma b (nI ((U b).length + 1))) dr fr to en) H := hP
  have hD : va_D A (rm_W h a cI cL (nI 0) (nI n) (nI b) cof mad nu co se li le fi sc (upd ti b (nI j)) (upd un (60 * b + ((U b).length)) (nI (T b))) (upd ma b (nI ((U b).length + 1))) dr fr to en) := hD
  refine rg_top (show (.int ((upd ti b (nI j)) b) : Value) = .int (nI j) by rw [pk_us]) ?_
  rw [hQ]
  exact rg_iret hx hb hr hlk hK hP hD hS dM_undo_86 (nI 0, nI n, nI b, cof, mad, nu, co, se, li, le, fi, sc, upd ti b (nI j), upd un (60 * b + ((U b).length)) (nI (T b)), upd ma b (nI ((U b).length + 1)), dr, fr, to, en) rfl (⟨rm_Rep_undo (g := (n, Rr, P1, P2, T, U, b, cof)) hrep hjt hP1, rfl, hP1.symm⟩)
theorem c_rm_undo {l : Launch} {dC : Nat → ClassId} {dI : Nat → Nat → Nat} {h : Nat} {a : Nat → Nat} {cI cL : ClassId} {cod : Int32} {cof : Int32} {mad : Int32} {nu : Nat → Int32} {co : Nat → Int64} {se : Nat → Int32} {li : Nat → Int32} {le : Nat → Int32} {fi : Nat → Int32} {sc : Nat → Int32} {ti : Nat → Int32} {un : Nat → Int32} {ma : Nat → Int32} {dr : Nat → Int32} {fr : Nat → Int32} {to : Nat → Int32} {en : Nat → Int32} (n b : Nat) (Rr : Nat → rg_R) (P1 P2 : Nat → Int32) (T : Nat → Nat) (U : Nat → List Nat) (hrep : rm_Rep (nI n) (nI b) cof nu co se li le fi sc ti un ma (n, Rr, P1, P2, T, U, b, cof)) : rg_M l yM_undo (Cond.code yM_undo prog_8_method_20_code 1 (some .int) :: rg_tbl) { frames := 1, cells := 0, slots := 0, locals := 20 } (dC, dI) rg_cl [(cI, .int), (cL, .long)] (rm_W h a cI cL cod (nI n) (nI b) cof mad nu co se li le fi sc ti un ma dr fr to en) [.ref h] (rg_QI (dC, dI) rg_cl [(cI, .int), (cL, .long)] (S := rm_S) (rm_Po (rg_oUndo (n, Rr, P1, P2, T, U, b, cof))) (fun u => rm_Wu h a cI cL u)) 0 0 := by
  have hb4 : b < 4 := hrep.1.2.2.2.2.2.2.2.1
  by_cases h0 : T b = 0
  · rw [show rg_oUndo (n, Rr, P1, P2, T, U, b, cof) = (1, 0, (n, Rr, P1, P2, T, U, b, cof)) from if_pos h0]; exact c_rm_undo_bad n b Rr P1 P2 T U h0 hrep
  · rw [show rg_oUndo (n, Rr, P1, P2, T, U, b, cof) = (0, P1 (T b), rg_undo (n, Rr, P1, P2, T, U, b, cof)) from if_neg h0]
    obtain ⟨j, hj, e9⟩ := hrep.1.2.2.2.2.1 (T b) (Nat.pos_of_ne_zero h0) (hrep.1.2.2.2.2.2.2.1 b hb4).1
    exact c_rm_undo_ok n b Rr P1 P2 T U j hj e9 hrep
set_option maxHeartbeats 4000000 in
set_option maxRecDepth 100000 in
theorem c_rm_redo_bad {l : Launch} {dC : Nat → ClassId} {dI : Nat → Nat → Nat} {h : Nat} {a : Nat → Nat} {cI cL : ClassId} {cod : Int32} {cof : Int32} {mad : Int32} {nu : Nat → Int32} {co : Nat → Int64} {se : Nat → Int32} {li : Nat → Int32} {le : Nat → Int32} {fi : Nat → Int32} {sc : Nat → Int32} {ti : Nat → Int32} {un : Nat → Int32} {ma : Nat → Int32} {dr : Nat → Int32} {fr : Nat → Int32} {to : Nat → Int32} {en : Nat → Int32} (n b : Nat) (Rr : Nat → rg_R) (P1 P2 : Nat → Int32) (T : Nat → Nat) (U : Nat → List Nat) (hU0 : (U b).length = 0) (hrep : rm_Rep (nI n) (nI b) cof nu co se li le fi sc ti un ma (n, Rr, P1, P2, T, U, b, cof)) : rg_M l yM_redo (Cond.code yM_redo prog_8_method_21_code 1 (some .int) :: rg_tbl) { frames := 1, cells := 0, slots := 0, locals := 20 } (dC, dI) rg_cl [(cI, .int), (cL, .long)] (rm_W h a cI cL cod (nI n) (nI b) cof mad nu co se li le fi sc ti un ma dr fr to en) [.ref h] (rg_QI (dC, dI) rg_cl [(cI, .int), (cL, .long)] (S := rm_S) (rm_Po (1, 0, (n, Rr, P1, P2, T, U, b, cof))) (fun u => rm_Wu h a cI cL u)) 0 0 := by
  refine rg_of prog_8_method_21_code 1 (some .int) (by decide) rfl (Nat.le_of_ble_eq_true rfl) ?_
  intro p e R s m args below meth c Q A H locs ls hR hQ hx hb hml hr hts hown hlk hnm hP hK hD hA hS hl
  have hl : lv_has ls 1 [(0, .ref h)] := hl
  have hts : ∀ w ∈ rg_tbl, w.before args s = true := fun w h => hts w (List.mem_cons_of_mem _ h)
  have hok := hrep.1
  have hn1 : 1 ≤ n := hok.1
  have hn60 : n ≤ 60 := hok.2.1
  have hb4 : b < 4 := hok.2.2.2.2.2.2.2.1
  have hTb : T b < n := (hok.2.2.2.2.2.2.1 b hb4).1
  have hti : ti b = nI (T b) := (hrep.2.2.2.2.2.2 b hb4).1
  have hma : ma b = nI (U b).length := (hrep.2.2.2.2.2.2 b hb4).2.1
  refine lv_aload_n hx hb dM_redo_0 rfl (lv_at hl 0 rfl) ?_
  refine lv_aload_n hx hb dM_redo_1 rfl (lv_at hl 0 rfl) ?_
  refine va_get (D := (dC, dI)) (ci := 0) (C := "RevisionGroveModel") (T := TM) (N := 19) hx hb hts inM hown hK hP 0 rfl rfl 12 (by decide) (hts _ tw_613) (fun _ h9 => h9) rfl dM_redo_2 ?_
  refine lv_aload_n hx hb dM_redo_5 rfl (lv_at hl 0 rfl) ?_
  refine va_get (D := (dC, dI)) (ci := 0) (C := "RevisionGroveModel") (T := TM) (N := 19) hx hb hts inM hown hK hP 0 rfl rfl 9 (by decide) (hts _ tw_610) (fun _ h9 => h9) rfl dM_redo_6 ?_
  refine rg_iald hx hb hK hP 10 0 rfl rfl (by decide) (by omega) dM_redo_9 ?_
  refine rg_top (show (.int (ma b) : Value) = .int (nI ((U b).length)) by rw [hma]) ?_
  refine rg_ifN_ne (tgt := 17) hx hb dM_redo_10 (by decide) (by omega) (fun h1 => by exfalso; omega) (fun h1 => ?_)
  refine lv_iconst (v := nI 1) hx hb dM_redo_13 (by decide) ?_
  refine lv_goto (tgt := 18) hx hb dM_redo_14 (by decide) ?_
  refine va_put (D := (dC, dI)) (ci := 0) (v := .int (nI 1)) (ty := .int) (C := "RevisionGroveModel") (T := TM) (N := 19) hx hb hts inM tyM tyM_ok nmM hown hK hP hD hS 0 rfl rfl 0 (by decide) (hts _ tw_601) (fun _ h9 => h9) rfl (by decide +kernel) rfl rfl (Nat.le_of_ble_eq_true rfl) dM_redo_18 (fun H locs hP hD hS => ?_)
  have hP : va_P (dC, dI) rg_cl (rm_W h a cI cL (nI 1) (nI n) (nI b) cof mad nu co se li le fi sc ti un ma dr fr to en) H := hP
  have hD : va_D A (rm_W h a cI cL (nI 1) (nI n) (nI b) cof mad nu co se li le fi sc ti un ma dr fr to en) := hD
  refine lv_aload_n hx hb dM_redo_21 rfl (lv_at hl 0 rfl) ?_
  refine va_get (D := (dC, dI)) (ci := 0) (C := "RevisionGroveModel") (T := TM) (N := 19) hx hb hts inM hown hK hP 0 rfl rfl 0 (by decide) (hts _ tw_601) (fun _ h9 => h9) rfl dM_redo_22 ?_
  refine rg_ifN_le (tgt := 30) hx hb dM_redo_25 (by decide) (by decide) (fun h2 => by exfalso; omega) (fun h2 => ?_)
  refine lv_iconst (v := nI 0) hx hb dM_redo_28 (by decide) ?_
  rw [hQ]
  exact rg_iret hx hb hr hlk hK hP hD hS dM_redo_29 (nI 1, nI n, nI b, cof, mad, nu, co, se, li, le, fi, sc, ti, un, ma, dr, fr, to, en) rfl (⟨hrep, rfl, rfl⟩)
set_option maxHeartbeats 4000000 in
set_option maxRecDepth 100000 in
theorem c_rm_redo_ok {l : Launch} {dC : Nat → ClassId} {dI : Nat → Nat → Nat} {h : Nat} {a : Nat → Nat} {cI cL : ClassId} {cod : Int32} {cof : Int32} {mad : Int32} {nu : Nat → Int32} {co : Nat → Int64} {se : Nat → Int32} {li : Nat → Int32} {le : Nat → Int32} {fi : Nat → Int32} {sc : Nat → Int32} {ti : Nat → Int32} {un : Nat → Int32} {ma : Nat → Int32} {dr : Nat → Int32} {fr : Nat → Int32} {to : Nat → Int32} {en : Nat → Int32} (n b : Nat) (Rr : Nat → rg_R) (P1 P2 : Nat → Int32) (T : Nat → Nat) (U : Nat → List Nat) (hU0 : 0 < (U b).length) (hrep : rm_Rep (nI n) (nI b) cof nu co se li le fi sc ti un ma (n, Rr, P1, P2, T, U, b, cof)) : rg_M l yM_redo (Cond.code yM_redo prog_8_method_21_code 1 (some .int) :: rg_tbl) { frames := 1, cells := 0, slots := 0, locals := 20 } (dC, dI) rg_cl [(cI, .int), (cL, .long)] (rm_W h a cI cL cod (nI n) (nI b) cof mad nu co se li le fi sc ti un ma dr fr to en) [.ref h] (rg_QI (dC, dI) rg_cl [(cI, .int), (cL, .long)] (S := rm_S) (rm_Po (0, nI (ra_last (U b)), rg_redo (n, Rr, P1, P2, T, U, b, cof))) (fun u => rm_Wu h a cI cL u)) 0 0 := by
  refine rg_of prog_8_method_21_code 1 (some .int) (by decide) rfl (Nat.le_of_ble_eq_true rfl) ?_
  intro p e R s m args below meth c Q A H locs ls hR hQ hx hb hml hr hts hown hlk hnm hP hK hD hA hS hl
  have hl : lv_has ls 1 [(0, .ref h)] := hl
  have hts : ∀ w ∈ rg_tbl, w.before args s = true := fun w h => hts w (List.mem_cons_of_mem _ h)
  have hok := hrep.1
  have hn1 : 1 ≤ n := hok.1
  have hn60 : n ≤ 60 := hok.2.1
  have hb4 : b < 4 := hok.2.2.2.2.2.2.2.1
  have hTb : T b < n := (hok.2.2.2.2.2.2.1 b hb4).1
  have hti : ti b = nI (T b) := (hrep.2.2.2.2.2.2 b hb4).1
  have hma : ma b = nI (U b).length := (hrep.2.2.2.2.2.2 b hb4).2.1
  have hUl := rg_fall_lt (hok.2.2.2.2.2.2.1 b hb4).2.2 (hok.2.2.2.2.2.2.1 b hb4).2.1 hTb
  have hUl : (U b).length + T b < n := hUl
  have hun : un (60 * b + ((U b).length - 1)) = nI (ra_last (U b)) := (hrep.2.2.2.2.2.2 b hb4).2.2 ((U b).length - 1) (Nat.sub_lt hU0 (by decide))
  refine lv_aload_n hx hb dM_redo_0 rfl (lv_at hl 0 rfl) ?_
  refine lv_aload_n hx hb dM_redo_1 rfl (lv_at hl 0 rfl) ?_
  refine va_get (D := (dC, dI)) (ci := 0) (C := "RevisionGroveModel") (T := TM) (N := 19) hx hb hts inM hown hK hP 0 rfl rfl 12 (by decide) (hts _ tw_613) (fun _ h9 => h9) rfl dM_redo_2 ?_
  refine lv_aload_n hx hb dM_redo_5 rfl (lv_at hl 0 rfl) ?_
  refine va_get (D := (dC, dI)) (ci := 0) (C := "RevisionGroveModel") (T := TM) (N := 19) hx hb hts inM hown hK hP 0 rfl rfl 9 (by decide) (hts _ tw_610) (fun _ h9 => h9) rfl dM_redo_6 ?_
  refine rg_iald hx hb hK hP 10 0 rfl rfl (by decide) (by omega) dM_redo_9 ?_
  refine rg_top (show (.int (ma b) : Value) = .int (nI ((U b).length)) by rw [hma]) ?_
  refine rg_ifN_ne (tgt := 17) hx hb dM_redo_10 (by decide) (by omega) (fun h1 => ?_) (fun h1 => by exfalso; omega)
  refine lv_iconst (v := nI 0) hx hb dM_redo_17 (by decide) ?_
  refine va_put (D := (dC, dI)) (ci := 0) (v := .int (nI 0)) (ty := .int) (C := "RevisionGroveModel") (T := TM) (N := 19) hx hb hts inM tyM tyM_ok nmM hown hK hP hD hS 0 rfl rfl 0 (by decide) (hts _ tw_601) (fun _ h9 => h9) rfl (by decide +kernel) rfl rfl (Nat.le_of_ble_eq_true rfl) dM_redo_18 (fun H locs hP hD hS => ?_)
  have hP : va_P (dC, dI) rg_cl (rm_W h a cI cL (nI 0) (nI n) (nI b) cof mad nu co se li le fi sc ti un ma dr fr to en) H := hP
  have hD : va_D A (rm_W h a cI cL (nI 0) (nI n) (nI b) cof mad nu co se li le fi sc ti un ma dr fr to en) := hD
  refine lv_aload_n hx hb dM_redo_21 rfl (lv_at hl 0 rfl) ?_
  refine va_get (D := (dC, dI)) (ci := 0) (C := "RevisionGroveModel") (T := TM) (N := 19) hx hb hts inM hown hK hP 0 rfl rfl 0 (by decide) (hts _ tw_601) (fun _ h9 => h9) rfl dM_redo_22 ?_
  refine rg_ifN_le (tgt := 30) hx hb dM_redo_25 (by decide) (by decide) (fun h2 => ?_) (fun h2 => by exfalso; omega)
  refine lv_aload_n hx hb dM_redo_30 rfl (lv_at hl 0 rfl) ?_
  refine va_get (D := (dC, dI)) (ci := 0) (C := "RevisionGroveModel") (T := TM) (N := 19) hx hb hts inM hown hK hP 0 rfl rfl 12 (by decide) (hts _ tw_613) (fun _ h9 => h9) rfl dM_redo_31 ?_
  refine lv_aload_n hx hb dM_redo_34 rfl (lv_at hl 0 rfl) ?_
  refine va_get (D := (dC, dI)) (ci := 0) (C := "RevisionGroveModel") (T := TM) (N := 19) hx hb hts inM hown hK hP 0 rfl rfl 9 (by decide) (hts _ tw_610) (fun _ h9 => h9) rfl dM_redo_35 ?_
  refine lv_dup2_11 hx hb dM_redo_38 rfl rfl ?_
  refine rg_iald hx hb hK hP 10 0 rfl rfl (by decide) (by omega) dM_redo_39 ?_
  refine rg_top (show (.int (ma b) : Value) = .int (nI ((U b).length)) by rw [hma]) ?_
  refine lv_iconst (v := nI 1) hx hb dM_redo_40 (by decide) ?_
  refine rg_isub hx hb dM_redo_41 (by omega) ?_
  refine rg_iast hx hb hK hP hD hS 10 0 rfl rfl (by decide) (by omega) dM_redo_42 (fun H locs hP hD hS => ?_)
  have hP : va_P (dC, dI) rg_cl (rm_W h a cI cL (nI 0) (nI n) (nI b) cof mad nu co se li le fi sc ti un (upd ma b (nI ((U b).length - 1))) dr fr to en) H := hP
  have hD : va_D A (rm_W h a cI cL (nI 0) (nI n) (nI b) cof mad nu co se li le fi sc ti un (upd ma b (nI ((U b).length - 1))) dr fr to en) := hD
  refine lv_aload_n hx hb dM_redo_43 rfl (lv_at hl 0 rfl) ?_
  refine va_get (D := (dC, dI)) (ci := 0) (C := "RevisionGroveModel") (T := TM) (N := 19) hx hb hts inM hown hK hP 0 rfl rfl 10 (by decide) (hts _ tw_611) (fun _ h9 => h9) rfl dM_redo_44 ?_
  refine lv_aload_n hx hb dM_redo_47 rfl (lv_at hl 0 rfl) ?_
  refine va_get (D := (dC, dI)) (ci := 0) (C := "RevisionGroveModel") (T := TM) (N := 19) hx hb hts inM hown hK hP 0 rfl rfl 9 (by decide) (hts _ tw_610) (fun _ h9 => h9) rfl dM_redo_48 ?_
  refine lv_aload_n hx hb dM_redo_51 rfl (lv_at hl 0 rfl) ?_
  refine va_get (D := (dC, dI)) (ci := 0) (C := "RevisionGroveModel") (T := TM) (N := 19) hx hb hts inM hown hK hP 0 rfl rfl 11 (by decide) (hts _ tw_612) (fun _ h9 => h9) rfl dM_redo_52 ?_
  refine lv_bipush (v := nI 60) hx hb dM_redo_55 (by decide) ?_
  refine lv_aload_n hx hb dM_redo_57 rfl (lv_at hl 0 rfl) ?_
  refine va_get (D := (dC, dI)) (ci := 0) (C := "RevisionGroveModel") (T := TM) (N := 19) hx hb hts inM hown hK hP 0 rfl rfl 9 (by decide) (hts _ tw_610) (fun _ h9 => h9) rfl dM_redo_58 ?_
  refine rg_imul hx hb dM_redo_61 ?_
  refine lv_aload_n hx hb dM_redo_62 rfl (lv_at hl 0 rfl) ?_
  refine va_get (D := (dC, dI)) (ci := 0) (C := "RevisionGroveModel") (T := TM) (N := 19) hx hb hts inM hown hK hP 0 rfl rfl 12 (by decide) (hts _ tw_613) (fun _ h9 => h9) rfl dM_redo_63 ?_
  refine lv_aload_n hx hb dM_redo_66 rfl (lv_at hl 0 rfl) ?_
  refine va_get (D := (dC, dI)) (ci := 0) (C := "RevisionGroveModel") (T := TM) (N := 19) hx hb hts inM hown hK hP 0 rfl rfl 9 (by decide) (hts _ tw_610) (fun _ h9 => h9) rfl dM_redo_67 ?_
  refine rg_iald hx hb hK hP 10 0 rfl rfl (by decide) (by omega) dM_redo_70 ?_
  refine rg_top (show (.int ((upd ma b (nI ((U b).length - 1))) b) : Value) = .int (nI ((U b).length - 1)) by rw [pk_us]) ?_
  refine rg_iadd hx hb dM_redo_71 ?_
  refine rg_iald hx hb hK hP 9 0 rfl rfl (by decide) (by omega) dM_redo_72 ?_
  refine rg_top (show (.int (un (60 * b + ((U b).length - 1))) : Value) = .int (nI (ra_last (U b))) by rw [hun]) ?_
  refine rg_iast hx hb hK hP hD hS 8 0 rfl rfl (by decide) (by omega) dM_redo_73 (fun H locs hP hD hS => ?_)
  have hP : va_P (dC, dI) rg_cl (rm_W h a cI cL (nI 0) (nI n) (nI b) cof mad nu co se li le fi sc (upd ti b (nI (ra_last (U b)))) un (upd ma b (nI ((U b).length - 1))) dr fr to en) H := hP
  have hD : va_D A (rm_W h a cI cL (nI 0) (nI n) (nI b) cof mad nu co se li le fi sc (upd ti b (nI (ra_last (U b)))) un (upd ma b (nI ((U b).length - 1))) dr fr to en) := hD
  refine lv_aload_n hx hb dM_redo_74 rfl (lv_at hl 0 rfl) ?_
  refine rg_calli hD hS hA (va_runV (As := []) (rest := []) ⟨hx, hb, hml, hown, hts⟩ (c_rm_here b (by omega) _) (cwV 0 hts (rg_gV tw_667 tw_669 ts_M_here tw_5 tw_670) rfl rfl rfl (by decide +kernel) ⟨by rw [hR]; exact Nat.le_of_ble_eq_true rfl, by rw [hR]; exact Nat.le_of_ble_eq_true rfl⟩) (rg_preV rfl hK hP hD (ci := 0) (q0 := 0) rfl rfl) rfl rfl hl.1 rfl (lv_room (Nat.le_of_ble_eq_true rfl)) dM_redo_75 ⟨Nat.zero_le _, Nat.zero_le _⟩) (fun r3 u4 H locs hw5 hP hD hS => ?_)
  subst hw5
  have hP : va_P (dC, dI) rg_cl (rm_W h a cI cL (nI 0) (nI n) (nI b) cof mad nu co se li le fi sc (upd ti b (nI (ra_last (U b)))) un (upd ma b (nI ((U b).length - 1))) dr fr to en) H := hP
  have hD : va_D A (rm_W h a cI cL (nI 0) (nI n) (nI b) cof mad nu co se li le fi sc (upd ti b (nI (ra_last (U b)))) un (upd ma b (nI ((U b).length - 1))) dr fr to en) := hD
  refine rg_top (show (.int ((upd ti b (nI (ra_last (U b)))) b) : Value) = .int (nI (ra_last (U b))) by rw [pk_us]) ?_
  rw [hQ]
  exact rg_iret hx hb hr hlk hK hP hD hS dM_redo_78 (nI 0, nI n, nI b, cof, mad, nu, co, se, li, le, fi, sc, upd ti b (nI (ra_last (U b))), un, upd ma b (nI ((U b).length - 1)), dr, fr, to, en) rfl (⟨rm_Rep_redo (g := (n, Rr, P1, P2, T, U, b, cof)) hrep hU0, rfl, rfl⟩)
theorem c_rm_redo {l : Launch} {dC : Nat → ClassId} {dI : Nat → Nat → Nat} {h : Nat} {a : Nat → Nat} {cI cL : ClassId} {cod : Int32} {cof : Int32} {mad : Int32} {nu : Nat → Int32} {co : Nat → Int64} {se : Nat → Int32} {li : Nat → Int32} {le : Nat → Int32} {fi : Nat → Int32} {sc : Nat → Int32} {ti : Nat → Int32} {un : Nat → Int32} {ma : Nat → Int32} {dr : Nat → Int32} {fr : Nat → Int32} {to : Nat → Int32} {en : Nat → Int32} (n b : Nat) (Rr : Nat → rg_R) (P1 P2 : Nat → Int32) (T : Nat → Nat) (U : Nat → List Nat) (hrep : rm_Rep (nI n) (nI b) cof nu co se li le fi sc ti un ma (n, Rr, P1, P2, T, U, b, cof)) : rg_M l yM_redo (Cond.code yM_redo prog_8_method_21_code 1 (some .int) :: rg_tbl) { frames := 1, cells := 0, slots := 0, locals := 20 } (dC, dI) rg_cl [(cI, .int), (cL, .long)] (rm_W h a cI cL cod (nI n) (nI b) cof mad nu co se li le fi sc ti un ma dr fr to en) [.ref h] (rg_QI (dC, dI) rg_cl [(cI, .int), (cL, .long)] (S := rm_S) (rm_Po (rg_oRedo (n, Rr, P1, P2, T, U, b, cof))) (fun u => rm_Wu h a cI cL u)) 0 0 := by
  by_cases h0 : (U b).length = 0
  · rw [show rg_oRedo (n, Rr, P1, P2, T, U, b, cof) = (1, 0, (n, Rr, P1, P2, T, U, b, cof)) from if_pos h0]; exact c_rm_redo_bad n b Rr P1 P2 T U h0 hrep
  · rw [show rg_oRedo (n, Rr, P1, P2, T, U, b, cof) = (0, nI (ra_last (U b)), rg_redo (n, Rr, P1, P2, T, U, b, cof)) from if_neg h0]
    exact c_rm_redo_ok n b Rr P1 P2 T U (Nat.pos_of_ne_zero h0) hrep
set_option maxHeartbeats 4000000 in
set_option maxRecDepth 100000 in
theorem c_rm_conflicts {l : Launch} {dC : Nat → ClassId} {dI : Nat → Nat → Nat} {h : Nat} {a : Nat → Nat} {cI cL : ClassId} {cod : Int32} {cof : Int32} {mad : Int32} {nu : Nat → Int32} {co : Nat → Int64} {se : Nat → Int32} {li : Nat → Int32} {le : Nat → Int32} {fi : Nat → Int32} {sc : Nat → Int32} {ti : Nat → Int32} {un : Nat → Int32} {ma : Nat → Int32} {dr : Nat → Int32} {fr : Nat → Int32} {to : Nat → Int32} {en : Nat → Int32} (n b : Nat) (Rr : Nat → rg_R) (P1 P2 : Nat → Int32) (T : Nat → Nat) (U : Nat → List Nat)  (hrep : rm_Rep (nI n) (nI b) cof nu co se li le fi sc ti un ma (n, Rr, P1, P2, T, U, b, cof)) : rg_M l yM_conflicts (Cond.code yM_conflicts prog_8_method_32_code 1 (some .int) :: rg_tbl) { frames := 0, cells := 0, slots := 0, locals := 0 } (dC, dI) rg_cl [(cI, .int), (cL, .long)] (rm_W h a cI cL cod (nI n) (nI b) cof mad nu co se li le fi sc ti un ma dr fr to en) [.ref h] (rg_QI (dC, dI) rg_cl [(cI, .int), (cL, .long)] (S := rm_S) (rm_Po (0, cof, (n, Rr, P1, P2, T, U, b, cof))) (fun u => rm_Wu h a cI cL u)) 0 0 := by
  refine rg_of prog_8_method_32_code 1 (some .int) (by decide) rfl (Nat.le_of_ble_eq_true rfl) ?_
  intro p e R s m args below meth c Q A H locs ls hR hQ hx hb hml hr hts hown hlk hnm hP hK hD hA hS hl
  have hl : lv_has ls 1 [(0, .ref h)] := hl
  have hts : ∀ w ∈ rg_tbl, w.before args s = true := fun w h => hts w (List.mem_cons_of_mem _ h)
  have hok := hrep.1
  have hn1 : 1 ≤ n := hok.1
  have hn60 : n ≤ 60 := hok.2.1
  have hb4 : b < 4 := hok.2.2.2.2.2.2.2.1
  have hTb : T b < n := (hok.2.2.2.2.2.2.1 b hb4).1
  have hti : ti b = nI (T b) := (hrep.2.2.2.2.2.2 b hb4).1
  have hma : ma b = nI (U b).length := (hrep.2.2.2.2.2.2 b hb4).2.1
  refine lv_aload_n hx hb dM_conflicts_0 rfl (lv_at hl 0 rfl) ?_
  refine lv_iconst (v := nI 0) hx hb dM_conflicts_1 (by decide) ?_
  refine va_put (D := (dC, dI)) (ci := 0) (v := .int (nI 0)) (ty := .int) (C := "RevisionGroveModel") (T := TM) (N := 19) hx hb hts inM tyM tyM_ok nmM hown hK hP hD hS 0 rfl rfl 0 (by decide) (hts _ tw_601) (fun _ h9 => h9) rfl (by decide +kernel) rfl rfl (Nat.le_of_ble_eq_true rfl) dM_conflicts_2 (fun H locs hP hD hS => ?_)
  have hP : va_P (dC, dI) rg_cl (rm_W h a cI cL (nI 0) (nI n) (nI b) cof mad nu co se li le fi sc ti un ma dr fr to en) H := hP
  have hD : va_D A (rm_W h a cI cL (nI 0) (nI n) (nI b) cof mad nu co se li le fi sc ti un ma dr fr to en) := hD
  refine lv_aload_n hx hb dM_conflicts_5 rfl (lv_at hl 0 rfl) ?_
  refine va_get (D := (dC, dI)) (ci := 0) (C := "RevisionGroveModel") (T := TM) (N := 19) hx hb hts inM hown hK hP 0 rfl rfl 13 (by decide) (hts _ tw_614) (fun _ h9 => h9) rfl dM_conflicts_6 ?_
  rw [hQ]
  exact rg_iret hx hb hr hlk hK hP hD hS dM_conflicts_9 (nI 0, nI n, nI b, cof, mad, nu, co, se, li, le, fi, sc, ti, un, ma, dr, fr, to, en) rfl (⟨hrep, rfl, rfl⟩)
