set_option maxHeartbeats 4000000 in
set_option maxRecDepth 100000 in
theorem c_rm_parent_ok {l : Launch} {dC : Nat → ClassId} {dI : Nat → Nat → Nat} {h : Nat} {a : Nat → Nat} {cI cL : ClassId} {cod : Int32} {cof : Int32} {mad : Int32} {nu : Nat → Int32} {co : Nat → Int64} {se : Nat → Int32} {li : Nat → Int32} {le : Nat → Int32} {fi : Nat → Int32} {sc : Nat → Int32} {ti : Nat → Int32} {un : Nat → Int32} {ma : Nat → Int32} {dr : Nat → Int32} {fr : Nat → Int32} {to : Nat → Int32} {en : Nat → Int32} (n b : Nat) (Rr : Nat → rg_R) (P1 P2 : Nat → Int32) (T : Nat → Nat) (U : Nat → List Nat) (j : Nat) (w : Bool) (hjn : j < n) (hrep : rm_Rep (nI n) (nI b) cof nu co se li le fi sc ti un ma (n, Rr, P1, P2, T, U, b, cof)) : rg_M l yM_parent (Cond.code yM_parent prog_8_method_36_code 3 (some .int) :: rg_tbl) { frames := 1, cells := 0, slots := 0, locals := 21 } (dC, dI) rg_cl [(cI, .int), (cL, .long)] (rm_W h a cI cL cod (nI n) (nI b) cof mad nu co se li le fi sc ti un ma dr fr to en) [.ref h, .int (nI j), .int (bif w then 1 else 0)] (rg_QI (dC, dI) rg_cl [(cI, .int), (cL, .long)] (S := rm_S) (rm_Po (0, bif w then P2 j else P1 j, (n, Rr, P1, P2, T, U, b, cof))) (fun u => rm_Wu h a cI cL u)) 0 0 := by
  refine rg_of prog_8_method_36_code 3 (some .int) (by decide) rfl (Nat.le_of_ble_eq_true rfl) ?_
  intro p e R s m args below meth c Q A H locs ls hR hQ hx hb hml hr hts hown hlk hnm hP hK hD hA hS hl
  have hl : lv_has ls 3 [(0, .ref h), (1, .int (nI j)), (2, .int (bif w then 1 else 0))] := hl
  have hts : ∀ w ∈ rg_tbl, w.before args s = true := fun w h => hts w (List.mem_cons_of_mem _ h)
  have hok := hrep.1
  have hn1 : 1 ≤ n := hok.1
  have hn60 : n ≤ 60 := hok.2.1
  have hb4 : b < 4 := hok.2.2.2.2.2.2.2.1
  have hTb : T b < n := (hok.2.2.2.2.2.2.1 b hb4).1
  have hti : ti b = nI (T b) := (hrep.2.2.2.2.2.2 b hb4).1
  have hma : ma b = nI (U b).length := (hrep.2.2.2.2.2.2 b hb4).2.1
  have hB := rg_isR_ok (n := n) (by omega) hjn
  have hPj := hrep.2.2.2.2.2.1 j hjn
  have hPj1 : fi j = P1 j := hPj.1
  have hPj2 : sc j = P2 j := hPj.2
  refine lv_aload_n hx hb dM_parent_0 rfl (lv_at hl 0 rfl) ?_
  refine lv_aload_n hx hb dM_parent_1 rfl (lv_at hl 0 rfl) ?_
  refine lv_iload_n hx hb dM_parent_2 rfl (lv_at hl 1 rfl) ?_
  refine rg_calli hD hS hA (va_runV (As := [.int (nI j)]) (rest := [.ref h]) ⟨hx, hb, hml, hown, hts⟩ (c_rm_isRevision n (nI j) _) (cwV 1 hts (rg_gV tw_726 tw_728 ts_M_isRevision tw_5 tw_729) rfl rfl rfl (by decide +kernel) ⟨by rw [hR]; exact Nat.le_of_ble_eq_true rfl, by rw [hR]; exact Nat.le_of_ble_eq_true rfl⟩) (rg_preV rfl hK hP hD (ci := 0) (q0 := 0) rfl rfl) rfl rfl hl.1 rfl (lv_room (Nat.le_of_ble_eq_true rfl)) dM_parent_3 ⟨Nat.zero_le _, Nat.zero_le _⟩) (fun r1 u2 H locs hw3 hP hD hS => ?_)
  subst hw3
  have hP : va_P (dC, dI) rg_cl (rm_W h a cI cL cod (nI n) (nI b) cof mad nu co se li le fi sc ti un ma dr fr to en) H := hP
  have hD : va_D A (rm_W h a cI cL cod (nI n) (nI b) cof mad nu co se li le fi sc ti un ma dr fr to en) := hD
  refine rg_ifz_eq (tgt := 13) hx hb dM_parent_6 (by decide) (fun h4 => absurd (hB.symm.trans h4) (by decide)) (fun h4 => ?_)
  refine lv_iconst (v := nI 0) hx hb dM_parent_9 (by decide) ?_
  refine lv_goto (tgt := 14) hx hb dM_parent_10 (by decide) ?_
  refine va_put (D := (dC, dI)) (ci := 0) (v := .int (nI 0)) (ty := .int) (C := "RevisionGroveModel") (T := TM) (N := 19) hx hb hts inM tyM tyM_ok nmM hown hK hP hD hS 0 rfl rfl 0 (by decide) (hts _ tw_601) (fun _ h9 => h9) rfl (by decide +kernel) rfl rfl (Nat.le_of_ble_eq_true rfl) dM_parent_14 (fun H locs hP hD hS => ?_)
  have hP : va_P (dC, dI) rg_cl (rm_W h a cI cL (nI 0) (nI n) (nI b) cof mad nu co se li le fi sc ti un ma dr fr to en) H := hP
  have hD : va_D A (rm_W h a cI cL (nI 0) (nI n) (nI b) cof mad nu co se li le fi sc ti un ma dr fr to en) := hD
  refine lv_aload_n hx hb dM_parent_17 rfl (lv_at hl 0 rfl) ?_
  refine va_get (D := (dC, dI)) (ci := 0) (C := "RevisionGroveModel") (T := TM) (N := 19) hx hb hts inM hown hK hP 0 rfl rfl 0 (by decide) (hts _ tw_601) (fun _ h9 => h9) rfl dM_parent_18 ?_
  refine rg_ifN_le (tgt := 28) hx hb dM_parent_21 (by decide) (by decide) (fun h5 => ?_) (fun h5 => by exfalso; omega)
  refine lv_iload_n hx hb dM_parent_28 rfl (lv_at hl 2 rfl) ?_
  refine rg_ifz_eq (tgt := 41) hx hb dM_parent_29 (by decide) (fun h6 => ?_) (fun h6 => ?_)
  · refine lv_aload_n hx hb dM_parent_41 rfl (lv_at hl 0 rfl) ?_
    refine va_get (D := (dC, dI)) (ci := 0) (C := "RevisionGroveModel") (T := TM) (N := 19) hx hb hts inM hown hK hP 0 rfl rfl 7 (by decide) (hts _ tw_608) (fun _ h9 => h9) rfl dM_parent_42 ?_
    refine lv_iload_n hx hb dM_parent_45 rfl (lv_at hl 1 rfl) ?_
    refine rg_iald hx hb hK hP 6 0 rfl rfl (by decide) (by omega) dM_parent_46 ?_
    refine rg_top (show (.int (fi j) : Value) = .int (P1 j) by rw [hPj1]) ?_
    rw [hQ]
    exact rg_iret hx hb hr hlk hK hP hD hS dM_parent_47 (nI 0, nI n, nI b, cof, mad, nu, co, se, li, le, fi, sc, ti, un, ma, dr, fr, to, en) rfl (⟨hrep, rfl, by rw [h6]; rfl⟩)
  · refine lv_aload_n hx hb dM_parent_32 rfl (lv_at hl 0 rfl) ?_
    refine va_get (D := (dC, dI)) (ci := 0) (C := "RevisionGroveModel") (T := TM) (N := 19) hx hb hts inM hown hK hP 0 rfl rfl 8 (by decide) (hts _ tw_609) (fun _ h9 => h9) rfl dM_parent_33 ?_
    refine lv_iload_n hx hb dM_parent_36 rfl (lv_at hl 1 rfl) ?_
    refine rg_iald hx hb hK hP 7 0 rfl rfl (by decide) (by omega) dM_parent_37 ?_
    refine rg_top (show (.int (sc j) : Value) = .int (P2 j) by rw [hPj2]) ?_
    refine lv_goto (tgt := 47) hx hb dM_parent_38 (by decide) ?_
    rw [hQ]
    exact rg_iret hx hb hr hlk hK hP hD hS dM_parent_47 (nI 0, nI n, nI b, cof, mad, nu, co, se, li, le, fi, sc, ti, un, ma, dr, fr, to, en) rfl (⟨hrep, rfl, by rw [h6]; rfl⟩)
set_option maxHeartbeats 4000000 in
set_option maxRecDepth 100000 in
theorem c_rm_parent_bad {l : Launch} {dC : Nat → ClassId} {dI : Nat → Nat → Nat} {h : Nat} {a : Nat → Nat} {cI cL : ClassId} {cod : Int32} {cof : Int32} {mad : Int32} {nu : Nat → Int32} {co : Nat → Int64} {se : Nat → Int32} {li : Nat → Int32} {le : Nat → Int32} {fi : Nat → Int32} {sc : Nat → Int32} {ti : Nat → Int32} {un : Nat → Int32} {ma : Nat → Int32} {dr : Nat → Int32} {fr : Nat → Int32} {to : Nat → Int32} {en : Nat → Int32} (n b : Nat) (Rr : Nat → rg_R) (P1 P2 : Nat → Int32) (T : Nat → Nat) (U : Nat → List Nat) (x : Int32) (w : Bool) (hB : rg_isR n x = false) (hrep : rm_Rep (nI n) (nI b) cof nu co se li le fi sc ti un ma (n, Rr, P1, P2, T, U, b, cof)) : rg_M l yM_parent (Cond.code yM_parent prog_8_method_36_code 3 (some .int) :: rg_tbl) { frames := 1, cells := 0, slots := 0, locals := 21 } (dC, dI) rg_cl [(cI, .int), (cL, .long)] (rm_W h a cI cL cod (nI n) (nI b) cof mad nu co se li le fi sc ti un ma dr fr to en) [.ref h, .int x, .int (bif w then 1 else 0)] (rg_QI (dC, dI) rg_cl [(cI, .int), (cL, .long)] (S := rm_S) (rm_Po (1, 0, (n, Rr, P1, P2, T, U, b, cof))) (fun u => rm_Wu h a cI cL u)) 0 0 := by
  refine rg_of prog_8_method_36_code 3 (some .int) (by decide) rfl (Nat.le_of_ble_eq_true rfl) ?_
  intro p e R s m args below meth c Q A H locs ls hR hQ hx hb hml hr hts hown hlk hnm hP hK hD hA hS hl
  have hl : lv_has ls 3 [(0, .ref h), (1, .int x), (2, .int (bif w then 1 else 0))] := hl
  have hts : ∀ w ∈ rg_tbl, w.before args s = true := fun w h => hts w (List.mem_cons_of_mem _ h)
  have hok := hrep.1
  have hn1 : 1 ≤ n := hok.1
  have hn60 : n ≤ 60 := hok.2.1
  have hb4 : b < 4 := hok.2.2.2.2.2.2.2.1
  have hTb : T b < n := (hok.2.2.2.2.2.2.1 b hb4).1
  have hti : ti b = nI (T b) := (hrep.2.2.2.2.2.2 b hb4).1
  have hma : ma b = nI (U b).length := (hrep.2.2.2.2.2.2 b hb4).2.1
  refine lv_aload_n hx hb dM_parent_0 rfl (lv_at hl 0 rfl) ?_
  refine lv_aload_n hx hb dM_parent_1 rfl (lv_at hl 0 rfl) ?_
  refine lv_iload_n hx hb dM_parent_2 rfl (lv_at hl 1 rfl) ?_
  refine rg_calli hD hS hA (va_runV (As := [.int x]) (rest := [.ref h]) ⟨hx, hb, hml, hown, hts⟩ (c_rm_isRevision n x _) (cwV 1 hts (rg_gV tw_726 tw_728 ts_M_isRevision tw_5 tw_729) rfl rfl rfl (by decide +kernel) ⟨by rw [hR]; exact Nat.le_of_ble_eq_true rfl, by rw [hR]; exact Nat.le_of_ble_eq_true rfl⟩) (rg_preV rfl hK hP hD (ci := 0) (q0 := 0) rfl rfl) rfl rfl hl.1 rfl (lv_room (Nat.le_of_ble_eq_true rfl)) dM_parent_3 ⟨Nat.zero_le _, Nat.zero_le _⟩) (fun r1 u2 H locs hw3 hP hD hS => ?_)
  subst hw3
  have hP : va_P (dC, dI) rg_cl (rm_W h a cI cL cod (nI n) (nI b) cof mad nu co se li le fi sc ti un ma dr fr to en) H := hP
  have hD : va_D A (rm_W h a cI cL cod (nI n) (nI b) cof mad nu co se li le fi sc ti un ma dr fr to en) := hD
  refine rg_ifz_eq (tgt := 13) hx hb dM_parent_6 (by decide) (fun h4 => ?_) (fun h4 => absurd (hB.symm.trans h4) (by decide))
  refine lv_iconst (v := nI 1) hx hb dM_parent_13 (by decide) ?_
  refine va_put (D := (dC, dI)) (ci := 0) (v := .int (nI 1)) (ty := .int) (C := "RevisionGroveModel") (T := TM) (N := 19) hx hb hts inM tyM tyM_ok nmM hown hK hP hD hS 0 rfl rfl 0 (by decide) (hts _ tw_601) (fun _ h9 => h9) rfl (by decide +kernel) rfl rfl (Nat.le_of_ble_eq_true rfl) dM_parent_14 (fun H locs hP hD hS => ?_)
  have hP : va_P (dC, dI) rg_cl (rm_W h a cI cL (nI 1) (nI n) (nI b) cof mad nu co se li le fi sc ti un ma dr fr to en) H := hP
  have hD : va_D A (rm_W h a cI cL (nI 1) (nI n) (nI b) cof mad nu co se li le fi sc ti un ma dr fr to en) := hD
  refine lv_aload_n hx hb dM_parent_17 rfl (lv_at hl 0 rfl) ?_
  refine va_get (D := (dC, dI)) (ci := 0) (C := "RevisionGroveModel") (T := TM) (N := 19) hx hb hts inM hown hK hP 0 rfl rfl 0 (by decide) (hts _ tw_601) (fun _ h9 => h9) rfl dM_parent_18 ?_
  refine rg_ifN_le (tgt := 28) hx hb dM_parent_21 (by decide) (by decide) (fun h5 => by exfalso; omega) (fun h5 => ?_)
  refine lv_iconst (v := nI 0) hx hb dM_parent_24 (by decide) ?_
  refine lv_goto (tgt := 47) hx hb dM_parent_25 (by decide) ?_
  rw [hQ]
  exact rg_iret hx hb hr hlk hK hP hD hS dM_parent_47 (nI 1, nI n, nI b, cof, mad, nu, co, se, li, le, fi, sc, ti, un, ma, dr, fr, to, en) rfl (⟨hrep, rfl, rfl⟩)
theorem c_rm_parent {l : Launch} {dC : Nat → ClassId} {dI : Nat → Nat → Nat} {h : Nat} {a : Nat → Nat} {cI cL : ClassId} {cod : Int32} {cof : Int32} {mad : Int32} {nu : Nat → Int32} {co : Nat → Int64} {se : Nat → Int32} {li : Nat → Int32} {le : Nat → Int32} {fi : Nat → Int32} {sc : Nat → Int32} {ti : Nat → Int32} {un : Nat → Int32} {ma : Nat → Int32} {dr : Nat → Int32} {fr : Nat → Int32} {to : Nat → Int32} {en : Nat → Int32} (n b : Nat) (Rr : Nat → rg_R) (P1 P2 : Nat → Int32) (T : Nat → Nat) (U : Nat → List Nat) (x : Int32) (w : Bool) (hrep : rm_Rep (nI n) (nI b) cof nu co se li le fi sc ti un ma (n, Rr, P1, P2, T, U, b, cof)) : rg_M l yM_parent (Cond.code yM_parent prog_8_method_36_code 3 (some .int) :: rg_tbl) { frames := 1, cells := 0, slots := 0, locals := 21 } (dC, dI) rg_cl [(cI, .int), (cL, .long)] (rm_W h a cI cL cod (nI n) (nI b) cof mad nu co se li le fi sc ti un ma dr fr to en) [.ref h, .int x, .int (bif w then 1 else 0)] (rg_QI (dC, dI) rg_cl [(cI, .int), (cL, .long)] (S := rm_S) (rm_Po (rg_oPar (n, Rr, P1, P2, T, U, b, cof) x w)) (fun u => rm_Wu h a cI cL u)) 0 0 := by
  unfold rg_oPar
  show rg_M _ _ _ _ _ _ _ _ _ (rg_QI _ _ _ (rm_Po (bif rg_isR n x then _ else _)) _) _ _
  cases hB : rg_isR n x with
  | false => exact c_rm_parent_bad n b Rr P1 P2 T U x w hB hrep
  | true =>
    obtain ⟨j, hj, rfl⟩ := rg_isR_of hB
    rw [nI_clamp (Nat.lt_of_lt_of_le hj (Nat.le_trans hrep.1.2.1 (by decide)))]
    exact c_rm_parent_ok n b Rr P1 P2 T U j w hj hrep
set_option maxHeartbeats 4000000 in
set_option maxRecDepth 100000 in
theorem c_rm_figure_0 {l : Launch} {dC : Nat → ClassId} {dI : Nat → Nat → Nat} {h : Nat} {a : Nat → Nat} {cI cL : ClassId} {cod : Int32} {cof : Int32} {mad : Int32} {nu : Nat → Int32} {co : Nat → Int64} {se : Nat → Int32} {li : Nat → Int32} {le : Nat → Int32} {fi : Nat → Int32} {sc : Nat → Int32} {ti : Nat → Int32} {un : Nat → Int32} {ma : Nat → Int32} {dr : Nat → Int32} {fr : Nat → Int32} {to : Nat → Int32} {en : Nat → Int32} (n b : Nat) (Rr : Nat → rg_R) (P1 P2 : Nat → Int32) (T : Nat → Nat) (U : Nat → List Nat)  (hrep : rm_Rep (nI n) (nI b) cof nu co se li le fi sc ti un ma (n, Rr, P1, P2, T, U, b, cof)) : rg_M l yM_figure (Cond.code yM_figure prog_8_method_39_code 2 (some .int) :: rg_tbl) { frames := 1, cells := 0, slots := 0, locals := 20 } (dC, dI) rg_cl [(cI, .int), (cL, .long)] (rm_W h a cI cL cod (nI n) (nI b) cof mad nu co se li le fi sc ti un ma dr fr to en) [.ref h, .int (nI 0)] (rg_QI (dC, dI) rg_cl [(cI, .int), (cL, .long)] (S := rm_S) (rm_Po (0, nI (T b), (n, Rr, P1, P2, T, U, b, cof))) (fun u => rm_Wu h a cI cL u)) 0 0 := by
  refine rg_of prog_8_method_39_code 2 (some .int) (by decide) rfl (Nat.le_of_ble_eq_true rfl) ?_
  intro p e R s m args below meth c Q A H locs ls hR hQ hx hb hml hr hts hown hlk hnm hP hK hD hA hS hl
  have hl : lv_has ls 2 [(0, .ref h), (1, .int (nI 0))] := hl
  have hts : ∀ w ∈ rg_tbl, w.before args s = true := fun w h => hts w (List.mem_cons_of_mem _ h)
  have hok := hrep.1
  have hn1 : 1 ≤ n := hok.1
  have hn60 : n ≤ 60 := hok.2.1
  have hb4 : b < 4 := hok.2.2.2.2.2.2.2.1
  have hTb : T b < n := (hok.2.2.2.2.2.2.1 b hb4).1
  have hti : ti b = nI (T b) := (hrep.2.2.2.2.2.2 b hb4).1
  have hma : ma b = nI (U b).length := (hrep.2.2.2.2.2.2 b hb4).2.1
  refine lv_aload_n hx hb dM_figure_0 rfl (lv_at hl 0 rfl) ?_
  refine lv_iload_n hx hb dM_figure_1 rfl (lv_at hl 1 rfl) ?_
  refine rg_ifN_lt (tgt := 11) hx hb dM_figure_2 (by decide) (by omega) (fun h1 => h1.elim) (fun h1 => ?_)
  refine lv_iload_n hx hb dM_figure_5 rfl (lv_at hl 1 rfl) ?_
  refine lv_bipush (v := nI 7) hx hb dM_figure_6 (by decide) ?_
  refine rg_icmp_le (tgt := 15) hx hb dM_figure_8 (by decide) (by omega) (by omega) (fun h2 => ?_) (fun h2 => by exfalso; omega)
  refine lv_iconst (v := nI 0) hx hb dM_figure_15 (by decide) ?_
  refine va_put (D := (dC, dI)) (ci := 0) (v := .int (nI 0)) (ty := .int) (C := "RevisionGroveModel") (T := TM) (N := 19) hx hb hts inM tyM tyM_ok nmM hown hK hP hD hS 0 rfl rfl 0 (by decide) (hts _ tw_601) (fun _ h9 => h9) rfl (by decide +kernel) rfl rfl (Nat.le_of_ble_eq_true rfl) dM_figure_16 (fun H locs hP hD hS => ?_)
  have hP : va_P (dC, dI) rg_cl (rm_W h a cI cL (nI 0) (nI n) (nI b) cof mad nu co se li le fi sc ti un ma dr fr to en) H := hP
  have hD : va_D A (rm_W h a cI cL (nI 0) (nI n) (nI b) cof mad nu co se li le fi sc ti un ma dr fr to en) := hD
  refine lv_iload_n hx hb dM_figure_19 rfl (lv_at hl 1 rfl) ?_
  refine lv_tableIn (off := 48) (tgt := 68) hx hb dM_figure_20 (by decide) (by decide) (by decide) (by decide) ?_
  refine lv_aload_n hx hb dM_figure_68 rfl (lv_at hl 0 rfl) ?_
  refine rg_calli hD hS hA (va_runV (As := []) (rest := []) ⟨hx, hb, hml, hown, hts⟩ (c_rm_here b (by omega) _) (cwV 0 hts (rg_gV tw_667 tw_669 ts_M_here tw_5 tw_670) rfl rfl rfl (by decide +kernel) ⟨by rw [hR]; exact Nat.le_of_ble_eq_true rfl, by rw [hR]; exact Nat.le_of_ble_eq_true rfl⟩) (rg_preV rfl hK hP hD (ci := 0) (q0 := 0) rfl rfl) rfl rfl hl.1 rfl (lv_room (Nat.le_of_ble_eq_true rfl)) dM_figure_69 ⟨Nat.zero_le _, Nat.zero_le _⟩) (fun r3 u4 H locs hw5 hP hD hS => ?_)
  subst hw5
  have hP : va_P (dC, dI) rg_cl (rm_W h a cI cL (nI 0) (nI n) (nI b) cof mad nu co se li le fi sc ti un ma dr fr to en) H := hP
  have hD : va_D A (rm_W h a cI cL (nI 0) (nI n) (nI b) cof mad nu co se li le fi sc ti un ma dr fr to en) := hD
  refine rg_top (show (.int (ti b) : Value) = .int (nI (T b)) by rw [hti]) ?_
  rw [hQ]
  exact rg_iret hx hb hr hlk hK hP hD hS dM_figure_72 (nI 0, nI n, nI b, cof, mad, nu, co, se, li, le, fi, sc, ti, un, ma, dr, fr, to, en) rfl (⟨hrep, rfl, rfl⟩)
set_option maxHeartbeats 4000000 in
set_option maxRecDepth 100000 in
theorem c_rm_figure_1 {l : Launch} {dC : Nat → ClassId} {dI : Nat → Nat → Nat} {h : Nat} {a : Nat → Nat} {cI cL : ClassId} {cod : Int32} {cof : Int32} {mad : Int32} {nu : Nat → Int32} {co : Nat → Int64} {se : Nat → Int32} {li : Nat → Int32} {le : Nat → Int32} {fi : Nat → Int32} {sc : Nat → Int32} {ti : Nat → Int32} {un : Nat → Int32} {ma : Nat → Int32} {dr : Nat → Int32} {fr : Nat → Int32} {to : Nat → Int32} {en : Nat → Int32} (n b : Nat) (Rr : Nat → rg_R) (P1 P2 : Nat → Int32) (T : Nat → Nat) (U : Nat → List Nat)  (hrep : rm_Rep (nI n) (nI b) cof nu co se li le fi sc ti un ma (n, Rr, P1, P2, T, U, b, cof)) : rg_M l yM_figure (Cond.code yM_figure prog_8_method_39_code 2 (some .int) :: rg_tbl) { frames := 1, cells := 0, slots := 0, locals := 20 } (dC, dI) rg_cl [(cI, .int), (cL, .long)] (rm_W h a cI cL cod (nI n) (nI b) cof mad nu co se li le fi sc ti un ma dr fr to en) [.ref h, .int (nI 1)] (rg_QI (dC, dI) rg_cl [(cI, .int), (cL, .long)] (S := rm_S) (rm_Po (0, nI n, (n, Rr, P1, P2, T, U, b, cof))) (fun u => rm_Wu h a cI cL u)) 0 0 := by
  refine rg_of prog_8_method_39_code 2 (some .int) (by decide) rfl (Nat.le_of_ble_eq_true rfl) ?_
  intro p e R s m args below meth c Q A H locs ls hR hQ hx hb hml hr hts hown hlk hnm hP hK hD hA hS hl
  have hl : lv_has ls 2 [(0, .ref h), (1, .int (nI 1))] := hl
  have hts : ∀ w ∈ rg_tbl, w.before args s = true := fun w h => hts w (List.mem_cons_of_mem _ h)
  have hok := hrep.1
  have hn1 : 1 ≤ n := hok.1
  have hn60 : n ≤ 60 := hok.2.1
  have hb4 : b < 4 := hok.2.2.2.2.2.2.2.1
  have hTb : T b < n := (hok.2.2.2.2.2.2.1 b hb4).1
  have hti : ti b = nI (T b) := (hrep.2.2.2.2.2.2 b hb4).1
  have hma : ma b = nI (U b).length := (hrep.2.2.2.2.2.2 b hb4).2.1
  refine lv_aload_n hx hb dM_figure_0 rfl (lv_at hl 0 rfl) ?_
  refine lv_iload_n hx hb dM_figure_1 rfl (lv_at hl 1 rfl) ?_
  refine rg_ifN_lt (tgt := 11) hx hb dM_figure_2 (by decide) (by omega) (fun h1 => h1.elim) (fun h1 => ?_)
  refine lv_iload_n hx hb dM_figure_5 rfl (lv_at hl 1 rfl) ?_
  refine lv_bipush (v := nI 7) hx hb dM_figure_6 (by decide) ?_
  refine rg_icmp_le (tgt := 15) hx hb dM_figure_8 (by decide) (by omega) (by omega) (fun h2 => ?_) (fun h2 => by exfalso; omega)
  refine lv_iconst (v := nI 0) hx hb dM_figure_15 (by decide) ?_
  refine va_put (D := (dC, dI)) (ci := 0) (v := .int (nI 0)) (ty := .int) (C := "RevisionGroveModel") (T := TM) (N := 19) hx hb hts inM tyM tyM_ok nmM hown hK hP hD hS 0 rfl rfl 0 (by decide) (hts _ tw_601) (fun _ h9 => h9) rfl (by decide +kernel) rfl rfl (Nat.le_of_ble_eq_true rfl) dM_figure_16 (fun H locs hP hD hS => ?_)
  have hP : va_P (dC, dI) rg_cl (rm_W h a cI cL (nI 0) (nI n) (nI b) cof mad nu co se li le fi sc ti un ma dr fr to en) H := hP
  have hD : va_D A (rm_W h a cI cL (nI 0) (nI n) (nI b) cof mad nu co se li le fi sc ti un ma dr fr to en) := hD
  refine lv_iload_n hx hb dM_figure_19 rfl (lv_at hl 1 rfl) ?_
  refine lv_tableIn (off := 53) (tgt := 73) hx hb dM_figure_20 (by decide) (by decide) (by decide) (by decide) ?_
  refine lv_aload_n hx hb dM_figure_73 rfl (lv_at hl 0 rfl) ?_
  refine va_get (D := (dC, dI)) (ci := 0) (C := "RevisionGroveModel") (T := TM) (N := 19) hx hb hts inM hown hK hP 0 rfl rfl 1 (by decide) (hts _ tw_602) (fun _ h9 => h9) rfl dM_figure_74 ?_
  rw [hQ]
  exact rg_iret hx hb hr hlk hK hP hD hS dM_figure_77 (nI 0, nI n, nI b, cof, mad, nu, co, se, li, le, fi, sc, ti, un, ma, dr, fr, to, en) rfl (⟨hrep, rfl, rfl⟩)
set_option maxHeartbeats 4000000 in
set_option maxRecDepth 100000 in
theorem c_rm_figure_2 {l : Launch} {dC : Nat → ClassId} {dI : Nat → Nat → Nat} {h : Nat} {a : Nat → Nat} {cI cL : ClassId} {cod : Int32} {cof : Int32} {mad : Int32} {nu : Nat → Int32} {co : Nat → Int64} {se : Nat → Int32} {li : Nat → Int32} {le : Nat → Int32} {fi : Nat → Int32} {sc : Nat → Int32} {ti : Nat → Int32} {un : Nat → Int32} {ma : Nat → Int32} {dr : Nat → Int32} {fr : Nat → Int32} {to : Nat → Int32} {en : Nat → Int32} (n b : Nat) (Rr : Nat → rg_R) (P1 P2 : Nat → Int32) (T : Nat → Nat) (U : Nat → List Nat)  (hrep : rm_Rep (nI n) (nI b) cof nu co se li le fi sc ti un ma (n, Rr, P1, P2, T, U, b, cof)) : rg_M l yM_figure (Cond.code yM_figure prog_8_method_39_code 2 (some .int) :: rg_tbl) { frames := 1, cells := 0, slots := 0, locals := 20 } (dC, dI) rg_cl [(cI, .int), (cL, .long)] (rm_W h a cI cL cod (nI n) (nI b) cof mad nu co se li le fi sc ti un ma dr fr to en) [.ref h, .int (nI 2)] (rg_QI (dC, dI) rg_cl [(cI, .int), (cL, .long)] (S := rm_S) (rm_Po (0, nI b, (n, Rr, P1, P2, T, U, b, cof))) (fun u => rm_Wu h a cI cL u)) 0 0 := by
  refine rg_of prog_8_method_39_code 2 (some .int) (by decide) rfl (Nat.le_of_ble_eq_true rfl) ?_
  intro p e R s m args below meth c Q A H locs ls hR hQ hx hb hml hr hts hown hlk hnm hP hK hD hA hS hl
  have hl : lv_has ls 2 [(0, .ref h), (1, .int (nI 2))] := hl
  have hts : ∀ w ∈ rg_tbl, w.before args s = true := fun w h => hts w (List.mem_cons_of_mem _ h)
  have hok := hrep.1
  have hn1 : 1 ≤ n := hok.1
  have hn60 : n ≤ 60 := hok.2.1
  have hb4 : b < 4 := hok.2.2.2.2.2.2.2.1
  have hTb : T b < n := (hok.2.2.2.2.2.2.1 b hb4).1
  have hti : ti b = nI (T b) := (hrep.2.2.2.2.2.2 b hb4).1
  have hma : ma b = nI (U b).length := (hrep.2.2.2.2.2.2 b hb4).2.1
  refine lv_aload_n hx hb dM_figure_0 rfl (lv_at hl 0 rfl) ?_
  refine lv_iload_n hx hb dM_figure_1 rfl (lv_at hl 1 rfl) ?_
  refine rg_ifN_lt (tgt := 11) hx hb dM_figure_2 (by decide) (by omega) (fun h1 => h1.elim) (fun h1 => ?_)
  refine lv_iload_n hx hb dM_figure_5 rfl (lv_at hl 1 rfl) ?_
  refine lv_bipush (v := nI 7) hx hb dM_figure_6 (by decide) ?_
  refine rg_icmp_le (tgt := 15) hx hb dM_figure_8 (by decide) (by omega) (by omega) (fun h2 => ?_) (fun h2 => by exfalso; omega)
  refine lv_iconst (v := nI 0) hx hb dM_figure_15 (by decide) ?_
  refine va_put (D := (dC, dI)) (ci := 0) (v := .int (nI 0)) (ty := .int) (C := "RevisionGroveModel") (T := TM) (N := 19) hx hb hts inM tyM tyM_ok nmM hown hK hP hD hS 0 rfl rfl 0 (by decide) (hts _ tw_601) (fun _ h9 => h9) rfl (by decide +kernel) rfl rfl (Nat.le_of_ble_eq_true rfl) dM_figure_16 (fun H locs hP hD hS => ?_)
  have hP : va_P (dC, dI) rg_cl (rm_W h a cI cL (nI 0) (nI n) (nI b) cof mad nu co se li le fi sc ti un ma dr fr to en) H := hP
  have hD : va_D A (rm_W h a cI cL (nI 0) (nI n) (nI b) cof mad nu co se li le fi sc ti un ma dr fr to en) := hD
  refine lv_iload_n hx hb dM_figure_19 rfl (lv_at hl 1 rfl) ?_
  refine lv_tableIn (off := 58) (tgt := 78) hx hb dM_figure_20 (by decide) (by decide) (by decide) (by decide) ?_
  refine lv_aload_n hx hb dM_figure_78 rfl (lv_at hl 0 rfl) ?_
  refine va_get (D := (dC, dI)) (ci := 0) (C := "RevisionGroveModel") (T := TM) (N := 19) hx hb hts inM hown hK hP 0 rfl rfl 9 (by decide) (hts _ tw_610) (fun _ h9 => h9) rfl dM_figure_79 ?_
  rw [hQ]
  exact rg_iret hx hb hr hlk hK hP hD hS dM_figure_82 (nI 0, nI n, nI b, cof, mad, nu, co, se, li, le, fi, sc, ti, un, ma, dr, fr, to, en) rfl (⟨hrep, rfl, rfl⟩)
set_option maxHeartbeats 4000000 in
set_option maxRecDepth 100000 in
theorem c_rm_figure_3 {l : Launch} {dC : Nat → ClassId} {dI : Nat → Nat → Nat} {h : Nat} {a : Nat → Nat} {cI cL : ClassId} {cod : Int32} {cof : Int32} {mad : Int32} {nu : Nat → Int32} {co : Nat → Int64} {se : Nat → Int32} {li : Nat → Int32} {le : Nat → Int32} {fi : Nat → Int32} {sc : Nat → Int32} {ti : Nat → Int32} {un : Nat → Int32} {ma : Nat → Int32} {dr : Nat → Int32} {fr : Nat → Int32} {to : Nat → Int32} {en : Nat → Int32} (n b : Nat) (Rr : Nat → rg_R) (P1 P2 : Nat → Int32) (T : Nat → Nat) (U : Nat → List Nat)  (hrep : rm_Rep (nI n) (nI b) cof nu co se li le fi sc ti un ma (n, Rr, P1, P2, T, U, b, cof)) : rg_M l yM_figure (Cond.code yM_figure prog_8_method_39_code 2 (some .int) :: rg_tbl) { frames := 1, cells := 0, slots := 0, locals := 20 } (dC, dI) rg_cl [(cI, .int), (cL, .long)] (rm_W h a cI cL cod (nI n) (nI b) cof mad nu co se li le fi sc ti un ma dr fr to en) [.ref h, .int (nI 3)] (rg_QI (dC, dI) rg_cl [(cI, .int), (cL, .long)] (S := rm_S) (rm_Po (0, nI (U b).length, (n, Rr, P1, P2, T, U, b, cof))) (fun u => rm_Wu h a cI cL u)) 0 0 := by
  refine rg_of prog_8_method_39_code 2 (some .int) (by decide) rfl (Nat.le_of_ble_eq_true rfl) ?_
  intro p e R s m args below meth c Q A H locs ls hR hQ hx hb hml hr hts hown hlk hnm hP hK hD hA hS hl
  have hl : lv_has ls 2 [(0, .ref h), (1, .int (nI 3))] := hl
  have hts : ∀ w ∈ rg_tbl, w.before args s = true := fun w h => hts w (List.mem_cons_of_mem _ h)
  have hok := hrep.1
  have hn1 : 1 ≤ n := hok.1
  have hn60 : n ≤ 60 := hok.2.1
  have hb4 : b < 4 := hok.2.2.2.2.2.2.2.1
  have hTb : T b < n := (hok.2.2.2.2.2.2.1 b hb4).1
  have hti : ti b = nI (T b) := (hrep.2.2.2.2.2.2 b hb4).1
  have hma : ma b = nI (U b).length := (hrep.2.2.2.2.2.2 b hb4).2.1
  refine lv_aload_n hx hb dM_figure_0 rfl (lv_at hl 0 rfl) ?_
  refine lv_iload_n hx hb dM_figure_1 rfl (lv_at hl 1 rfl) ?_
  refine rg_ifN_lt (tgt := 11) hx hb dM_figure_2 (by decide) (by omega) (fun h1 => h1.elim) (fun h1 => ?_)
  refine lv_iload_n hx hb dM_figure_5 rfl (lv_at hl 1 rfl) ?_
  refine lv_bipush (v := nI 7) hx hb dM_figure_6 (by decide) ?_
  refine rg_icmp_le (tgt := 15) hx hb dM_figure_8 (by decide) (by omega) (by omega) (fun h2 => ?_) (fun h2 => by exfalso; omega)
  refine lv_iconst (v := nI 0) hx hb dM_figure_15 (by decide) ?_
  refine va_put (D := (dC, dI)) (ci := 0) (v := .int (nI 0)) (ty := .int) (C := "RevisionGroveModel") (T := TM) (N := 19) hx hb hts inM tyM tyM_ok nmM hown hK hP hD hS 0 rfl rfl 0 (by decide) (hts _ tw_601) (fun _ h9 => h9) rfl (by decide +kernel) rfl rfl (Nat.le_of_ble_eq_true rfl) dM_figure_16 (fun H locs hP hD hS => ?_)
  have hP : va_P (dC, dI) rg_cl (rm_W h a cI cL (nI 0) (nI n) (nI b) cof mad nu co se li le fi sc ti un ma dr fr to en) H := hP
  have hD : va_D A (rm_W h a cI cL (nI 0) (nI n) (nI b) cof mad nu co se li le fi sc ti un ma dr fr to en) := hD
  refine lv_iload_n hx hb dM_figure_19 rfl (lv_at hl 1 rfl) ?_
  refine lv_tableIn (off := 63) (tgt := 83) hx hb dM_figure_20 (by decide) (by decide) (by decide) (by decide) ?_
  refine lv_aload_n hx hb dM_figure_83 rfl (lv_at hl 0 rfl) ?_
  refine va_get (D := (dC, dI)) (ci := 0) (C := "RevisionGroveModel") (T := TM) (N := 19) hx hb hts inM hown hK hP 0 rfl rfl 12 (by decide) (hts _ tw_613) (fun _ h9 => h9) rfl dM_figure_84 ?_
  refine lv_aload_n hx hb dM_figure_87 rfl (lv_at hl 0 rfl) ?_
  refine va_get (D := (dC, dI)) (ci := 0) (C := "RevisionGroveModel") (T := TM) (N := 19) hx hb hts inM hown hK hP 0 rfl rfl 9 (by decide) (hts _ tw_610) (fun _ h9 => h9) rfl dM_figure_88 ?_
  refine rg_iald hx hb hK hP 10 0 rfl rfl (by decide) (by omega) dM_figure_91 ?_
  refine rg_top (show (.int (ma b) : Value) = .int (nI ((U b).length)) by rw [hma]) ?_
  rw [hQ]
  exact rg_iret hx hb hr hlk hK hP hD hS dM_figure_92 (nI 0, nI n, nI b, cof, mad, nu, co, se, li, le, fi, sc, ti, un, ma, dr, fr, to, en) rfl (⟨hrep, rfl, rfl⟩)
set_option maxHeartbeats 4000000 in
set_option maxRecDepth 100000 in
theorem c_rm_figure_4 {l : Launch} {dC : Nat → ClassId} {dI : Nat → Nat → Nat} {h : Nat} {a : Nat → Nat} {cI cL : ClassId} {cod : Int32} {cof : Int32} {mad : Int32} {nu : Nat → Int32} {co : Nat → Int64} {se : Nat → Int32} {li : Nat → Int32} {le : Nat → Int32} {fi : Nat → Int32} {sc : Nat → Int32} {ti : Nat → Int32} {un : Nat → Int32} {ma : Nat → Int32} {dr : Nat → Int32} {fr : Nat → Int32} {to : Nat → Int32} {en : Nat → Int32} (n b : Nat) (Rr : Nat → rg_R) (P1 P2 : Nat → Int32) (T : Nat → Nat) (U : Nat → List Nat)  (hrep : rm_Rep (nI n) (nI b) cof nu co se li le fi sc ti un ma (n, Rr, P1, P2, T, U, b, cof)) : rg_M l yM_figure (Cond.code yM_figure prog_8_method_39_code 2 (some .int) :: rg_tbl) { frames := 1, cells := 0, slots := 0, locals := 20 } (dC, dI) rg_cl [(cI, .int), (cL, .long)] (rm_W h a cI cL cod (nI n) (nI b) cof mad nu co se li le fi sc ti un ma dr fr to en) [.ref h, .int (nI 4)] (rg_QI (dC, dI) rg_cl [(cI, .int), (cL, .long)] (S := rm_S) (rm_Po (0, nI (T 0), (n, Rr, P1, P2, T, U, b, cof))) (fun u => rm_Wu h a cI cL u)) 0 0 := by
  refine rg_of prog_8_method_39_code 2 (some .int) (by decide) rfl (Nat.le_of_ble_eq_true rfl) ?_
  intro p e R s m args below meth c Q A H locs ls hR hQ hx hb hml hr hts hown hlk hnm hP hK hD hA hS hl
  have hl : lv_has ls 2 [(0, .ref h), (1, .int (nI 4))] := hl
  have hts : ∀ w ∈ rg_tbl, w.before args s = true := fun w h => hts w (List.mem_cons_of_mem _ h)
  have hok := hrep.1
  have hn1 : 1 ≤ n := hok.1
  have hn60 : n ≤ 60 := hok.2.1
  have hb4 : b < 4 := hok.2.2.2.2.2.2.2.1
  have hTb : T b < n := (hok.2.2.2.2.2.2.1 b hb4).1
  have hti : ti b = nI (T b) := (hrep.2.2.2.2.2.2 b hb4).1
  have hma : ma b = nI (U b).length := (hrep.2.2.2.2.2.2 b hb4).2.1
  have h4 : ti 0 = nI (T 0) := (hrep.2.2.2.2.2.2 0 (by decide)).1
  refine lv_aload_n hx hb dM_figure_0 rfl (lv_at hl 0 rfl) ?_
  refine lv_iload_n hx hb dM_figure_1 rfl (lv_at hl 1 rfl) ?_
  refine rg_ifN_lt (tgt := 11) hx hb dM_figure_2 (by decide) (by omega) (fun h1 => h1.elim) (fun h1 => ?_)
  refine lv_iload_n hx hb dM_figure_5 rfl (lv_at hl 1 rfl) ?_
  refine lv_bipush (v := nI 7) hx hb dM_figure_6 (by decide) ?_
  refine rg_icmp_le (tgt := 15) hx hb dM_figure_8 (by decide) (by omega) (by omega) (fun h2 => ?_) (fun h2 => by exfalso; omega)
  refine lv_iconst (v := nI 0) hx hb dM_figure_15 (by decide) ?_
  refine va_put (D := (dC, dI)) (ci := 0) (v := .int (nI 0)) (ty := .int) (C := "RevisionGroveModel") (T := TM) (N := 19) hx hb hts inM tyM tyM_ok nmM hown hK hP hD hS 0 rfl rfl 0 (by decide) (hts _ tw_601) (fun _ h9 => h9) rfl (by decide +kernel) rfl rfl (Nat.le_of_ble_eq_true rfl) dM_figure_16 (fun H locs hP hD hS => ?_)
  have hP : va_P (dC, dI) rg_cl (rm_W h a cI cL (nI 0) (nI n) (nI b) cof mad nu co se li le fi sc ti un ma dr fr to en) H := hP
  have hD : va_D A (rm_W h a cI cL (nI 0) (nI n) (nI b) cof mad nu co se li le fi sc ti un ma dr fr to en) := hD
  refine lv_iload_n hx hb dM_figure_19 rfl (lv_at hl 1 rfl) ?_
  refine lv_tableIn (off := 73) (tgt := 93) hx hb dM_figure_20 (by decide) (by decide) (by decide) (by decide) ?_
  refine lv_aload_n hx hb dM_figure_93 rfl (lv_at hl 0 rfl) ?_
  refine va_get (D := (dC, dI)) (ci := 0) (C := "RevisionGroveModel") (T := TM) (N := 19) hx hb hts inM hown hK hP 0 rfl rfl 10 (by decide) (hts _ tw_611) (fun _ h9 => h9) rfl dM_figure_94 ?_
  refine lv_iload_n hx hb dM_figure_97 rfl (lv_at hl 1 rfl) ?_
  refine lv_iconst (v := nI 4) hx hb dM_figure_98 (by decide) ?_
  refine rg_isub hx hb dM_figure_99 (by omega) ?_
  refine rg_top (show Value.int (nI (4 - 4)) = .int (nI 0) from rfl) ?_
  refine rg_iald hx hb hK hP 8 0 rfl rfl (by decide) (by omega) dM_figure_100 ?_
  refine rg_top (show (.int (ti 0) : Value) = .int (nI (T 0)) by rw [h4]) ?_
  rw [hQ]
  exact rg_iret hx hb hr hlk hK hP hD hS dM_figure_101 (nI 0, nI n, nI b, cof, mad, nu, co, se, li, le, fi, sc, ti, un, ma, dr, fr, to, en) rfl (⟨hrep, rfl, rfl⟩)
set_option maxHeartbeats 4000000 in
set_option maxRecDepth 100000 in
theorem c_rm_figure_5 {l : Launch} {dC : Nat → ClassId} {dI : Nat → Nat → Nat} {h : Nat} {a : Nat → Nat} {cI cL : ClassId} {cod : Int32} {cof : Int32} {mad : Int32} {nu : Nat → Int32} {co : Nat → Int64} {se : Nat → Int32} {li : Nat → Int32} {le : Nat → Int32} {fi : Nat → Int32} {sc : Nat → Int32} {ti : Nat → Int32} {un : Nat → Int32} {ma : Nat → Int32} {dr : Nat → Int32} {fr : Nat → Int32} {to : Nat → Int32} {en : Nat → Int32} (n b : Nat) (Rr : Nat → rg_R) (P1 P2 : Nat → Int32) (T : Nat → Nat) (U : Nat → List Nat)  (hrep : rm_Rep (nI n) (nI b) cof nu co se li le fi sc ti un ma (n, Rr, P1, P2, T, U, b, cof)) : rg_M l yM_figure (Cond.code yM_figure prog_8_method_39_code 2 (some .int) :: rg_tbl) { frames := 1, cells := 0, slots := 0, locals := 20 } (dC, dI) rg_cl [(cI, .int), (cL, .long)] (rm_W h a cI cL cod (nI n) (nI b) cof mad nu co se li le fi sc ti un ma dr fr to en) [.ref h, .int (nI 5)] (rg_QI (dC, dI) rg_cl [(cI, .int), (cL, .long)] (S := rm_S) (rm_Po (0, nI (T 1), (n, Rr, P1, P2, T, U, b, cof))) (fun u => rm_Wu h a cI cL u)) 0 0 := by
  refine rg_of prog_8_method_39_code 2 (some .int) (by decide) rfl (Nat.le_of_ble_eq_true rfl) ?_
  intro p e R s m args below meth c Q A H locs ls hR hQ hx hb hml hr hts hown hlk hnm hP hK hD hA hS hl
  have hl : lv_has ls 2 [(0, .ref h), (1, .int (nI 5))] := hl
  have hts : ∀ w ∈ rg_tbl, w.before args s = true := fun w h => hts w (List.mem_cons_of_mem _ h)
  have hok := hrep.1
  have hn1 : 1 ≤ n := hok.1
  have hn60 : n ≤ 60 := hok.2.1
  have hb4 : b < 4 := hok.2.2.2.2.2.2.2.1
  have hTb : T b < n := (hok.2.2.2.2.2.2.1 b hb4).1
  have hti : ti b = nI (T b) := (hrep.2.2.2.2.2.2 b hb4).1
  have hma : ma b = nI (U b).length := (hrep.2.2.2.2.2.2 b hb4).2.1
  have h4 : ti 1 = nI (T 1) := (hrep.2.2.2.2.2.2 1 (by decide)).1
  refine lv_aload_n hx hb dM_figure_0 rfl (lv_at hl 0 rfl) ?_
  refine lv_iload_n hx hb dM_figure_1 rfl (lv_at hl 1 rfl) ?_
  refine rg_ifN_lt (tgt := 11) hx hb dM_figure_2 (by decide) (by omega) (fun h1 => h1.elim) (fun h1 => ?_)
  refine lv_iload_n hx hb dM_figure_5 rfl (lv_at hl 1 rfl) ?_
  refine lv_bipush (v := nI 7) hx hb dM_figure_6 (by decide) ?_
  refine rg_icmp_le (tgt := 15) hx hb dM_figure_8 (by decide) (by omega) (by omega) (fun h2 => ?_) (fun h2 => by exfalso; omega)
  refine lv_iconst (v := nI 0) hx hb dM_figure_15 (by decide) ?_
  refine va_put (D := (dC, dI)) (ci := 0) (v := .int (nI 0)) (ty := .int) (C := "RevisionGroveModel") (T := TM) (N := 19) hx hb hts inM tyM tyM_ok nmM hown hK hP hD hS 0 rfl rfl 0 (by decide) (hts _ tw_601) (fun _ h9 => h9) rfl (by decide +kernel) rfl rfl (Nat.le_of_ble_eq_true rfl) dM_figure_16 (fun H locs hP hD hS => ?_)
  have hP : va_P (dC, dI) rg_cl (rm_W h a cI cL (nI 0) (nI n) (nI b) cof mad nu co se li le fi sc ti un ma dr fr to en) H := hP
  have hD : va_D A (rm_W h a cI cL (nI 0) (nI n) (nI b) cof mad nu co se li le fi sc ti un ma dr fr to en) := hD
  refine lv_iload_n hx hb dM_figure_19 rfl (lv_at hl 1 rfl) ?_
  refine lv_tableIn (off := 73) (tgt := 93) hx hb dM_figure_20 (by decide) (by decide) (by decide) (by decide) ?_
  refine lv_aload_n hx hb dM_figure_93 rfl (lv_at hl 0 rfl) ?_
  refine va_get (D := (dC, dI)) (ci := 0) (C := "RevisionGroveModel") (T := TM) (N := 19) hx hb hts inM hown hK hP 0 rfl rfl 10 (by decide) (hts _ tw_611) (fun _ h9 => h9) rfl dM_figure_94 ?_
  refine lv_iload_n hx hb dM_figure_97 rfl (lv_at hl 1 rfl) ?_
  refine lv_iconst (v := nI 4) hx hb dM_figure_98 (by decide) ?_
  refine rg_isub hx hb dM_figure_99 (by omega) ?_
  refine rg_top (show Value.int (nI (5 - 4)) = .int (nI 1) from rfl) ?_
  refine rg_iald hx hb hK hP 8 0 rfl rfl (by decide) (by omega) dM_figure_100 ?_
  refine rg_top (show (.int (ti 1) : Value) = .int (nI (T 1)) by rw [h4]) ?_
  rw [hQ]
  exact rg_iret hx hb hr hlk hK hP hD hS dM_figure_101 (nI 0, nI n, nI b, cof, mad, nu, co, se, li, le, fi, sc, ti, un, ma, dr, fr, to, en) rfl (⟨hrep, rfl, rfl⟩)
set_option maxHeartbeats 4000000 in
set_option maxRecDepth 100000 in
theorem c_rm_figure_6 {l : Launch} {dC : Nat → ClassId} {dI : Nat → Nat → Nat} {h : Nat} {a : Nat → Nat} {cI cL : ClassId} {cod : Int32} {cof : Int32} {mad : Int32} {nu : Nat → Int32} {co : Nat → Int64} {se : Nat → Int32} {li : Nat → Int32} {le : Nat → Int32} {fi : Nat → Int32} {sc : Nat → Int32} {ti : Nat → Int32} {un : Nat → Int32} {ma : Nat → Int32} {dr : Nat → Int32} {fr : Nat → Int32} {to : Nat → Int32} {en : Nat → Int32} (n b : Nat) (Rr : Nat → rg_R) (P1 P2 : Nat → Int32) (T : Nat → Nat) (U : Nat → List Nat)  (hrep : rm_Rep (nI n) (nI b) cof nu co se li le fi sc ti un ma (n, Rr, P1, P2, T, U, b, cof)) : rg_M l yM_figure (Cond.code yM_figure prog_8_method_39_code 2 (some .int) :: rg_tbl) { frames := 1, cells := 0, slots := 0, locals := 20 } (dC, dI) rg_cl [(cI, .int), (cL, .long)] (rm_W h a cI cL cod (nI n) (nI b) cof mad nu co se li le fi sc ti un ma dr fr to en) [.ref h, .int (nI 6)] (rg_QI (dC, dI) rg_cl [(cI, .int), (cL, .long)] (S := rm_S) (rm_Po (0, nI (T 2), (n, Rr, P1, P2, T, U, b, cof))) (fun u => rm_Wu h a cI cL u)) 0 0 := by
  refine rg_of prog_8_method_39_code 2 (some .int) (by decide) rfl (Nat.le_of_ble_eq_true rfl) ?_
  intro p e R s m args below meth c Q A H locs ls hR hQ hx hb hml hr hts hown hlk hnm hP hK hD hA hS hl
  have hl : lv_has ls 2 [(0, .ref h), (1, .int (nI 6))] := hl
  have hts : ∀ w ∈ rg_tbl, w.before args s = true := fun w h => hts w (List.mem_cons_of_mem _ h)
  have hok := hrep.1
  have hn1 : 1 ≤ n := hok.1
  have hn60 : n ≤ 60 := hok.2.1
  have hb4 : b < 4 := hok.2.2.2.2.2.2.2.1
  have hTb : T b < n := (hok.2.2.2.2.2.2.1 b hb4).1
  have hti : ti b = nI (T b) := (hrep.2.2.2.2.2.2 b hb4).1
  have hma : ma b = nI (U b).length := (hrep.2.2.2.2.2.2 b hb4).2.1
  have h4 : ti 2 = nI (T 2) := (hrep.2.2.2.2.2.2 2 (by decide)).1
  refine lv_aload_n hx hb dM_figure_0 rfl (lv_at hl 0 rfl) ?_
  refine lv_iload_n hx hb dM_figure_1 rfl (lv_at hl 1 rfl) ?_
  refine rg_ifN_lt (tgt := 11) hx hb dM_figure_2 (by decide) (by omega) (fun h1 => h1.elim) (fun h1 => ?_)
  refine lv_iload_n hx hb dM_figure_5 rfl (lv_at hl 1 rfl) ?_
  refine lv_bipush (v := nI 7) hx hb dM_figure_6 (by decide) ?_
  refine rg_icmp_le (tgt := 15) hx hb dM_figure_8 (by decide) (by omega) (by omega) (fun h2 => ?_) (fun h2 => by exfalso; omega)
  refine lv_iconst (v := nI 0) hx hb dM_figure_15 (by decide) ?_
  refine va_put (D := (dC, dI)) (ci := 0) (v := .int (nI 0)) (ty := .int) (C := "RevisionGroveModel") (T := TM) (N := 19) hx hb hts inM tyM tyM_ok nmM hown hK hP hD hS 0 rfl rfl 0 (by decide) (hts _ tw_601) (fun _ h9 => h9) rfl (by decide +kernel) rfl rfl (Nat.le_of_ble_eq_true rfl) dM_figure_16 (fun H locs hP hD hS => ?_)
  have hP : va_P (dC, dI) rg_cl (rm_W h a cI cL (nI 0) (nI n) (nI b) cof mad nu co se li le fi sc ti un ma dr fr to en) H := hP
  have hD : va_D A (rm_W h a cI cL (nI 0) (nI n) (nI b) cof mad nu co se li le fi sc ti un ma dr fr to en) := hD
  refine lv_iload_n hx hb dM_figure_19 rfl (lv_at hl 1 rfl) ?_
  refine lv_tableIn (off := 73) (tgt := 93) hx hb dM_figure_20 (by decide) (by decide) (by decide) (by decide) ?_
  refine lv_aload_n hx hb dM_figure_93 rfl (lv_at hl 0 rfl) ?_
  refine va_get (D := (dC, dI)) (ci := 0) (C := "RevisionGroveModel") (T := TM) (N := 19) hx hb hts inM hown hK hP 0 rfl rfl 10 (by decide) (hts _ tw_611) (fun _ h9 => h9) rfl dM_figure_94 ?_
  refine lv_iload_n hx hb dM_figure_97 rfl (lv_at hl 1 rfl) ?_
  refine lv_iconst (v := nI 4) hx hb dM_figure_98 (by decide) ?_
  refine rg_isub hx hb dM_figure_99 (by omega) ?_
  refine rg_top (show Value.int (nI (6 - 4)) = .int (nI 2) from rfl) ?_
  refine rg_iald hx hb hK hP 8 0 rfl rfl (by decide) (by omega) dM_figure_100 ?_
  refine rg_top (show (.int (ti 2) : Value) = .int (nI (T 2)) by rw [h4]) ?_
  rw [hQ]
  exact rg_iret hx hb hr hlk hK hP hD hS dM_figure_101 (nI 0, nI n, nI b, cof, mad, nu, co, se, li, le, fi, sc, ti, un, ma, dr, fr, to, en) rfl (⟨hrep, rfl, rfl⟩)
set_option maxHeartbeats 4000000 in
set_option maxRecDepth 100000 in
theorem c_rm_figure_7 {l : Launch} {dC : Nat → ClassId} {dI : Nat → Nat → Nat} {h : Nat} {a : Nat → Nat} {cI cL : ClassId} {cod : Int32} {cof : Int32} {mad : Int32} {nu : Nat → Int32} {co : Nat → Int64} {se : Nat → Int32} {li : Nat → Int32} {le : Nat → Int32} {fi : Nat → Int32} {sc : Nat → Int32} {ti : Nat → Int32} {un : Nat → Int32} {ma : Nat → Int32} {dr : Nat → Int32} {fr : Nat → Int32} {to : Nat → Int32} {en : Nat → Int32} (n b : Nat) (Rr : Nat → rg_R) (P1 P2 : Nat → Int32) (T : Nat → Nat) (U : Nat → List Nat)  (hrep : rm_Rep (nI n) (nI b) cof nu co se li le fi sc ti un ma (n, Rr, P1, P2, T, U, b, cof)) : rg_M l yM_figure (Cond.code yM_figure prog_8_method_39_code 2 (some .int) :: rg_tbl) { frames := 1, cells := 0, slots := 0, locals := 20 } (dC, dI) rg_cl [(cI, .int), (cL, .long)] (rm_W h a cI cL cod (nI n) (nI b) cof mad nu co se li le fi sc ti un ma dr fr to en) [.ref h, .int (nI 7)] (rg_QI (dC, dI) rg_cl [(cI, .int), (cL, .long)] (S := rm_S) (rm_Po (0, nI (T 3), (n, Rr, P1, P2, T, U, b, cof))) (fun u => rm_Wu h a cI cL u)) 0 0 := by
  refine rg_of prog_8_method_39_code 2 (some .int) (by decide) rfl (Nat.le_of_ble_eq_true rfl) ?_
  intro p e R s m args below meth c Q A H locs ls hR hQ hx hb hml hr hts hown hlk hnm hP hK hD hA hS hl
  have hl : lv_has ls 2 [(0, .ref h), (1, .int (nI 7))] := hl
  have hts : ∀ w ∈ rg_tbl, w.before args s = true := fun w h => hts w (List.mem_cons_of_mem _ h)
  have hok := hrep.1
  have hn1 : 1 ≤ n := hok.1
  have hn60 : n ≤ 60 := hok.2.1
  have hb4 : b < 4 := hok.2.2.2.2.2.2.2.1
  have hTb : T b < n := (hok.2.2.2.2.2.2.1 b hb4).1
  have hti : ti b = nI (T b) := (hrep.2.2.2.2.2.2 b hb4).1
  have hma : ma b = nI (U b).length := (hrep.2.2.2.2.2.2 b hb4).2.1
  have h4 : ti 3 = nI (T 3) := (hrep.2.2.2.2.2.2 3 (by decide)).1
  refine lv_aload_n hx hb dM_figure_0 rfl (lv_at hl 0 rfl) ?_
  refine lv_iload_n hx hb dM_figure_1 rfl (lv_at hl 1 rfl) ?_
  refine rg_ifN_lt (tgt := 11) hx hb dM_figure_2 (by decide) (by omega) (fun h1 => h1.elim) (fun h1 => ?_)
  refine lv_iload_n hx hb dM_figure_5 rfl (lv_at hl 1 rfl) ?_
  refine lv_bipush (v := nI 7) hx hb dM_figure_6 (by decide) ?_
  refine rg_icmp_le (tgt := 15) hx hb dM_figure_8 (by decide) (by omega) (by omega) (fun h2 => ?_) (fun h2 => by exfalso; omega)
  refine lv_iconst (v := nI 0) hx hb dM_figure_15 (by decide) ?_
  refine va_put (D := (dC, dI)) (ci := 0) (v := .int (nI 0)) (ty := .int) (C := "RevisionGroveModel") (T := TM) (N := 19) hx hb hts inM tyM tyM_ok nmM hown hK hP hD hS 0 rfl rfl 0 (by decide) (hts _ tw_601) (fun _ h9 => h9) rfl (by decide +kernel) rfl rfl (Nat.le_of_ble_eq_true rfl) dM_figure_16 (fun H locs hP hD hS => ?_)
  have hP : va_P (dC, dI) rg_cl (rm_W h a cI cL (nI 0) (nI n) (nI b) cof mad nu co se li le fi sc ti un ma dr fr to en) H := hP
  have hD : va_D A (rm_W h a cI cL (nI 0) (nI n) (nI b) cof mad nu co se li le fi sc ti un ma dr fr to en) := hD
  refine lv_iload_n hx hb dM_figure_19 rfl (lv_at hl 1 rfl) ?_
  refine lv_tableIn (off := 73) (tgt := 93) hx hb dM_figure_20 (by decide) (by decide) (by decide) (by decide) ?_
  refine lv_aload_n hx hb dM_figure_93 rfl (lv_at hl 0 rfl) ?_
  refine va_get (D := (dC, dI)) (ci := 0) (C := "RevisionGroveModel") (T := TM) (N := 19) hx hb hts inM hown hK hP 0 rfl rfl 10 (by decide) (hts _ tw_611) (fun _ h9 => h9) rfl dM_figure_94 ?_
  refine lv_iload_n hx hb dM_figure_97 rfl (lv_at hl 1 rfl) ?_
  refine lv_iconst (v := nI 4) hx hb dM_figure_98 (by decide) ?_
  refine rg_isub hx hb dM_figure_99 (by omega) ?_
  refine rg_top (show Value.int (nI (7 - 4)) = .int (nI 3) from rfl) ?_
  refine rg_iald hx hb hK hP 8 0 rfl rfl (by decide) (by omega) dM_figure_100 ?_
  refine rg_top (show (.int (ti 3) : Value) = .int (nI (T 3)) by rw [h4]) ?_
  rw [hQ]
  exact rg_iret hx hb hr hlk hK hP hD hS dM_figure_101 (nI 0, nI n, nI b, cof, mad, nu, co, se, li, le, fi, sc, ti, un, ma, dr, fr, to, en) rfl (⟨hrep, rfl, rfl⟩)
set_option maxHeartbeats 4000000 in
set_option maxRecDepth 100000 in
theorem c_rm_figure_bad {l : Launch} {dC : Nat → ClassId} {dI : Nat → Nat → Nat} {h : Nat} {a : Nat → Nat} {cI cL : ClassId} {cod : Int32} {cof : Int32} {mad : Int32} {nu : Nat → Int32} {co : Nat → Int64} {se : Nat → Int32} {li : Nat → Int32} {le : Nat → Int32} {fi : Nat → Int32} {sc : Nat → Int32} {ti : Nat → Int32} {un : Nat → Int32} {ma : Nat → Int32} {dr : Nat → Int32} {fr : Nat → Int32} {to : Nat → Int32} {en : Nat → Int32} (n b : Nat) (Rr : Nat → rg_R) (P1 P2 : Nat → Int32) (T : Nat → Nat) (U : Nat → List Nat) (x : Int32) (hx0 : x < 0 ∨ 7 < x) (hrep : rm_Rep (nI n) (nI b) cof nu co se li le fi sc ti un ma (n, Rr, P1, P2, T, U, b, cof)) : rg_M l yM_figure (Cond.code yM_figure prog_8_method_39_code 2 (some .int) :: rg_tbl) { frames := 1, cells := 0, slots := 0, locals := 20 } (dC, dI) rg_cl [(cI, .int), (cL, .long)] (rm_W h a cI cL cod (nI n) (nI b) cof mad nu co se li le fi sc ti un ma dr fr to en) [.ref h, .int x] (rg_QI (dC, dI) rg_cl [(cI, .int), (cL, .long)] (S := rm_S) (rm_Po (1, 0, (n, Rr, P1, P2, T, U, b, cof))) (fun u => rm_Wu h a cI cL u)) 0 0 := by
  refine rg_of prog_8_method_39_code 2 (some .int) (by decide) rfl (Nat.le_of_ble_eq_true rfl) ?_
  intro p e R s m args below meth c Q A H locs ls hR hQ hx hb hml hr hts hown hlk hnm hP hK hD hA hS hl
  have hl : lv_has ls 2 [(0, .ref h), (1, .int x)] := hl
  have hts : ∀ w ∈ rg_tbl, w.before args s = true := fun w h => hts w (List.mem_cons_of_mem _ h)
  have hok := hrep.1
  have hn1 : 1 ≤ n := hok.1
  have hn60 : n ≤ 60 := hok.2.1
  have hb4 : b < 4 := hok.2.2.2.2.2.2.2.1
  have hTb : T b < n := (hok.2.2.2.2.2.2.1 b hb4).1
  have hti : ti b = nI (T b) := (hrep.2.2.2.2.2.2 b hb4).1
  have hma : ma b = nI (U b).length := (hrep.2.2.2.2.2.2 b hb4).2.1
  refine lv_aload_n hx hb dM_figure_0 rfl (lv_at hl 0 rfl) ?_
  refine lv_iload_n hx hb dM_figure_1 rfl (lv_at hl 1 rfl) ?_
  refine lv_if_lt (tgt := 11) hx hb dM_figure_2 (by decide) (fun h1 => ?_) (fun h1 => ?_)
  · refine lv_iconst (v := nI 1) hx hb dM_figure_11 (by decide) ?_
    refine lv_goto (tgt := 16) hx hb dM_figure_12 (by decide) ?_
    refine va_put (D := (dC, dI)) (ci := 0) (v := .int (nI 1)) (ty := .int) (C := "RevisionGroveModel") (T := TM) (N := 19) hx hb hts inM tyM tyM_ok nmM hown hK hP hD hS 0 rfl rfl 0 (by decide) (hts _ tw_601) (fun _ h9 => h9) rfl (by decide +kernel) rfl rfl (Nat.le_of_ble_eq_true rfl) dM_figure_16 (fun H locs hP hD hS => ?_)
    have hP : va_P (dC, dI) rg_cl (rm_W h a cI cL (nI 1) (nI n) (nI b) cof mad nu co se li le fi sc ti un ma dr fr to en) H := hP
    have hD : va_D A (rm_W h a cI cL (nI 1) (nI n) (nI b) cof mad nu co se li le fi sc ti un ma dr fr to en) := hD
    refine lv_iload_n hx hb dM_figure_19 rfl (lv_at hl 1 rfl) ?_
    refine lv_tableOut (tgt := 102) hx hb dM_figure_20 (rg_fig_out hx0) (by decide) ?_
    refine lv_iconst (v := nI 0) hx hb dM_figure_102 (by decide) ?_
    rw [hQ]
    exact rg_iret hx hb hr hlk hK hP hD hS dM_figure_103 (nI 1, nI n, nI b, cof, mad, nu, co, se, li, le, fi, sc, ti, un, ma, dr, fr, to, en) rfl (⟨hrep, rfl, rfl⟩)
  · refine lv_iload_n hx hb dM_figure_5 rfl (lv_at hl 1 rfl) ?_
    refine lv_bipush (v := nI 7) hx hb dM_figure_6 (by decide) ?_
    refine lv_icmp_le (tgt := 15) hx hb dM_figure_8 (by decide) (fun h2 => absurd hx0 (fun q => q.elim h1 (fun q => Int32.not_lt.mpr h2 q))) (fun h2 => ?_)
    refine lv_iconst (v := nI 1) hx hb dM_figure_11 (by decide) ?_
    refine lv_goto (tgt := 16) hx hb dM_figure_12 (by decide) ?_
    refine va_put (D := (dC, dI)) (ci := 0) (v := .int (nI 1)) (ty := .int) (C := "RevisionGroveModel") (T := TM) (N := 19) hx hb hts inM tyM tyM_ok nmM hown hK hP hD hS 0 rfl rfl 0 (by decide) (hts _ tw_601) (fun _ h9 => h9) rfl (by decide +kernel) rfl rfl (Nat.le_of_ble_eq_true rfl) dM_figure_16 (fun H locs hP hD hS => ?_)
    have hP : va_P (dC, dI) rg_cl (rm_W h a cI cL (nI 1) (nI n) (nI b) cof mad nu co se li le fi sc ti un ma dr fr to en) H := hP
    have hD : va_D A (rm_W h a cI cL (nI 1) (nI n) (nI b) cof mad nu co se li le fi sc ti un ma dr fr to en) := hD
    refine lv_iload_n hx hb dM_figure_19 rfl (lv_at hl 1 rfl) ?_
    refine lv_tableOut (tgt := 102) hx hb dM_figure_20 (rg_fig_out hx0) (by decide) ?_
    refine lv_iconst (v := nI 0) hx hb dM_figure_102 (by decide) ?_
    rw [hQ]
    exact rg_iret hx hb hr hlk hK hP hD hS dM_figure_103 (nI 1, nI n, nI b, cof, mad, nu, co, se, li, le, fi, sc, ti, un, ma, dr, fr, to, en) rfl (⟨hrep, rfl, rfl⟩)
theorem c_rm_figure {l : Launch} {dC : Nat → ClassId} {dI : Nat → Nat → Nat} {h : Nat} {a : Nat → Nat} {cI cL : ClassId} {cod : Int32} {cof : Int32} {mad : Int32} {nu : Nat → Int32} {co : Nat → Int64} {se : Nat → Int32} {li : Nat → Int32} {le : Nat → Int32} {fi : Nat → Int32} {sc : Nat → Int32} {ti : Nat → Int32} {un : Nat → Int32} {ma : Nat → Int32} {dr : Nat → Int32} {fr : Nat → Int32} {to : Nat → Int32} {en : Nat → Int32} (n b : Nat) (Rr : Nat → rg_R) (P1 P2 : Nat → Int32) (T : Nat → Nat) (U : Nat → List Nat) (x : Int32) (hrep : rm_Rep (nI n) (nI b) cof nu co se li le fi sc ti un ma (n, Rr, P1, P2, T, U, b, cof)) : rg_M l yM_figure (Cond.code yM_figure prog_8_method_39_code 2 (some .int) :: rg_tbl) { frames := 1, cells := 0, slots := 0, locals := 20 } (dC, dI) rg_cl [(cI, .int), (cL, .long)] (rm_W h a cI cL cod (nI n) (nI b) cof mad nu co se li le fi sc ti un ma dr fr to en) [.ref h, .int x] (rg_QI (dC, dI) rg_cl [(cI, .int), (cL, .long)] (S := rm_S) (rm_Po (rg_oFig (n, Rr, P1, P2, T, U, b, cof) x)) (fun u => rm_Wu h a cI cL u)) 0 0 := by
  unfold rg_oFig
  by_cases h0 : x = 0
  · subst h0; rw [if_pos rfl]; exact c_rm_figure_0 n b Rr P1 P2 T U hrep
  · rw [if_neg h0]
    by_cases h1 : x = 1
    · subst h1; rw [if_pos rfl]; exact c_rm_figure_1 n b Rr P1 P2 T U hrep
    · rw [if_neg h1]
      by_cases h2 : x = 2
      · subst h2; rw [if_pos rfl]; exact c_rm_figure_2 n b Rr P1 P2 T U hrep
      · rw [if_neg h2]
        by_cases h3 : x = 3
        · subst h3; rw [if_pos rfl]; exact c_rm_figure_3 n b Rr P1 P2 T U hrep
        · rw [if_neg h3]
          by_cases h4 : x = 4
          · subst h4; rw [if_pos rfl]; exact c_rm_figure_4 n b Rr P1 P2 T U hrep
          · rw [if_neg h4]
            by_cases h5 : x = 5
            · subst h5; rw [if_pos rfl]; exact c_rm_figure_5 n b Rr P1 P2 T U hrep
            · rw [if_neg h5]
              by_cases h6 : x = 6
              · subst h6; rw [if_pos rfl]; exact c_rm_figure_6 n b Rr P1 P2 T U hrep
              · rw [if_neg h6]
                by_cases h7 : x = 7
                · subst h7; rw [if_pos rfl]; exact c_rm_figure_7 n b Rr P1 P2 T U hrep
                · rw [if_neg h7]
                  refine c_rm_figure_bad n b Rr P1 P2 T U x ?_ hrep
                  by_cases h8 : x < 0
                  · exact Or.inl h8
                  · by_cases h9 : 7 < x
                    · exact Or.inr h9
                    · obtain ⟨j, hj, rfl⟩ := nI_of2 (M := 7) (n := 7) (by decide) h8 (Int32.not_lt.mp h9)
                      rcases (show j = 0 ∨ j = 1 ∨ j = 2 ∨ j = 3 ∨ j = 4 ∨ j = 5 ∨ j = 6 ∨ j = 7 by omega) with rfl | rfl | rfl | rfl | rfl | rfl | rfl | rfl
                      · exact absurd rfl h0
                      · exact absurd rfl h1
                      · exact absurd rfl h2
                      · exact absurd rfl h3
                      · exact absurd rfl h4
                      · exact absurd rfl h5
                      · exact absurd rfl h6
                      · exact absurd rfl h7
set_option maxHeartbeats 4000000 in
set_option maxRecDepth 100000 in
theorem c_rm_differ_ok {l : Launch} {dC : Nat → ClassId} {dI : Nat → Nat → Nat} {h : Nat} {a : Nat → Nat} {cI cL : ClassId} {cod : Int32} {cof : Int32} {mad : Int32} {nu : Nat → Int32} {co : Nat → Int64} {se : Nat → Int32} {li : Nat → Int32} {le : Nat → Int32} {fi : Nat → Int32} {sc : Nat → Int32} {ti : Nat → Int32} {un : Nat → Int32} {ma : Nat → Int32} {dr : Nat → Int32} {fr : Nat → Int32} {to : Nat → Int32} {en : Nat → Int32} (n b : Nat) (Rr : Nat → rg_R) (P1 P2 : Nat → Int32) (T : Nat → Nat) (U : Nat → List Nat) (i j : Nat) (hin9 : i < n) (hjn9 : j < n) (hrep : rm_Rep (nI n) (nI b) cof nu co se li le fi sc ti un ma (n, Rr, P1, P2, T, U, b, cof)) : rg_M l yM_differ (Cond.code yM_differ prog_8_method_35_code 3 (some .int) :: rg_tbl) { frames := 2, cells := 0, slots := 0, locals := 49 } (dC, dI) rg_cl [(cI, .int), (cL, .long)] (rm_W h a cI cL cod (nI n) (nI b) cof mad nu co se li le fi sc ti un ma dr fr to en) [.ref h, .int (nI i), .int (nI j)] (rg_QI (dC, dI) rg_cl [(cI, .int), (cL, .long)] (S := rm_S) (rm_Po (0, rg_dif (Rr i) (Rr j), (n, Rr, P1, P2, T, U, b, cof))) (fun u => rm_Wu h a cI cL u)) 0 0 := by
  refine rg_of prog_8_method_35_code 3 (some .int) (by decide) rfl (Nat.le_of_ble_eq_true rfl) ?_
  intro p e R s m args below meth c Q A H locs ls hR hQ hx hb hml hr hts hown hlk hnm hP hK hD hA hS hl
  have hl : lv_has ls 3 [(0, .ref h), (1, .int (nI i)), (2, .int (nI j))] := hl
  have hts : ∀ w ∈ rg_tbl, w.before args s = true := fun w h => hts w (List.mem_cons_of_mem _ h)
  have hok := hrep.1
  have hn1 : 1 ≤ n := hok.1
  have hn60 : n ≤ 60 := hok.2.1
  have hb4 : b < 4 := hok.2.2.2.2.2.2.2.1
  have hTb : T b < n := (hok.2.2.2.2.2.2.1 b hb4).1
  have hti : ti b = nI (T b) := (hrep.2.2.2.2.2.2 b hb4).1
  have hma : ma b = nI (U b).length := (hrep.2.2.2.2.2.2 b hb4).2.1
  have hB := rg_isR_ok (n := n) (by omega) hin9
  have hB2 := rg_isR_ok (n := n) (by omega) hjn9
  refine lv_aload_n hx hb dM_differ_0 rfl (lv_at hl 0 rfl) ?_
  refine lv_aload_n hx hb dM_differ_1 rfl (lv_at hl 0 rfl) ?_
  refine lv_iload_n hx hb dM_differ_2 rfl (lv_at hl 1 rfl) ?_
  refine rg_calli hD hS hA (va_runV (As := [.int (nI i)]) (rest := [.ref h]) ⟨hx, hb, hml, hown, hts⟩ (c_rm_isRevision n (nI i) _) (cwV 1 hts (rg_gV tw_726 tw_728 ts_M_isRevision tw_5 tw_729) rfl rfl rfl (by decide +kernel) ⟨by rw [hR]; exact Nat.le_of_ble_eq_true rfl, by rw [hR]; exact Nat.le_of_ble_eq_true rfl⟩) (rg_preV rfl hK hP hD (ci := 0) (q0 := 0) rfl rfl) rfl rfl hl.1 rfl (lv_room (Nat.le_of_ble_eq_true rfl)) dM_differ_3 ⟨Nat.zero_le _, Nat.zero_le _⟩) (fun r1 u2 H locs hw3 hP hD hS => ?_)
  subst hw3
  have hP : va_P (dC, dI) rg_cl (rm_W h a cI cL cod (nI n) (nI b) cof mad nu co se li le fi sc ti un ma dr fr to en) H := hP
  have hD : va_D A (rm_W h a cI cL cod (nI n) (nI b) cof mad nu co se li le fi sc ti un ma dr fr to en) := hD
  refine rg_ifz_eq (tgt := 21) hx hb dM_differ_6 (by decide) (fun h4 => absurd (hB.symm.trans h4) (by decide)) (fun h4 => ?_)
  refine lv_aload_n hx hb dM_differ_9 rfl (lv_at hl 0 rfl) ?_
  refine lv_iload_n hx hb dM_differ_10 rfl (lv_at hl 2 rfl) ?_
  refine rg_calli hD hS hA (va_runV (As := [.int (nI j)]) (rest := [.ref h]) ⟨hx, hb, hml, hown, hts⟩ (c_rm_isRevision n (nI j) _) (cwV 1 hts (rg_gV tw_726 tw_728 ts_M_isRevision tw_5 tw_729) rfl rfl rfl (by decide +kernel) ⟨by rw [hR]; exact Nat.le_of_ble_eq_true rfl, by rw [hR]; exact Nat.le_of_ble_eq_true rfl⟩) (rg_preV rfl hK hP hD (ci := 0) (q0 := 0) rfl rfl) rfl rfl hl.1 rfl (lv_room (Nat.le_of_ble_eq_true rfl)) dM_differ_11 ⟨Nat.zero_le _, Nat.zero_le _⟩) (fun r5 u6 H locs hw7 hP hD hS => ?_)
  subst hw7
  have hP : va_P (dC, dI) rg_cl (rm_W h a cI cL cod (nI n) (nI b) cof mad nu co se li le fi sc ti un ma dr fr to en) H := hP
  have hD : va_D A (rm_W h a cI cL cod (nI n) (nI b) cof mad nu co se li le fi sc ti un ma dr fr to en) := hD
  refine rg_ifz_eq (tgt := 21) hx hb dM_differ_14 (by decide) (fun h8 => absurd (hB2.symm.trans h8) (by decide)) (fun h8 => ?_)
  refine lv_iconst (v := nI 0) hx hb dM_differ_17 (by decide) ?_
  refine lv_goto (tgt := 22) hx hb dM_differ_18 (by decide) ?_
  refine va_put (D := (dC, dI)) (ci := 0) (v := .int (nI 0)) (ty := .int) (C := "RevisionGroveModel") (T := TM) (N := 19) hx hb hts inM tyM tyM_ok nmM hown hK hP hD hS 0 rfl rfl 0 (by decide) (hts _ tw_601) (fun _ h9 => h9) rfl (by decide +kernel) rfl rfl (Nat.le_of_ble_eq_true rfl) dM_differ_22 (fun H locs hP hD hS => ?_)
  have hP : va_P (dC, dI) rg_cl (rm_W h a cI cL (nI 0) (nI n) (nI b) cof mad nu co se li le fi sc ti un ma dr fr to en) H := hP
  have hD : va_D A (rm_W h a cI cL (nI 0) (nI n) (nI b) cof mad nu co se li le fi sc ti un ma dr fr to en) := hD
  refine lv_aload_n hx hb dM_differ_25 rfl (lv_at hl 0 rfl) ?_
  refine va_get (D := (dC, dI)) (ci := 0) (C := "RevisionGroveModel") (T := TM) (N := 19) hx hb hts inM hown hK hP 0 rfl rfl 0 (by decide) (hts _ tw_601) (fun _ h9 => h9) rfl dM_differ_26 ?_
  refine rg_ifN_ne (tgt := 41) hx hb dM_differ_29 (by decide) (by decide) (fun h9 => by exfalso; omega) (fun h9 => ?_)
  refine lv_aload_n hx hb dM_differ_32 rfl (lv_at hl 0 rfl) ?_
  refine lv_iload_n hx hb dM_differ_33 rfl (lv_at hl 1 rfl) ?_
  refine lv_iload_n hx hb dM_differ_34 rfl (lv_at hl 2 rfl) ?_
  refine rg_calli hD hS hA (va_runV (As := [.int (nI i), .int (nI j)]) (rest := []) ⟨hx, hb, hml, hown, hts⟩ (c_rm_difference i j (by omega) (by omega) (Rr i) (Rr j) (hrep.2.2.2.2.1 i hin9) (hrep.2.2.2.2.1 j hjn9) _) (cwV 2 hts (rg_gV tw_679 tw_681 ts_M_difference tw_5 tw_682) rfl rfl rfl (by decide +kernel) ⟨by rw [hR]; exact Nat.le_of_ble_eq_true rfl, by rw [hR]; exact Nat.le_of_ble_eq_true rfl⟩) (rg_preV rfl hK hP hD (ci := 0) (q0 := 0) rfl rfl) rfl rfl hl.1 rfl (lv_room (Nat.le_of_ble_eq_true rfl)) dM_differ_35 ⟨Nat.zero_le _, Nat.zero_le _⟩) (fun r10 u11 H locs hw12 hP hD hS => ?_)
  subst hw12
  have hP : va_P (dC, dI) rg_cl (rm_W h a cI cL (nI 0) (nI n) (nI b) cof mad nu co se li le fi sc ti un ma dr fr to en) H := hP
  have hD : va_D A (rm_W h a cI cL (nI 0) (nI n) (nI b) cof mad nu co se li le fi sc ti un ma dr fr to en) := hD
  refine lv_goto (tgt := 42) hx hb dM_differ_38 (by decide) ?_
  rw [hQ]
  exact rg_iret hx hb hr hlk hK hP hD hS dM_differ_42 (nI 0, nI n, nI b, cof, mad, nu, co, se, li, le, fi, sc, ti, un, ma, dr, fr, to, en) rfl (⟨hrep, rfl, rfl⟩)
set_option maxHeartbeats 4000000 in
set_option maxRecDepth 100000 in
theorem c_rm_differ_bad1 {l : Launch} {dC : Nat → ClassId} {dI : Nat → Nat → Nat} {h : Nat} {a : Nat → Nat} {cI cL : ClassId} {cod : Int32} {cof : Int32} {mad : Int32} {nu : Nat → Int32} {co : Nat → Int64} {se : Nat → Int32} {li : Nat → Int32} {le : Nat → Int32} {fi : Nat → Int32} {sc : Nat → Int32} {ti : Nat → Int32} {un : Nat → Int32} {ma : Nat → Int32} {dr : Nat → Int32} {fr : Nat → Int32} {to : Nat → Int32} {en : Nat → Int32} (n b : Nat) (Rr : Nat → rg_R) (P1 P2 : Nat → Int32) (T : Nat → Nat) (U : Nat → List Nat) (x y : Int32) (hB : rg_isR n x = false) (hrep : rm_Rep (nI n) (nI b) cof nu co se li le fi sc ti un ma (n, Rr, P1, P2, T, U, b, cof)) : rg_M l yM_differ (Cond.code yM_differ prog_8_method_35_code 3 (some .int) :: rg_tbl) { frames := 2, cells := 0, slots := 0, locals := 49 } (dC, dI) rg_cl [(cI, .int), (cL, .long)] (rm_W h a cI cL cod (nI n) (nI b) cof mad nu co se li le fi sc ti un ma dr fr to en) [.ref h, .int x, .int y] (rg_QI (dC, dI) rg_cl [(cI, .int), (cL, .long)] (S := rm_S) (rm_Po (1, 0, (n, Rr, P1, P2, T, U, b, cof))) (fun u => rm_Wu h a cI cL u)) 0 0 := by
  refine rg_of prog_8_method_35_code 3 (some .int) (by decide) rfl (Nat.le_of_ble_eq_true rfl) ?_
  intro p e R s m args below meth c Q A H locs ls hR hQ hx hb hml hr hts hown hlk hnm hP hK hD hA hS hl
  have hl : lv_has ls 3 [(0, .ref h), (1, .int x), (2, .int y)] := hl
  have hts : ∀ w ∈ rg_tbl, w.before args s = true := fun w h => hts w (List.mem_cons_of_mem _ h)
  have hok := hrep.1
  have hn1 : 1 ≤ n := hok.1
  have hn60 : n ≤ 60 := hok.2.1
  have hb4 : b < 4 := hok.2.2.2.2.2.2.2.1
  have hTb : T b < n := (hok.2.2.2.2.2.2.1 b hb4).1
  have hti : ti b = nI (T b) := (hrep.2.2.2.2.2.2 b hb4).1
  have hma : ma b = nI (U b).length := (hrep.2.2.2.2.2.2 b hb4).2.1
  refine lv_aload_n hx hb dM_differ_0 rfl (lv_at hl 0 rfl) ?_
  refine lv_aload_n hx hb dM_differ_1 rfl (lv_at hl 0 rfl) ?_
  refine lv_iload_n hx hb dM_differ_2 rfl (lv_at hl 1 rfl) ?_
  refine rg_calli hD hS hA (va_runV (As := [.int x]) (rest := [.ref h]) ⟨hx, hb, hml, hown, hts⟩ (c_rm_isRevision n x _) (cwV 1 hts (rg_gV tw_726 tw_728 ts_M_isRevision tw_5 tw_729) rfl rfl rfl (by decide +kernel) ⟨by rw [hR]; exact Nat.le_of_ble_eq_true rfl, by rw [hR]; exact Nat.le_of_ble_eq_true rfl⟩) (rg_preV rfl hK hP hD (ci := 0) (q0 := 0) rfl rfl) rfl rfl hl.1 rfl (lv_room (Nat.le_of_ble_eq_true rfl)) dM_differ_3 ⟨Nat.zero_le _, Nat.zero_le _⟩) (fun r1 u2 H locs hw3 hP hD hS => ?_)
  subst hw3
  have hP : va_P (dC, dI) rg_cl (rm_W h a cI cL cod (nI n) (nI b) cof mad nu co se li le fi sc ti un ma dr fr to en) H := hP
  have hD : va_D A (rm_W h a cI cL cod (nI n) (nI b) cof mad nu co se li le fi sc ti un ma dr fr to en) := hD
  refine rg_ifz_eq (tgt := 21) hx hb dM_differ_6 (by decide) (fun h4 => ?_) (fun h4 => absurd (hB.symm.trans h4) (by decide))
  refine lv_iconst (v := nI 1) hx hb dM_differ_21 (by decide) ?_
  refine va_put (D := (dC, dI)) (ci := 0) (v := .int (nI 1)) (ty := .int) (C := "RevisionGroveModel") (T := TM) (N := 19) hx hb hts inM tyM tyM_ok nmM hown hK hP hD hS 0 rfl rfl 0 (by decide) (hts _ tw_601) (fun _ h9 => h9) rfl (by decide +kernel) rfl rfl (Nat.le_of_ble_eq_true rfl) dM_differ_22 (fun H locs hP hD hS => ?_)
  have hP : va_P (dC, dI) rg_cl (rm_W h a cI cL (nI 1) (nI n) (nI b) cof mad nu co se li le fi sc ti un ma dr fr to en) H := hP
  have hD : va_D A (rm_W h a cI cL (nI 1) (nI n) (nI b) cof mad nu co se li le fi sc ti un ma dr fr to en) := hD
  refine lv_aload_n hx hb dM_differ_25 rfl (lv_at hl 0 rfl) ?_
  refine va_get (D := (dC, dI)) (ci := 0) (C := "RevisionGroveModel") (T := TM) (N := 19) hx hb hts inM hown hK hP 0 rfl rfl 0 (by decide) (hts _ tw_601) (fun _ h9 => h9) rfl dM_differ_26 ?_
  refine rg_ifN_ne (tgt := 41) hx hb dM_differ_29 (by decide) (by decide) (fun h5 => ?_) (fun h5 => by exfalso; omega)
  refine lv_iconst (v := nI 0) hx hb dM_differ_41 (by decide) ?_
  rw [hQ]
  exact rg_iret hx hb hr hlk hK hP hD hS dM_differ_42 (nI 1, nI n, nI b, cof, mad, nu, co, se, li, le, fi, sc, ti, un, ma, dr, fr, to, en) rfl (⟨hrep, rfl, rfl⟩)
set_option maxHeartbeats 4000000 in
set_option maxRecDepth 100000 in
theorem c_rm_differ_bad2 {l : Launch} {dC : Nat → ClassId} {dI : Nat → Nat → Nat} {h : Nat} {a : Nat → Nat} {cI cL : ClassId} {cod : Int32} {cof : Int32} {mad : Int32} {nu : Nat → Int32} {co : Nat → Int64} {se : Nat → Int32} {li : Nat → Int32} {le : Nat → Int32} {fi : Nat → Int32} {sc : Nat → Int32} {ti : Nat → Int32} {un : Nat → Int32} {ma : Nat → Int32} {dr : Nat → Int32} {fr : Nat → Int32} {to : Nat → Int32} {en : Nat → Int32} (n b : Nat) (Rr : Nat → rg_R) (P1 P2 : Nat → Int32) (T : Nat → Nat) (U : Nat → List Nat) (x y : Int32) (hB : rg_isR n x = true) (hB2 : rg_isR n y = false) (hrep : rm_Rep (nI n) (nI b) cof nu co se li le fi sc ti un ma (n, Rr, P1, P2, T, U, b, cof)) : rg_M l yM_differ (Cond.code yM_differ prog_8_method_35_code 3 (some .int) :: rg_tbl) { frames := 2, cells := 0, slots := 0, locals := 49 } (dC, dI) rg_cl [(cI, .int), (cL, .long)] (rm_W h a cI cL cod (nI n) (nI b) cof mad nu co se li le fi sc ti un ma dr fr to en) [.ref h, .int x, .int y] (rg_QI (dC, dI) rg_cl [(cI, .int), (cL, .long)] (S := rm_S) (rm_Po (1, 0, (n, Rr, P1, P2, T, U, b, cof))) (fun u => rm_Wu h a cI cL u)) 0 0 := by
  refine rg_of prog_8_method_35_code 3 (some .int) (by decide) rfl (Nat.le_of_ble_eq_true rfl) ?_
  intro p e R s m args below meth c Q A H locs ls hR hQ hx hb hml hr hts hown hlk hnm hP hK hD hA hS hl
  have hl : lv_has ls 3 [(0, .ref h), (1, .int x), (2, .int y)] := hl
  have hts : ∀ w ∈ rg_tbl, w.before args s = true := fun w h => hts w (List.mem_cons_of_mem _ h)
  have hok := hrep.1
  have hn1 : 1 ≤ n := hok.1
  have hn60 : n ≤ 60 := hok.2.1
  have hb4 : b < 4 := hok.2.2.2.2.2.2.2.1
  have hTb : T b < n := (hok.2.2.2.2.2.2.1 b hb4).1
  have hti : ti b = nI (T b) := (hrep.2.2.2.2.2.2 b hb4).1
  have hma : ma b = nI (U b).length := (hrep.2.2.2.2.2.2 b hb4).2.1
  refine lv_aload_n hx hb dM_differ_0 rfl (lv_at hl 0 rfl) ?_
  refine lv_aload_n hx hb dM_differ_1 rfl (lv_at hl 0 rfl) ?_
  refine lv_iload_n hx hb dM_differ_2 rfl (lv_at hl 1 rfl) ?_
  refine rg_calli hD hS hA (va_runV (As := [.int x]) (rest := [.ref h]) ⟨hx, hb, hml, hown, hts⟩ (c_rm_isRevision n x _) (cwV 1 hts (rg_gV tw_726 tw_728 ts_M_isRevision tw_5 tw_729) rfl rfl rfl (by decide +kernel) ⟨by rw [hR]; exact Nat.le_of_ble_eq_true rfl, by rw [hR]; exact Nat.le_of_ble_eq_true rfl⟩) (rg_preV rfl hK hP hD (ci := 0) (q0 := 0) rfl rfl) rfl rfl hl.1 rfl (lv_room (Nat.le_of_ble_eq_true rfl)) dM_differ_3 ⟨Nat.zero_le _, Nat.zero_le _⟩) (fun r1 u2 H locs hw3 hP hD hS => ?_)
  subst hw3
  have hP : va_P (dC, dI) rg_cl (rm_W h a cI cL cod (nI n) (nI b) cof mad nu co se li le fi sc ti un ma dr fr to en) H := hP
  have hD : va_D A (rm_W h a cI cL cod (nI n) (nI b) cof mad nu co se li le fi sc ti un ma dr fr to en) := hD
  refine rg_ifz_eq (tgt := 21) hx hb dM_differ_6 (by decide) (fun h4 => absurd (hB.symm.trans h4) (by decide)) (fun h4 => ?_)
  refine lv_aload_n hx hb dM_differ_9 rfl (lv_at hl 0 rfl) ?_
  refine lv_iload_n hx hb dM_differ_10 rfl (lv_at hl 2 rfl) ?_
  refine rg_calli hD hS hA (va_runV (As := [.int y]) (rest := [.ref h]) ⟨hx, hb, hml, hown, hts⟩ (c_rm_isRevision n y _) (cwV 1 hts (rg_gV tw_726 tw_728 ts_M_isRevision tw_5 tw_729) rfl rfl rfl (by decide +kernel) ⟨by rw [hR]; exact Nat.le_of_ble_eq_true rfl, by rw [hR]; exact Nat.le_of_ble_eq_true rfl⟩) (rg_preV rfl hK hP hD (ci := 0) (q0 := 0) rfl rfl) rfl rfl hl.1 rfl (lv_room (Nat.le_of_ble_eq_true rfl)) dM_differ_11 ⟨Nat.zero_le _, Nat.zero_le _⟩) (fun r5 u6 H locs hw7 hP hD hS => ?_)
  subst hw7
  have hP : va_P (dC, dI) rg_cl (rm_W h a cI cL cod (nI n) (nI b) cof mad nu co se li le fi sc ti un ma dr fr to en) H := hP
  have hD : va_D A (rm_W h a cI cL cod (nI n) (nI b) cof mad nu co se li le fi sc ti un ma dr fr to en) := hD
  refine rg_ifz_eq (tgt := 21) hx hb dM_differ_14 (by decide) (fun h8 => ?_) (fun h8 => absurd (hB2.symm.trans h8) (by decide))
  refine lv_iconst (v := nI 1) hx hb dM_differ_21 (by decide) ?_
  refine va_put (D := (dC, dI)) (ci := 0) (v := .int (nI 1)) (ty := .int) (C := "RevisionGroveModel") (T := TM) (N := 19) hx hb hts inM tyM tyM_ok nmM hown hK hP hD hS 0 rfl rfl 0 (by decide) (hts _ tw_601) (fun _ h9 => h9) rfl (by decide +kernel) rfl rfl (Nat.le_of_ble_eq_true rfl) dM_differ_22 (fun H locs hP hD hS => ?_)
  have hP : va_P (dC, dI) rg_cl (rm_W h a cI cL (nI 1) (nI n) (nI b) cof mad nu co se li le fi sc ti un ma dr fr to en) H := hP
  have hD : va_D A (rm_W h a cI cL (nI 1) (nI n) (nI b) cof mad nu co se li le fi sc ti un ma dr fr to en) := hD
  refine lv_aload_n hx hb dM_differ_25 rfl (lv_at hl 0 rfl) ?_
  refine va_get (D := (dC, dI)) (ci := 0) (C := "RevisionGroveModel") (T := TM) (N := 19) hx hb hts inM hown hK hP 0 rfl rfl 0 (by decide) (hts _ tw_601) (fun _ h9 => h9) rfl dM_differ_26 ?_
  refine rg_ifN_ne (tgt := 41) hx hb dM_differ_29 (by decide) (by decide) (fun h9 => ?_) (fun h9 => by exfalso; omega)
  refine lv_iconst (v := nI 0) hx hb dM_differ_41 (by decide) ?_
  rw [hQ]
  exact rg_iret hx hb hr hlk hK hP hD hS dM_differ_42 (nI 1, nI n, nI b, cof, mad, nu, co, se, li, le, fi, sc, ti, un, ma, dr, fr, to, en) rfl (⟨hrep, rfl, rfl⟩)
theorem c_rm_differ {l : Launch} {dC : Nat → ClassId} {dI : Nat → Nat → Nat} {h : Nat} {a : Nat → Nat} {cI cL : ClassId} {cod : Int32} {cof : Int32} {mad : Int32} {nu : Nat → Int32} {co : Nat → Int64} {se : Nat → Int32} {li : Nat → Int32} {le : Nat → Int32} {fi : Nat → Int32} {sc : Nat → Int32} {ti : Nat → Int32} {un : Nat → Int32} {ma : Nat → Int32} {dr : Nat → Int32} {fr : Nat → Int32} {to : Nat → Int32} {en : Nat → Int32} (n b : Nat) (Rr : Nat → rg_R) (P1 P2 : Nat → Int32) (T : Nat → Nat) (U : Nat → List Nat) (x y : Int32) (hrep : rm_Rep (nI n) (nI b) cof nu co se li le fi sc ti un ma (n, Rr, P1, P2, T, U, b, cof)) : rg_M l yM_differ (Cond.code yM_differ prog_8_method_35_code 3 (some .int) :: rg_tbl) { frames := 2, cells := 0, slots := 0, locals := 49 } (dC, dI) rg_cl [(cI, .int), (cL, .long)] (rm_W h a cI cL cod (nI n) (nI b) cof mad nu co se li le fi sc ti un ma dr fr to en) [.ref h, .int x, .int y] (rg_QI (dC, dI) rg_cl [(cI, .int), (cL, .long)] (S := rm_S) (rm_Po (rg_oDif (n, Rr, P1, P2, T, U, b, cof) x y)) (fun u => rm_Wu h a cI cL u)) 0 0 := by
  unfold rg_oDif
  show rg_M _ _ _ _ _ _ _ _ _ (rg_QI _ _ _ (rm_Po (bif rg_isR n x && rg_isR n y then _ else _)) _) _ _
  cases hB : rg_isR n x with
  | false => exact c_rm_differ_bad1 n b Rr P1 P2 T U x y hB hrep
  | true =>
    cases hB2 : rg_isR n y with
    | false => exact c_rm_differ_bad2 n b Rr P1 P2 T U x y hB hB2 hrep
    | true =>
      obtain ⟨i, hi, rfl⟩ := rg_isR_of hB
      obtain ⟨j, hj, rfl⟩ := rg_isR_of hB2
      rw [nI_clamp (Nat.lt_of_lt_of_le hi (Nat.le_trans hrep.1.2.1 (by decide))), nI_clamp (Nat.lt_of_lt_of_le hj (Nat.le_trans hrep.1.2.1 (by decide)))]
      exact c_rm_differ_ok n b Rr P1 P2 T U i j hi hj hrep
set_option maxHeartbeats 4000000 in
set_option maxRecDepth 100000 in
theorem c_rm_value_badx {l : Launch} {dC : Nat → ClassId} {dI : Nat → Nat → Nat} {h : Nat} {a : Nat → Nat} {cI cL : ClassId} {cod : Int32} {cof : Int32} {mad : Int32} {nu : Nat → Int32} {co : Nat → Int64} {se : Nat → Int32} {li : Nat → Int32} {le : Nat → Int32} {fi : Nat → Int32} {sc : Nat → Int32} {ti : Nat → Int32} {un : Nat → Int32} {ma : Nat → Int32} {dr : Nat → Int32} {fr : Nat → Int32} {to : Nat → Int32} {en : Nat → Int32} (n b : Nat) (Rr : Nat → rg_R) (P1 P2 : Nat → Int32) (T : Nat → Nat) (U : Nat → List Nat) (x f i : Int32) (hB : rg_isR n x = false) (hrep : rm_Rep (nI n) (nI b) cof nu co se li le fi sc ti un ma (n, Rr, P1, P2, T, U, b, cof)) : rg_M l yM_value (Cond.code yM_value prog_8_method_34_code 5 (some .long) :: rg_tbl) { frames := 1, cells := 0, slots := 0, locals := 23 } (dC, dI) rg_cl [(cI, .int), (cL, .long)] (rm_W h a cI cL cod (nI n) (nI b) cof mad nu co se li le fi sc ti un ma dr fr to en) [.ref h, .int x, .int f, .int i] (rg_QL (dC, dI) rg_cl [(cI, .int), (cL, .long)] (S := rm_S) (rm_Pl (1, 0) (n, Rr, P1, P2, T, U, b, cof)) (fun u => rm_Wu h a cI cL u)) 0 0 := by
  refine rg_of prog_8_method_34_code 5 (some .long) (by decide) rfl (Nat.le_of_ble_eq_true rfl) ?_
  intro p e R s m args below meth c Q A H locs ls hR hQ hx hb hml hr hts hown hlk hnm hP hK hD hA hS hl
  have hl : lv_has ls 5 [(0, .ref h), (1, .int x), (2, .int f), (3, .int i)] := hl
  have hts : ∀ w ∈ rg_tbl, w.before args s = true := fun w h => hts w (List.mem_cons_of_mem _ h)
  have hok := hrep.1
  have hn1 : 1 ≤ n := hok.1
  have hn60 : n ≤ 60 := hok.2.1
  have hb4 : b < 4 := hok.2.2.2.2.2.2.2.1
  have hTb : T b < n := (hok.2.2.2.2.2.2.1 b hb4).1
  have hti : ti b = nI (T b) := (hrep.2.2.2.2.2.2 b hb4).1
  have hma : ma b = nI (U b).length := (hrep.2.2.2.2.2.2 b hb4).2.1
  refine lv_aload_n hx hb dM_value_0 rfl (lv_at hl 0 rfl) ?_
  refine lv_aload_n hx hb dM_value_1 rfl (lv_at hl 0 rfl) ?_
  refine lv_iload_n hx hb dM_value_2 rfl (lv_at hl 1 rfl) ?_
  refine rg_calli hD hS hA (va_runV (As := [.int x]) (rest := [.ref h]) ⟨hx, hb, hml, hown, hts⟩ (c_rm_isRevision n x _) (cwV 1 hts (rg_gV tw_726 tw_728 ts_M_isRevision tw_5 tw_729) rfl rfl rfl (by decide +kernel) ⟨by rw [hR]; exact Nat.le_of_ble_eq_true rfl, by rw [hR]; exact Nat.le_of_ble_eq_true rfl⟩) (rg_preV rfl hK hP hD (ci := 0) (q0 := 0) rfl rfl) rfl rfl hl.1 rfl (lv_room (Nat.le_of_ble_eq_true rfl)) dM_value_3 ⟨Nat.zero_le _, Nat.zero_le _⟩) (fun r1 u2 H locs hw3 hP hD hS => ?_)
  subst hw3
  have hP : va_P (dC, dI) rg_cl (rm_W h a cI cL cod (nI n) (nI b) cof mad nu co se li le fi sc ti un ma dr fr to en) H := hP
  have hD : va_D A (rm_W h a cI cL cod (nI n) (nI b) cof mad nu co se li le fi sc ti un ma dr fr to en) := hD
  refine rg_ifz_eq (tgt := 19) hx hb dM_value_6 (by decide) (fun h4 => ?_) (fun h4 => absurd (hB.symm.trans h4) (by decide))
  refine lv_iconst (v := nI 1) hx hb dM_value_19 (by decide) ?_
  refine lv_goto (tgt := 24) hx hb dM_value_20 (by decide) ?_
  refine va_put (D := (dC, dI)) (ci := 0) (v := .int (nI 1)) (ty := .int) (C := "RevisionGroveModel") (T := TM) (N := 19) hx hb hts inM tyM tyM_ok nmM hown hK hP hD hS 0 rfl rfl 0 (by decide) (hts _ tw_601) (fun _ h9 => h9) rfl (by decide +kernel) rfl rfl (Nat.le_of_ble_eq_true rfl) dM_value_24 (fun H locs hP hD hS => ?_)
  have hP : va_P (dC, dI) rg_cl (rm_W h a cI cL (nI 1) (nI n) (nI b) cof mad nu co se li le fi sc ti un ma dr fr to en) H := hP
  have hD : va_D A (rm_W h a cI cL (nI 1) (nI n) (nI b) cof mad nu co se li le fi sc ti un ma dr fr to en) := hD
  refine lv_aload_n hx hb dM_value_27 rfl (lv_at hl 0 rfl) ?_
  refine va_get (D := (dC, dI)) (ci := 0) (C := "RevisionGroveModel") (T := TM) (N := 19) hx hb hts inM hown hK hP 0 rfl rfl 0 (by decide) (hts _ tw_601) (fun _ h9 => h9) rfl dM_value_28 ?_
  refine rg_ifN_le (tgt := 36) hx hb dM_value_31 (by decide) (by decide) (fun h5 => by exfalso; omega) (fun h5 => ?_)
  refine lv_lconst (v := 0) hx hb dM_value_34 (by decide) ?_
  rw [hQ]
  exact rg_lret hx hb hr hlk hK hP hD hS dM_value_35 (nI 1, nI n, nI b, cof, mad, nu, co, se, li, le, fi, sc, ti, un, ma, dr, fr, to, en) rfl (⟨hrep, rfl, rfl⟩)
set_option maxHeartbeats 4000000 in
set_option maxRecDepth 100000 in
theorem c_rm_value_badf {l : Launch} {dC : Nat → ClassId} {dI : Nat → Nat → Nat} {h : Nat} {a : Nat → Nat} {cI cL : ClassId} {cod : Int32} {cof : Int32} {mad : Int32} {nu : Nat → Int32} {co : Nat → Int64} {se : Nat → Int32} {li : Nat → Int32} {le : Nat → Int32} {fi : Nat → Int32} {sc : Nat → Int32} {ti : Nat → Int32} {un : Nat → Int32} {ma : Nat → Int32} {dr : Nat → Int32} {fr : Nat → Int32} {to : Nat → Int32} {en : Nat → Int32} (n b : Nat) (Rr : Nat → rg_R) (P1 P2 : Nat → Int32) (T : Nat → Nat) (U : Nat → List Nat) (j : Nat) (hjn : j < n) (f i : Int32) (hf0 : f < 0 ∨ 7 < f) (hrep : rm_Rep (nI n) (nI b) cof nu co se li le fi sc ti un ma (n, Rr, P1, P2, T, U, b, cof)) : rg_M l yM_value (Cond.code yM_value prog_8_method_34_code 5 (some .long) :: rg_tbl) { frames := 1, cells := 0, slots := 0, locals := 23 } (dC, dI) rg_cl [(cI, .int), (cL, .long)] (rm_W h a cI cL cod (nI n) (nI b) cof mad nu co se li le fi sc ti un ma dr fr to en) [.ref h, .int (nI j), .int f, .int i] (rg_QL (dC, dI) rg_cl [(cI, .int), (cL, .long)] (S := rm_S) (rm_Pl (1, 0) (n, Rr, P1, P2, T, U, b, cof)) (fun u => rm_Wu h a cI cL u)) 0 0 := by
  refine rg_of prog_8_method_34_code 5 (some .long) (by decide) rfl (Nat.le_of_ble_eq_true rfl) ?_
  intro p e R s m args below meth c Q A H locs ls hR hQ hx hb hml hr hts hown hlk hnm hP hK hD hA hS hl
  have hl : lv_has ls 5 [(0, .ref h), (1, .int (nI j)), (2, .int f), (3, .int i)] := hl
  have hts : ∀ w ∈ rg_tbl, w.before args s = true := fun w h => hts w (List.mem_cons_of_mem _ h)
  have hok := hrep.1
  have hn1 : 1 ≤ n := hok.1
  have hn60 : n ≤ 60 := hok.2.1
  have hb4 : b < 4 := hok.2.2.2.2.2.2.2.1
  have hTb : T b < n := (hok.2.2.2.2.2.2.1 b hb4).1
  have hti : ti b = nI (T b) := (hrep.2.2.2.2.2.2 b hb4).1
  have hma : ma b = nI (U b).length := (hrep.2.2.2.2.2.2 b hb4).2.1
  have hB := rg_isR_ok (n := n) (by omega) hjn
  refine lv_aload_n hx hb dM_value_0 rfl (lv_at hl 0 rfl) ?_
  refine lv_aload_n hx hb dM_value_1 rfl (lv_at hl 0 rfl) ?_
  refine lv_iload_n hx hb dM_value_2 rfl (lv_at hl 1 rfl) ?_
  refine rg_calli hD hS hA (va_runV (As := [.int (nI j)]) (rest := [.ref h]) ⟨hx, hb, hml, hown, hts⟩ (c_rm_isRevision n (nI j) _) (cwV 1 hts (rg_gV tw_726 tw_728 ts_M_isRevision tw_5 tw_729) rfl rfl rfl (by decide +kernel) ⟨by rw [hR]; exact Nat.le_of_ble_eq_true rfl, by rw [hR]; exact Nat.le_of_ble_eq_true rfl⟩) (rg_preV rfl hK hP hD (ci := 0) (q0 := 0) rfl rfl) rfl rfl hl.1 rfl (lv_room (Nat.le_of_ble_eq_true rfl)) dM_value_3 ⟨Nat.zero_le _, Nat.zero_le _⟩) (fun r1 u2 H locs hw3 hP hD hS => ?_)
  subst hw3
  have hP : va_P (dC, dI) rg_cl (rm_W h a cI cL cod (nI n) (nI b) cof mad nu co se li le fi sc ti un ma dr fr to en) H := hP
  have hD : va_D A (rm_W h a cI cL cod (nI n) (nI b) cof mad nu co se li le fi sc ti un ma dr fr to en) := hD
  refine rg_ifz_eq (tgt := 19) hx hb dM_value_6 (by decide) (fun h4 => absurd (hB.symm.trans h4) (by decide)) (fun h4 => ?_)
  refine lv_iload_n hx hb dM_value_9 rfl (lv_at hl 2 rfl) ?_
  refine lv_if_lt (tgt := 19) hx hb dM_value_10 (by decide) (fun h5 => ?_) (fun h5 => ?_)
  · refine lv_iconst (v := nI 1) hx hb dM_value_19 (by decide) ?_
    refine lv_goto (tgt := 24) hx hb dM_value_20 (by decide) ?_
    refine va_put (D := (dC, dI)) (ci := 0) (v := .int (nI 1)) (ty := .int) (C := "RevisionGroveModel") (T := TM) (N := 19) hx hb hts inM tyM tyM_ok nmM hown hK hP hD hS 0 rfl rfl 0 (by decide) (hts _ tw_601) (fun _ h9 => h9) rfl (by decide +kernel) rfl rfl (Nat.le_of_ble_eq_true rfl) dM_value_24 (fun H locs hP hD hS => ?_)
    have hP : va_P (dC, dI) rg_cl (rm_W h a cI cL (nI 1) (nI n) (nI b) cof mad nu co se li le fi sc ti un ma dr fr to en) H := hP
    have hD : va_D A (rm_W h a cI cL (nI 1) (nI n) (nI b) cof mad nu co se li le fi sc ti un ma dr fr to en) := hD
    refine lv_aload_n hx hb dM_value_27 rfl (lv_at hl 0 rfl) ?_
    refine va_get (D := (dC, dI)) (ci := 0) (C := "RevisionGroveModel") (T := TM) (N := 19) hx hb hts inM hown hK hP 0 rfl rfl 0 (by decide) (hts _ tw_601) (fun _ h9 => h9) rfl dM_value_28 ?_
    refine rg_ifN_le (tgt := 36) hx hb dM_value_31 (by decide) (by decide) (fun h6 => by exfalso; omega) (fun h6 => ?_)
    refine lv_lconst (v := 0) hx hb dM_value_34 (by decide) ?_
    rw [hQ]
    exact rg_lret hx hb hr hlk hK hP hD hS dM_value_35 (nI 1, nI n, nI b, cof, mad, nu, co, se, li, le, fi, sc, ti, un, ma, dr, fr, to, en) rfl (⟨hrep, rfl, rfl⟩)
  · refine lv_iload_n hx hb dM_value_13 rfl (lv_at hl 2 rfl) ?_
    refine lv_bipush (v := nI 7) hx hb dM_value_14 (by decide) ?_
    refine lv_icmp_le (tgt := 23) hx hb dM_value_16 (by decide) (fun h7 => absurd hf0 (fun q => q.elim h5 (fun q => Int32.not_lt.mpr h7 q))) (fun h7 => ?_)
    refine lv_iconst (v := nI 1) hx hb dM_value_19 (by decide) ?_
    refine lv_goto (tgt := 24) hx hb dM_value_20 (by decide) ?_
    refine va_put (D := (dC, dI)) (ci := 0) (v := .int (nI 1)) (ty := .int) (C := "RevisionGroveModel") (T := TM) (N := 19) hx hb hts inM tyM tyM_ok nmM hown hK hP hD hS 0 rfl rfl 0 (by decide) (hts _ tw_601) (fun _ h9 => h9) rfl (by decide +kernel) rfl rfl (Nat.le_of_ble_eq_true rfl) dM_value_24 (fun H locs hP hD hS => ?_)
    have hP : va_P (dC, dI) rg_cl (rm_W h a cI cL (nI 1) (nI n) (nI b) cof mad nu co se li le fi sc ti un ma dr fr to en) H := hP
    have hD : va_D A (rm_W h a cI cL (nI 1) (nI n) (nI b) cof mad nu co se li le fi sc ti un ma dr fr to en) := hD
    refine lv_aload_n hx hb dM_value_27 rfl (lv_at hl 0 rfl) ?_
    refine va_get (D := (dC, dI)) (ci := 0) (C := "RevisionGroveModel") (T := TM) (N := 19) hx hb hts inM hown hK hP 0 rfl rfl 0 (by decide) (hts _ tw_601) (fun _ h9 => h9) rfl dM_value_28 ?_
    refine rg_ifN_le (tgt := 36) hx hb dM_value_31 (by decide) (by decide) (fun h8 => by exfalso; omega) (fun h8 => ?_)
    refine lv_lconst (v := 0) hx hb dM_value_34 (by decide) ?_
    rw [hQ]
    exact rg_lret hx hb hr hlk hK hP hD hS dM_value_35 (nI 1, nI n, nI b, cof, mad, nu, co, se, li, le, fi, sc, ti, un, ma, dr, fr, to, en) rfl (⟨hrep, rfl, rfl⟩)
set_option maxHeartbeats 4000000 in
set_option maxRecDepth 100000 in
theorem c_rm_value_0 {l : Launch} {dC : Nat → ClassId} {dI : Nat → Nat → Nat} {h : Nat} {a : Nat → Nat} {cI cL : ClassId} {cod : Int32} {cof : Int32} {mad : Int32} {nu : Nat → Int32} {co : Nat → Int64} {se : Nat → Int32} {li : Nat → Int32} {le : Nat → Int32} {fi : Nat → Int32} {sc : Nat → Int32} {ti : Nat → Int32} {un : Nat → Int32} {ma : Nat → Int32} {dr : Nat → Int32} {fr : Nat → Int32} {to : Nat → Int32} {en : Nat → Int32} (n b : Nat) (Rr : Nat → rg_R) (P1 P2 : Nat → Int32) (T : Nat → Nat) (U : Nat → List Nat) (j : Nat) (hjn : j < n) (i : Int32) (hrep : rm_Rep (nI n) (nI b) cof nu co se li le fi sc ti un ma (n, Rr, P1, P2, T, U, b, cof)) : rg_M l yM_value (Cond.code yM_value prog_8_method_34_code 5 (some .long) :: rg_tbl) { frames := 1, cells := 0, slots := 0, locals := 23 } (dC, dI) rg_cl [(cI, .int), (cL, .long)] (rm_W h a cI cL cod (nI n) (nI b) cof mad nu co se li le fi sc ti un ma dr fr to en) [.ref h, .int (nI j), .int (nI 0), .int i] (rg_QL (dC, dI) rg_cl [(cI, .int), (cL, .long)] (S := rm_S) (rm_Pl (0, ((Rr j).1 0).toInt64) (n, Rr, P1, P2, T, U, b, cof)) (fun u => rm_Wu h a cI cL u)) 0 0 := by
  refine rg_of prog_8_method_34_code 5 (some .long) (by decide) rfl (Nat.le_of_ble_eq_true rfl) ?_
  intro p e R s m args below meth c Q A H locs ls hR hQ hx hb hml hr hts hown hlk hnm hP hK hD hA hS hl
  have hl : lv_has ls 5 [(0, .ref h), (1, .int (nI j)), (2, .int (nI 0)), (3, .int i)] := hl
  have hts : ∀ w ∈ rg_tbl, w.before args s = true := fun w h => hts w (List.mem_cons_of_mem _ h)
  have hok := hrep.1
  have hn1 : 1 ≤ n := hok.1
  have hn60 : n ≤ 60 := hok.2.1
  have hb4 : b < 4 := hok.2.2.2.2.2.2.2.1
  have hTb : T b < n := (hok.2.2.2.2.2.2.1 b hb4).1
  have hti : ti b = nI (T b) := (hrep.2.2.2.2.2.2 b hb4).1
  have hma : ma b = nI (U b).length := (hrep.2.2.2.2.2.2 b hb4).2.1
  have hB := rg_isR_ok (n := n) (by omega) hjn
  have q0 : nu (2 * j + 0) = (Rr j).1 0 := (hrep.2.2.2.2.1 j hjn 0 (by decide)).1
  refine lv_aload_n hx hb dM_value_0 rfl (lv_at hl 0 rfl) ?_
  refine lv_aload_n hx hb dM_value_1 rfl (lv_at hl 0 rfl) ?_
  refine lv_iload_n hx hb dM_value_2 rfl (lv_at hl 1 rfl) ?_
  refine rg_calli hD hS hA (va_runV (As := [.int (nI j)]) (rest := [.ref h]) ⟨hx, hb, hml, hown, hts⟩ (c_rm_isRevision n (nI j) _) (cwV 1 hts (rg_gV tw_726 tw_728 ts_M_isRevision tw_5 tw_729) rfl rfl rfl (by decide +kernel) ⟨by rw [hR]; exact Nat.le_of_ble_eq_true rfl, by rw [hR]; exact Nat.le_of_ble_eq_true rfl⟩) (rg_preV rfl hK hP hD (ci := 0) (q0 := 0) rfl rfl) rfl rfl hl.1 rfl (lv_room (Nat.le_of_ble_eq_true rfl)) dM_value_3 ⟨Nat.zero_le _, Nat.zero_le _⟩) (fun r1 u2 H locs hw3 hP hD hS => ?_)
  subst hw3
  have hP : va_P (dC, dI) rg_cl (rm_W h a cI cL cod (nI n) (nI b) cof mad nu co se li le fi sc ti un ma dr fr to en) H := hP
  have hD : va_D A (rm_W h a cI cL cod (nI n) (nI b) cof mad nu co se li le fi sc ti un ma dr fr to en) := hD
  refine rg_ifz_eq (tgt := 19) hx hb dM_value_6 (by decide) (fun h4 => absurd (hB.symm.trans h4) (by decide)) (fun h4 => ?_)
  refine lv_iload_n hx hb dM_value_9 rfl (lv_at hl 2 rfl) ?_
  refine rg_ifN_lt (tgt := 19) hx hb dM_value_10 (by decide) (by omega) (fun h5 => h5.elim) (fun h5 => ?_)
  refine lv_iload_n hx hb dM_value_13 rfl (lv_at hl 2 rfl) ?_
  refine lv_bipush (v := nI 7) hx hb dM_value_14 (by decide) ?_
  refine rg_icmp_le (tgt := 23) hx hb dM_value_16 (by decide) (by omega) (by omega) (fun h6 => ?_) (fun h6 => by exfalso; omega)
  refine lv_iconst (v := nI 0) hx hb dM_value_23 (by decide) ?_
  refine va_put (D := (dC, dI)) (ci := 0) (v := .int (nI 0)) (ty := .int) (C := "RevisionGroveModel") (T := TM) (N := 19) hx hb hts inM tyM tyM_ok nmM hown hK hP hD hS 0 rfl rfl 0 (by decide) (hts _ tw_601) (fun _ h9 => h9) rfl (by decide +kernel) rfl rfl (Nat.le_of_ble_eq_true rfl) dM_value_24 (fun H locs hP hD hS => ?_)
  have hP : va_P (dC, dI) rg_cl (rm_W h a cI cL (nI 0) (nI n) (nI b) cof mad nu co se li le fi sc ti un ma dr fr to en) H := hP
  have hD : va_D A (rm_W h a cI cL (nI 0) (nI n) (nI b) cof mad nu co se li le fi sc ti un ma dr fr to en) := hD
  refine lv_aload_n hx hb dM_value_27 rfl (lv_at hl 0 rfl) ?_
  refine va_get (D := (dC, dI)) (ci := 0) (C := "RevisionGroveModel") (T := TM) (N := 19) hx hb hts inM hown hK hP 0 rfl rfl 0 (by decide) (hts _ tw_601) (fun _ h9 => h9) rfl dM_value_28 ?_
  refine rg_ifN_le (tgt := 36) hx hb dM_value_31 (by decide) (by decide) (fun h7 => ?_) (fun h7 => by exfalso; omega)
  refine lv_iconst (v := nI 2) hx hb dM_value_36 (by decide) ?_
  refine lv_iload_n hx hb dM_value_37 rfl (lv_at hl 1 rfl) ?_
  refine rg_imul hx hb dM_value_38 ?_
  refine lv_iload_n hx hb dM_value_39 rfl (lv_at hl 2 rfl) ?_
  refine lv_iconst (v := nI 2) hx hb dM_value_40 (by decide) ?_
  refine lv_irem hx hb dM_value_41 (by decide) ?_
  refine rg_top (show _ = Value.int (nI 0) by decide) ?_
  refine rg_iadd hx hb dM_value_42 ?_
  refine lv_istore (lv' := [(4, .int (nI (2 * j + 0))), (0, .ref h), (1, .int (nI j)), (2, .int (nI 0)), (3, .int i)]) hx hb dM_value_43 hl (by decide) rfl (fun ls hl => ?_)
  refine lv_iload_n hx hb dM_value_45 rfl (lv_at hl 3 rfl) ?_
  refine lv_bipush (v := nI 6) hx hb dM_value_46 (by decide) ?_
  refine rg_icmp_ge (tgt := 95) hx hb dM_value_48 (by decide) (by omega) (by omega) (fun h8 => by exfalso; omega) (fun h8 => ?_)
  refine lv_iload_n hx hb dM_value_51 rfl (lv_at hl 3 rfl) ?_
  refine lv_iconst (v := nI 2) hx hb dM_value_52 (by decide) ?_
  refine rg_icmp_ge (tgt := 67) hx hb dM_value_53 (by decide) (by omega) (by omega) (fun h9 => by exfalso; omega) (fun h9 => ?_)
  refine lv_aload_n hx hb dM_value_56 rfl (lv_at hl 1 rfl) ?_
  refine va_get (D := (dC, dI)) (ci := 0) (C := "RevisionGroveModel") (T := TM) (N := 19) hx hb hts inM hown hK hP 0 rfl rfl 2 (by decide) (hts _ tw_603) (fun _ h9 => h9) rfl dM_value_57 ?_
  refine lv_iload hx hb dM_value_60 (lv_at hl 0 rfl) ?_
  refine rg_iald hx hb hK hP 1 0 rfl rfl (by decide) (by omega) dM_value_62 ?_
  refine rg_top (show (.int (nu (2 * j + 0)) : Value) = .int ((Rr j).1 0) by rw [q0]) ?_
  refine lv_i2l (v := ((Rr j).1 0).toInt64) hx hb dM_value_63 rfl ?_
  refine lv_goto (tgt := 94) hx hb dM_value_64 (by decide) ?_
  rw [hQ]
  exact rg_lret hx hb hr hlk hK hP hD hS dM_value_94 (nI 0, nI n, nI b, cof, mad, nu, co, se, li, le, fi, sc, ti, un, ma, dr, fr, to, en) rfl (⟨hrep, rfl, rfl⟩)
set_option maxHeartbeats 4000000 in
set_option maxRecDepth 100000 in
theorem c_rm_value_1 {l : Launch} {dC : Nat → ClassId} {dI : Nat → Nat → Nat} {h : Nat} {a : Nat → Nat} {cI cL : ClassId} {cod : Int32} {cof : Int32} {mad : Int32} {nu : Nat → Int32} {co : Nat → Int64} {se : Nat → Int32} {li : Nat → Int32} {le : Nat → Int32} {fi : Nat → Int32} {sc : Nat → Int32} {ti : Nat → Int32} {un : Nat → Int32} {ma : Nat → Int32} {dr : Nat → Int32} {fr : Nat → Int32} {to : Nat → Int32} {en : Nat → Int32} (n b : Nat) (Rr : Nat → rg_R) (P1 P2 : Nat → Int32) (T : Nat → Nat) (U : Nat → List Nat) (j : Nat) (hjn : j < n) (i : Int32) (hrep : rm_Rep (nI n) (nI b) cof nu co se li le fi sc ti un ma (n, Rr, P1, P2, T, U, b, cof)) : rg_M l yM_value (Cond.code yM_value prog_8_method_34_code 5 (some .long) :: rg_tbl) { frames := 1, cells := 0, slots := 0, locals := 23 } (dC, dI) rg_cl [(cI, .int), (cL, .long)] (rm_W h a cI cL cod (nI n) (nI b) cof mad nu co se li le fi sc ti un ma dr fr to en) [.ref h, .int (nI j), .int (nI 1), .int i] (rg_QL (dC, dI) rg_cl [(cI, .int), (cL, .long)] (S := rm_S) (rm_Pl (0, ((Rr j).1 1).toInt64) (n, Rr, P1, P2, T, U, b, cof)) (fun u => rm_Wu h a cI cL u)) 0 0 := by
  refine rg_of prog_8_method_34_code 5 (some .long) (by decide) rfl (Nat.le_of_ble_eq_true rfl) ?_
  intro p e R s m args below meth c Q A H locs ls hR hQ hx hb hml hr hts hown hlk hnm hP hK hD hA hS hl
  have hl : lv_has ls 5 [(0, .ref h), (1, .int (nI j)), (2, .int (nI 1)), (3, .int i)] := hl
  have hts : ∀ w ∈ rg_tbl, w.before args s = true := fun w h => hts w (List.mem_cons_of_mem _ h)
  have hok := hrep.1
  have hn1 : 1 ≤ n := hok.1
  have hn60 : n ≤ 60 := hok.2.1
  have hb4 : b < 4 := hok.2.2.2.2.2.2.2.1
  have hTb : T b < n := (hok.2.2.2.2.2.2.1 b hb4).1
  have hti : ti b = nI (T b) := (hrep.2.2.2.2.2.2 b hb4).1
  have hma : ma b = nI (U b).length := (hrep.2.2.2.2.2.2 b hb4).2.1
  have hB := rg_isR_ok (n := n) (by omega) hjn
  have q0 : nu (2 * j + 1) = (Rr j).1 1 := (hrep.2.2.2.2.1 j hjn 1 (by decide)).1
  refine lv_aload_n hx hb dM_value_0 rfl (lv_at hl 0 rfl) ?_
  refine lv_aload_n hx hb dM_value_1 rfl (lv_at hl 0 rfl) ?_
  refine lv_iload_n hx hb dM_value_2 rfl (lv_at hl 1 rfl) ?_
  refine rg_calli hD hS hA (va_runV (As := [.int (nI j)]) (rest := [.ref h]) ⟨hx, hb, hml, hown, hts⟩ (c_rm_isRevision n (nI j) _) (cwV 1 hts (rg_gV tw_726 tw_728 ts_M_isRevision tw_5 tw_729) rfl rfl rfl (by decide +kernel) ⟨by rw [hR]; exact Nat.le_of_ble_eq_true rfl, by rw [hR]; exact Nat.le_of_ble_eq_true rfl⟩) (rg_preV rfl hK hP hD (ci := 0) (q0 := 0) rfl rfl) rfl rfl hl.1 rfl (lv_room (Nat.le_of_ble_eq_true rfl)) dM_value_3 ⟨Nat.zero_le _, Nat.zero_le _⟩) (fun r1 u2 H locs hw3 hP hD hS => ?_)
  subst hw3
  have hP : va_P (dC, dI) rg_cl (rm_W h a cI cL cod (nI n) (nI b) cof mad nu co se li le fi sc ti un ma dr fr to en) H := hP
  have hD : va_D A (rm_W h a cI cL cod (nI n) (nI b) cof mad nu co se li le fi sc ti un ma dr fr to en) := hD
  refine rg_ifz_eq (tgt := 19) hx hb dM_value_6 (by decide) (fun h4 => absurd (hB.symm.trans h4) (by decide)) (fun h4 => ?_)
  refine lv_iload_n hx hb dM_value_9 rfl (lv_at hl 2 rfl) ?_
  refine rg_ifN_lt (tgt := 19) hx hb dM_value_10 (by decide) (by omega) (fun h5 => h5.elim) (fun h5 => ?_)
  refine lv_iload_n hx hb dM_value_13 rfl (lv_at hl 2 rfl) ?_
  refine lv_bipush (v := nI 7) hx hb dM_value_14 (by decide) ?_
  refine rg_icmp_le (tgt := 23) hx hb dM_value_16 (by decide) (by omega) (by omega) (fun h6 => ?_) (fun h6 => by exfalso; omega)
  refine lv_iconst (v := nI 0) hx hb dM_value_23 (by decide) ?_
  refine va_put (D := (dC, dI)) (ci := 0) (v := .int (nI 0)) (ty := .int) (C := "RevisionGroveModel") (T := TM) (N := 19) hx hb hts inM tyM tyM_ok nmM hown hK hP hD hS 0 rfl rfl 0 (by decide) (hts _ tw_601) (fun _ h9 => h9) rfl (by decide +kernel) rfl rfl (Nat.le_of_ble_eq_true rfl) dM_value_24 (fun H locs hP hD hS => ?_)
  have hP : va_P (dC, dI) rg_cl (rm_W h a cI cL (nI 0) (nI n) (nI b) cof mad nu co se li le fi sc ti un ma dr fr to en) H := hP
  have hD : va_D A (rm_W h a cI cL (nI 0) (nI n) (nI b) cof mad nu co se li le fi sc ti un ma dr fr to en) := hD
  refine lv_aload_n hx hb dM_value_27 rfl (lv_at hl 0 rfl) ?_
  refine va_get (D := (dC, dI)) (ci := 0) (C := "RevisionGroveModel") (T := TM) (N := 19) hx hb hts inM hown hK hP 0 rfl rfl 0 (by decide) (hts _ tw_601) (fun _ h9 => h9) rfl dM_value_28 ?_
  refine rg_ifN_le (tgt := 36) hx hb dM_value_31 (by decide) (by decide) (fun h7 => ?_) (fun h7 => by exfalso; omega)
  refine lv_iconst (v := nI 2) hx hb dM_value_36 (by decide) ?_
  refine lv_iload_n hx hb dM_value_37 rfl (lv_at hl 1 rfl) ?_
  refine rg_imul hx hb dM_value_38 ?_
  refine lv_iload_n hx hb dM_value_39 rfl (lv_at hl 2 rfl) ?_
  refine lv_iconst (v := nI 2) hx hb dM_value_40 (by decide) ?_
  refine lv_irem hx hb dM_value_41 (by decide) ?_
  refine rg_top (show _ = Value.int (nI 1) by decide) ?_
  refine rg_iadd hx hb dM_value_42 ?_
  refine lv_istore (lv' := [(4, .int (nI (2 * j + 1))), (0, .ref h), (1, .int (nI j)), (2, .int (nI 1)), (3, .int i)]) hx hb dM_value_43 hl (by decide) rfl (fun ls hl => ?_)
  refine lv_iload_n hx hb dM_value_45 rfl (lv_at hl 3 rfl) ?_
  refine lv_bipush (v := nI 6) hx hb dM_value_46 (by decide) ?_
  refine rg_icmp_ge (tgt := 95) hx hb dM_value_48 (by decide) (by omega) (by omega) (fun h8 => by exfalso; omega) (fun h8 => ?_)
  refine lv_iload_n hx hb dM_value_51 rfl (lv_at hl 3 rfl) ?_
  refine lv_iconst (v := nI 2) hx hb dM_value_52 (by decide) ?_
  refine rg_icmp_ge (tgt := 67) hx hb dM_value_53 (by decide) (by omega) (by omega) (fun h9 => by exfalso; omega) (fun h9 => ?_)
  refine lv_aload_n hx hb dM_value_56 rfl (lv_at hl 1 rfl) ?_
  refine va_get (D := (dC, dI)) (ci := 0) (C := "RevisionGroveModel") (T := TM) (N := 19) hx hb hts inM hown hK hP 0 rfl rfl 2 (by decide) (hts _ tw_603) (fun _ h9 => h9) rfl dM_value_57 ?_
  refine lv_iload hx hb dM_value_60 (lv_at hl 0 rfl) ?_
  refine rg_iald hx hb hK hP 1 0 rfl rfl (by decide) (by omega) dM_value_62 ?_
  refine rg_top (show (.int (nu (2 * j + 1)) : Value) = .int ((Rr j).1 1) by rw [q0]) ?_
  refine lv_i2l (v := ((Rr j).1 1).toInt64) hx hb dM_value_63 rfl ?_
  refine lv_goto (tgt := 94) hx hb dM_value_64 (by decide) ?_
  rw [hQ]
  exact rg_lret hx hb hr hlk hK hP hD hS dM_value_94 (nI 0, nI n, nI b, cof, mad, nu, co, se, li, le, fi, sc, ti, un, ma, dr, fr, to, en) rfl (⟨hrep, rfl, rfl⟩)
set_option maxHeartbeats 4000000 in
set_option maxRecDepth 100000 in
theorem c_rm_value_2 {l : Launch} {dC : Nat → ClassId} {dI : Nat → Nat → Nat} {h : Nat} {a : Nat → Nat} {cI cL : ClassId} {cod : Int32} {cof : Int32} {mad : Int32} {nu : Nat → Int32} {co : Nat → Int64} {se : Nat → Int32} {li : Nat → Int32} {le : Nat → Int32} {fi : Nat → Int32} {sc : Nat → Int32} {ti : Nat → Int32} {un : Nat → Int32} {ma : Nat → Int32} {dr : Nat → Int32} {fr : Nat → Int32} {to : Nat → Int32} {en : Nat → Int32} (n b : Nat) (Rr : Nat → rg_R) (P1 P2 : Nat → Int32) (T : Nat → Nat) (U : Nat → List Nat) (j : Nat) (hjn : j < n) (i : Int32) (hrep : rm_Rep (nI n) (nI b) cof nu co se li le fi sc ti un ma (n, Rr, P1, P2, T, U, b, cof)) : rg_M l yM_value (Cond.code yM_value prog_8_method_34_code 5 (some .long) :: rg_tbl) { frames := 1, cells := 0, slots := 0, locals := 23 } (dC, dI) rg_cl [(cI, .int), (cL, .long)] (rm_W h a cI cL cod (nI n) (nI b) cof mad nu co se li le fi sc ti un ma dr fr to en) [.ref h, .int (nI j), .int (nI 2), .int i] (rg_QL (dC, dI) rg_cl [(cI, .int), (cL, .long)] (S := rm_S) (rm_Pl (0, (Rr j).2.1 0) (n, Rr, P1, P2, T, U, b, cof)) (fun u => rm_Wu h a cI cL u)) 0 0 := by
  refine rg_of prog_8_method_34_code 5 (some .long) (by decide) rfl (Nat.le_of_ble_eq_true rfl) ?_
  intro p e R s m args below meth c Q A H locs ls hR hQ hx hb hml hr hts hown hlk hnm hP hK hD hA hS hl
  have hl : lv_has ls 5 [(0, .ref h), (1, .int (nI j)), (2, .int (nI 2)), (3, .int i)] := hl
  have hts : ∀ w ∈ rg_tbl, w.before args s = true := fun w h => hts w (List.mem_cons_of_mem _ h)
  have hok := hrep.1
  have hn1 : 1 ≤ n := hok.1
  have hn60 : n ≤ 60 := hok.2.1
  have hb4 : b < 4 := hok.2.2.2.2.2.2.2.1
  have hTb : T b < n := (hok.2.2.2.2.2.2.1 b hb4).1
  have hti : ti b = nI (T b) := (hrep.2.2.2.2.2.2 b hb4).1
  have hma : ma b = nI (U b).length := (hrep.2.2.2.2.2.2 b hb4).2.1
  have hB := rg_isR_ok (n := n) (by omega) hjn
  have q0 : co (2 * j + 0) = (Rr j).2.1 0 := (hrep.2.2.2.2.1 j hjn 0 (by decide)).2.1
  refine lv_aload_n hx hb dM_value_0 rfl (lv_at hl 0 rfl) ?_
  refine lv_aload_n hx hb dM_value_1 rfl (lv_at hl 0 rfl) ?_
  refine lv_iload_n hx hb dM_value_2 rfl (lv_at hl 1 rfl) ?_
  refine rg_calli hD hS hA (va_runV (As := [.int (nI j)]) (rest := [.ref h]) ⟨hx, hb, hml, hown, hts⟩ (c_rm_isRevision n (nI j) _) (cwV 1 hts (rg_gV tw_726 tw_728 ts_M_isRevision tw_5 tw_729) rfl rfl rfl (by decide +kernel) ⟨by rw [hR]; exact Nat.le_of_ble_eq_true rfl, by rw [hR]; exact Nat.le_of_ble_eq_true rfl⟩) (rg_preV rfl hK hP hD (ci := 0) (q0 := 0) rfl rfl) rfl rfl hl.1 rfl (lv_room (Nat.le_of_ble_eq_true rfl)) dM_value_3 ⟨Nat.zero_le _, Nat.zero_le _⟩) (fun r1 u2 H locs hw3 hP hD hS => ?_)
  subst hw3
  have hP : va_P (dC, dI) rg_cl (rm_W h a cI cL cod (nI n) (nI b) cof mad nu co se li le fi sc ti un ma dr fr to en) H := hP
  have hD : va_D A (rm_W h a cI cL cod (nI n) (nI b) cof mad nu co se li le fi sc ti un ma dr fr to en) := hD
  refine rg_ifz_eq (tgt := 19) hx hb dM_value_6 (by decide) (fun h4 => absurd (hB.symm.trans h4) (by decide)) (fun h4 => ?_)
  refine lv_iload_n hx hb dM_value_9 rfl (lv_at hl 2 rfl) ?_
  refine rg_ifN_lt (tgt := 19) hx hb dM_value_10 (by decide) (by omega) (fun h5 => h5.elim) (fun h5 => ?_)
  refine lv_iload_n hx hb dM_value_13 rfl (lv_at hl 2 rfl) ?_
  refine lv_bipush (v := nI 7) hx hb dM_value_14 (by decide) ?_
  refine rg_icmp_le (tgt := 23) hx hb dM_value_16 (by decide) (by omega) (by omega) (fun h6 => ?_) (fun h6 => by exfalso; omega)
  refine lv_iconst (v := nI 0) hx hb dM_value_23 (by decide) ?_
  refine va_put (D := (dC, dI)) (ci := 0) (v := .int (nI 0)) (ty := .int) (C := "RevisionGroveModel") (T := TM) (N := 19) hx hb hts inM tyM tyM_ok nmM hown hK hP hD hS 0 rfl rfl 0 (by decide) (hts _ tw_601) (fun _ h9 => h9) rfl (by decide +kernel) rfl rfl (Nat.le_of_ble_eq_true rfl) dM_value_24 (fun H locs hP hD hS => ?_)
  have hP : va_P (dC, dI) rg_cl (rm_W h a cI cL (nI 0) (nI n) (nI b) cof mad nu co se li le fi sc ti un ma dr fr to en) H := hP
  have hD : va_D A (rm_W h a cI cL (nI 0) (nI n) (nI b) cof mad nu co se li le fi sc ti un ma dr fr to en) := hD
  refine lv_aload_n hx hb dM_value_27 rfl (lv_at hl 0 rfl) ?_
  refine va_get (D := (dC, dI)) (ci := 0) (C := "RevisionGroveModel") (T := TM) (N := 19) hx hb hts inM hown hK hP 0 rfl rfl 0 (by decide) (hts _ tw_601) (fun _ h9 => h9) rfl dM_value_28 ?_
  refine rg_ifN_le (tgt := 36) hx hb dM_value_31 (by decide) (by decide) (fun h7 => ?_) (fun h7 => by exfalso; omega)
  refine lv_iconst (v := nI 2) hx hb dM_value_36 (by decide) ?_
  refine lv_iload_n hx hb dM_value_37 rfl (lv_at hl 1 rfl) ?_
  refine rg_imul hx hb dM_value_38 ?_
  refine lv_iload_n hx hb dM_value_39 rfl (lv_at hl 2 rfl) ?_
  refine lv_iconst (v := nI 2) hx hb dM_value_40 (by decide) ?_
  refine lv_irem hx hb dM_value_41 (by decide) ?_
  refine rg_top (show _ = Value.int (nI 0) by decide) ?_
  refine rg_iadd hx hb dM_value_42 ?_
  refine lv_istore (lv' := [(4, .int (nI (2 * j + 0))), (0, .ref h), (1, .int (nI j)), (2, .int (nI 2)), (3, .int i)]) hx hb dM_value_43 hl (by decide) rfl (fun ls hl => ?_)
  refine lv_iload_n hx hb dM_value_45 rfl (lv_at hl 3 rfl) ?_
  refine lv_bipush (v := nI 6) hx hb dM_value_46 (by decide) ?_
  refine rg_icmp_ge (tgt := 95) hx hb dM_value_48 (by decide) (by omega) (by omega) (fun h8 => by exfalso; omega) (fun h8 => ?_)
  refine lv_iload_n hx hb dM_value_51 rfl (lv_at hl 3 rfl) ?_
  refine lv_iconst (v := nI 2) hx hb dM_value_52 (by decide) ?_
  refine rg_icmp_ge (tgt := 67) hx hb dM_value_53 (by decide) (by omega) (by omega) (fun h9 => ?_) (fun h9 => by exfalso; omega)
  refine lv_iload_n hx hb dM_value_67 rfl (lv_at hl 3 rfl) ?_
  refine lv_iconst (v := nI 4) hx hb dM_value_68 (by decide) ?_
  refine rg_icmp_ge (tgt := 82) hx hb dM_value_69 (by decide) (by omega) (by omega) (fun h10 => by exfalso; omega) (fun h10 => ?_)
  refine lv_aload_n hx hb dM_value_72 rfl (lv_at hl 1 rfl) ?_
  refine va_get (D := (dC, dI)) (ci := 0) (C := "RevisionGroveModel") (T := TM) (N := 19) hx hb hts inM hown hK hP 0 rfl rfl 3 (by decide) (hts _ tw_604) (fun _ h9 => h9) rfl dM_value_73 ?_
  refine lv_iload hx hb dM_value_76 (lv_at hl 0 rfl) ?_
  refine rg_lald hx hb hK hP 2 1 rfl rfl (by decide) (by omega) dM_value_78 ?_
  refine rg_top (show (.long (co (2 * j + 0)) : Value) = .long ((Rr j).2.1 0) by rw [q0]) ?_
  refine lv_goto (tgt := 94) hx hb dM_value_79 (by decide) ?_
  rw [hQ]
  exact rg_lret hx hb hr hlk hK hP hD hS dM_value_94 (nI 0, nI n, nI b, cof, mad, nu, co, se, li, le, fi, sc, ti, un, ma, dr, fr, to, en) rfl (⟨hrep, rfl, rfl⟩)
set_option maxHeartbeats 4000000 in
set_option maxRecDepth 100000 in
theorem c_rm_value_3 {l : Launch} {dC : Nat → ClassId} {dI : Nat → Nat → Nat} {h : Nat} {a : Nat → Nat} {cI cL : ClassId} {cod : Int32} {cof : Int32} {mad : Int32} {nu : Nat → Int32} {co : Nat → Int64} {se : Nat → Int32} {li : Nat → Int32} {le : Nat → Int32} {fi : Nat → Int32} {sc : Nat → Int32} {ti : Nat → Int32} {un : Nat → Int32} {ma : Nat → Int32} {dr : Nat → Int32} {fr : Nat → Int32} {to : Nat → Int32} {en : Nat → Int32} (n b : Nat) (Rr : Nat → rg_R) (P1 P2 : Nat → Int32) (T : Nat → Nat) (U : Nat → List Nat) (j : Nat) (hjn : j < n) (i : Int32) (hrep : rm_Rep (nI n) (nI b) cof nu co se li le fi sc ti un ma (n, Rr, P1, P2, T, U, b, cof)) : rg_M l yM_value (Cond.code yM_value prog_8_method_34_code 5 (some .long) :: rg_tbl) { frames := 1, cells := 0, slots := 0, locals := 23 } (dC, dI) rg_cl [(cI, .int), (cL, .long)] (rm_W h a cI cL cod (nI n) (nI b) cof mad nu co se li le fi sc ti un ma dr fr to en) [.ref h, .int (nI j), .int (nI 3), .int i] (rg_QL (dC, dI) rg_cl [(cI, .int), (cL, .long)] (S := rm_S) (rm_Pl (0, (Rr j).2.1 1) (n, Rr, P1, P2, T, U, b, cof)) (fun u => rm_Wu h a cI cL u)) 0 0 := by
  refine rg_of prog_8_method_34_code 5 (some .long) (by decide) rfl (Nat.le_of_ble_eq_true rfl) ?_
  intro p e R s m args below meth c Q A H locs ls hR hQ hx hb hml hr hts hown hlk hnm hP hK hD hA hS hl
  have hl : lv_has ls 5 [(0, .ref h), (1, .int (nI j)), (2, .int (nI 3)), (3, .int i)] := hl
  have hts : ∀ w ∈ rg_tbl, w.before args s = true := fun w h => hts w (List.mem_cons_of_mem _ h)
  have hok := hrep.1
  have hn1 : 1 ≤ n := hok.1
  have hn60 : n ≤ 60 := hok.2.1
  have hb4 : b < 4 := hok.2.2.2.2.2.2.2.1
  have hTb : T b < n := (hok.2.2.2.2.2.2.1 b hb4).1
  have hti : ti b = nI (T b) := (hrep.2.2.2.2.2.2 b hb4).1
  have hma : ma b = nI (U b).length := (hrep.2.2.2.2.2.2 b hb4).2.1
  have hB := rg_isR_ok (n := n) (by omega) hjn
  have q0 : co (2 * j + 1) = (Rr j).2.1 1 := (hrep.2.2.2.2.1 j hjn 1 (by decide)).2.1
  refine lv_aload_n hx hb dM_value_0 rfl (lv_at hl 0 rfl) ?_
  refine lv_aload_n hx hb dM_value_1 rfl (lv_at hl 0 rfl) ?_
  refine lv_iload_n hx hb dM_value_2 rfl (lv_at hl 1 rfl) ?_
  refine rg_calli hD hS hA (va_runV (As := [.int (nI j)]) (rest := [.ref h]) ⟨hx, hb, hml, hown, hts⟩ (c_rm_isRevision n (nI j) _) (cwV 1 hts (rg_gV tw_726 tw_728 ts_M_isRevision tw_5 tw_729) rfl rfl rfl (by decide +kernel) ⟨by rw [hR]; exact Nat.le_of_ble_eq_true rfl, by rw [hR]; exact Nat.le_of_ble_eq_true rfl⟩) (rg_preV rfl hK hP hD (ci := 0) (q0 := 0) rfl rfl) rfl rfl hl.1 rfl (lv_room (Nat.le_of_ble_eq_true rfl)) dM_value_3 ⟨Nat.zero_le _, Nat.zero_le _⟩) (fun r1 u2 H locs hw3 hP hD hS => ?_)
  subst hw3
  have hP : va_P (dC, dI) rg_cl (rm_W h a cI cL cod (nI n) (nI b) cof mad nu co se li le fi sc ti un ma dr fr to en) H := hP
  have hD : va_D A (rm_W h a cI cL cod (nI n) (nI b) cof mad nu co se li le fi sc ti un ma dr fr to en) := hD
  refine rg_ifz_eq (tgt := 19) hx hb dM_value_6 (by decide) (fun h4 => absurd (hB.symm.trans h4) (by decide)) (fun h4 => ?_)
  refine lv_iload_n hx hb dM_value_9 rfl (lv_at hl 2 rfl) ?_
  refine rg_ifN_lt (tgt := 19) hx hb dM_value_10 (by decide) (by omega) (fun h5 => h5.elim) (fun h5 => ?_)
  refine lv_iload_n hx hb dM_value_13 rfl (lv_at hl 2 rfl) ?_
  refine lv_bipush (v := nI 7) hx hb dM_value_14 (by decide) ?_
  refine rg_icmp_le (tgt := 23) hx hb dM_value_16 (by decide) (by omega) (by omega) (fun h6 => ?_) (fun h6 => by exfalso; omega)
  refine lv_iconst (v := nI 0) hx hb dM_value_23 (by decide) ?_
  refine va_put (D := (dC, dI)) (ci := 0) (v := .int (nI 0)) (ty := .int) (C := "RevisionGroveModel") (T := TM) (N := 19) hx hb hts inM tyM tyM_ok nmM hown hK hP hD hS 0 rfl rfl 0 (by decide) (hts _ tw_601) (fun _ h9 => h9) rfl (by decide +kernel) rfl rfl (Nat.le_of_ble_eq_true rfl) dM_value_24 (fun H locs hP hD hS => ?_)
  have hP : va_P (dC, dI) rg_cl (rm_W h a cI cL (nI 0) (nI n) (nI b) cof mad nu co se li le fi sc ti un ma dr fr to en) H := hP
  have hD : va_D A (rm_W h a cI cL (nI 0) (nI n) (nI b) cof mad nu co se li le fi sc ti un ma dr fr to en) := hD
  refine lv_aload_n hx hb dM_value_27 rfl (lv_at hl 0 rfl) ?_
  refine va_get (D := (dC, dI)) (ci := 0) (C := "RevisionGroveModel") (T := TM) (N := 19) hx hb hts inM hown hK hP 0 rfl rfl 0 (by decide) (hts _ tw_601) (fun _ h9 => h9) rfl dM_value_28 ?_
  refine rg_ifN_le (tgt := 36) hx hb dM_value_31 (by decide) (by decide) (fun h7 => ?_) (fun h7 => by exfalso; omega)
  refine lv_iconst (v := nI 2) hx hb dM_value_36 (by decide) ?_
  refine lv_iload_n hx hb dM_value_37 rfl (lv_at hl 1 rfl) ?_
  refine rg_imul hx hb dM_value_38 ?_
  refine lv_iload_n hx hb dM_value_39 rfl (lv_at hl 2 rfl) ?_
  refine lv_iconst (v := nI 2) hx hb dM_value_40 (by decide) ?_
  refine lv_irem hx hb dM_value_41 (by decide) ?_
  refine rg_top (show _ = Value.int (nI 1) by decide) ?_
  refine rg_iadd hx hb dM_value_42 ?_
  refine lv_istore (lv' := [(4, .int (nI (2 * j + 1))), (0, .ref h), (1, .int (nI j)), (2, .int (nI 3)), (3, .int i)]) hx hb dM_value_43 hl (by decide) rfl (fun ls hl => ?_)
  refine lv_iload_n hx hb dM_value_45 rfl (lv_at hl 3 rfl) ?_
  refine lv_bipush (v := nI 6) hx hb dM_value_46 (by decide) ?_
  refine rg_icmp_ge (tgt := 95) hx hb dM_value_48 (by decide) (by omega) (by omega) (fun h8 => by exfalso; omega) (fun h8 => ?_)
  refine lv_iload_n hx hb dM_value_51 rfl (lv_at hl 3 rfl) ?_
  refine lv_iconst (v := nI 2) hx hb dM_value_52 (by decide) ?_
  refine rg_icmp_ge (tgt := 67) hx hb dM_value_53 (by decide) (by omega) (by omega) (fun h9 => ?_) (fun h9 => by exfalso; omega)
  refine lv_iload_n hx hb dM_value_67 rfl (lv_at hl 3 rfl) ?_
  refine lv_iconst (v := nI 4) hx hb dM_value_68 (by decide) ?_
  refine rg_icmp_ge (tgt := 82) hx hb dM_value_69 (by decide) (by omega) (by omega) (fun h10 => by exfalso; omega) (fun h10 => ?_)
  refine lv_aload_n hx hb dM_value_72 rfl (lv_at hl 1 rfl) ?_
  refine va_get (D := (dC, dI)) (ci := 0) (C := "RevisionGroveModel") (T := TM) (N := 19) hx hb hts inM hown hK hP 0 rfl rfl 3 (by decide) (hts _ tw_604) (fun _ h9 => h9) rfl dM_value_73 ?_
  refine lv_iload hx hb dM_value_76 (lv_at hl 0 rfl) ?_
  refine rg_lald hx hb hK hP 2 1 rfl rfl (by decide) (by omega) dM_value_78 ?_
  refine rg_top (show (.long (co (2 * j + 1)) : Value) = .long ((Rr j).2.1 1) by rw [q0]) ?_
  refine lv_goto (tgt := 94) hx hb dM_value_79 (by decide) ?_
  rw [hQ]
  exact rg_lret hx hb hr hlk hK hP hD hS dM_value_94 (nI 0, nI n, nI b, cof, mad, nu, co, se, li, le, fi, sc, ti, un, ma, dr, fr, to, en) rfl (⟨hrep, rfl, rfl⟩)
set_option maxHeartbeats 4000000 in
set_option maxRecDepth 100000 in
theorem c_rm_value_4 {l : Launch} {dC : Nat → ClassId} {dI : Nat → Nat → Nat} {h : Nat} {a : Nat → Nat} {cI cL : ClassId} {cod : Int32} {cof : Int32} {mad : Int32} {nu : Nat → Int32} {co : Nat → Int64} {se : Nat → Int32} {li : Nat → Int32} {le : Nat → Int32} {fi : Nat → Int32} {sc : Nat → Int32} {ti : Nat → Int32} {un : Nat → Int32} {ma : Nat → Int32} {dr : Nat → Int32} {fr : Nat → Int32} {to : Nat → Int32} {en : Nat → Int32} (n b : Nat) (Rr : Nat → rg_R) (P1 P2 : Nat → Int32) (T : Nat → Nat) (U : Nat → List Nat) (j : Nat) (hjn : j < n) (i : Int32) (hrep : rm_Rep (nI n) (nI b) cof nu co se li le fi sc ti un ma (n, Rr, P1, P2, T, U, b, cof)) : rg_M l yM_value (Cond.code yM_value prog_8_method_34_code 5 (some .long) :: rg_tbl) { frames := 1, cells := 0, slots := 0, locals := 23 } (dC, dI) rg_cl [(cI, .int), (cL, .long)] (rm_W h a cI cL cod (nI n) (nI b) cof mad nu co se li le fi sc ti un ma dr fr to en) [.ref h, .int (nI j), .int (nI 4), .int i] (rg_QL (dC, dI) rg_cl [(cI, .int), (cL, .long)] (S := rm_S) (rm_Pl (0, ((Rr j).2.2.1 0).toInt64 &&& 4294967295) (n, Rr, P1, P2, T, U, b, cof)) (fun u => rm_Wu h a cI cL u)) 0 0 := by
  refine rg_of prog_8_method_34_code 5 (some .long) (by decide) rfl (Nat.le_of_ble_eq_true rfl) ?_
  intro p e R s m args below meth c Q A H locs ls hR hQ hx hb hml hr hts hown hlk hnm hP hK hD hA hS hl
  have hl : lv_has ls 5 [(0, .ref h), (1, .int (nI j)), (2, .int (nI 4)), (3, .int i)] := hl
  have hts : ∀ w ∈ rg_tbl, w.before args s = true := fun w h => hts w (List.mem_cons_of_mem _ h)
  have hok := hrep.1
  have hn1 : 1 ≤ n := hok.1
  have hn60 : n ≤ 60 := hok.2.1
  have hb4 : b < 4 := hok.2.2.2.2.2.2.2.1
  have hTb : T b < n := (hok.2.2.2.2.2.2.1 b hb4).1
  have hti : ti b = nI (T b) := (hrep.2.2.2.2.2.2 b hb4).1
  have hma : ma b = nI (U b).length := (hrep.2.2.2.2.2.2 b hb4).2.1
  have hB := rg_isR_ok (n := n) (by omega) hjn
  have q0 : se (2 * j + 0) = (Rr j).2.2.1 0 := (hrep.2.2.2.2.1 j hjn 0 (by decide)).2.2.1
  refine lv_aload_n hx hb dM_value_0 rfl (lv_at hl 0 rfl) ?_
  refine lv_aload_n hx hb dM_value_1 rfl (lv_at hl 0 rfl) ?_
  refine lv_iload_n hx hb dM_value_2 rfl (lv_at hl 1 rfl) ?_
  refine rg_calli hD hS hA (va_runV (As := [.int (nI j)]) (rest := [.ref h]) ⟨hx, hb, hml, hown, hts⟩ (c_rm_isRevision n (nI j) _) (cwV 1 hts (rg_gV tw_726 tw_728 ts_M_isRevision tw_5 tw_729) rfl rfl rfl (by decide +kernel) ⟨by rw [hR]; exact Nat.le_of_ble_eq_true rfl, by rw [hR]; exact Nat.le_of_ble_eq_true rfl⟩) (rg_preV rfl hK hP hD (ci := 0) (q0 := 0) rfl rfl) rfl rfl hl.1 rfl (lv_room (Nat.le_of_ble_eq_true rfl)) dM_value_3 ⟨Nat.zero_le _, Nat.zero_le _⟩) (fun r1 u2 H locs hw3 hP hD hS => ?_)
  subst hw3
  have hP : va_P (dC, dI) rg_cl (rm_W h a cI cL cod (nI n) (nI b) cof mad nu co se li le fi sc ti un ma dr fr to en) H := hP
  have hD : va_D A (rm_W h a cI cL cod (nI n) (nI b) cof mad nu co se li le fi sc ti un ma dr fr to en) := hD
  refine rg_ifz_eq (tgt := 19) hx hb dM_value_6 (by decide) (fun h4 => absurd (hB.symm.trans h4) (by decide)) (fun h4 => ?_)
  refine lv_iload_n hx hb dM_value_9 rfl (lv_at hl 2 rfl) ?_
  refine rg_ifN_lt (tgt := 19) hx hb dM_value_10 (by decide) (by omega) (fun h5 => h5.elim) (fun h5 => ?_)
  refine lv_iload_n hx hb dM_value_13 rfl (lv_at hl 2 rfl) ?_
  refine lv_bipush (v := nI 7) hx hb dM_value_14 (by decide) ?_
  refine rg_icmp_le (tgt := 23) hx hb dM_value_16 (by decide) (by omega) (by omega) (fun h6 => ?_) (fun h6 => by exfalso; omega)
  refine lv_iconst (v := nI 0) hx hb dM_value_23 (by decide) ?_
  refine va_put (D := (dC, dI)) (ci := 0) (v := .int (nI 0)) (ty := .int) (C := "RevisionGroveModel") (T := TM) (N := 19) hx hb hts inM tyM tyM_ok nmM hown hK hP hD hS 0 rfl rfl 0 (by decide) (hts _ tw_601) (fun _ h9 => h9) rfl (by decide +kernel) rfl rfl (Nat.le_of_ble_eq_true rfl) dM_value_24 (fun H locs hP hD hS => ?_)
  have hP : va_P (dC, dI) rg_cl (rm_W h a cI cL (nI 0) (nI n) (nI b) cof mad nu co se li le fi sc ti un ma dr fr to en) H := hP
  have hD : va_D A (rm_W h a cI cL (nI 0) (nI n) (nI b) cof mad nu co se li le fi sc ti un ma dr fr to en) := hD
  refine lv_aload_n hx hb dM_value_27 rfl (lv_at hl 0 rfl) ?_
  refine va_get (D := (dC, dI)) (ci := 0) (C := "RevisionGroveModel") (T := TM) (N := 19) hx hb hts inM hown hK hP 0 rfl rfl 0 (by decide) (hts _ tw_601) (fun _ h9 => h9) rfl dM_value_28 ?_
  refine rg_ifN_le (tgt := 36) hx hb dM_value_31 (by decide) (by decide) (fun h7 => ?_) (fun h7 => by exfalso; omega)
  refine lv_iconst (v := nI 2) hx hb dM_value_36 (by decide) ?_
  refine lv_iload_n hx hb dM_value_37 rfl (lv_at hl 1 rfl) ?_
  refine rg_imul hx hb dM_value_38 ?_
  refine lv_iload_n hx hb dM_value_39 rfl (lv_at hl 2 rfl) ?_
  refine lv_iconst (v := nI 2) hx hb dM_value_40 (by decide) ?_
  refine lv_irem hx hb dM_value_41 (by decide) ?_
  refine rg_top (show _ = Value.int (nI 0) by decide) ?_
  refine rg_iadd hx hb dM_value_42 ?_
  refine lv_istore (lv' := [(4, .int (nI (2 * j + 0))), (0, .ref h), (1, .int (nI j)), (2, .int (nI 4)), (3, .int i)]) hx hb dM_value_43 hl (by decide) rfl (fun ls hl => ?_)
  refine lv_iload_n hx hb dM_value_45 rfl (lv_at hl 3 rfl) ?_
  refine lv_bipush (v := nI 6) hx hb dM_value_46 (by decide) ?_
  refine rg_icmp_ge (tgt := 95) hx hb dM_value_48 (by decide) (by omega) (by omega) (fun h8 => by exfalso; omega) (fun h8 => ?_)
  refine lv_iload_n hx hb dM_value_51 rfl (lv_at hl 3 rfl) ?_
  refine lv_iconst (v := nI 2) hx hb dM_value_52 (by decide) ?_
  refine rg_icmp_ge (tgt := 67) hx hb dM_value_53 (by decide) (by omega) (by omega) (fun h9 => ?_) (fun h9 => by exfalso; omega)
  refine lv_iload_n hx hb dM_value_67 rfl (lv_at hl 3 rfl) ?_
  refine lv_iconst (v := nI 4) hx hb dM_value_68 (by decide) ?_
  refine rg_icmp_ge (tgt := 82) hx hb dM_value_69 (by decide) (by omega) (by omega) (fun h10 => ?_) (fun h10 => by exfalso; omega)
  refine lv_aload_n hx hb dM_value_82 rfl (lv_at hl 1 rfl) ?_
  refine va_get (D := (dC, dI)) (ci := 0) (C := "RevisionGroveModel") (T := TM) (N := 19) hx hb hts inM hown hK hP 0 rfl rfl 4 (by decide) (hts _ tw_605) (fun _ h9 => h9) rfl dM_value_83 ?_
  refine lv_iload hx hb dM_value_86 (lv_at hl 0 rfl) ?_
  refine rg_iald hx hb hK hP 3 0 rfl rfl (by decide) (by omega) dM_value_88 ?_
  refine rg_top (show (.int (se (2 * j + 0)) : Value) = .int ((Rr j).2.2.1 0) by rw [q0]) ?_
  refine lv_i2l (v := ((Rr j).2.2.1 0).toInt64) hx hb dM_value_89 rfl ?_
  refine lv_ldc2 (v := 4294967295) hx hb hown (hts _ tw_789) dM_value_90 ?_
  refine lv_land hx hb dM_value_93 ?_
  rw [hQ]
  exact rg_lret hx hb hr hlk hK hP hD hS dM_value_94 (nI 0, nI n, nI b, cof, mad, nu, co, se, li, le, fi, sc, ti, un, ma, dr, fr, to, en) rfl (⟨hrep, rfl, rfl⟩)
set_option maxHeartbeats 4000000 in
set_option maxRecDepth 100000 in
theorem c_rm_value_5 {l : Launch} {dC : Nat → ClassId} {dI : Nat → Nat → Nat} {h : Nat} {a : Nat → Nat} {cI cL : ClassId} {cod : Int32} {cof : Int32} {mad : Int32} {nu : Nat → Int32} {co : Nat → Int64} {se : Nat → Int32} {li : Nat → Int32} {le : Nat → Int32} {fi : Nat → Int32} {sc : Nat → Int32} {ti : Nat → Int32} {un : Nat → Int32} {ma : Nat → Int32} {dr : Nat → Int32} {fr : Nat → Int32} {to : Nat → Int32} {en : Nat → Int32} (n b : Nat) (Rr : Nat → rg_R) (P1 P2 : Nat → Int32) (T : Nat → Nat) (U : Nat → List Nat) (j : Nat) (hjn : j < n) (i : Int32) (hrep : rm_Rep (nI n) (nI b) cof nu co se li le fi sc ti un ma (n, Rr, P1, P2, T, U, b, cof)) : rg_M l yM_value (Cond.code yM_value prog_8_method_34_code 5 (some .long) :: rg_tbl) { frames := 1, cells := 0, slots := 0, locals := 23 } (dC, dI) rg_cl [(cI, .int), (cL, .long)] (rm_W h a cI cL cod (nI n) (nI b) cof mad nu co se li le fi sc ti un ma dr fr to en) [.ref h, .int (nI j), .int (nI 5), .int i] (rg_QL (dC, dI) rg_cl [(cI, .int), (cL, .long)] (S := rm_S) (rm_Pl (0, ((Rr j).2.2.1 1).toInt64 &&& 4294967295) (n, Rr, P1, P2, T, U, b, cof)) (fun u => rm_Wu h a cI cL u)) 0 0 := by
  refine rg_of prog_8_method_34_code 5 (some .long) (by decide) rfl (Nat.le_of_ble_eq_true rfl) ?_
  intro p e R s m args below meth c Q A H locs ls hR hQ hx hb hml hr hts hown hlk hnm hP hK hD hA hS hl
  have hl : lv_has ls 5 [(0, .ref h), (1, .int (nI j)), (2, .int (nI 5)), (3, .int i)] := hl
  have hts : ∀ w ∈ rg_tbl, w.before args s = true := fun w h => hts w (List.mem_cons_of_mem _ h)
  have hok := hrep.1
  have hn1 : 1 ≤ n := hok.1
  have hn60 : n ≤ 60 := hok.2.1
  have hb4 : b < 4 := hok.2.2.2.2.2.2.2.1
  have hTb : T b < n := (hok.2.2.2.2.2.2.1 b hb4).1
  have hti : ti b = nI (T b) := (hrep.2.2.2.2.2.2 b hb4).1
  have hma : ma b = nI (U b).length := (hrep.2.2.2.2.2.2 b hb4).2.1
  have hB := rg_isR_ok (n := n) (by omega) hjn
  have q0 : se (2 * j + 1) = (Rr j).2.2.1 1 := (hrep.2.2.2.2.1 j hjn 1 (by decide)).2.2.1
  refine lv_aload_n hx hb dM_value_0 rfl (lv_at hl 0 rfl) ?_
  refine lv_aload_n hx hb dM_value_1 rfl (lv_at hl 0 rfl) ?_
  refine lv_iload_n hx hb dM_value_2 rfl (lv_at hl 1 rfl) ?_
  refine rg_calli hD hS hA (va_runV (As := [.int (nI j)]) (rest := [.ref h]) ⟨hx, hb, hml, hown, hts⟩ (c_rm_isRevision n (nI j) _) (cwV 1 hts (rg_gV tw_726 tw_728 ts_M_isRevision tw_5 tw_729) rfl rfl rfl (by decide +kernel) ⟨by rw [hR]; exact Nat.le_of_ble_eq_true rfl, by rw [hR]; exact Nat.le_of_ble_eq_true rfl⟩) (rg_preV rfl hK hP hD (ci := 0) (q0 := 0) rfl rfl) rfl rfl hl.1 rfl (lv_room (Nat.le_of_ble_eq_true rfl)) dM_value_3 ⟨Nat.zero_le _, Nat.zero_le _⟩) (fun r1 u2 H locs hw3 hP hD hS => ?_)
  subst hw3
  have hP : va_P (dC, dI) rg_cl (rm_W h a cI cL cod (nI n) (nI b) cof mad nu co se li le fi sc ti un ma dr fr to en) H := hP
  have hD : va_D A (rm_W h a cI cL cod (nI n) (nI b) cof mad nu co se li le fi sc ti un ma dr fr to en) := hD
  refine rg_ifz_eq (tgt := 19) hx hb dM_value_6 (by decide) (fun h4 => absurd (hB.symm.trans h4) (by decide)) (fun h4 => ?_)
  refine lv_iload_n hx hb dM_value_9 rfl (lv_at hl 2 rfl) ?_
  refine rg_ifN_lt (tgt := 19) hx hb dM_value_10 (by decide) (by omega) (fun h5 => h5.elim) (fun h5 => ?_)
  refine lv_iload_n hx hb dM_value_13 rfl (lv_at hl 2 rfl) ?_
  refine lv_bipush (v := nI 7) hx hb dM_value_14 (by decide) ?_
  refine rg_icmp_le (tgt := 23) hx hb dM_value_16 (by decide) (by omega) (by omega) (fun h6 => ?_) (fun h6 => by exfalso; omega)
  refine lv_iconst (v := nI 0) hx hb dM_value_23 (by decide) ?_
  refine va_put (D := (dC, dI)) (ci := 0) (v := .int (nI 0)) (ty := .int) (C := "RevisionGroveModel") (T := TM) (N := 19) hx hb hts inM tyM tyM_ok nmM hown hK hP hD hS 0 rfl rfl 0 (by decide) (hts _ tw_601) (fun _ h9 => h9) rfl (by decide +kernel) rfl rfl (Nat.le_of_ble_eq_true rfl) dM_value_24 (fun H locs hP hD hS => ?_)
  have hP : va_P (dC, dI) rg_cl (rm_W h a cI cL (nI 0) (nI n) (nI b) cof mad nu co se li le fi sc ti un ma dr fr to en) H := hP
  have hD : va_D A (rm_W h a cI cL (nI 0) (nI n) (nI b) cof mad nu co se li le fi sc ti un ma dr fr to en) := hD
  refine lv_aload_n hx hb dM_value_27 rfl (lv_at hl 0 rfl) ?_
  refine va_get (D := (dC, dI)) (ci := 0) (C := "RevisionGroveModel") (T := TM) (N := 19) hx hb hts inM hown hK hP 0 rfl rfl 0 (by decide) (hts _ tw_601) (fun _ h9 => h9) rfl dM_value_28 ?_
  refine rg_ifN_le (tgt := 36) hx hb dM_value_31 (by decide) (by decide) (fun h7 => ?_) (fun h7 => by exfalso; omega)
  refine lv_iconst (v := nI 2) hx hb dM_value_36 (by decide) ?_
  refine lv_iload_n hx hb dM_value_37 rfl (lv_at hl 1 rfl) ?_
  refine rg_imul hx hb dM_value_38 ?_
  refine lv_iload_n hx hb dM_value_39 rfl (lv_at hl 2 rfl) ?_
  refine lv_iconst (v := nI 2) hx hb dM_value_40 (by decide) ?_
  refine lv_irem hx hb dM_value_41 (by decide) ?_
  refine rg_top (show _ = Value.int (nI 1) by decide) ?_
  refine rg_iadd hx hb dM_value_42 ?_
  refine lv_istore (lv' := [(4, .int (nI (2 * j + 1))), (0, .ref h), (1, .int (nI j)), (2, .int (nI 5)), (3, .int i)]) hx hb dM_value_43 hl (by decide) rfl (fun ls hl => ?_)
  refine lv_iload_n hx hb dM_value_45 rfl (lv_at hl 3 rfl) ?_
  refine lv_bipush (v := nI 6) hx hb dM_value_46 (by decide) ?_
  refine rg_icmp_ge (tgt := 95) hx hb dM_value_48 (by decide) (by omega) (by omega) (fun h8 => by exfalso; omega) (fun h8 => ?_)
  refine lv_iload_n hx hb dM_value_51 rfl (lv_at hl 3 rfl) ?_
  refine lv_iconst (v := nI 2) hx hb dM_value_52 (by decide) ?_
  refine rg_icmp_ge (tgt := 67) hx hb dM_value_53 (by decide) (by omega) (by omega) (fun h9 => ?_) (fun h9 => by exfalso; omega)
  refine lv_iload_n hx hb dM_value_67 rfl (lv_at hl 3 rfl) ?_
  refine lv_iconst (v := nI 4) hx hb dM_value_68 (by decide) ?_
  refine rg_icmp_ge (tgt := 82) hx hb dM_value_69 (by decide) (by omega) (by omega) (fun h10 => ?_) (fun h10 => by exfalso; omega)
  refine lv_aload_n hx hb dM_value_82 rfl (lv_at hl 1 rfl) ?_
  refine va_get (D := (dC, dI)) (ci := 0) (C := "RevisionGroveModel") (T := TM) (N := 19) hx hb hts inM hown hK hP 0 rfl rfl 4 (by decide) (hts _ tw_605) (fun _ h9 => h9) rfl dM_value_83 ?_
  refine lv_iload hx hb dM_value_86 (lv_at hl 0 rfl) ?_
  refine rg_iald hx hb hK hP 3 0 rfl rfl (by decide) (by omega) dM_value_88 ?_
  refine rg_top (show (.int (se (2 * j + 1)) : Value) = .int ((Rr j).2.2.1 1) by rw [q0]) ?_
  refine lv_i2l (v := ((Rr j).2.2.1 1).toInt64) hx hb dM_value_89 rfl ?_
  refine lv_ldc2 (v := 4294967295) hx hb hown (hts _ tw_789) dM_value_90 ?_
  refine lv_land hx hb dM_value_93 ?_
  rw [hQ]
  exact rg_lret hx hb hr hlk hK hP hD hS dM_value_94 (nI 0, nI n, nI b, cof, mad, nu, co, se, li, le, fi, sc, ti, un, ma, dr, fr, to, en) rfl (⟨hrep, rfl, rfl⟩)
set_option maxHeartbeats 4000000 in
set_option maxRecDepth 100000 in
theorem c_rm_value_6m {l : Launch} {dC : Nat → ClassId} {dI : Nat → Nat → Nat} {h : Nat} {a : Nat → Nat} {cI cL : ClassId} {cod : Int32} {cof : Int32} {mad : Int32} {nu : Nat → Int32} {co : Nat → Int64} {se : Nat → Int32} {li : Nat → Int32} {le : Nat → Int32} {fi : Nat → Int32} {sc : Nat → Int32} {ti : Nat → Int32} {un : Nat → Int32} {ma : Nat → Int32} {dr : Nat → Int32} {fr : Nat → Int32} {to : Nat → Int32} {en : Nat → Int32} (n b : Nat) (Rr : Nat → rg_R) (P1 P2 : Nat → Int32) (T : Nat → Nat) (U : Nat → List Nat) (j : Nat) (hjn : j < n) (l9 : List Int32) (hl9 : (Rr j).2.2.2 0 = l9)  (hrep : rm_Rep (nI n) (nI b) cof nu co se li le fi sc ti un ma (n, Rr, P1, P2, T, U, b, cof)) : rg_M l yM_value (Cond.code yM_value prog_8_method_34_code 5 (some .long) :: rg_tbl) { frames := 1, cells := 0, slots := 0, locals := 23 } (dC, dI) rg_cl [(cI, .int), (cL, .long)] (rm_W h a cI cL cod (nI n) (nI b) cof mad nu co se li le fi sc ti un ma dr fr to en) [.ref h, .int (nI j), .int (nI 6), .int ((-1))] (rg_QL (dC, dI) rg_cl [(cI, .int), (cL, .long)] (S := rm_S) (rm_Pl (0, (nI l9.length).toInt64) (n, Rr, P1, P2, T, U, b, cof)) (fun u => rm_Wu h a cI cL u)) 0 0 := by
  refine rg_of prog_8_method_34_code 5 (some .long) (by decide) rfl (Nat.le_of_ble_eq_true rfl) ?_
  intro p e R s m args below meth c Q A H locs ls hR hQ hx hb hml hr hts hown hlk hnm hP hK hD hA hS hl
  have hl : lv_has ls 5 [(0, .ref h), (1, .int (nI j)), (2, .int (nI 6)), (3, .int ((-1)))] := hl
  have hts : ∀ w ∈ rg_tbl, w.before args s = true := fun w h => hts w (List.mem_cons_of_mem _ h)
  have hok := hrep.1
  have hn1 : 1 ≤ n := hok.1
  have hn60 : n ≤ 60 := hok.2.1
  have hb4 : b < 4 := hok.2.2.2.2.2.2.2.1
  have hTb : T b < n := (hok.2.2.2.2.2.2.1 b hb4).1
  have hti : ti b = nI (T b) := (hrep.2.2.2.2.2.2 b hb4).1
  have hma : ma b = nI (U b).length := (hrep.2.2.2.2.2.2 b hb4).2.1
  have hB := rg_isR_ok (n := n) (by omega) hjn
  have q0 := hrep.2.2.2.2.1 j hjn 0 (by decide)
  have q4 := q0.2.2.2.1
  have q5 := q0.2.2.2.2.1
  have q6 := q0.2.2.2.2.2
  have hl9 : (Rr j).2.2.2 0 = l9 := hl9
  rw [show (ra_R (n, Rr, P1, P2, T, U, b, cof) j).2.2.2 0 = l9 from hl9] at q4 q5 q6
  refine lv_aload_n hx hb dM_value_0 rfl (lv_at hl 0 rfl) ?_
  refine lv_aload_n hx hb dM_value_1 rfl (lv_at hl 0 rfl) ?_
  refine lv_iload_n hx hb dM_value_2 rfl (lv_at hl 1 rfl) ?_
  refine rg_calli hD hS hA (va_runV (As := [.int (nI j)]) (rest := [.ref h]) ⟨hx, hb, hml, hown, hts⟩ (c_rm_isRevision n (nI j) _) (cwV 1 hts (rg_gV tw_726 tw_728 ts_M_isRevision tw_5 tw_729) rfl rfl rfl (by decide +kernel) ⟨by rw [hR]; exact Nat.le_of_ble_eq_true rfl, by rw [hR]; exact Nat.le_of_ble_eq_true rfl⟩) (rg_preV rfl hK hP hD (ci := 0) (q0 := 0) rfl rfl) rfl rfl hl.1 rfl (lv_room (Nat.le_of_ble_eq_true rfl)) dM_value_3 ⟨Nat.zero_le _, Nat.zero_le _⟩) (fun r1 u2 H locs hw3 hP hD hS => ?_)
  subst hw3
  have hP : va_P (dC, dI) rg_cl (rm_W h a cI cL cod (nI n) (nI b) cof mad nu co se li le fi sc ti un ma dr fr to en) H := hP
  have hD : va_D A (rm_W h a cI cL cod (nI n) (nI b) cof mad nu co se li le fi sc ti un ma dr fr to en) := hD
  refine rg_ifz_eq (tgt := 19) hx hb dM_value_6 (by decide) (fun h4 => absurd (hB.symm.trans h4) (by decide)) (fun h4 => ?_)
  refine lv_iload_n hx hb dM_value_9 rfl (lv_at hl 2 rfl) ?_
  refine rg_ifN_lt (tgt := 19) hx hb dM_value_10 (by decide) (by omega) (fun h5 => h5.elim) (fun h5 => ?_)
  refine lv_iload_n hx hb dM_value_13 rfl (lv_at hl 2 rfl) ?_
  refine lv_bipush (v := nI 7) hx hb dM_value_14 (by decide) ?_
  refine rg_icmp_le (tgt := 23) hx hb dM_value_16 (by decide) (by omega) (by omega) (fun h6 => ?_) (fun h6 => by exfalso; omega)
  refine lv_iconst (v := nI 0) hx hb dM_value_23 (by decide) ?_
  refine va_put (D := (dC, dI)) (ci := 0) (v := .int (nI 0)) (ty := .int) (C := "RevisionGroveModel") (T := TM) (N := 19) hx hb hts inM tyM tyM_ok nmM hown hK hP hD hS 0 rfl rfl 0 (by decide) (hts _ tw_601) (fun _ h9 => h9) rfl (by decide +kernel) rfl rfl (Nat.le_of_ble_eq_true rfl) dM_value_24 (fun H locs hP hD hS => ?_)
  have hP : va_P (dC, dI) rg_cl (rm_W h a cI cL (nI 0) (nI n) (nI b) cof mad nu co se li le fi sc ti un ma dr fr to en) H := hP
  have hD : va_D A (rm_W h a cI cL (nI 0) (nI n) (nI b) cof mad nu co se li le fi sc ti un ma dr fr to en) := hD
  refine lv_aload_n hx hb dM_value_27 rfl (lv_at hl 0 rfl) ?_
  refine va_get (D := (dC, dI)) (ci := 0) (C := "RevisionGroveModel") (T := TM) (N := 19) hx hb hts inM hown hK hP 0 rfl rfl 0 (by decide) (hts _ tw_601) (fun _ h9 => h9) rfl dM_value_28 ?_
  refine rg_ifN_le (tgt := 36) hx hb dM_value_31 (by decide) (by decide) (fun h7 => ?_) (fun h7 => by exfalso; omega)
  refine lv_iconst (v := nI 2) hx hb dM_value_36 (by decide) ?_
  refine lv_iload_n hx hb dM_value_37 rfl (lv_at hl 1 rfl) ?_
  refine rg_imul hx hb dM_value_38 ?_
  refine lv_iload_n hx hb dM_value_39 rfl (lv_at hl 2 rfl) ?_
  refine lv_iconst (v := nI 2) hx hb dM_value_40 (by decide) ?_
  refine lv_irem hx hb dM_value_41 (by decide) ?_
  refine rg_top (show _ = Value.int (nI 0) by decide) ?_
  refine rg_iadd hx hb dM_value_42 ?_
  refine lv_istore (lv' := [(4, .int (nI (2 * j + 0))), (0, .ref h), (1, .int (nI j)), (2, .int (nI 6)), (3, .int ((-1)))]) hx hb dM_value_43 hl (by decide) rfl (fun ls hl => ?_)
  refine lv_iload_n hx hb dM_value_45 rfl (lv_at hl 3 rfl) ?_
  refine lv_bipush (v := nI 6) hx hb dM_value_46 (by decide) ?_
  refine rg_icmp_ge (tgt := 95) hx hb dM_value_48 (by decide) (by omega) (by omega) (fun h8 => ?_) (fun h8 => by exfalso; omega)
  refine lv_aload_n hx hb dM_value_95 rfl (lv_at hl 1 rfl) ?_
  refine lv_iload_n hx hb dM_value_96 rfl (lv_at hl 4 rfl) ?_
  refine lv_iconst (v := -1) hx hb dM_value_97 (by decide) ?_
  refine lv_icmp_lt (tgt := 112) hx hb dM_value_98 (by decide) (fun h9 => absurd h9 (by decide)) (fun h9 => ?_)
  refine lv_iload_n hx hb dM_value_101 rfl (lv_at hl 4 rfl) ?_
  refine lv_aload_n hx hb dM_value_102 rfl (lv_at hl 1 rfl) ?_
  refine va_get (D := (dC, dI)) (ci := 0) (C := "RevisionGroveModel") (T := TM) (N := 19) hx hb hts inM hown hK hP 0 rfl rfl 6 (by decide) (hts _ tw_607) (fun _ h9 => h9) rfl dM_value_103 ?_
  refine lv_iload hx hb dM_value_106 (lv_at hl 0 rfl) ?_
  refine rg_iald hx hb hK hP 5 0 rfl rfl (by decide) (by omega) dM_value_108 ?_
  refine rg_top (show (.int (le (2 * j + 0)) : Value) = .int (nI l9.length) by rw [q5]) ?_
  refine lv_icmp_lt (tgt := 116) hx hb dM_value_109 (by decide) (fun h10 => ?_) (fun h10 => absurd (rg_m1_lt (by omega)) h10)
  refine lv_iconst (v := nI 0) hx hb dM_value_116 (by decide) ?_
  refine va_put (D := (dC, dI)) (ci := 0) (v := .int (nI 0)) (ty := .int) (C := "RevisionGroveModel") (T := TM) (N := 19) hx hb hts inM tyM tyM_ok nmM hown hK hP hD hS 0 rfl rfl 0 (by decide) (hts _ tw_601) (fun _ h9 => h9) rfl (by decide +kernel) rfl rfl (Nat.le_of_ble_eq_true rfl) dM_value_117 (fun H locs hP hD hS => ?_)
  have hP : va_P (dC, dI) rg_cl (rm_W h a cI cL (nI 0) (nI n) (nI b) cof mad nu co se li le fi sc ti un ma dr fr to en) H := hP
  have hD : va_D A (rm_W h a cI cL (nI 0) (nI n) (nI b) cof mad nu co se li le fi sc ti un ma dr fr to en) := hD
  refine lv_aload_n hx hb dM_value_120 rfl (lv_at hl 1 rfl) ?_
  refine va_get (D := (dC, dI)) (ci := 0) (C := "RevisionGroveModel") (T := TM) (N := 19) hx hb hts inM hown hK hP 0 rfl rfl 0 (by decide) (hts _ tw_601) (fun _ h9 => h9) rfl dM_value_121 ?_
  refine rg_ifN_le (tgt := 131) hx hb dM_value_124 (by decide) (by decide) (fun h11 => ?_) (fun h11 => by exfalso; omega)
  refine lv_iload_n hx hb dM_value_131 rfl (lv_at hl 4 rfl) ?_
  refine lv_if_ge (tgt := 146) hx hb dM_value_132 (by decide) (fun h12 => absurd h12 (by decide)) (fun h12 => ?_)
  refine lv_aload_n hx hb dM_value_135 rfl (lv_at hl 1 rfl) ?_
  refine va_get (D := (dC, dI)) (ci := 0) (C := "RevisionGroveModel") (T := TM) (N := 19) hx hb hts inM hown hK hP 0 rfl rfl 6 (by decide) (hts _ tw_607) (fun _ h9 => h9) rfl dM_value_136 ?_
  refine lv_iload hx hb dM_value_139 (lv_at hl 0 rfl) ?_
  refine rg_iald hx hb hK hP 5 0 rfl rfl (by decide) (by omega) dM_value_141 ?_
  refine rg_top (show (.int (le (2 * j + 0)) : Value) = .int (nI l9.length) by rw [q5]) ?_
  refine lv_i2l (v := (nI l9.length).toInt64) hx hb dM_value_142 rfl ?_
  refine lv_goto (tgt := 157) hx hb dM_value_143 (by decide) ?_
  rw [hQ]
  exact rg_lret hx hb hr hlk hK hP hD hS dM_value_157 (nI 0, nI n, nI b, cof, mad, nu, co, se, li, le, fi, sc, ti, un, ma, dr, fr, to, en) rfl (⟨hrep, rfl, rfl⟩)
set_option maxHeartbeats 4000000 in
set_option maxRecDepth 100000 in
theorem c_rm_value_6b {l : Launch} {dC : Nat → ClassId} {dI : Nat → Nat → Nat} {h : Nat} {a : Nat → Nat} {cI cL : ClassId} {cod : Int32} {cof : Int32} {mad : Int32} {nu : Nat → Int32} {co : Nat → Int64} {se : Nat → Int32} {li : Nat → Int32} {le : Nat → Int32} {fi : Nat → Int32} {sc : Nat → Int32} {ti : Nat → Int32} {un : Nat → Int32} {ma : Nat → Int32} {dr : Nat → Int32} {fr : Nat → Int32} {to : Nat → Int32} {en : Nat → Int32} (n b : Nat) (Rr : Nat → rg_R) (P1 P2 : Nat → Int32) (T : Nat → Nat) (U : Nat → List Nat) (j : Nat) (hjn : j < n) (l9 : List Int32) (hl9 : (Rr j).2.2.2 0 = l9) (i : Int32) (hi0 : i < -1 ∨ nI l9.length ≤ i) (hrep : rm_Rep (nI n) (nI b) cof nu co se li le fi sc ti un ma (n, Rr, P1, P2, T, U, b, cof)) : rg_M l yM_value (Cond.code yM_value prog_8_method_34_code 5 (some .long) :: rg_tbl) { frames := 1, cells := 0, slots := 0, locals := 23 } (dC, dI) rg_cl [(cI, .int), (cL, .long)] (rm_W h a cI cL cod (nI n) (nI b) cof mad nu co se li le fi sc ti un ma dr fr to en) [.ref h, .int (nI j), .int (nI 6), .int i] (rg_QL (dC, dI) rg_cl [(cI, .int), (cL, .long)] (S := rm_S) (rm_Pl (2, 0) (n, Rr, P1, P2, T, U, b, cof)) (fun u => rm_Wu h a cI cL u)) 0 0 := by
  refine rg_of prog_8_method_34_code 5 (some .long) (by decide) rfl (Nat.le_of_ble_eq_true rfl) ?_
  intro p e R s m args below meth c Q A H locs ls hR hQ hx hb hml hr hts hown hlk hnm hP hK hD hA hS hl
  have hl : lv_has ls 5 [(0, .ref h), (1, .int (nI j)), (2, .int (nI 6)), (3, .int i)] := hl
  have hts : ∀ w ∈ rg_tbl, w.before args s = true := fun w h => hts w (List.mem_cons_of_mem _ h)
  have hok := hrep.1
  have hn1 : 1 ≤ n := hok.1
  have hn60 : n ≤ 60 := hok.2.1
  have hb4 : b < 4 := hok.2.2.2.2.2.2.2.1
  have hTb : T b < n := (hok.2.2.2.2.2.2.1 b hb4).1
  have hti : ti b = nI (T b) := (hrep.2.2.2.2.2.2 b hb4).1
  have hma : ma b = nI (U b).length := (hrep.2.2.2.2.2.2 b hb4).2.1
  have hB := rg_isR_ok (n := n) (by omega) hjn
  have q0 := hrep.2.2.2.2.1 j hjn 0 (by decide)
  have q4 := q0.2.2.2.1
  have q5 := q0.2.2.2.2.1
  have q6 := q0.2.2.2.2.2
  have hl9 : (Rr j).2.2.2 0 = l9 := hl9
  rw [show (ra_R (n, Rr, P1, P2, T, U, b, cof) j).2.2.2 0 = l9 from hl9] at q4 q5 q6
  refine lv_aload_n hx hb dM_value_0 rfl (lv_at hl 0 rfl) ?_
  refine lv_aload_n hx hb dM_value_1 rfl (lv_at hl 0 rfl) ?_
  refine lv_iload_n hx hb dM_value_2 rfl (lv_at hl 1 rfl) ?_
  refine rg_calli hD hS hA (va_runV (As := [.int (nI j)]) (rest := [.ref h]) ⟨hx, hb, hml, hown, hts⟩ (c_rm_isRevision n (nI j) _) (cwV 1 hts (rg_gV tw_726 tw_728 ts_M_isRevision tw_5 tw_729) rfl rfl rfl (by decide +kernel) ⟨by rw [hR]; exact Nat.le_of_ble_eq_true rfl, by rw [hR]; exact Nat.le_of_ble_eq_true rfl⟩) (rg_preV rfl hK hP hD (ci := 0) (q0 := 0) rfl rfl) rfl rfl hl.1 rfl (lv_room (Nat.le_of_ble_eq_true rfl)) dM_value_3 ⟨Nat.zero_le _, Nat.zero_le _⟩) (fun r1 u2 H locs hw3 hP hD hS => ?_)
  subst hw3
  have hP : va_P (dC, dI) rg_cl (rm_W h a cI cL cod (nI n) (nI b) cof mad nu co se li le fi sc ti un ma dr fr to en) H := hP
  have hD : va_D A (rm_W h a cI cL cod (nI n) (nI b) cof mad nu co se li le fi sc ti un ma dr fr to en) := hD
  refine rg_ifz_eq (tgt := 19) hx hb dM_value_6 (by decide) (fun h4 => absurd (hB.symm.trans h4) (by decide)) (fun h4 => ?_)
  refine lv_iload_n hx hb dM_value_9 rfl (lv_at hl 2 rfl) ?_
  refine rg_ifN_lt (tgt := 19) hx hb dM_value_10 (by decide) (by omega) (fun h5 => h5.elim) (fun h5 => ?_)
  refine lv_iload_n hx hb dM_value_13 rfl (lv_at hl 2 rfl) ?_
  refine lv_bipush (v := nI 7) hx hb dM_value_14 (by decide) ?_
  refine rg_icmp_le (tgt := 23) hx hb dM_value_16 (by decide) (by omega) (by omega) (fun h6 => ?_) (fun h6 => by exfalso; omega)
  refine lv_iconst (v := nI 0) hx hb dM_value_23 (by decide) ?_
  refine va_put (D := (dC, dI)) (ci := 0) (v := .int (nI 0)) (ty := .int) (C := "RevisionGroveModel") (T := TM) (N := 19) hx hb hts inM tyM tyM_ok nmM hown hK hP hD hS 0 rfl rfl 0 (by decide) (hts _ tw_601) (fun _ h9 => h9) rfl (by decide +kernel) rfl rfl (Nat.le_of_ble_eq_true rfl) dM_value_24 (fun H locs hP hD hS => ?_)
  have hP : va_P (dC, dI) rg_cl (rm_W h a cI cL (nI 0) (nI n) (nI b) cof mad nu co se li le fi sc ti un ma dr fr to en) H := hP
  have hD : va_D A (rm_W h a cI cL (nI 0) (nI n) (nI b) cof mad nu co se li le fi sc ti un ma dr fr to en) := hD
  refine lv_aload_n hx hb dM_value_27 rfl (lv_at hl 0 rfl) ?_
  refine va_get (D := (dC, dI)) (ci := 0) (C := "RevisionGroveModel") (T := TM) (N := 19) hx hb hts inM hown hK hP 0 rfl rfl 0 (by decide) (hts _ tw_601) (fun _ h9 => h9) rfl dM_value_28 ?_
  refine rg_ifN_le (tgt := 36) hx hb dM_value_31 (by decide) (by decide) (fun h7 => ?_) (fun h7 => by exfalso; omega)
  refine lv_iconst (v := nI 2) hx hb dM_value_36 (by decide) ?_
  refine lv_iload_n hx hb dM_value_37 rfl (lv_at hl 1 rfl) ?_
  refine rg_imul hx hb dM_value_38 ?_
  refine lv_iload_n hx hb dM_value_39 rfl (lv_at hl 2 rfl) ?_
  refine lv_iconst (v := nI 2) hx hb dM_value_40 (by decide) ?_
  refine lv_irem hx hb dM_value_41 (by decide) ?_
  refine rg_top (show _ = Value.int (nI 0) by decide) ?_
  refine rg_iadd hx hb dM_value_42 ?_
  refine lv_istore (lv' := [(4, .int (nI (2 * j + 0))), (0, .ref h), (1, .int (nI j)), (2, .int (nI 6)), (3, .int i)]) hx hb dM_value_43 hl (by decide) rfl (fun ls hl => ?_)
  refine lv_iload_n hx hb dM_value_45 rfl (lv_at hl 3 rfl) ?_
  refine lv_bipush (v := nI 6) hx hb dM_value_46 (by decide) ?_
  refine rg_icmp_ge (tgt := 95) hx hb dM_value_48 (by decide) (by omega) (by omega) (fun h8 => ?_) (fun h8 => by exfalso; omega)
  refine lv_aload_n hx hb dM_value_95 rfl (lv_at hl 1 rfl) ?_
  refine lv_iload_n hx hb dM_value_96 rfl (lv_at hl 4 rfl) ?_
  refine lv_iconst (v := -1) hx hb dM_value_97 (by decide) ?_
  refine lv_icmp_lt (tgt := 112) hx hb dM_value_98 (by decide) (fun h9 => ?_) (fun h9 => ?_)
  · refine lv_iconst (v := nI 2) hx hb dM_value_112 (by decide) ?_
    refine lv_goto (tgt := 117) hx hb dM_value_113 (by decide) ?_
    refine va_put (D := (dC, dI)) (ci := 0) (v := .int (nI 2)) (ty := .int) (C := "RevisionGroveModel") (T := TM) (N := 19) hx hb hts inM tyM tyM_ok nmM hown hK hP hD hS 0 rfl rfl 0 (by decide) (hts _ tw_601) (fun _ h9 => h9) rfl (by decide +kernel) rfl rfl (Nat.le_of_ble_eq_true rfl) dM_value_117 (fun H locs hP hD hS => ?_)
    have hP : va_P (dC, dI) rg_cl (rm_W h a cI cL (nI 2) (nI n) (nI b) cof mad nu co se li le fi sc ti un ma dr fr to en) H := hP
    have hD : va_D A (rm_W h a cI cL (nI 2) (nI n) (nI b) cof mad nu co se li le fi sc ti un ma dr fr to en) := hD
    refine lv_aload_n hx hb dM_value_120 rfl (lv_at hl 1 rfl) ?_
    refine va_get (D := (dC, dI)) (ci := 0) (C := "RevisionGroveModel") (T := TM) (N := 19) hx hb hts inM hown hK hP 0 rfl rfl 0 (by decide) (hts _ tw_601) (fun _ h9 => h9) rfl dM_value_121 ?_
    refine rg_ifN_le (tgt := 131) hx hb dM_value_124 (by decide) (by decide) (fun h10 => by exfalso; omega) (fun h10 => ?_)
    refine lv_lconst (v := 0) hx hb dM_value_127 (by decide) ?_
    refine lv_goto (tgt := 157) hx hb dM_value_128 (by decide) ?_
    rw [hQ]
    exact rg_lret hx hb hr hlk hK hP hD hS dM_value_157 (nI 2, nI n, nI b, cof, mad, nu, co, se, li, le, fi, sc, ti, un, ma, dr, fr, to, en) rfl (⟨hrep, rfl, rfl⟩)
  · refine lv_iload_n hx hb dM_value_101 rfl (lv_at hl 4 rfl) ?_
    refine lv_aload_n hx hb dM_value_102 rfl (lv_at hl 1 rfl) ?_
    refine va_get (D := (dC, dI)) (ci := 0) (C := "RevisionGroveModel") (T := TM) (N := 19) hx hb hts inM hown hK hP 0 rfl rfl 6 (by decide) (hts _ tw_607) (fun _ h9 => h9) rfl dM_value_103 ?_
    refine lv_iload hx hb dM_value_106 (lv_at hl 0 rfl) ?_
    refine rg_iald hx hb hK hP 5 0 rfl rfl (by decide) (by omega) dM_value_108 ?_
    refine rg_top (show (.int (le (2 * j + 0)) : Value) = .int (nI l9.length) by rw [q5]) ?_
    refine lv_icmp_lt (tgt := 116) hx hb dM_value_109 (by decide) (fun h11 => absurd hi0 (fun q => q.elim h9 (fun q => Int32.not_lt.mpr q h11))) (fun h11 => ?_)
    refine lv_iconst (v := nI 2) hx hb dM_value_112 (by decide) ?_
    refine lv_goto (tgt := 117) hx hb dM_value_113 (by decide) ?_
    refine va_put (D := (dC, dI)) (ci := 0) (v := .int (nI 2)) (ty := .int) (C := "RevisionGroveModel") (T := TM) (N := 19) hx hb hts inM tyM tyM_ok nmM hown hK hP hD hS 0 rfl rfl 0 (by decide) (hts _ tw_601) (fun _ h9 => h9) rfl (by decide +kernel) rfl rfl (Nat.le_of_ble_eq_true rfl) dM_value_117 (fun H locs hP hD hS => ?_)
    have hP : va_P (dC, dI) rg_cl (rm_W h a cI cL (nI 2) (nI n) (nI b) cof mad nu co se li le fi sc ti un ma dr fr to en) H := hP
    have hD : va_D A (rm_W h a cI cL (nI 2) (nI n) (nI b) cof mad nu co se li le fi sc ti un ma dr fr to en) := hD
    refine lv_aload_n hx hb dM_value_120 rfl (lv_at hl 1 rfl) ?_
    refine va_get (D := (dC, dI)) (ci := 0) (C := "RevisionGroveModel") (T := TM) (N := 19) hx hb hts inM hown hK hP 0 rfl rfl 0 (by decide) (hts _ tw_601) (fun _ h9 => h9) rfl dM_value_121 ?_
    refine rg_ifN_le (tgt := 131) hx hb dM_value_124 (by decide) (by decide) (fun h12 => by exfalso; omega) (fun h12 => ?_)
    refine lv_lconst (v := 0) hx hb dM_value_127 (by decide) ?_
    refine lv_goto (tgt := 157) hx hb dM_value_128 (by decide) ?_
    rw [hQ]
    exact rg_lret hx hb hr hlk hK hP hD hS dM_value_157 (nI 2, nI n, nI b, cof, mad, nu, co, se, li, le, fi, sc, ti, un, ma, dr, fr, to, en) rfl (⟨hrep, rfl, rfl⟩)
set_option maxHeartbeats 4000000 in
set_option maxRecDepth 100000 in
theorem c_rm_value_6i {l : Launch} {dC : Nat → ClassId} {dI : Nat → Nat → Nat} {h : Nat} {a : Nat → Nat} {cI cL : ClassId} {cod : Int32} {cof : Int32} {mad : Int32} {nu : Nat → Int32} {co : Nat → Int64} {se : Nat → Int32} {li : Nat → Int32} {le : Nat → Int32} {fi : Nat → Int32} {sc : Nat → Int32} {ti : Nat → Int32} {un : Nat → Int32} {ma : Nat → Int32} {dr : Nat → Int32} {fr : Nat → Int32} {to : Nat → Int32} {en : Nat → Int32} (n b : Nat) (Rr : Nat → rg_R) (P1 P2 : Nat → Int32) (T : Nat → Nat) (U : Nat → List Nat) (j : Nat) (hjn : j < n) (l9 : List Int32) (hl9 : (Rr j).2.2.2 0 = l9) (i : Nat) (hi0 : i < l9.length) (hrep : rm_Rep (nI n) (nI b) cof nu co se li le fi sc ti un ma (n, Rr, P1, P2, T, U, b, cof)) : rg_M l yM_value (Cond.code yM_value prog_8_method_34_code 5 (some .long) :: rg_tbl) { frames := 1, cells := 0, slots := 0, locals := 23 } (dC, dI) rg_cl [(cI, .int), (cL, .long)] (rm_W h a cI cL cod (nI n) (nI b) cof mad nu co se li le fi sc ti un ma dr fr to en) [.ref h, .int (nI j), .int (nI 6), .int (nI i)] (rg_QL (dC, dI) rg_cl [(cI, .int), (cL, .long)] (S := rm_S) (rm_Pl (0, (l9.getD i 0).toInt64) (n, Rr, P1, P2, T, U, b, cof)) (fun u => rm_Wu h a cI cL u)) 0 0 := by
  refine rg_of prog_8_method_34_code 5 (some .long) (by decide) rfl (Nat.le_of_ble_eq_true rfl) ?_
  intro p e R s m args below meth c Q A H locs ls hR hQ hx hb hml hr hts hown hlk hnm hP hK hD hA hS hl
  have hl : lv_has ls 5 [(0, .ref h), (1, .int (nI j)), (2, .int (nI 6)), (3, .int (nI i))] := hl
  have hts : ∀ w ∈ rg_tbl, w.before args s = true := fun w h => hts w (List.mem_cons_of_mem _ h)
  have hok := hrep.1
  have hn1 : 1 ≤ n := hok.1
  have hn60 : n ≤ 60 := hok.2.1
  have hb4 : b < 4 := hok.2.2.2.2.2.2.2.1
  have hTb : T b < n := (hok.2.2.2.2.2.2.1 b hb4).1
  have hti : ti b = nI (T b) := (hrep.2.2.2.2.2.2 b hb4).1
  have hma : ma b = nI (U b).length := (hrep.2.2.2.2.2.2 b hb4).2.1
  have hB := rg_isR_ok (n := n) (by omega) hjn
  have q0 := hrep.2.2.2.2.1 j hjn 0 (by decide)
  have q4 := q0.2.2.2.1
  have q5 := q0.2.2.2.2.1
  have q6 := q0.2.2.2.2.2
  have hl9 : (Rr j).2.2.2 0 = l9 := hl9
  rw [show (ra_R (n, Rr, P1, P2, T, U, b, cof) j).2.2.2 0 = l9 from hl9] at q4 q5 q6
  have hat : li (16 * j + 8 * 0 + i) = l9.getD i 0 := q6 i hi0
  refine lv_aload_n hx hb dM_value_0 rfl (lv_at hl 0 rfl) ?_
  refine lv_aload_n hx hb dM_value_1 rfl (lv_at hl 0 rfl) ?_
  refine lv_iload_n hx hb dM_value_2 rfl (lv_at hl 1 rfl) ?_
  refine rg_calli hD hS hA (va_runV (As := [.int (nI j)]) (rest := [.ref h]) ⟨hx, hb, hml, hown, hts⟩ (c_rm_isRevision n (nI j) _) (cwV 1 hts (rg_gV tw_726 tw_728 ts_M_isRevision tw_5 tw_729) rfl rfl rfl (by decide +kernel) ⟨by rw [hR]; exact Nat.le_of_ble_eq_true rfl, by rw [hR]; exact Nat.le_of_ble_eq_true rfl⟩) (rg_preV rfl hK hP hD (ci := 0) (q0 := 0) rfl rfl) rfl rfl hl.1 rfl (lv_room (Nat.le_of_ble_eq_true rfl)) dM_value_3 ⟨Nat.zero_le _, Nat.zero_le _⟩) (fun r1 u2 H locs hw3 hP hD hS => ?_)
  subst hw3
  have hP : va_P (dC, dI) rg_cl (rm_W h a cI cL cod (nI n) (nI b) cof mad nu co se li le fi sc ti un ma dr fr to en) H := hP
  have hD : va_D A (rm_W h a cI cL cod (nI n) (nI b) cof mad nu co se li le fi sc ti un ma dr fr to en) := hD
  refine rg_ifz_eq (tgt := 19) hx hb dM_value_6 (by decide) (fun h4 => absurd (hB.symm.trans h4) (by decide)) (fun h4 => ?_)
  refine lv_iload_n hx hb dM_value_9 rfl (lv_at hl 2 rfl) ?_
  refine rg_ifN_lt (tgt := 19) hx hb dM_value_10 (by decide) (by omega) (fun h5 => h5.elim) (fun h5 => ?_)
  refine lv_iload_n hx hb dM_value_13 rfl (lv_at hl 2 rfl) ?_
  refine lv_bipush (v := nI 7) hx hb dM_value_14 (by decide) ?_
  refine rg_icmp_le (tgt := 23) hx hb dM_value_16 (by decide) (by omega) (by omega) (fun h6 => ?_) (fun h6 => by exfalso; omega)
  refine lv_iconst (v := nI 0) hx hb dM_value_23 (by decide) ?_
  refine va_put (D := (dC, dI)) (ci := 0) (v := .int (nI 0)) (ty := .int) (C := "RevisionGroveModel") (T := TM) (N := 19) hx hb hts inM tyM tyM_ok nmM hown hK hP hD hS 0 rfl rfl 0 (by decide) (hts _ tw_601) (fun _ h9 => h9) rfl (by decide +kernel) rfl rfl (Nat.le_of_ble_eq_true rfl) dM_value_24 (fun H locs hP hD hS => ?_)
  have hP : va_P (dC, dI) rg_cl (rm_W h a cI cL (nI 0) (nI n) (nI b) cof mad nu co se li le fi sc ti un ma dr fr to en) H := hP
  have hD : va_D A (rm_W h a cI cL (nI 0) (nI n) (nI b) cof mad nu co se li le fi sc ti un ma dr fr to en) := hD
  refine lv_aload_n hx hb dM_value_27 rfl (lv_at hl 0 rfl) ?_
  refine va_get (D := (dC, dI)) (ci := 0) (C := "RevisionGroveModel") (T := TM) (N := 19) hx hb hts inM hown hK hP 0 rfl rfl 0 (by decide) (hts _ tw_601) (fun _ h9 => h9) rfl dM_value_28 ?_
  refine rg_ifN_le (tgt := 36) hx hb dM_value_31 (by decide) (by decide) (fun h7 => ?_) (fun h7 => by exfalso; omega)
  refine lv_iconst (v := nI 2) hx hb dM_value_36 (by decide) ?_
  refine lv_iload_n hx hb dM_value_37 rfl (lv_at hl 1 rfl) ?_
  refine rg_imul hx hb dM_value_38 ?_
  refine lv_iload_n hx hb dM_value_39 rfl (lv_at hl 2 rfl) ?_
  refine lv_iconst (v := nI 2) hx hb dM_value_40 (by decide) ?_
  refine lv_irem hx hb dM_value_41 (by decide) ?_
  refine rg_top (show _ = Value.int (nI 0) by decide) ?_
  refine rg_iadd hx hb dM_value_42 ?_
  refine lv_istore (lv' := [(4, .int (nI (2 * j + 0))), (0, .ref h), (1, .int (nI j)), (2, .int (nI 6)), (3, .int (nI i))]) hx hb dM_value_43 hl (by decide) rfl (fun ls hl => ?_)
  refine lv_iload_n hx hb dM_value_45 rfl (lv_at hl 3 rfl) ?_
  refine lv_bipush (v := nI 6) hx hb dM_value_46 (by decide) ?_
  refine rg_icmp_ge (tgt := 95) hx hb dM_value_48 (by decide) (by omega) (by omega) (fun h8 => ?_) (fun h8 => by exfalso; omega)
  refine lv_aload_n hx hb dM_value_95 rfl (lv_at hl 1 rfl) ?_
  refine lv_iload_n hx hb dM_value_96 rfl (lv_at hl 4 rfl) ?_
  refine lv_iconst (v := -1) hx hb dM_value_97 (by decide) ?_
  refine lv_icmp_lt (tgt := 112) hx hb dM_value_98 (by decide) (fun h9 => absurd h9 (rg_nlt_m1 (by omega))) (fun h9 => ?_)
  refine lv_iload_n hx hb dM_value_101 rfl (lv_at hl 4 rfl) ?_
  refine lv_aload_n hx hb dM_value_102 rfl (lv_at hl 1 rfl) ?_
  refine va_get (D := (dC, dI)) (ci := 0) (C := "RevisionGroveModel") (T := TM) (N := 19) hx hb hts inM hown hK hP 0 rfl rfl 6 (by decide) (hts _ tw_607) (fun _ h9 => h9) rfl dM_value_103 ?_
  refine lv_iload hx hb dM_value_106 (lv_at hl 0 rfl) ?_
  refine rg_iald hx hb hK hP 5 0 rfl rfl (by decide) (by omega) dM_value_108 ?_
  refine rg_top (show (.int (le (2 * j + 0)) : Value) = .int (nI l9.length) by rw [q5]) ?_
  refine rg_icmp_lt (tgt := 116) hx hb dM_value_109 (by decide) (by omega) (by omega) (fun h10 => ?_) (fun h10 => by exfalso; omega)
  refine lv_iconst (v := nI 0) hx hb dM_value_116 (by decide) ?_
  refine va_put (D := (dC, dI)) (ci := 0) (v := .int (nI 0)) (ty := .int) (C := "RevisionGroveModel") (T := TM) (N := 19) hx hb hts inM tyM tyM_ok nmM hown hK hP hD hS 0 rfl rfl 0 (by decide) (hts _ tw_601) (fun _ h9 => h9) rfl (by decide +kernel) rfl rfl (Nat.le_of_ble_eq_true rfl) dM_value_117 (fun H locs hP hD hS => ?_)
  have hP : va_P (dC, dI) rg_cl (rm_W h a cI cL (nI 0) (nI n) (nI b) cof mad nu co se li le fi sc ti un ma dr fr to en) H := hP
  have hD : va_D A (rm_W h a cI cL (nI 0) (nI n) (nI b) cof mad nu co se li le fi sc ti un ma dr fr to en) := hD
  refine lv_aload_n hx hb dM_value_120 rfl (lv_at hl 1 rfl) ?_
  refine va_get (D := (dC, dI)) (ci := 0) (C := "RevisionGroveModel") (T := TM) (N := 19) hx hb hts inM hown hK hP 0 rfl rfl 0 (by decide) (hts _ tw_601) (fun _ h9 => h9) rfl dM_value_121 ?_
  refine rg_ifN_le (tgt := 131) hx hb dM_value_124 (by decide) (by decide) (fun h11 => ?_) (fun h11 => by exfalso; omega)
  refine lv_iload_n hx hb dM_value_131 rfl (lv_at hl 4 rfl) ?_
  refine rg_ifN_ge (tgt := 146) hx hb dM_value_132 (by decide) (by omega) (fun h12 => ?_) (fun h12 => h12.elim)
  refine lv_aload_n hx hb dM_value_146 rfl (lv_at hl 1 rfl) ?_
  refine lv_iload_n hx hb dM_value_147 rfl (lv_at hl 2 rfl) ?_
  refine lv_iload_n hx hb dM_value_148 rfl (lv_at hl 3 rfl) ?_
  refine lv_bipush (v := nI 6) hx hb dM_value_149 (by decide) ?_
  refine rg_isub hx hb dM_value_151 (by omega) ?_
  refine rg_top (show Value.int (nI (6 - 6)) = .int (nI 0) from rfl) ?_
  refine lv_iload_n hx hb dM_value_152 rfl (lv_at hl 4 rfl) ?_
  refine rg_calli hD hS hA (va_runV (As := [.int (nI j), .int (nI 0), .int (nI i)]) (rest := []) ⟨hx, hb, hml, hown, hts⟩ (c_rm_at j 0 i (by omega) _) (cwV 3 hts (rg_gV tw_769 tw_771 ts_M_at tw_5 tw_772) rfl rfl rfl (by decide +kernel) ⟨by rw [hR]; exact Nat.le_of_ble_eq_true rfl, by rw [hR]; exact Nat.le_of_ble_eq_true rfl⟩) (rg_preV rfl hK hP hD (ci := 0) (q0 := 0) rfl rfl) rfl rfl hl.1 rfl (lv_room (Nat.le_of_ble_eq_true rfl)) dM_value_153 ⟨Nat.zero_le _, Nat.zero_le _⟩) (fun r13 u14 H locs hw15 hP hD hS => ?_)
  subst hw15
  have hP : va_P (dC, dI) rg_cl (rm_W h a cI cL (nI 0) (nI n) (nI b) cof mad nu co se li le fi sc ti un ma dr fr to en) H := hP
  have hD : va_D A (rm_W h a cI cL (nI 0) (nI n) (nI b) cof mad nu co se li le fi sc ti un ma dr fr to en) := hD
  refine rg_top (show (.int (li (16 * j + 8 * 0 + i)) : Value) = .int (l9.getD i 0) by rw [hat]) ?_
  refine lv_i2l (v := (l9.getD i 0).toInt64) hx hb dM_value_156 rfl ?_
  rw [hQ]
  exact rg_lret hx hb hr hlk hK hP hD hS dM_value_157 (nI 0, nI n, nI b, cof, mad, nu, co, se, li, le, fi, sc, ti, un, ma, dr, fr, to, en) rfl (⟨hrep, rfl, rfl⟩)
set_option maxHeartbeats 4000000 in
set_option maxRecDepth 100000 in
theorem c_rm_value_7m {l : Launch} {dC : Nat → ClassId} {dI : Nat → Nat → Nat} {h : Nat} {a : Nat → Nat} {cI cL : ClassId} {cod : Int32} {cof : Int32} {mad : Int32} {nu : Nat → Int32} {co : Nat → Int64} {se : Nat → Int32} {li : Nat → Int32} {le : Nat → Int32} {fi : Nat → Int32} {sc : Nat → Int32} {ti : Nat → Int32} {un : Nat → Int32} {ma : Nat → Int32} {dr : Nat → Int32} {fr : Nat → Int32} {to : Nat → Int32} {en : Nat → Int32} (n b : Nat) (Rr : Nat → rg_R) (P1 P2 : Nat → Int32) (T : Nat → Nat) (U : Nat → List Nat) (j : Nat) (hjn : j < n) (l9 : List Int32) (hl9 : (Rr j).2.2.2 1 = l9)  (hrep : rm_Rep (nI n) (nI b) cof nu co se li le fi sc ti un ma (n, Rr, P1, P2, T, U, b, cof)) : rg_M l yM_value (Cond.code yM_value prog_8_method_34_code 5 (some .long) :: rg_tbl) { frames := 1, cells := 0, slots := 0, locals := 23 } (dC, dI) rg_cl [(cI, .int), (cL, .long)] (rm_W h a cI cL cod (nI n) (nI b) cof mad nu co se li le fi sc ti un ma dr fr to en) [.ref h, .int (nI j), .int (nI 7), .int ((-1))] (rg_QL (dC, dI) rg_cl [(cI, .int), (cL, .long)] (S := rm_S) (rm_Pl (0, (nI l9.length).toInt64) (n, Rr, P1, P2, T, U, b, cof)) (fun u => rm_Wu h a cI cL u)) 0 0 := by
  refine rg_of prog_8_method_34_code 5 (some .long) (by decide) rfl (Nat.le_of_ble_eq_true rfl) ?_
  intro p e R s m args below meth c Q A H locs ls hR hQ hx hb hml hr hts hown hlk hnm hP hK hD hA hS hl
  have hl : lv_has ls 5 [(0, .ref h), (1, .int (nI j)), (2, .int (nI 7)), (3, .int ((-1)))] := hl
  have hts : ∀ w ∈ rg_tbl, w.before args s = true := fun w h => hts w (List.mem_cons_of_mem _ h)
  have hok := hrep.1
  have hn1 : 1 ≤ n := hok.1
  have hn60 : n ≤ 60 := hok.2.1
  have hb4 : b < 4 := hok.2.2.2.2.2.2.2.1
  have hTb : T b < n := (hok.2.2.2.2.2.2.1 b hb4).1
  have hti : ti b = nI (T b) := (hrep.2.2.2.2.2.2 b hb4).1
  have hma : ma b = nI (U b).length := (hrep.2.2.2.2.2.2 b hb4).2.1
  have hB := rg_isR_ok (n := n) (by omega) hjn
  have q0 := hrep.2.2.2.2.1 j hjn 1 (by decide)
  have q4 := q0.2.2.2.1
  have q5 := q0.2.2.2.2.1
  have q6 := q0.2.2.2.2.2
  have hl9 : (Rr j).2.2.2 1 = l9 := hl9
  rw [show (ra_R (n, Rr, P1, P2, T, U, b, cof) j).2.2.2 1 = l9 from hl9] at q4 q5 q6
  refine lv_aload_n hx hb dM_value_0 rfl (lv_at hl 0 rfl) ?_
  refine lv_aload_n hx hb dM_value_1 rfl (lv_at hl 0 rfl) ?_
  refine lv_iload_n hx hb dM_value_2 rfl (lv_at hl 1 rfl) ?_
  refine rg_calli hD hS hA (va_runV (As := [.int (nI j)]) (rest := [.ref h]) ⟨hx, hb, hml, hown, hts⟩ (c_rm_isRevision n (nI j) _) (cwV 1 hts (rg_gV tw_726 tw_728 ts_M_isRevision tw_5 tw_729) rfl rfl rfl (by decide +kernel) ⟨by rw [hR]; exact Nat.le_of_ble_eq_true rfl, by rw [hR]; exact Nat.le_of_ble_eq_true rfl⟩) (rg_preV rfl hK hP hD (ci := 0) (q0 := 0) rfl rfl) rfl rfl hl.1 rfl (lv_room (Nat.le_of_ble_eq_true rfl)) dM_value_3 ⟨Nat.zero_le _, Nat.zero_le _⟩) (fun r1 u2 H locs hw3 hP hD hS => ?_)
  subst hw3
  have hP : va_P (dC, dI) rg_cl (rm_W h a cI cL cod (nI n) (nI b) cof mad nu co se li le fi sc ti un ma dr fr to en) H := hP
  have hD : va_D A (rm_W h a cI cL cod (nI n) (nI b) cof mad nu co se li le fi sc ti un ma dr fr to en) := hD
  refine rg_ifz_eq (tgt := 19) hx hb dM_value_6 (by decide) (fun h4 => absurd (hB.symm.trans h4) (by decide)) (fun h4 => ?_)
  refine lv_iload_n hx hb dM_value_9 rfl (lv_at hl 2 rfl) ?_
  refine rg_ifN_lt (tgt := 19) hx hb dM_value_10 (by decide) (by omega) (fun h5 => h5.elim) (fun h5 => ?_)
  refine lv_iload_n hx hb dM_value_13 rfl (lv_at hl 2 rfl) ?_
  refine lv_bipush (v := nI 7) hx hb dM_value_14 (by decide) ?_
  refine rg_icmp_le (tgt := 23) hx hb dM_value_16 (by decide) (by omega) (by omega) (fun h6 => ?_) (fun h6 => by exfalso; omega)
  refine lv_iconst (v := nI 0) hx hb dM_value_23 (by decide) ?_
  refine va_put (D := (dC, dI)) (ci := 0) (v := .int (nI 0)) (ty := .int) (C := "RevisionGroveModel") (T := TM) (N := 19) hx hb hts inM tyM tyM_ok nmM hown hK hP hD hS 0 rfl rfl 0 (by decide) (hts _ tw_601) (fun _ h9 => h9) rfl (by decide +kernel) rfl rfl (Nat.le_of_ble_eq_true rfl) dM_value_24 (fun H locs hP hD hS => ?_)
  have hP : va_P (dC, dI) rg_cl (rm_W h a cI cL (nI 0) (nI n) (nI b) cof mad nu co se li le fi sc ti un ma dr fr to en) H := hP
  have hD : va_D A (rm_W h a cI cL (nI 0) (nI n) (nI b) cof mad nu co se li le fi sc ti un ma dr fr to en) := hD
  refine lv_aload_n hx hb dM_value_27 rfl (lv_at hl 0 rfl) ?_
  refine va_get (D := (dC, dI)) (ci := 0) (C := "RevisionGroveModel") (T := TM) (N := 19) hx hb hts inM hown hK hP 0 rfl rfl 0 (by decide) (hts _ tw_601) (fun _ h9 => h9) rfl dM_value_28 ?_
  refine rg_ifN_le (tgt := 36) hx hb dM_value_31 (by decide) (by decide) (fun h7 => ?_) (fun h7 => by exfalso; omega)
  refine lv_iconst (v := nI 2) hx hb dM_value_36 (by decide) ?_
  refine lv_iload_n hx hb dM_value_37 rfl (lv_at hl 1 rfl) ?_
  refine rg_imul hx hb dM_value_38 ?_
  refine lv_iload_n hx hb dM_value_39 rfl (lv_at hl 2 rfl) ?_
  refine lv_iconst (v := nI 2) hx hb dM_value_40 (by decide) ?_
  refine lv_irem hx hb dM_value_41 (by decide) ?_
  refine rg_top (show _ = Value.int (nI 1) by decide) ?_
  refine rg_iadd hx hb dM_value_42 ?_
  refine lv_istore (lv' := [(4, .int (nI (2 * j + 1))), (0, .ref h), (1, .int (nI j)), (2, .int (nI 7)), (3, .int ((-1)))]) hx hb dM_value_43 hl (by decide) rfl (fun ls hl => ?_)
  refine lv_iload_n hx hb dM_value_45 rfl (lv_at hl 3 rfl) ?_
  refine lv_bipush (v := nI 6) hx hb dM_value_46 (by decide) ?_
  refine rg_icmp_ge (tgt := 95) hx hb dM_value_48 (by decide) (by omega) (by omega) (fun h8 => ?_) (fun h8 => by exfalso; omega)
  refine lv_aload_n hx hb dM_value_95 rfl (lv_at hl 1 rfl) ?_
  refine lv_iload_n hx hb dM_value_96 rfl (lv_at hl 4 rfl) ?_
  refine lv_iconst (v := -1) hx hb dM_value_97 (by decide) ?_
  refine lv_icmp_lt (tgt := 112) hx hb dM_value_98 (by decide) (fun h9 => absurd h9 (by decide)) (fun h9 => ?_)
  refine lv_iload_n hx hb dM_value_101 rfl (lv_at hl 4 rfl) ?_
  refine lv_aload_n hx hb dM_value_102 rfl (lv_at hl 1 rfl) ?_
  refine va_get (D := (dC, dI)) (ci := 0) (C := "RevisionGroveModel") (T := TM) (N := 19) hx hb hts inM hown hK hP 0 rfl rfl 6 (by decide) (hts _ tw_607) (fun _ h9 => h9) rfl dM_value_103 ?_
  refine lv_iload hx hb dM_value_106 (lv_at hl 0 rfl) ?_
  refine rg_iald hx hb hK hP 5 0 rfl rfl (by decide) (by omega) dM_value_108 ?_
  refine rg_top (show (.int (le (2 * j + 1)) : Value) = .int (nI l9.length) by rw [q5]) ?_
  refine lv_icmp_lt (tgt := 116) hx hb dM_value_109 (by decide) (fun h10 => ?_) (fun h10 => absurd (rg_m1_lt (by omega)) h10)
  refine lv_iconst (v := nI 0) hx hb dM_value_116 (by decide) ?_
  refine va_put (D := (dC, dI)) (ci := 0) (v := .int (nI 0)) (ty := .int) (C := "RevisionGroveModel") (T := TM) (N := 19) hx hb hts inM tyM tyM_ok nmM hown hK hP hD hS 0 rfl rfl 0 (by decide) (hts _ tw_601) (fun _ h9 => h9) rfl (by decide +kernel) rfl rfl (Nat.le_of_ble_eq_true rfl) dM_value_117 (fun H locs hP hD hS => ?_)
  have hP : va_P (dC, dI) rg_cl (rm_W h a cI cL (nI 0) (nI n) (nI b) cof mad nu co se li le fi sc ti un ma dr fr to en) H := hP
  have hD : va_D A (rm_W h a cI cL (nI 0) (nI n) (nI b) cof mad nu co se li le fi sc ti un ma dr fr to en) := hD
  refine lv_aload_n hx hb dM_value_120 rfl (lv_at hl 1 rfl) ?_
  refine va_get (D := (dC, dI)) (ci := 0) (C := "RevisionGroveModel") (T := TM) (N := 19) hx hb hts inM hown hK hP 0 rfl rfl 0 (by decide) (hts _ tw_601) (fun _ h9 => h9) rfl dM_value_121 ?_
  refine rg_ifN_le (tgt := 131) hx hb dM_value_124 (by decide) (by decide) (fun h11 => ?_) (fun h11 => by exfalso; omega)
  refine lv_iload_n hx hb dM_value_131 rfl (lv_at hl 4 rfl) ?_
  refine lv_if_ge (tgt := 146) hx hb dM_value_132 (by decide) (fun h12 => absurd h12 (by decide)) (fun h12 => ?_)
  refine lv_aload_n hx hb dM_value_135 rfl (lv_at hl 1 rfl) ?_
  refine va_get (D := (dC, dI)) (ci := 0) (C := "RevisionGroveModel") (T := TM) (N := 19) hx hb hts inM hown hK hP 0 rfl rfl 6 (by decide) (hts _ tw_607) (fun _ h9 => h9) rfl dM_value_136 ?_
  refine lv_iload hx hb dM_value_139 (lv_at hl 0 rfl) ?_
  refine rg_iald hx hb hK hP 5 0 rfl rfl (by decide) (by omega) dM_value_141 ?_
  refine rg_top (show (.int (le (2 * j + 1)) : Value) = .int (nI l9.length) by rw [q5]) ?_
  refine lv_i2l (v := (nI l9.length).toInt64) hx hb dM_value_142 rfl ?_
  refine lv_goto (tgt := 157) hx hb dM_value_143 (by decide) ?_
  rw [hQ]
  exact rg_lret hx hb hr hlk hK hP hD hS dM_value_157 (nI 0, nI n, nI b, cof, mad, nu, co, se, li, le, fi, sc, ti, un, ma, dr, fr, to, en) rfl (⟨hrep, rfl, rfl⟩)
set_option maxHeartbeats 4000000 in
set_option maxRecDepth 100000 in
theorem c_rm_value_7b {l : Launch} {dC : Nat → ClassId} {dI : Nat → Nat → Nat} {h : Nat} {a : Nat → Nat} {cI cL : ClassId} {cod : Int32} {cof : Int32} {mad : Int32} {nu : Nat → Int32} {co : Nat → Int64} {se : Nat → Int32} {li : Nat → Int32} {le : Nat → Int32} {fi : Nat → Int32} {sc : Nat → Int32} {ti : Nat → Int32} {un : Nat → Int32} {ma : Nat → Int32} {dr : Nat → Int32} {fr : Nat → Int32} {to : Nat → Int32} {en : Nat → Int32} (n b : Nat) (Rr : Nat → rg_R) (P1 P2 : Nat → Int32) (T : Nat → Nat) (U : Nat → List Nat) (j : Nat) (hjn : j < n) (l9 : List Int32) (hl9 : (Rr j).2.2.2 1 = l9) (i : Int32) (hi0 : i < -1 ∨ nI l9.length ≤ i) (hrep : rm_Rep (nI n) (nI b) cof nu co se li le fi sc ti un ma (n, Rr, P1, P2, T, U, b, cof)) : rg_M l yM_value (Cond.code yM_value prog_8_method_34_code 5 (some .long) :: rg_tbl) { frames := 1, cells := 0, slots := 0, locals := 23 } (dC, dI) rg_cl [(cI, .int), (cL, .long)] (rm_W h a cI cL cod (nI n) (nI b) cof mad nu co se li le fi sc ti un ma dr fr to en) [.ref h, .int (nI j), .int (nI 7), .int i] (rg_QL (dC, dI) rg_cl [(cI, .int), (cL, .long)] (S := rm_S) (rm_Pl (2, 0) (n, Rr, P1, P2, T, U, b, cof)) (fun u => rm_Wu h a cI cL u)) 0 0 := by
  refine rg_of prog_8_method_34_code 5 (some .long) (by decide) rfl (Nat.le_of_ble_eq_true rfl) ?_
  intro p e R s m args below meth c Q A H locs ls hR hQ hx hb hml hr hts hown hlk hnm hP hK hD hA hS hl
  have hl : lv_has ls 5 [(0, .ref h), (1, .int (nI j)), (2, .int (nI 7)), (3, .int i)] := hl
  have hts : ∀ w ∈ rg_tbl, w.before args s = true := fun w h => hts w (List.mem_cons_of_mem _ h)
  have hok := hrep.1
  have hn1 : 1 ≤ n := hok.1
  have hn60 : n ≤ 60 := hok.2.1
  have hb4 : b < 4 := hok.2.2.2.2.2.2.2.1
  have hTb : T b < n := (hok.2.2.2.2.2.2.1 b hb4).1
  have hti : ti b = nI (T b) := (hrep.2.2.2.2.2.2 b hb4).1
  have hma : ma b = nI (U b).length := (hrep.2.2.2.2.2.2 b hb4).2.1
  have hB := rg_isR_ok (n := n) (by omega) hjn
  have q0 := hrep.2.2.2.2.1 j hjn 1 (by decide)
  have q4 := q0.2.2.2.1
  have q5 := q0.2.2.2.2.1
  have q6 := q0.2.2.2.2.2
  have hl9 : (Rr j).2.2.2 1 = l9 := hl9
  rw [show (ra_R (n, Rr, P1, P2, T, U, b, cof) j).2.2.2 1 = l9 from hl9] at q4 q5 q6
  refine lv_aload_n hx hb dM_value_0 rfl (lv_at hl 0 rfl) ?_
  refine lv_aload_n hx hb dM_value_1 rfl (lv_at hl 0 rfl) ?_
  refine lv_iload_n hx hb dM_value_2 rfl (lv_at hl 1 rfl) ?_
  refine rg_calli hD hS hA (va_runV (As := [.int (nI j)]) (rest := [.ref h]) ⟨hx, hb, hml, hown, hts⟩ (c_rm_isRevision n (nI j) _) (cwV 1 hts (rg_gV tw_726 tw_728 ts_M_isRevision tw_5 tw_729) rfl rfl rfl (by decide +kernel) ⟨by rw [hR]; exact Nat.le_of_ble_eq_true rfl, by rw [hR]; exact Nat.le_of_ble_eq_true rfl⟩) (rg_preV rfl hK hP hD (ci := 0) (q0 := 0) rfl rfl) rfl rfl hl.1 rfl (lv_room (Nat.le_of_ble_eq_true rfl)) dM_value_3 ⟨Nat.zero_le _, Nat.zero_le _⟩) (fun r1 u2 H locs hw3 hP hD hS => ?_)
  subst hw3
  have hP : va_P (dC, dI) rg_cl (rm_W h a cI cL cod (nI n) (nI b) cof mad nu co se li le fi sc ti un ma dr fr to en) H := hP
  have hD : va_D A (rm_W h a cI cL cod (nI n) (nI b) cof mad nu co se li le fi sc ti un ma dr fr to en) := hD
  refine rg_ifz_eq (tgt := 19) hx hb dM_value_6 (by decide) (fun h4 => absurd (hB.symm.trans h4) (by decide)) (fun h4 => ?_)
  refine lv_iload_n hx hb dM_value_9 rfl (lv_at hl 2 rfl) ?_
  refine rg_ifN_lt (tgt := 19) hx hb dM_value_10 (by decide) (by omega) (fun h5 => h5.elim) (fun h5 => ?_)
  refine lv_iload_n hx hb dM_value_13 rfl (lv_at hl 2 rfl) ?_
  refine lv_bipush (v := nI 7) hx hb dM_value_14 (by decide) ?_
  refine rg_icmp_le (tgt := 23) hx hb dM_value_16 (by decide) (by omega) (by omega) (fun h6 => ?_) (fun h6 => by exfalso; omega)
  refine lv_iconst (v := nI 0) hx hb dM_value_23 (by decide) ?_
  refine va_put (D := (dC, dI)) (ci := 0) (v := .int (nI 0)) (ty := .int) (C := "RevisionGroveModel") (T := TM) (N := 19) hx hb hts inM tyM tyM_ok nmM hown hK hP hD hS 0 rfl rfl 0 (by decide) (hts _ tw_601) (fun _ h9 => h9) rfl (by decide +kernel) rfl rfl (Nat.le_of_ble_eq_true rfl) dM_value_24 (fun H locs hP hD hS => ?_)
  have hP : va_P (dC, dI) rg_cl (rm_W h a cI cL (nI 0) (nI n) (nI b) cof mad nu co se li le fi sc ti un ma dr fr to en) H := hP
  have hD : va_D A (rm_W h a cI cL (nI 0) (nI n) (nI b) cof mad nu co se li le fi sc ti un ma dr fr to en) := hD
  refine lv_aload_n hx hb dM_value_27 rfl (lv_at hl 0 rfl) ?_
  refine va_get (D := (dC, dI)) (ci := 0) (C := "RevisionGroveModel") (T := TM) (N := 19) hx hb hts inM hown hK hP 0 rfl rfl 0 (by decide) (hts _ tw_601) (fun _ h9 => h9) rfl dM_value_28 ?_
  refine rg_ifN_le (tgt := 36) hx hb dM_value_31 (by decide) (by decide) (fun h7 => ?_) (fun h7 => by exfalso; omega)
  refine lv_iconst (v := nI 2) hx hb dM_value_36 (by decide) ?_
  refine lv_iload_n hx hb dM_value_37 rfl (lv_at hl 1 rfl) ?_
  refine rg_imul hx hb dM_value_38 ?_
  refine lv_iload_n hx hb dM_value_39 rfl (lv_at hl 2 rfl) ?_
  refine lv_iconst (v := nI 2) hx hb dM_value_40 (by decide) ?_
  refine lv_irem hx hb dM_value_41 (by decide) ?_
  refine rg_top (show _ = Value.int (nI 1) by decide) ?_
  refine rg_iadd hx hb dM_value_42 ?_
  refine lv_istore (lv' := [(4, .int (nI (2 * j + 1))), (0, .ref h), (1, .int (nI j)), (2, .int (nI 7)), (3, .int i)]) hx hb dM_value_43 hl (by decide) rfl (fun ls hl => ?_)
  refine lv_iload_n hx hb dM_value_45 rfl (lv_at hl 3 rfl) ?_
  refine lv_bipush (v := nI 6) hx hb dM_value_46 (by decide) ?_
  refine rg_icmp_ge (tgt := 95) hx hb dM_value_48 (by decide) (by omega) (by omega) (fun h8 => ?_) (fun h8 => by exfalso; omega)
  refine lv_aload_n hx hb dM_value_95 rfl (lv_at hl 1 rfl) ?_
  refine lv_iload_n hx hb dM_value_96 rfl (lv_at hl 4 rfl) ?_
  refine lv_iconst (v := -1) hx hb dM_value_97 (by decide) ?_
  refine lv_icmp_lt (tgt := 112) hx hb dM_value_98 (by decide) (fun h9 => ?_) (fun h9 => ?_)
  · refine lv_iconst (v := nI 2) hx hb dM_value_112 (by decide) ?_
    refine lv_goto (tgt := 117) hx hb dM_value_113 (by decide) ?_
    refine va_put (D := (dC, dI)) (ci := 0) (v := .int (nI 2)) (ty := .int) (C := "RevisionGroveModel") (T := TM) (N := 19) hx hb hts inM tyM tyM_ok nmM hown hK hP hD hS 0 rfl rfl 0 (by decide) (hts _ tw_601) (fun _ h9 => h9) rfl (by decide +kernel) rfl rfl (Nat.le_of_ble_eq_true rfl) dM_value_117 (fun H locs hP hD hS => ?_)
    have hP : va_P (dC, dI) rg_cl (rm_W h a cI cL (nI 2) (nI n) (nI b) cof mad nu co se li le fi sc ti un ma dr fr to en) H := hP
    have hD : va_D A (rm_W h a cI cL (nI 2) (nI n) (nI b) cof mad nu co se li le fi sc ti un ma dr fr to en) := hD
    refine lv_aload_n hx hb dM_value_120 rfl (lv_at hl 1 rfl) ?_
    refine va_get (D := (dC, dI)) (ci := 0) (C := "RevisionGroveModel") (T := TM) (N := 19) hx hb hts inM hown hK hP 0 rfl rfl 0 (by decide) (hts _ tw_601) (fun _ h9 => h9) rfl dM_value_121 ?_
    refine rg_ifN_le (tgt := 131) hx hb dM_value_124 (by decide) (by decide) (fun h10 => by exfalso; omega) (fun h10 => ?_)
    refine lv_lconst (v := 0) hx hb dM_value_127 (by decide) ?_
    refine lv_goto (tgt := 157) hx hb dM_value_128 (by decide) ?_
    rw [hQ]
    exact rg_lret hx hb hr hlk hK hP hD hS dM_value_157 (nI 2, nI n, nI b, cof, mad, nu, co, se, li, le, fi, sc, ti, un, ma, dr, fr, to, en) rfl (⟨hrep, rfl, rfl⟩)
  · refine lv_iload_n hx hb dM_value_101 rfl (lv_at hl 4 rfl) ?_
    refine lv_aload_n hx hb dM_value_102 rfl (lv_at hl 1 rfl) ?_
    refine va_get (D := (dC, dI)) (ci := 0) (C := "RevisionGroveModel") (T := TM) (N := 19) hx hb hts inM hown hK hP 0 rfl rfl 6 (by decide) (hts _ tw_607) (fun _ h9 => h9) rfl dM_value_103 ?_
    refine lv_iload hx hb dM_value_106 (lv_at hl 0 rfl) ?_
    refine rg_iald hx hb hK hP 5 0 rfl rfl (by decide) (by omega) dM_value_108 ?_
    refine rg_top (show (.int (le (2 * j + 1)) : Value) = .int (nI l9.length) by rw [q5]) ?_
    refine lv_icmp_lt (tgt := 116) hx hb dM_value_109 (by decide) (fun h11 => absurd hi0 (fun q => q.elim h9 (fun q => Int32.not_lt.mpr q h11))) (fun h11 => ?_)
    refine lv_iconst (v := nI 2) hx hb dM_value_112 (by decide) ?_
    refine lv_goto (tgt := 117) hx hb dM_value_113 (by decide) ?_
    refine va_put (D := (dC, dI)) (ci := 0) (v := .int (nI 2)) (ty := .int) (C := "RevisionGroveModel") (T := TM) (N := 19) hx hb hts inM tyM tyM_ok nmM hown hK hP hD hS 0 rfl rfl 0 (by decide) (hts _ tw_601) (fun _ h9 => h9) rfl (by decide +kernel) rfl rfl (Nat.le_of_ble_eq_true rfl) dM_value_117 (fun H locs hP hD hS => ?_)
    have hP : va_P (dC, dI) rg_cl (rm_W h a cI cL (nI 2) (nI n) (nI b) cof mad nu co se li le fi sc ti un ma dr fr to en) H := hP
    have hD : va_D A (rm_W h a cI cL (nI 2) (nI n) (nI b) cof mad nu co se li le fi sc ti un ma dr fr to en) := hD
    refine lv_aload_n hx hb dM_value_120 rfl (lv_at hl 1 rfl) ?_
    refine va_get (D := (dC, dI)) (ci := 0) (C := "RevisionGroveModel") (T := TM) (N := 19) hx hb hts inM hown hK hP 0 rfl rfl 0 (by decide) (hts _ tw_601) (fun _ h9 => h9) rfl dM_value_121 ?_
    refine rg_ifN_le (tgt := 131) hx hb dM_value_124 (by decide) (by decide) (fun h12 => by exfalso; omega) (fun h12 => ?_)
    refine lv_lconst (v := 0) hx hb dM_value_127 (by decide) ?_
    refine lv_goto (tgt := 157) hx hb dM_value_128 (by decide) ?_
    rw [hQ]
    exact rg_lret hx hb hr hlk hK hP hD hS dM_value_157 (nI 2, nI n, nI b, cof, mad, nu, co, se, li, le, fi, sc, ti, un, ma, dr, fr, to, en) rfl (⟨hrep, rfl, rfl⟩)
set_option maxHeartbeats 4000000 in
set_option maxRecDepth 100000 in
theorem c_rm_value_7i {l : Launch} {dC : Nat → ClassId} {dI : Nat → Nat → Nat} {h : Nat} {a : Nat → Nat} {cI cL : ClassId} {cod : Int32} {cof : Int32} {mad : Int32} {nu : Nat → Int32} {co : Nat → Int64} {se : Nat → Int32} {li : Nat → Int32} {le : Nat → Int32} {fi : Nat → Int32} {sc : Nat → Int32} {ti : Nat → Int32} {un : Nat → Int32} {ma : Nat → Int32} {dr : Nat → Int32} {fr : Nat → Int32} {to : Nat → Int32} {en : Nat → Int32} (n b : Nat) (Rr : Nat → rg_R) (P1 P2 : Nat → Int32) (T : Nat → Nat) (U : Nat → List Nat) (j : Nat) (hjn : j < n) (l9 : List Int32) (hl9 : (Rr j).2.2.2 1 = l9) (i : Nat) (hi0 : i < l9.length) (hrep : rm_Rep (nI n) (nI b) cof nu co se li le fi sc ti un ma (n, Rr, P1, P2, T, U, b, cof)) : rg_M l yM_value (Cond.code yM_value prog_8_method_34_code 5 (some .long) :: rg_tbl) { frames := 1, cells := 0, slots := 0, locals := 23 } (dC, dI) rg_cl [(cI, .int), (cL, .long)] (rm_W h a cI cL cod (nI n) (nI b) cof mad nu co se li le fi sc ti un ma dr fr to en) [.ref h, .int (nI j), .int (nI 7), .int (nI i)] (rg_QL (dC, dI) rg_cl [(cI, .int), (cL, .long)] (S := rm_S) (rm_Pl (0, (l9.getD i 0).toInt64) (n, Rr, P1, P2, T, U, b, cof)) (fun u => rm_Wu h a cI cL u)) 0 0 := by
  refine rg_of prog_8_method_34_code 5 (some .long) (by decide) rfl (Nat.le_of_ble_eq_true rfl) ?_
  intro p e R s m args below meth c Q A H locs ls hR hQ hx hb hml hr hts hown hlk hnm hP hK hD hA hS hl
  have hl : lv_has ls 5 [(0, .ref h), (1, .int (nI j)), (2, .int (nI 7)), (3, .int (nI i))] := hl
  have hts : ∀ w ∈ rg_tbl, w.before args s = true := fun w h => hts w (List.mem_cons_of_mem _ h)
  have hok := hrep.1
  have hn1 : 1 ≤ n := hok.1
  have hn60 : n ≤ 60 := hok.2.1
  have hb4 : b < 4 := hok.2.2.2.2.2.2.2.1
  have hTb : T b < n := (hok.2.2.2.2.2.2.1 b hb4).1
  have hti : ti b = nI (T b) := (hrep.2.2.2.2.2.2 b hb4).1
  have hma : ma b = nI (U b).length := (hrep.2.2.2.2.2.2 b hb4).2.1
  have hB := rg_isR_ok (n := n) (by omega) hjn
  have q0 := hrep.2.2.2.2.1 j hjn 1 (by decide)
  have q4 := q0.2.2.2.1
  have q5 := q0.2.2.2.2.1
  have q6 := q0.2.2.2.2.2
  have hl9 : (Rr j).2.2.2 1 = l9 := hl9
  rw [show (ra_R (n, Rr, P1, P2, T, U, b, cof) j).2.2.2 1 = l9 from hl9] at q4 q5 q6
  have hat : li (16 * j + 8 * 1 + i) = l9.getD i 0 := q6 i hi0
  refine lv_aload_n hx hb dM_value_0 rfl (lv_at hl 0 rfl) ?_
  refine lv_aload_n hx hb dM_value_1 rfl (lv_at hl 0 rfl) ?_
  refine lv_iload_n hx hb dM_value_2 rfl (lv_at hl 1 rfl) ?_
  refine rg_calli hD hS hA (va_runV (As := [.int (nI j)]) (rest := [.ref h]) ⟨hx, hb, hml, hown, hts⟩ (c_rm_isRevision n (nI j) _) (cwV 1 hts (rg_gV tw_726 tw_728 ts_M_isRevision tw_5 tw_729) rfl rfl rfl (by decide +kernel) ⟨by rw [hR]; exact Nat.le_of_ble_eq_true rfl, by rw [hR]; exact Nat.le_of_ble_eq_true rfl⟩) (rg_preV rfl hK hP hD (ci := 0) (q0 := 0) rfl rfl) rfl rfl hl.1 rfl (lv_room (Nat.le_of_ble_eq_true rfl)) dM_value_3 ⟨Nat.zero_le _, Nat.zero_le _⟩) (fun r1 u2 H locs hw3 hP hD hS => ?_)
  subst hw3
  have hP : va_P (dC, dI) rg_cl (rm_W h a cI cL cod (nI n) (nI b) cof mad nu co se li le fi sc ti un ma dr fr to en) H := hP
  have hD : va_D A (rm_W h a cI cL cod (nI n) (nI b) cof mad nu co se li le fi sc ti un ma dr fr to en) := hD
  refine rg_ifz_eq (tgt := 19) hx hb dM_value_6 (by decide) (fun h4 => absurd (hB.symm.trans h4) (by decide)) (fun h4 => ?_)
  refine lv_iload_n hx hb dM_value_9 rfl (lv_at hl 2 rfl) ?_
  refine rg_ifN_lt (tgt := 19) hx hb dM_value_10 (by decide) (by omega) (fun h5 => h5.elim) (fun h5 => ?_)
  refine lv_iload_n hx hb dM_value_13 rfl (lv_at hl 2 rfl) ?_
  refine lv_bipush (v := nI 7) hx hb dM_value_14 (by decide) ?_
  refine rg_icmp_le (tgt := 23) hx hb dM_value_16 (by decide) (by omega) (by omega) (fun h6 => ?_) (fun h6 => by exfalso; omega)
  refine lv_iconst (v := nI 0) hx hb dM_value_23 (by decide) ?_
  refine va_put (D := (dC, dI)) (ci := 0) (v := .int (nI 0)) (ty := .int) (C := "RevisionGroveModel") (T := TM) (N := 19) hx hb hts inM tyM tyM_ok nmM hown hK hP hD hS 0 rfl rfl 0 (by decide) (hts _ tw_601) (fun _ h9 => h9) rfl (by decide +kernel) rfl rfl (Nat.le_of_ble_eq_true rfl) dM_value_24 (fun H locs hP hD hS => ?_)
  have hP : va_P (dC, dI) rg_cl (rm_W h a cI cL (nI 0) (nI n) (nI b) cof mad nu co se li le fi sc ti un ma dr fr to en) H := hP
  have hD : va_D A (rm_W h a cI cL (nI 0) (nI n) (nI b) cof mad nu co se li le fi sc ti un ma dr fr to en) := hD
  refine lv_aload_n hx hb dM_value_27 rfl (lv_at hl 0 rfl) ?_
  refine va_get (D := (dC, dI)) (ci := 0) (C := "RevisionGroveModel") (T := TM) (N := 19) hx hb hts inM hown hK hP 0 rfl rfl 0 (by decide) (hts _ tw_601) (fun _ h9 => h9) rfl dM_value_28 ?_
  refine rg_ifN_le (tgt := 36) hx hb dM_value_31 (by decide) (by decide) (fun h7 => ?_) (fun h7 => by exfalso; omega)
  refine lv_iconst (v := nI 2) hx hb dM_value_36 (by decide) ?_
  refine lv_iload_n hx hb dM_value_37 rfl (lv_at hl 1 rfl) ?_
  refine rg_imul hx hb dM_value_38 ?_
  refine lv_iload_n hx hb dM_value_39 rfl (lv_at hl 2 rfl) ?_
  refine lv_iconst (v := nI 2) hx hb dM_value_40 (by decide) ?_
  refine lv_irem hx hb dM_value_41 (by decide) ?_
  refine rg_top (show _ = Value.int (nI 1) by decide) ?_
  refine rg_iadd hx hb dM_value_42 ?_
  refine lv_istore (lv' := [(4, .int (nI (2 * j + 1))), (0, .ref h), (1, .int (nI j)), (2, .int (nI 7)), (3, .int (nI i))]) hx hb dM_value_43 hl (by decide) rfl (fun ls hl => ?_)
  refine lv_iload_n hx hb dM_value_45 rfl (lv_at hl 3 rfl) ?_
  refine lv_bipush (v := nI 6) hx hb dM_value_46 (by decide) ?_
  refine rg_icmp_ge (tgt := 95) hx hb dM_value_48 (by decide) (by omega) (by omega) (fun h8 => ?_) (fun h8 => by exfalso; omega)
  refine lv_aload_n hx hb dM_value_95 rfl (lv_at hl 1 rfl) ?_
  refine lv_iload_n hx hb dM_value_96 rfl (lv_at hl 4 rfl) ?_
  refine lv_iconst (v := -1) hx hb dM_value_97 (by decide) ?_
  refine lv_icmp_lt (tgt := 112) hx hb dM_value_98 (by decide) (fun h9 => absurd h9 (rg_nlt_m1 (by omega))) (fun h9 => ?_)
  refine lv_iload_n hx hb dM_value_101 rfl (lv_at hl 4 rfl) ?_
  refine lv_aload_n hx hb dM_value_102 rfl (lv_at hl 1 rfl) ?_
  refine va_get (D := (dC, dI)) (ci := 0) (C := "RevisionGroveModel") (T := TM) (N := 19) hx hb hts inM hown hK hP 0 rfl rfl 6 (by decide) (hts _ tw_607) (fun _ h9 => h9) rfl dM_value_103 ?_
  refine lv_iload hx hb dM_value_106 (lv_at hl 0 rfl) ?_
  refine rg_iald hx hb hK hP 5 0 rfl rfl (by decide) (by omega) dM_value_108 ?_
  refine rg_top (show (.int (le (2 * j + 1)) : Value) = .int (nI l9.length) by rw [q5]) ?_
  refine rg_icmp_lt (tgt := 116) hx hb dM_value_109 (by decide) (by omega) (by omega) (fun h10 => ?_) (fun h10 => by exfalso; omega)
  refine lv_iconst (v := nI 0) hx hb dM_value_116 (by decide) ?_
  refine va_put (D := (dC, dI)) (ci := 0) (v := .int (nI 0)) (ty := .int) (C := "RevisionGroveModel") (T := TM) (N := 19) hx hb hts inM tyM tyM_ok nmM hown hK hP hD hS 0 rfl rfl 0 (by decide) (hts _ tw_601) (fun _ h9 => h9) rfl (by decide +kernel) rfl rfl (Nat.le_of_ble_eq_true rfl) dM_value_117 (fun H locs hP hD hS => ?_)
  have hP : va_P (dC, dI) rg_cl (rm_W h a cI cL (nI 0) (nI n) (nI b) cof mad nu co se li le fi sc ti un ma dr fr to en) H := hP
  have hD : va_D A (rm_W h a cI cL (nI 0) (nI n) (nI b) cof mad nu co se li le fi sc ti un ma dr fr to en) := hD
  refine lv_aload_n hx hb dM_value_120 rfl (lv_at hl 1 rfl) ?_
  refine va_get (D := (dC, dI)) (ci := 0) (C := "RevisionGroveModel") (T := TM) (N := 19) hx hb hts inM hown hK hP 0 rfl rfl 0 (by decide) (hts _ tw_601) (fun _ h9 => h9) rfl dM_value_121 ?_
  refine rg_ifN_le (tgt := 131) hx hb dM_value_124 (by decide) (by decide) (fun h11 => ?_) (fun h11 => by exfalso; omega)
  refine lv_iload_n hx hb dM_value_131 rfl (lv_at hl 4 rfl) ?_
  refine rg_ifN_ge (tgt := 146) hx hb dM_value_132 (by decide) (by omega) (fun h12 => ?_) (fun h12 => h12.elim)
  refine lv_aload_n hx hb dM_value_146 rfl (lv_at hl 1 rfl) ?_
  refine lv_iload_n hx hb dM_value_147 rfl (lv_at hl 2 rfl) ?_
  refine lv_iload_n hx hb dM_value_148 rfl (lv_at hl 3 rfl) ?_
  refine lv_bipush (v := nI 6) hx hb dM_value_149 (by decide) ?_
  refine rg_isub hx hb dM_value_151 (by omega) ?_
  refine rg_top (show Value.int (nI (7 - 6)) = .int (nI 1) from rfl) ?_
  refine lv_iload_n hx hb dM_value_152 rfl (lv_at hl 4 rfl) ?_
  refine rg_calli hD hS hA (va_runV (As := [.int (nI j), .int (nI 1), .int (nI i)]) (rest := []) ⟨hx, hb, hml, hown, hts⟩ (c_rm_at j 1 i (by omega) _) (cwV 3 hts (rg_gV tw_769 tw_771 ts_M_at tw_5 tw_772) rfl rfl rfl (by decide +kernel) ⟨by rw [hR]; exact Nat.le_of_ble_eq_true rfl, by rw [hR]; exact Nat.le_of_ble_eq_true rfl⟩) (rg_preV rfl hK hP hD (ci := 0) (q0 := 0) rfl rfl) rfl rfl hl.1 rfl (lv_room (Nat.le_of_ble_eq_true rfl)) dM_value_153 ⟨Nat.zero_le _, Nat.zero_le _⟩) (fun r13 u14 H locs hw15 hP hD hS => ?_)
  subst hw15
  have hP : va_P (dC, dI) rg_cl (rm_W h a cI cL (nI 0) (nI n) (nI b) cof mad nu co se li le fi sc ti un ma dr fr to en) H := hP
  have hD : va_D A (rm_W h a cI cL (nI 0) (nI n) (nI b) cof mad nu co se li le fi sc ti un ma dr fr to en) := hD
  refine rg_top (show (.int (li (16 * j + 8 * 1 + i)) : Value) = .int (l9.getD i 0) by rw [hat]) ?_
  refine lv_i2l (v := (l9.getD i 0).toInt64) hx hb dM_value_156 rfl ?_
  rw [hQ]
  exact rg_lret hx hb hr hlk hK hP hD hS dM_value_157 (nI 0, nI n, nI b, cof, mad, nu, co, se, li, le, fi, sc, ti, un, ma, dr, fr, to, en) rfl (⟨hrep, rfl, rfl⟩)
theorem c_rm_value {l : Launch} {dC : Nat → ClassId} {dI : Nat → Nat → Nat} {h : Nat} {a : Nat → Nat} {cI cL : ClassId} {cod : Int32} {cof : Int32} {mad : Int32} {nu : Nat → Int32} {co : Nat → Int64} {se : Nat → Int32} {li : Nat → Int32} {le : Nat → Int32} {fi : Nat → Int32} {sc : Nat → Int32} {ti : Nat → Int32} {un : Nat → Int32} {ma : Nat → Int32} {dr : Nat → Int32} {fr : Nat → Int32} {to : Nat → Int32} {en : Nat → Int32} (n b : Nat) (Rr : Nat → rg_R) (P1 P2 : Nat → Int32) (T : Nat → Nat) (U : Nat → List Nat) (x f i : Int32) (hrep : rm_Rep (nI n) (nI b) cof nu co se li le fi sc ti un ma (n, Rr, P1, P2, T, U, b, cof)) : rg_M l yM_value (Cond.code yM_value prog_8_method_34_code 5 (some .long) :: rg_tbl) { frames := 1, cells := 0, slots := 0, locals := 23 } (dC, dI) rg_cl [(cI, .int), (cL, .long)] (rm_W h a cI cL cod (nI n) (nI b) cof mad nu co se li le fi sc ti un ma dr fr to en) [.ref h, .int x, .int f, .int i] (rg_QL (dC, dI) rg_cl [(cI, .int), (cL, .long)] (S := rm_S) (rm_Pl (rg_oVal (n, Rr, P1, P2, T, U, b, cof) x f i) (n, Rr, P1, P2, T, U, b, cof)) (fun u => rm_Wu h a cI cL u)) 0 0 := by
  unfold rg_oVal
  show rg_M _ _ _ _ _ _ _ _ _ (rg_QL _ _ _ (rm_Pl (bif rg_isR n x then rg_val (Rr x.toNatClampNeg) f i else (1, 0)) (n, Rr, P1, P2, T, U, b, cof)) _) _ _
  cases hB : rg_isR n x with
  | false => exact c_rm_value_badx n b Rr P1 P2 T U x f i hB hrep
  | true =>
    obtain ⟨j, hj, rfl⟩ := rg_isR_of hB
    rw [nI_clamp (Nat.lt_of_lt_of_le hj (Nat.le_trans hrep.1.2.1 (by decide)))]
    show rg_M _ _ _ _ _ _ _ _ _ (rg_QL _ _ _ (rm_Pl (rg_val (Rr j) f i) (n, Rr, P1, P2, T, U, b, cof)) _) _ _
    unfold rg_val
    by_cases h0 : f = 0
    · subst h0; rw [if_pos rfl]; exact c_rm_value_0 n b Rr P1 P2 T U j hj i hrep
    · rw [if_neg h0]
      by_cases h1 : f = 1
      · subst h1; rw [if_pos rfl]; exact c_rm_value_1 n b Rr P1 P2 T U j hj i hrep
      · rw [if_neg h1]
        by_cases h2 : f = 2
        · subst h2; rw [if_pos rfl]; exact c_rm_value_2 n b Rr P1 P2 T U j hj i hrep
        · rw [if_neg h2]
          by_cases h3 : f = 3
          · subst h3; rw [if_pos rfl]; exact c_rm_value_3 n b Rr P1 P2 T U j hj i hrep
          · rw [if_neg h3]
            by_cases h4 : f = 4
            · subst h4; rw [if_pos rfl]; exact c_rm_value_4 n b Rr P1 P2 T U j hj i hrep
            · rw [if_neg h4]
              by_cases h5 : f = 5
              · subst h5; rw [if_pos rfl]; exact c_rm_value_5 n b Rr P1 P2 T U j hj i hrep
              · rw [if_neg h5]
                by_cases h6 : f = 6
                · subst h6; rw [if_pos rfl]
                  unfold rg_vL
                  by_cases hm : i = -1
                  · subst hm; rw [if_pos rfl]; exact c_rm_value_6m n b Rr P1 P2 T U j hj _ rfl hrep
                  · rw [if_neg hm]
                    by_cases hi : i < 0 ∨ nI ((Rr j).2.2.2 0).length ≤ i
                    · rw [if_pos hi]
                      refine c_rm_value_6b n b Rr P1 P2 T U j hj _ rfl i ?_ hrep
                      rcases hi with hi | hi
                      · exact Or.inl (rg_lt0 hi hm)
                      · exact Or.inr hi
                    · rw [if_neg hi]
                      obtain ⟨q, hq, rfl⟩ := nI_of (fun z => hi (Or.inl z))
                      rw [nI_clamp hq]
                      exact c_rm_value_6i n b Rr P1 P2 T U j hj _ rfl q (Nat.lt_of_not_le fun z => hi (Or.inr (nI_le z hq))) hrep
                · rw [if_neg h6]
                  by_cases h7 : f = 7
                  · subst h7; rw [if_pos rfl]
                    unfold rg_vL
                    by_cases hm : i = -1
                    · subst hm; rw [if_pos rfl]; exact c_rm_value_7m n b Rr P1 P2 T U j hj _ rfl hrep
                    · rw [if_neg hm]
                      by_cases hi : i < 0 ∨ nI ((Rr j).2.2.2 1).length ≤ i
                      · rw [if_pos hi]
                        refine c_rm_value_7b n b Rr P1 P2 T U j hj _ rfl i ?_ hrep
                        rcases hi with hi | hi
                        · exact Or.inl (rg_lt0 hi hm)
                        · exact Or.inr hi
                      · rw [if_neg hi]
                        obtain ⟨q, hq, rfl⟩ := nI_of (fun z => hi (Or.inl z))
                        rw [nI_clamp hq]
                        exact c_rm_value_7i n b Rr P1 P2 T U j hj _ rfl q (Nat.lt_of_not_le fun z => hi (Or.inr (nI_le z hq))) hrep
                  · rw [if_neg h7]
                    refine c_rm_value_badf n b Rr P1 P2 T U j hj f i ?_ hrep
                    by_cases h8 : f < 0
                    · exact Or.inl h8
                    · by_cases h9 : 7 < f
                      · exact Or.inr h9
                      · obtain ⟨q, hq, rfl⟩ := nI_of2 (M := 7) (n := 7) (by decide) h8 (Int32.not_lt.mp h9)
                        rcases (show q = 0 ∨ q = 1 ∨ q = 2 ∨ q = 3 ∨ q = 4 ∨ q = 5 ∨ q = 6 ∨ q = 7 by omega) with rfl | rfl | rfl | rfl | rfl | rfl | rfl | rfl
                        · exact absurd rfl h0
                        · exact absurd rfl h1
                        · exact absurd rfl h2
                        · exact absurd rfl h3
                        · exact absurd rfl h4
                        · exact absurd rfl h5
                        · exact absurd rfl h6
                        · exact absurd rfl h7
