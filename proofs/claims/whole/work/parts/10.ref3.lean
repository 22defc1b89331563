set_option maxHeartbeats 4000000 in
set_option maxRecDepth 100000 in
theorem c_rm_change {l : Launch} {dC : Nat → ClassId} {dI : Nat → Nat → Nat} {h : Nat} {a : Nat → Nat} {cI cL : ClassId} {cof : Int32} {mad : Int32} {nu : Nat → Int32} {co : Nat → Int64} {se : Nat → Int32} {li : Nat → Int32} {le : Nat → Int32} {fi : Nat → Int32} {sc : Nat → Int32} {ti : Nat → Int32} {un : Nat → Int32} {ma : Nat → Int32} {dr : Nat → Int32} {fr : Nat → Int32} {to : Nat → Int32} {en : Nat → Int32} (n b : Nat) (Rr : Nat → rg_R) (P1 P2 : Nat → Int32) (T : Nat → Nat) (U : Nat → List Nat) (X : rg_R) (hrep : rm_Rep (nI n) (nI b) cof nu co se li le fi sc ti un ma (n, Rr, P1, P2, T, U, b, cof)) (hX : rg_MR nu co se le li n X) : rg_M l yM_change (Cond.code yM_change prog_8_method_9_code 1 (some .int) :: rg_tbl) { frames := 2, cells := 0, slots := 0, locals := 49 } (dC, dI) rg_cl [(cI, .int), (cL, .long)] (rm_W h a cI cL (nI 0) (nI n) (nI b) cof mad nu co se li le fi sc ti un ma dr fr to en) [.ref h] (rg_QI (dC, dI) rg_cl [(cI, .int), (cL, .long)] (S := rm_S) (rm_Po (rg_chg 2 (n, Rr, P1, P2, T, U, b, cof) X)) (fun u => rm_Wu h a cI cL u)) 0 0 := by
  refine rg_of prog_8_method_9_code 1 (some .int) (by decide) rfl (Nat.le_of_ble_eq_true rfl) ?_
  intro p e R s m args below meth c Q A H locs ls hR hQ hx hb hml hr hts hown hlk hnm hP hK hD hA hS hl
  have hl : lv_has ls 1 [(0, .ref h)] := hl
  have hts : ∀ w ∈ rg_tbl, w.before args s = true := fun w h => hts w (List.mem_cons_of_mem _ h)
  have hok := hrep.1
  have hn1 : 1 ≤ n := hok.1
  have hn60 : n ≤ 60 := hok.2.1
  have hb4 : b < 4 := hok.2.2.2.2.2.2.2.1
  have hTb : T b < n := (hok.2.2.2.2.2.2.1 b hb4).1
  have hti : ti b = nI (T b) := (hrep.2.2.2.2.2.2 b hb4).1
  have hma : ma b = nI (U b).length := (hrep.2.2.2.2.2.2 b hb4).2.1
  refine lv_aload_n hx hb dM_change_0 rfl (lv_at hl 0 rfl) ?_
  refine lv_aload_n hx hb dM_change_1 rfl (lv_at hl 0 rfl) ?_
  refine va_get (D := (dC, dI)) (ci := 0) (C := "RevisionGroveModel") (T := TM) (N := 19) hx hb hts inM hown hK hP 0 rfl rfl 1 (by decide) (hts _ tw_602) (fun _ h9 => h9) rfl dM_change_2 ?_
  refine lv_aload_n hx hb dM_change_5 rfl (lv_at hl 0 rfl) ?_
  refine rg_calli hD hS hA (va_runV (As := []) (rest := [.int (nI n), .ref h]) ⟨hx, hb, hml, hown, hts⟩ (c_rm_here b (by omega) _) (cwV 0 hts (rg_gV tw_667 tw_669 ts_M_here tw_5 tw_670) rfl rfl rfl (by decide +kernel) ⟨by rw [hR]; exact Nat.le_of_ble_eq_true rfl, by rw [hR]; exact Nat.le_of_ble_eq_true rfl⟩) (rg_preV rfl hK hP hD (ci := 0) (q0 := 0) rfl rfl) rfl rfl hl.1 rfl (lv_room (Nat.le_of_ble_eq_true rfl)) dM_change_6 ⟨Nat.zero_le _, Nat.zero_le _⟩) (fun r1 u2 H locs hw3 hP hD hS => ?_)
  subst hw3
  have hP : va_P (dC, dI) rg_cl (rm_W h a cI cL (nI 0) (nI n) (nI b) cof mad nu co se li le fi sc ti un ma dr fr to en) H := hP
  have hD : va_D A (rm_W h a cI cL (nI 0) (nI n) (nI b) cof mad nu co se li le fi sc ti un ma dr fr to en) := hD
  refine rg_top (show (.int (ti b) : Value) = .int (nI (T b)) by rw [hti]) ?_
  refine rg_calli hD hS hA (va_runV (As := [.int (nI n), .int (nI (T b))]) (rest := []) ⟨hx, hb, hml, hown, hts⟩ (c_rm_difference n (T b) (by omega) (by omega) X (Rr (T b)) hX (hrep.2.2.2.2.1 (T b) hTb) _) (cwV 2 hts (rg_gV tw_679 tw_681 ts_M_difference tw_5 tw_682) rfl rfl rfl (by decide +kernel) ⟨by rw [hR]; exact Nat.le_of_ble_eq_true rfl, by rw [hR]; exact Nat.le_of_ble_eq_true rfl⟩) (rg_preV rfl hK hP hD (ci := 0) (q0 := 0) rfl rfl) rfl rfl hl.1 rfl (lv_room (Nat.le_of_ble_eq_true rfl)) dM_change_9 ⟨Nat.zero_le _, Nat.zero_le _⟩) (fun r4 u5 H locs hw6 hP hD hS => ?_)
  subst hw6
  have hP : va_P (dC, dI) rg_cl (rm_W h a cI cL (nI 0) (nI n) (nI b) cof mad nu co se li le fi sc ti un ma dr fr to en) H := hP
  have hD : va_D A (rm_W h a cI cL (nI 0) (nI n) (nI b) cof mad nu co se li le fi sc ti un ma dr fr to en) := hD
  refine lv_if_ne (tgt := 20) hx hb dM_change_12 (by decide) (fun h7 => ?_) (fun h7 => ?_)
  · have hd9 := h7
    refine lv_aload_n hx hb dM_change_20 rfl (lv_at hl 0 rfl) ?_
    refine lv_aload_n hx hb dM_change_21 rfl (lv_at hl 0 rfl) ?_
    refine va_get (D := (dC, dI)) (ci := 0) (C := "RevisionGroveModel") (T := TM) (N := 19) hx hb hts inM hown hK hP 0 rfl rfl 1 (by decide) (hts _ tw_602) (fun _ h9 => h9) rfl dM_change_22 ?_
    refine lv_bipush (v := nI 60) hx hb dM_change_25 (by decide) ?_
    refine rg_icmp_ne (tgt := 34) hx hb dM_change_27 (by decide) (by omega) (by omega) (fun h8 => ?_) (fun h8 => ?_)
    · refine lv_iconst (v := nI 0) hx hb dM_change_34 (by decide) ?_
      refine va_put (D := (dC, dI)) (ci := 0) (v := .int (nI 0)) (ty := .int) (C := "RevisionGroveModel") (T := TM) (N := 19) hx hb hts inM tyM tyM_ok nmM hown hK hP hD hS 0 rfl rfl 0 (by decide) (hts _ tw_601) (fun _ h9 => h9) rfl (by decide +kernel) rfl rfl (Nat.le_of_ble_eq_true rfl) dM_change_35 (fun H locs hP hD hS => ?_)
      have hP : va_P (dC, dI) rg_cl (rm_W h a cI cL (nI 0) (nI n) (nI b) cof mad nu co se li le fi sc ti un ma dr fr to en) H := hP
      have hD : va_D A (rm_W h a cI cL (nI 0) (nI n) (nI b) cof mad nu co se li le fi sc ti un ma dr fr to en) := hD
      refine lv_aload_n hx hb dM_change_38 rfl (lv_at hl 0 rfl) ?_
      refine va_get (D := (dC, dI)) (ci := 0) (C := "RevisionGroveModel") (T := TM) (N := 19) hx hb hts inM hown hK hP 0 rfl rfl 0 (by decide) (hts _ tw_601) (fun _ h9 => h9) rfl dM_change_39 ?_
      refine rg_ifN_le (tgt := 49) hx hb dM_change_42 (by decide) (by decide) (fun h9 => ?_) (fun h9 => by exfalso; omega)
      refine lv_aload_n hx hb dM_change_49 rfl (lv_at hl 0 rfl) ?_
      refine lv_aload_n hx hb dM_change_50 rfl (lv_at hl 0 rfl) ?_
      refine rg_calli hD hS hA (va_runV (As := []) (rest := [.ref h]) ⟨hx, hb, hml, hown, hts⟩ (c_rm_here b (by omega) _) (cwV 0 hts (rg_gV tw_667 tw_669 ts_M_here tw_5 tw_670) rfl rfl rfl (by decide +kernel) ⟨by rw [hR]; exact Nat.le_of_ble_eq_true rfl, by rw [hR]; exact Nat.le_of_ble_eq_true rfl⟩) (rg_preV rfl hK hP hD (ci := 0) (q0 := 0) rfl rfl) rfl rfl hl.1 rfl (lv_room (Nat.le_of_ble_eq_true rfl)) dM_change_51 ⟨Nat.zero_le _, Nat.zero_le _⟩) (fun r10 u11 H locs hw12 hP hD hS => ?_)
      subst hw12
      have hP : va_P (dC, dI) rg_cl (rm_W h a cI cL (nI 0) (nI n) (nI b) cof mad nu co se li le fi sc ti un ma dr fr to en) H := hP
      have hD : va_D A (rm_W h a cI cL (nI 0) (nI n) (nI b) cof mad nu co se li le fi sc ti un ma dr fr to en) := hD
      refine rg_top (show (.int (ti b) : Value) = .int (nI (T b)) by rw [hti]) ?_
      refine lv_iconst (v := -1) hx hb dM_change_54 (by decide) ?_
      refine rg_calli hD hS hA (va_runV (As := [.int (nI (T b)), .int ((-1))]) (rest := []) ⟨hx, hb, hml, hown, hts⟩ (c_rm_finish b n (by omega) (by omega) (nI (T b)) ((-1)) _) (cwV 2 hts (rg_gV tw_687 tw_689 ts_M_finish tw_5 tw_690) rfl rfl rfl (by decide +kernel) ⟨by rw [hR]; exact Nat.le_of_ble_eq_true rfl, by rw [hR]; exact Nat.le_of_ble_eq_true rfl⟩) (rg_preV rfl hK hP hD (ci := 0) (q0 := 0) rfl rfl) rfl rfl hl.1 rfl (lv_room (Nat.le_of_ble_eq_true rfl)) dM_change_55 ⟨Nat.zero_le _, Nat.zero_le _⟩) (fun r13 u14 H locs hw15 hP hD hS => ?_)
      subst hw15
      have hP : va_P (dC, dI) rg_cl (rm_W h a cI cL (nI 0) (nI (n + 1)) (nI b) cof mad nu co se li le (upd fi n (nI (T b))) (upd sc n ((-1))) (upd ti b (nI n)) un (upd ma b (nI 0)) dr fr to en) H := hP
      have hD : va_D A (rm_W h a cI cL (nI 0) (nI (n + 1)) (nI b) cof mad nu co se li le (upd fi n (nI (T b))) (upd sc n ((-1))) (upd ti b (nI n)) un (upd ma b (nI 0)) dr fr to en) := hD
      rw [hQ]
      exact rg_iret hx hb hr hlk hK hP hD hS dM_change_58 (nI 0, nI (n + 1), nI b, cof, mad, nu, co, se, li, le, upd fi n (nI (T b)), upd sc n ((-1)), upd ti b (nI n), un, upd ma b (nI 0), dr, fr, to, en) rfl (by rw [rg_chg_new (g := (n, Rr, P1, P2, T, U, b, cof)) hd9 h8]; exact ⟨rm_Rep_new (g := (n, Rr, P1, P2, T, U, b, cof)) hrep hX (by show n < 60; omega) (Or.inl rfl), rfl, rfl⟩)
    · refine lv_iconst (v := nI 2) hx hb dM_change_30 (by decide) ?_
      refine lv_goto (tgt := 35) hx hb dM_change_31 (by decide) ?_
      refine va_put (D := (dC, dI)) (ci := 0) (v := .int (nI 2)) (ty := .int) (C := "RevisionGroveModel") (T := TM) (N := 19) hx hb hts inM tyM tyM_ok nmM hown hK hP hD hS 0 rfl rfl 0 (by decide) (hts _ tw_601) (fun _ h9 => h9) rfl (by decide +kernel) rfl rfl (Nat.le_of_ble_eq_true rfl) dM_change_35 (fun H locs hP hD hS => ?_)
      have hP : va_P (dC, dI) rg_cl (rm_W h a cI cL (nI 2) (nI n) (nI b) cof mad nu co se li le fi sc ti un ma dr fr to en) H := hP
      have hD : va_D A (rm_W h a cI cL (nI 2) (nI n) (nI b) cof mad nu co se li le fi sc ti un ma dr fr to en) := hD
      refine lv_aload_n hx hb dM_change_38 rfl (lv_at hl 0 rfl) ?_
      refine va_get (D := (dC, dI)) (ci := 0) (C := "RevisionGroveModel") (T := TM) (N := 19) hx hb hts inM hown hK hP 0 rfl rfl 0 (by decide) (hts _ tw_601) (fun _ h9 => h9) rfl dM_change_39 ?_
      refine rg_ifN_le (tgt := 49) hx hb dM_change_42 (by decide) (by decide) (fun h16 => by exfalso; omega) (fun h16 => ?_)
      refine lv_iconst (v := nI 0) hx hb dM_change_45 (by decide) ?_
      refine lv_goto (tgt := 58) hx hb dM_change_46 (by decide) ?_
      rw [hQ]
      exact rg_iret hx hb hr hlk hK hP hD hS dM_change_58 (nI 2, nI n, nI b, cof, mad, nu, co, se, li, le, fi, sc, ti, un, ma, dr, fr, to, en) rfl (by rw [rg_chg_full (g := (n, Rr, P1, P2, T, U, b, cof)) hd9 h8]; exact ⟨hrep, rfl, rfl⟩)
  · have hd9 := h7
    refine lv_aload_n hx hb dM_change_15 rfl (lv_at hl 0 rfl) ?_
    refine rg_calli hD hS hA (va_runV (As := []) (rest := []) ⟨hx, hb, hml, hown, hts⟩ (c_rm_here b (by omega) _) (cwV 0 hts (rg_gV tw_667 tw_669 ts_M_here tw_5 tw_670) rfl rfl rfl (by decide +kernel) ⟨by rw [hR]; exact Nat.le_of_ble_eq_true rfl, by rw [hR]; exact Nat.le_of_ble_eq_true rfl⟩) (rg_preV rfl hK hP hD (ci := 0) (q0 := 0) rfl rfl) rfl rfl hl.1 rfl (lv_room (Nat.le_of_ble_eq_true rfl)) dM_change_16 ⟨Nat.zero_le _, Nat.zero_le _⟩) (fun r17 u18 H locs hw19 hP hD hS => ?_)
    subst hw19
    have hP : va_P (dC, dI) rg_cl (rm_W h a cI cL (nI 0) (nI n) (nI b) cof mad nu co se li le fi sc ti un ma dr fr to en) H := hP
    have hD : va_D A (rm_W h a cI cL (nI 0) (nI n) (nI b) cof mad nu co se li le fi sc ti un ma dr fr to en) := hD
    refine rg_top (show (.int (ti b) : Value) = .int (nI (T b)) by rw [hti]) ?_
    rw [hQ]
    exact rg_iret hx hb hr hlk hK hP hD hS dM_change_19 (nI 0, nI n, nI b, cof, mad, nu, co, se, li, le, fi, sc, ti, un, ma, dr, fr, to, en) rfl (by rw [rg_chg_same (g := (n, Rr, P1, P2, T, U, b, cof)) (hd9.trans rfl)]; exact ⟨hrep, rfl, rfl⟩)
