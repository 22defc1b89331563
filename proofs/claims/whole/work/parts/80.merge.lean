set_option maxHeartbeats 4000000 in
set_option maxRecDepth 100000 in
theorem c_G_merge_xb {l : Launch} {dC : Nat → ClassId} {dI : Nat → Nat → Nat} {ad fo fa ur : Nat → Nat} {cI cL cF cA : ClassId} {rec : Nat → Nat → Int64} {fp : Nat → Int32} {sp : Nat → Int32} {an : Nat → Int64} {nn : Nat → Int32} {pt : Nat → Int32} {un : Nat → Nat → Int32} {uc : Nat → Int32} {lc : Int32} (hlt : l.stackTraces = false) (n b : Nat) (Rr : Nat → rg_R) (P1 P2 : Nat → Int32) (T : Nat → Nat) (U : Nat → List Nat) (x y : Int32) (hB : rg_isB x = false) (hrep : gw_Rep rec fp sp an (nI n) pt un uc (nI b) lc (n, Rr, P1, P2, T, U, b, lc)) : rx_M l yG_merge (Cond.code yG_merge prog_1_method_12_code 5 (some .int) :: rg_tbl) { frames := 7, cells := 1, slots := 6, locals := 159 } (dC, dI) rg_cl (gw_tys cI cL cF cA) (gw_W ad fo fa ur cI cL cF cA rec fp sp an nn (nI n) pt un uc (nI b) lc) [.ref ((ad 0)), .int x, .int y] (rg_QI (dC, dI) rg_cl (gw_tys cI cL cF cA) (S := Unit) (fun _ _ => False) (fun _ => gw_W ad fo fa ur cI cL cF cA rec fp sp an nn (nI n) pt un uc (nI b) lc)) (rx_X (dC, dI) rg_cl (gw_tys cI cL cF cA) (S := gw_S) (gw_Px "java/lang/IllegalArgumentException" (n, Rr, P1, P2, T, U, b, 0)) (fun u => gw_Wu ad fo fa ur cI cL cF cA u)) 1 6 := by
  refine rx_of prog_1_method_12_code 5 (some .int) (by decide) rfl (Nat.le_of_ble_eq_true rfl) ?_
  intro p e R s m args below meth c Q A H locs ls hR hQ hx hb hml hr hts hown hlk hnm hno hT hP hK hD hA hS hl
  have hl : lv_has ls 5 [(0, .ref ((ad 0))), (1, .int x), (2, .int y)] := hl
  have hts : ∀ w ∈ rg_tbl, w.before args s = true := fun w h => hts w (List.mem_cons_of_mem _ h)
  refine lv_aload_n hx hb dG_merge_0 rfl (lv_at hl 0 rfl) ?_
  refine lv_iconst (v := nI 0) hx hb dG_merge_1 (by decide) ?_
  refine va_put (D := (dC, dI)) (ci := 1) (v := .int (nI 0)) (ty := .int) (C := "RevisionGrove") (T := TG) (N := 4) hx hb hts inG tyG tyG_ok nmG hown hK hP hD hS 0 rfl rfl 3 (by decide) (hts _ tw_89) (fun _ h9 => h9) rfl (by decide +kernel) rfl rfl (Nat.le_of_ble_eq_true rfl) dG_merge_2 (fun H locs hP hD hS => ?_)
  have hP : va_P (dC, dI) rg_cl (gw_W ad fo fa ur cI cL cF cA rec fp sp an nn (nI n) pt un uc (nI b) (nI 0)) H := hP
  have hD : va_D A (gw_W ad fo fa ur cI cL cF cA rec fp sp an nn (nI n) pt un uc (nI b) (nI 0)) := hD
  refine lv_iload_n hx hb dG_merge_5 rfl (lv_at hl 1 rfl) ?_
  exact rx_callv hQ (fun E u h => ⟨(rec, fp, sp, an, nn, nI n, pt, un, uc, nI b, nI 0), ⟨h, gw_Rep_c hrep rfl⟩, rfl⟩) hno hlk hD hS hA (Nat.le_of_ble_eq_true rfl) (Nat.le_of_ble_eq_true rfl) (vx_runS (As := [.int x]) (rest := []) ⟨hx, hb, hml, hown, hts⟩ (c_G_requireBranch_x hlt x hB _) (va_cwS 1 hts (rg_gSx tw_372 tw_373 tw_1 tw_374) rfl rfl rfl (by decide +kernel) ⟨(by rw [hR]; exact Nat.le_of_ble_eq_true rfl), (by rw [hR]; exact Nat.le_of_ble_eq_true rfl)⟩) (rx_preS rfl hT hS hA hK hP hD) rfl rfl hl.1 rfl (lv_room (Nat.le_of_ble_eq_true rfl)) dG_merge_6 ⟨(by rw [hR]; exact Nat.le_of_ble_eq_true rfl), (by rw [hR]; exact Nat.le_of_ble_eq_true rfl)⟩) (fun _ _ _ h9 => h9.elim)
set_option maxHeartbeats 4000000 in
set_option maxRecDepth 100000 in
theorem c_G_merge_xs {l : Launch} {dC : Nat → ClassId} {dI : Nat → Nat → Nat} {ad fo fa ur : Nat → Nat} {cI cL cF cA : ClassId} {rec : Nat → Nat → Int64} {fp : Nat → Int32} {sp : Nat → Int32} {an : Nat → Int64} {nn : Nat → Int32} {pt : Nat → Int32} {un : Nat → Nat → Int32} {uc : Nat → Int32} {lc : Int32} (hlt : l.stackTraces = false) (n b : Nat) (Rr : Nat → rg_R) (P1 P2 : Nat → Int32) (T : Nat → Nat) (U : Nat → List Nat) (j : Nat) (hj4 : j < 4) (y : Int32) (hy : y < 0 ∨ 2 < y) (hrep : gw_Rep rec fp sp an (nI n) pt un uc (nI b) lc (n, Rr, P1, P2, T, U, b, lc)) : rx_M l yG_merge (Cond.code yG_merge prog_1_method_12_code 5 (some .int) :: rg_tbl) { frames := 7, cells := 1, slots := 6, locals := 159 } (dC, dI) rg_cl (gw_tys cI cL cF cA) (gw_W ad fo fa ur cI cL cF cA rec fp sp an nn (nI n) pt un uc (nI b) lc) [.ref ((ad 0)), .int (nI j), .int y] (rg_QI (dC, dI) rg_cl (gw_tys cI cL cF cA) (S := Unit) (fun _ _ => False) (fun _ => gw_W ad fo fa ur cI cL cF cA rec fp sp an nn (nI n) pt un uc (nI b) lc)) (rx_X (dC, dI) rg_cl (gw_tys cI cL cF cA) (S := gw_S) (gw_Px "java/lang/IllegalArgumentException" (n, Rr, P1, P2, T, U, b, 0)) (fun u => gw_Wu ad fo fa ur cI cL cF cA u)) 1 6 := by
  refine rx_of prog_1_method_12_code 5 (some .int) (by decide) rfl (Nat.le_of_ble_eq_true rfl) ?_
  intro p e R s m args below meth c Q A H locs ls hR hQ hx hb hml hr hts hown hlk hnm hno hT hP hK hD hA hS hl
  have hl : lv_has ls 5 [(0, .ref ((ad 0))), (1, .int (nI j)), (2, .int y)] := hl
  have hts : ∀ w ∈ rg_tbl, w.before args s = true := fun w h => hts w (List.mem_cons_of_mem _ h)
  have hok := hrep.1
  have hn1 : 1 ≤ n := hok.1
  have hn60 : n ≤ 60 := hok.2.1
  have hb4 : b < 4 := hok.2.2.2.2.2.2.2.1
  have hTb : T b < n := (hok.2.2.2.2.2.2.1 b hb4).1
  have hpt : pt b = nI (T b) := (hrep.2.2.2.2.2.2 b hb4).1
  have hyc : rg_CR (rec (T b)) (Rr (T b)) := hrep.2.2.2.2.1 (T b) hTb
  refine lv_aload_n hx hb dG_merge_0 rfl (lv_at hl 0 rfl) ?_
  refine lv_iconst (v := nI 0) hx hb dG_merge_1 (by decide) ?_
  refine va_put (D := (dC, dI)) (ci := 1) (v := .int (nI 0)) (ty := .int) (C := "RevisionGrove") (T := TG) (N := 4) hx hb hts inG tyG tyG_ok nmG hown hK hP hD hS 0 rfl rfl 3 (by decide) (hts _ tw_89) (fun _ h9 => h9) rfl (by decide +kernel) rfl rfl (Nat.le_of_ble_eq_true rfl) dG_merge_2 (fun H locs hP hD hS => ?_)
  have hP : va_P (dC, dI) rg_cl (gw_W ad fo fa ur cI cL cF cA rec fp sp an nn (nI n) pt un uc (nI b) (nI 0)) H := hP
  have hD : va_D A (gw_W ad fo fa ur cI cL cF cA rec fp sp an nn (nI n) pt un uc (nI b) (nI 0)) := hD
  refine lv_iload_n hx hb dG_merge_5 rfl (lv_at hl 1 rfl) ?_
  refine rg_callv hD hS hA (va_runS (As := [.int (nI j)]) (rest := []) ⟨hx, hb, hml, hown, hts⟩ (c_G_requireBranch j (by omega) _) (va_cwS 1 hts (rg_gSx tw_372 tw_373 tw_1 tw_374) rfl rfl rfl (by decide +kernel) ⟨by rw [hR]; exact Nat.le_of_ble_eq_true rfl, by rw [hR]; exact Nat.le_of_ble_eq_true rfl⟩) (rg_preS rfl hK hP hD) rfl rfl hl.1 rfl (lv_room (Nat.le_of_ble_eq_true rfl)) dG_merge_6 ⟨Nat.zero_le _, Nat.zero_le _⟩) (fun u2 H locs hw3 hP hD hS => ?_)
  have hP : va_P (dC, dI) rg_cl (gw_W ad fo fa ur cI cL cF cA rec fp sp an nn (nI n) pt un uc (nI b) (nI 0)) H := hP
  have hD : va_D A (gw_W ad fo fa ur cI cL cF cA rec fp sp an nn (nI n) pt un uc (nI b) (nI 0)) := hD
  refine lv_iload_n hx hb dG_merge_9 rfl (lv_at hl 2 rfl) ?_
  refine lv_if_lt (tgt := 18) hx hb dG_merge_10 (by decide) (fun h4 => ?_) (fun h4 => ?_)
  · rw [hQ]
    exact rx_throw (cls := "java/lang/IllegalArgumentException") (text := "no such side") (rec, fp, sp, an, nn, nI n, pt, un, uc, nI b, nI 0) (⟨rfl, gw_Rep_c hrep rfl⟩) rfl hx hb hlt hown hts hT hno (by decide +kernel) rx_clA rx_itA rx_inA rx_bdA rx_gdA (by decide +kernel) hK hP hD hS (hl.1.trans hml.symm) dG_merge_18 dG_merge_21 dG_merge_22 dG_merge_24 dG_merge_27 (by rw [hR]; exact Nat.le_of_ble_eq_true rfl) (by rw [hR]; exact Nat.le_of_ble_eq_true rfl) (by rw [hR]; exact Nat.le_of_ble_eq_true rfl) (by rw [hR]; exact Nat.le_of_ble_eq_true rfl) hlk (Nat.le_of_ble_eq_true rfl) (Nat.le_of_ble_eq_true rfl)
  · refine lv_iload_n hx hb dG_merge_13 rfl (lv_at hl 2 rfl) ?_
    refine lv_iconst (v := nI 2) hx hb dG_merge_14 (by decide) ?_
    refine lv_icmp_le (tgt := 28) hx hb dG_merge_15 (by decide) (fun h5 => absurd h5 (Int32.not_le.mpr (hy.resolve_left h4))) (fun h5 => ?_)
    rw [hQ]
    exact rx_throw (cls := "java/lang/IllegalArgumentException") (text := "no such side") (rec, fp, sp, an, nn, nI n, pt, un, uc, nI b, nI 0) (⟨rfl, gw_Rep_c hrep rfl⟩) rfl hx hb hlt hown hts hT hno (by decide +kernel) rx_clA rx_itA rx_inA rx_bdA rx_gdA (by decide +kernel) hK hP hD hS (hl.1.trans hml.symm) dG_merge_18 dG_merge_21 dG_merge_22 dG_merge_24 dG_merge_27 (by rw [hR]; exact Nat.le_of_ble_eq_true rfl) (by rw [hR]; exact Nat.le_of_ble_eq_true rfl) (by rw [hR]; exact Nat.le_of_ble_eq_true rfl) (by rw [hR]; exact Nat.le_of_ble_eq_true rfl) hlk (Nat.le_of_ble_eq_true rfl) (Nat.le_of_ble_eq_true rfl)
set_option maxHeartbeats 4000000 in
set_option maxRecDepth 100000 in
theorem c_G_merge_n {l : Launch} {dC : Nat → ClassId} {dI : Nat → Nat → Nat} {ad fo fa ur : Nat → Nat} {cI cL cF cA : ClassId} {rec : Nat → Nat → Int64} {fp : Nat → Int32} {sp : Nat → Int32} {an : Nat → Int64} {nn : Nat → Int32} {pt : Nat → Int32} {un : Nat → Nat → Int32} {uc : Nat → Int32} {lc : Int32} (n b : Nat) (Rr : Nat → rg_R) (P1 P2 : Nat → Int32) (T : Nat → Nat) (U : Nat → List Nat) (j s9 : Nat) (hj4 : j < 4) (hs3 : s9 < 3) (ha : rg_An P1 P2 (T b) (T j)) (hrep : gw_Rep rec fp sp an (nI n) pt un uc (nI b) lc (n, Rr, P1, P2, T, U, b, lc)) : rg_M l yG_merge (Cond.code yG_merge prog_1_method_12_code 5 (some .int) :: rg_tbl) { frames := 4, cells := 0, slots := 0, locals := 96 } (dC, dI) rg_cl (gw_tys cI cL cF cA) (gw_W ad fo fa ur cI cL cF cA rec fp sp an nn (nI n) pt un uc (nI b) lc) [.ref ((ad 0)), .int (nI j), .int (nI s9)] (rg_QI (dC, dI) rg_cl (gw_tys cI cL cF cA) (S := gw_S) (gw_Po (0, 0, (n, Rr, P1, P2, T, U, b, 0))) (fun u => gw_Wu ad fo fa ur cI cL cF cA u)) 0 0 := by
  refine rg_of prog_1_method_12_code 5 (some .int) (by decide) rfl (Nat.le_of_ble_eq_true rfl) ?_
  intro p e R s m args below meth c Q A H locs ls hR hQ hx hb hml hr hts hown hlk hnm hP hK hD hA hS hl
  have hl : lv_has ls 5 [(0, .ref ((ad 0))), (1, .int (nI j)), (2, .int (nI s9))] := hl
  have hts : ∀ w ∈ rg_tbl, w.before args s = true := fun w h => hts w (List.mem_cons_of_mem _ h)
  have hok := hrep.1
  have hn1 : 1 ≤ n := hok.1
  have hn60 : n ≤ 60 := hok.2.1
  have hb4 : b < 4 := hok.2.2.2.2.2.2.2.1
  have hTb : T b < n := (hok.2.2.2.2.2.2.1 b hb4).1
  have hpt : pt b = nI (T b) := (hrep.2.2.2.2.2.2 b hb4).1
  have hyc : rg_CR (rec (T b)) (Rr (T b)) := hrep.2.2.2.2.1 (T b) hTb
  have hpj : pt j = nI (T j) := (hrep.2.2.2.2.2.2 j hj4).1
  have hTj : T j < n := (hok.2.2.2.2.2.2.1 j hj4).1
  have hzc : rg_CR (rec (T j)) (Rr (T j)) := hrep.2.2.2.2.1 (T j) hTj
  have haT : rg_has (an (T b)) (T j) = true ↔ rg_An P1 P2 (T b) (T j) := (hrep.2.2.2.2.2.1 (T b) hTb).2.2 (T j)
  have haJ : rg_has (an (T j)) (T b) = true ↔ rg_An P1 P2 (T j) (T b) := (hrep.2.2.2.2.2.1 (T j) hTj).2.2 (T b)
  refine lv_aload_n hx hb dG_merge_0 rfl (lv_at hl 0 rfl) ?_
  refine lv_iconst (v := nI 0) hx hb dG_merge_1 (by decide) ?_
  refine va_put (D := (dC, dI)) (ci := 1) (v := .int (nI 0)) (ty := .int) (C := "RevisionGrove") (T := TG) (N := 4) hx hb hts inG tyG tyG_ok nmG hown hK hP hD hS 0 rfl rfl 3 (by decide) (hts _ tw_89) (fun _ h9 => h9) rfl (by decide +kernel) rfl rfl (Nat.le_of_ble_eq_true rfl) dG_merge_2 (fun H locs hP hD hS => ?_)
  have hP : va_P (dC, dI) rg_cl (gw_W ad fo fa ur cI cL cF cA rec fp sp an nn (nI n) pt un uc (nI b) (nI 0)) H := hP
  have hD : va_D A (gw_W ad fo fa ur cI cL cF cA rec fp sp an nn (nI n) pt un uc (nI b) (nI 0)) := hD
  refine lv_iload_n hx hb dG_merge_5 rfl (lv_at hl 1 rfl) ?_
  refine rg_callv hD hS hA (va_runS (As := [.int (nI j)]) (rest := []) ⟨hx, hb, hml, hown, hts⟩ (c_G_requireBranch j (by omega) _) (va_cwS 1 hts (rg_gSx tw_372 tw_373 tw_1 tw_374) rfl rfl rfl (by decide +kernel) ⟨by rw [hR]; exact Nat.le_of_ble_eq_true rfl, by rw [hR]; exact Nat.le_of_ble_eq_true rfl⟩) (rg_preS rfl hK hP hD) rfl rfl hl.1 rfl (lv_room (Nat.le_of_ble_eq_true rfl)) dG_merge_6 ⟨Nat.zero_le _, Nat.zero_le _⟩) (fun u2 H locs hw3 hP hD hS => ?_)
  have hP : va_P (dC, dI) rg_cl (gw_W ad fo fa ur cI cL cF cA rec fp sp an nn (nI n) pt un uc (nI b) (nI 0)) H := hP
  have hD : va_D A (gw_W ad fo fa ur cI cL cF cA rec fp sp an nn (nI n) pt un uc (nI b) (nI 0)) := hD
  refine lv_iload_n hx hb dG_merge_9 rfl (lv_at hl 2 rfl) ?_
  refine rg_ifN_lt (tgt := 18) hx hb dG_merge_10 (by decide) (by omega) (fun h4 => h4.elim) (fun h4 => ?_)
  refine lv_iload_n hx hb dG_merge_13 rfl (lv_at hl 2 rfl) ?_
  refine lv_iconst (v := nI 2) hx hb dG_merge_14 (by decide) ?_
  refine rg_icmp_le (tgt := 28) hx hb dG_merge_15 (by decide) (by omega) (by omega) (fun h5 => ?_) (fun h5 => by exfalso; omega)
  refine lv_aload_n hx hb dG_merge_28 rfl (lv_at hl 0 rfl) ?_
  refine va_get (D := (dC, dI)) (ci := 1) (C := "RevisionGrove") (T := TG) (N := 4) hx hb hts inG hown hK hP 0 rfl rfl 1 (by decide) (hts _ tw_87) (fun _ h9 => h9) rfl dG_merge_29 ?_
  refine rg_calli hD hS hA (va_runV (As := []) (rest := []) ⟨hx, hb, hml, hown, hts⟩ (c_B_presentRevision b (by omega) _) (cwV 0 hts (rg_gV tw_235 tw_236 tw_237 tw_4 tw_238) rfl rfl rfl (by decide +kernel) ⟨by rw [hR]; exact Nat.le_of_ble_eq_true rfl, by rw [hR]; exact Nat.le_of_ble_eq_true rfl⟩) (rg_preV rfl hK hP hD (ci := 3) (q0 := 2) rfl rfl) rfl rfl hl.1 rfl (lv_room (Nat.le_of_ble_eq_true rfl)) dG_merge_32 ⟨Nat.zero_le _, Nat.zero_le _⟩) (fun r6 u7 H locs hw8 hP hD hS => ?_)
  subst hw8
  have hP : va_P (dC, dI) rg_cl (gw_W ad fo fa ur cI cL cF cA rec fp sp an nn (nI n) pt un uc (nI b) (nI 0)) H := hP
  have hD : va_D A (gw_W ad fo fa ur cI cL cF cA rec fp sp an nn (nI n) pt un uc (nI b) (nI 0)) := hD
  refine rg_top (show (.int (pt b) : Value) = .int (nI (T b)) by rw [hpt]) ?_
  refine lv_istore_n (lv' := [(3, .int (nI (T b))), (0, .ref ((ad 0))), (1, .int (nI j)), (2, .int (nI s9))]) hx hb dG_merge_35 rfl hl (by decide) rfl (fun ls hl => ?_)
  refine lv_aload_n hx hb dG_merge_36 rfl (lv_at hl 1 rfl) ?_
  refine va_get (D := (dC, dI)) (ci := 1) (C := "RevisionGrove") (T := TG) (N := 4) hx hb hts inG hown hK hP 0 rfl rfl 1 (by decide) (hts _ tw_87) (fun _ h9 => h9) rfl dG_merge_37 ?_
  refine lv_iload_n hx hb dG_merge_40 rfl (lv_at hl 2 rfl) ?_
  refine rg_calli hD hS hA (va_runV (As := [.int (nI j)]) (rest := []) ⟨hx, hb, hml, hown, hts⟩ (c_B_revisionOf j (by omega) _) (cwV 1 hts (rg_gV tw_464 tw_465 tw_466 tw_4 tw_467) rfl rfl rfl (by decide +kernel) ⟨by rw [hR]; exact Nat.le_of_ble_eq_true rfl, by rw [hR]; exact Nat.le_of_ble_eq_true rfl⟩) (rg_preV rfl hK hP hD (ci := 3) (q0 := 2) rfl rfl) rfl rfl hl.1 rfl (lv_room (Nat.le_of_ble_eq_true rfl)) dG_merge_41 ⟨Nat.zero_le _, Nat.zero_le _⟩) (fun r9 u10 H locs hw11 hP hD hS => ?_)
  subst hw11
  have hP : va_P (dC, dI) rg_cl (gw_W ad fo fa ur cI cL cF cA rec fp sp an nn (nI n) pt un uc (nI b) (nI 0)) H := hP
  have hD : va_D A (gw_W ad fo fa ur cI cL cF cA rec fp sp an nn (nI n) pt un uc (nI b) (nI 0)) := hD
  refine rg_top (show (.int (pt j) : Value) = .int (nI (T j)) by rw [hpj]) ?_
  refine lv_istore (lv' := [(4, .int (nI (T j))), (3, .int (nI (T b))), (0, .ref ((ad 0))), (1, .int (nI j)), (2, .int (nI s9))]) hx hb dG_merge_44 hl (by decide) rfl (fun ls hl => ?_)
  refine lv_aload_n hx hb dG_merge_46 rfl (lv_at hl 2 rfl) ?_
  refine va_get (D := (dC, dI)) (ci := 1) (C := "RevisionGrove") (T := TG) (N := 4) hx hb hts inG hown hK hP 0 rfl rfl 0 (by decide) (hts _ tw_86) (fun _ h9 => h9) rfl dG_merge_47 ?_
  refine lv_iload hx hb dG_merge_50 (lv_at hl 0 rfl) ?_
  refine lv_iload_n hx hb dG_merge_52 rfl (lv_at hl 1 rfl) ?_
  refine rg_calli hD hS hA (va_runV (As := [.int (nI (T j)), .int (nI (T b))]) (rest := []) ⟨hx, hb, hml, hown, hts⟩ (c_R_isAncestor (T j) (T b) (by omega) (by omega) _) (cwV 2 hts (rg_gV tw_468 tw_469 tw_470 tw_2 tw_471) rfl rfl rfl (by decide +kernel) ⟨by rw [hR]; exact Nat.le_of_ble_eq_true rfl, by rw [hR]; exact Nat.le_of_ble_eq_true rfl⟩) (rg_preV rfl hK hP hD (ci := 2) (q0 := 1) rfl rfl) rfl rfl hl.1 rfl (lv_room (Nat.le_of_ble_eq_true rfl)) dG_merge_53 ⟨Nat.zero_le _, Nat.zero_le _⟩) (fun r12 u13 H locs hw14 hP hD hS => ?_)
  subst hw14
  have hP : va_P (dC, dI) rg_cl (gw_W ad fo fa ur cI cL cF cA rec fp sp an nn (nI n) pt un uc (nI b) (nI 0)) H := hP
  have hD : va_D A (gw_W ad fo fa ur cI cL cF cA rec fp sp an nn (nI n) pt un uc (nI b) (nI 0)) := hD
  refine rg_ifz_eq (tgt := 61) hx hb dG_merge_56 (by decide) (fun h15 => absurd ((haT.mpr ha).symm.trans h15) (by decide)) (fun h15 => ?_)
  refine lv_iconst (v := nI 0) hx hb dG_merge_59 (by decide) ?_
  rw [hQ]
  exact rg_iret hx hb hr hlk hK hP hD hS dG_merge_60 (rec, fp, sp, an, nn, nI n, pt, un, uc, nI b, nI 0) rfl (⟨gw_Rep_c hrep rfl, rfl, rfl⟩)
set_option maxHeartbeats 4000000 in
set_option maxRecDepth 100000 in
theorem c_G_merge_f {l : Launch} {dC : Nat → ClassId} {dI : Nat → Nat → Nat} {ad fo fa ur : Nat → Nat} {cI cL cF cA : ClassId} {rec : Nat → Nat → Int64} {fp : Nat → Int32} {sp : Nat → Int32} {an : Nat → Int64} {nn : Nat → Int32} {pt : Nat → Int32} {un : Nat → Nat → Int32} {uc : Nat → Int32} {lc : Int32} (n b : Nat) (Rr : Nat → rg_R) (P1 P2 : Nat → Int32) (T : Nat → Nat) (U : Nat → List Nat) (j s9 : Nat) (hj4 : j < 4) (hs3 : s9 < 3) (hn : ¬ rg_An P1 P2 (T b) (T j)) (hm : rg_An P1 P2 (T j) (T b)) (hrep : gw_Rep rec fp sp an (nI n) pt un uc (nI b) lc (n, Rr, P1, P2, T, U, b, lc)) : rg_M l yG_merge (Cond.code yG_merge prog_1_method_12_code 5 (some .int) :: rg_tbl) { frames := 4, cells := 0, slots := 0, locals := 96 } (dC, dI) rg_cl (gw_tys cI cL cF cA) (gw_W ad fo fa ur cI cL cF cA rec fp sp an nn (nI n) pt un uc (nI b) lc) [.ref ((ad 0)), .int (nI j), .int (nI s9)] (rg_QI (dC, dI) rg_cl (gw_tys cI cL cF cA) (S := gw_S) (gw_Po (0, 1, rg_come (n, Rr, P1, P2, T, U, b, 0) (T j))) (fun u => gw_Wu ad fo fa ur cI cL cF cA u)) 0 0 := by
  refine rg_of prog_1_method_12_code 5 (some .int) (by decide) rfl (Nat.le_of_ble_eq_true rfl) ?_
  intro p e R s m args below meth c Q A H locs ls hR hQ hx hb hml hr hts hown hlk hnm hP hK hD hA hS hl
  have hl : lv_has ls 5 [(0, .ref ((ad 0))), (1, .int (nI j)), (2, .int (nI s9))] := hl
  have hts : ∀ w ∈ rg_tbl, w.before args s = true := fun w h => hts w (List.mem_cons_of_mem _ h)
  have hok := hrep.1
  have hn1 : 1 ≤ n := hok.1
  have hn60 : n ≤ 60 := hok.2.1
  have hb4 : b < 4 := hok.2.2.2.2.2.2.2.1
  have hTb : T b < n := (hok.2.2.2.2.2.2.1 b hb4).1
  have hpt : pt b = nI (T b) := (hrep.2.2.2.2.2.2 b hb4).1
  have hyc : rg_CR (rec (T b)) (Rr (T b)) := hrep.2.2.2.2.1 (T b) hTb
  have hpj : pt j = nI (T j) := (hrep.2.2.2.2.2.2 j hj4).1
  have hTj : T j < n := (hok.2.2.2.2.2.2.1 j hj4).1
  have hzc : rg_CR (rec (T j)) (Rr (T j)) := hrep.2.2.2.2.1 (T j) hTj
  have haT : rg_has (an (T b)) (T j) = true ↔ rg_An P1 P2 (T b) (T j) := (hrep.2.2.2.2.2.1 (T b) hTb).2.2 (T j)
  have haJ : rg_has (an (T j)) (T b) = true ↔ rg_An P1 P2 (T j) (T b) := (hrep.2.2.2.2.2.1 (T j) hTj).2.2 (T b)
  have hn1_ : rg_has (an (T b)) (T j) = false := by cases h9 : rg_has (an (T b)) (T j) with | false => rfl | true => exact absurd (haT.mp h9) hn
  refine lv_aload_n hx hb dG_merge_0 rfl (lv_at hl 0 rfl) ?_
  refine lv_iconst (v := nI 0) hx hb dG_merge_1 (by decide) ?_
  refine va_put (D := (dC, dI)) (ci := 1) (v := .int (nI 0)) (ty := .int) (C := "RevisionGrove") (T := TG) (N := 4) hx hb hts inG tyG tyG_ok nmG hown hK hP hD hS 0 rfl rfl 3 (by decide) (hts _ tw_89) (fun _ h9 => h9) rfl (by decide +kernel) rfl rfl (Nat.le_of_ble_eq_true rfl) dG_merge_2 (fun H locs hP hD hS => ?_)
  have hP : va_P (dC, dI) rg_cl (gw_W ad fo fa ur cI cL cF cA rec fp sp an nn (nI n) pt un uc (nI b) (nI 0)) H := hP
  have hD : va_D A (gw_W ad fo fa ur cI cL cF cA rec fp sp an nn (nI n) pt un uc (nI b) (nI 0)) := hD
  refine lv_iload_n hx hb dG_merge_5 rfl (lv_at hl 1 rfl) ?_
  refine rg_callv hD hS hA (va_runS (As := [.int (nI j)]) (rest := []) ⟨hx, hb, hml, hown, hts⟩ (c_G_requireBranch j (by omega) _) (va_cwS 1 hts (rg_gSx tw_372 tw_373 tw_1 tw_374) rfl rfl rfl (by decide +kernel) ⟨by rw [hR]; exact Nat.le_of_ble_eq_true rfl, by rw [hR]; exact Nat.le_of_ble_eq_true rfl⟩) (rg_preS rfl hK hP hD) rfl rfl hl.1 rfl (lv_room (Nat.le_of_ble_eq_true rfl)) dG_merge_6 ⟨Nat.zero_le _, Nat.zero_le _⟩) (fun u2 H locs hw3 hP hD hS => ?_)
  have hP : va_P (dC, dI) rg_cl (gw_W ad fo fa ur cI cL cF cA rec fp sp an nn (nI n) pt un uc (nI b) (nI 0)) H := hP
  have hD : va_D A (gw_W ad fo fa ur cI cL cF cA rec fp sp an nn (nI n) pt un uc (nI b) (nI 0)) := hD
  refine lv_iload_n hx hb dG_merge_9 rfl (lv_at hl 2 rfl) ?_
  refine rg_ifN_lt (tgt := 18) hx hb dG_merge_10 (by decide) (by omega) (fun h4 => h4.elim) (fun h4 => ?_)
  refine lv_iload_n hx hb dG_merge_13 rfl (lv_at hl 2 rfl) ?_
  refine lv_iconst (v := nI 2) hx hb dG_merge_14 (by decide) ?_
  refine rg_icmp_le (tgt := 28) hx hb dG_merge_15 (by decide) (by omega) (by omega) (fun h5 => ?_) (fun h5 => by exfalso; omega)
  refine lv_aload_n hx hb dG_merge_28 rfl (lv_at hl 0 rfl) ?_
  refine va_get (D := (dC, dI)) (ci := 1) (C := "RevisionGrove") (T := TG) (N := 4) hx hb hts inG hown hK hP 0 rfl rfl 1 (by decide) (hts _ tw_87) (fun _ h9 => h9) rfl dG_merge_29 ?_
  refine rg_calli hD hS hA (va_runV (As := []) (rest := []) ⟨hx, hb, hml, hown, hts⟩ (c_B_presentRevision b (by omega) _) (cwV 0 hts (rg_gV tw_235 tw_236 tw_237 tw_4 tw_238) rfl rfl rfl (by decide +kernel) ⟨by rw [hR]; exact Nat.le_of_ble_eq_true rfl, by rw [hR]; exact Nat.le_of_ble_eq_true rfl⟩) (rg_preV rfl hK hP hD (ci := 3) (q0 := 2) rfl rfl) rfl rfl hl.1 rfl (lv_room (Nat.le_of_ble_eq_true rfl)) dG_merge_32 ⟨Nat.zero_le _, Nat.zero_le _⟩) (fun r6 u7 H locs hw8 hP hD hS => ?_)
  subst hw8
  have hP : va_P (dC, dI) rg_cl (gw_W ad fo fa ur cI cL cF cA rec fp sp an nn (nI n) pt un uc (nI b) (nI 0)) H := hP
  have hD : va_D A (gw_W ad fo fa ur cI cL cF cA rec fp sp an nn (nI n) pt un uc (nI b) (nI 0)) := hD
  refine rg_top (show (.int (pt b) : Value) = .int (nI (T b)) by rw [hpt]) ?_
  refine lv_istore_n (lv' := [(3, .int (nI (T b))), (0, .ref ((ad 0))), (1, .int (nI j)), (2, .int (nI s9))]) hx hb dG_merge_35 rfl hl (by decide) rfl (fun ls hl => ?_)
  refine lv_aload_n hx hb dG_merge_36 rfl (lv_at hl 1 rfl) ?_
  refine va_get (D := (dC, dI)) (ci := 1) (C := "RevisionGrove") (T := TG) (N := 4) hx hb hts inG hown hK hP 0 rfl rfl 1 (by decide) (hts _ tw_87) (fun _ h9 => h9) rfl dG_merge_37 ?_
  refine lv_iload_n hx hb dG_merge_40 rfl (lv_at hl 2 rfl) ?_
  refine rg_calli hD hS hA (va_runV (As := [.int (nI j)]) (rest := []) ⟨hx, hb, hml, hown, hts⟩ (c_B_revisionOf j (by omega) _) (cwV 1 hts (rg_gV tw_464 tw_465 tw_466 tw_4 tw_467) rfl rfl rfl (by decide +kernel) ⟨by rw [hR]; exact Nat.le_of_ble_eq_true rfl, by rw [hR]; exact Nat.le_of_ble_eq_true rfl⟩) (rg_preV rfl hK hP hD (ci := 3) (q0 := 2) rfl rfl) rfl rfl hl.1 rfl (lv_room (Nat.le_of_ble_eq_true rfl)) dG_merge_41 ⟨Nat.zero_le _, Nat.zero_le _⟩) (fun r9 u10 H locs hw11 hP hD hS => ?_)
  subst hw11
  have hP : va_P (dC, dI) rg_cl (gw_W ad fo fa ur cI cL cF cA rec fp sp an nn (nI n) pt un uc (nI b) (nI 0)) H := hP
  have hD : va_D A (gw_W ad fo fa ur cI cL cF cA rec fp sp an nn (nI n) pt un uc (nI b) (nI 0)) := hD
  refine rg_top (show (.int (pt j) : Value) = .int (nI (T j)) by rw [hpj]) ?_
  refine lv_istore (lv' := [(4, .int (nI (T j))), (3, .int (nI (T b))), (0, .ref ((ad 0))), (1, .int (nI j)), (2, .int (nI s9))]) hx hb dG_merge_44 hl (by decide) rfl (fun ls hl => ?_)
  refine lv_aload_n hx hb dG_merge_46 rfl (lv_at hl 2 rfl) ?_
  refine va_get (D := (dC, dI)) (ci := 1) (C := "RevisionGrove") (T := TG) (N := 4) hx hb hts inG hown hK hP 0 rfl rfl 0 (by decide) (hts _ tw_86) (fun _ h9 => h9) rfl dG_merge_47 ?_
  refine lv_iload hx hb dG_merge_50 (lv_at hl 0 rfl) ?_
  refine lv_iload_n hx hb dG_merge_52 rfl (lv_at hl 1 rfl) ?_
  refine rg_calli hD hS hA (va_runV (As := [.int (nI (T j)), .int (nI (T b))]) (rest := []) ⟨hx, hb, hml, hown, hts⟩ (c_R_isAncestor (T j) (T b) (by omega) (by omega) _) (cwV 2 hts (rg_gV tw_468 tw_469 tw_470 tw_2 tw_471) rfl rfl rfl (by decide +kernel) ⟨by rw [hR]; exact Nat.le_of_ble_eq_true rfl, by rw [hR]; exact Nat.le_of_ble_eq_true rfl⟩) (rg_preV rfl hK hP hD (ci := 2) (q0 := 1) rfl rfl) rfl rfl hl.1 rfl (lv_room (Nat.le_of_ble_eq_true rfl)) dG_merge_53 ⟨Nat.zero_le _, Nat.zero_le _⟩) (fun r12 u13 H locs hw14 hP hD hS => ?_)
  subst hw14
  have hP : va_P (dC, dI) rg_cl (gw_W ad fo fa ur cI cL cF cA rec fp sp an nn (nI n) pt un uc (nI b) (nI 0)) H := hP
  have hD : va_D A (gw_W ad fo fa ur cI cL cF cA rec fp sp an nn (nI n) pt un uc (nI b) (nI 0)) := hD
  refine rg_ifz_eq (tgt := 61) hx hb dG_merge_56 (by decide) (fun h15 => ?_) (fun h15 => absurd (hn1_.symm.trans h15) (by decide))
  refine lv_aload_n hx hb dG_merge_61 rfl (lv_at hl 2 rfl) ?_
  refine va_get (D := (dC, dI)) (ci := 1) (C := "RevisionGrove") (T := TG) (N := 4) hx hb hts inG hown hK hP 0 rfl rfl 0 (by decide) (hts _ tw_86) (fun _ h9 => h9) rfl dG_merge_62 ?_
  refine lv_iload_n hx hb dG_merge_65 rfl (lv_at hl 1 rfl) ?_
  refine lv_iload hx hb dG_merge_66 (lv_at hl 0 rfl) ?_
  refine rg_calli hD hS hA (va_runV (As := [.int (nI (T b)), .int (nI (T j))]) (rest := []) ⟨hx, hb, hml, hown, hts⟩ (c_R_isAncestor (T b) (T j) (by omega) (by omega) _) (cwV 2 hts (rg_gV tw_468 tw_469 tw_470 tw_2 tw_471) rfl rfl rfl (by decide +kernel) ⟨by rw [hR]; exact Nat.le_of_ble_eq_true rfl, by rw [hR]; exact Nat.le_of_ble_eq_true rfl⟩) (rg_preV rfl hK hP hD (ci := 2) (q0 := 1) rfl rfl) rfl rfl hl.1 rfl (lv_room (Nat.le_of_ble_eq_true rfl)) dG_merge_68 ⟨Nat.zero_le _, Nat.zero_le _⟩) (fun r16 u17 H locs hw18 hP hD hS => ?_)
  subst hw18
  have hP : va_P (dC, dI) rg_cl (gw_W ad fo fa ur cI cL cF cA rec fp sp an nn (nI n) pt un uc (nI b) (nI 0)) H := hP
  have hD : va_D A (gw_W ad fo fa ur cI cL cF cA rec fp sp an nn (nI n) pt un uc (nI b) (nI 0)) := hD
  refine rg_ifz_eq (tgt := 85) hx hb dG_merge_71 (by decide) (fun h19 => absurd ((haJ.mpr hm).symm.trans h19) (by decide)) (fun h19 => ?_)
  refine lv_aload_n hx hb dG_merge_74 rfl (lv_at hl 2 rfl) ?_
  refine va_get (D := (dC, dI)) (ci := 1) (C := "RevisionGrove") (T := TG) (N := 4) hx hb hts inG hown hK hP 0 rfl rfl 1 (by decide) (hts _ tw_87) (fun _ h9 => h9) rfl dG_merge_75 ?_
  refine lv_iload hx hb dG_merge_78 (lv_at hl 0 rfl) ?_
  refine rg_callv hD hS hA (va_runV (As := [.int (nI (T j))]) (rest := []) ⟨hx, hb, hml, hown, hts⟩ (c_B_come b (by omega) (nI (T j)) _) (cwV 1 hts (rg_gV tw_287 tw_288 tw_289 tw_4 tw_290) rfl rfl rfl (by decide +kernel) ⟨by rw [hR]; exact Nat.le_of_ble_eq_true rfl, by rw [hR]; exact Nat.le_of_ble_eq_true rfl⟩) (rg_preV rfl hK hP hD (ci := 3) (q0 := 2) rfl rfl) rfl rfl hl.1 rfl (lv_room (Nat.le_of_ble_eq_true rfl)) dG_merge_80 ⟨Nat.zero_le _, Nat.zero_le _⟩) (fun u21 H locs hw22 hP hD hS => ?_)
  have hP : va_P (dC, dI) rg_cl (gw_W ad fo fa ur cI cL cF cA rec fp sp an nn (nI n) (upd pt b (nI (T j))) un (upd uc b (nI 0)) (nI b) (nI 0)) H := hP
  have hD : va_D A (gw_W ad fo fa ur cI cL cF cA rec fp sp an nn (nI n) (upd pt b (nI (T j))) un (upd uc b (nI 0)) (nI b) (nI 0)) := hD
  refine lv_iconst (v := nI 1) hx hb dG_merge_83 (by decide) ?_
  rw [hQ]
  exact rg_iret hx hb hr hlk hK hP hD hS dG_merge_84 (rec, fp, sp, an, nn, nI n, upd pt b (nI (T j)), un, upd uc b (nI 0), nI b, nI 0) rfl (⟨gw_Rep_come (g := (n, Rr, P1, P2, T, U, b, 0)) (gw_Rep_c hrep rfl) hTj, rfl, rfl⟩)
set_option maxHeartbeats 4000000 in
set_option maxRecDepth 100000 in
theorem c_G_merge_j {l : Launch} {dC : Nat → ClassId} {dI : Nat → Nat → Nat} {ad fo fa ur : Nat → Nat} {cI cL cF cA : ClassId} {rec : Nat → Nat → Int64} {fp : Nat → Int32} {sp : Nat → Int32} {an : Nat → Int64} {nn : Nat → Int32} {pt : Nat → Int32} {un : Nat → Nat → Int32} {uc : Nat → Int32} {lc : Int32} (n b : Nat) (Rr : Nat → rg_R) (P1 P2 : Nat → Int32) (T : Nat → Nat) (U : Nat → List Nat) (j s9 : Nat) (hj4 : j < 4) (hs3 : s9 < 3) (hn : ¬ rg_An P1 P2 (T b) (T j)) (hm : ¬ rg_An P1 P2 (T j) (T b)) (hn6 : n < 60) (hc9 : ¬ (rg_mc (Rr (rg_base P1 P2 (T b) (T j))) (Rr (T b)) (Rr (T j)) 2 ≠ 0 ∧ s9 = 0)) (hrep : gw_Rep rec fp sp an (nI n) pt un uc (nI b) lc (n, Rr, P1, P2, T, U, b, lc)) : rx_M l yG_merge (Cond.code yG_merge prog_1_method_12_code 5 (some .int) :: rg_tbl) { frames := 7, cells := 16, slots := 64, locals := 159 } (dC, dI) rg_cl (gw_tys cI cL cF cA) (gw_W ad fo fa ur cI cL cF cA rec fp sp an nn (nI n) pt un uc (nI b) lc) [.ref ((ad 0)), .int (nI j), .int (nI s9)] (rg_QI (dC, dI) rg_cl (gw_tys cI cL cF cA) (S := gw_S) (gw_Po (0, 2, rg_new (n, Rr, P1, P2, T, U, b, rg_mc (Rr (rg_base P1 P2 (T b) (T j))) (Rr (T b)) (Rr (T j)) 2) (rg_mg (Rr (rg_base P1 P2 (T b) (T j))) (Rr (T b)) (Rr (T j)) s9) (nI (T j)))) (fun u => gw_Wu ad fo fa ur cI cL cF cA u)) (rx_X (dC, dI) rg_cl (gw_tys cI cL cF cA) (S := Unit) (fun _ _ => False) (fun _ => gw_W ad fo fa ur cI cL cF cA rec fp sp an nn (nI n) pt un uc (nI b) lc)) 16 64 := by
  refine rx_of prog_1_method_12_code 5 (some .int) (by decide) rfl (Nat.le_of_ble_eq_true rfl) ?_
  intro p e R s m args below meth c Q A H locs ls hR hQ hx hb hml hr hts hown hlk hnm hno hT hP hK hD hA hS hl
  have hl : lv_has ls 5 [(0, .ref ((ad 0))), (1, .int (nI j)), (2, .int (nI s9))] := hl
  have hts : ∀ w ∈ rg_tbl, w.before args s = true := fun w h => hts w (List.mem_cons_of_mem _ h)
  have hok := hrep.1
  have hn1 : 1 ≤ n := hok.1
  have hn60 : n ≤ 60 := hok.2.1
  have hb4 : b < 4 := hok.2.2.2.2.2.2.2.1
  have hTb : T b < n := (hok.2.2.2.2.2.2.1 b hb4).1
  have hpt : pt b = nI (T b) := (hrep.2.2.2.2.2.2 b hb4).1
  have hyc : rg_CR (rec (T b)) (Rr (T b)) := hrep.2.2.2.2.1 (T b) hTb
  have hpj : pt j = nI (T j) := (hrep.2.2.2.2.2.2 j hj4).1
  have hTj : T j < n := (hok.2.2.2.2.2.2.1 j hj4).1
  have hzc : rg_CR (rec (T j)) (Rr (T j)) := hrep.2.2.2.2.1 (T j) hTj
  have haT : rg_has (an (T b)) (T j) = true ↔ rg_An P1 P2 (T b) (T j) := (hrep.2.2.2.2.2.1 (T b) hTb).2.2 (T j)
  have haJ : rg_has (an (T j)) (T b) = true ↔ rg_An P1 P2 (T j) (T b) := (hrep.2.2.2.2.2.1 (T j) hTj).2.2 (T b)
  have hn1_ : rg_has (an (T b)) (T j) = false := by cases h9 : rg_has (an (T b)) (T j) with | false => rfl | true => exact absurd (haT.mp h9) hn
  have hn2_ : rg_has (an (T j)) (T b) = false := by cases h9 : rg_has (an (T j)) (T b) with | false => rfl | true => exact absurd (haJ.mp h9) hm
  refine lv_aload_n hx hb dG_merge_0 rfl (lv_at hl 0 rfl) ?_
  refine lv_iconst (v := nI 0) hx hb dG_merge_1 (by decide) ?_
  refine va_put (D := (dC, dI)) (ci := 1) (v := .int (nI 0)) (ty := .int) (C := "RevisionGrove") (T := TG) (N := 4) hx hb hts inG tyG tyG_ok nmG hown hK hP hD hS 0 rfl rfl 3 (by decide) (hts _ tw_89) (fun _ h9 => h9) rfl (by decide +kernel) rfl rfl (Nat.le_of_ble_eq_true rfl) dG_merge_2 (fun H locs hP hD hS => ?_)
  have hP : va_P (dC, dI) rg_cl (gw_W ad fo fa ur cI cL cF cA rec fp sp an nn (nI n) pt un uc (nI b) (nI 0)) H := hP
  have hD : va_D A (gw_W ad fo fa ur cI cL cF cA rec fp sp an nn (nI n) pt un uc (nI b) (nI 0)) := hD
  refine lv_iload_n hx hb dG_merge_5 rfl (lv_at hl 1 rfl) ?_
  refine rg_callv hD hS hA (va_runS (As := [.int (nI j)]) (rest := []) ⟨hx, hb, hml, hown, hts⟩ (c_G_requireBranch j (by omega) _) (va_cwS 1 hts (rg_gSx tw_372 tw_373 tw_1 tw_374) rfl rfl rfl (by decide +kernel) ⟨by rw [hR]; exact Nat.le_of_ble_eq_true rfl, by rw [hR]; exact Nat.le_of_ble_eq_true rfl⟩) (rg_preS rfl hK hP hD) rfl rfl hl.1 rfl (lv_room (Nat.le_of_ble_eq_true rfl)) dG_merge_6 ⟨Nat.zero_le _, Nat.zero_le _⟩) (fun u2 H locs hw3 hP hD hS => ?_)
  have hP : va_P (dC, dI) rg_cl (gw_W ad fo fa ur cI cL cF cA rec fp sp an nn (nI n) pt un uc (nI b) (nI 0)) H := hP
  have hD : va_D A (gw_W ad fo fa ur cI cL cF cA rec fp sp an nn (nI n) pt un uc (nI b) (nI 0)) := hD
  refine lv_iload_n hx hb dG_merge_9 rfl (lv_at hl 2 rfl) ?_
  refine rg_ifN_lt (tgt := 18) hx hb dG_merge_10 (by decide) (by omega) (fun h4 => h4.elim) (fun h4 => ?_)
  refine lv_iload_n hx hb dG_merge_13 rfl (lv_at hl 2 rfl) ?_
  refine lv_iconst (v := nI 2) hx hb dG_merge_14 (by decide) ?_
  refine rg_icmp_le (tgt := 28) hx hb dG_merge_15 (by decide) (by omega) (by omega) (fun h5 => ?_) (fun h5 => by exfalso; omega)
  refine lv_aload_n hx hb dG_merge_28 rfl (lv_at hl 0 rfl) ?_
  refine va_get (D := (dC, dI)) (ci := 1) (C := "RevisionGrove") (T := TG) (N := 4) hx hb hts inG hown hK hP 0 rfl rfl 1 (by decide) (hts _ tw_87) (fun _ h9 => h9) rfl dG_merge_29 ?_
  refine rg_calli hD hS hA (va_runV (As := []) (rest := []) ⟨hx, hb, hml, hown, hts⟩ (c_B_presentRevision b (by omega) _) (cwV 0 hts (rg_gV tw_235 tw_236 tw_237 tw_4 tw_238) rfl rfl rfl (by decide +kernel) ⟨by rw [hR]; exact Nat.le_of_ble_eq_true rfl, by rw [hR]; exact Nat.le_of_ble_eq_true rfl⟩) (rg_preV rfl hK hP hD (ci := 3) (q0 := 2) rfl rfl) rfl rfl hl.1 rfl (lv_room (Nat.le_of_ble_eq_true rfl)) dG_merge_32 ⟨Nat.zero_le _, Nat.zero_le _⟩) (fun r6 u7 H locs hw8 hP hD hS => ?_)
  subst hw8
  have hP : va_P (dC, dI) rg_cl (gw_W ad fo fa ur cI cL cF cA rec fp sp an nn (nI n) pt un uc (nI b) (nI 0)) H := hP
  have hD : va_D A (gw_W ad fo fa ur cI cL cF cA rec fp sp an nn (nI n) pt un uc (nI b) (nI 0)) := hD
  refine rg_top (show (.int (pt b) : Value) = .int (nI (T b)) by rw [hpt]) ?_
  refine lv_istore_n (lv' := [(3, .int (nI (T b))), (0, .ref ((ad 0))), (1, .int (nI j)), (2, .int (nI s9))]) hx hb dG_merge_35 rfl hl (by decide) rfl (fun ls hl => ?_)
  refine lv_aload_n hx hb dG_merge_36 rfl (lv_at hl 1 rfl) ?_
  refine va_get (D := (dC, dI)) (ci := 1) (C := "RevisionGrove") (T := TG) (N := 4) hx hb hts inG hown hK hP 0 rfl rfl 1 (by decide) (hts _ tw_87) (fun _ h9 => h9) rfl dG_merge_37 ?_
  refine lv_iload_n hx hb dG_merge_40 rfl (lv_at hl 2 rfl) ?_
  refine rg_calli hD hS hA (va_runV (As := [.int (nI j)]) (rest := []) ⟨hx, hb, hml, hown, hts⟩ (c_B_revisionOf j (by omega) _) (cwV 1 hts (rg_gV tw_464 tw_465 tw_466 tw_4 tw_467) rfl rfl rfl (by decide +kernel) ⟨by rw [hR]; exact Nat.le_of_ble_eq_true rfl, by rw [hR]; exact Nat.le_of_ble_eq_true rfl⟩) (rg_preV rfl hK hP hD (ci := 3) (q0 := 2) rfl rfl) rfl rfl hl.1 rfl (lv_room (Nat.le_of_ble_eq_true rfl)) dG_merge_41 ⟨Nat.zero_le _, Nat.zero_le _⟩) (fun r9 u10 H locs hw11 hP hD hS => ?_)
  subst hw11
  have hP : va_P (dC, dI) rg_cl (gw_W ad fo fa ur cI cL cF cA rec fp sp an nn (nI n) pt un uc (nI b) (nI 0)) H := hP
  have hD : va_D A (gw_W ad fo fa ur cI cL cF cA rec fp sp an nn (nI n) pt un uc (nI b) (nI 0)) := hD
  refine rg_top (show (.int (pt j) : Value) = .int (nI (T j)) by rw [hpj]) ?_
  refine lv_istore (lv' := [(4, .int (nI (T j))), (3, .int (nI (T b))), (0, .ref ((ad 0))), (1, .int (nI j)), (2, .int (nI s9))]) hx hb dG_merge_44 hl (by decide) rfl (fun ls hl => ?_)
  refine lv_aload_n hx hb dG_merge_46 rfl (lv_at hl 2 rfl) ?_
  refine va_get (D := (dC, dI)) (ci := 1) (C := "RevisionGrove") (T := TG) (N := 4) hx hb hts inG hown hK hP 0 rfl rfl 0 (by decide) (hts _ tw_86) (fun _ h9 => h9) rfl dG_merge_47 ?_
  refine lv_iload hx hb dG_merge_50 (lv_at hl 0 rfl) ?_
  refine lv_iload_n hx hb dG_merge_52 rfl (lv_at hl 1 rfl) ?_
  refine rg_calli hD hS hA (va_runV (As := [.int (nI (T j)), .int (nI (T b))]) (rest := []) ⟨hx, hb, hml, hown, hts⟩ (c_R_isAncestor (T j) (T b) (by omega) (by omega) _) (cwV 2 hts (rg_gV tw_468 tw_469 tw_470 tw_2 tw_471) rfl rfl rfl (by decide +kernel) ⟨by rw [hR]; exact Nat.le_of_ble_eq_true rfl, by rw [hR]; exact Nat.le_of_ble_eq_true rfl⟩) (rg_preV rfl hK hP hD (ci := 2) (q0 := 1) rfl rfl) rfl rfl hl.1 rfl (lv_room (Nat.le_of_ble_eq_true rfl)) dG_merge_53 ⟨Nat.zero_le _, Nat.zero_le _⟩) (fun r12 u13 H locs hw14 hP hD hS => ?_)
  subst hw14
  have hP : va_P (dC, dI) rg_cl (gw_W ad fo fa ur cI cL cF cA rec fp sp an nn (nI n) pt un uc (nI b) (nI 0)) H := hP
  have hD : va_D A (gw_W ad fo fa ur cI cL cF cA rec fp sp an nn (nI n) pt un uc (nI b) (nI 0)) := hD
  refine rg_ifz_eq (tgt := 61) hx hb dG_merge_56 (by decide) (fun h15 => ?_) (fun h15 => absurd (hn1_.symm.trans h15) (by decide))
  refine lv_aload_n hx hb dG_merge_61 rfl (lv_at hl 2 rfl) ?_
  refine va_get (D := (dC, dI)) (ci := 1) (C := "RevisionGrove") (T := TG) (N := 4) hx hb hts inG hown hK hP 0 rfl rfl 0 (by decide) (hts _ tw_86) (fun _ h9 => h9) rfl dG_merge_62 ?_
  refine lv_iload_n hx hb dG_merge_65 rfl (lv_at hl 1 rfl) ?_
  refine lv_iload hx hb dG_merge_66 (lv_at hl 0 rfl) ?_
  refine rg_calli hD hS hA (va_runV (As := [.int (nI (T b)), .int (nI (T j))]) (rest := []) ⟨hx, hb, hml, hown, hts⟩ (c_R_isAncestor (T b) (T j) (by omega) (by omega) _) (cwV 2 hts (rg_gV tw_468 tw_469 tw_470 tw_2 tw_471) rfl rfl rfl (by decide +kernel) ⟨by rw [hR]; exact Nat.le_of_ble_eq_true rfl, by rw [hR]; exact Nat.le_of_ble_eq_true rfl⟩) (rg_preV rfl hK hP hD (ci := 2) (q0 := 1) rfl rfl) rfl rfl hl.1 rfl (lv_room (Nat.le_of_ble_eq_true rfl)) dG_merge_68 ⟨Nat.zero_le _, Nat.zero_le _⟩) (fun r16 u17 H locs hw18 hP hD hS => ?_)
  subst hw18
  have hP : va_P (dC, dI) rg_cl (gw_W ad fo fa ur cI cL cF cA rec fp sp an nn (nI n) pt un uc (nI b) (nI 0)) H := hP
  have hD : va_D A (gw_W ad fo fa ur cI cL cF cA rec fp sp an nn (nI n) pt un uc (nI b) (nI 0)) := hD
  refine rg_ifz_eq (tgt := 85) hx hb dG_merge_71 (by decide) (fun h19 => ?_) (fun h19 => absurd (hn2_.symm.trans h19) (by decide))
  refine lv_aload_n hx hb dG_merge_85 rfl (lv_at hl 2 rfl) ?_
  refine lv_aload_n hx hb dG_merge_86 rfl (lv_at hl 2 rfl) ?_
  refine lv_iload_n hx hb dG_merge_87 rfl (lv_at hl 1 rfl) ?_
  refine lv_iload hx hb dG_merge_88 (lv_at hl 0 rfl) ?_
  refine lv_iload_n hx hb dG_merge_90 rfl (lv_at hl 4 rfl) ?_
  refine rx_calli hQ (fun _ _ h9 => h9.elim) hno hlk hD hS hA (Nat.le_of_ble_eq_true rfl) (Nat.le_of_ble_eq_true rfl) (vx_runV (As := [.int (nI (T b)), .int (nI (T j)), .int (nI s9)]) (rest := [.ref ((ad 0))]) ⟨hx, hb, hml, hown, hts⟩ (c_G_draftJoined n b Rr P1 P2 T U j s9 hj4 hs3 (gw_Rep_c (lc' := nI 0) (c' := nI 0) hrep rfl) _) (cwV 3 hts (rg_gV tw_472 tw_474 ts_G_draftJoined tw_1 tw_475) rfl rfl rfl (by decide +kernel) ⟨(by rw [hR]; exact Nat.le_of_ble_eq_true rfl), (by rw [hR]; exact Nat.le_of_ble_eq_true rfl)⟩) (rx_preV rfl hT hS hA hK hP hD (ci := 1) (q0 := 0) rfl rfl) rfl rfl hl.1 rfl (lv_room (Nat.le_of_ble_eq_true rfl)) dG_merge_91 ⟨(by rw [hR]; exact Nat.le_of_ble_eq_true rfl), (by rw [hR]; exact Nat.le_of_ble_eq_true rfl)⟩) (fun r9 u9 H locs hw9 hP hD hS => ?_)
  obtain ⟨hz9, hu9⟩ := hw9
  subst hz9
  have hP : va_P (dC, dI) rg_cl (gw_W ad fo fa ur cI cL cF cA (va_up rec 60 u9) fp sp an nn (nI n) pt un uc (nI b) (nI 0)) H := hP
  have hD : va_D A (gw_W ad fo fa ur cI cL cF cA (va_up rec 60 u9) fp sp an nn (nI n) pt un uc (nI b) (nI 0)) := hD
  refine va_put (D := (dC, dI)) (ci := 1) (v := .int (rg_mc (Rr (rg_base P1 P2 (T b) (T j))) (Rr (T b)) (Rr (T j)) 2)) (ty := .int) (C := "RevisionGrove") (T := TG) (N := 4) hx hb hts inG tyG tyG_ok nmG hown hK hP hD hS 0 rfl rfl 3 (by decide) (hts _ tw_89) (fun _ h9 => h9) rfl (by decide +kernel) rfl rfl (Nat.le_of_ble_eq_true rfl) dG_merge_94 (fun H locs hP hD hS => ?_)
  have hP : va_P (dC, dI) rg_cl (gw_W ad fo fa ur cI cL cF cA (va_up rec 60 u9) fp sp an nn (nI n) pt un uc (nI b) (rg_mc (Rr (rg_base P1 P2 (T b) (T j))) (Rr (T b)) (Rr (T j)) 2)) H := hP
  have hD : va_D A (gw_W ad fo fa ur cI cL cF cA (va_up rec 60 u9) fp sp an nn (nI n) pt un uc (nI b) (rg_mc (Rr (rg_base P1 P2 (T b) (T j))) (Rr (T b)) (Rr (T j)) 2)) := hD
  refine lv_aload_n hx hb dG_merge_97 rfl (lv_at hl 2 rfl) ?_
  refine va_get (D := (dC, dI)) (ci := 1) (C := "RevisionGrove") (T := TG) (N := 4) hx hb hts inG hown hK hP 0 rfl rfl 3 (by decide) (hts _ tw_89) (fun _ h9 => h9) rfl dG_merge_98 ?_
  refine lv_if_eq (tgt := 118) hx hb dG_merge_101 (by decide) (fun h20 => ?_) (fun h20 => ?_)
  · refine lv_aload_n hx hb dG_merge_118 rfl (lv_at hl 2 rfl) ?_
    refine lv_iload hx hb dG_merge_119 (lv_at hl 0 rfl) ?_
    refine rg_callv hD hS hA (va_runV (As := [.int (nI (T j))]) (rest := []) ⟨hx, hb, hml, hown, hts⟩ (c_G_comeToDraft n b (T b) (by omega) (by omega) (by omega) hpt (nI (T j)) (Or.inr ⟨T j, by omega, rfl⟩) _) (cwV 1 hts (rg_gV tw_263 tw_265 ts_G_comeToDraft tw_1 tw_266) rfl rfl rfl (by decide +kernel) ⟨by rw [hR]; exact Nat.le_of_ble_eq_true rfl, by rw [hR]; exact Nat.le_of_ble_eq_true rfl⟩) (rg_preV rfl hK hP hD (ci := 1) (q0 := 0) rfl rfl) rfl rfl hl.1 rfl (lv_room (Nat.le_of_ble_eq_true rfl)) dG_merge_121 ⟨(by rw [hR]; exact Nat.le_of_ble_eq_true rfl), (by rw [hR]; exact Nat.le_of_ble_eq_true rfl)⟩) (fun u22 H locs hw23 hP hD hS => ?_)
    have hP : va_P (dC, dI) rg_cl (gw_W ad fo fa ur cI cL cF cA (va_up (va_up rec 60 u9) n (va_cpy ((va_up rec 60 u9) 60) ((va_up rec 60 u9) n) 0 0 24)) (upd fp n (nI (T b))) (upd sp n (nI (T j))) (vp_updL an n ((((1 : Int64) <<< ((nI n).toInt64 &&& 63)) ||| (rg_ax an (nI (T b)))) ||| (rg_ax an (nI (T j))))) nn (nI (n + 1)) (upd pt b (nI n)) un (upd uc b (nI 0)) (nI b) (rg_mc (Rr (rg_base P1 P2 (T b) (T j))) (Rr (T b)) (Rr (T j)) 2)) H := hP
    have hD : va_D A (gw_W ad fo fa ur cI cL cF cA (va_up (va_up rec 60 u9) n (va_cpy ((va_up rec 60 u9) 60) ((va_up rec 60 u9) n) 0 0 24)) (upd fp n (nI (T b))) (upd sp n (nI (T j))) (vp_updL an n ((((1 : Int64) <<< ((nI n).toInt64 &&& 63)) ||| (rg_ax an (nI (T b)))) ||| (rg_ax an (nI (T j))))) nn (nI (n + 1)) (upd pt b (nI n)) un (upd uc b (nI 0)) (nI b) (rg_mc (Rr (rg_base P1 P2 (T b) (T j))) (Rr (T b)) (Rr (T j)) 2)) := hD
    refine lv_iconst (v := nI 2) hx hb dG_merge_124 (by decide) ?_
    rw [hQ]
    exact rx_ret (by first | exact Nat.zero_le _ | omega) (by first | exact Nat.zero_le _ | omega) (rg_iret hx hb hr hlk hK hP hD hS dG_merge_125 (va_up (va_up rec 60 u9) n (va_cpy ((va_up rec 60 u9) 60) ((va_up rec 60 u9) n) 0 0 24), upd fp n (nI (T b)), upd sp n (nI (T j)), vp_updL an n ((((1 : Int64) <<< ((nI n).toInt64 &&& 63)) ||| (rg_ax an (nI (T b)))) ||| (rg_ax an (nI (T j)))), nn, nI (n + 1), upd pt b (nI n), un, upd uc b (nI 0), nI b, rg_mc (Rr (rg_base P1 P2 (T b) (T j))) (Rr (T b)) (Rr (T j)) 2) rfl (⟨gw_Rep_new (g := (n, Rr, P1, P2, T, U, b, rg_mc (Rr (rg_base P1 P2 (T b) (T j))) (Rr (T b)) (Rr (T j)) 2)) (X := rg_mg (Rr (rg_base P1 P2 (T b) (T j))) (Rr (T b)) (Rr (T j)) s9) (gw_Rep_c (gw_Rep_rec hrep (rec' := va_up rec 60 u9) (fun r hr => rg_upn _ _ (by have h9 : r < n := hr; omega))) rfl) (by rw [rg_ups]; exact hu9) hn6 (Or.inr ⟨T j, hTj, rfl⟩), rfl, rfl⟩))
  · refine lv_iload_n hx hb dG_merge_104 rfl (lv_at hl 4 rfl) ?_
    refine rg_ifN_ne (tgt := 118) hx hb dG_merge_105 (by decide) (by omega) (fun h24 => ?_) (fun h24 => absurd ⟨h20, by omega⟩ hc9)
    refine lv_aload_n hx hb dG_merge_118 rfl (lv_at hl 2 rfl) ?_
    refine lv_iload hx hb dG_merge_119 (lv_at hl 0 rfl) ?_
    refine rg_callv hD hS hA (va_runV (As := [.int (nI (T j))]) (rest := []) ⟨hx, hb, hml, hown, hts⟩ (c_G_comeToDraft n b (T b) (by omega) (by omega) (by omega) hpt (nI (T j)) (Or.inr ⟨T j, by omega, rfl⟩) _) (cwV 1 hts (rg_gV tw_263 tw_265 ts_G_comeToDraft tw_1 tw_266) rfl rfl rfl (by decide +kernel) ⟨by rw [hR]; exact Nat.le_of_ble_eq_true rfl, by rw [hR]; exact Nat.le_of_ble_eq_true rfl⟩) (rg_preV rfl hK hP hD (ci := 1) (q0 := 0) rfl rfl) rfl rfl hl.1 rfl (lv_room (Nat.le_of_ble_eq_true rfl)) dG_merge_121 ⟨(by rw [hR]; exact Nat.le_of_ble_eq_true rfl), (by rw [hR]; exact Nat.le_of_ble_eq_true rfl)⟩) (fun u26 H locs hw27 hP hD hS => ?_)
    have hP : va_P (dC, dI) rg_cl (gw_W ad fo fa ur cI cL cF cA (va_up (va_up rec 60 u9) n (va_cpy ((va_up rec 60 u9) 60) ((va_up rec 60 u9) n) 0 0 24)) (upd fp n (nI (T b))) (upd sp n (nI (T j))) (vp_updL an n ((((1 : Int64) <<< ((nI n).toInt64 &&& 63)) ||| (rg_ax an (nI (T b)))) ||| (rg_ax an (nI (T j))))) nn (nI (n + 1)) (upd pt b (nI n)) un (upd uc b (nI 0)) (nI b) (rg_mc (Rr (rg_base P1 P2 (T b) (T j))) (Rr (T b)) (Rr (T j)) 2)) H := hP
    have hD : va_D A (gw_W ad fo fa ur cI cL cF cA (va_up (va_up rec 60 u9) n (va_cpy ((va_up rec 60 u9) 60) ((va_up rec 60 u9) n) 0 0 24)) (upd fp n (nI (T b))) (upd sp n (nI (T j))) (vp_updL an n ((((1 : Int64) <<< ((nI n).toInt64 &&& 63)) ||| (rg_ax an (nI (T b)))) ||| (rg_ax an (nI (T j))))) nn (nI (n + 1)) (upd pt b (nI n)) un (upd uc b (nI 0)) (nI b) (rg_mc (Rr (rg_base P1 P2 (T b) (T j))) (Rr (T b)) (Rr (T j)) 2)) := hD
    refine lv_iconst (v := nI 2) hx hb dG_merge_124 (by decide) ?_
    rw [hQ]
    exact rx_ret (by first | exact Nat.zero_le _ | omega) (by first | exact Nat.zero_le _ | omega) (rg_iret hx hb hr hlk hK hP hD hS dG_merge_125 (va_up (va_up rec 60 u9) n (va_cpy ((va_up rec 60 u9) 60) ((va_up rec 60 u9) n) 0 0 24), upd fp n (nI (T b)), upd sp n (nI (T j)), vp_updL an n ((((1 : Int64) <<< ((nI n).toInt64 &&& 63)) ||| (rg_ax an (nI (T b)))) ||| (rg_ax an (nI (T j)))), nn, nI (n + 1), upd pt b (nI n), un, upd uc b (nI 0), nI b, rg_mc (Rr (rg_base P1 P2 (T b) (T j))) (Rr (T b)) (Rr (T j)) 2) rfl (⟨gw_Rep_new (g := (n, Rr, P1, P2, T, U, b, rg_mc (Rr (rg_base P1 P2 (T b) (T j))) (Rr (T b)) (Rr (T j)) 2)) (X := rg_mg (Rr (rg_base P1 P2 (T b) (T j))) (Rr (T b)) (Rr (T j)) s9) (gw_Rep_c (gw_Rep_rec hrep (rec' := va_up rec 60 u9) (fun r hr => rg_upn _ _ (by have h9 : r < n := hr; omega))) rfl) (by rw [rg_ups]; exact hu9) hn6 (Or.inr ⟨T j, hTj, rfl⟩), rfl, rfl⟩))
set_option maxHeartbeats 4000000 in
set_option maxRecDepth 100000 in
theorem c_G_merge_xc {l : Launch} {dC : Nat → ClassId} {dI : Nat → Nat → Nat} {ad fo fa ur : Nat → Nat} {cI cL cF cA : ClassId} {rec : Nat → Nat → Int64} {fp : Nat → Int32} {sp : Nat → Int32} {an : Nat → Int64} {nn : Nat → Int32} {pt : Nat → Int32} {un : Nat → Nat → Int32} {uc : Nat → Int32} {lc : Int32} (hlt : l.stackTraces = false) (n b : Nat) (Rr : Nat → rg_R) (P1 P2 : Nat → Int32) (T : Nat → Nat) (U : Nat → List Nat) (j s9 : Nat) (hj4 : j < 4) (hs3 : s9 < 3) (hn : ¬ rg_An P1 P2 (T b) (T j)) (hm : ¬ rg_An P1 P2 (T j) (T b)) (hc9 : rg_mc (Rr (rg_base P1 P2 (T b) (T j))) (Rr (T b)) (Rr (T j)) 2 ≠ 0) (hs0 : s9 = 0) (hrep : gw_Rep rec fp sp an (nI n) pt un uc (nI b) lc (n, Rr, P1, P2, T, U, b, lc)) : rx_M l yG_merge (Cond.code yG_merge prog_1_method_12_code 5 (some .int) :: rg_tbl) { frames := 7, cells := 17, slots := 70, locals := 159 } (dC, dI) rg_cl (gw_tys cI cL cF cA) (gw_W ad fo fa ur cI cL cF cA rec fp sp an nn (nI n) pt un uc (nI b) lc) [.ref ((ad 0)), .int (nI j), .int (nI s9)] (rg_QI (dC, dI) rg_cl (gw_tys cI cL cF cA) (S := Unit) (fun _ _ => False) (fun _ => gw_W ad fo fa ur cI cL cF cA rec fp sp an nn (nI n) pt un uc (nI b) lc)) (rx_X (dC, dI) rg_cl (gw_tys cI cL cF cA) (S := gw_S) (gw_Px "java/lang/IllegalStateException" (n, Rr, P1, P2, T, U, b, rg_mc (Rr (rg_base P1 P2 (T b) (T j))) (Rr (T b)) (Rr (T j)) 2)) (fun u => gw_Wu ad fo fa ur cI cL cF cA u)) 17 70 := by
  refine rx_of prog_1_method_12_code 5 (some .int) (by decide) rfl (Nat.le_of_ble_eq_true rfl) ?_
  intro p e R s m args below meth c Q A H locs ls hR hQ hx hb hml hr hts hown hlk hnm hno hT hP hK hD hA hS hl
  have hl : lv_has ls 5 [(0, .ref ((ad 0))), (1, .int (nI j)), (2, .int (nI s9))] := hl
  have hts : ∀ w ∈ rg_tbl, w.before args s = true := fun w h => hts w (List.mem_cons_of_mem _ h)
  have hok := hrep.1
  have hn1 : 1 ≤ n := hok.1
  have hn60 : n ≤ 60 := hok.2.1
  have hb4 : b < 4 := hok.2.2.2.2.2.2.2.1
  have hTb : T b < n := (hok.2.2.2.2.2.2.1 b hb4).1
  have hpt : pt b = nI (T b) := (hrep.2.2.2.2.2.2 b hb4).1
  have hyc : rg_CR (rec (T b)) (Rr (T b)) := hrep.2.2.2.2.1 (T b) hTb
  have hpj : pt j = nI (T j) := (hrep.2.2.2.2.2.2 j hj4).1
  have hTj : T j < n := (hok.2.2.2.2.2.2.1 j hj4).1
  have hzc : rg_CR (rec (T j)) (Rr (T j)) := hrep.2.2.2.2.1 (T j) hTj
  have haT : rg_has (an (T b)) (T j) = true ↔ rg_An P1 P2 (T b) (T j) := (hrep.2.2.2.2.2.1 (T b) hTb).2.2 (T j)
  have haJ : rg_has (an (T j)) (T b) = true ↔ rg_An P1 P2 (T j) (T b) := (hrep.2.2.2.2.2.1 (T j) hTj).2.2 (T b)
  have hn1_ : rg_has (an (T b)) (T j) = false := by cases h9 : rg_has (an (T b)) (T j) with | false => rfl | true => exact absurd (haT.mp h9) hn
  have hn2_ : rg_has (an (T j)) (T b) = false := by cases h9 : rg_has (an (T j)) (T b) with | false => rfl | true => exact absurd (haJ.mp h9) hm
  refine lv_aload_n hx hb dG_merge_0 rfl (lv_at hl 0 rfl) ?_
  refine lv_iconst (v := nI 0) hx hb dG_merge_1 (by decide) ?_
  refine va_put (D := (dC, dI)) (ci := 1) (v := .int (nI 0)) (ty := .int) (C := "RevisionGrove") (T := TG) (N := 4) hx hb hts inG tyG tyG_ok nmG hown hK hP hD hS 0 rfl rfl 3 (by decide) (hts _ tw_89) (fun _ h9 => h9) rfl (by decide +kernel) rfl rfl (Nat.le_of_ble_eq_true rfl) dG_merge_2 (fun H locs hP hD hS => ?_)
  have hP : va_P (dC, dI) rg_cl (gw_W ad fo fa ur cI cL cF cA rec fp sp an nn (nI n) pt un uc (nI b) (nI 0)) H := hP
  have hD : va_D A (gw_W ad fo fa ur cI cL cF cA rec fp sp an nn (nI n) pt un uc (nI b) (nI 0)) := hD
  refine lv_iload_n hx hb dG_merge_5 rfl (lv_at hl 1 rfl) ?_
  refine rg_callv hD hS hA (va_runS (As := [.int (nI j)]) (rest := []) ⟨hx, hb, hml, hown, hts⟩ (c_G_requireBranch j (by omega) _) (va_cwS 1 hts (rg_gSx tw_372 tw_373 tw_1 tw_374) rfl rfl rfl (by decide +kernel) ⟨by rw [hR]; exact Nat.le_of_ble_eq_true rfl, by rw [hR]; exact Nat.le_of_ble_eq_true rfl⟩) (rg_preS rfl hK hP hD) rfl rfl hl.1 rfl (lv_room (Nat.le_of_ble_eq_true rfl)) dG_merge_6 ⟨Nat.zero_le _, Nat.zero_le _⟩) (fun u2 H locs hw3 hP hD hS => ?_)
  have hP : va_P (dC, dI) rg_cl (gw_W ad fo fa ur cI cL cF cA rec fp sp an nn (nI n) pt un uc (nI b) (nI 0)) H := hP
  have hD : va_D A (gw_W ad fo fa ur cI cL cF cA rec fp sp an nn (nI n) pt un uc (nI b) (nI 0)) := hD
  refine lv_iload_n hx hb dG_merge_9 rfl (lv_at hl 2 rfl) ?_
  refine rg_ifN_lt (tgt := 18) hx hb dG_merge_10 (by decide) (by omega) (fun h4 => h4.elim) (fun h4 => ?_)
  refine lv_iload_n hx hb dG_merge_13 rfl (lv_at hl 2 rfl) ?_
  refine lv_iconst (v := nI 2) hx hb dG_merge_14 (by decide) ?_
  refine rg_icmp_le (tgt := 28) hx hb dG_merge_15 (by decide) (by omega) (by omega) (fun h5 => ?_) (fun h5 => by exfalso; omega)
  refine lv_aload_n hx hb dG_merge_28 rfl (lv_at hl 0 rfl) ?_
  refine va_get (D := (dC, dI)) (ci := 1) (C := "RevisionGrove") (T := TG) (N := 4) hx hb hts inG hown hK hP 0 rfl rfl 1 (by decide) (hts _ tw_87) (fun _ h9 => h9) rfl dG_merge_29 ?_
  refine rg_calli hD hS hA (va_runV (As := []) (rest := []) ⟨hx, hb, hml, hown, hts⟩ (c_B_presentRevision b (by omega) _) (cwV 0 hts (rg_gV tw_235 tw_236 tw_237 tw_4 tw_238) rfl rfl rfl (by decide +kernel) ⟨by rw [hR]; exact Nat.le_of_ble_eq_true rfl, by rw [hR]; exact Nat.le_of_ble_eq_true rfl⟩) (rg_preV rfl hK hP hD (ci := 3) (q0 := 2) rfl rfl) rfl rfl hl.1 rfl (lv_room (Nat.le_of_ble_eq_true rfl)) dG_merge_32 ⟨Nat.zero_le _, Nat.zero_le _⟩) (fun r6 u7 H locs hw8 hP hD hS => ?_)
  subst hw8
  have hP : va_P (dC, dI) rg_cl (gw_W ad fo fa ur cI cL cF cA rec fp sp an nn (nI n) pt un uc (nI b) (nI 0)) H := hP
  have hD : va_D A (gw_W ad fo fa ur cI cL cF cA rec fp sp an nn (nI n) pt un uc (nI b) (nI 0)) := hD
  refine rg_top (show (.int (pt b) : Value) = .int (nI (T b)) by rw [hpt]) ?_
  refine lv_istore_n (lv' := [(3, .int (nI (T b))), (0, .ref ((ad 0))), (1, .int (nI j)), (2, .int (nI s9))]) hx hb dG_merge_35 rfl hl (by decide) rfl (fun ls hl => ?_)
  refine lv_aload_n hx hb dG_merge_36 rfl (lv_at hl 1 rfl) ?_
  refine va_get (D := (dC, dI)) (ci := 1) (C := "RevisionGrove") (T := TG) (N := 4) hx hb hts inG hown hK hP 0 rfl rfl 1 (by decide) (hts _ tw_87) (fun _ h9 => h9) rfl dG_merge_37 ?_
  refine lv_iload_n hx hb dG_merge_40 rfl (lv_at hl 2 rfl) ?_
  refine rg_calli hD hS hA (va_runV (As := [.int (nI j)]) (rest := []) ⟨hx, hb, hml, hown, hts⟩ (c_B_revisionOf j (by omega) _) (cwV 1 hts (rg_gV tw_464 tw_465 tw_466 tw_4 tw_467) rfl rfl rfl (by decide +kernel) ⟨by rw [hR]; exact Nat.le_of_ble_eq_true rfl, by rw [hR]; exact Nat.le_of_ble_eq_true rfl⟩) (rg_preV rfl hK hP hD (ci := 3) (q0 := 2) rfl rfl) rfl rfl hl.1 rfl (lv_room (Nat.le_of_ble_eq_true rfl)) dG_merge_41 ⟨Nat.zero_le _, Nat.zero_le _⟩) (fun r9 u10 H locs hw11 hP hD hS => ?_)
  subst hw11
  have hP : va_P (dC, dI) rg_cl (gw_W ad fo fa ur cI cL cF cA rec fp sp an nn (nI n) pt un uc (nI b) (nI 0)) H := hP
  have hD : va_D A (gw_W ad fo fa ur cI cL cF cA rec fp sp an nn (nI n) pt un uc (nI b) (nI 0)) := hD
  refine rg_top (show (.int (pt j) : Value) = .int (nI (T j)) by rw [hpj]) ?_
  refine lv_istore (lv' := [(4, .int (nI (T j))), (3, .int (nI (T b))), (0, .ref ((ad 0))), (1, .int (nI j)), (2, .int (nI s9))]) hx hb dG_merge_44 hl (by decide) rfl (fun ls hl => ?_)
  refine lv_aload_n hx hb dG_merge_46 rfl (lv_at hl 2 rfl) ?_
  refine va_get (D := (dC, dI)) (ci := 1) (C := "RevisionGrove") (T := TG) (N := 4) hx hb hts inG hown hK hP 0 rfl rfl 0 (by decide) (hts _ tw_86) (fun _ h9 => h9) rfl dG_merge_47 ?_
  refine lv_iload hx hb dG_merge_50 (lv_at hl 0 rfl) ?_
  refine lv_iload_n hx hb dG_merge_52 rfl (lv_at hl 1 rfl) ?_
  refine rg_calli hD hS hA (va_runV (As := [.int (nI (T j)), .int (nI (T b))]) (rest := []) ⟨hx, hb, hml, hown, hts⟩ (c_R_isAncestor (T j) (T b) (by omega) (by omega) _) (cwV 2 hts (rg_gV tw_468 tw_469 tw_470 tw_2 tw_471) rfl rfl rfl (by decide +kernel) ⟨by rw [hR]; exact Nat.le_of_ble_eq_true rfl, by rw [hR]; exact Nat.le_of_ble_eq_true rfl⟩) (rg_preV rfl hK hP hD (ci := 2) (q0 := 1) rfl rfl) rfl rfl hl.1 rfl (lv_room (Nat.le_of_ble_eq_true rfl)) dG_merge_53 ⟨Nat.zero_le _, Nat.zero_le _⟩) (fun r12 u13 H locs hw14 hP hD hS => ?_)
  subst hw14
  have hP : va_P (dC, dI) rg_cl (gw_W ad fo fa ur cI cL cF cA rec fp sp an nn (nI n) pt un uc (nI b) (nI 0)) H := hP
  have hD : va_D A (gw_W ad fo fa ur cI cL cF cA rec fp sp an nn (nI n) pt un uc (nI b) (nI 0)) := hD
  refine rg_ifz_eq (tgt := 61) hx hb dG_merge_56 (by decide) (fun h15 => ?_) (fun h15 => absurd (hn1_.symm.trans h15) (by decide))
  refine lv_aload_n hx hb dG_merge_61 rfl (lv_at hl 2 rfl) ?_
  refine va_get (D := (dC, dI)) (ci := 1) (C := "RevisionGrove") (T := TG) (N := 4) hx hb hts inG hown hK hP 0 rfl rfl 0 (by decide) (hts _ tw_86) (fun _ h9 => h9) rfl dG_merge_62 ?_
  refine lv_iload_n hx hb dG_merge_65 rfl (lv_at hl 1 rfl) ?_
  refine lv_iload hx hb dG_merge_66 (lv_at hl 0 rfl) ?_
  refine rg_calli hD hS hA (va_runV (As := [.int (nI (T b)), .int (nI (T j))]) (rest := []) ⟨hx, hb, hml, hown, hts⟩ (c_R_isAncestor (T b) (T j) (by omega) (by omega) _) (cwV 2 hts (rg_gV tw_468 tw_469 tw_470 tw_2 tw_471) rfl rfl rfl (by decide +kernel) ⟨by rw [hR]; exact Nat.le_of_ble_eq_true rfl, by rw [hR]; exact Nat.le_of_ble_eq_true rfl⟩) (rg_preV rfl hK hP hD (ci := 2) (q0 := 1) rfl rfl) rfl rfl hl.1 rfl (lv_room (Nat.le_of_ble_eq_true rfl)) dG_merge_68 ⟨Nat.zero_le _, Nat.zero_le _⟩) (fun r16 u17 H locs hw18 hP hD hS => ?_)
  subst hw18
  have hP : va_P (dC, dI) rg_cl (gw_W ad fo fa ur cI cL cF cA rec fp sp an nn (nI n) pt un uc (nI b) (nI 0)) H := hP
  have hD : va_D A (gw_W ad fo fa ur cI cL cF cA rec fp sp an nn (nI n) pt un uc (nI b) (nI 0)) := hD
  refine rg_ifz_eq (tgt := 85) hx hb dG_merge_71 (by decide) (fun h19 => ?_) (fun h19 => absurd (hn2_.symm.trans h19) (by decide))
  refine lv_aload_n hx hb dG_merge_85 rfl (lv_at hl 2 rfl) ?_
  refine lv_aload_n hx hb dG_merge_86 rfl (lv_at hl 2 rfl) ?_
  refine lv_iload_n hx hb dG_merge_87 rfl (lv_at hl 1 rfl) ?_
  refine lv_iload hx hb dG_merge_88 (lv_at hl 0 rfl) ?_
  refine lv_iload_n hx hb dG_merge_90 rfl (lv_at hl 4 rfl) ?_
  refine rx_calli hQ (fun _ _ h9 => h9.elim) hno hlk hD hS hA (Nat.le_of_ble_eq_true rfl) (Nat.le_of_ble_eq_true rfl) (vx_runV (As := [.int (nI (T b)), .int (nI (T j)), .int (nI s9)]) (rest := [.ref ((ad 0))]) ⟨hx, hb, hml, hown, hts⟩ (c_G_draftJoined n b Rr P1 P2 T U j s9 hj4 hs3 (gw_Rep_c (lc' := nI 0) (c' := nI 0) hrep rfl) _) (cwV 3 hts (rg_gV tw_472 tw_474 ts_G_draftJoined tw_1 tw_475) rfl rfl rfl (by decide +kernel) ⟨(by rw [hR]; exact Nat.le_of_ble_eq_true rfl), (by rw [hR]; exact Nat.le_of_ble_eq_true rfl)⟩) (rx_preV rfl hT hS hA hK hP hD (ci := 1) (q0 := 0) rfl rfl) rfl rfl hl.1 rfl (lv_room (Nat.le_of_ble_eq_true rfl)) dG_merge_91 ⟨(by rw [hR]; exact Nat.le_of_ble_eq_true rfl), (by rw [hR]; exact Nat.le_of_ble_eq_true rfl)⟩) (fun r9 u9 H locs hw9 hP hD hS => ?_)
  obtain ⟨hz9, hu9⟩ := hw9
  subst hz9
  have hP : va_P (dC, dI) rg_cl (gw_W ad fo fa ur cI cL cF cA (va_up rec 60 u9) fp sp an nn (nI n) pt un uc (nI b) (nI 0)) H := hP
  have hD : va_D A (gw_W ad fo fa ur cI cL cF cA (va_up rec 60 u9) fp sp an nn (nI n) pt un uc (nI b) (nI 0)) := hD
  refine va_put (D := (dC, dI)) (ci := 1) (v := .int (rg_mc (Rr (rg_base P1 P2 (T b) (T j))) (Rr (T b)) (Rr (T j)) 2)) (ty := .int) (C := "RevisionGrove") (T := TG) (N := 4) hx hb hts inG tyG tyG_ok nmG hown hK hP hD hS 0 rfl rfl 3 (by decide) (hts _ tw_89) (fun _ h9 => h9) rfl (by decide +kernel) rfl rfl (Nat.le_of_ble_eq_true rfl) dG_merge_94 (fun H locs hP hD hS => ?_)
  have hP : va_P (dC, dI) rg_cl (gw_W ad fo fa ur cI cL cF cA (va_up rec 60 u9) fp sp an nn (nI n) pt un uc (nI b) (rg_mc (Rr (rg_base P1 P2 (T b) (T j))) (Rr (T b)) (Rr (T j)) 2)) H := hP
  have hD : va_D A (gw_W ad fo fa ur cI cL cF cA (va_up rec 60 u9) fp sp an nn (nI n) pt un uc (nI b) (rg_mc (Rr (rg_base P1 P2 (T b) (T j))) (Rr (T b)) (Rr (T j)) 2)) := hD
  refine lv_aload_n hx hb dG_merge_97 rfl (lv_at hl 2 rfl) ?_
  refine va_get (D := (dC, dI)) (ci := 1) (C := "RevisionGrove") (T := TG) (N := 4) hx hb hts inG hown hK hP 0 rfl rfl 3 (by decide) (hts _ tw_89) (fun _ h9 => h9) rfl dG_merge_98 ?_
  refine lv_if_eq (tgt := 118) hx hb dG_merge_101 (by decide) (fun h20 => absurd h20 hc9) (fun h20 => ?_)
  refine lv_iload_n hx hb dG_merge_104 rfl (lv_at hl 4 rfl) ?_
  refine rg_ifN_ne (tgt := 118) hx hb dG_merge_105 (by decide) (by omega) (fun h21 => by exfalso; omega) (fun h21 => ?_)
  rw [hQ]
  exact rx_throw (cls := "java/lang/IllegalStateException") (text := "a conflict is left") (va_up rec 60 u9, fp, sp, an, nn, nI n, pt, un, uc, nI b, rg_mc (Rr (rg_base P1 P2 (T b) (T j))) (Rr (T b)) (Rr (T j)) 2) (⟨rfl, (gw_Rep_c (gw_Rep_rec hrep (rec' := va_up rec 60 u9) (fun r hr => rg_upn _ _ (by have h9 : r < n := hr; omega))) rfl)⟩) rfl hx hb hlt hown hts hT hno (by decide +kernel) rx_clS rx_itS rx_inS rx_bdS rx_gdS (by decide +kernel) hK hP hD hS (hl.1.trans hml.symm) dG_merge_108 dG_merge_111 dG_merge_112 dG_merge_114 dG_merge_117 (by rw [hR]; exact Nat.le_of_ble_eq_true rfl) (by rw [hR]; exact Nat.le_of_ble_eq_true rfl) (by rw [hR]; exact Nat.le_of_ble_eq_true rfl) (by rw [hR]; exact Nat.le_of_ble_eq_true rfl) hlk (Nat.le_of_ble_eq_true rfl) (Nat.le_of_ble_eq_true rfl)
set_option maxHeartbeats 4000000 in
set_option maxRecDepth 100000 in
theorem c_G_merge_xf {l : Launch} {dC : Nat → ClassId} {dI : Nat → Nat → Nat} {ad fo fa ur : Nat → Nat} {cI cL cF cA : ClassId} {rec : Nat → Nat → Int64} {fp : Nat → Int32} {sp : Nat → Int32} {an : Nat → Int64} {nn : Nat → Int32} {pt : Nat → Int32} {un : Nat → Nat → Int32} {uc : Nat → Int32} {lc : Int32} (hlt : l.stackTraces = false) (b : Nat) (Rr : Nat → rg_R) (P1 P2 : Nat → Int32) (T : Nat → Nat) (U : Nat → List Nat) (j s9 : Nat) (hj4 : j < 4) (hs3 : s9 < 3) (hn : ¬ rg_An P1 P2 (T b) (T j)) (hm : ¬ rg_An P1 P2 (T j) (T b)) (hc9 : ¬ (rg_mc (Rr (rg_base P1 P2 (T b) (T j))) (Rr (T b)) (Rr (T j)) 2 ≠ 0 ∧ s9 = 0)) (hrep : gw_Rep rec fp sp an (nI 60) pt un uc (nI b) lc (60, Rr, P1, P2, T, U, b, lc)) : rx_M l yG_merge (Cond.code yG_merge prog_1_method_12_code 5 (some .int) :: rg_tbl) { frames := 7, cells := 17, slots := 70, locals := 159 } (dC, dI) rg_cl (gw_tys cI cL cF cA) (gw_W ad fo fa ur cI cL cF cA rec fp sp an nn (nI 60) pt un uc (nI b) lc) [.ref ((ad 0)), .int (nI j), .int (nI s9)] (rg_QI (dC, dI) rg_cl (gw_tys cI cL cF cA) (S := Unit) (fun _ _ => False) (fun _ => gw_W ad fo fa ur cI cL cF cA rec fp sp an nn (nI 60) pt un uc (nI b) lc)) (rx_X (dC, dI) rg_cl (gw_tys cI cL cF cA) (S := gw_S) (gw_Px "java/lang/IllegalStateException" (60, Rr, P1, P2, T, U, b, rg_mc (Rr (rg_base P1 P2 (T b) (T j))) (Rr (T b)) (Rr (T j)) 2)) (fun u => gw_Wu ad fo fa ur cI cL cF cA u)) 17 70 := by
  refine rx_of prog_1_method_12_code 5 (some .int) (by decide) rfl (Nat.le_of_ble_eq_true rfl) ?_
  intro p e R s m args below meth c Q A H locs ls hR hQ hx hb hml hr hts hown hlk hnm hno hT hP hK hD hA hS hl
  have hl : lv_has ls 5 [(0, .ref ((ad 0))), (1, .int (nI j)), (2, .int (nI s9))] := hl
  have hts : ∀ w ∈ rg_tbl, w.before args s = true := fun w h => hts w (List.mem_cons_of_mem _ h)
  have hok := hrep.1
  have hb4 : b < 4 := hok.2.2.2.2.2.2.2.1
  have hTb : T b < 60 := (hok.2.2.2.2.2.2.1 b hb4).1
  have hpt : pt b = nI (T b) := (hrep.2.2.2.2.2.2 b hb4).1
  have hyc : rg_CR (rec (T b)) (Rr (T b)) := hrep.2.2.2.2.1 (T b) hTb
  have hpj : pt j = nI (T j) := (hrep.2.2.2.2.2.2 j hj4).1
  have hTj : T j < 60 := (hok.2.2.2.2.2.2.1 j hj4).1
  have hzc : rg_CR (rec (T j)) (Rr (T j)) := hrep.2.2.2.2.1 (T j) hTj
  have haT : rg_has (an (T b)) (T j) = true ↔ rg_An P1 P2 (T b) (T j) := (hrep.2.2.2.2.2.1 (T b) hTb).2.2 (T j)
  have haJ : rg_has (an (T j)) (T b) = true ↔ rg_An P1 P2 (T j) (T b) := (hrep.2.2.2.2.2.1 (T j) hTj).2.2 (T b)
  have hn1_ : rg_has (an (T b)) (T j) = false := by cases h9 : rg_has (an (T b)) (T j) with | false => rfl | true => exact absurd (haT.mp h9) hn
  have hn2_ : rg_has (an (T j)) (T b) = false := by cases h9 : rg_has (an (T j)) (T b) with | false => rfl | true => exact absurd (haJ.mp h9) hm
  refine lv_aload_n hx hb dG_merge_0 rfl (lv_at hl 0 rfl) ?_
  refine lv_iconst (v := nI 0) hx hb dG_merge_1 (by decide) ?_
  refine va_put (D := (dC, dI)) (ci := 1) (v := .int (nI 0)) (ty := .int) (C := "RevisionGrove") (T := TG) (N := 4) hx hb hts inG tyG tyG_ok nmG hown hK hP hD hS 0 rfl rfl 3 (by decide) (hts _ tw_89) (fun _ h9 => h9) rfl (by decide +kernel) rfl rfl (Nat.le_of_ble_eq_true rfl) dG_merge_2 (fun H locs hP hD hS => ?_)
  have hP : va_P (dC, dI) rg_cl (gw_W ad fo fa ur cI cL cF cA rec fp sp an nn (nI 60) pt un uc (nI b) (nI 0)) H := hP
  have hD : va_D A (gw_W ad fo fa ur cI cL cF cA rec fp sp an nn (nI 60) pt un uc (nI b) (nI 0)) := hD
  refine lv_iload_n hx hb dG_merge_5 rfl (lv_at hl 1 rfl) ?_
  refine rg_callv hD hS hA (va_runS (As := [.int (nI j)]) (rest := []) ⟨hx, hb, hml, hown, hts⟩ (c_G_requireBranch j (by omega) _) (va_cwS 1 hts (rg_gSx tw_372 tw_373 tw_1 tw_374) rfl rfl rfl (by decide +kernel) ⟨by rw [hR]; exact Nat.le_of_ble_eq_true rfl, by rw [hR]; exact Nat.le_of_ble_eq_true rfl⟩) (rg_preS rfl hK hP hD) rfl rfl hl.1 rfl (lv_room (Nat.le_of_ble_eq_true rfl)) dG_merge_6 ⟨Nat.zero_le _, Nat.zero_le _⟩) (fun u2 H locs hw3 hP hD hS => ?_)
  have hP : va_P (dC, dI) rg_cl (gw_W ad fo fa ur cI cL cF cA rec fp sp an nn (nI 60) pt un uc (nI b) (nI 0)) H := hP
  have hD : va_D A (gw_W ad fo fa ur cI cL cF cA rec fp sp an nn (nI 60) pt un uc (nI b) (nI 0)) := hD
  refine lv_iload_n hx hb dG_merge_9 rfl (lv_at hl 2 rfl) ?_
  refine rg_ifN_lt (tgt := 18) hx hb dG_merge_10 (by decide) (by omega) (fun h4 => h4.elim) (fun h4 => ?_)
  refine lv_iload_n hx hb dG_merge_13 rfl (lv_at hl 2 rfl) ?_
  refine lv_iconst (v := nI 2) hx hb dG_merge_14 (by decide) ?_
  refine rg_icmp_le (tgt := 28) hx hb dG_merge_15 (by decide) (by omega) (by omega) (fun h5 => ?_) (fun h5 => by exfalso; omega)
  refine lv_aload_n hx hb dG_merge_28 rfl (lv_at hl 0 rfl) ?_
  refine va_get (D := (dC, dI)) (ci := 1) (C := "RevisionGrove") (T := TG) (N := 4) hx hb hts inG hown hK hP 0 rfl rfl 1 (by decide) (hts _ tw_87) (fun _ h9 => h9) rfl dG_merge_29 ?_
  refine rg_calli hD hS hA (va_runV (As := []) (rest := []) ⟨hx, hb, hml, hown, hts⟩ (c_B_presentRevision b (by omega) _) (cwV 0 hts (rg_gV tw_235 tw_236 tw_237 tw_4 tw_238) rfl rfl rfl (by decide +kernel) ⟨by rw [hR]; exact Nat.le_of_ble_eq_true rfl, by rw [hR]; exact Nat.le_of_ble_eq_true rfl⟩) (rg_preV rfl hK hP hD (ci := 3) (q0 := 2) rfl rfl) rfl rfl hl.1 rfl (lv_room (Nat.le_of_ble_eq_true rfl)) dG_merge_32 ⟨Nat.zero_le _, Nat.zero_le _⟩) (fun r6 u7 H locs hw8 hP hD hS => ?_)
  subst hw8
  have hP : va_P (dC, dI) rg_cl (gw_W ad fo fa ur cI cL cF cA rec fp sp an nn (nI 60) pt un uc (nI b) (nI 0)) H := hP
  have hD : va_D A (gw_W ad fo fa ur cI cL cF cA rec fp sp an nn (nI 60) pt un uc (nI b) (nI 0)) := hD
  refine rg_top (show (.int (pt b) : Value) = .int (nI (T b)) by rw [hpt]) ?_
  refine lv_istore_n (lv' := [(3, .int (nI (T b))), (0, .ref ((ad 0))), (1, .int (nI j)), (2, .int (nI s9))]) hx hb dG_merge_35 rfl hl (by decide) rfl (fun ls hl => ?_)
  refine lv_aload_n hx hb dG_merge_36 rfl (lv_at hl 1 rfl) ?_
  refine va_get (D := (dC, dI)) (ci := 1) (C := "RevisionGrove") (T := TG) (N := 4) hx hb hts inG hown hK hP 0 rfl rfl 1 (by decide) (hts _ tw_87) (fun _ h9 => h9) rfl dG_merge_37 ?_
  refine lv_iload_n hx hb dG_merge_40 rfl (lv_at hl 2 rfl) ?_
  refine rg_calli hD hS hA (va_runV (As := [.int (nI j)]) (rest := []) ⟨hx, hb, hml, hown, hts⟩ (c_B_revisionOf j (by omega) _) (cwV 1 hts (rg_gV tw_464 tw_465 tw_466 tw_4 tw_467) rfl rfl rfl (by decide +kernel) ⟨by rw [hR]; exact Nat.le_of_ble_eq_true rfl, by rw [hR]; exact Nat.le_of_ble_eq_true rfl⟩) (rg_preV rfl hK hP hD (ci := 3) (q0 := 2) rfl rfl) rfl rfl hl.1 rfl (lv_room (Nat.le_of_ble_eq_true rfl)) dG_merge_41 ⟨Nat.zero_le _, Nat.zero_le _⟩) (fun r9 u10 H locs hw11 hP hD hS => ?_)
  subst hw11
  have hP : va_P (dC, dI) rg_cl (gw_W ad fo fa ur cI cL cF cA rec fp sp an nn (nI 60) pt un uc (nI b) (nI 0)) H := hP
  have hD : va_D A (gw_W ad fo fa ur cI cL cF cA rec fp sp an nn (nI 60) pt un uc (nI b) (nI 0)) := hD
  refine rg_top (show (.int (pt j) : Value) = .int (nI (T j)) by rw [hpj]) ?_
  refine lv_istore (lv' := [(4, .int (nI (T j))), (3, .int (nI (T b))), (0, .ref ((ad 0))), (1, .int (nI j)), (2, .int (nI s9))]) hx hb dG_merge_44 hl (by decide) rfl (fun ls hl => ?_)
  refine lv_aload_n hx hb dG_merge_46 rfl (lv_at hl 2 rfl) ?_
  refine va_get (D := (dC, dI)) (ci := 1) (C := "RevisionGrove") (T := TG) (N := 4) hx hb hts inG hown hK hP 0 rfl rfl 0 (by decide) (hts _ tw_86) (fun _ h9 => h9) rfl dG_merge_47 ?_
  refine lv_iload hx hb dG_merge_50 (lv_at hl 0 rfl) ?_
  refine lv_iload_n hx hb dG_merge_52 rfl (lv_at hl 1 rfl) ?_
  refine rg_calli hD hS hA (va_runV (As := [.int (nI (T j)), .int (nI (T b))]) (rest := []) ⟨hx, hb, hml, hown, hts⟩ (c_R_isAncestor (T j) (T b) (by omega) (by omega) _) (cwV 2 hts (rg_gV tw_468 tw_469 tw_470 tw_2 tw_471) rfl rfl rfl (by decide +kernel) ⟨by rw [hR]; exact Nat.le_of_ble_eq_true rfl, by rw [hR]; exact Nat.le_of_ble_eq_true rfl⟩) (rg_preV rfl hK hP hD (ci := 2) (q0 := 1) rfl rfl) rfl rfl hl.1 rfl (lv_room (Nat.le_of_ble_eq_true rfl)) dG_merge_53 ⟨Nat.zero_le _, Nat.zero_le _⟩) (fun r12 u13 H locs hw14 hP hD hS => ?_)
  subst hw14
  have hP : va_P (dC, dI) rg_cl (gw_W ad fo fa ur cI cL cF cA rec fp sp an nn (nI 60) pt un uc (nI b) (nI 0)) H := hP
  have hD : va_D A (gw_W ad fo fa ur cI cL cF cA rec fp sp an nn (nI 60) pt un uc (nI b) (nI 0)) := hD
  refine rg_ifz_eq (tgt := 61) hx hb dG_merge_56 (by decide) (fun h15 => ?_) (fun h15 => absurd (hn1_.symm.trans h15) (by decide))
  refine lv_aload_n hx hb dG_merge_61 rfl (lv_at hl 2 rfl) ?_
  refine va_get (D := (dC, dI)) (ci := 1) (C := "RevisionGrove") (T := TG) (N := 4) hx hb hts inG hown hK hP 0 rfl rfl 0 (by decide) (hts _ tw_86) (fun _ h9 => h9) rfl dG_merge_62 ?_
  refine lv_iload_n hx hb dG_merge_65 rfl (lv_at hl 1 rfl) ?_
  refine lv_iload hx hb dG_merge_66 (lv_at hl 0 rfl) ?_
  refine rg_calli hD hS hA (va_runV (As := [.int (nI (T b)), .int (nI (T j))]) (rest := []) ⟨hx, hb, hml, hown, hts⟩ (c_R_isAncestor (T b) (T j) (by omega) (by omega) _) (cwV 2 hts (rg_gV tw_468 tw_469 tw_470 tw_2 tw_471) rfl rfl rfl (by decide +kernel) ⟨by rw [hR]; exact Nat.le_of_ble_eq_true rfl, by rw [hR]; exact Nat.le_of_ble_eq_true rfl⟩) (rg_preV rfl hK hP hD (ci := 2) (q0 := 1) rfl rfl) rfl rfl hl.1 rfl (lv_room (Nat.le_of_ble_eq_true rfl)) dG_merge_68 ⟨Nat.zero_le _, Nat.zero_le _⟩) (fun r16 u17 H locs hw18 hP hD hS => ?_)
  subst hw18
  have hP : va_P (dC, dI) rg_cl (gw_W ad fo fa ur cI cL cF cA rec fp sp an nn (nI 60) pt un uc (nI b) (nI 0)) H := hP
  have hD : va_D A (gw_W ad fo fa ur cI cL cF cA rec fp sp an nn (nI 60) pt un uc (nI b) (nI 0)) := hD
  refine rg_ifz_eq (tgt := 85) hx hb dG_merge_71 (by decide) (fun h19 => ?_) (fun h19 => absurd (hn2_.symm.trans h19) (by decide))
  refine lv_aload_n hx hb dG_merge_85 rfl (lv_at hl 2 rfl) ?_
  refine lv_aload_n hx hb dG_merge_86 rfl (lv_at hl 2 rfl) ?_
  refine lv_iload_n hx hb dG_merge_87 rfl (lv_at hl 1 rfl) ?_
  refine lv_iload hx hb dG_merge_88 (lv_at hl 0 rfl) ?_
  refine lv_iload_n hx hb dG_merge_90 rfl (lv_at hl 4 rfl) ?_
  refine rx_calli hQ (fun _ _ h9 => h9.elim) hno hlk hD hS hA (Nat.le_of_ble_eq_true rfl) (Nat.le_of_ble_eq_true rfl) (vx_runV (As := [.int (nI (T b)), .int (nI (T j)), .int (nI s9)]) (rest := [.ref ((ad 0))]) ⟨hx, hb, hml, hown, hts⟩ (c_G_draftJoined 60 b Rr P1 P2 T U j s9 hj4 hs3 (gw_Rep_c (lc' := nI 0) (c' := nI 0) hrep rfl) _) (cwV 3 hts (rg_gV tw_472 tw_474 ts_G_draftJoined tw_1 tw_475) rfl rfl rfl (by decide +kernel) ⟨(by rw [hR]; exact Nat.le_of_ble_eq_true rfl), (by rw [hR]; exact Nat.le_of_ble_eq_true rfl)⟩) (rx_preV rfl hT hS hA hK hP hD (ci := 1) (q0 := 0) rfl rfl) rfl rfl hl.1 rfl (lv_room (Nat.le_of_ble_eq_true rfl)) dG_merge_91 ⟨(by rw [hR]; exact Nat.le_of_ble_eq_true rfl), (by rw [hR]; exact Nat.le_of_ble_eq_true rfl)⟩) (fun r9 u9 H locs hw9 hP hD hS => ?_)
  obtain ⟨hz9, hu9⟩ := hw9
  subst hz9
  have hP : va_P (dC, dI) rg_cl (gw_W ad fo fa ur cI cL cF cA (va_up rec 60 u9) fp sp an nn (nI 60) pt un uc (nI b) (nI 0)) H := hP
  have hD : va_D A (gw_W ad fo fa ur cI cL cF cA (va_up rec 60 u9) fp sp an nn (nI 60) pt un uc (nI b) (nI 0)) := hD
  refine va_put (D := (dC, dI)) (ci := 1) (v := .int (rg_mc (Rr (rg_base P1 P2 (T b) (T j))) (Rr (T b)) (Rr (T j)) 2)) (ty := .int) (C := "RevisionGrove") (T := TG) (N := 4) hx hb hts inG tyG tyG_ok nmG hown hK hP hD hS 0 rfl rfl 3 (by decide) (hts _ tw_89) (fun _ h9 => h9) rfl (by decide +kernel) rfl rfl (Nat.le_of_ble_eq_true rfl) dG_merge_94 (fun H locs hP hD hS => ?_)
  have hP : va_P (dC, dI) rg_cl (gw_W ad fo fa ur cI cL cF cA (va_up rec 60 u9) fp sp an nn (nI 60) pt un uc (nI b) (rg_mc (Rr (rg_base P1 P2 (T b) (T j))) (Rr (T b)) (Rr (T j)) 2)) H := hP
  have hD : va_D A (gw_W ad fo fa ur cI cL cF cA (va_up rec 60 u9) fp sp an nn (nI 60) pt un uc (nI b) (rg_mc (Rr (rg_base P1 P2 (T b) (T j))) (Rr (T b)) (Rr (T j)) 2)) := hD
  refine lv_aload_n hx hb dG_merge_97 rfl (lv_at hl 2 rfl) ?_
  refine va_get (D := (dC, dI)) (ci := 1) (C := "RevisionGrove") (T := TG) (N := 4) hx hb hts inG hown hK hP 0 rfl rfl 3 (by decide) (hts _ tw_89) (fun _ h9 => h9) rfl dG_merge_98 ?_
  refine lv_if_eq (tgt := 118) hx hb dG_merge_101 (by decide) (fun h20 => ?_) (fun h20 => ?_)
  · refine lv_aload_n hx hb dG_merge_118 rfl (lv_at hl 2 rfl) ?_
    refine lv_iload hx hb dG_merge_119 (lv_at hl 0 rfl) ?_
    exact rx_callv hQ (fun E u h => ⟨(va_up rec 60 u9, fp, sp, an, nn, nI 60, pt, un, uc, nI b, rg_mc (Rr (rg_base P1 P2 (T b) (T j))) (Rr (T b)) (Rr (T j)) 2), ⟨h, (gw_Rep_c (gw_Rep_rec hrep (rec' := va_up rec 60 u9) (fun r hr => rg_upn _ _ (by have h9 : r < 60 := hr; omega))) rfl)⟩, rfl⟩) hno hlk hD hS hA (Nat.le_of_ble_eq_true rfl) (Nat.le_of_ble_eq_true rfl) (vx_runV (As := [.int (nI (T j))]) (rest := []) ⟨hx, hb, hml, hown, hts⟩ (c_G_comeToDraft_x hlt (nI (T j)) _) (cwV 1 hts (rg_gV tw_263 tw_265 ts_G_comeToDraft tw_1 tw_266) rfl rfl rfl (by decide +kernel) ⟨(by rw [hR]; exact Nat.le_of_ble_eq_true rfl), (by rw [hR]; exact Nat.le_of_ble_eq_true rfl)⟩) (rx_preV rfl hT hS hA hK hP hD (ci := 1) (q0 := 0) rfl rfl) rfl rfl hl.1 rfl (lv_room (Nat.le_of_ble_eq_true rfl)) dG_merge_121 ⟨(by rw [hR]; exact Nat.le_of_ble_eq_true rfl), (by rw [hR]; exact Nat.le_of_ble_eq_true rfl)⟩) (fun _ _ _ h9 => h9.elim)
  · refine lv_iload_n hx hb dG_merge_104 rfl (lv_at hl 4 rfl) ?_
    refine rg_ifN_ne (tgt := 118) hx hb dG_merge_105 (by decide) (by omega) (fun h21 => ?_) (fun h21 => absurd ⟨h20, by omega⟩ hc9)
    refine lv_aload_n hx hb dG_merge_118 rfl (lv_at hl 2 rfl) ?_
    refine lv_iload hx hb dG_merge_119 (lv_at hl 0 rfl) ?_
    exact rx_callv hQ (fun E u h => ⟨(va_up rec 60 u9, fp, sp, an, nn, nI 60, pt, un, uc, nI b, rg_mc (Rr (rg_base P1 P2 (T b) (T j))) (Rr (T b)) (Rr (T j)) 2), ⟨h, (gw_Rep_c (gw_Rep_rec hrep (rec' := va_up rec 60 u9) (fun r hr => rg_upn _ _ (by have h9 : r < 60 := hr; omega))) rfl)⟩, rfl⟩) hno hlk hD hS hA (Nat.le_of_ble_eq_true rfl) (Nat.le_of_ble_eq_true rfl) (vx_runV (As := [.int (nI (T j))]) (rest := []) ⟨hx, hb, hml, hown, hts⟩ (c_G_comeToDraft_x hlt (nI (T j)) _) (cwV 1 hts (rg_gV tw_263 tw_265 ts_G_comeToDraft tw_1 tw_266) rfl rfl rfl (by decide +kernel) ⟨(by rw [hR]; exact Nat.le_of_ble_eq_true rfl), (by rw [hR]; exact Nat.le_of_ble_eq_true rfl)⟩) (rx_preV rfl hT hS hA hK hP hD (ci := 1) (q0 := 0) rfl rfl) rfl rfl hl.1 rfl (lv_room (Nat.le_of_ble_eq_true rfl)) dG_merge_121 ⟨(by rw [hR]; exact Nat.le_of_ble_eq_true rfl), (by rw [hR]; exact Nat.le_of_ble_eq_true rfl)⟩) (fun _ _ _ h9 => h9.elim)
