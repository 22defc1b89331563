set_option maxHeartbeats 4000000 in
set_option maxRecDepth 100000 in
theorem c_G_value_c {l : Launch} {dC : Nat → ClassId} {dI : Nat → Nat → Nat} {ad fo fa ur : Nat → Nat} {cI cL cF cA : ClassId} {rec : Nat → Nat → Int64} {fp : Nat → Int32} {sp : Nat → Int32} {an : Nat → Int64} {nn : Nat → Int32} {pt : Nat → Int32} {un : Nat → Nat → Int32} {uc : Nat → Int32} {lc : Int32} (n b : Nat) (Rr : Nat → rg_R) (P1 P2 : Nat → Int32) (T : Nat → Nat) (U : Nat → List Nat) (j k : Nat) (hjn : j < n) (hk6 : k < 6) (x : Int32) (hrep : gw_Rep rec fp sp an (nI n) pt un uc (nI b) lc (n, Rr, P1, P2, T, U, b, lc)) : rg_M l yG_value (Cond.code yG_value prog_1_method_15_code 5 (some .long) :: rg_tbl) { frames := 2, cells := 0, slots := 0, locals := 43 } (dC, dI) rg_cl (gw_tys cI cL cF cA) (gw_W ad fo fa ur cI cL cF cA rec fp sp an nn (nI n) pt un uc (nI b) lc) [.ref ((ad 0)), .int (nI j), .int (nI k), .int x] (rg_QL (dC, dI) rg_cl (gw_tys cI cL cF cA) (S := gw_S) (gw_Pl (0, rec j k) (n, Rr, P1, P2, T, U, b, lc)) (fun u => gw_Wu ad fo fa ur cI cL cF cA u)) 0 0 := by
  refine rg_of prog_1_method_15_code 5 (some .long) (by decide) rfl (Nat.le_of_ble_eq_true rfl) ?_
  intro p e R s m args below meth c Q A H locs ls hR hQ hx hb hml hr hts hown hlk hnm hP hK hD hA hS hl
  have hl : lv_has ls 5 [(0, .ref ((ad 0))), (1, .int (nI j)), (2, .int (nI k)), (3, .int x)] := hl
  have hts : ∀ w ∈ rg_tbl, w.before args s = true := fun w h => hts w (List.mem_cons_of_mem _ h)
  have hok := hrep.1
  have hn1 : 1 ≤ n := hok.1
  have hn60 : n ≤ 60 := hok.2.1
  have hb4 : b < 4 := hok.2.2.2.2.2.2.2.1
  have hTb : T b < n := (hok.2.2.2.2.2.2.1 b hb4).1
  have hpt : pt b = nI (T b) := (hrep.2.2.2.2.2.2 b hb4).1
  have hyc : rg_CR (rec (T b)) (Rr (T b)) := hrep.2.2.2.2.1 (T b) hTb
  have hyj : rg_CR (rec j) (Rr j) := hrep.2.2.2.2.1 j hjn
  refine lv_aload_n hx hb dG_value_0 rfl (lv_at hl 0 rfl) ?_
  refine lv_iload_n hx hb dG_value_1 rfl (lv_at hl 1 rfl) ?_
  refine rg_callv hD hS hA (va_runV (As := [.int (nI j)]) (rest := []) ⟨hx, hb, hml, hown, hts⟩ (c_G_requireRevision n j (by omega) (by omega) _) (cwV 1 hts (rg_gV tw_399 tw_401 ts_G_requireRevision tw_1 tw_402) rfl rfl rfl (by decide +kernel) ⟨by rw [hR]; exact Nat.le_of_ble_eq_true rfl, by rw [hR]; exact Nat.le_of_ble_eq_true rfl⟩) (rg_preV rfl hK hP hD (ci := 1) (q0 := 0) rfl rfl) rfl rfl hl.1 rfl (lv_room (Nat.le_of_ble_eq_true rfl)) dG_value_2 ⟨Nat.zero_le _, Nat.zero_le _⟩) (fun u2 H locs hw3 hP hD hS => ?_)
  have hP : va_P (dC, dI) rg_cl (gw_W ad fo fa ur cI cL cF cA rec fp sp an nn (nI n) pt un uc (nI b) lc) H := hP
  have hD : va_D A (gw_W ad fo fa ur cI cL cF cA rec fp sp an nn (nI n) pt un uc (nI b) lc) := hD
  refine lv_iload_n hx hb dG_value_5 rfl (lv_at hl 2 rfl) ?_
  refine rg_ifN_lt (tgt := 15) hx hb dG_value_6 (by decide) (by omega) (fun h4 => h4.elim) (fun h4 => ?_)
  refine lv_iload_n hx hb dG_value_9 rfl (lv_at hl 2 rfl) ?_
  refine lv_bipush (v := nI 8) hx hb dG_value_10 (by decide) ?_
  refine rg_icmp_lt (tgt := 25) hx hb dG_value_12 (by decide) (by omega) (by omega) (fun h5 => ?_) (fun h5 => by exfalso; omega)
  refine lv_aload_n hx hb dG_value_25 rfl (lv_at hl 0 rfl) ?_
  refine va_get (D := (dC, dI)) (ci := 1) (C := "RevisionGrove") (T := TG) (N := 4) hx hb hts inG hown hK hP 0 rfl rfl 0 (by decide) (hts _ tw_86) (fun _ h9 => h9) rfl dG_value_26 ?_
  refine lv_iload_n hx hb dG_value_29 rfl (lv_at hl 1 rfl) ?_
  refine rg_calla hD hS hA (va_runV (As := [.int (nI j)]) (rest := []) ⟨hx, hb, hml, hown, hts⟩ (c_R_fields j (by omega) _) (cwV 1 hts (rg_gV tw_239 tw_240 tw_241 tw_2 tw_242) rfl rfl rfl (by decide +kernel) ⟨by rw [hR]; exact Nat.le_of_ble_eq_true rfl, by rw [hR]; exact Nat.le_of_ble_eq_true rfl⟩) (rg_preV rfl hK hP hD (ci := 2) (q0 := 1) rfl rfl) rfl rfl hl.1 rfl (lv_room (Nat.le_of_ble_eq_true rfl)) dG_value_30 ⟨Nat.zero_le _, Nat.zero_le _⟩) (fun H locs hP hD hS => ?_)
  have hP : va_P (dC, dI) rg_cl (gw_W ad fo fa ur cI cL cF cA rec fp sp an nn (nI n) pt un uc (nI b) lc) H := hP
  have hD : va_D A (gw_W ad fo fa ur cI cL cF cA rec fp sp an nn (nI n) pt un uc (nI b) lc) := hD
  refine lv_astore (lv' := [(4, .ref ((fo j))), (0, .ref ((ad 0))), (1, .int (nI j)), (2, .int (nI k)), (3, .int x)]) hx hb dG_value_33 hl (by decide) rfl (fun ls hl => ?_)
  refine lv_iload_n hx hb dG_value_35 rfl (lv_at hl 3 rfl) ?_
  refine lv_bipush (v := nI 6) hx hb dG_value_36 (by decide) ?_
  refine rg_icmp_ge (tgt := 48) hx hb dG_value_38 (by decide) (by omega) (by omega) (fun h9 => by exfalso; omega) (fun h9 => ?_)
  refine lv_aload hx hb dG_value_41 (lv_at hl 0 rfl) ?_
  refine lv_iload_n hx hb dG_value_43 rfl (lv_at hl 3 rfl) ?_
  refine rg_calll hD hS hA (va_runV (As := [.int (nI k)]) (rest := []) ⟨hx, hb, hml, hown, hts⟩ (c_F_cell j k (by omega) (by omega) _) (cwV 1 hts (rg_gV tw_302 tw_303 tw_304 tw_3 tw_305) rfl rfl rfl (by decide +kernel) ⟨by rw [hR]; exact Nat.le_of_ble_eq_true rfl, by rw [hR]; exact Nat.le_of_ble_eq_true rfl⟩) (rg_preV rfl hK hP hD (ci := 4) (q0 := (11 + (4 + j))) rfl (gw_obj (by omega))) rfl rfl hl.1 rfl (lv_room (Nat.le_of_ble_eq_true rfl)) dG_value_44 ⟨Nat.zero_le _, Nat.zero_le _⟩) (fun r10 u11 H locs hw12 hP hD hS => ?_)
  subst hw12
  have hP : va_P (dC, dI) rg_cl (gw_W ad fo fa ur cI cL cF cA rec fp sp an nn (nI n) pt un uc (nI b) lc) H := hP
  have hD : va_D A (gw_W ad fo fa ur cI cL cF cA rec fp sp an nn (nI n) pt un uc (nI b) lc) := hD
  rw [hQ]
  exact rg_lret hx hb hr hlk hK hP hD hS dG_value_47 (rec, fp, sp, an, nn, nI n, pt, un, uc, nI b, lc) rfl (⟨hrep, rfl, rfl⟩)
set_option maxHeartbeats 4000000 in
set_option maxRecDepth 100000 in
theorem c_G_value_m {l : Launch} {dC : Nat → ClassId} {dI : Nat → Nat → Nat} {ad fo fa ur : Nat → Nat} {cI cL cF cA : ClassId} {rec : Nat → Nat → Int64} {fp : Nat → Int32} {sp : Nat → Int32} {an : Nat → Int64} {nn : Nat → Int32} {pt : Nat → Int32} {un : Nat → Nat → Int32} {uc : Nat → Int32} {lc : Int32} (n b : Nat) (Rr : Nat → rg_R) (P1 P2 : Nat → Int32) (T : Nat → Nat) (U : Nat → List Nat) (j k : Nat) (hjn : j < n) (hk2 : k < 2) (l9 : List Int32) (hl9 : (Rr j).2.2.2 k = l9)  (hrep : gw_Rep rec fp sp an (nI n) pt un uc (nI b) lc (n, Rr, P1, P2, T, U, b, lc)) : rg_M l yG_value (Cond.code yG_value prog_1_method_15_code 5 (some .long) :: rg_tbl) { frames := 2, cells := 0, slots := 0, locals := 43 } (dC, dI) rg_cl (gw_tys cI cL cF cA) (gw_W ad fo fa ur cI cL cF cA rec fp sp an nn (nI n) pt un uc (nI b) lc) [.ref ((ad 0)), .int (nI j), .int (nI (k + 6)), .int ((-1))] (rg_QL (dC, dI) rg_cl (gw_tys cI cL cF cA) (S := gw_S) (gw_Pl (0, (nI l9.length).toInt64) (n, Rr, P1, P2, T, U, b, lc)) (fun u => gw_Wu ad fo fa ur cI cL cF cA u)) 0 0 := by
  refine rg_of prog_1_method_15_code 5 (some .long) (by decide) rfl (Nat.le_of_ble_eq_true rfl) ?_
  intro p e R s m args below meth c Q A H locs ls hR hQ hx hb hml hr hts hown hlk hnm hP hK hD hA hS hl
  have hl : lv_has ls 5 [(0, .ref ((ad 0))), (1, .int (nI j)), (2, .int (nI (k + 6))), (3, .int ((-1)))] := hl
  have hts : ∀ w ∈ rg_tbl, w.before args s = true := fun w h => hts w (List.mem_cons_of_mem _ h)
  have hok := hrep.1
  have hn1 : 1 ≤ n := hok.1
  have hn60 : n ≤ 60 := hok.2.1
  have hb4 : b < 4 := hok.2.2.2.2.2.2.2.1
  have hTb : T b < n := (hok.2.2.2.2.2.2.1 b hb4).1
  have hpt : pt b = nI (T b) := (hrep.2.2.2.2.2.2 b hb4).1
  have hyc : rg_CR (rec (T b)) (Rr (T b)) := hrep.2.2.2.2.1 (T b) hTb
  have hyj : rg_CR (rec j) (Rr j) := hrep.2.2.2.2.1 j hjn
  have hq9 := hyj k hk2
  rw [hl9] at hq9
  have hlq := hq9.2.2.2.2.1
  have hl89 := hq9.2.2.2.1
  refine lv_aload_n hx hb dG_value_0 rfl (lv_at hl 0 rfl) ?_
  refine lv_iload_n hx hb dG_value_1 rfl (lv_at hl 1 rfl) ?_
  refine rg_callv hD hS hA (va_runV (As := [.int (nI j)]) (rest := []) ⟨hx, hb, hml, hown, hts⟩ (c_G_requireRevision n j (by omega) (by omega) _) (cwV 1 hts (rg_gV tw_399 tw_401 ts_G_requireRevision tw_1 tw_402) rfl rfl rfl (by decide +kernel) ⟨by rw [hR]; exact Nat.le_of_ble_eq_true rfl, by rw [hR]; exact Nat.le_of_ble_eq_true rfl⟩) (rg_preV rfl hK hP hD (ci := 1) (q0 := 0) rfl rfl) rfl rfl hl.1 rfl (lv_room (Nat.le_of_ble_eq_true rfl)) dG_value_2 ⟨Nat.zero_le _, Nat.zero_le _⟩) (fun u2 H locs hw3 hP hD hS => ?_)
  have hP : va_P (dC, dI) rg_cl (gw_W ad fo fa ur cI cL cF cA rec fp sp an nn (nI n) pt un uc (nI b) lc) H := hP
  have hD : va_D A (gw_W ad fo fa ur cI cL cF cA rec fp sp an nn (nI n) pt un uc (nI b) lc) := hD
  refine lv_iload_n hx hb dG_value_5 rfl (lv_at hl 2 rfl) ?_
  refine rg_ifN_lt (tgt := 15) hx hb dG_value_6 (by decide) (by omega) (fun h4 => h4.elim) (fun h4 => ?_)
  refine lv_iload_n hx hb dG_value_9 rfl (lv_at hl 2 rfl) ?_
  refine lv_bipush (v := nI 8) hx hb dG_value_10 (by decide) ?_
  refine rg_icmp_lt (tgt := 25) hx hb dG_value_12 (by decide) (by omega) (by omega) (fun h5 => ?_) (fun h5 => by exfalso; omega)
  refine lv_aload_n hx hb dG_value_25 rfl (lv_at hl 0 rfl) ?_
  refine va_get (D := (dC, dI)) (ci := 1) (C := "RevisionGrove") (T := TG) (N := 4) hx hb hts inG hown hK hP 0 rfl rfl 0 (by decide) (hts _ tw_86) (fun _ h9 => h9) rfl dG_value_26 ?_
  refine lv_iload_n hx hb dG_value_29 rfl (lv_at hl 1 rfl) ?_
  refine rg_calla hD hS hA (va_runV (As := [.int (nI j)]) (rest := []) ⟨hx, hb, hml, hown, hts⟩ (c_R_fields j (by omega) _) (cwV 1 hts (rg_gV tw_239 tw_240 tw_241 tw_2 tw_242) rfl rfl rfl (by decide +kernel) ⟨by rw [hR]; exact Nat.le_of_ble_eq_true rfl, by rw [hR]; exact Nat.le_of_ble_eq_true rfl⟩) (rg_preV rfl hK hP hD (ci := 2) (q0 := 1) rfl rfl) rfl rfl hl.1 rfl (lv_room (Nat.le_of_ble_eq_true rfl)) dG_value_30 ⟨Nat.zero_le _, Nat.zero_le _⟩) (fun H locs hP hD hS => ?_)
  have hP : va_P (dC, dI) rg_cl (gw_W ad fo fa ur cI cL cF cA rec fp sp an nn (nI n) pt un uc (nI b) lc) H := hP
  have hD : va_D A (gw_W ad fo fa ur cI cL cF cA rec fp sp an nn (nI n) pt un uc (nI b) lc) := hD
  refine lv_astore (lv' := [(4, .ref ((fo j))), (0, .ref ((ad 0))), (1, .int (nI j)), (2, .int (nI (k + 6))), (3, .int ((-1)))]) hx hb dG_value_33 hl (by decide) rfl (fun ls hl => ?_)
  refine lv_iload_n hx hb dG_value_35 rfl (lv_at hl 3 rfl) ?_
  refine lv_bipush (v := nI 6) hx hb dG_value_36 (by decide) ?_
  refine rg_icmp_ge (tgt := 48) hx hb dG_value_38 (by decide) (by omega) (by omega) (fun h9 => ?_) (fun h9 => by exfalso; omega)
  refine lv_iload_n hx hb dG_value_48 rfl (lv_at hl 4 rfl) ?_
  refine lv_iconst (v := -1) hx hb dG_value_49 (by decide) ?_
  refine lv_icmp_ne (tgt := 61) hx hb dG_value_50 (by decide) (fun h10 => absurd rfl h10) (fun h10 => ?_)
  refine lv_aload hx hb dG_value_53 (lv_at hl 0 rfl) ?_
  refine lv_iload_n hx hb dG_value_55 rfl (lv_at hl 3 rfl) ?_
  refine rg_calli hD hS hA (va_runV (As := [.int (nI (k + 6))]) (rest := []) ⟨hx, hb, hml, hown, hts⟩ (c_F_length j (k + 6) (by omega) (by omega) _) (cwV 1 hts (rg_gV tw_323 tw_324 tw_325 tw_3 tw_326) rfl rfl rfl (by decide +kernel) ⟨by rw [hR]; exact Nat.le_of_ble_eq_true rfl, by rw [hR]; exact Nat.le_of_ble_eq_true rfl⟩) (rg_preV rfl hK hP hD (ci := 4) (q0 := (11 + (4 + j))) rfl (gw_obj (by omega))) rfl rfl hl.1 rfl (lv_room (Nat.le_of_ble_eq_true rfl)) dG_value_56 ⟨Nat.zero_le _, Nat.zero_le _⟩) (fun r11 u12 H locs hw13 hP hD hS => ?_)
  subst hw13
  have hP : va_P (dC, dI) rg_cl (gw_W ad fo fa ur cI cL cF cA rec fp sp an nn (nI n) pt un uc (nI b) lc) H := hP
  have hD : va_D A (gw_W ad fo fa ur cI cL cF cA rec fp sp an nn (nI n) pt un uc (nI b) lc) := hD
  refine rg_top (show (.int ((rec j (k + 6)).toInt32) : Value) = .int (nI l9.length) by rw [hlq, lN_i]) ?_
  refine lv_i2l (v := (nI l9.length).toInt64) hx hb dG_value_59 rfl ?_
  rw [hQ]
  exact rg_lret hx hb hr hlk hK hP hD hS dG_value_60 (rec, fp, sp, an, nn, nI n, pt, un, uc, nI b, lc) rfl (⟨hrep, rfl, rfl⟩)
set_option maxHeartbeats 4000000 in
set_option maxRecDepth 100000 in
theorem c_G_value_i {l : Launch} {dC : Nat → ClassId} {dI : Nat → Nat → Nat} {ad fo fa ur : Nat → Nat} {cI cL cF cA : ClassId} {rec : Nat → Nat → Int64} {fp : Nat → Int32} {sp : Nat → Int32} {an : Nat → Int64} {nn : Nat → Int32} {pt : Nat → Int32} {un : Nat → Nat → Int32} {uc : Nat → Int32} {lc : Int32} (n b : Nat) (Rr : Nat → rg_R) (P1 P2 : Nat → Int32) (T : Nat → Nat) (U : Nat → List Nat) (j k : Nat) (hjn : j < n) (hk2 : k < 2) (l9 : List Int32) (hl9 : (Rr j).2.2.2 k = l9) (x : Nat) (hxl : x < l9.length) (hrep : gw_Rep rec fp sp an (nI n) pt un uc (nI b) lc (n, Rr, P1, P2, T, U, b, lc)) : rg_M l yG_value (Cond.code yG_value prog_1_method_15_code 5 (some .long) :: rg_tbl) { frames := 2, cells := 0, slots := 0, locals := 43 } (dC, dI) rg_cl (gw_tys cI cL cF cA) (gw_W ad fo fa ur cI cL cF cA rec fp sp an nn (nI n) pt un uc (nI b) lc) [.ref ((ad 0)), .int (nI j), .int (nI (k + 6)), .int (nI x)] (rg_QL (dC, dI) rg_cl (gw_tys cI cL cF cA) (S := gw_S) (gw_Pl (0, (l9.getD x 0).toInt64) (n, Rr, P1, P2, T, U, b, lc)) (fun u => gw_Wu ad fo fa ur cI cL cF cA u)) 0 0 := by
  refine rg_of prog_1_method_15_code 5 (some .long) (by decide) rfl (Nat.le_of_ble_eq_true rfl) ?_
  intro p e R s m args below meth c Q A H locs ls hR hQ hx hb hml hr hts hown hlk hnm hP hK hD hA hS hl
  have hl : lv_has ls 5 [(0, .ref ((ad 0))), (1, .int (nI j)), (2, .int (nI (k + 6))), (3, .int (nI x))] := hl
  have hts : ∀ w ∈ rg_tbl, w.before args s = true := fun w h => hts w (List.mem_cons_of_mem _ h)
  have hok := hrep.1
  have hn1 : 1 ≤ n := hok.1
  have hn60 : n ≤ 60 := hok.2.1
  have hb4 : b < 4 := hok.2.2.2.2.2.2.2.1
  have hTb : T b < n := (hok.2.2.2.2.2.2.1 b hb4).1
  have hpt : pt b = nI (T b) := (hrep.2.2.2.2.2.2 b hb4).1
  have hyc : rg_CR (rec (T b)) (Rr (T b)) := hrep.2.2.2.2.1 (T b) hTb
  have hyj : rg_CR (rec j) (Rr j) := hrep.2.2.2.2.1 j hjn
  have hq9 := hyj k hk2
  rw [hl9] at hq9
  have hlq := hq9.2.2.2.2.1
  have hl89 := hq9.2.2.2.1
  refine lv_aload_n hx hb dG_value_0 rfl (lv_at hl 0 rfl) ?_
  refine lv_iload_n hx hb dG_value_1 rfl (lv_at hl 1 rfl) ?_
  refine rg_callv hD hS hA (va_runV (As := [.int (nI j)]) (rest := []) ⟨hx, hb, hml, hown, hts⟩ (c_G_requireRevision n j (by omega) (by omega) _) (cwV 1 hts (rg_gV tw_399 tw_401 ts_G_requireRevision tw_1 tw_402) rfl rfl rfl (by decide +kernel) ⟨by rw [hR]; exact Nat.le_of_ble_eq_true rfl, by rw [hR]; exact Nat.le_of_ble_eq_true rfl⟩) (rg_preV rfl hK hP hD (ci := 1) (q0 := 0) rfl rfl) rfl rfl hl.1 rfl (lv_room (Nat.le_of_ble_eq_true rfl)) dG_value_2 ⟨Nat.zero_le _, Nat.zero_le _⟩) (fun u2 H locs hw3 hP hD hS => ?_)
  have hP : va_P (dC, dI) rg_cl (gw_W ad fo fa ur cI cL cF cA rec fp sp an nn (nI n) pt un uc (nI b) lc) H := hP
  have hD : va_D A (gw_W ad fo fa ur cI cL cF cA rec fp sp an nn (nI n) pt un uc (nI b) lc) := hD
  refine lv_iload_n hx hb dG_value_5 rfl (lv_at hl 2 rfl) ?_
  refine rg_ifN_lt (tgt := 15) hx hb dG_value_6 (by decide) (by omega) (fun h4 => h4.elim) (fun h4 => ?_)
  refine lv_iload_n hx hb dG_value_9 rfl (lv_at hl 2 rfl) ?_
  refine lv_bipush (v := nI 8) hx hb dG_value_10 (by decide) ?_
  refine rg_icmp_lt (tgt := 25) hx hb dG_value_12 (by decide) (by omega) (by omega) (fun h5 => ?_) (fun h5 => by exfalso; omega)
  refine lv_aload_n hx hb dG_value_25 rfl (lv_at hl 0 rfl) ?_
  refine va_get (D := (dC, dI)) (ci := 1) (C := "RevisionGrove") (T := TG) (N := 4) hx hb hts inG hown hK hP 0 rfl rfl 0 (by decide) (hts _ tw_86) (fun _ h9 => h9) rfl dG_value_26 ?_
  refine lv_iload_n hx hb dG_value_29 rfl (lv_at hl 1 rfl) ?_
  refine rg_calla hD hS hA (va_runV (As := [.int (nI j)]) (rest := []) ⟨hx, hb, hml, hown, hts⟩ (c_R_fields j (by omega) _) (cwV 1 hts (rg_gV tw_239 tw_240 tw_241 tw_2 tw_242) rfl rfl rfl (by decide +kernel) ⟨by rw [hR]; exact Nat.le_of_ble_eq_true rfl, by rw [hR]; exact Nat.le_of_ble_eq_true rfl⟩) (rg_preV rfl hK hP hD (ci := 2) (q0 := 1) rfl rfl) rfl rfl hl.1 rfl (lv_room (Nat.le_of_ble_eq_true rfl)) dG_value_30 ⟨Nat.zero_le _, Nat.zero_le _⟩) (fun H locs hP hD hS => ?_)
  have hP : va_P (dC, dI) rg_cl (gw_W ad fo fa ur cI cL cF cA rec fp sp an nn (nI n) pt un uc (nI b) lc) H := hP
  have hD : va_D A (gw_W ad fo fa ur cI cL cF cA rec fp sp an nn (nI n) pt un uc (nI b) lc) := hD
  refine lv_astore (lv' := [(4, .ref ((fo j))), (0, .ref ((ad 0))), (1, .int (nI j)), (2, .int (nI (k + 6))), (3, .int (nI x))]) hx hb dG_value_33 hl (by decide) rfl (fun ls hl => ?_)
  refine lv_iload_n hx hb dG_value_35 rfl (lv_at hl 3 rfl) ?_
  refine lv_bipush (v := nI 6) hx hb dG_value_36 (by decide) ?_
  refine rg_icmp_ge (tgt := 48) hx hb dG_value_38 (by decide) (by omega) (by omega) (fun h9 => ?_) (fun h9 => by exfalso; omega)
  refine lv_iload_n hx hb dG_value_48 rfl (lv_at hl 4 rfl) ?_
  refine lv_iconst (v := -1) hx hb dG_value_49 (by decide) ?_
  refine lv_icmp_ne (tgt := 61) hx hb dG_value_50 (by decide) (fun h10 => ?_) (fun h10 => absurd h10 (rg_nI_m1 (by omega)))
  refine lv_aload hx hb dG_value_61 (lv_at hl 0 rfl) ?_
  refine lv_iload_n hx hb dG_value_63 rfl (lv_at hl 3 rfl) ?_
  refine lv_iload_n hx hb dG_value_64 rfl (lv_at hl 4 rfl) ?_
  refine rg_calli hD hS hA (va_runV (As := [.int (nI (k + 6)), .int (nI x)]) (rest := []) ⟨hx, hb, hml, hown, hts⟩ (c_F_hasPlace j k l9.length (by omega) (by omega) hlq (nI x) _) (cwV 2 hts (rg_gV tw_356 tw_357 tw_358 tw_3 tw_359) rfl rfl rfl (by decide +kernel) ⟨by rw [hR]; exact Nat.le_of_ble_eq_true rfl, by rw [hR]; exact Nat.le_of_ble_eq_true rfl⟩) (rg_preV rfl hK hP hD (ci := 4) (q0 := (11 + (4 + j))) rfl (gw_obj (by omega))) rfl rfl hl.1 rfl (lv_room (Nat.le_of_ble_eq_true rfl)) dG_value_65 ⟨Nat.zero_le _, Nat.zero_le _⟩) (fun r11 u12 H locs hw13 hP hD hS => ?_)
  subst hw13
  have hP : va_P (dC, dI) rg_cl (gw_W ad fo fa ur cI cL cF cA rec fp sp an nn (nI n) pt un uc (nI b) lc) H := hP
  have hD : va_D A (gw_W ad fo fa ur cI cL cF cA rec fp sp an nn (nI n) pt un uc (nI b) lc) := hD
  refine rg_ifz_ne (tgt := 81) hx hb dG_value_68 (by decide) (fun h14 => ?_) (fun h14 => absurd ((rg_isR_ok (n := l9.length) (by omega) hxl).symm.trans h14) (by decide))
  refine lv_aload hx hb dG_value_81 (lv_at hl 0 rfl) ?_
  refine lv_iload_n hx hb dG_value_83 rfl (lv_at hl 3 rfl) ?_
  refine lv_iload_n hx hb dG_value_84 rfl (lv_at hl 4 rfl) ?_
  refine rg_calll hD hS hA (va_runV (As := [.int (nI (k + 6)), .int (nI x)]) (rest := []) ⟨hx, hb, hml, hown, hts⟩ (c_F_intAt j k x (by omega) (by omega) (by omega) _) (cwV 2 hts (rg_gV tw_565 tw_566 tw_567 tw_3 tw_568) rfl rfl rfl (by decide +kernel) ⟨by rw [hR]; exact Nat.le_of_ble_eq_true rfl, by rw [hR]; exact Nat.le_of_ble_eq_true rfl⟩) (rg_preV rfl hK hP hD (ci := 4) (q0 := (11 + (4 + j))) rfl (gw_obj (by omega))) rfl rfl hl.1 rfl (lv_room (Nat.le_of_ble_eq_true rfl)) dG_value_85 ⟨Nat.zero_le _, Nat.zero_le _⟩) (fun r15 u16 H locs hw17 hP hD hS => ?_)
  subst hw17
  have hP : va_P (dC, dI) rg_cl (gw_W ad fo fa ur cI cL cF cA rec fp sp an nn (nI n) pt un uc (nI b) lc) H := hP
  have hD : va_D A (gw_W ad fo fa ur cI cL cF cA rec fp sp an nn (nI n) pt un uc (nI b) lc) := hD
  rw [hQ]
  exact rg_lret hx hb hr hlk hK hP hD hS dG_value_88 (rec, fp, sp, an, nn, nI n, pt, un, uc, nI b, lc) rfl (⟨hrep, rfl, hq9.2.2.2.2.2 x (by omega)⟩)
set_option maxHeartbeats 4000000 in
set_option maxRecDepth 100000 in
theorem c_G_value_x {l : Launch} {dC : Nat → ClassId} {dI : Nat → Nat → Nat} {ad fo fa ur : Nat → Nat} {cI cL cF cA : ClassId} {rec : Nat → Nat → Int64} {fp : Nat → Int32} {sp : Nat → Int32} {an : Nat → Int64} {nn : Nat → Int32} {pt : Nat → Int32} {un : Nat → Nat → Int32} {uc : Nat → Int32} {lc : Int32} (hlt : l.stackTraces = false) (n b : Nat) (Rr : Nat → rg_R) (P1 P2 : Nat → Int32) (T : Nat → Nat) (U : Nat → List Nat) (x f i : Int32) (hB : rg_isR n x = false) (hrep : gw_Rep rec fp sp an (nI n) pt un uc (nI b) lc (n, Rr, P1, P2, T, U, b, lc)) : rx_M l yG_value (Cond.code yG_value prog_1_method_15_code 5 (some .long) :: rg_tbl) { frames := 7, cells := 1, slots := 6, locals := 111 } (dC, dI) rg_cl (gw_tys cI cL cF cA) (gw_W ad fo fa ur cI cL cF cA rec fp sp an nn (nI n) pt un uc (nI b) lc) [.ref ((ad 0)), .int x, .int f, .int i] (rg_QL (dC, dI) rg_cl (gw_tys cI cL cF cA) (S := Unit) (fun _ _ => False) (fun _ => gw_W ad fo fa ur cI cL cF cA rec fp sp an nn (nI n) pt un uc (nI b) lc)) (rx_X (dC, dI) rg_cl (gw_tys cI cL cF cA) (S := gw_S) (gw_Px "java/lang/IllegalArgumentException" (n, Rr, P1, P2, T, U, b, lc)) (fun u => gw_Wu ad fo fa ur cI cL cF cA u)) 1 6 := by
  refine rx_of prog_1_method_15_code 5 (some .long) (by decide) rfl (Nat.le_of_ble_eq_true rfl) ?_
  intro p e R s m args below meth c Q A H locs ls hR hQ hx hb hml hr hts hown hlk hnm hno hT hP hK hD hA hS hl
  have hl : lv_has ls 5 [(0, .ref ((ad 0))), (1, .int x), (2, .int f), (3, .int i)] := hl
  have hts : ∀ w ∈ rg_tbl, w.before args s = true := fun w h => hts w (List.mem_cons_of_mem _ h)
  refine lv_aload_n hx hb dG_value_0 rfl (lv_at hl 0 rfl) ?_
  refine lv_iload_n hx hb dG_value_1 rfl (lv_at hl 1 rfl) ?_
  exact rx_callv hQ (fun E u h => ⟨(rec, fp, sp, an, nn, nI n, pt, un, uc, nI b, lc), ⟨h, hrep⟩, rfl⟩) hno hlk hD hS hA (Nat.le_of_ble_eq_true rfl) (Nat.le_of_ble_eq_true rfl) (vx_runV (As := [.int x]) (rest := []) ⟨hx, hb, hml, hown, hts⟩ (c_G_requireRevision_x hlt n x hB _) (cwV 1 hts (rg_gV tw_399 tw_401 ts_G_requireRevision tw_1 tw_402) rfl rfl rfl (by decide +kernel) ⟨(by rw [hR]; exact Nat.le_of_ble_eq_true rfl), (by rw [hR]; exact Nat.le_of_ble_eq_true rfl)⟩) (rx_preV rfl hT hS hA hK hP hD (ci := 1) (q0 := 0) rfl rfl) rfl rfl hl.1 rfl (lv_room (Nat.le_of_ble_eq_true rfl)) dG_value_2 ⟨(by rw [hR]; exact Nat.le_of_ble_eq_true rfl), (by rw [hR]; exact Nat.le_of_ble_eq_true rfl)⟩) (fun _ _ _ h9 => h9.elim)
set_option maxHeartbeats 4000000 in
set_option maxRecDepth 100000 in
theorem c_G_value_xf {l : Launch} {dC : Nat → ClassId} {dI : Nat → Nat → Nat} {ad fo fa ur : Nat → Nat} {cI cL cF cA : ClassId} {rec : Nat → Nat → Int64} {fp : Nat → Int32} {sp : Nat → Int32} {an : Nat → Int64} {nn : Nat → Int32} {pt : Nat → Int32} {un : Nat → Nat → Int32} {uc : Nat → Int32} {lc : Int32} (hlt : l.stackTraces = false) (n b : Nat) (Rr : Nat → rg_R) (P1 P2 : Nat → Int32) (T : Nat → Nat) (U : Nat → List Nat) (j : Nat) (hjn : j < n) (f i : Int32) (hf0 : f < 0 ∨ 7 < f) (hrep : gw_Rep rec fp sp an (nI n) pt un uc (nI b) lc (n, Rr, P1, P2, T, U, b, lc)) : rx_M l yG_value (Cond.code yG_value prog_1_method_15_code 5 (some .long) :: rg_tbl) { frames := 7, cells := 1, slots := 6, locals := 111 } (dC, dI) rg_cl (gw_tys cI cL cF cA) (gw_W ad fo fa ur cI cL cF cA rec fp sp an nn (nI n) pt un uc (nI b) lc) [.ref ((ad 0)), .int (nI j), .int f, .int i] (rg_QL (dC, dI) rg_cl (gw_tys cI cL cF cA) (S := Unit) (fun _ _ => False) (fun _ => gw_W ad fo fa ur cI cL cF cA rec fp sp an nn (nI n) pt un uc (nI b) lc)) (rx_X (dC, dI) rg_cl (gw_tys cI cL cF cA) (S := gw_S) (gw_Px "java/lang/IllegalArgumentException" (n, Rr, P1, P2, T, U, b, lc)) (fun u => gw_Wu ad fo fa ur cI cL cF cA u)) 1 6 := by
  refine rx_of prog_1_method_15_code 5 (some .long) (by decide) rfl (Nat.le_of_ble_eq_true rfl) ?_
  intro p e R s m args below meth c Q A H locs ls hR hQ hx hb hml hr hts hown hlk hnm hno hT hP hK hD hA hS hl
  have hl : lv_has ls 5 [(0, .ref ((ad 0))), (1, .int (nI j)), (2, .int f), (3, .int i)] := hl
  have hts : ∀ w ∈ rg_tbl, w.before args s = true := fun w h => hts w (List.mem_cons_of_mem _ h)
  have hok := hrep.1
  have hn1 : 1 ≤ n := hok.1
  have hn60 : n ≤ 60 := hok.2.1
  have hb4 : b < 4 := hok.2.2.2.2.2.2.2.1
  have hTb : T b < n := (hok.2.2.2.2.2.2.1 b hb4).1
  have hpt : pt b = nI (T b) := (hrep.2.2.2.2.2.2 b hb4).1
  have hyc : rg_CR (rec (T b)) (Rr (T b)) := hrep.2.2.2.2.1 (T b) hTb
  refine lv_aload_n hx hb dG_value_0 rfl (lv_at hl 0 rfl) ?_
  refine lv_iload_n hx hb dG_value_1 rfl (lv_at hl 1 rfl) ?_
  refine rg_callv hD hS hA (va_runV (As := [.int (nI j)]) (rest := []) ⟨hx, hb, hml, hown, hts⟩ (c_G_requireRevision n j (by omega) (by omega) _) (cwV 1 hts (rg_gV tw_399 tw_401 ts_G_requireRevision tw_1 tw_402) rfl rfl rfl (by decide +kernel) ⟨by rw [hR]; exact Nat.le_of_ble_eq_true rfl, by rw [hR]; exact Nat.le_of_ble_eq_true rfl⟩) (rg_preV rfl hK hP hD (ci := 1) (q0 := 0) rfl rfl) rfl rfl hl.1 rfl (lv_room (Nat.le_of_ble_eq_true rfl)) dG_value_2 ⟨Nat.zero_le _, Nat.zero_le _⟩) (fun u2 H locs hw3 hP hD hS => ?_)
  have hP : va_P (dC, dI) rg_cl (gw_W ad fo fa ur cI cL cF cA rec fp sp an nn (nI n) pt un uc (nI b) lc) H := hP
  have hD : va_D A (gw_W ad fo fa ur cI cL cF cA rec fp sp an nn (nI n) pt un uc (nI b) lc) := hD
  refine lv_iload_n hx hb dG_value_5 rfl (lv_at hl 2 rfl) ?_
  refine lv_if_lt (tgt := 15) hx hb dG_value_6 (by decide) (fun h4 => ?_) (fun h4 => ?_)
  · rw [hQ]
    exact rx_throw (cls := "java/lang/IllegalArgumentException") (text := "no such field") (rec, fp, sp, an, nn, nI n, pt, un, uc, nI b, lc) (⟨rfl, hrep⟩) rfl hx hb hlt hown hts hT hno (by decide +kernel) rx_clA rx_itA rx_inA rx_bdA rx_gdA (by decide +kernel) hK hP hD hS (hl.1.trans hml.symm) dG_value_15 dG_value_18 dG_value_19 dG_value_21 dG_value_24 (by rw [hR]; exact Nat.le_of_ble_eq_true rfl) (by rw [hR]; exact Nat.le_of_ble_eq_true rfl) (by rw [hR]; exact Nat.le_of_ble_eq_true rfl) (by rw [hR]; exact Nat.le_of_ble_eq_true rfl) hlk (Nat.le_of_ble_eq_true rfl) (Nat.le_of_ble_eq_true rfl)
  · refine lv_iload_n hx hb dG_value_9 rfl (lv_at hl 2 rfl) ?_
    refine lv_bipush (v := nI 8) hx hb dG_value_10 (by decide) ?_
    refine lv_icmp_lt (tgt := 25) hx hb dG_value_12 (by decide) (fun h5 => absurd hf0 (fun q => q.elim h4 (fun q => rg_78 q h5))) (fun h5 => ?_)
    rw [hQ]
    exact rx_throw (cls := "java/lang/IllegalArgumentException") (text := "no such field") (rec, fp, sp, an, nn, nI n, pt, un, uc, nI b, lc) (⟨rfl, hrep⟩) rfl hx hb hlt hown hts hT hno (by decide +kernel) rx_clA rx_itA rx_inA rx_bdA rx_gdA (by decide +kernel) hK hP hD hS (hl.1.trans hml.symm) dG_value_15 dG_value_18 dG_value_19 dG_value_21 dG_value_24 (by rw [hR]; exact Nat.le_of_ble_eq_true rfl) (by rw [hR]; exact Nat.le_of_ble_eq_true rfl) (by rw [hR]; exact Nat.le_of_ble_eq_true rfl) (by rw [hR]; exact Nat.le_of_ble_eq_true rfl) hlk (Nat.le_of_ble_eq_true rfl) (Nat.le_of_ble_eq_true rfl)
set_option maxHeartbeats 4000000 in
set_option maxRecDepth 100000 in
theorem c_G_value_xi {l : Launch} {dC : Nat → ClassId} {dI : Nat → Nat → Nat} {ad fo fa ur : Nat → Nat} {cI cL cF cA : ClassId} {rec : Nat → Nat → Int64} {fp : Nat → Int32} {sp : Nat → Int32} {an : Nat → Int64} {nn : Nat → Int32} {pt : Nat → Int32} {un : Nat → Nat → Int32} {uc : Nat → Int32} {lc : Int32} (hlt : l.stackTraces = false) (n b : Nat) (Rr : Nat → rg_R) (P1 P2 : Nat → Int32) (T : Nat → Nat) (U : Nat → List Nat) (j k : Nat) (hjn : j < n) (hk2 : k < 2) (l9 : List Int32) (hl9 : (Rr j).2.2.2 k = l9) (x : Int32) (hxm : ¬ x = -1) (hx0 : x < 0 ∨ nI l9.length ≤ x) (hrep : gw_Rep rec fp sp an (nI n) pt un uc (nI b) lc (n, Rr, P1, P2, T, U, b, lc)) : rx_M l yG_value (Cond.code yG_value prog_1_method_15_code 5 (some .long) :: rg_tbl) { frames := 7, cells := 1, slots := 6, locals := 111 } (dC, dI) rg_cl (gw_tys cI cL cF cA) (gw_W ad fo fa ur cI cL cF cA rec fp sp an nn (nI n) pt un uc (nI b) lc) [.ref ((ad 0)), .int (nI j), .int (nI (k + 6)), .int x] (rg_QL (dC, dI) rg_cl (gw_tys cI cL cF cA) (S := Unit) (fun _ _ => False) (fun _ => gw_W ad fo fa ur cI cL cF cA rec fp sp an nn (nI n) pt un uc (nI b) lc)) (rx_X (dC, dI) rg_cl (gw_tys cI cL cF cA) (S := gw_S) (gw_Px "java/lang/IndexOutOfBoundsException" (n, Rr, P1, P2, T, U, b, lc)) (fun u => gw_Wu ad fo fa ur cI cL cF cA u)) 1 6 := by
  refine rx_of prog_1_method_15_code 5 (some .long) (by decide) rfl (Nat.le_of_ble_eq_true rfl) ?_
  intro p e R s m args below meth c Q A H locs ls hR hQ hx hb hml hr hts hown hlk hnm hno hT hP hK hD hA hS hl
  have hl : lv_has ls 5 [(0, .ref ((ad 0))), (1, .int (nI j)), (2, .int (nI (k + 6))), (3, .int x)] := hl
  have hts : ∀ w ∈ rg_tbl, w.before args s = true := fun w h => hts w (List.mem_cons_of_mem _ h)
  have hok := hrep.1
  have hn1 : 1 ≤ n := hok.1
  have hn60 : n ≤ 60 := hok.2.1
  have hb4 : b < 4 := hok.2.2.2.2.2.2.2.1
  have hTb : T b < n := (hok.2.2.2.2.2.2.1 b hb4).1
  have hpt : pt b = nI (T b) := (hrep.2.2.2.2.2.2 b hb4).1
  have hyc : rg_CR (rec (T b)) (Rr (T b)) := hrep.2.2.2.2.1 (T b) hTb
  have hyj : rg_CR (rec j) (Rr j) := hrep.2.2.2.2.1 j hjn
  have hq9 := hyj k hk2
  rw [hl9] at hq9
  have hlq := hq9.2.2.2.2.1
  have hl89 := hq9.2.2.2.1
  refine lv_aload_n hx hb dG_value_0 rfl (lv_at hl 0 rfl) ?_
  refine lv_iload_n hx hb dG_value_1 rfl (lv_at hl 1 rfl) ?_
  refine rg_callv hD hS hA (va_runV (As := [.int (nI j)]) (rest := []) ⟨hx, hb, hml, hown, hts⟩ (c_G_requireRevision n j (by omega) (by omega) _) (cwV 1 hts (rg_gV tw_399 tw_401 ts_G_requireRevision tw_1 tw_402) rfl rfl rfl (by decide +kernel) ⟨by rw [hR]; exact Nat.le_of_ble_eq_true rfl, by rw [hR]; exact Nat.le_of_ble_eq_true rfl⟩) (rg_preV rfl hK hP hD (ci := 1) (q0 := 0) rfl rfl) rfl rfl hl.1 rfl (lv_room (Nat.le_of_ble_eq_true rfl)) dG_value_2 ⟨Nat.zero_le _, Nat.zero_le _⟩) (fun u2 H locs hw3 hP hD hS => ?_)
  have hP : va_P (dC, dI) rg_cl (gw_W ad fo fa ur cI cL cF cA rec fp sp an nn (nI n) pt un uc (nI b) lc) H := hP
  have hD : va_D A (gw_W ad fo fa ur cI cL cF cA rec fp sp an nn (nI n) pt un uc (nI b) lc) := hD
  refine lv_iload_n hx hb dG_value_5 rfl (lv_at hl 2 rfl) ?_
  refine rg_ifN_lt (tgt := 15) hx hb dG_value_6 (by decide) (by omega) (fun h4 => h4.elim) (fun h4 => ?_)
  refine lv_iload_n hx hb dG_value_9 rfl (lv_at hl 2 rfl) ?_
  refine lv_bipush (v := nI 8) hx hb dG_value_10 (by decide) ?_
  refine rg_icmp_lt (tgt := 25) hx hb dG_value_12 (by decide) (by omega) (by omega) (fun h5 => ?_) (fun h5 => by exfalso; omega)
  refine lv_aload_n hx hb dG_value_25 rfl (lv_at hl 0 rfl) ?_
  refine va_get (D := (dC, dI)) (ci := 1) (C := "RevisionGrove") (T := TG) (N := 4) hx hb hts inG hown hK hP 0 rfl rfl 0 (by decide) (hts _ tw_86) (fun _ h9 => h9) rfl dG_value_26 ?_
  refine lv_iload_n hx hb dG_value_29 rfl (lv_at hl 1 rfl) ?_
  refine rg_calla hD hS hA (va_runV (As := [.int (nI j)]) (rest := []) ⟨hx, hb, hml, hown, hts⟩ (c_R_fields j (by omega) _) (cwV 1 hts (rg_gV tw_239 tw_240 tw_241 tw_2 tw_242) rfl rfl rfl (by decide +kernel) ⟨by rw [hR]; exact Nat.le_of_ble_eq_true rfl, by rw [hR]; exact Nat.le_of_ble_eq_true rfl⟩) (rg_preV rfl hK hP hD (ci := 2) (q0 := 1) rfl rfl) rfl rfl hl.1 rfl (lv_room (Nat.le_of_ble_eq_true rfl)) dG_value_30 ⟨Nat.zero_le _, Nat.zero_le _⟩) (fun H locs hP hD hS => ?_)
  have hP : va_P (dC, dI) rg_cl (gw_W ad fo fa ur cI cL cF cA rec fp sp an nn (nI n) pt un uc (nI b) lc) H := hP
  have hD : va_D A (gw_W ad fo fa ur cI cL cF cA rec fp sp an nn (nI n) pt un uc (nI b) lc) := hD
  refine lv_astore (lv' := [(4, .ref ((fo j))), (0, .ref ((ad 0))), (1, .int (nI j)), (2, .int (nI (k + 6))), (3, .int x)]) hx hb dG_value_33 hl (by decide) rfl (fun ls hl => ?_)
  refine lv_iload_n hx hb dG_value_35 rfl (lv_at hl 3 rfl) ?_
  refine lv_bipush (v := nI 6) hx hb dG_value_36 (by decide) ?_
  refine rg_icmp_ge (tgt := 48) hx hb dG_value_38 (by decide) (by omega) (by omega) (fun h9 => ?_) (fun h9 => by exfalso; omega)
  refine lv_iload_n hx hb dG_value_48 rfl (lv_at hl 4 rfl) ?_
  refine lv_iconst (v := -1) hx hb dG_value_49 (by decide) ?_
  refine lv_icmp_ne (tgt := 61) hx hb dG_value_50 (by decide) (fun h10 => ?_) (fun h10 => absurd h10 hxm)
  refine lv_aload hx hb dG_value_61 (lv_at hl 0 rfl) ?_
  refine lv_iload_n hx hb dG_value_63 rfl (lv_at hl 3 rfl) ?_
  refine lv_iload_n hx hb dG_value_64 rfl (lv_at hl 4 rfl) ?_
  refine rg_calli hD hS hA (va_runV (As := [.int (nI (k + 6)), .int x]) (rest := []) ⟨hx, hb, hml, hown, hts⟩ (c_F_hasPlace j k l9.length (by omega) (by omega) hlq x _) (cwV 2 hts (rg_gV tw_356 tw_357 tw_358 tw_3 tw_359) rfl rfl rfl (by decide +kernel) ⟨by rw [hR]; exact Nat.le_of_ble_eq_true rfl, by rw [hR]; exact Nat.le_of_ble_eq_true rfl⟩) (rg_preV rfl hK hP hD (ci := 4) (q0 := (11 + (4 + j))) rfl (gw_obj (by omega))) rfl rfl hl.1 rfl (lv_room (Nat.le_of_ble_eq_true rfl)) dG_value_65 ⟨Nat.zero_le _, Nat.zero_le _⟩) (fun r11 u12 H locs hw13 hP hD hS => ?_)
  subst hw13
  have hP : va_P (dC, dI) rg_cl (gw_W ad fo fa ur cI cL cF cA rec fp sp an nn (nI n) pt un uc (nI b) lc) H := hP
  have hD : va_D A (gw_W ad fo fa ur cI cL cF cA rec fp sp an nn (nI n) pt un uc (nI b) lc) := hD
  refine rg_ifz_ne (tgt := 81) hx hb dG_value_68 (by decide) (fun h14 => absurd ((rg_isR_no hx0).symm.trans h14) (by decide)) (fun h14 => ?_)
  rw [hQ]
  exact rx_throw (cls := "java/lang/IndexOutOfBoundsException") (text := "no int at this place") (rec, fp, sp, an, nn, nI n, pt, un, uc, nI b, lc) (⟨rfl, hrep⟩) rfl hx hb hlt hown hts hT hno (by decide +kernel) rx_clB rx_itB rx_inB rx_bdB rx_gdB (by decide +kernel) hK hP hD hS (hl.1.trans hml.symm) dG_value_71 dG_value_74 dG_value_75 dG_value_77 dG_value_80 (by rw [hR]; exact Nat.le_of_ble_eq_true rfl) (by rw [hR]; exact Nat.le_of_ble_eq_true rfl) (by rw [hR]; exact Nat.le_of_ble_eq_true rfl) (by rw [hR]; exact Nat.le_of_ble_eq_true rfl) hlk (Nat.le_of_ble_eq_true rfl) (Nat.le_of_ble_eq_true rfl)
