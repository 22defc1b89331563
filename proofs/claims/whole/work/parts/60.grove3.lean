set_option maxHeartbeats 4000000 in
set_option maxRecDepth 100000 in
theorem c_G_add_s {l : Launch} {dC : Nat → ClassId} {dI : Nat → Nat → Nat} {ad fo fa ur : Nat → Nat} {cI cL cF cA : ClassId} {rec : Nat → Nat → Int64} {fp : Nat → Int32} {sp : Nat → Int32} {an : Nat → Int64} {nn : Nat → Int32} {pt : Nat → Int32} {un : Nat → Nat → Int32} {uc : Nat → Int32} {lc : Int32} (n b : Nat) (Rr : Nat → rg_R) (P1 P2 : Nat → Int32) (T : Nat → Nat) (U : Nat → List Nat) (k : Nat) (hk2 : k < 2) (v : Int32) (hs : rg_sf (rg_setK (Rr (T b)) k ((Rr (T b)).2.1 k + v.toInt64)) (Rr (T b)) (k + 2) = true) (hrep : gw_Rep rec fp sp an (nI n) pt un uc (nI b) lc (n, Rr, P1, P2, T, U, b, lc)) : rg_M l yG_add (Cond.code yG_add prog_1_method_3_code 3 (some .int) :: rg_tbl) { frames := 5, cells := 0, slots := 0, locals := 118 } (dC, dI) rg_cl (gw_tys cI cL cF cA) (gw_W ad fo fa ur cI cL cF cA rec fp sp an nn (nI n) pt un uc (nI b) lc) [.ref ((ad 0)), .int (nI (k + 2)), .int v] (rg_QI (dC, dI) rg_cl (gw_tys cI cL cF cA) (S := gw_S) (gw_Po (rg_chg 2 (n, Rr, P1, P2, T, U, b, lc) (rg_setK (Rr (T b)) k ((Rr (T b)).2.1 k + v.toInt64)))) (fun u => gw_Wu ad fo fa ur cI cL cF cA u)) 0 0 := by
  refine rg_of prog_1_method_3_code 3 (some .int) (by decide) rfl (Nat.le_of_ble_eq_true rfl) ?_
  intro p e R s m args below meth c Q A H locs ls hR hQ hx hb hml hr hts hown hlk hnm hP hK hD hA hS hl
  have hl : lv_has ls 3 [(0, .ref ((ad 0))), (1, .int (nI (k + 2))), (2, .int v)] := hl
  have hts : ∀ w ∈ rg_tbl, w.before args s = true := fun w h => hts w (List.mem_cons_of_mem _ h)
  have hok := hrep.1
  have hn1 : 1 ≤ n := hok.1
  have hn60 : n ≤ 60 := hok.2.1
  have hb4 : b < 4 := hok.2.2.2.2.2.2.2.1
  have hTb : T b < n := (hok.2.2.2.2.2.2.1 b hb4).1
  have hpt : pt b = nI (T b) := (hrep.2.2.2.2.2.2 b hb4).1
  have hyc : rg_CR (rec (T b)) (Rr (T b)) := hrep.2.2.2.2.1 (T b) hTb
  refine lv_iload_n hx hb dG_add_0 rfl (lv_at hl 1 rfl) ?_
  refine lv_iconst (v := nI 2) hx hb dG_add_1 (by decide) ?_
  refine rg_callv hD hS hA (va_runS (As := [.int (nI (k + 2)), .int (nI 2)]) (rest := []) ⟨hx, hb, hml, hown, hts⟩ (c_G_requireKind (k + 2) 2 (by omega) (by omega) _) (va_cwS 2 hts (rg_gSx tw_159 tw_160 tw_1 tw_161) rfl rfl rfl (by decide +kernel) ⟨by rw [hR]; exact Nat.le_of_ble_eq_true rfl, by rw [hR]; exact Nat.le_of_ble_eq_true rfl⟩) (rg_preS rfl hK hP hD) rfl rfl hl.1 rfl (lv_room (Nat.le_of_ble_eq_true rfl)) dG_add_2 ⟨Nat.zero_le _, Nat.zero_le _⟩) (fun u2 H locs hw3 hP hD hS => ?_)
  have hP : va_P (dC, dI) rg_cl (gw_W ad fo fa ur cI cL cF cA rec fp sp an nn (nI n) pt un uc (nI b) lc) H := hP
  have hD : va_D A (gw_W ad fo fa ur cI cL cF cA rec fp sp an nn (nI n) pt un uc (nI b) lc) := hD
  refine lv_aload_n hx hb dG_add_5 rfl (lv_at hl 0 rfl) ?_
  refine rg_callv hD hS hA (va_runV (As := []) (rest := []) ⟨hx, hb, hml, hown, hts⟩ (c_G_draftPresent b (T b) (by omega) (by omega) hpt _) (cwV 0 hts (rg_gV tw_231 tw_233 ts_G_draftPresent tw_1 tw_234) rfl rfl rfl (by decide +kernel) ⟨by rw [hR]; exact Nat.le_of_ble_eq_true rfl, by rw [hR]; exact Nat.le_of_ble_eq_true rfl⟩) (rg_preV rfl hK hP hD (ci := 1) (q0 := 0) rfl rfl) rfl rfl hl.1 rfl (lv_room (Nat.le_of_ble_eq_true rfl)) dG_add_6 ⟨Nat.zero_le _, Nat.zero_le _⟩) (fun u5 H locs hw6 hP hD hS => ?_)
  have hP : va_P (dC, dI) rg_cl (gw_W ad fo fa ur cI cL cF cA (va_up rec 60 (va_cpy (rec (T b)) (rec 60) 0 0 24)) fp sp an nn (nI n) pt un uc (nI b) lc) H := hP
  have hD : va_D A (gw_W ad fo fa ur cI cL cF cA (va_up rec 60 (va_cpy (rec (T b)) (rec 60) 0 0 24)) fp sp an nn (nI n) pt un uc (nI b) lc) := hD
  refine lv_aload_n hx hb dG_add_9 rfl (lv_at hl 0 rfl) ?_
  refine va_get (D := (dC, dI)) (ci := 1) (C := "RevisionGrove") (T := TG) (N := 4) hx hb hts inG hown hK hP 0 rfl rfl 2 (by decide) (hts _ tw_88) (fun _ h9 => h9) rfl dG_add_10 ?_
  refine lv_iload_n hx hb dG_add_13 rfl (lv_at hl 1 rfl) ?_
  refine lv_aload_n hx hb dG_add_14 rfl (lv_at hl 0 rfl) ?_
  refine va_get (D := (dC, dI)) (ci := 1) (C := "RevisionGrove") (T := TG) (N := 4) hx hb hts inG hown hK hP 0 rfl rfl 2 (by decide) (hts _ tw_88) (fun _ h9 => h9) rfl dG_add_15 ?_
  refine lv_iload_n hx hb dG_add_18 rfl (lv_at hl 1 rfl) ?_
  refine rg_calll hD hS hA (va_runV (As := [.int (nI (k + 2))]) (rest := [.int (nI (k + 2)), .ref ((fo 60))]) ⟨hx, hb, hml, hown, hts⟩ (c_F_cell 60 (k + 2) (by omega) (by omega) _) (cwV 1 hts (rg_gV tw_302 tw_303 tw_304 tw_3 tw_305) rfl rfl rfl (by decide +kernel) ⟨by rw [hR]; exact Nat.le_of_ble_eq_true rfl, by rw [hR]; exact Nat.le_of_ble_eq_true rfl⟩) (rg_preV rfl hK hP hD (ci := 4) (q0 := (11 + (4 + 60))) rfl (gw_obj (by omega))) rfl rfl hl.1 rfl (lv_room (Nat.le_of_ble_eq_true rfl)) dG_add_19 ⟨Nat.zero_le _, Nat.zero_le _⟩) (fun r7 u8 H locs hw9 hP hD hS => ?_)
  subst hw9
  have hP : va_P (dC, dI) rg_cl (gw_W ad fo fa ur cI cL cF cA (va_up rec 60 (va_cpy (rec (T b)) (rec 60) 0 0 24)) fp sp an nn (nI n) pt un uc (nI b) lc) H := hP
  have hD : va_D A (gw_W ad fo fa ur cI cL cF cA (va_up rec 60 (va_cpy (rec (T b)) (rec 60) 0 0 24)) fp sp an nn (nI n) pt un uc (nI b) lc) := hD
  refine lv_iload_n hx hb dG_add_22 rfl (lv_at hl 2 rfl) ?_
  refine lv_i2l (v := v.toInt64) hx hb dG_add_23 rfl ?_
  refine lv_ladd hx hb dG_add_24 ?_
  refine rg_callv hD hS hA (va_runV (As := [.int (nI (k + 2)), .long (((va_up rec 60 (va_cpy (rec (T b)) (rec 60) 0 0 24)) 60 (k + 2)) + v.toInt64)]) (rest := []) ⟨hx, hb, hml, hown, hts⟩ (c_F_setCell 60 (k + 2) (by omega) (by omega) (((va_up rec 60 (va_cpy (rec (T b)) (rec 60) 0 0 24)) 60 (k + 2)) + v.toInt64) _) (cwV 2 hts (rg_gV tw_244 tw_245 tw_246 tw_3 tw_247) rfl rfl rfl (by decide +kernel) ⟨by rw [hR]; exact Nat.le_of_ble_eq_true rfl, by rw [hR]; exact Nat.le_of_ble_eq_true rfl⟩) (rg_preV rfl hK hP hD (ci := 4) (q0 := (11 + (4 + 60))) rfl (gw_obj (by omega))) rfl rfl hl.1 rfl (lv_room (Nat.le_of_ble_eq_true rfl)) dG_add_25 ⟨Nat.zero_le _, Nat.zero_le _⟩) (fun u11 H locs hw12 hP hD hS => ?_)
  have hP : va_P (dC, dI) rg_cl (gw_W ad fo fa ur cI cL cF cA (va_up (va_up rec 60 (va_cpy (rec (T b)) (rec 60) 0 0 24)) 60 (vp_updL ((va_up rec 60 (va_cpy (rec (T b)) (rec 60) 0 0 24)) 60) (k + 2) (((va_up rec 60 (va_cpy (rec (T b)) (rec 60) 0 0 24)) 60 (k + 2)) + v.toInt64))) fp sp an nn (nI n) pt un uc (nI b) lc) H := hP
  have hD : va_D A (gw_W ad fo fa ur cI cL cF cA (va_up (va_up rec 60 (va_cpy (rec (T b)) (rec 60) 0 0 24)) 60 (vp_updL ((va_up rec 60 (va_cpy (rec (T b)) (rec 60) 0 0 24)) 60) (k + 2) (((va_up rec 60 (va_cpy (rec (T b)) (rec 60) 0 0 24)) 60 (k + 2)) + v.toInt64))) fp sp an nn (nI n) pt un uc (nI b) lc) := hD
  obtain ⟨d9, hd9⟩ : ∃ d9, d9 = (va_up (va_up rec 60 (va_cpy (rec (T b)) (rec 60) 0 0 24)) 60 (vp_updL ((va_up rec 60 (va_cpy (rec (T b)) (rec 60) 0 0 24)) 60) (k + 2) (((va_up rec 60 (va_cpy (rec (T b)) (rec 60) 0 0 24)) 60 (k + 2)) + v.toInt64))) 60 := ⟨_, rfl⟩
  have hrc9 : va_up (va_up rec 60 (va_cpy (rec (T b)) (rec 60) 0 0 24)) 60 (vp_updL ((va_up rec 60 (va_cpy (rec (T b)) (rec 60) 0 0 24)) 60) (k + 2) (((va_up rec 60 (va_cpy (rec (T b)) (rec 60) 0 0 24)) 60 (k + 2)) + v.toInt64)) = va_up rec 60 d9 := by rw [hd9]; simp only [rg_upup, rg_ups]
  rw [hrc9] at hP hD
  simp only [rg_ups] at hd9
  have hP : va_P (dC, dI) rg_cl (gw_W ad fo fa ur cI cL cF cA (va_up rec 60 d9) fp sp an nn (nI n) pt un uc (nI b) lc) H := hP
  have hD : va_D A (gw_W ad fo fa ur cI cL cF cA (va_up rec 60 d9) fp sp an nn (nI n) pt un uc (nI b) lc) := hD
  have hX9 : rg_CR d9 (rg_setK (Rr (T b)) k ((Rr (T b)).2.1 k + v.toInt64)) := by rw [hd9]; exact (by rw [(rg_CR_cpy (d' := rec 60) hyc k hk2).2.1]; exact rg_CR_setK (rg_CR_cpy hyc) hk2)
  have hXc : rg_CR ((va_up rec 60 d9) 60) (rg_setK (Rr (T b)) k ((Rr (T b)).2.1 k + v.toInt64)) := by rw [rg_ups]; exact hX9
  have hYc : rg_CR ((va_up rec 60 d9) (T b)) (Rr (T b)) := by rw [rg_upn _ _ (by omega)]; exact hyc
  have hr9 : gw_Rep (va_up rec 60 d9) fp sp an (nI n) pt un uc (nI b) lc (n, Rr, P1, P2, T, U, b, lc) := gw_Rep_rec hrep (fun r9 h9 => rg_upn _ _ (by have h9 : r9 < n := h9; omega))
  refine lv_aload_n hx hb dG_add_28 rfl (lv_at hl 0 rfl) ?_
  refine lv_iload_n hx hb dG_add_29 rfl (lv_at hl 1 rfl) ?_
  refine rg_calli hD hS hA (va_runV (As := [.int (nI (k + 2))]) (rest := []) ⟨hx, hb, hml, hown, hts⟩ (c_G_comeToChanged_s n b (T b) (k + 2) (by omega) (by omega) (by omega) (by omega) hpt (rg_setK (Rr (T b)) k ((Rr (T b)).2.1 k + v.toInt64)) (Rr (T b)) hXc hYc hs _) (cwV 1 hts (rg_gV tw_248 tw_250 ts_G_comeToChanged tw_1 tw_251) rfl rfl rfl (by decide +kernel) ⟨by rw [hR]; exact Nat.le_of_ble_eq_true rfl, by rw [hR]; exact Nat.le_of_ble_eq_true rfl⟩) (rg_preV rfl hK hP hD (ci := 1) (q0 := 0) rfl rfl) rfl rfl hl.1 rfl (lv_room (Nat.le_of_ble_eq_true rfl)) dG_add_30 ⟨Nat.zero_le _, Nat.zero_le _⟩) (fun r13 u14 H locs hw15 hP hD hS => ?_)
  subst hw15
  have hP : va_P (dC, dI) rg_cl (gw_W ad fo fa ur cI cL cF cA (va_up rec 60 d9) fp sp an nn (nI n) pt un uc (nI b) lc) H := hP
  have hD : va_D A (gw_W ad fo fa ur cI cL cF cA (va_up rec 60 d9) fp sp an nn (nI n) pt un uc (nI b) lc) := hD
  rw [hQ]
  exact rg_iret hx hb hr hlk hK hP hD hS dG_add_33 (va_up rec 60 d9, fp, sp, an, nn, nI n, pt, un, uc, nI b, lc) rfl (by rw [rg_chg_same (g := (n, Rr, P1, P2, T, U, b, lc)) ((rg_one_diff (f := k + 2) (by omega) (rg_sf_setK hk2)).mpr hs)]; exact ⟨hr9, rfl, rfl⟩)
set_option maxHeartbeats 4000000 in
set_option maxRecDepth 100000 in
theorem c_G_add_n {l : Launch} {dC : Nat → ClassId} {dI : Nat → Nat → Nat} {ad fo fa ur : Nat → Nat} {cI cL cF cA : ClassId} {rec : Nat → Nat → Int64} {fp : Nat → Int32} {sp : Nat → Int32} {an : Nat → Int64} {nn : Nat → Int32} {pt : Nat → Int32} {un : Nat → Nat → Int32} {uc : Nat → Int32} {lc : Int32} (n b : Nat) (Rr : Nat → rg_R) (P1 P2 : Nat → Int32) (T : Nat → Nat) (U : Nat → List Nat) (k : Nat) (hk2 : k < 2) (v : Int32) (hs : rg_sf (rg_setK (Rr (T b)) k ((Rr (T b)).2.1 k + v.toInt64)) (Rr (T b)) (k + 2) = false) (hn9 : n < 60) (hrep : gw_Rep rec fp sp an (nI n) pt un uc (nI b) lc (n, Rr, P1, P2, T, U, b, lc)) : rg_M l yG_add (Cond.code yG_add prog_1_method_3_code 3 (some .int) :: rg_tbl) { frames := 5, cells := 0, slots := 0, locals := 118 } (dC, dI) rg_cl (gw_tys cI cL cF cA) (gw_W ad fo fa ur cI cL cF cA rec fp sp an nn (nI n) pt un uc (nI b) lc) [.ref ((ad 0)), .int (nI (k + 2)), .int v] (rg_QI (dC, dI) rg_cl (gw_tys cI cL cF cA) (S := gw_S) (gw_Po (rg_chg 2 (n, Rr, P1, P2, T, U, b, lc) (rg_setK (Rr (T b)) k ((Rr (T b)).2.1 k + v.toInt64)))) (fun u => gw_Wu ad fo fa ur cI cL cF cA u)) 0 0 := by
  refine rg_of prog_1_method_3_code 3 (some .int) (by decide) rfl (Nat.le_of_ble_eq_true rfl) ?_
  intro p e R s m args below meth c Q A H locs ls hR hQ hx hb hml hr hts hown hlk hnm hP hK hD hA hS hl
  have hl : lv_has ls 3 [(0, .ref ((ad 0))), (1, .int (nI (k + 2))), (2, .int v)] := hl
  have hts : ∀ w ∈ rg_tbl, w.before args s = true := fun w h => hts w (List.mem_cons_of_mem _ h)
  have hok := hrep.1
  have hn1 : 1 ≤ n := hok.1
  have hn60 : n ≤ 60 := hok.2.1
  have hb4 : b < 4 := hok.2.2.2.2.2.2.2.1
  have hTb : T b < n := (hok.2.2.2.2.2.2.1 b hb4).1
  have hpt : pt b = nI (T b) := (hrep.2.2.2.2.2.2 b hb4).1
  have hyc : rg_CR (rec (T b)) (Rr (T b)) := hrep.2.2.2.2.1 (T b) hTb
  refine lv_iload_n hx hb dG_add_0 rfl (lv_at hl 1 rfl) ?_
  refine lv_iconst (v := nI 2) hx hb dG_add_1 (by decide) ?_
  refine rg_callv hD hS hA (va_runS (As := [.int (nI (k + 2)), .int (nI 2)]) (rest := []) ⟨hx, hb, hml, hown, hts⟩ (c_G_requireKind (k + 2) 2 (by omega) (by omega) _) (va_cwS 2 hts (rg_gSx tw_159 tw_160 tw_1 tw_161) rfl rfl rfl (by decide +kernel) ⟨by rw [hR]; exact Nat.le_of_ble_eq_true rfl, by rw [hR]; exact Nat.le_of_ble_eq_true rfl⟩) (rg_preS rfl hK hP hD) rfl rfl hl.1 rfl (lv_room (Nat.le_of_ble_eq_true rfl)) dG_add_2 ⟨Nat.zero_le _, Nat.zero_le _⟩) (fun u2 H locs hw3 hP hD hS => ?_)
  have hP : va_P (dC, dI) rg_cl (gw_W ad fo fa ur cI cL cF cA rec fp sp an nn (nI n) pt un uc (nI b) lc) H := hP
  have hD : va_D A (gw_W ad fo fa ur cI cL cF cA rec fp sp an nn (nI n) pt un uc (nI b) lc) := hD
  refine lv_aload_n hx hb dG_add_5 rfl (lv_at hl 0 rfl) ?_
  refine rg_callv hD hS hA (va_runV (As := []) (rest := []) ⟨hx, hb, hml, hown, hts⟩ (c_G_draftPresent b (T b) (by omega) (by omega) hpt _) (cwV 0 hts (rg_gV tw_231 tw_233 ts_G_draftPresent tw_1 tw_234) rfl rfl rfl (by decide +kernel) ⟨by rw [hR]; exact Nat.le_of_ble_eq_true rfl, by rw [hR]; exact Nat.le_of_ble_eq_true rfl⟩) (rg_preV rfl hK hP hD (ci := 1) (q0 := 0) rfl rfl) rfl rfl hl.1 rfl (lv_room (Nat.le_of_ble_eq_true rfl)) dG_add_6 ⟨Nat.zero_le _, Nat.zero_le _⟩) (fun u5 H locs hw6 hP hD hS => ?_)
  have hP : va_P (dC, dI) rg_cl (gw_W ad fo fa ur cI cL cF cA (va_up rec 60 (va_cpy (rec (T b)) (rec 60) 0 0 24)) fp sp an nn (nI n) pt un uc (nI b) lc) H := hP
  have hD : va_D A (gw_W ad fo fa ur cI cL cF cA (va_up rec 60 (va_cpy (rec (T b)) (rec 60) 0 0 24)) fp sp an nn (nI n) pt un uc (nI b) lc) := hD
  refine lv_aload_n hx hb dG_add_9 rfl (lv_at hl 0 rfl) ?_
  refine va_get (D := (dC, dI)) (ci := 1) (C := "RevisionGrove") (T := TG) (N := 4) hx hb hts inG hown hK hP 0 rfl rfl 2 (by decide) (hts _ tw_88) (fun _ h9 => h9) rfl dG_add_10 ?_
  refine lv_iload_n hx hb dG_add_13 rfl (lv_at hl 1 rfl) ?_
  refine lv_aload_n hx hb dG_add_14 rfl (lv_at hl 0 rfl) ?_
  refine va_get (D := (dC, dI)) (ci := 1) (C := "RevisionGrove") (T := TG) (N := 4) hx hb hts inG hown hK hP 0 rfl rfl 2 (by decide) (hts _ tw_88) (fun _ h9 => h9) rfl dG_add_15 ?_
  refine lv_iload_n hx hb dG_add_18 rfl (lv_at hl 1 rfl) ?_
  refine rg_calll hD hS hA (va_runV (As := [.int (nI (k + 2))]) (rest := [.int (nI (k + 2)), .ref ((fo 60))]) ⟨hx, hb, hml, hown, hts⟩ (c_F_cell 60 (k + 2) (by omega) (by omega) _) (cwV 1 hts (rg_gV tw_302 tw_303 tw_304 tw_3 tw_305) rfl rfl rfl (by decide +kernel) ⟨by rw [hR]; exact Nat.le_of_ble_eq_true rfl, by rw [hR]; exact Nat.le_of_ble_eq_true rfl⟩) (rg_preV rfl hK hP hD (ci := 4) (q0 := (11 + (4 + 60))) rfl (gw_obj (by omega))) rfl rfl hl.1 rfl (lv_room (Nat.le_of_ble_eq_true rfl)) dG_add_19 ⟨Nat.zero_le _, Nat.zero_le _⟩) (fun r7 u8 H locs hw9 hP hD hS => ?_)
  subst hw9
  have hP : va_P (dC, dI) rg_cl (gw_W ad fo fa ur cI cL cF cA (va_up rec 60 (va_cpy (rec (T b)) (rec 60) 0 0 24)) fp sp an nn (nI n) pt un uc (nI b) lc) H := hP
  have hD : va_D A (gw_W ad fo fa ur cI cL cF cA (va_up rec 60 (va_cpy (rec (T b)) (rec 60) 0 0 24)) fp sp an nn (nI n) pt un uc (nI b) lc) := hD
  refine lv_iload_n hx hb dG_add_22 rfl (lv_at hl 2 rfl) ?_
  refine lv_i2l (v := v.toInt64) hx hb dG_add_23 rfl ?_
  refine lv_ladd hx hb dG_add_24 ?_
  refine rg_callv hD hS hA (va_runV (As := [.int (nI (k + 2)), .long (((va_up rec 60 (va_cpy (rec (T b)) (rec 60) 0 0 24)) 60 (k + 2)) + v.toInt64)]) (rest := []) ⟨hx, hb, hml, hown, hts⟩ (c_F_setCell 60 (k + 2) (by omega) (by omega) (((va_up rec 60 (va_cpy (rec (T b)) (rec 60) 0 0 24)) 60 (k + 2)) + v.toInt64) _) (cwV 2 hts (rg_gV tw_244 tw_245 tw_246 tw_3 tw_247) rfl rfl rfl (by decide +kernel) ⟨by rw [hR]; exact Nat.le_of_ble_eq_true rfl, by rw [hR]; exact Nat.le_of_ble_eq_true rfl⟩) (rg_preV rfl hK hP hD (ci := 4) (q0 := (11 + (4 + 60))) rfl (gw_obj (by omega))) rfl rfl hl.1 rfl (lv_room (Nat.le_of_ble_eq_true rfl)) dG_add_25 ⟨Nat.zero_le _, Nat.zero_le _⟩) (fun u11 H locs hw12 hP hD hS => ?_)
  have hP : va_P (dC, dI) rg_cl (gw_W ad fo fa ur cI cL cF cA (va_up (va_up rec 60 (va_cpy (rec (T b)) (rec 60) 0 0 24)) 60 (vp_updL ((va_up rec 60 (va_cpy (rec (T b)) (rec 60) 0 0 24)) 60) (k + 2) (((va_up rec 60 (va_cpy (rec (T b)) (rec 60) 0 0 24)) 60 (k + 2)) + v.toInt64))) fp sp an nn (nI n) pt un uc (nI b) lc) H := hP
  have hD : va_D A (gw_W ad fo fa ur cI cL cF cA (va_up (va_up rec 60 (va_cpy (rec (T b)) (rec 60) 0 0 24)) 60 (vp_updL ((va_up rec 60 (va_cpy (rec (T b)) (rec 60) 0 0 24)) 60) (k + 2) (((va_up rec 60 (va_cpy (rec (T b)) (rec 60) 0 0 24)) 60 (k + 2)) + v.toInt64))) fp sp an nn (nI n) pt un uc (nI b) lc) := hD
  obtain ⟨d9, hd9⟩ : ∃ d9, d9 = (va_up (va_up rec 60 (va_cpy (rec (T b)) (rec 60) 0 0 24)) 60 (vp_updL ((va_up rec 60 (va_cpy (rec (T b)) (rec 60) 0 0 24)) 60) (k + 2) (((va_up rec 60 (va_cpy (rec (T b)) (rec 60) 0 0 24)) 60 (k + 2)) + v.toInt64))) 60 := ⟨_, rfl⟩
  have hrc9 : va_up (va_up rec 60 (va_cpy (rec (T b)) (rec 60) 0 0 24)) 60 (vp_updL ((va_up rec 60 (va_cpy (rec (T b)) (rec 60) 0 0 24)) 60) (k + 2) (((va_up rec 60 (va_cpy (rec (T b)) (rec 60) 0 0 24)) 60 (k + 2)) + v.toInt64)) = va_up rec 60 d9 := by rw [hd9]; simp only [rg_upup, rg_ups]
  rw [hrc9] at hP hD
  simp only [rg_ups] at hd9
  have hP : va_P (dC, dI) rg_cl (gw_W ad fo fa ur cI cL cF cA (va_up rec 60 d9) fp sp an nn (nI n) pt un uc (nI b) lc) H := hP
  have hD : va_D A (gw_W ad fo fa ur cI cL cF cA (va_up rec 60 d9) fp sp an nn (nI n) pt un uc (nI b) lc) := hD
  have hX9 : rg_CR d9 (rg_setK (Rr (T b)) k ((Rr (T b)).2.1 k + v.toInt64)) := by rw [hd9]; exact (by rw [(rg_CR_cpy (d' := rec 60) hyc k hk2).2.1]; exact rg_CR_setK (rg_CR_cpy hyc) hk2)
  have hXc : rg_CR ((va_up rec 60 d9) 60) (rg_setK (Rr (T b)) k ((Rr (T b)).2.1 k + v.toInt64)) := by rw [rg_ups]; exact hX9
  have hYc : rg_CR ((va_up rec 60 d9) (T b)) (Rr (T b)) := by rw [rg_upn _ _ (by omega)]; exact hyc
  have hr9 : gw_Rep (va_up rec 60 d9) fp sp an (nI n) pt un uc (nI b) lc (n, Rr, P1, P2, T, U, b, lc) := gw_Rep_rec hrep (fun r9 h9 => rg_upn _ _ (by have h9 : r9 < n := h9; omega))
  refine lv_aload_n hx hb dG_add_28 rfl (lv_at hl 0 rfl) ?_
  refine lv_iload_n hx hb dG_add_29 rfl (lv_at hl 1 rfl) ?_
  refine rg_calli hD hS hA (va_runV (As := [.int (nI (k + 2))]) (rest := []) ⟨hx, hb, hml, hown, hts⟩ (c_G_comeToChanged_n n b (T b) (k + 2) (by omega) (by omega) (by omega) (by omega) hpt (rg_setK (Rr (T b)) k ((Rr (T b)).2.1 k + v.toInt64)) (Rr (T b)) hXc hYc hs hn9 _) (cwV 1 hts (rg_gV tw_248 tw_250 ts_G_comeToChanged tw_1 tw_251) rfl rfl rfl (by decide +kernel) ⟨by rw [hR]; exact Nat.le_of_ble_eq_true rfl, by rw [hR]; exact Nat.le_of_ble_eq_true rfl⟩) (rg_preV rfl hK hP hD (ci := 1) (q0 := 0) rfl rfl) rfl rfl hl.1 rfl (lv_room (Nat.le_of_ble_eq_true rfl)) dG_add_30 ⟨Nat.zero_le _, Nat.zero_le _⟩) (fun r13 u14 H locs hw15 hP hD hS => ?_)
  subst hw15
  have hP : va_P (dC, dI) rg_cl (gw_W ad fo fa ur cI cL cF cA (va_up (va_up rec 60 d9) n (va_cpy ((va_up rec 60 d9) 60) ((va_up rec 60 d9) n) 0 0 24)) (upd fp n (nI (T b))) (upd sp n (-1)) (vp_updL an n ((((1 : Int64) <<< ((nI n).toInt64 &&& 63)) ||| (rg_ax an (nI (T b)))) ||| (rg_ax an (-1)))) nn (nI (n + 1)) (upd pt b (nI n)) un (upd uc b (nI 0)) (nI b) lc) H := hP
  have hD : va_D A (gw_W ad fo fa ur cI cL cF cA (va_up (va_up rec 60 d9) n (va_cpy ((va_up rec 60 d9) 60) ((va_up rec 60 d9) n) 0 0 24)) (upd fp n (nI (T b))) (upd sp n (-1)) (vp_updL an n ((((1 : Int64) <<< ((nI n).toInt64 &&& 63)) ||| (rg_ax an (nI (T b)))) ||| (rg_ax an (-1)))) nn (nI (n + 1)) (upd pt b (nI n)) un (upd uc b (nI 0)) (nI b) lc) := hD
  rw [hQ]
  exact rg_iret hx hb hr hlk hK hP hD hS dG_add_33 (va_up (va_up rec 60 d9) n (va_cpy ((va_up rec 60 d9) 60) ((va_up rec 60 d9) n) 0 0 24), upd fp n (nI (T b)), upd sp n (-1), vp_updL an n ((((1 : Int64) <<< ((nI n).toInt64 &&& 63)) ||| (rg_ax an (nI (T b)))) ||| (rg_ax an (-1))), nn, nI (n + 1), upd pt b (nI n), un, upd uc b (nI 0), nI b, lc) rfl (by rw [rg_chg_new (g := (n, Rr, P1, P2, T, U, b, lc)) (fun q => by rw [(rg_one_diff (f := k + 2) (by omega) (rg_sf_setK hk2)).mp q] at hs; cases hs) (by show ¬ n = 60; omega)]; exact ⟨gw_Rep_new (g := (n, Rr, P1, P2, T, U, b, lc)) hr9 hXc hn9 (Or.inl rfl), rfl, rfl⟩)
set_option maxHeartbeats 4000000 in
set_option maxRecDepth 100000 in
theorem c_G_add_x {l : Launch} {dC : Nat → ClassId} {dI : Nat → Nat → Nat} {ad fo fa ur : Nat → Nat} {cI cL cF cA : ClassId} {rec : Nat → Nat → Int64} {fp : Nat → Int32} {sp : Nat → Int32} {an : Nat → Int64} {nn : Nat → Int32} {pt : Nat → Int32} {un : Nat → Nat → Int32} {uc : Nat → Int32} {lc : Int32} (hlt : l.stackTraces = false) (b : Nat) (Rr : Nat → rg_R) (P1 P2 : Nat → Int32) (T : Nat → Nat) (U : Nat → List Nat) (k : Nat) (hk2 : k < 2) (v : Int32) (hs : rg_sf (rg_setK (Rr (T b)) k ((Rr (T b)).2.1 k + v.toInt64)) (Rr (T b)) (k + 2) = false) (hrep : gw_Rep rec fp sp an (nI 60) pt un uc (nI b) lc (60, Rr, P1, P2, T, U, b, lc)) : rx_M l yG_add (Cond.code yG_add prog_1_method_3_code 3 (some .int) :: rg_tbl) { frames := 8, cells := 1, slots := 6, locals := 133 } (dC, dI) rg_cl (gw_tys cI cL cF cA) (gw_W ad fo fa ur cI cL cF cA rec fp sp an nn (nI 60) pt un uc (nI b) lc) [.ref ((ad 0)), .int (nI (k + 2)), .int v] (rg_QI (dC, dI) rg_cl (gw_tys cI cL cF cA) (S := Unit) (fun _ _ => False) (fun _ => gw_W ad fo fa ur cI cL cF cA rec fp sp an nn (nI 60) pt un uc (nI b) lc)) (rx_X (dC, dI) rg_cl (gw_tys cI cL cF cA) (S := gw_S) (gw_Px "java/lang/IllegalStateException" (60, Rr, P1, P2, T, U, b, lc)) (fun u => gw_Wu ad fo fa ur cI cL cF cA u)) 1 6 := by
  refine rx_of prog_1_method_3_code 3 (some .int) (by decide) rfl (Nat.le_of_ble_eq_true rfl) ?_
  intro p e R s m args below meth c Q A H locs ls hR hQ hx hb hml hr hts hown hlk hnm hno hT hP hK hD hA hS hl
  have hl : lv_has ls 3 [(0, .ref ((ad 0))), (1, .int (nI (k + 2))), (2, .int v)] := hl
  have hts : ∀ w ∈ rg_tbl, w.before args s = true := fun w h => hts w (List.mem_cons_of_mem _ h)
  have hok := hrep.1
  have hb4 : b < 4 := hok.2.2.2.2.2.2.2.1
  have hTb : T b < 60 := (hok.2.2.2.2.2.2.1 b hb4).1
  have hpt : pt b = nI (T b) := (hrep.2.2.2.2.2.2 b hb4).1
  have hyc : rg_CR (rec (T b)) (Rr (T b)) := hrep.2.2.2.2.1 (T b) hTb
  refine lv_iload_n hx hb dG_add_0 rfl (lv_at hl 1 rfl) ?_
  refine lv_iconst (v := nI 2) hx hb dG_add_1 (by decide) ?_
  refine rg_callv hD hS hA (va_runS (As := [.int (nI (k + 2)), .int (nI 2)]) (rest := []) ⟨hx, hb, hml, hown, hts⟩ (c_G_requireKind (k + 2) 2 (by omega) (by omega) _) (va_cwS 2 hts (rg_gSx tw_159 tw_160 tw_1 tw_161) rfl rfl rfl (by decide +kernel) ⟨by rw [hR]; exact Nat.le_of_ble_eq_true rfl, by rw [hR]; exact Nat.le_of_ble_eq_true rfl⟩) (rg_preS rfl hK hP hD) rfl rfl hl.1 rfl (lv_room (Nat.le_of_ble_eq_true rfl)) dG_add_2 ⟨Nat.zero_le _, Nat.zero_le _⟩) (fun u2 H locs hw3 hP hD hS => ?_)
  have hP : va_P (dC, dI) rg_cl (gw_W ad fo fa ur cI cL cF cA rec fp sp an nn (nI 60) pt un uc (nI b) lc) H := hP
  have hD : va_D A (gw_W ad fo fa ur cI cL cF cA rec fp sp an nn (nI 60) pt un uc (nI b) lc) := hD
  refine lv_aload_n hx hb dG_add_5 rfl (lv_at hl 0 rfl) ?_
  refine rg_callv hD hS hA (va_runV (As := []) (rest := []) ⟨hx, hb, hml, hown, hts⟩ (c_G_draftPresent b (T b) (by omega) (by omega) hpt _) (cwV 0 hts (rg_gV tw_231 tw_233 ts_G_draftPresent tw_1 tw_234) rfl rfl rfl (by decide +kernel) ⟨by rw [hR]; exact Nat.le_of_ble_eq_true rfl, by rw [hR]; exact Nat.le_of_ble_eq_true rfl⟩) (rg_preV rfl hK hP hD (ci := 1) (q0 := 0) rfl rfl) rfl rfl hl.1 rfl (lv_room (Nat.le_of_ble_eq_true rfl)) dG_add_6 ⟨Nat.zero_le _, Nat.zero_le _⟩) (fun u5 H locs hw6 hP hD hS => ?_)
  have hP : va_P (dC, dI) rg_cl (gw_W ad fo fa ur cI cL cF cA (va_up rec 60 (va_cpy (rec (T b)) (rec 60) 0 0 24)) fp sp an nn (nI 60) pt un uc (nI b) lc) H := hP
  have hD : va_D A (gw_W ad fo fa ur cI cL cF cA (va_up rec 60 (va_cpy (rec (T b)) (rec 60) 0 0 24)) fp sp an nn (nI 60) pt un uc (nI b) lc) := hD
  refine lv_aload_n hx hb dG_add_9 rfl (lv_at hl 0 rfl) ?_
  refine va_get (D := (dC, dI)) (ci := 1) (C := "RevisionGrove") (T := TG) (N := 4) hx hb hts inG hown hK hP 0 rfl rfl 2 (by decide) (hts _ tw_88) (fun _ h9 => h9) rfl dG_add_10 ?_
  refine lv_iload_n hx hb dG_add_13 rfl (lv_at hl 1 rfl) ?_
  refine lv_aload_n hx hb dG_add_14 rfl (lv_at hl 0 rfl) ?_
  refine va_get (D := (dC, dI)) (ci := 1) (C := "RevisionGrove") (T := TG) (N := 4) hx hb hts inG hown hK hP 0 rfl rfl 2 (by decide) (hts _ tw_88) (fun _ h9 => h9) rfl dG_add_15 ?_
  refine lv_iload_n hx hb dG_add_18 rfl (lv_at hl 1 rfl) ?_
  refine rg_calll hD hS hA (va_runV (As := [.int (nI (k + 2))]) (rest := [.int (nI (k + 2)), .ref ((fo 60))]) ⟨hx, hb, hml, hown, hts⟩ (c_F_cell 60 (k + 2) (by omega) (by omega) _) (cwV 1 hts (rg_gV tw_302 tw_303 tw_304 tw_3 tw_305) rfl rfl rfl (by decide +kernel) ⟨by rw [hR]; exact Nat.le_of_ble_eq_true rfl, by rw [hR]; exact Nat.le_of_ble_eq_true rfl⟩) (rg_preV rfl hK hP hD (ci := 4) (q0 := (11 + (4 + 60))) rfl (gw_obj (by omega))) rfl rfl hl.1 rfl (lv_room (Nat.le_of_ble_eq_true rfl)) dG_add_19 ⟨Nat.zero_le _, Nat.zero_le _⟩) (fun r7 u8 H locs hw9 hP hD hS => ?_)
  subst hw9
  have hP : va_P (dC, dI) rg_cl (gw_W ad fo fa ur cI cL cF cA (va_up rec 60 (va_cpy (rec (T b)) (rec 60) 0 0 24)) fp sp an nn (nI 60) pt un uc (nI b) lc) H := hP
  have hD : va_D A (gw_W ad fo fa ur cI cL cF cA (va_up rec 60 (va_cpy (rec (T b)) (rec 60) 0 0 24)) fp sp an nn (nI 60) pt un uc (nI b) lc) := hD
  refine lv_iload_n hx hb dG_add_22 rfl (lv_at hl 2 rfl) ?_
  refine lv_i2l (v := v.toInt64) hx hb dG_add_23 rfl ?_
  refine lv_ladd hx hb dG_add_24 ?_
  refine rg_callv hD hS hA (va_runV (As := [.int (nI (k + 2)), .long (((va_up rec 60 (va_cpy (rec (T b)) (rec 60) 0 0 24)) 60 (k + 2)) + v.toInt64)]) (rest := []) ⟨hx, hb, hml, hown, hts⟩ (c_F_setCell 60 (k + 2) (by omega) (by omega) (((va_up rec 60 (va_cpy (rec (T b)) (rec 60) 0 0 24)) 60 (k + 2)) + v.toInt64) _) (cwV 2 hts (rg_gV tw_244 tw_245 tw_246 tw_3 tw_247) rfl rfl rfl (by decide +kernel) ⟨by rw [hR]; exact Nat.le_of_ble_eq_true rfl, by rw [hR]; exact Nat.le_of_ble_eq_true rfl⟩) (rg_preV rfl hK hP hD (ci := 4) (q0 := (11 + (4 + 60))) rfl (gw_obj (by omega))) rfl rfl hl.1 rfl (lv_room (Nat.le_of_ble_eq_true rfl)) dG_add_25 ⟨Nat.zero_le _, Nat.zero_le _⟩) (fun u11 H locs hw12 hP hD hS => ?_)
  have hP : va_P (dC, dI) rg_cl (gw_W ad fo fa ur cI cL cF cA (va_up (va_up rec 60 (va_cpy (rec (T b)) (rec 60) 0 0 24)) 60 (vp_updL ((va_up rec 60 (va_cpy (rec (T b)) (rec 60) 0 0 24)) 60) (k + 2) (((va_up rec 60 (va_cpy (rec (T b)) (rec 60) 0 0 24)) 60 (k + 2)) + v.toInt64))) fp sp an nn (nI 60) pt un uc (nI b) lc) H := hP
  have hD : va_D A (gw_W ad fo fa ur cI cL cF cA (va_up (va_up rec 60 (va_cpy (rec (T b)) (rec 60) 0 0 24)) 60 (vp_updL ((va_up rec 60 (va_cpy (rec (T b)) (rec 60) 0 0 24)) 60) (k + 2) (((va_up rec 60 (va_cpy (rec (T b)) (rec 60) 0 0 24)) 60 (k + 2)) + v.toInt64))) fp sp an nn (nI 60) pt un uc (nI b) lc) := hD
  obtain ⟨d9, hd9⟩ : ∃ d9, d9 = (va_up (va_up rec 60 (va_cpy (rec (T b)) (rec 60) 0 0 24)) 60 (vp_updL ((va_up rec 60 (va_cpy (rec (T b)) (rec 60) 0 0 24)) 60) (k + 2) (((va_up rec 60 (va_cpy (rec (T b)) (rec 60) 0 0 24)) 60 (k + 2)) + v.toInt64))) 60 := ⟨_, rfl⟩
  have hrc9 : va_up (va_up rec 60 (va_cpy (rec (T b)) (rec 60) 0 0 24)) 60 (vp_updL ((va_up rec 60 (va_cpy (rec (T b)) (rec 60) 0 0 24)) 60) (k + 2) (((va_up rec 60 (va_cpy (rec (T b)) (rec 60) 0 0 24)) 60 (k + 2)) + v.toInt64)) = va_up rec 60 d9 := by rw [hd9]; simp only [rg_upup, rg_ups]
  rw [hrc9] at hP hD
  simp only [rg_ups] at hd9
  have hP : va_P (dC, dI) rg_cl (gw_W ad fo fa ur cI cL cF cA (va_up rec 60 d9) fp sp an nn (nI 60) pt un uc (nI b) lc) H := hP
  have hD : va_D A (gw_W ad fo fa ur cI cL cF cA (va_up rec 60 d9) fp sp an nn (nI 60) pt un uc (nI b) lc) := hD
  have hX9 : rg_CR d9 (rg_setK (Rr (T b)) k ((Rr (T b)).2.1 k + v.toInt64)) := by rw [hd9]; exact (by rw [(rg_CR_cpy (d' := rec 60) hyc k hk2).2.1]; exact rg_CR_setK (rg_CR_cpy hyc) hk2)
  have hXc : rg_CR ((va_up rec 60 d9) 60) (rg_setK (Rr (T b)) k ((Rr (T b)).2.1 k + v.toInt64)) := by rw [rg_ups]; exact hX9
  have hYc : rg_CR ((va_up rec 60 d9) (T b)) (Rr (T b)) := by rw [rg_upn _ _ (by omega)]; exact hyc
  have hr9 : gw_Rep (va_up rec 60 d9) fp sp an (nI 60) pt un uc (nI b) lc (60, Rr, P1, P2, T, U, b, lc) := gw_Rep_rec hrep (fun r9 h9 => rg_upn _ _ (by have h9 : r9 < 60 := h9; omega))
  refine lv_aload_n hx hb dG_add_28 rfl (lv_at hl 0 rfl) ?_
  refine lv_iload_n hx hb dG_add_29 rfl (lv_at hl 1 rfl) ?_
  exact rx_calli hQ (fun E u h => ⟨(va_up rec 60 d9, fp, sp, an, nn, nI 60, pt, un, uc, nI b, lc), ⟨h, hr9⟩, rfl⟩) hno hlk hD hS hA (Nat.le_of_ble_eq_true rfl) (Nat.le_of_ble_eq_true rfl) (vx_runV (As := [.int (nI (k + 2))]) (rest := []) ⟨hx, hb, hml, hown, hts⟩ (c_G_comeToChanged_x hlt b (T b) (k + 2) (by omega) (by omega) (by omega) hpt (rg_setK (Rr (T b)) k ((Rr (T b)).2.1 k + v.toInt64)) (Rr (T b)) hXc hYc hs _) (cwV 1 hts (rg_gV tw_248 tw_250 ts_G_comeToChanged tw_1 tw_251) rfl rfl rfl (by decide +kernel) ⟨(by rw [hR]; exact Nat.le_of_ble_eq_true rfl), (by rw [hR]; exact Nat.le_of_ble_eq_true rfl)⟩) (rx_preV rfl hT hS hA hK hP hD (ci := 1) (q0 := 0) rfl rfl) rfl rfl hl.1 rfl (lv_room (Nat.le_of_ble_eq_true rfl)) dG_add_30 ⟨(by rw [hR]; exact Nat.le_of_ble_eq_true rfl), (by rw [hR]; exact Nat.le_of_ble_eq_true rfl)⟩) (fun _ _ _ _ h9 => h9.elim)
set_option maxHeartbeats 4000000 in
set_option maxRecDepth 100000 in
theorem c_G_add_xf {l : Launch} {dC : Nat → ClassId} {dI : Nat → Nat → Nat} {ad fo fa ur : Nat → Nat} {cI cL cF cA : ClassId} {rec : Nat → Nat → Int64} {fp : Nat → Int32} {sp : Nat → Int32} {an : Nat → Int64} {nn : Nat → Int32} {pt : Nat → Int32} {un : Nat → Nat → Int32} {uc : Nat → Int32} {lc : Int32} (hlt : l.stackTraces = false) (n b : Nat) (Rr : Nat → rg_R) (P1 P2 : Nat → Int32) (T : Nat → Nat) (U : Nat → List Nat) (f v : Int32) (hk0 : ¬ f = 2) (hk1 : ¬ f = 3) (hrep : gw_Rep rec fp sp an (nI n) pt un uc (nI b) lc (n, Rr, P1, P2, T, U, b, lc)) : rx_M l yG_add (Cond.code yG_add prog_1_method_3_code 3 (some .int) :: rg_tbl) { frames := 8, cells := 1, slots := 6, locals := 133 } (dC, dI) rg_cl (gw_tys cI cL cF cA) (gw_W ad fo fa ur cI cL cF cA rec fp sp an nn (nI n) pt un uc (nI b) lc) [.ref ((ad 0)), .int f, .int v] (rg_QI (dC, dI) rg_cl (gw_tys cI cL cF cA) (S := Unit) (fun _ _ => False) (fun _ => gw_W ad fo fa ur cI cL cF cA rec fp sp an nn (nI n) pt un uc (nI b) lc)) (rx_X (dC, dI) rg_cl (gw_tys cI cL cF cA) (S := gw_S) (gw_Px "java/lang/IllegalArgumentException" (n, Rr, P1, P2, T, U, b, lc)) (fun u => gw_Wu ad fo fa ur cI cL cF cA u)) 1 6 := by
  refine rx_of prog_1_method_3_code 3 (some .int) (by decide) rfl (Nat.le_of_ble_eq_true rfl) ?_
  intro p e R s m args below meth c Q A H locs ls hR hQ hx hb hml hr hts hown hlk hnm hno hT hP hK hD hA hS hl
  have hl : lv_has ls 3 [(0, .ref ((ad 0))), (1, .int f), (2, .int v)] := hl
  have hts : ∀ w ∈ rg_tbl, w.before args s = true := fun w h => hts w (List.mem_cons_of_mem _ h)
  refine lv_iload_n hx hb dG_add_0 rfl (lv_at hl 1 rfl) ?_
  refine lv_iconst (v := nI 2) hx hb dG_add_1 (by decide) ?_
  exact rx_callv hQ (fun E u h => ⟨(rec, fp, sp, an, nn, nI n, pt, un, uc, nI b, lc), ⟨h, hrep⟩, rfl⟩) hno hlk hD hS hA (Nat.le_of_ble_eq_true rfl) (Nat.le_of_ble_eq_true rfl) (vx_runS (As := [.int f, .int (nI 2)]) (rest := []) ⟨hx, hb, hml, hown, hts⟩ (c_G_requireKind_x hlt f 2 hk0 hk1 _) (va_cwS 2 hts (rg_gSx tw_159 tw_160 tw_1 tw_161) rfl rfl rfl (by decide +kernel) ⟨(by rw [hR]; exact Nat.le_of_ble_eq_true rfl), (by rw [hR]; exact Nat.le_of_ble_eq_true rfl)⟩) (rx_preS rfl hT hS hA hK hP hD) rfl rfl hl.1 rfl (lv_room (Nat.le_of_ble_eq_true rfl)) dG_add_2 ⟨(by rw [hR]; exact Nat.le_of_ble_eq_true rfl), (by rw [hR]; exact Nat.le_of_ble_eq_true rfl)⟩) (fun _ _ _ h9 => h9.elim)
set_option maxHeartbeats 4000000 in
set_option maxRecDepth 100000 in
theorem c_G_mark_s {l : Launch} {dC : Nat → ClassId} {dI : Nat → Nat → Nat} {ad fo fa ur : Nat → Nat} {cI cL cF cA : ClassId} {rec : Nat → Nat → Int64} {fp : Nat → Int32} {sp : Nat → Int32} {an : Nat → Int64} {nn : Nat → Int32} {pt : Nat → Int32} {un : Nat → Nat → Int32} {uc : Nat → Int32} {lc : Int32} (n b : Nat) (Rr : Nat → rg_R) (P1 P2 : Nat → Int32) (T : Nat → Nat) (U : Nat → List Nat) (k x : Nat) (hk2 : k < 2) (hx32 : x < 32) (w : Bool) (hs : rg_sf (rg_setE (Rr (T b)) k (rg_mk ((Rr (T b)).2.2.1 k) x w)) (Rr (T b)) (k + 4) = true) (hrep : gw_Rep rec fp sp an (nI n) pt un uc (nI b) lc (n, Rr, P1, P2, T, U, b, lc)) : rg_M l yG_mark (Cond.code yG_mark prog_1_method_4_code 6 (some .int) :: rg_tbl) { frames := 5, cells := 0, slots := 0, locals := 118 } (dC, dI) rg_cl (gw_tys cI cL cF cA) (gw_W ad fo fa ur cI cL cF cA rec fp sp an nn (nI n) pt un uc (nI b) lc) [.ref ((ad 0)), .int (nI (k + 4)), .int (nI x), .int (bif w then 1 else 0)] (rg_QI (dC, dI) rg_cl (gw_tys cI cL cF cA) (S := gw_S) (gw_Po (rg_chg 2 (n, Rr, P1, P2, T, U, b, lc) (rg_setE (Rr (T b)) k (rg_mk ((Rr (T b)).2.2.1 k) x w)))) (fun u => gw_Wu ad fo fa ur cI cL cF cA u)) 0 0 := by
  refine rg_of prog_1_method_4_code 6 (some .int) (by decide) rfl (Nat.le_of_ble_eq_true rfl) ?_
  intro p e R s m args below meth c Q A H locs ls hR hQ hx hb hml hr hts hown hlk hnm hP hK hD hA hS hl
  have hl : lv_has ls 6 [(0, .ref ((ad 0))), (1, .int (nI (k + 4))), (2, .int (nI x)), (3, .int (bif w then 1 else 0))] := hl
  have hts : ∀ w ∈ rg_tbl, w.before args s = true := fun w h => hts w (List.mem_cons_of_mem _ h)
  have hok := hrep.1
  have hn1 : 1 ≤ n := hok.1
  have hn60 : n ≤ 60 := hok.2.1
  have hb4 : b < 4 := hok.2.2.2.2.2.2.2.1
  have hTb : T b < n := (hok.2.2.2.2.2.2.1 b hb4).1
  have hpt : pt b = nI (T b) := (hrep.2.2.2.2.2.2 b hb4).1
  have hyc : rg_CR (rec (T b)) (Rr (T b)) := hrep.2.2.2.2.1 (T b) hTb
  refine lv_iload_n hx hb dG_mark_0 rfl (lv_at hl 1 rfl) ?_
  refine lv_iconst (v := nI 4) hx hb dG_mark_1 (by decide) ?_
  refine rg_callv hD hS hA (va_runS (As := [.int (nI (k + 4)), .int (nI 4)]) (rest := []) ⟨hx, hb, hml, hown, hts⟩ (c_G_requireKind (k + 4) 4 (by omega) (by omega) _) (va_cwS 2 hts (rg_gSx tw_159 tw_160 tw_1 tw_161) rfl rfl rfl (by decide +kernel) ⟨by rw [hR]; exact Nat.le_of_ble_eq_true rfl, by rw [hR]; exact Nat.le_of_ble_eq_true rfl⟩) (rg_preS rfl hK hP hD) rfl rfl hl.1 rfl (lv_room (Nat.le_of_ble_eq_true rfl)) dG_mark_2 ⟨Nat.zero_le _, Nat.zero_le _⟩) (fun u2 H locs hw3 hP hD hS => ?_)
  have hP : va_P (dC, dI) rg_cl (gw_W ad fo fa ur cI cL cF cA rec fp sp an nn (nI n) pt un uc (nI b) lc) H := hP
  have hD : va_D A (gw_W ad fo fa ur cI cL cF cA rec fp sp an nn (nI n) pt un uc (nI b) lc) := hD
  refine lv_iload_n hx hb dG_mark_5 rfl (lv_at hl 2 rfl) ?_
  refine rg_ifN_lt (tgt := 15) hx hb dG_mark_6 (by decide) (by omega) (fun h4 => h4.elim) (fun h4 => ?_)
  refine lv_iload_n hx hb dG_mark_9 rfl (lv_at hl 2 rfl) ?_
  refine lv_bipush (v := nI 32) hx hb dG_mark_10 (by decide) ?_
  refine rg_icmp_lt (tgt := 25) hx hb dG_mark_12 (by decide) (by omega) (by omega) (fun h5 => ?_) (fun h5 => by exfalso; omega)
  refine lv_lconst (v := 1) hx hb dG_mark_25 (by decide) ?_
  refine lv_iload_n hx hb dG_mark_26 rfl (lv_at hl 2 rfl) ?_
  refine lv_lshl (v := (1 : Int64) <<< ((nI x).toInt64 &&& 63)) hx hb dG_mark_27 rfl ?_
  refine lv_lstore (lv' := [(4, .long ((1 : Int64) <<< ((nI x).toInt64 &&& 63))), (0, .ref ((ad 0))), (1, .int (nI (k + 4))), (2, .int (nI x)), (3, .int (bif w then 1 else 0))]) hx hb dG_mark_28 hl (by decide) rfl (fun ls hl => ?_)
  refine lv_aload_n hx hb dG_mark_30 rfl (lv_at hl 1 rfl) ?_
  refine rg_callv hD hS hA (va_runV (As := []) (rest := []) ⟨hx, hb, hml, hown, hts⟩ (c_G_draftPresent b (T b) (by omega) (by omega) hpt _) (cwV 0 hts (rg_gV tw_231 tw_233 ts_G_draftPresent tw_1 tw_234) rfl rfl rfl (by decide +kernel) ⟨by rw [hR]; exact Nat.le_of_ble_eq_true rfl, by rw [hR]; exact Nat.le_of_ble_eq_true rfl⟩) (rg_preV rfl hK hP hD (ci := 1) (q0 := 0) rfl rfl) rfl rfl hl.1 rfl (lv_room (Nat.le_of_ble_eq_true rfl)) dG_mark_31 ⟨Nat.zero_le _, Nat.zero_le _⟩) (fun u7 H locs hw8 hP hD hS => ?_)
  have hP : va_P (dC, dI) rg_cl (gw_W ad fo fa ur cI cL cF cA (va_up rec 60 (va_cpy (rec (T b)) (rec 60) 0 0 24)) fp sp an nn (nI n) pt un uc (nI b) lc) H := hP
  have hD : va_D A (gw_W ad fo fa ur cI cL cF cA (va_up rec 60 (va_cpy (rec (T b)) (rec 60) 0 0 24)) fp sp an nn (nI n) pt un uc (nI b) lc) := hD
  refine lv_aload_n hx hb dG_mark_34 rfl (lv_at hl 1 rfl) ?_
  refine va_get (D := (dC, dI)) (ci := 1) (C := "RevisionGrove") (T := TG) (N := 4) hx hb hts inG hown hK hP 0 rfl rfl 2 (by decide) (hts _ tw_88) (fun _ h9 => h9) rfl dG_mark_35 ?_
  refine lv_iload_n hx hb dG_mark_38 rfl (lv_at hl 2 rfl) ?_
  refine lv_iload_n hx hb dG_mark_39 rfl (lv_at hl 4 rfl) ?_
  have J40 : ∀ (v9 : Int64) (H : Heap) (locs : List Loc), v9 = (rg_mkL ((va_up rec 60 (va_cpy (rec (T b)) (rec 60) 0 0 24)) 60 (k + 4)) x w) → va_P (dC, dI) rg_cl (gw_W ad fo fa ur cI cL cF cA (va_up rec 60 (va_cpy (rec (T b)) (rec 60) 0 0 24)) fp sp an nn (nI n) pt un uc (nI b) lc) H → va_D A (gw_W ad fo fa ur cI cL cF cA (va_up rec 60 (va_cpy (rec (T b)) (rec 60) 0 0 24)) fp sp an nn (nI n) pt un uc (nI b) lc) → va_S A s.heap H locs → W p l e R s m args below meth c H locs 0 0 Q (F0 m 72 ls [.long v9, .int (nI (k + 4)), .ref ((fo 60))]) := by
    intro v9 H locs hv9 hP hD hS
    subst hv9
    refine rg_callv hD hS hA (va_runV (As := [.int (nI (k + 4)), .long (rg_mkL ((va_up rec 60 (va_cpy (rec (T b)) (rec 60) 0 0 24)) 60 (k + 4)) x w)]) (rest := []) ⟨hx, hb, hml, hown, hts⟩ (c_F_setCell 60 (k + 4) (by omega) (by omega) (rg_mkL ((va_up rec 60 (va_cpy (rec (T b)) (rec 60) 0 0 24)) 60 (k + 4)) x w) _) (cwV 2 hts (rg_gV tw_244 tw_245 tw_246 tw_3 tw_247) rfl rfl rfl (by decide +kernel) ⟨by rw [hR]; exact Nat.le_of_ble_eq_true rfl, by rw [hR]; exact Nat.le_of_ble_eq_true rfl⟩) (rg_preV rfl hK hP hD (ci := 4) (q0 := (11 + (4 + 60))) rfl (gw_obj (by omega))) rfl rfl hl.1 rfl (lv_room (Nat.le_of_ble_eq_true rfl)) dG_mark_72 ⟨Nat.zero_le _, Nat.zero_le _⟩) (fun u10 H locs hw11 hP hD hS => ?_)
    have hP : va_P (dC, dI) rg_cl (gw_W ad fo fa ur cI cL cF cA (va_up (va_up rec 60 (va_cpy (rec (T b)) (rec 60) 0 0 24)) 60 (vp_updL ((va_up rec 60 (va_cpy (rec (T b)) (rec 60) 0 0 24)) 60) (k + 4) (rg_mkL ((va_up rec 60 (va_cpy (rec (T b)) (rec 60) 0 0 24)) 60 (k + 4)) x w))) fp sp an nn (nI n) pt un uc (nI b) lc) H := hP
    have hD : va_D A (gw_W ad fo fa ur cI cL cF cA (va_up (va_up rec 60 (va_cpy (rec (T b)) (rec 60) 0 0 24)) 60 (vp_updL ((va_up rec 60 (va_cpy (rec (T b)) (rec 60) 0 0 24)) 60) (k + 4) (rg_mkL ((va_up rec 60 (va_cpy (rec (T b)) (rec 60) 0 0 24)) 60 (k + 4)) x w))) fp sp an nn (nI n) pt un uc (nI b) lc) := hD
    obtain ⟨d9, hd9⟩ : ∃ d9, d9 = (va_up (va_up rec 60 (va_cpy (rec (T b)) (rec 60) 0 0 24)) 60 (vp_updL ((va_up rec 60 (va_cpy (rec (T b)) (rec 60) 0 0 24)) 60) (k + 4) (rg_mkL ((va_up rec 60 (va_cpy (rec (T b)) (rec 60) 0 0 24)) 60 (k + 4)) x w))) 60 := ⟨_, rfl⟩
    have hrc9 : va_up (va_up rec 60 (va_cpy (rec (T b)) (rec 60) 0 0 24)) 60 (vp_updL ((va_up rec 60 (va_cpy (rec (T b)) (rec 60) 0 0 24)) 60) (k + 4) (rg_mkL ((va_up rec 60 (va_cpy (rec (T b)) (rec 60) 0 0 24)) 60 (k + 4)) x w)) = va_up rec 60 d9 := by rw [hd9]; simp only [rg_upup, rg_ups]
    rw [hrc9] at hP hD
    simp only [rg_ups] at hd9
    have hP : va_P (dC, dI) rg_cl (gw_W ad fo fa ur cI cL cF cA (va_up rec 60 d9) fp sp an nn (nI n) pt un uc (nI b) lc) H := hP
    have hD : va_D A (gw_W ad fo fa ur cI cL cF cA (va_up rec 60 d9) fp sp an nn (nI n) pt un uc (nI b) lc) := hD
    have hX9 : rg_CR d9 (rg_setE (Rr (T b)) k (rg_mk ((Rr (T b)).2.2.1 k) x w)) := by rw [hd9]; exact (by rw [(rg_CR_cpy (d' := rec 60) hyc k hk2).2.2.1, ← rg_zx_mk hx32]; exact rg_CR_setE (rg_CR_cpy hyc) hk2)
    have hXc : rg_CR ((va_up rec 60 d9) 60) (rg_setE (Rr (T b)) k (rg_mk ((Rr (T b)).2.2.1 k) x w)) := by rw [rg_ups]; exact hX9
    have hYc : rg_CR ((va_up rec 60 d9) (T b)) (Rr (T b)) := by rw [rg_upn _ _ (by omega)]; exact hyc
    have hr9 : gw_Rep (va_up rec 60 d9) fp sp an (nI n) pt un uc (nI b) lc (n, Rr, P1, P2, T, U, b, lc) := gw_Rep_rec hrep (fun r9 h9 => rg_upn _ _ (by have h9 : r9 < n := h9; omega))
    refine lv_aload_n hx hb dG_mark_75 rfl (lv_at hl 1 rfl) ?_
    refine lv_iload_n hx hb dG_mark_76 rfl (lv_at hl 2 rfl) ?_
    refine rg_calli hD hS hA (va_runV (As := [.int (nI (k + 4))]) (rest := []) ⟨hx, hb, hml, hown, hts⟩ (c_G_comeToChanged_s n b (T b) (k + 4) (by omega) (by omega) (by omega) (by omega) hpt (rg_setE (Rr (T b)) k (rg_mk ((Rr (T b)).2.2.1 k) x w)) (Rr (T b)) hXc hYc hs _) (cwV 1 hts (rg_gV tw_248 tw_250 ts_G_comeToChanged tw_1 tw_251) rfl rfl rfl (by decide +kernel) ⟨by rw [hR]; exact Nat.le_of_ble_eq_true rfl, by rw [hR]; exact Nat.le_of_ble_eq_true rfl⟩) (rg_preV rfl hK hP hD (ci := 1) (q0 := 0) rfl rfl) rfl rfl hl.1 rfl (lv_room (Nat.le_of_ble_eq_true rfl)) dG_mark_77 ⟨Nat.zero_le _, Nat.zero_le _⟩) (fun r12 u13 H locs hw14 hP hD hS => ?_)
    subst hw14
    have hP : va_P (dC, dI) rg_cl (gw_W ad fo fa ur cI cL cF cA (va_up rec 60 d9) fp sp an nn (nI n) pt un uc (nI b) lc) H := hP
    have hD : va_D A (gw_W ad fo fa ur cI cL cF cA (va_up rec 60 d9) fp sp an nn (nI n) pt un uc (nI b) lc) := hD
    rw [hQ]
    exact rg_iret hx hb hr hlk hK hP hD hS dG_mark_80 (va_up rec 60 d9, fp, sp, an, nn, nI n, pt, un, uc, nI b, lc) rfl (by rw [rg_chg_same (g := (n, Rr, P1, P2, T, U, b, lc)) ((rg_one_diff (f := k + 4) (by omega) (rg_sf_setE hk2)).mpr hs)]; exact ⟨hr9, rfl, rfl⟩)
  refine rg_ifz_eq (tgt := 57) hx hb dG_mark_40 (by decide) (fun h15 => ?_) (fun h15 => ?_)
  · refine lv_aload_n hx hb dG_mark_57 rfl (lv_at hl 1 rfl) ?_
    refine va_get (D := (dC, dI)) (ci := 1) (C := "RevisionGrove") (T := TG) (N := 4) hx hb hts inG hown hK hP 0 rfl rfl 2 (by decide) (hts _ tw_88) (fun _ h9 => h9) rfl dG_mark_58 ?_
    refine lv_iload_n hx hb dG_mark_61 rfl (lv_at hl 2 rfl) ?_
    refine rg_calll hD hS hA (va_runV (As := [.int (nI (k + 4))]) (rest := [.int (nI (k + 4)), .ref ((fo 60))]) ⟨hx, hb, hml, hown, hts⟩ (c_F_cell 60 (k + 4) (by omega) (by omega) _) (cwV 1 hts (rg_gV tw_302 tw_303 tw_304 tw_3 tw_305) rfl rfl rfl (by decide +kernel) ⟨by rw [hR]; exact Nat.le_of_ble_eq_true rfl, by rw [hR]; exact Nat.le_of_ble_eq_true rfl⟩) (rg_preV rfl hK hP hD (ci := 4) (q0 := (11 + (4 + 60))) rfl (gw_obj (by omega))) rfl rfl hl.1 rfl (lv_room (Nat.le_of_ble_eq_true rfl)) dG_mark_62 ⟨Nat.zero_le _, Nat.zero_le _⟩) (fun r16 u17 H locs hw18 hP hD hS => ?_)
    subst hw18
    have hP : va_P (dC, dI) rg_cl (gw_W ad fo fa ur cI cL cF cA (va_up rec 60 (va_cpy (rec (T b)) (rec 60) 0 0 24)) fp sp an nn (nI n) pt un uc (nI b) lc) H := hP
    have hD : va_D A (gw_W ad fo fa ur cI cL cF cA (va_up rec 60 (va_cpy (rec (T b)) (rec 60) 0 0 24)) fp sp an nn (nI n) pt un uc (nI b) lc) := hD
    refine lv_lload hx hb dG_mark_65 (lv_at hl 0 rfl) ?_
    refine lv_ldc2 (v := -1) hx hb hown (hts _ tw_314) dG_mark_67 ?_
    refine lv_lxor hx hb dG_mark_70 ?_
    refine lv_land hx hb dG_mark_71 ?_
    exact J40 _ _ _ (by rw [h15]; rfl) hP hD hS
  · refine lv_aload_n hx hb dG_mark_43 rfl (lv_at hl 1 rfl) ?_
    refine va_get (D := (dC, dI)) (ci := 1) (C := "RevisionGrove") (T := TG) (N := 4) hx hb hts inG hown hK hP 0 rfl rfl 2 (by decide) (hts _ tw_88) (fun _ h9 => h9) rfl dG_mark_44 ?_
    refine lv_iload_n hx hb dG_mark_47 rfl (lv_at hl 2 rfl) ?_
    refine rg_calll hD hS hA (va_runV (As := [.int (nI (k + 4))]) (rest := [.int (nI (k + 4)), .ref ((fo 60))]) ⟨hx, hb, hml, hown, hts⟩ (c_F_cell 60 (k + 4) (by omega) (by omega) _) (cwV 1 hts (rg_gV tw_302 tw_303 tw_304 tw_3 tw_305) rfl rfl rfl (by decide +kernel) ⟨by rw [hR]; exact Nat.le_of_ble_eq_true rfl, by rw [hR]; exact Nat.le_of_ble_eq_true rfl⟩) (rg_preV rfl hK hP hD (ci := 4) (q0 := (11 + (4 + 60))) rfl (gw_obj (by omega))) rfl rfl hl.1 rfl (lv_room (Nat.le_of_ble_eq_true rfl)) dG_mark_48 ⟨Nat.zero_le _, Nat.zero_le _⟩) (fun r19 u20 H locs hw21 hP hD hS => ?_)
    subst hw21
    have hP : va_P (dC, dI) rg_cl (gw_W ad fo fa ur cI cL cF cA (va_up rec 60 (va_cpy (rec (T b)) (rec 60) 0 0 24)) fp sp an nn (nI n) pt un uc (nI b) lc) H := hP
    have hD : va_D A (gw_W ad fo fa ur cI cL cF cA (va_up rec 60 (va_cpy (rec (T b)) (rec 60) 0 0 24)) fp sp an nn (nI n) pt un uc (nI b) lc) := hD
    refine lv_lload hx hb dG_mark_51 (lv_at hl 0 rfl) ?_
    refine lv_lor hx hb dG_mark_53 ?_
    refine lv_goto (tgt := 72) hx hb dG_mark_54 (by decide) ?_
    exact J40 _ _ _ (by rw [h15]; rfl) hP hD hS
set_option maxHeartbeats 4000000 in
set_option maxRecDepth 100000 in
theorem c_G_mark_n {l : Launch} {dC : Nat → ClassId} {dI : Nat → Nat → Nat} {ad fo fa ur : Nat → Nat} {cI cL cF cA : ClassId} {rec : Nat → Nat → Int64} {fp : Nat → Int32} {sp : Nat → Int32} {an : Nat → Int64} {nn : Nat → Int32} {pt : Nat → Int32} {un : Nat → Nat → Int32} {uc : Nat → Int32} {lc : Int32} (n b : Nat) (Rr : Nat → rg_R) (P1 P2 : Nat → Int32) (T : Nat → Nat) (U : Nat → List Nat) (k x : Nat) (hk2 : k < 2) (hx32 : x < 32) (w : Bool) (hs : rg_sf (rg_setE (Rr (T b)) k (rg_mk ((Rr (T b)).2.2.1 k) x w)) (Rr (T b)) (k + 4) = false) (hn9 : n < 60) (hrep : gw_Rep rec fp sp an (nI n) pt un uc (nI b) lc (n, Rr, P1, P2, T, U, b, lc)) : rg_M l yG_mark (Cond.code yG_mark prog_1_method_4_code 6 (some .int) :: rg_tbl) { frames := 5, cells := 0, slots := 0, locals := 118 } (dC, dI) rg_cl (gw_tys cI cL cF cA) (gw_W ad fo fa ur cI cL cF cA rec fp sp an nn (nI n) pt un uc (nI b) lc) [.ref ((ad 0)), .int (nI (k + 4)), .int (nI x), .int (bif w then 1 else 0)] (rg_QI (dC, dI) rg_cl (gw_tys cI cL cF cA) (S := gw_S) (gw_Po (rg_chg 2 (n, Rr, P1, P2, T, U, b, lc) (rg_setE (Rr (T b)) k (rg_mk ((Rr (T b)).2.2.1 k) x w)))) (fun u => gw_Wu ad fo fa ur cI cL cF cA u)) 0 0 := by
  refine rg_of prog_1_method_4_code 6 (some .int) (by decide) rfl (Nat.le_of_ble_eq_true rfl) ?_
  intro p e R s m args below meth c Q A H locs ls hR hQ hx hb hml hr hts hown hlk hnm hP hK hD hA hS hl
  have hl : lv_has ls 6 [(0, .ref ((ad 0))), (1, .int (nI (k + 4))), (2, .int (nI x)), (3, .int (bif w then 1 else 0))] := hl
  have hts : ∀ w ∈ rg_tbl, w.before args s = true := fun w h => hts w (List.mem_cons_of_mem _ h)
  have hok := hrep.1
  have hn1 : 1 ≤ n := hok.1
  have hn60 : n ≤ 60 := hok.2.1
  have hb4 : b < 4 := hok.2.2.2.2.2.2.2.1
  have hTb : T b < n := (hok.2.2.2.2.2.2.1 b hb4).1
  have hpt : pt b = nI (T b) := (hrep.2.2.2.2.2.2 b hb4).1
  have hyc : rg_CR (rec (T b)) (Rr (T b)) := hrep.2.2.2.2.1 (T b) hTb
  refine lv_iload_n hx hb dG_mark_0 rfl (lv_at hl 1 rfl) ?_
  refine lv_iconst (v := nI 4) hx hb dG_mark_1 (by decide) ?_
  refine rg_callv hD hS hA (va_runS (As := [.int (nI (k + 4)), .int (nI 4)]) (rest := []) ⟨hx, hb, hml, hown, hts⟩ (c_G_requireKind (k + 4) 4 (by omega) (by omega) _) (va_cwS 2 hts (rg_gSx tw_159 tw_160 tw_1 tw_161) rfl rfl rfl (by decide +kernel) ⟨by rw [hR]; exact Nat.le_of_ble_eq_true rfl, by rw [hR]; exact Nat.le_of_ble_eq_true rfl⟩) (rg_preS rfl hK hP hD) rfl rfl hl.1 rfl (lv_room (Nat.le_of_ble_eq_true rfl)) dG_mark_2 ⟨Nat.zero_le _, Nat.zero_le _⟩) (fun u2 H locs hw3 hP hD hS => ?_)
  have hP : va_P (dC, dI) rg_cl (gw_W ad fo fa ur cI cL cF cA rec fp sp an nn (nI n) pt un uc (nI b) lc) H := hP
  have hD : va_D A (gw_W ad fo fa ur cI cL cF cA rec fp sp an nn (nI n) pt un uc (nI b) lc) := hD
  refine lv_iload_n hx hb dG_mark_5 rfl (lv_at hl 2 rfl) ?_
  refine rg_ifN_lt (tgt := 15) hx hb dG_mark_6 (by decide) (by omega) (fun h4 => h4.elim) (fun h4 => ?_)
  refine lv_iload_n hx hb dG_mark_9 rfl (lv_at hl 2 rfl) ?_
  refine lv_bipush (v := nI 32) hx hb dG_mark_10 (by decide) ?_
  refine rg_icmp_lt (tgt := 25) hx hb dG_mark_12 (by decide) (by omega) (by omega) (fun h5 => ?_) (fun h5 => by exfalso; omega)
  refine lv_lconst (v := 1) hx hb dG_mark_25 (by decide) ?_
  refine lv_iload_n hx hb dG_mark_26 rfl (lv_at hl 2 rfl) ?_
  refine lv_lshl (v := (1 : Int64) <<< ((nI x).toInt64 &&& 63)) hx hb dG_mark_27 rfl ?_
  refine lv_lstore (lv' := [(4, .long ((1 : Int64) <<< ((nI x).toInt64 &&& 63))), (0, .ref ((ad 0))), (1, .int (nI (k + 4))), (2, .int (nI x)), (3, .int (bif w then 1 else 0))]) hx hb dG_mark_28 hl (by decide) rfl (fun ls hl => ?_)
  refine lv_aload_n hx hb dG_mark_30 rfl (lv_at hl 1 rfl) ?_
  refine rg_callv hD hS hA (va_runV (As := []) (rest := []) ⟨hx, hb, hml, hown, hts⟩ (c_G_draftPresent b (T b) (by omega) (by omega) hpt _) (cwV 0 hts (rg_gV tw_231 tw_233 ts_G_draftPresent tw_1 tw_234) rfl rfl rfl (by decide +kernel) ⟨by rw [hR]; exact Nat.le_of_ble_eq_true rfl, by rw [hR]; exact Nat.le_of_ble_eq_true rfl⟩) (rg_preV rfl hK hP hD (ci := 1) (q0 := 0) rfl rfl) rfl rfl hl.1 rfl (lv_room (Nat.le_of_ble_eq_true rfl)) dG_mark_31 ⟨Nat.zero_le _, Nat.zero_le _⟩) (fun u7 H locs hw8 hP hD hS => ?_)
  have hP : va_P (dC, dI) rg_cl (gw_W ad fo fa ur cI cL cF cA (va_up rec 60 (va_cpy (rec (T b)) (rec 60) 0 0 24)) fp sp an nn (nI n) pt un uc (nI b) lc) H := hP
  have hD : va_D A (gw_W ad fo fa ur cI cL cF cA (va_up rec 60 (va_cpy (rec (T b)) (rec 60) 0 0 24)) fp sp an nn (nI n) pt un uc (nI b) lc) := hD
  refine lv_aload_n hx hb dG_mark_34 rfl (lv_at hl 1 rfl) ?_
  refine va_get (D := (dC, dI)) (ci := 1) (C := "RevisionGrove") (T := TG) (N := 4) hx hb hts inG hown hK hP 0 rfl rfl 2 (by decide) (hts _ tw_88) (fun _ h9 => h9) rfl dG_mark_35 ?_
  refine lv_iload_n hx hb dG_mark_38 rfl (lv_at hl 2 rfl) ?_
  refine lv_iload_n hx hb dG_mark_39 rfl (lv_at hl 4 rfl) ?_
  have J40 : ∀ (v9 : Int64) (H : Heap) (locs : List Loc), v9 = (rg_mkL ((va_up rec 60 (va_cpy (rec (T b)) (rec 60) 0 0 24)) 60 (k + 4)) x w) → va_P (dC, dI) rg_cl (gw_W ad fo fa ur cI cL cF cA (va_up rec 60 (va_cpy (rec (T b)) (rec 60) 0 0 24)) fp sp an nn (nI n) pt un uc (nI b) lc) H → va_D A (gw_W ad fo fa ur cI cL cF cA (va_up rec 60 (va_cpy (rec (T b)) (rec 60) 0 0 24)) fp sp an nn (nI n) pt un uc (nI b) lc) → va_S A s.heap H locs → W p l e R s m args below meth c H locs 0 0 Q (F0 m 72 ls [.long v9, .int (nI (k + 4)), .ref ((fo 60))]) := by
    intro v9 H locs hv9 hP hD hS
    subst hv9
    refine rg_callv hD hS hA (va_runV (As := [.int (nI (k + 4)), .long (rg_mkL ((va_up rec 60 (va_cpy (rec (T b)) (rec 60) 0 0 24)) 60 (k + 4)) x w)]) (rest := []) ⟨hx, hb, hml, hown, hts⟩ (c_F_setCell 60 (k + 4) (by omega) (by omega) (rg_mkL ((va_up rec 60 (va_cpy (rec (T b)) (rec 60) 0 0 24)) 60 (k + 4)) x w) _) (cwV 2 hts (rg_gV tw_244 tw_245 tw_246 tw_3 tw_247) rfl rfl rfl (by decide +kernel) ⟨by rw [hR]; exact Nat.le_of_ble_eq_true rfl, by rw [hR]; exact Nat.le_of_ble_eq_true rfl⟩) (rg_preV rfl hK hP hD (ci := 4) (q0 := (11 + (4 + 60))) rfl (gw_obj (by omega))) rfl rfl hl.1 rfl (lv_room (Nat.le_of_ble_eq_true rfl)) dG_mark_72 ⟨Nat.zero_le _, Nat.zero_le _⟩) (fun u10 H locs hw11 hP hD hS => ?_)
    have hP : va_P (dC, dI) rg_cl (gw_W ad fo fa ur cI cL cF cA (va_up (va_up rec 60 (va_cpy (rec (T b)) (rec 60) 0 0 24)) 60 (vp_updL ((va_up rec 60 (va_cpy (rec (T b)) (rec 60) 0 0 24)) 60) (k + 4) (rg_mkL ((va_up rec 60 (va_cpy (rec (T b)) (rec 60) 0 0 24)) 60 (k + 4)) x w))) fp sp an nn (nI n) pt un uc (nI b) lc) H := hP
    have hD : va_D A (gw_W ad fo fa ur cI cL cF cA (va_up (va_up rec 60 (va_cpy (rec (T b)) (rec 60) 0 0 24)) 60 (vp_updL ((va_up rec 60 (va_cpy (rec (T b)) (rec 60) 0 0 24)) 60) (k + 4) (rg_mkL ((va_up rec 60 (va_cpy (rec (T b)) (rec 60) 0 0 24)) 60 (k + 4)) x w))) fp sp an nn (nI n) pt un uc (nI b) lc) := hD
    obtain ⟨d9, hd9⟩ : ∃ d9, d9 = (va_up (va_up rec 60 (va_cpy (rec (T b)) (rec 60) 0 0 24)) 60 (vp_updL ((va_up rec 60 (va_cpy (rec (T b)) (rec 60) 0 0 24)) 60) (k + 4) (rg_mkL ((va_up rec 60 (va_cpy (rec (T b)) (rec 60) 0 0 24)) 60 (k + 4)) x w))) 60 := ⟨_, rfl⟩
    have hrc9 : va_up (va_up rec 60 (va_cpy (rec (T b)) (rec 60) 0 0 24)) 60 (vp_updL ((va_up rec 60 (va_cpy (rec (T b)) (rec 60) 0 0 24)) 60) (k + 4) (rg_mkL ((va_up rec 60 (va_cpy (rec (T b)) (rec 60) 0 0 24)) 60 (k + 4)) x w)) = va_up rec 60 d9 := by rw [hd9]; simp only [rg_upup, rg_ups]
    rw [hrc9] at hP hD
    simp only [rg_ups] at hd9
    have hP : va_P (dC, dI) rg_cl (gw_W ad fo fa ur cI cL cF cA (va_up rec 60 d9) fp sp an nn (nI n) pt un uc (nI b) lc) H := hP
    have hD : va_D A (gw_W ad fo fa ur cI cL cF cA (va_up rec 60 d9) fp sp an nn (nI n) pt un uc (nI b) lc) := hD
    have hX9 : rg_CR d9 (rg_setE (Rr (T b)) k (rg_mk ((Rr (T b)).2.2.1 k) x w)) := by rw [hd9]; exact (by rw [(rg_CR_cpy (d' := rec 60) hyc k hk2).2.2.1, ← rg_zx_mk hx32]; exact rg_CR_setE (rg_CR_cpy hyc) hk2)
    have hXc : rg_CR ((va_up rec 60 d9) 60) (rg_setE (Rr (T b)) k (rg_mk ((Rr (T b)).2.2.1 k) x w)) := by rw [rg_ups]; exact hX9
    have hYc : rg_CR ((va_up rec 60 d9) (T b)) (Rr (T b)) := by rw [rg_upn _ _ (by omega)]; exact hyc
    have hr9 : gw_Rep (va_up rec 60 d9) fp sp an (nI n) pt un uc (nI b) lc (n, Rr, P1, P2, T, U, b, lc) := gw_Rep_rec hrep (fun r9 h9 => rg_upn _ _ (by have h9 : r9 < n := h9; omega))
    refine lv_aload_n hx hb dG_mark_75 rfl (lv_at hl 1 rfl) ?_
    refine lv_iload_n hx hb dG_mark_76 rfl (lv_at hl 2 rfl) ?_
    refine rg_calli hD hS hA (va_runV (As := [.int (nI (k + 4))]) (rest := []) ⟨hx, hb, hml, hown, hts⟩ (c_G_comeToChanged_n n b (T b) (k + 4) (by omega) (by omega) (by omega) (by omega) hpt (rg_setE (Rr (T b)) k (rg_mk ((Rr (T b)).2.2.1 k) x w)) (Rr (T b)) hXc hYc hs hn9 _) (cwV 1 hts (rg_gV tw_248 tw_250 ts_G_comeToChanged tw_1 tw_251) rfl rfl rfl (by decide +kernel) ⟨by rw [hR]; exact Nat.le_of_ble_eq_true rfl, by rw [hR]; exact Nat.le_of_ble_eq_true rfl⟩) (rg_preV rfl hK hP hD (ci := 1) (q0 := 0) rfl rfl) rfl rfl hl.1 rfl (lv_room (Nat.le_of_ble_eq_true rfl)) dG_mark_77 ⟨Nat.zero_le _, Nat.zero_le _⟩) (fun r12 u13 H locs hw14 hP hD hS => ?_)
    subst hw14
    have hP : va_P (dC, dI) rg_cl (gw_W ad fo fa ur cI cL cF cA (va_up (va_up rec 60 d9) n (va_cpy ((va_up rec 60 d9) 60) ((va_up rec 60 d9) n) 0 0 24)) (upd fp n (nI (T b))) (upd sp n (-1)) (vp_updL an n ((((1 : Int64) <<< ((nI n).toInt64 &&& 63)) ||| (rg_ax an (nI (T b)))) ||| (rg_ax an (-1)))) nn (nI (n + 1)) (upd pt b (nI n)) un (upd uc b (nI 0)) (nI b) lc) H := hP
    have hD : va_D A (gw_W ad fo fa ur cI cL cF cA (va_up (va_up rec 60 d9) n (va_cpy ((va_up rec 60 d9) 60) ((va_up rec 60 d9) n) 0 0 24)) (upd fp n (nI (T b))) (upd sp n (-1)) (vp_updL an n ((((1 : Int64) <<< ((nI n).toInt64 &&& 63)) ||| (rg_ax an (nI (T b)))) ||| (rg_ax an (-1)))) nn (nI (n + 1)) (upd pt b (nI n)) un (upd uc b (nI 0)) (nI b) lc) := hD
    rw [hQ]
    exact rg_iret hx hb hr hlk hK hP hD hS dG_mark_80 (va_up (va_up rec 60 d9) n (va_cpy ((va_up rec 60 d9) 60) ((va_up rec 60 d9) n) 0 0 24), upd fp n (nI (T b)), upd sp n (-1), vp_updL an n ((((1 : Int64) <<< ((nI n).toInt64 &&& 63)) ||| (rg_ax an (nI (T b)))) ||| (rg_ax an (-1))), nn, nI (n + 1), upd pt b (nI n), un, upd uc b (nI 0), nI b, lc) rfl (by rw [rg_chg_new (g := (n, Rr, P1, P2, T, U, b, lc)) (fun q => by rw [(rg_one_diff (f := k + 4) (by omega) (rg_sf_setE hk2)).mp q] at hs; cases hs) (by show ¬ n = 60; omega)]; exact ⟨gw_Rep_new (g := (n, Rr, P1, P2, T, U, b, lc)) hr9 hXc hn9 (Or.inl rfl), rfl, rfl⟩)
  refine rg_ifz_eq (tgt := 57) hx hb dG_mark_40 (by decide) (fun h15 => ?_) (fun h15 => ?_)
  · refine lv_aload_n hx hb dG_mark_57 rfl (lv_at hl 1 rfl) ?_
    refine va_get (D := (dC, dI)) (ci := 1) (C := "RevisionGrove") (T := TG) (N := 4) hx hb hts inG hown hK hP 0 rfl rfl 2 (by decide) (hts _ tw_88) (fun _ h9 => h9) rfl dG_mark_58 ?_
    refine lv_iload_n hx hb dG_mark_61 rfl (lv_at hl 2 rfl) ?_
    refine rg_calll hD hS hA (va_runV (As := [.int (nI (k + 4))]) (rest := [.int (nI (k + 4)), .ref ((fo 60))]) ⟨hx, hb, hml, hown, hts⟩ (c_F_cell 60 (k + 4) (by omega) (by omega) _) (cwV 1 hts (rg_gV tw_302 tw_303 tw_304 tw_3 tw_305) rfl rfl rfl (by decide +kernel) ⟨by rw [hR]; exact Nat.le_of_ble_eq_true rfl, by rw [hR]; exact Nat.le_of_ble_eq_true rfl⟩) (rg_preV rfl hK hP hD (ci := 4) (q0 := (11 + (4 + 60))) rfl (gw_obj (by omega))) rfl rfl hl.1 rfl (lv_room (Nat.le_of_ble_eq_true rfl)) dG_mark_62 ⟨Nat.zero_le _, Nat.zero_le _⟩) (fun r16 u17 H locs hw18 hP hD hS => ?_)
    subst hw18
    have hP : va_P (dC, dI) rg_cl (gw_W ad fo fa ur cI cL cF cA (va_up rec 60 (va_cpy (rec (T b)) (rec 60) 0 0 24)) fp sp an nn (nI n) pt un uc (nI b) lc) H := hP
    have hD : va_D A (gw_W ad fo fa ur cI cL cF cA (va_up rec 60 (va_cpy (rec (T b)) (rec 60) 0 0 24)) fp sp an nn (nI n) pt un uc (nI b) lc) := hD
    refine lv_lload hx hb dG_mark_65 (lv_at hl 0 rfl) ?_
    refine lv_ldc2 (v := -1) hx hb hown (hts _ tw_314) dG_mark_67 ?_
    refine lv_lxor hx hb dG_mark_70 ?_
    refine lv_land hx hb dG_mark_71 ?_
    exact J40 _ _ _ (by rw [h15]; rfl) hP hD hS
  · refine lv_aload_n hx hb dG_mark_43 rfl (lv_at hl 1 rfl) ?_
    refine va_get (D := (dC, dI)) (ci := 1) (C := "RevisionGrove") (T := TG) (N := 4) hx hb hts inG hown hK hP 0 rfl rfl 2 (by decide) (hts _ tw_88) (fun _ h9 => h9) rfl dG_mark_44 ?_
    refine lv_iload_n hx hb dG_mark_47 rfl (lv_at hl 2 rfl) ?_
    refine rg_calll hD hS hA (va_runV (As := [.int (nI (k + 4))]) (rest := [.int (nI (k + 4)), .ref ((fo 60))]) ⟨hx, hb, hml, hown, hts⟩ (c_F_cell 60 (k + 4) (by omega) (by omega) _) (cwV 1 hts (rg_gV tw_302 tw_303 tw_304 tw_3 tw_305) rfl rfl rfl (by decide +kernel) ⟨by rw [hR]; exact Nat.le_of_ble_eq_true rfl, by rw [hR]; exact Nat.le_of_ble_eq_true rfl⟩) (rg_preV rfl hK hP hD (ci := 4) (q0 := (11 + (4 + 60))) rfl (gw_obj (by omega))) rfl rfl hl.1 rfl (lv_room (Nat.le_of_ble_eq_true rfl)) dG_mark_48 ⟨Nat.zero_le _, Nat.zero_le _⟩) (fun r19 u20 H locs hw21 hP hD hS => ?_)
    subst hw21
    have hP : va_P (dC, dI) rg_cl (gw_W ad fo fa ur cI cL cF cA (va_up rec 60 (va_cpy (rec (T b)) (rec 60) 0 0 24)) fp sp an nn (nI n) pt un uc (nI b) lc) H := hP
    have hD : va_D A (gw_W ad fo fa ur cI cL cF cA (va_up rec 60 (va_cpy (rec (T b)) (rec 60) 0 0 24)) fp sp an nn (nI n) pt un uc (nI b) lc) := hD
    refine lv_lload hx hb dG_mark_51 (lv_at hl 0 rfl) ?_
    refine lv_lor hx hb dG_mark_53 ?_
    refine lv_goto (tgt := 72) hx hb dG_mark_54 (by decide) ?_
    exact J40 _ _ _ (by rw [h15]; rfl) hP hD hS
set_option maxHeartbeats 4000000 in
set_option maxRecDepth 100000 in
theorem c_G_mark_x {l : Launch} {dC : Nat → ClassId} {dI : Nat → Nat → Nat} {ad fo fa ur : Nat → Nat} {cI cL cF cA : ClassId} {rec : Nat → Nat → Int64} {fp : Nat → Int32} {sp : Nat → Int32} {an : Nat → Int64} {nn : Nat → Int32} {pt : Nat → Int32} {un : Nat → Nat → Int32} {uc : Nat → Int32} {lc : Int32} (hlt : l.stackTraces = false) (b : Nat) (Rr : Nat → rg_R) (P1 P2 : Nat → Int32) (T : Nat → Nat) (U : Nat → List Nat) (k x : Nat) (hk2 : k < 2) (hx32 : x < 32) (w : Bool) (hs : rg_sf (rg_setE (Rr (T b)) k (rg_mk ((Rr (T b)).2.2.1 k) x w)) (Rr (T b)) (k + 4) = false) (hrep : gw_Rep rec fp sp an (nI 60) pt un uc (nI b) lc (60, Rr, P1, P2, T, U, b, lc)) : rx_M l yG_mark (Cond.code yG_mark prog_1_method_4_code 6 (some .int) :: rg_tbl) { frames := 8, cells := 1, slots := 6, locals := 133 } (dC, dI) rg_cl (gw_tys cI cL cF cA) (gw_W ad fo fa ur cI cL cF cA rec fp sp an nn (nI 60) pt un uc (nI b) lc) [.ref ((ad 0)), .int (nI (k + 4)), .int (nI x), .int (bif w then 1 else 0)] (rg_QI (dC, dI) rg_cl (gw_tys cI cL cF cA) (S := Unit) (fun _ _ => False) (fun _ => gw_W ad fo fa ur cI cL cF cA rec fp sp an nn (nI 60) pt un uc (nI b) lc)) (rx_X (dC, dI) rg_cl (gw_tys cI cL cF cA) (S := gw_S) (gw_Px "java/lang/IllegalStateException" (60, Rr, P1, P2, T, U, b, lc)) (fun u => gw_Wu ad fo fa ur cI cL cF cA u)) 1 6 := by
  refine rx_of prog_1_method_4_code 6 (some .int) (by decide) rfl (Nat.le_of_ble_eq_true rfl) ?_
  intro p e R s m args below meth c Q A H locs ls hR hQ hx hb hml hr hts hown hlk hnm hno hT hP hK hD hA hS hl
  have hl : lv_has ls 6 [(0, .ref ((ad 0))), (1, .int (nI (k + 4))), (2, .int (nI x)), (3, .int (bif w then 1 else 0))] := hl
  have hts : ∀ w ∈ rg_tbl, w.before args s = true := fun w h => hts w (List.mem_cons_of_mem _ h)
  have hok := hrep.1
  have hb4 : b < 4 := hok.2.2.2.2.2.2.2.1
  have hTb : T b < 60 := (hok.2.2.2.2.2.2.1 b hb4).1
  have hpt : pt b = nI (T b) := (hrep.2.2.2.2.2.2 b hb4).1
  have hyc : rg_CR (rec (T b)) (Rr (T b)) := hrep.2.2.2.2.1 (T b) hTb
  refine lv_iload_n hx hb dG_mark_0 rfl (lv_at hl 1 rfl) ?_
  refine lv_iconst (v := nI 4) hx hb dG_mark_1 (by decide) ?_
  refine rg_callv hD hS hA (va_runS (As := [.int (nI (k + 4)), .int (nI 4)]) (rest := []) ⟨hx, hb, hml, hown, hts⟩ (c_G_requireKind (k + 4) 4 (by omega) (by omega) _) (va_cwS 2 hts (rg_gSx tw_159 tw_160 tw_1 tw_161) rfl rfl rfl (by decide +kernel) ⟨by rw [hR]; exact Nat.le_of_ble_eq_true rfl, by rw [hR]; exact Nat.le_of_ble_eq_true rfl⟩) (rg_preS rfl hK hP hD) rfl rfl hl.1 rfl (lv_room (Nat.le_of_ble_eq_true rfl)) dG_mark_2 ⟨Nat.zero_le _, Nat.zero_le _⟩) (fun u2 H locs hw3 hP hD hS => ?_)
  have hP : va_P (dC, dI) rg_cl (gw_W ad fo fa ur cI cL cF cA rec fp sp an nn (nI 60) pt un uc (nI b) lc) H := hP
  have hD : va_D A (gw_W ad fo fa ur cI cL cF cA rec fp sp an nn (nI 60) pt un uc (nI b) lc) := hD
  refine lv_iload_n hx hb dG_mark_5 rfl (lv_at hl 2 rfl) ?_
  refine rg_ifN_lt (tgt := 15) hx hb dG_mark_6 (by decide) (by omega) (fun h4 => h4.elim) (fun h4 => ?_)
  refine lv_iload_n hx hb dG_mark_9 rfl (lv_at hl 2 rfl) ?_
  refine lv_bipush (v := nI 32) hx hb dG_mark_10 (by decide) ?_
  refine rg_icmp_lt (tgt := 25) hx hb dG_mark_12 (by decide) (by omega) (by omega) (fun h5 => ?_) (fun h5 => by exfalso; omega)
  refine lv_lconst (v := 1) hx hb dG_mark_25 (by decide) ?_
  refine lv_iload_n hx hb dG_mark_26 rfl (lv_at hl 2 rfl) ?_
  refine lv_lshl (v := (1 : Int64) <<< ((nI x).toInt64 &&& 63)) hx hb dG_mark_27 rfl ?_
  refine lv_lstore (lv' := [(4, .long ((1 : Int64) <<< ((nI x).toInt64 &&& 63))), (0, .ref ((ad 0))), (1, .int (nI (k + 4))), (2, .int (nI x)), (3, .int (bif w then 1 else 0))]) hx hb dG_mark_28 hl (by decide) rfl (fun ls hl => ?_)
  refine lv_aload_n hx hb dG_mark_30 rfl (lv_at hl 1 rfl) ?_
  refine rg_callv hD hS hA (va_runV (As := []) (rest := []) ⟨hx, hb, hml, hown, hts⟩ (c_G_draftPresent b (T b) (by omega) (by omega) hpt _) (cwV 0 hts (rg_gV tw_231 tw_233 ts_G_draftPresent tw_1 tw_234) rfl rfl rfl (by decide +kernel) ⟨by rw [hR]; exact Nat.le_of_ble_eq_true rfl, by rw [hR]; exact Nat.le_of_ble_eq_true rfl⟩) (rg_preV rfl hK hP hD (ci := 1) (q0 := 0) rfl rfl) rfl rfl hl.1 rfl (lv_room (Nat.le_of_ble_eq_true rfl)) dG_mark_31 ⟨Nat.zero_le _, Nat.zero_le _⟩) (fun u7 H locs hw8 hP hD hS => ?_)
  have hP : va_P (dC, dI) rg_cl (gw_W ad fo fa ur cI cL cF cA (va_up rec 60 (va_cpy (rec (T b)) (rec 60) 0 0 24)) fp sp an nn (nI 60) pt un uc (nI b) lc) H := hP
  have hD : va_D A (gw_W ad fo fa ur cI cL cF cA (va_up rec 60 (va_cpy (rec (T b)) (rec 60) 0 0 24)) fp sp an nn (nI 60) pt un uc (nI b) lc) := hD
  refine lv_aload_n hx hb dG_mark_34 rfl (lv_at hl 1 rfl) ?_
  refine va_get (D := (dC, dI)) (ci := 1) (C := "RevisionGrove") (T := TG) (N := 4) hx hb hts inG hown hK hP 0 rfl rfl 2 (by decide) (hts _ tw_88) (fun _ h9 => h9) rfl dG_mark_35 ?_
  refine lv_iload_n hx hb dG_mark_38 rfl (lv_at hl 2 rfl) ?_
  refine lv_iload_n hx hb dG_mark_39 rfl (lv_at hl 4 rfl) ?_
  have J40 : ∀ (v9 : Int64) (H : Heap) (locs : List Loc), v9 = (rg_mkL ((va_up rec 60 (va_cpy (rec (T b)) (rec 60) 0 0 24)) 60 (k + 4)) x w) → va_P (dC, dI) rg_cl (gw_W ad fo fa ur cI cL cF cA (va_up rec 60 (va_cpy (rec (T b)) (rec 60) 0 0 24)) fp sp an nn (nI 60) pt un uc (nI b) lc) H → va_D A (gw_W ad fo fa ur cI cL cF cA (va_up rec 60 (va_cpy (rec (T b)) (rec 60) 0 0 24)) fp sp an nn (nI 60) pt un uc (nI b) lc) → va_S A s.heap H locs → W p l e R s m args below meth c H locs 0 0 Q (F0 m 72 ls [.long v9, .int (nI (k + 4)), .ref ((fo 60))]) := by
    intro v9 H locs hv9 hP hD hS
    subst hv9
    refine rg_callv hD hS hA (va_runV (As := [.int (nI (k + 4)), .long (rg_mkL ((va_up rec 60 (va_cpy (rec (T b)) (rec 60) 0 0 24)) 60 (k + 4)) x w)]) (rest := []) ⟨hx, hb, hml, hown, hts⟩ (c_F_setCell 60 (k + 4) (by omega) (by omega) (rg_mkL ((va_up rec 60 (va_cpy (rec (T b)) (rec 60) 0 0 24)) 60 (k + 4)) x w) _) (cwV 2 hts (rg_gV tw_244 tw_245 tw_246 tw_3 tw_247) rfl rfl rfl (by decide +kernel) ⟨by rw [hR]; exact Nat.le_of_ble_eq_true rfl, by rw [hR]; exact Nat.le_of_ble_eq_true rfl⟩) (rg_preV rfl hK hP hD (ci := 4) (q0 := (11 + (4 + 60))) rfl (gw_obj (by omega))) rfl rfl hl.1 rfl (lv_room (Nat.le_of_ble_eq_true rfl)) dG_mark_72 ⟨Nat.zero_le _, Nat.zero_le _⟩) (fun u10 H locs hw11 hP hD hS => ?_)
    have hP : va_P (dC, dI) rg_cl (gw_W ad fo fa ur cI cL cF cA (va_up (va_up rec 60 (va_cpy (rec (T b)) (rec 60) 0 0 24)) 60 (vp_updL ((va_up rec 60 (va_cpy (rec (T b)) (rec 60) 0 0 24)) 60) (k + 4) (rg_mkL ((va_up rec 60 (va_cpy (rec (T b)) (rec 60) 0 0 24)) 60 (k + 4)) x w))) fp sp an nn (nI 60) pt un uc (nI b) lc) H := hP
    have hD : va_D A (gw_W ad fo fa ur cI cL cF cA (va_up (va_up rec 60 (va_cpy (rec (T b)) (rec 60) 0 0 24)) 60 (vp_updL ((va_up rec 60 (va_cpy (rec (T b)) (rec 60) 0 0 24)) 60) (k + 4) (rg_mkL ((va_up rec 60 (va_cpy (rec (T b)) (rec 60) 0 0 24)) 60 (k + 4)) x w))) fp sp an nn (nI 60) pt un uc (nI b) lc) := hD
    obtain ⟨d9, hd9⟩ : ∃ d9, d9 = (va_up (va_up rec 60 (va_cpy (rec (T b)) (rec 60) 0 0 24)) 60 (vp_updL ((va_up rec 60 (va_cpy (rec (T b)) (rec 60) 0 0 24)) 60) (k + 4) (rg_mkL ((va_up rec 60 (va_cpy (rec (T b)) (rec 60) 0 0 24)) 60 (k + 4)) x w))) 60 := ⟨_, rfl⟩
    have hrc9 : va_up (va_up rec 60 (va_cpy (rec (T b)) (rec 60) 0 0 24)) 60 (vp_updL ((va_up rec 60 (va_cpy (rec (T b)) (rec 60) 0 0 24)) 60) (k + 4) (rg_mkL ((va_up rec 60 (va_cpy (rec (T b)) (rec 60) 0 0 24)) 60 (k + 4)) x w)) = va_up rec 60 d9 := by rw [hd9]; simp only [rg_upup, rg_ups]
    rw [hrc9] at hP hD
    simp only [rg_ups] at hd9
    have hP : va_P (dC, dI) rg_cl (gw_W ad fo fa ur cI cL cF cA (va_up rec 60 d9) fp sp an nn (nI 60) pt un uc (nI b) lc) H := hP
    have hD : va_D A (gw_W ad fo fa ur cI cL cF cA (va_up rec 60 d9) fp sp an nn (nI 60) pt un uc (nI b) lc) := hD
    have hX9 : rg_CR d9 (rg_setE (Rr (T b)) k (rg_mk ((Rr (T b)).2.2.1 k) x w)) := by rw [hd9]; exact (by rw [(rg_CR_cpy (d' := rec 60) hyc k hk2).2.2.1, ← rg_zx_mk hx32]; exact rg_CR_setE (rg_CR_cpy hyc) hk2)
    have hXc : rg_CR ((va_up rec 60 d9) 60) (rg_setE (Rr (T b)) k (rg_mk ((Rr (T b)).2.2.1 k) x w)) := by rw [rg_ups]; exact hX9
    have hYc : rg_CR ((va_up rec 60 d9) (T b)) (Rr (T b)) := by rw [rg_upn _ _ (by omega)]; exact hyc
    have hr9 : gw_Rep (va_up rec 60 d9) fp sp an (nI 60) pt un uc (nI b) lc (60, Rr, P1, P2, T, U, b, lc) := gw_Rep_rec hrep (fun r9 h9 => rg_upn _ _ (by have h9 : r9 < 60 := h9; omega))
    refine lv_aload_n hx hb dG_mark_75 rfl (lv_at hl 1 rfl) ?_
    refine lv_iload_n hx hb dG_mark_76 rfl (lv_at hl 2 rfl) ?_
    exact rx_calli hQ (fun E u h => ⟨(va_up rec 60 d9, fp, sp, an, nn, nI 60, pt, un, uc, nI b, lc), ⟨h, hr9⟩, rfl⟩) hno hlk hD hS hA (Nat.le_of_ble_eq_true rfl) (Nat.le_of_ble_eq_true rfl) (vx_runV (As := [.int (nI (k + 4))]) (rest := []) ⟨hx, hb, hml, hown, hts⟩ (c_G_comeToChanged_x hlt b (T b) (k + 4) (by omega) (by omega) (by omega) hpt (rg_setE (Rr (T b)) k (rg_mk ((Rr (T b)).2.2.1 k) x w)) (Rr (T b)) hXc hYc hs _) (cwV 1 hts (rg_gV tw_248 tw_250 ts_G_comeToChanged tw_1 tw_251) rfl rfl rfl (by decide +kernel) ⟨(by rw [hR]; exact Nat.le_of_ble_eq_true rfl), (by rw [hR]; exact Nat.le_of_ble_eq_true rfl)⟩) (rx_preV rfl hT hS hA hK hP hD (ci := 1) (q0 := 0) rfl rfl) rfl rfl hl.1 rfl (lv_room (Nat.le_of_ble_eq_true rfl)) dG_mark_77 ⟨(by rw [hR]; exact Nat.le_of_ble_eq_true rfl), (by rw [hR]; exact Nat.le_of_ble_eq_true rfl)⟩) (fun _ _ _ _ h9 => h9.elim)
  refine rg_ifz_eq (tgt := 57) hx hb dG_mark_40 (by decide) (fun h12 => ?_) (fun h12 => ?_)
  · refine lv_aload_n hx hb dG_mark_57 rfl (lv_at hl 1 rfl) ?_
    refine va_get (D := (dC, dI)) (ci := 1) (C := "RevisionGrove") (T := TG) (N := 4) hx hb hts inG hown hK hP 0 rfl rfl 2 (by decide) (hts _ tw_88) (fun _ h9 => h9) rfl dG_mark_58 ?_
    refine lv_iload_n hx hb dG_mark_61 rfl (lv_at hl 2 rfl) ?_
    refine rg_calll hD hS hA (va_runV (As := [.int (nI (k + 4))]) (rest := [.int (nI (k + 4)), .ref ((fo 60))]) ⟨hx, hb, hml, hown, hts⟩ (c_F_cell 60 (k + 4) (by omega) (by omega) _) (cwV 1 hts (rg_gV tw_302 tw_303 tw_304 tw_3 tw_305) rfl rfl rfl (by decide +kernel) ⟨by rw [hR]; exact Nat.le_of_ble_eq_true rfl, by rw [hR]; exact Nat.le_of_ble_eq_true rfl⟩) (rg_preV rfl hK hP hD (ci := 4) (q0 := (11 + (4 + 60))) rfl (gw_obj (by omega))) rfl rfl hl.1 rfl (lv_room (Nat.le_of_ble_eq_true rfl)) dG_mark_62 ⟨Nat.zero_le _, Nat.zero_le _⟩) (fun r13 u14 H locs hw15 hP hD hS => ?_)
    subst hw15
    have hP : va_P (dC, dI) rg_cl (gw_W ad fo fa ur cI cL cF cA (va_up rec 60 (va_cpy (rec (T b)) (rec 60) 0 0 24)) fp sp an nn (nI 60) pt un uc (nI b) lc) H := hP
    have hD : va_D A (gw_W ad fo fa ur cI cL cF cA (va_up rec 60 (va_cpy (rec (T b)) (rec 60) 0 0 24)) fp sp an nn (nI 60) pt un uc (nI b) lc) := hD
    refine lv_lload hx hb dG_mark_65 (lv_at hl 0 rfl) ?_
    refine lv_ldc2 (v := -1) hx hb hown (hts _ tw_314) dG_mark_67 ?_
    refine lv_lxor hx hb dG_mark_70 ?_
    refine lv_land hx hb dG_mark_71 ?_
    exact J40 _ _ _ (by rw [h12]; rfl) hP hD hS
  · refine lv_aload_n hx hb dG_mark_43 rfl (lv_at hl 1 rfl) ?_
    refine va_get (D := (dC, dI)) (ci := 1) (C := "RevisionGrove") (T := TG) (N := 4) hx hb hts inG hown hK hP 0 rfl rfl 2 (by decide) (hts _ tw_88) (fun _ h9 => h9) rfl dG_mark_44 ?_
    refine lv_iload_n hx hb dG_mark_47 rfl (lv_at hl 2 rfl) ?_
    refine rg_calll hD hS hA (va_runV (As := [.int (nI (k + 4))]) (rest := [.int (nI (k + 4)), .ref ((fo 60))]) ⟨hx, hb, hml, hown, hts⟩ (c_F_cell 60 (k + 4) (by omega) (by omega) _) (cwV 1 hts (rg_gV tw_302 tw_303 tw_304 tw_3 tw_305) rfl rfl rfl (by decide +kernel) ⟨by rw [hR]; exact Nat.le_of_ble_eq_true rfl, by rw [hR]; exact Nat.le_of_ble_eq_true rfl⟩) (rg_preV rfl hK hP hD (ci := 4) (q0 := (11 + (4 + 60))) rfl (gw_obj (by omega))) rfl rfl hl.1 rfl (lv_room (Nat.le_of_ble_eq_true rfl)) dG_mark_48 ⟨Nat.zero_le _, Nat.zero_le _⟩) (fun r16 u17 H locs hw18 hP hD hS => ?_)
    subst hw18
    have hP : va_P (dC, dI) rg_cl (gw_W ad fo fa ur cI cL cF cA (va_up rec 60 (va_cpy (rec (T b)) (rec 60) 0 0 24)) fp sp an nn (nI 60) pt un uc (nI b) lc) H := hP
    have hD : va_D A (gw_W ad fo fa ur cI cL cF cA (va_up rec 60 (va_cpy (rec (T b)) (rec 60) 0 0 24)) fp sp an nn (nI 60) pt un uc (nI b) lc) := hD
    refine lv_lload hx hb dG_mark_51 (lv_at hl 0 rfl) ?_
    refine lv_lor hx hb dG_mark_53 ?_
    refine lv_goto (tgt := 72) hx hb dG_mark_54 (by decide) ?_
    exact J40 _ _ _ (by rw [h12]; rfl) hP hD hS
set_option maxHeartbeats 4000000 in
set_option maxRecDepth 100000 in
theorem c_G_mark_xf {l : Launch} {dC : Nat → ClassId} {dI : Nat → Nat → Nat} {ad fo fa ur : Nat → Nat} {cI cL cF cA : ClassId} {rec : Nat → Nat → Int64} {fp : Nat → Int32} {sp : Nat → Int32} {an : Nat → Int64} {nn : Nat → Int32} {pt : Nat → Int32} {un : Nat → Nat → Int32} {uc : Nat → Int32} {lc : Int32} (hlt : l.stackTraces = false) (n b : Nat) (Rr : Nat → rg_R) (P1 P2 : Nat → Int32) (T : Nat → Nat) (U : Nat → List Nat) (f x : Int32) (w : Bool) (hk0 : ¬ f = 4) (hk1 : ¬ f = 5) (hrep : gw_Rep rec fp sp an (nI n) pt un uc (nI b) lc (n, Rr, P1, P2, T, U, b, lc)) : rx_M l yG_mark (Cond.code yG_mark prog_1_method_4_code 6 (some .int) :: rg_tbl) { frames := 8, cells := 1, slots := 6, locals := 133 } (dC, dI) rg_cl (gw_tys cI cL cF cA) (gw_W ad fo fa ur cI cL cF cA rec fp sp an nn (nI n) pt un uc (nI b) lc) [.ref ((ad 0)), .int f, .int x, .int (bif w then 1 else 0)] (rg_QI (dC, dI) rg_cl (gw_tys cI cL cF cA) (S := Unit) (fun _ _ => False) (fun _ => gw_W ad fo fa ur cI cL cF cA rec fp sp an nn (nI n) pt un uc (nI b) lc)) (rx_X (dC, dI) rg_cl (gw_tys cI cL cF cA) (S := gw_S) (gw_Px "java/lang/IllegalArgumentException" (n, Rr, P1, P2, T, U, b, lc)) (fun u => gw_Wu ad fo fa ur cI cL cF cA u)) 1 6 := by
  refine rx_of prog_1_method_4_code 6 (some .int) (by decide) rfl (Nat.le_of_ble_eq_true rfl) ?_
  intro p e R s m args below meth c Q A H locs ls hR hQ hx hb hml hr hts hown hlk hnm hno hT hP hK hD hA hS hl
  have hl : lv_has ls 6 [(0, .ref ((ad 0))), (1, .int f), (2, .int x), (3, .int (bif w then 1 else 0))] := hl
  have hts : ∀ w ∈ rg_tbl, w.before args s = true := fun w h => hts w (List.mem_cons_of_mem _ h)
  refine lv_iload_n hx hb dG_mark_0 rfl (lv_at hl 1 rfl) ?_
  refine lv_iconst (v := nI 4) hx hb dG_mark_1 (by decide) ?_
  exact rx_callv hQ (fun E u h => ⟨(rec, fp, sp, an, nn, nI n, pt, un, uc, nI b, lc), ⟨h, hrep⟩, rfl⟩) hno hlk hD hS hA (Nat.le_of_ble_eq_true rfl) (Nat.le_of_ble_eq_true rfl) (vx_runS (As := [.int f, .int (nI 4)]) (rest := []) ⟨hx, hb, hml, hown, hts⟩ (c_G_requireKind_x hlt f 4 hk0 hk1 _) (va_cwS 2 hts (rg_gSx tw_159 tw_160 tw_1 tw_161) rfl rfl rfl (by decide +kernel) ⟨(by rw [hR]; exact Nat.le_of_ble_eq_true rfl), (by rw [hR]; exact Nat.le_of_ble_eq_true rfl)⟩) (rx_preS rfl hT hS hA hK hP hD) rfl rfl hl.1 rfl (lv_room (Nat.le_of_ble_eq_true rfl)) dG_mark_2 ⟨(by rw [hR]; exact Nat.le_of_ble_eq_true rfl), (by rw [hR]; exact Nat.le_of_ble_eq_true rfl)⟩) (fun _ _ _ h9 => h9.elim)
set_option maxHeartbeats 4000000 in
set_option maxRecDepth 100000 in
theorem c_G_mark_xx {l : Launch} {dC : Nat → ClassId} {dI : Nat → Nat → Nat} {ad fo fa ur : Nat → Nat} {cI cL cF cA : ClassId} {rec : Nat → Nat → Int64} {fp : Nat → Int32} {sp : Nat → Int32} {an : Nat → Int64} {nn : Nat → Int32} {pt : Nat → Int32} {un : Nat → Nat → Int32} {uc : Nat → Int32} {lc : Int32} (hlt : l.stackTraces = false) (n b : Nat) (Rr : Nat → rg_R) (P1 P2 : Nat → Int32) (T : Nat → Nat) (U : Nat → List Nat) (k : Nat) (hk2 : k < 2) (x : Int32) (w : Bool) (hx0 : x < 0 ∨ 31 < x) (hrep : gw_Rep rec fp sp an (nI n) pt un uc (nI b) lc (n, Rr, P1, P2, T, U, b, lc)) : rx_M l yG_mark (Cond.code yG_mark prog_1_method_4_code 6 (some .int) :: rg_tbl) { frames := 8, cells := 1, slots := 6, locals := 133 } (dC, dI) rg_cl (gw_tys cI cL cF cA) (gw_W ad fo fa ur cI cL cF cA rec fp sp an nn (nI n) pt un uc (nI b) lc) [.ref ((ad 0)), .int (nI (k + 4)), .int x, .int (bif w then 1 else 0)] (rg_QI (dC, dI) rg_cl (gw_tys cI cL cF cA) (S := Unit) (fun _ _ => False) (fun _ => gw_W ad fo fa ur cI cL cF cA rec fp sp an nn (nI n) pt un uc (nI b) lc)) (rx_X (dC, dI) rg_cl (gw_tys cI cL cF cA) (S := gw_S) (gw_Px "java/lang/IllegalArgumentException" (n, Rr, P1, P2, T, U, b, lc)) (fun u => gw_Wu ad fo fa ur cI cL cF cA u)) 1 6 := by
  refine rx_of prog_1_method_4_code 6 (some .int) (by decide) rfl (Nat.le_of_ble_eq_true rfl) ?_
  intro p e R s m args below meth c Q A H locs ls hR hQ hx hb hml hr hts hown hlk hnm hno hT hP hK hD hA hS hl
  have hl : lv_has ls 6 [(0, .ref ((ad 0))), (1, .int (nI (k + 4))), (2, .int x), (3, .int (bif w then 1 else 0))] := hl
  have hts : ∀ w ∈ rg_tbl, w.before args s = true := fun w h => hts w (List.mem_cons_of_mem _ h)
  refine lv_iload_n hx hb dG_mark_0 rfl (lv_at hl 1 rfl) ?_
  refine lv_iconst (v := nI 4) hx hb dG_mark_1 (by decide) ?_
  refine rg_callv hD hS hA (va_runS (As := [.int (nI (k + 4)), .int (nI 4)]) (rest := []) ⟨hx, hb, hml, hown, hts⟩ (c_G_requireKind (k + 4) 4 (by omega) (by omega) _) (va_cwS 2 hts (rg_gSx tw_159 tw_160 tw_1 tw_161) rfl rfl rfl (by decide +kernel) ⟨by rw [hR]; exact Nat.le_of_ble_eq_true rfl, by rw [hR]; exact Nat.le_of_ble_eq_true rfl⟩) (rg_preS rfl hK hP hD) rfl rfl hl.1 rfl (lv_room (Nat.le_of_ble_eq_true rfl)) dG_mark_2 ⟨Nat.zero_le _, Nat.zero_le _⟩) (fun u2 H locs hw3 hP hD hS => ?_)
  have hP : va_P (dC, dI) rg_cl (gw_W ad fo fa ur cI cL cF cA rec fp sp an nn (nI n) pt un uc (nI b) lc) H := hP
  have hD : va_D A (gw_W ad fo fa ur cI cL cF cA rec fp sp an nn (nI n) pt un uc (nI b) lc) := hD
  refine lv_iload_n hx hb dG_mark_5 rfl (lv_at hl 2 rfl) ?_
  refine lv_if_lt (tgt := 15) hx hb dG_mark_6 (by decide) (fun h4 => ?_) (fun h4 => ?_)
  · rw [hQ]
    exact rx_throw (cls := "java/lang/IllegalArgumentException") (text := "no such element") (rec, fp, sp, an, nn, nI n, pt, un, uc, nI b, lc) (⟨rfl, hrep⟩) rfl hx hb hlt hown hts hT hno (by decide +kernel) rx_clA rx_itA rx_inA rx_bdA rx_gdA (by decide +kernel) hK hP hD hS (hl.1.trans hml.symm) dG_mark_15 dG_mark_18 dG_mark_19 dG_mark_21 dG_mark_24 (by rw [hR]; exact Nat.le_of_ble_eq_true rfl) (by rw [hR]; exact Nat.le_of_ble_eq_true rfl) (by rw [hR]; exact Nat.le_of_ble_eq_true rfl) (by rw [hR]; exact Nat.le_of_ble_eq_true rfl) hlk (Nat.le_of_ble_eq_true rfl) (Nat.le_of_ble_eq_true rfl)
  · refine lv_iload_n hx hb dG_mark_9 rfl (lv_at hl 2 rfl) ?_
    refine lv_bipush (v := nI 32) hx hb dG_mark_10 (by decide) ?_
    refine lv_icmp_lt (tgt := 25) hx hb dG_mark_12 (by decide) (fun h5 => absurd hx0 (fun q => q.elim h4 (fun q => rg_3132 q h5))) (fun h5 => ?_)
    rw [hQ]
    exact rx_throw (cls := "java/lang/IllegalArgumentException") (text := "no such element") (rec, fp, sp, an, nn, nI n, pt, un, uc, nI b, lc) (⟨rfl, hrep⟩) rfl hx hb hlt hown hts hT hno (by decide +kernel) rx_clA rx_itA rx_inA rx_bdA rx_gdA (by decide +kernel) hK hP hD hS (hl.1.trans hml.symm) dG_mark_15 dG_mark_18 dG_mark_19 dG_mark_21 dG_mark_24 (by rw [hR]; exact Nat.le_of_ble_eq_true rfl) (by rw [hR]; exact Nat.le_of_ble_eq_true rfl) (by rw [hR]; exact Nat.le_of_ble_eq_true rfl) (by rw [hR]; exact Nat.le_of_ble_eq_true rfl) hlk (Nat.le_of_ble_eq_true rfl) (Nat.le_of_ble_eq_true rfl)
