set_option maxHeartbeats 4000000 in
set_option maxRecDepth 100000 in
theorem c_G_insert_s {l : Launch} {dC : Nat → ClassId} {dI : Nat → Nat → Nat} {ad fo fa ur : Nat → Nat} {cI cL cF cA : ClassId} {rec : Nat → Nat → Int64} {fp : Nat → Int32} {sp : Nat → Int32} {an : Nat → Int64} {nn : Nat → Int32} {pt : Nat → Int32} {un : Nat → Nat → Int32} {uc : Nat → Int32} {lc : Int32} (n b : Nat) (Rr : Nat → rg_R) (P1 P2 : Nat → Int32) (T : Nat → Nat) (U : Nat → List Nat) (k : Nat) (hk2 : k < 2) (l9 : List Int32) (hl9 : (Rr (T b)).2.2.2 k = l9) (x : Nat) (v : Int32) (hxl : x ≤ l9.length) (hl8 : l9.length < 8) (hs : rg_sf (rg_setL (Rr (T b)) k (rg_insL l9 x v)) (Rr (T b)) (k + 6) = true) (hrep : gw_Rep rec fp sp an (nI n) pt un uc (nI b) lc (n, Rr, P1, P2, T, U, b, lc)) : rg_M l yG_insert (Cond.code yG_insert prog_1_method_5_code 4 (some .int) :: rg_tbl) { frames := 5, cells := 0, slots := 0, locals := 118 } (dC, dI) rg_cl (gw_tys cI cL cF cA) (gw_W ad fo fa ur cI cL cF cA rec fp sp an nn (nI n) pt un uc (nI b) lc) [.ref ((ad 0)), .int (nI (k + 6)), .int (nI x), .int v] (rg_QI (dC, dI) rg_cl (gw_tys cI cL cF cA) (S := gw_S) (gw_Po (rg_chg 2 (n, Rr, P1, P2, T, U, b, lc) (rg_setL (Rr (T b)) k (rg_insL l9 x v)))) (fun u => gw_Wu ad fo fa ur cI cL cF cA u)) 0 0 := by
  refine rg_of prog_1_method_5_code 4 (some .int) (by decide) rfl (Nat.le_of_ble_eq_true rfl) ?_
  intro p e R s m args below meth c Q A H locs ls hR hQ hx hb hml hr hts hown hlk hnm hP hK hD hA hS hl
  have hl : lv_has ls 4 [(0, .ref ((ad 0))), (1, .int (nI (k + 6))), (2, .int (nI x)), (3, .int v)] := hl
  have hts : ∀ w ∈ rg_tbl, w.before args s = true := fun w h => hts w (List.mem_cons_of_mem _ h)
  have hok := hrep.1
  have hn1 : 1 ≤ n := hok.1
  have hn60 : n ≤ 60 := hok.2.1
  have hb4 : b < 4 := hok.2.2.2.2.2.2.2.1
  have hTb : T b < n := (hok.2.2.2.2.2.2.1 b hb4).1
  have hpt : pt b = nI (T b) := (hrep.2.2.2.2.2.2 b hb4).1
  have hyc : rg_CR (rec (T b)) (Rr (T b)) := hrep.2.2.2.2.1 (T b) hTb
  have hq9 := rg_CR_cpy (d' := rec 60) hyc k hk2
  rw [hl9] at hq9
  have hlq := hq9.2.2.2.2.1
  have hl89 := hq9.2.2.2.1
  have hlc9 : rg_LC ((va_up rec 60 (va_cpy (rec (T b)) (rec 60) 0 0 24)) 60) k l9 := by rw [rg_ups]; exact ⟨hq9.2.2.2.2.1, hq9.2.2.2.2.2⟩
  refine lv_iload_n hx hb dG_insert_0 rfl (lv_at hl 1 rfl) ?_
  refine lv_bipush (v := nI 6) hx hb dG_insert_1 (by decide) ?_
  refine rg_callv hD hS hA (va_runS (As := [.int (nI (k + 6)), .int (nI 6)]) (rest := []) ⟨hx, hb, hml, hown, hts⟩ (c_G_requireKind (k + 6) 6 (by omega) (by omega) _) (va_cwS 2 hts (rg_gSx tw_159 tw_160 tw_1 tw_161) rfl rfl rfl (by decide +kernel) ⟨by rw [hR]; exact Nat.le_of_ble_eq_true rfl, by rw [hR]; exact Nat.le_of_ble_eq_true rfl⟩) (rg_preS rfl hK hP hD) rfl rfl hl.1 rfl (lv_room (Nat.le_of_ble_eq_true rfl)) dG_insert_3 ⟨Nat.zero_le _, Nat.zero_le _⟩) (fun u2 H locs hw3 hP hD hS => ?_)
  have hP : va_P (dC, dI) rg_cl (gw_W ad fo fa ur cI cL cF cA rec fp sp an nn (nI n) pt un uc (nI b) lc) H := hP
  have hD : va_D A (gw_W ad fo fa ur cI cL cF cA rec fp sp an nn (nI n) pt un uc (nI b) lc) := hD
  refine lv_aload_n hx hb dG_insert_6 rfl (lv_at hl 0 rfl) ?_
  refine rg_callv hD hS hA (va_runV (As := []) (rest := []) ⟨hx, hb, hml, hown, hts⟩ (c_G_draftPresent b (T b) (by omega) (by omega) hpt _) (cwV 0 hts (rg_gV tw_231 tw_233 ts_G_draftPresent tw_1 tw_234) rfl rfl rfl (by decide +kernel) ⟨by rw [hR]; exact Nat.le_of_ble_eq_true rfl, by rw [hR]; exact Nat.le_of_ble_eq_true rfl⟩) (rg_preV rfl hK hP hD (ci := 1) (q0 := 0) rfl rfl) rfl rfl hl.1 rfl (lv_room (Nat.le_of_ble_eq_true rfl)) dG_insert_7 ⟨Nat.zero_le _, Nat.zero_le _⟩) (fun u5 H locs hw6 hP hD hS => ?_)
  have hP : va_P (dC, dI) rg_cl (gw_W ad fo fa ur cI cL cF cA (va_up rec 60 (va_cpy (rec (T b)) (rec 60) 0 0 24)) fp sp an nn (nI n) pt un uc (nI b) lc) H := hP
  have hD : va_D A (gw_W ad fo fa ur cI cL cF cA (va_up rec 60 (va_cpy (rec (T b)) (rec 60) 0 0 24)) fp sp an nn (nI n) pt un uc (nI b) lc) := hD
  refine lv_iload_n hx hb dG_insert_10 rfl (lv_at hl 2 rfl) ?_
  refine rg_ifN_lt (tgt := 26) hx hb dG_insert_11 (by decide) (by omega) (fun h7 => h7.elim) (fun h7 => ?_)
  refine lv_iload_n hx hb dG_insert_14 rfl (lv_at hl 2 rfl) ?_
  refine lv_aload_n hx hb dG_insert_15 rfl (lv_at hl 0 rfl) ?_
  refine va_get (D := (dC, dI)) (ci := 1) (C := "RevisionGrove") (T := TG) (N := 4) hx hb hts inG hown hK hP 0 rfl rfl 2 (by decide) (hts _ tw_88) (fun _ h9 => h9) rfl dG_insert_16 ?_
  refine lv_iload_n hx hb dG_insert_19 rfl (lv_at hl 1 rfl) ?_
  refine rg_calli hD hS hA (va_runV (As := [.int (nI (k + 6))]) (rest := [.int (nI x)]) ⟨hx, hb, hml, hown, hts⟩ (c_F_length 60 (k + 6) (by omega) (by omega) _) (cwV 1 hts (rg_gV tw_323 tw_324 tw_325 tw_3 tw_326) rfl rfl rfl (by decide +kernel) ⟨by rw [hR]; exact Nat.le_of_ble_eq_true rfl, by rw [hR]; exact Nat.le_of_ble_eq_true rfl⟩) (rg_preV rfl hK hP hD (ci := 4) (q0 := (11 + (4 + 60))) rfl (gw_obj (by omega))) rfl rfl hl.1 rfl (lv_room (Nat.le_of_ble_eq_true rfl)) dG_insert_20 ⟨Nat.zero_le _, Nat.zero_le _⟩) (fun r8 u9 H locs hw10 hP hD hS => ?_)
  subst hw10
  have hP : va_P (dC, dI) rg_cl (gw_W ad fo fa ur cI cL cF cA (va_up rec 60 (va_cpy (rec (T b)) (rec 60) 0 0 24)) fp sp an nn (nI n) pt un uc (nI b) lc) H := hP
  have hD : va_D A (gw_W ad fo fa ur cI cL cF cA (va_up rec 60 (va_cpy (rec (T b)) (rec 60) 0 0 24)) fp sp an nn (nI n) pt un uc (nI b) lc) := hD
  refine rg_top (show (.int (((va_up rec 60 (va_cpy (rec (T b)) (rec 60) 0 0 24)) 60 (k + 6)).toInt32) : Value) = .int (nI l9.length) by rw [rg_ups, hlq, lN_i]) ?_
  refine rg_icmp_le (tgt := 36) hx hb dG_insert_23 (by decide) (by omega) (by omega) (fun h11 => ?_) (fun h11 => by exfalso; omega)
  refine lv_aload_n hx hb dG_insert_36 rfl (lv_at hl 0 rfl) ?_
  refine va_get (D := (dC, dI)) (ci := 1) (C := "RevisionGrove") (T := TG) (N := 4) hx hb hts inG hown hK hP 0 rfl rfl 2 (by decide) (hts _ tw_88) (fun _ h9 => h9) rfl dG_insert_37 ?_
  refine lv_iload_n hx hb dG_insert_40 rfl (lv_at hl 1 rfl) ?_
  refine rg_calli hD hS hA (va_runV (As := [.int (nI (k + 6))]) (rest := []) ⟨hx, hb, hml, hown, hts⟩ (c_F_length 60 (k + 6) (by omega) (by omega) _) (cwV 1 hts (rg_gV tw_323 tw_324 tw_325 tw_3 tw_326) rfl rfl rfl (by decide +kernel) ⟨by rw [hR]; exact Nat.le_of_ble_eq_true rfl, by rw [hR]; exact Nat.le_of_ble_eq_true rfl⟩) (rg_preV rfl hK hP hD (ci := 4) (q0 := (11 + (4 + 60))) rfl (gw_obj (by omega))) rfl rfl hl.1 rfl (lv_room (Nat.le_of_ble_eq_true rfl)) dG_insert_41 ⟨Nat.zero_le _, Nat.zero_le _⟩) (fun r12 u13 H locs hw14 hP hD hS => ?_)
  subst hw14
  have hP : va_P (dC, dI) rg_cl (gw_W ad fo fa ur cI cL cF cA (va_up rec 60 (va_cpy (rec (T b)) (rec 60) 0 0 24)) fp sp an nn (nI n) pt un uc (nI b) lc) H := hP
  have hD : va_D A (gw_W ad fo fa ur cI cL cF cA (va_up rec 60 (va_cpy (rec (T b)) (rec 60) 0 0 24)) fp sp an nn (nI n) pt un uc (nI b) lc) := hD
  refine rg_top (show (.int (((va_up rec 60 (va_cpy (rec (T b)) (rec 60) 0 0 24)) 60 (k + 6)).toInt32) : Value) = .int (nI l9.length) by rw [rg_ups, hlq, lN_i]) ?_
  refine lv_bipush (v := nI 8) hx hb dG_insert_44 (by decide) ?_
  refine rg_icmp_ne (tgt := 59) hx hb dG_insert_46 (by decide) (by omega) (by omega) (fun h15 => ?_) (fun h15 => by exfalso; omega)
  refine lv_aload_n hx hb dG_insert_59 rfl (lv_at hl 0 rfl) ?_
  refine va_get (D := (dC, dI)) (ci := 1) (C := "RevisionGrove") (T := TG) (N := 4) hx hb hts inG hown hK hP 0 rfl rfl 2 (by decide) (hts _ tw_88) (fun _ h9 => h9) rfl dG_insert_60 ?_
  refine lv_iload_n hx hb dG_insert_63 rfl (lv_at hl 1 rfl) ?_
  refine lv_iload_n hx hb dG_insert_64 rfl (lv_at hl 2 rfl) ?_
  refine lv_iload_n hx hb dG_insert_65 rfl (lv_at hl 3 rfl) ?_
  refine rg_callv hD hS hA (va_runV (As := [.int (nI (k + 6)), .int (nI x), .int v]) (rest := []) ⟨hx, hb, hml, hown, hts⟩ (c_F_insertInt 60 k x (by omega) (by omega) v l9 hlc9 hxl hl8 _) (cwV 3 hts (rg_gV tw_344 tw_345 tw_346 tw_3 tw_347) rfl rfl rfl (by decide +kernel) ⟨by rw [hR]; exact Nat.le_of_ble_eq_true rfl, by rw [hR]; exact Nat.le_of_ble_eq_true rfl⟩) (rg_preV rfl hK hP hD (ci := 4) (q0 := (11 + (4 + 60))) rfl (gw_obj (by omega))) rfl rfl hl.1 rfl (lv_room (Nat.le_of_ble_eq_true rfl)) dG_insert_66 ⟨Nat.zero_le _, Nat.zero_le _⟩) (fun u17 H locs hw18 hP hD hS => ?_)
  have hP : va_P (dC, dI) rg_cl (gw_W ad fo fa ur cI cL cF cA (va_up (va_up rec 60 (va_cpy (rec (T b)) (rec 60) 0 0 24)) 60 u17) fp sp an nn (nI n) pt un uc (nI b) lc) H := hP
  have hD : va_D A (gw_W ad fo fa ur cI cL cF cA (va_up (va_up rec 60 (va_cpy (rec (T b)) (rec 60) 0 0 24)) 60 u17) fp sp an nn (nI n) pt un uc (nI b) lc) := hD
  have hLC9 := hw18
  obtain ⟨d9, hd9⟩ : ∃ d9, d9 = (va_up (va_up rec 60 (va_cpy (rec (T b)) (rec 60) 0 0 24)) 60 u17) 60 := ⟨_, rfl⟩
  have hrc9 : va_up (va_up rec 60 (va_cpy (rec (T b)) (rec 60) 0 0 24)) 60 u17 = va_up rec 60 d9 := by rw [hd9]; simp only [rg_upup, rg_ups]
  rw [hrc9] at hP hD
  simp only [rg_ups] at hd9
  have hP : va_P (dC, dI) rg_cl (gw_W ad fo fa ur cI cL cF cA (va_up rec 60 d9) fp sp an nn (nI n) pt un uc (nI b) lc) H := hP
  have hD : va_D A (gw_W ad fo fa ur cI cL cF cA (va_up rec 60 d9) fp sp an nn (nI n) pt un uc (nI b) lc) := hD
  have hX9 : rg_CR d9 (rg_setL (Rr (T b)) k (rg_insL l9 x v)) := by rw [hd9]; exact (rg_CR_setL (rg_CR_cpy hyc) hk2 (by rw [rg_insL_len hxl]; omega) hLC9.1 (by have := hLC9.2; rw [rg_ups] at this; exact this))
  have hXc : rg_CR ((va_up rec 60 d9) 60) (rg_setL (Rr (T b)) k (rg_insL l9 x v)) := by rw [rg_ups]; exact hX9
  have hYc : rg_CR ((va_up rec 60 d9) (T b)) (Rr (T b)) := by rw [rg_upn _ _ (by omega)]; exact hyc
  have hr9 : gw_Rep (va_up rec 60 d9) fp sp an (nI n) pt un uc (nI b) lc (n, Rr, P1, P2, T, U, b, lc) := gw_Rep_rec hrep (fun r9 h9 => rg_upn _ _ (by have h9 : r9 < n := h9; omega))
  refine lv_aload_n hx hb dG_insert_69 rfl (lv_at hl 0 rfl) ?_
  refine lv_iload_n hx hb dG_insert_70 rfl (lv_at hl 1 rfl) ?_
  refine rg_calli hD hS hA (va_runV (As := [.int (nI (k + 6))]) (rest := []) ⟨hx, hb, hml, hown, hts⟩ (c_G_comeToChanged_s n b (T b) (k + 6) (by omega) (by omega) (by omega) (by omega) hpt (rg_setL (Rr (T b)) k (rg_insL l9 x v)) (Rr (T b)) hXc hYc hs _) (cwV 1 hts (rg_gV tw_248 tw_250 ts_G_comeToChanged tw_1 tw_251) rfl rfl rfl (by decide +kernel) ⟨by rw [hR]; exact Nat.le_of_ble_eq_true rfl, by rw [hR]; exact Nat.le_of_ble_eq_true rfl⟩) (rg_preV rfl hK hP hD (ci := 1) (q0 := 0) rfl rfl) rfl rfl hl.1 rfl (lv_room (Nat.le_of_ble_eq_true rfl)) dG_insert_71 ⟨Nat.zero_le _, Nat.zero_le _⟩) (fun r19 u20 H locs hw21 hP hD hS => ?_)
  subst hw21
  have hP : va_P (dC, dI) rg_cl (gw_W ad fo fa ur cI cL cF cA (va_up rec 60 d9) fp sp an nn (nI n) pt un uc (nI b) lc) H := hP
  have hD : va_D A (gw_W ad fo fa ur cI cL cF cA (va_up rec 60 d9) fp sp an nn (nI n) pt un uc (nI b) lc) := hD
  rw [hQ]
  exact rg_iret hx hb hr hlk hK hP hD hS dG_insert_74 (va_up rec 60 d9, fp, sp, an, nn, nI n, pt, un, uc, nI b, lc) rfl (by rw [rg_chg_same (g := (n, Rr, P1, P2, T, U, b, lc)) ((rg_one_diff (f := k + 6) (by omega) (rg_sf_setL hk2)).mpr hs)]; exact ⟨hr9, rfl, rfl⟩)
set_option maxHeartbeats 4000000 in
set_option maxRecDepth 100000 in
theorem c_G_insert_n {l : Launch} {dC : Nat → ClassId} {dI : Nat → Nat → Nat} {ad fo fa ur : Nat → Nat} {cI cL cF cA : ClassId} {rec : Nat → Nat → Int64} {fp : Nat → Int32} {sp : Nat → Int32} {an : Nat → Int64} {nn : Nat → Int32} {pt : Nat → Int32} {un : Nat → Nat → Int32} {uc : Nat → Int32} {lc : Int32} (n b : Nat) (Rr : Nat → rg_R) (P1 P2 : Nat → Int32) (T : Nat → Nat) (U : Nat → List Nat) (k : Nat) (hk2 : k < 2) (l9 : List Int32) (hl9 : (Rr (T b)).2.2.2 k = l9) (x : Nat) (v : Int32) (hxl : x ≤ l9.length) (hl8 : l9.length < 8) (hs : rg_sf (rg_setL (Rr (T b)) k (rg_insL l9 x v)) (Rr (T b)) (k + 6) = false) (hn9 : n < 60) (hrep : gw_Rep rec fp sp an (nI n) pt un uc (nI b) lc (n, Rr, P1, P2, T, U, b, lc)) : rg_M l yG_insert (Cond.code yG_insert prog_1_method_5_code 4 (some .int) :: rg_tbl) { frames := 5, cells := 0, slots := 0, locals := 118 } (dC, dI) rg_cl (gw_tys cI cL cF cA) (gw_W ad fo fa ur cI cL cF cA rec fp sp an nn (nI n) pt un uc (nI b) lc) [.ref ((ad 0)), .int (nI (k + 6)), .int (nI x), .int v] (rg_QI (dC, dI) rg_cl (gw_tys cI cL cF cA) (S := gw_S) (gw_Po (rg_chg 2 (n, Rr, P1, P2, T, U, b, lc) (rg_setL (Rr (T b)) k (rg_insL l9 x v)))) (fun u => gw_Wu ad fo fa ur cI cL cF cA u)) 0 0 := by
  refine rg_of prog_1_method_5_code 4 (some .int) (by decide) rfl (Nat.le_of_ble_eq_true rfl) ?_
  intro p e R s m args below meth c Q A H locs ls hR hQ hx hb hml hr hts hown hlk hnm hP hK hD hA hS hl
  have hl : lv_has ls 4 [(0, .ref ((ad 0))), (1, .int (nI (k + 6))), (2, .int (nI x)), (3, .int v)] := hl
  have hts : ∀ w ∈ rg_tbl, w.before args s = true := fun w h => hts w (List.mem_cons_of_mem _ h)
  have hok := hrep.1
  have hn1 : 1 ≤ n := hok.1
  have hn60 : n ≤ 60 := hok.2.1
  have hb4 : b < 4 := hok.2.2.2.2.2.2.2.1
  have hTb : T b < n := (hok.2.2.2.2.2.2.1 b hb4).1
  have hpt : pt b = nI (T b) := (hrep.2.2.2.2.2.2 b hb4).1
  have hyc : rg_CR (rec (T b)) (Rr (T b)) := hrep.2.2.2.2.1 (T b) hTb
  have hq9 := rg_CR_cpy (d' := rec 60) hyc k hk2
  rw [hl9] at hq9
  have hlq := hq9.2.2.2.2.1
  have hl89 := hq9.2.2.2.1
  have hlc9 : rg_LC ((va_up rec 60 (va_cpy (rec (T b)) (rec 60) 0 0 24)) 60) k l9 := by rw [rg_ups]; exact ⟨hq9.2.2.2.2.1, hq9.2.2.2.2.2⟩
  refine lv_iload_n hx hb dG_insert_0 rfl (lv_at hl 1 rfl) ?_
  refine lv_bipush (v := nI 6) hx hb dG_insert_1 (by decide) ?_
  refine rg_callv hD hS hA (va_runS (As := [.int (nI (k + 6)), .int (nI 6)]) (rest := []) ⟨hx, hb, hml, hown, hts⟩ (c_G_requireKind (k + 6) 6 (by omega) (by omega) _) (va_cwS 2 hts (rg_gSx tw_159 tw_160 tw_1 tw_161) rfl rfl rfl (by decide +kernel) ⟨by rw [hR]; exact Nat.le_of_ble_eq_true rfl, by rw [hR]; exact Nat.le_of_ble_eq_true rfl⟩) (rg_preS rfl hK hP hD) rfl rfl hl.1 rfl (lv_room (Nat.le_of_ble_eq_true rfl)) dG_insert_3 ⟨Nat.zero_le _, Nat.zero_le _⟩) (fun u2 H locs hw3 hP hD hS => ?_)
  have hP : va_P (dC, dI) rg_cl (gw_W ad fo fa ur cI cL cF cA rec fp sp an nn (nI n) pt un uc (nI b) lc) H := hP
  have hD : va_D A (gw_W ad fo fa ur cI cL cF cA rec fp sp an nn (nI n) pt un uc (nI b) lc) := hD
  refine lv_aload_n hx hb dG_insert_6 rfl (lv_at hl 0 rfl) ?_
  refine rg_callv hD hS hA (va_runV (As := []) (rest := []) ⟨hx, hb, hml, hown, hts⟩ (c_G_draftPresent b (T b) (by omega) (by omega) hpt _) (cwV 0 hts (rg_gV tw_231 tw_233 ts_G_draftPresent tw_1 tw_234) rfl rfl rfl (by decide +kernel) ⟨by rw [hR]; exact Nat.le_of_ble_eq_true rfl, by rw [hR]; exact Nat.le_of_ble_eq_true rfl⟩) (rg_preV rfl hK hP hD (ci := 1) (q0 := 0) rfl rfl) rfl rfl hl.1 rfl (lv_room (Nat.le_of_ble_eq_true rfl)) dG_insert_7 ⟨Nat.zero_le _, Nat.zero_le _⟩) (fun u5 H locs hw6 hP hD hS => ?_)
  have hP : va_P (dC, dI) rg_cl (gw_W ad fo fa ur cI cL cF cA (va_up rec 60 (va_cpy (rec (T b)) (rec 60) 0 0 24)) fp sp an nn (nI n) pt un uc (nI b) lc) H := hP
  have hD : va_D A (gw_W ad fo fa ur cI cL cF cA (va_up rec 60 (va_cpy (rec (T b)) (rec 60) 0 0 24)) fp sp an nn (nI n) pt un uc (nI b) lc) := hD
  refine lv_iload_n hx hb dG_insert_10 rfl (lv_at hl 2 rfl) ?_
  refine rg_ifN_lt (tgt := 26) hx hb dG_insert_11 (by decide) (by omega) (fun h7 => h7.elim) (fun h7 => ?_)
  refine lv_iload_n hx hb dG_insert_14 rfl (lv_at hl 2 rfl) ?_
  refine lv_aload_n hx hb dG_insert_15 rfl (lv_at hl 0 rfl) ?_
  refine va_get (D := (dC, dI)) (ci := 1) (C := "RevisionGrove") (T := TG) (N := 4) hx hb hts inG hown hK hP 0 rfl rfl 2 (by decide) (hts _ tw_88) (fun _ h9 => h9) rfl dG_insert_16 ?_
  refine lv_iload_n hx hb dG_insert_19 rfl (lv_at hl 1 rfl) ?_
  refine rg_calli hD hS hA (va_runV (As := [.int (nI (k + 6))]) (rest := [.int (nI x)]) ⟨hx, hb, hml, hown, hts⟩ (c_F_length 60 (k + 6) (by omega) (by omega) _) (cwV 1 hts (rg_gV tw_323 tw_324 tw_325 tw_3 tw_326) rfl rfl rfl (by decide +kernel) ⟨by rw [hR]; exact Nat.le_of_ble_eq_true rfl, by rw [hR]; exact Nat.le_of_ble_eq_true rfl⟩) (rg_preV rfl hK hP hD (ci := 4) (q0 := (11 + (4 + 60))) rfl (gw_obj (by omega))) rfl rfl hl.1 rfl (lv_room (Nat.le_of_ble_eq_true rfl)) dG_insert_20 ⟨Nat.zero_le _, Nat.zero_le _⟩) (fun r8 u9 H locs hw10 hP hD hS => ?_)
  subst hw10
  have hP : va_P (dC, dI) rg_cl (gw_W ad fo fa ur cI cL cF cA (va_up rec 60 (va_cpy (rec (T b)) (rec 60) 0 0 24)) fp sp an nn (nI n) pt un uc (nI b) lc) H := hP
  have hD : va_D A (gw_W ad fo fa ur cI cL cF cA (va_up rec 60 (va_cpy (rec (T b)) (rec 60) 0 0 24)) fp sp an nn (nI n) pt un uc (nI b) lc) := hD
  refine rg_top (show (.int (((va_up rec 60 (va_cpy (rec (T b)) (rec 60) 0 0 24)) 60 (k + 6)).toInt32) : Value) = .int (nI l9.length) by rw [rg_ups, hlq, lN_i]) ?_
  refine rg_icmp_le (tgt := 36) hx hb dG_insert_23 (by decide) (by omega) (by omega) (fun h11 => ?_) (fun h11 => by exfalso; omega)
  refine lv_aload_n hx hb dG_insert_36 rfl (lv_at hl 0 rfl) ?_
  refine va_get (D := (dC, dI)) (ci := 1) (C := "RevisionGrove") (T := TG) (N := 4) hx hb hts inG hown hK hP 0 rfl rfl 2 (by decide) (hts _ tw_88) (fun _ h9 => h9) rfl dG_insert_37 ?_
  refine lv_iload_n hx hb dG_insert_40 rfl (lv_at hl 1 rfl) ?_
  refine rg_calli hD hS hA (va_runV (As := [.int (nI (k + 6))]) (rest := []) ⟨hx, hb, hml, hown, hts⟩ (c_F_length 60 (k + 6) (by omega) (by omega) _) (cwV 1 hts (rg_gV tw_323 tw_324 tw_325 tw_3 tw_326) rfl rfl rfl (by decide +kernel) ⟨by rw [hR]; exact Nat.le_of_ble_eq_true rfl, by rw [hR]; exact Nat.le_of_ble_eq_true rfl⟩) (rg_preV rfl hK hP hD (ci := 4) (q0 := (11 + (4 + 60))) rfl (gw_obj (by omega))) rfl rfl hl.1 rfl (lv_room (Nat.le_of_ble_eq_true rfl)) dG_insert_41 ⟨Nat.zero_le _, Nat.zero_le _⟩) (fun r12 u13 H locs hw14 hP hD hS => ?_)
  subst hw14
  have hP : va_P (dC, dI) rg_cl (gw_W ad fo fa ur cI cL cF cA (va_up rec 60 (va_cpy (rec (T b)) (rec 60) 0 0 24)) fp sp an nn (nI n) pt un uc (nI b) lc) H := hP
  have hD : va_D A (gw_W ad fo fa ur cI cL cF cA (va_up rec 60 (va_cpy (rec (T b)) (rec 60) 0 0 24)) fp sp an nn (nI n) pt un uc (nI b) lc) := hD
  refine rg_top (show (.int (((va_up rec 60 (va_cpy (rec (T b)) (rec 60) 0 0 24)) 60 (k + 6)).toInt32) : Value) = .int (nI l9.length) by rw [rg_ups, hlq, lN_i]) ?_
  refine lv_bipush (v := nI 8) hx hb dG_insert_44 (by decide) ?_
  refine rg_icmp_ne (tgt := 59) hx hb dG_insert_46 (by decide) (by omega) (by omega) (fun h15 => ?_) (fun h15 => by exfalso; omega)
  refine lv_aload_n hx hb dG_insert_59 rfl (lv_at hl 0 rfl) ?_
  refine va_get (D := (dC, dI)) (ci := 1) (C := "RevisionGrove") (T := TG) (N := 4) hx hb hts inG hown hK hP 0 rfl rfl 2 (by decide) (hts _ tw_88) (fun _ h9 => h9) rfl dG_insert_60 ?_
  refine lv_iload_n hx hb dG_insert_63 rfl (lv_at hl 1 rfl) ?_
  refine lv_iload_n hx hb dG_insert_64 rfl (lv_at hl 2 rfl) ?_
  refine lv_iload_n hx hb dG_insert_65 rfl (lv_at hl 3 rfl) ?_
  refine rg_callv hD hS hA (va_runV (As := [.int (nI (k + 6)), .int (nI x), .int v]) (rest := []) ⟨hx, hb, hml, hown, hts⟩ (c_F_insertInt 60 k x (by omega) (by omega) v l9 hlc9 hxl hl8 _) (cwV 3 hts (rg_gV tw_344 tw_345 tw_346 tw_3 tw_347) rfl rfl rfl (by decide +kernel) ⟨by rw [hR]; exact Nat.le_of_ble_eq_true rfl, by rw [hR]; exact Nat.le_of_ble_eq_true rfl⟩) (rg_preV rfl hK hP hD (ci := 4) (q0 := (11 + (4 + 60))) rfl (gw_obj (by omega))) rfl rfl hl.1 rfl (lv_room (Nat.le_of_ble_eq_true rfl)) dG_insert_66 ⟨Nat.zero_le _, Nat.zero_le _⟩) (fun u17 H locs hw18 hP hD hS => ?_)
  have hP : va_P (dC, dI) rg_cl (gw_W ad fo fa ur cI cL cF cA (va_up (va_up rec 60 (va_cpy (rec (T b)) (rec 60) 0 0 24)) 60 u17) fp sp an nn (nI n) pt un uc (nI b) lc) H := hP
  have hD : va_D A (gw_W ad fo fa ur cI cL cF cA (va_up (va_up rec 60 (va_cpy (rec (T b)) (rec 60) 0 0 24)) 60 u17) fp sp an nn (nI n) pt un uc (nI b) lc) := hD
  have hLC9 := hw18
  obtain ⟨d9, hd9⟩ : ∃ d9, d9 = (va_up (va_up rec 60 (va_cpy (rec (T b)) (rec 60) 0 0 24)) 60 u17) 60 := ⟨_, rfl⟩
  have hrc9 : va_up (va_up rec 60 (va_cpy (rec (T b)) (rec 60) 0 0 24)) 60 u17 = va_up rec 60 d9 := by rw [hd9]; simp only [rg_upup, rg_ups]
  rw [hrc9] at hP hD
  simp only [rg_ups] at hd9
  have hP : va_P (dC, dI) rg_cl (gw_W ad fo fa ur cI cL cF cA (va_up rec 60 d9) fp sp an nn (nI n) pt un uc (nI b) lc) H := hP
  have hD : va_D A (gw_W ad fo fa ur cI cL cF cA (va_up rec 60 d9) fp sp an nn (nI n) pt un uc (nI b) lc) := hD
  have hX9 : rg_CR d9 (rg_setL (Rr (T b)) k (rg_insL l9 x v)) := by rw [hd9]; exact (rg_CR_setL (rg_CR_cpy hyc) hk2 (by rw [rg_insL_len hxl]; omega) hLC9.1 (by have := hLC9.2; rw [rg_ups] at this; exact this))
  have hXc : rg_CR ((va_up rec 60 d9) 60) (rg_setL (Rr (T b)) k (rg_insL l9 x v)) := by rw [rg_ups]; exact hX9
  have hYc : rg_CR ((va_up rec 60 d9) (T b)) (Rr (T b)) := by rw [rg_upn _ _ (by omega)]; exact hyc
  have hr9 : gw_Rep (va_up rec 60 d9) fp sp an (nI n) pt un uc (nI b) lc (n, Rr, P1, P2, T, U, b, lc) := gw_Rep_rec hrep (fun r9 h9 => rg_upn _ _ (by have h9 : r9 < n := h9; omega))
  refine lv_aload_n hx hb dG_insert_69 rfl (lv_at hl 0 rfl) ?_
  refine lv_iload_n hx hb dG_insert_70 rfl (lv_at hl 1 rfl) ?_
  refine rg_calli hD hS hA (va_runV (As := [.int (nI (k + 6))]) (rest := []) ⟨hx, hb, hml, hown, hts⟩ (c_G_comeToChanged_n n b (T b) (k + 6) (by omega) (by omega) (by omega) (by omega) hpt (rg_setL (Rr (T b)) k (rg_insL l9 x v)) (Rr (T b)) hXc hYc hs hn9 _) (cwV 1 hts (rg_gV tw_248 tw_250 ts_G_comeToChanged tw_1 tw_251) rfl rfl rfl (by decide +kernel) ⟨by rw [hR]; exact Nat.le_of_ble_eq_true rfl, by rw [hR]; exact Nat.le_of_ble_eq_true rfl⟩) (rg_preV rfl hK hP hD (ci := 1) (q0 := 0) rfl rfl) rfl rfl hl.1 rfl (lv_room (Nat.le_of_ble_eq_true rfl)) dG_insert_71 ⟨Nat.zero_le _, Nat.zero_le _⟩) (fun r19 u20 H locs hw21 hP hD hS => ?_)
  subst hw21
  have hP : va_P (dC, dI) rg_cl (gw_W ad fo fa ur cI cL cF cA (va_up (va_up rec 60 d9) n (va_cpy ((va_up rec 60 d9) 60) ((va_up rec 60 d9) n) 0 0 24)) (upd fp n (nI (T b))) (upd sp n (-1)) (vp_updL an n ((((1 : Int64) <<< ((nI n).toInt64 &&& 63)) ||| (rg_ax an (nI (T b)))) ||| (rg_ax an (-1)))) nn (nI (n + 1)) (upd pt b (nI n)) un (upd uc b (nI 0)) (nI b) lc) H := hP
  have hD : va_D A (gw_W ad fo fa ur cI cL cF cA (va_up (va_up rec 60 d9) n (va_cpy ((va_up rec 60 d9) 60) ((va_up rec 60 d9) n) 0 0 24)) (upd fp n (nI (T b))) (upd sp n (-1)) (vp_updL an n ((((1 : Int64) <<< ((nI n).toInt64 &&& 63)) ||| (rg_ax an (nI (T b)))) ||| (rg_ax an (-1)))) nn (nI (n + 1)) (upd pt b (nI n)) un (upd uc b (nI 0)) (nI b) lc) := hD
  rw [hQ]
  exact rg_iret hx hb hr hlk hK hP hD hS dG_insert_74 (va_up (va_up rec 60 d9) n (va_cpy ((va_up rec 60 d9) 60) ((va_up rec 60 d9) n) 0 0 24), upd fp n (nI (T b)), upd sp n (-1), vp_updL an n ((((1 : Int64) <<< ((nI n).toInt64 &&& 63)) ||| (rg_ax an (nI (T b)))) ||| (rg_ax an (-1))), nn, nI (n + 1), upd pt b (nI n), un, upd uc b (nI 0), nI b, lc) rfl (by rw [rg_chg_new (g := (n, Rr, P1, P2, T, U, b, lc)) (fun q => by rw [(rg_one_diff (f := k + 6) (by omega) (rg_sf_setL hk2)).mp q] at hs; cases hs) (by show ¬ n = 60; omega)]; exact ⟨gw_Rep_new (g := (n, Rr, P1, P2, T, U, b, lc)) hr9 hXc hn9 (Or.inl rfl), rfl, rfl⟩)
set_option maxHeartbeats 4000000 in
set_option maxRecDepth 100000 in
theorem c_G_insert_x {l : Launch} {dC : Nat → ClassId} {dI : Nat → Nat → Nat} {ad fo fa ur : Nat → Nat} {cI cL cF cA : ClassId} {rec : Nat → Nat → Int64} {fp : Nat → Int32} {sp : Nat → Int32} {an : Nat → Int64} {nn : Nat → Int32} {pt : Nat → Int32} {un : Nat → Nat → Int32} {uc : Nat → Int32} {lc : Int32} (hlt : l.stackTraces = false) (b : Nat) (Rr : Nat → rg_R) (P1 P2 : Nat → Int32) (T : Nat → Nat) (U : Nat → List Nat) (k : Nat) (hk2 : k < 2) (l9 : List Int32) (hl9 : (Rr (T b)).2.2.2 k = l9) (x : Nat) (v : Int32) (hxl : x ≤ l9.length) (hl8 : l9.length < 8) (hs : rg_sf (rg_setL (Rr (T b)) k (rg_insL l9 x v)) (Rr (T b)) (k + 6) = false) (hrep : gw_Rep rec fp sp an (nI 60) pt un uc (nI b) lc (60, Rr, P1, P2, T, U, b, lc)) : rx_M l yG_insert (Cond.code yG_insert prog_1_method_5_code 4 (some .int) :: rg_tbl) { frames := 8, cells := 1, slots := 6, locals := 133 } (dC, dI) rg_cl (gw_tys cI cL cF cA) (gw_W ad fo fa ur cI cL cF cA rec fp sp an nn (nI 60) pt un uc (nI b) lc) [.ref ((ad 0)), .int (nI (k + 6)), .int (nI x), .int v] (rg_QI (dC, dI) rg_cl (gw_tys cI cL cF cA) (S := Unit) (fun _ _ => False) (fun _ => gw_W ad fo fa ur cI cL cF cA rec fp sp an nn (nI 60) pt un uc (nI b) lc)) (rx_X (dC, dI) rg_cl (gw_tys cI cL cF cA) (S := gw_S) (gw_Px "java/lang/IllegalStateException" (60, Rr, P1, P2, T, U, b, lc)) (fun u => gw_Wu ad fo fa ur cI cL cF cA u)) 1 6 := by
  refine rx_of prog_1_method_5_code 4 (some .int) (by decide) rfl (Nat.le_of_ble_eq_true rfl) ?_
  intro p e R s m args below meth c Q A H locs ls hR hQ hx hb hml hr hts hown hlk hnm hno hT hP hK hD hA hS hl
  have hl : lv_has ls 4 [(0, .ref ((ad 0))), (1, .int (nI (k + 6))), (2, .int (nI x)), (3, .int v)] := hl
  have hts : ∀ w ∈ rg_tbl, w.before args s = true := fun w h => hts w (List.mem_cons_of_mem _ h)
  have hok := hrep.1
  have hb4 : b < 4 := hok.2.2.2.2.2.2.2.1
  have hTb : T b < 60 := (hok.2.2.2.2.2.2.1 b hb4).1
  have hpt : pt b = nI (T b) := (hrep.2.2.2.2.2.2 b hb4).1
  have hyc : rg_CR (rec (T b)) (Rr (T b)) := hrep.2.2.2.2.1 (T b) hTb
  have hq9 := rg_CR_cpy (d' := rec 60) hyc k hk2
  rw [hl9] at hq9
  have hlq := hq9.2.2.2.2.1
  have hl89 := hq9.2.2.2.1
  have hlc9 : rg_LC ((va_up rec 60 (va_cpy (rec (T b)) (rec 60) 0 0 24)) 60) k l9 := by rw [rg_ups]; exact ⟨hq9.2.2.2.2.1, hq9.2.2.2.2.2⟩
  refine lv_iload_n hx hb dG_insert_0 rfl (lv_at hl 1 rfl) ?_
  refine lv_bipush (v := nI 6) hx hb dG_insert_1 (by decide) ?_
  refine rg_callv hD hS hA (va_runS (As := [.int (nI (k + 6)), .int (nI 6)]) (rest := []) ⟨hx, hb, hml, hown, hts⟩ (c_G_requireKind (k + 6) 6 (by omega) (by omega) _) (va_cwS 2 hts (rg_gSx tw_159 tw_160 tw_1 tw_161) rfl rfl rfl (by decide +kernel) ⟨by rw [hR]; exact Nat.le_of_ble_eq_true rfl, by rw [hR]; exact Nat.le_of_ble_eq_true rfl⟩) (rg_preS rfl hK hP hD) rfl rfl hl.1 rfl (lv_room (Nat.le_of_ble_eq_true rfl)) dG_insert_3 ⟨Nat.zero_le _, Nat.zero_le _⟩) (fun u2 H locs hw3 hP hD hS => ?_)
  have hP : va_P (dC, dI) rg_cl (gw_W ad fo fa ur cI cL cF cA rec fp sp an nn (nI 60) pt un uc (nI b) lc) H := hP
  have hD : va_D A (gw_W ad fo fa ur cI cL cF cA rec fp sp an nn (nI 60) pt un uc (nI b) lc) := hD
  refine lv_aload_n hx hb dG_insert_6 rfl (lv_at hl 0 rfl) ?_
  refine rg_callv hD hS hA (va_runV (As := []) (rest := []) ⟨hx, hb, hml, hown, hts⟩ (c_G_draftPresent b (T b) (by omega) (by omega) hpt _) (cwV 0 hts (rg_gV tw_231 tw_233 ts_G_draftPresent tw_1 tw_234) rfl rfl rfl (by decide +kernel) ⟨by rw [hR]; exact Nat.le_of_ble_eq_true rfl, by rw [hR]; exact Nat.le_of_ble_eq_true rfl⟩) (rg_preV rfl hK hP hD (ci := 1) (q0 := 0) rfl rfl) rfl rfl hl.1 rfl (lv_room (Nat.le_of_ble_eq_true rfl)) dG_insert_7 ⟨Nat.zero_le _, Nat.zero_le _⟩) (fun u5 H locs hw6 hP hD hS => ?_)
  have hP : va_P (dC, dI) rg_cl (gw_W ad fo fa ur cI cL cF cA (va_up rec 60 (va_cpy (rec (T b)) (rec 60) 0 0 24)) fp sp an nn (nI 60) pt un uc (nI b) lc) H := hP
  have hD : va_D A (gw_W ad fo fa ur cI cL cF cA (va_up rec 60 (va_cpy (rec (T b)) (rec 60) 0 0 24)) fp sp an nn (nI 60) pt un uc (nI b) lc) := hD
  refine lv_iload_n hx hb dG_insert_10 rfl (lv_at hl 2 rfl) ?_
  refine rg_ifN_lt (tgt := 26) hx hb dG_insert_11 (by decide) (by omega) (fun h7 => h7.elim) (fun h7 => ?_)
  refine lv_iload_n hx hb dG_insert_14 rfl (lv_at hl 2 rfl) ?_
  refine lv_aload_n hx hb dG_insert_15 rfl (lv_at hl 0 rfl) ?_
  refine va_get (D := (dC, dI)) (ci := 1) (C := "RevisionGrove") (T := TG) (N := 4) hx hb hts inG hown hK hP 0 rfl rfl 2 (by decide) (hts _ tw_88) (fun _ h9 => h9) rfl dG_insert_16 ?_
  refine lv_iload_n hx hb dG_insert_19 rfl (lv_at hl 1 rfl) ?_
  refine rg_calli hD hS hA (va_runV (As := [.int (nI (k + 6))]) (rest := [.int (nI x)]) ⟨hx, hb, hml, hown, hts⟩ (c_F_length 60 (k + 6) (by omega) (by omega) _) (cwV 1 hts (rg_gV tw_323 tw_324 tw_325 tw_3 tw_326) rfl rfl rfl (by decide +kernel) ⟨by rw [hR]; exact Nat.le_of_ble_eq_true rfl, by rw [hR]; exact Nat.le_of_ble_eq_true rfl⟩) (rg_preV rfl hK hP hD (ci := 4) (q0 := (11 + (4 + 60))) rfl (gw_obj (by omega))) rfl rfl hl.1 rfl (lv_room (Nat.le_of_ble_eq_true rfl)) dG_insert_20 ⟨Nat.zero_le _, Nat.zero_le _⟩) (fun r8 u9 H locs hw10 hP hD hS => ?_)
  subst hw10
  have hP : va_P (dC, dI) rg_cl (gw_W ad fo fa ur cI cL cF cA (va_up rec 60 (va_cpy (rec (T b)) (rec 60) 0 0 24)) fp sp an nn (nI 60) pt un uc (nI b) lc) H := hP
  have hD : va_D A (gw_W ad fo fa ur cI cL cF cA (va_up rec 60 (va_cpy (rec (T b)) (rec 60) 0 0 24)) fp sp an nn (nI 60) pt un uc (nI b) lc) := hD
  refine rg_top (show (.int (((va_up rec 60 (va_cpy (rec (T b)) (rec 60) 0 0 24)) 60 (k + 6)).toInt32) : Value) = .int (nI l9.length) by rw [rg_ups, hlq, lN_i]) ?_
  refine rg_icmp_le (tgt := 36) hx hb dG_insert_23 (by decide) (by omega) (by omega) (fun h11 => ?_) (fun h11 => by exfalso; omega)
  refine lv_aload_n hx hb dG_insert_36 rfl (lv_at hl 0 rfl) ?_
  refine va_get (D := (dC, dI)) (ci := 1) (C := "RevisionGrove") (T := TG) (N := 4) hx hb hts inG hown hK hP 0 rfl rfl 2 (by decide) (hts _ tw_88) (fun _ h9 => h9) rfl dG_insert_37 ?_
  refine lv_iload_n hx hb dG_insert_40 rfl (lv_at hl 1 rfl) ?_
  refine rg_calli hD hS hA (va_runV (As := [.int (nI (k + 6))]) (rest := []) ⟨hx, hb, hml, hown, hts⟩ (c_F_length 60 (k + 6) (by omega) (by omega) _) (cwV 1 hts (rg_gV tw_323 tw_324 tw_325 tw_3 tw_326) rfl rfl rfl (by decide +kernel) ⟨by rw [hR]; exact Nat.le_of_ble_eq_true rfl, by rw [hR]; exact Nat.le_of_ble_eq_true rfl⟩) (rg_preV rfl hK hP hD (ci := 4) (q0 := (11 + (4 + 60))) rfl (gw_obj (by omega))) rfl rfl hl.1 rfl (lv_room (Nat.le_of_ble_eq_true rfl)) dG_insert_41 ⟨Nat.zero_le _, Nat.zero_le _⟩) (fun r12 u13 H locs hw14 hP hD hS => ?_)
  subst hw14
  have hP : va_P (dC, dI) rg_cl (gw_W ad fo fa ur cI cL cF cA (va_up rec 60 (va_cpy (rec (T b)) (rec 60) 0 0 24)) fp sp an nn (nI 60) pt un uc (nI b) lc) H := hP
  have hD : va_D A (gw_W ad fo fa ur cI cL cF cA (va_up rec 60 (va_cpy (rec (T b)) (rec 60) 0 0 24)) fp sp an nn (nI 60) pt un uc (nI b) lc) := hD
  refine rg_top (show (.int (((va_up rec 60 (va_cpy (rec (T b)) (rec 60) 0 0 24)) 60 (k + 6)).toInt32) : Value) = .int (nI l9.length) by rw [rg_ups, hlq, lN_i]) ?_
  refine lv_bipush (v := nI 8) hx hb dG_insert_44 (by decide) ?_
  refine rg_icmp_ne (tgt := 59) hx hb dG_insert_46 (by decide) (by omega) (by omega) (fun h15 => ?_) (fun h15 => by exfalso; omega)
  refine lv_aload_n hx hb dG_insert_59 rfl (lv_at hl 0 rfl) ?_
  refine va_get (D := (dC, dI)) (ci := 1) (C := "RevisionGrove") (T := TG) (N := 4) hx hb hts inG hown hK hP 0 rfl rfl 2 (by decide) (hts _ tw_88) (fun _ h9 => h9) rfl dG_insert_60 ?_
  refine lv_iload_n hx hb dG_insert_63 rfl (lv_at hl 1 rfl) ?_
  refine lv_iload_n hx hb dG_insert_64 rfl (lv_at hl 2 rfl) ?_
  refine lv_iload_n hx hb dG_insert_65 rfl (lv_at hl 3 rfl) ?_
  refine rg_callv hD hS hA (va_runV (As := [.int (nI (k + 6)), .int (nI x), .int v]) (rest := []) ⟨hx, hb, hml, hown, hts⟩ (c_F_insertInt 60 k x (by omega) (by omega) v l9 hlc9 hxl hl8 _) (cwV 3 hts (rg_gV tw_344 tw_345 tw_346 tw_3 tw_347) rfl rfl rfl (by decide +kernel) ⟨by rw [hR]; exact Nat.le_of_ble_eq_true rfl, by rw [hR]; exact Nat.le_of_ble_eq_true rfl⟩) (rg_preV rfl hK hP hD (ci := 4) (q0 := (11 + (4 + 60))) rfl (gw_obj (by omega))) rfl rfl hl.1 rfl (lv_room (Nat.le_of_ble_eq_true rfl)) dG_insert_66 ⟨Nat.zero_le _, Nat.zero_le _⟩) (fun u17 H locs hw18 hP hD hS => ?_)
  have hP : va_P (dC, dI) rg_cl (gw_W ad fo fa ur cI cL cF cA (va_up (va_up rec 60 (va_cpy (rec (T b)) (rec 60) 0 0 24)) 60 u17) fp sp an nn (nI 60) pt un uc (nI b) lc) H := hP
  have hD : va_D A (gw_W ad fo fa ur cI cL cF cA (va_up (va_up rec 60 (va_cpy (rec (T b)) (rec 60) 0 0 24)) 60 u17) fp sp an nn (nI 60) pt un uc (nI b) lc) := hD
  have hLC9 := hw18
  obtain ⟨d9, hd9⟩ : ∃ d9, d9 = (va_up (va_up rec 60 (va_cpy (rec (T b)) (rec 60) 0 0 24)) 60 u17) 60 := ⟨_, rfl⟩
  have hrc9 : va_up (va_up rec 60 (va_cpy (rec (T b)) (rec 60) 0 0 24)) 60 u17 = va_up rec 60 d9 := by rw [hd9]; simp only [rg_upup, rg_ups]
  rw [hrc9] at hP hD
  simp only [rg_ups] at hd9
  have hP : va_P (dC, dI) rg_cl (gw_W ad fo fa ur cI cL cF cA (va_up rec 60 d9) fp sp an nn (nI 60) pt un uc (nI b) lc) H := hP
  have hD : va_D A (gw_W ad fo fa ur cI cL cF cA (va_up rec 60 d9) fp sp an nn (nI 60) pt un uc (nI b) lc) := hD
  have hX9 : rg_CR d9 (rg_setL (Rr (T b)) k (rg_insL l9 x v)) := by rw [hd9]; exact (rg_CR_setL (rg_CR_cpy hyc) hk2 (by rw [rg_insL_len hxl]; omega) hLC9.1 (by have := hLC9.2; rw [rg_ups] at this; exact this))
  have hXc : rg_CR ((va_up rec 60 d9) 60) (rg_setL (Rr (T b)) k (rg_insL l9 x v)) := by rw [rg_ups]; exact hX9
  have hYc : rg_CR ((va_up rec 60 d9) (T b)) (Rr (T b)) := by rw [rg_upn _ _ (by omega)]; exact hyc
  have hr9 : gw_Rep (va_up rec 60 d9) fp sp an (nI 60) pt un uc (nI b) lc (60, Rr, P1, P2, T, U, b, lc) := gw_Rep_rec hrep (fun r9 h9 => rg_upn _ _ (by have h9 : r9 < 60 := h9; omega))
  refine lv_aload_n hx hb dG_insert_69 rfl (lv_at hl 0 rfl) ?_
  refine lv_iload_n hx hb dG_insert_70 rfl (lv_at hl 1 rfl) ?_
  exact rx_calli hQ (fun E u h => ⟨(va_up rec 60 d9, fp, sp, an, nn, nI 60, pt, un, uc, nI b, lc), ⟨h, hr9⟩, rfl⟩) hno hlk hD hS hA (Nat.le_of_ble_eq_true rfl) (Nat.le_of_ble_eq_true rfl) (vx_runV (As := [.int (nI (k + 6))]) (rest := []) ⟨hx, hb, hml, hown, hts⟩ (c_G_comeToChanged_x hlt b (T b) (k + 6) (by omega) (by omega) (by omega) hpt (rg_setL (Rr (T b)) k (rg_insL l9 x v)) (Rr (T b)) hXc hYc hs _) (cwV 1 hts (rg_gV tw_248 tw_250 ts_G_comeToChanged tw_1 tw_251) rfl rfl rfl (by decide +kernel) ⟨(by rw [hR]; exact Nat.le_of_ble_eq_true rfl), (by rw [hR]; exact Nat.le_of_ble_eq_true rfl)⟩) (rx_preV rfl hT hS hA hK hP hD (ci := 1) (q0 := 0) rfl rfl) rfl rfl hl.1 rfl (lv_room (Nat.le_of_ble_eq_true rfl)) dG_insert_71 ⟨(by rw [hR]; exact Nat.le_of_ble_eq_true rfl), (by rw [hR]; exact Nat.le_of_ble_eq_true rfl)⟩) (fun _ _ _ _ h9 => h9.elim)
set_option maxHeartbeats 4000000 in
set_option maxRecDepth 100000 in
theorem c_G_insert_xf {l : Launch} {dC : Nat → ClassId} {dI : Nat → Nat → Nat} {ad fo fa ur : Nat → Nat} {cI cL cF cA : ClassId} {rec : Nat → Nat → Int64} {fp : Nat → Int32} {sp : Nat → Int32} {an : Nat → Int64} {nn : Nat → Int32} {pt : Nat → Int32} {un : Nat → Nat → Int32} {uc : Nat → Int32} {lc : Int32} (hlt : l.stackTraces = false) (n b : Nat) (Rr : Nat → rg_R) (P1 P2 : Nat → Int32) (T : Nat → Nat) (U : Nat → List Nat) (f x v : Int32) (hk0 : ¬ f = 6) (hk1 : ¬ f = 7) (hrep : gw_Rep rec fp sp an (nI n) pt un uc (nI b) lc (n, Rr, P1, P2, T, U, b, lc)) : rx_M l yG_insert (Cond.code yG_insert prog_1_method_5_code 4 (some .int) :: rg_tbl) { frames := 8, cells := 1, slots := 6, locals := 133 } (dC, dI) rg_cl (gw_tys cI cL cF cA) (gw_W ad fo fa ur cI cL cF cA rec fp sp an nn (nI n) pt un uc (nI b) lc) [.ref ((ad 0)), .int f, .int x, .int v] (rg_QI (dC, dI) rg_cl (gw_tys cI cL cF cA) (S := Unit) (fun _ _ => False) (fun _ => gw_W ad fo fa ur cI cL cF cA rec fp sp an nn (nI n) pt un uc (nI b) lc)) (rx_X (dC, dI) rg_cl (gw_tys cI cL cF cA) (S := gw_S) (gw_Px "java/lang/IllegalArgumentException" (n, Rr, P1, P2, T, U, b, lc)) (fun u => gw_Wu ad fo fa ur cI cL cF cA u)) 1 6 := by
  refine rx_of prog_1_method_5_code 4 (some .int) (by decide) rfl (Nat.le_of_ble_eq_true rfl) ?_
  intro p e R s m args below meth c Q A H locs ls hR hQ hx hb hml hr hts hown hlk hnm hno hT hP hK hD hA hS hl
  have hl : lv_has ls 4 [(0, .ref ((ad 0))), (1, .int f), (2, .int x), (3, .int v)] := hl
  have hts : ∀ w ∈ rg_tbl, w.before args s = true := fun w h => hts w (List.mem_cons_of_mem _ h)
  refine lv_iload_n hx hb dG_insert_0 rfl (lv_at hl 1 rfl) ?_
  refine lv_bipush (v := nI 6) hx hb dG_insert_1 (by decide) ?_
  exact rx_callv hQ (fun E u h => ⟨(rec, fp, sp, an, nn, nI n, pt, un, uc, nI b, lc), ⟨h, hrep⟩, rfl⟩) hno hlk hD hS hA (Nat.le_of_ble_eq_true rfl) (Nat.le_of_ble_eq_true rfl) (vx_runS (As := [.int f, .int (nI 6)]) (rest := []) ⟨hx, hb, hml, hown, hts⟩ (c_G_requireKind_x hlt f 6 hk0 hk1 _) (va_cwS 2 hts (rg_gSx tw_159 tw_160 tw_1 tw_161) rfl rfl rfl (by decide +kernel) ⟨(by rw [hR]; exact Nat.le_of_ble_eq_true rfl), (by rw [hR]; exact Nat.le_of_ble_eq_true rfl)⟩) (rx_preS rfl hT hS hA hK hP hD) rfl rfl hl.1 rfl (lv_room (Nat.le_of_ble_eq_true rfl)) dG_insert_3 ⟨(by rw [hR]; exact Nat.le_of_ble_eq_true rfl), (by rw [hR]; exact Nat.le_of_ble_eq_true rfl)⟩) (fun _ _ _ h9 => h9.elim)
set_option maxHeartbeats 4000000 in
set_option maxRecDepth 100000 in
theorem c_G_insert_xp {l : Launch} {dC : Nat → ClassId} {dI : Nat → Nat → Nat} {ad fo fa ur : Nat → Nat} {cI cL cF cA : ClassId} {rec : Nat → Nat → Int64} {fp : Nat → Int32} {sp : Nat → Int32} {an : Nat → Int64} {nn : Nat → Int32} {pt : Nat → Int32} {un : Nat → Nat → Int32} {uc : Nat → Int32} {lc : Int32} (hlt : l.stackTraces = false) (n b : Nat) (Rr : Nat → rg_R) (P1 P2 : Nat → Int32) (T : Nat → Nat) (U : Nat → List Nat) (k : Nat) (hk2 : k < 2) (l9 : List Int32) (hl9 : (Rr (T b)).2.2.2 k = l9) (x v : Int32) (hx0 : x < 0 ∨ nI l9.length < x) (hrep : gw_Rep rec fp sp an (nI n) pt un uc (nI b) lc (n, Rr, P1, P2, T, U, b, lc)) : rx_M l yG_insert (Cond.code yG_insert prog_1_method_5_code 4 (some .int) :: rg_tbl) { frames := 8, cells := 1, slots := 6, locals := 133 } (dC, dI) rg_cl (gw_tys cI cL cF cA) (gw_W ad fo fa ur cI cL cF cA rec fp sp an nn (nI n) pt un uc (nI b) lc) [.ref ((ad 0)), .int (nI (k + 6)), .int x, .int v] (rg_QI (dC, dI) rg_cl (gw_tys cI cL cF cA) (S := Unit) (fun _ _ => False) (fun _ => gw_W ad fo fa ur cI cL cF cA rec fp sp an nn (nI n) pt un uc (nI b) lc)) (rx_X (dC, dI) rg_cl (gw_tys cI cL cF cA) (S := gw_S) (gw_Px "java/lang/IndexOutOfBoundsException" (n, Rr, P1, P2, T, U, b, lc)) (fun u => gw_Wu ad fo fa ur cI cL cF cA u)) 1 6 := by
  refine rx_of prog_1_method_5_code 4 (some .int) (by decide) rfl (Nat.le_of_ble_eq_true rfl) ?_
  intro p e R s m args below meth c Q A H locs ls hR hQ hx hb hml hr hts hown hlk hnm hno hT hP hK hD hA hS hl
  have hl : lv_has ls 4 [(0, .ref ((ad 0))), (1, .int (nI (k + 6))), (2, .int x), (3, .int v)] := hl
  have hts : ∀ w ∈ rg_tbl, w.before args s = true := fun w h => hts w (List.mem_cons_of_mem _ h)
  have hok := hrep.1
  have hn1 : 1 ≤ n := hok.1
  have hn60 : n ≤ 60 := hok.2.1
  have hb4 : b < 4 := hok.2.2.2.2.2.2.2.1
  have hTb : T b < n := (hok.2.2.2.2.2.2.1 b hb4).1
  have hpt : pt b = nI (T b) := (hrep.2.2.2.2.2.2 b hb4).1
  have hyc : rg_CR (rec (T b)) (Rr (T b)) := hrep.2.2.2.2.1 (T b) hTb
  have hq9 := rg_CR_cpy (d' := rec 60) hyc k hk2
  rw [hl9] at hq9
  have hlq := hq9.2.2.2.2.1
  have hl89 := hq9.2.2.2.1
  have hlc9 : rg_LC ((va_up rec 60 (va_cpy (rec (T b)) (rec 60) 0 0 24)) 60) k l9 := by rw [rg_ups]; exact ⟨hq9.2.2.2.2.1, hq9.2.2.2.2.2⟩
  refine lv_iload_n hx hb dG_insert_0 rfl (lv_at hl 1 rfl) ?_
  refine lv_bipush (v := nI 6) hx hb dG_insert_1 (by decide) ?_
  refine rg_callv hD hS hA (va_runS (As := [.int (nI (k + 6)), .int (nI 6)]) (rest := []) ⟨hx, hb, hml, hown, hts⟩ (c_G_requireKind (k + 6) 6 (by omega) (by omega) _) (va_cwS 2 hts (rg_gSx tw_159 tw_160 tw_1 tw_161) rfl rfl rfl (by decide +kernel) ⟨by rw [hR]; exact Nat.le_of_ble_eq_true rfl, by rw [hR]; exact Nat.le_of_ble_eq_true rfl⟩) (rg_preS rfl hK hP hD) rfl rfl hl.1 rfl (lv_room (Nat.le_of_ble_eq_true rfl)) dG_insert_3 ⟨Nat.zero_le _, Nat.zero_le _⟩) (fun u2 H locs hw3 hP hD hS => ?_)
  have hP : va_P (dC, dI) rg_cl (gw_W ad fo fa ur cI cL cF cA rec fp sp an nn (nI n) pt un uc (nI b) lc) H := hP
  have hD : va_D A (gw_W ad fo fa ur cI cL cF cA rec fp sp an nn (nI n) pt un uc (nI b) lc) := hD
  refine lv_aload_n hx hb dG_insert_6 rfl (lv_at hl 0 rfl) ?_
  refine rg_callv hD hS hA (va_runV (As := []) (rest := []) ⟨hx, hb, hml, hown, hts⟩ (c_G_draftPresent b (T b) (by omega) (by omega) hpt _) (cwV 0 hts (rg_gV tw_231 tw_233 ts_G_draftPresent tw_1 tw_234) rfl rfl rfl (by decide +kernel) ⟨by rw [hR]; exact Nat.le_of_ble_eq_true rfl, by rw [hR]; exact Nat.le_of_ble_eq_true rfl⟩) (rg_preV rfl hK hP hD (ci := 1) (q0 := 0) rfl rfl) rfl rfl hl.1 rfl (lv_room (Nat.le_of_ble_eq_true rfl)) dG_insert_7 ⟨Nat.zero_le _, Nat.zero_le _⟩) (fun u5 H locs hw6 hP hD hS => ?_)
  have hP : va_P (dC, dI) rg_cl (gw_W ad fo fa ur cI cL cF cA (va_up rec 60 (va_cpy (rec (T b)) (rec 60) 0 0 24)) fp sp an nn (nI n) pt un uc (nI b) lc) H := hP
  have hD : va_D A (gw_W ad fo fa ur cI cL cF cA (va_up rec 60 (va_cpy (rec (T b)) (rec 60) 0 0 24)) fp sp an nn (nI n) pt un uc (nI b) lc) := hD
  refine lv_iload_n hx hb dG_insert_10 rfl (lv_at hl 2 rfl) ?_
  refine lv_if_lt (tgt := 26) hx hb dG_insert_11 (by decide) (fun h7 => ?_) (fun h7 => ?_)
  · rw [hQ]
    exact rx_throw (cls := "java/lang/IndexOutOfBoundsException") (text := "no such place to insert at") (va_up rec 60 (va_cpy (rec (T b)) (rec 60) 0 0 24), fp, sp, an, nn, nI n, pt, un, uc, nI b, lc) (⟨rfl, gw_Rep_rec hrep (fun r9 h9 => rg_upn _ _ (by have h9 : r9 < n := h9; omega))⟩) rfl hx hb hlt hown hts hT hno (by decide +kernel) rx_clB rx_itB rx_inB rx_bdB rx_gdB (by decide +kernel) hK hP hD hS (hl.1.trans hml.symm) dG_insert_26 dG_insert_29 dG_insert_30 dG_insert_32 dG_insert_35 (by rw [hR]; exact Nat.le_of_ble_eq_true rfl) (by rw [hR]; exact Nat.le_of_ble_eq_true rfl) (by rw [hR]; exact Nat.le_of_ble_eq_true rfl) (by rw [hR]; exact Nat.le_of_ble_eq_true rfl) hlk (Nat.le_of_ble_eq_true rfl) (Nat.le_of_ble_eq_true rfl)
  · refine lv_iload_n hx hb dG_insert_14 rfl (lv_at hl 2 rfl) ?_
    refine lv_aload_n hx hb dG_insert_15 rfl (lv_at hl 0 rfl) ?_
    refine va_get (D := (dC, dI)) (ci := 1) (C := "RevisionGrove") (T := TG) (N := 4) hx hb hts inG hown hK hP 0 rfl rfl 2 (by decide) (hts _ tw_88) (fun _ h9 => h9) rfl dG_insert_16 ?_
    refine lv_iload_n hx hb dG_insert_19 rfl (lv_at hl 1 rfl) ?_
    refine rg_calli hD hS hA (va_runV (As := [.int (nI (k + 6))]) (rest := [.int x]) ⟨hx, hb, hml, hown, hts⟩ (c_F_length 60 (k + 6) (by omega) (by omega) _) (cwV 1 hts (rg_gV tw_323 tw_324 tw_325 tw_3 tw_326) rfl rfl rfl (by decide +kernel) ⟨by rw [hR]; exact Nat.le_of_ble_eq_true rfl, by rw [hR]; exact Nat.le_of_ble_eq_true rfl⟩) (rg_preV rfl hK hP hD (ci := 4) (q0 := (11 + (4 + 60))) rfl (gw_obj (by omega))) rfl rfl hl.1 rfl (lv_room (Nat.le_of_ble_eq_true rfl)) dG_insert_20 ⟨Nat.zero_le _, Nat.zero_le _⟩) (fun r8 u9 H locs hw10 hP hD hS => ?_)
    subst hw10
    have hP : va_P (dC, dI) rg_cl (gw_W ad fo fa ur cI cL cF cA (va_up rec 60 (va_cpy (rec (T b)) (rec 60) 0 0 24)) fp sp an nn (nI n) pt un uc (nI b) lc) H := hP
    have hD : va_D A (gw_W ad fo fa ur cI cL cF cA (va_up rec 60 (va_cpy (rec (T b)) (rec 60) 0 0 24)) fp sp an nn (nI n) pt un uc (nI b) lc) := hD
    refine rg_top (show (.int (((va_up rec 60 (va_cpy (rec (T b)) (rec 60) 0 0 24)) 60 (k + 6)).toInt32) : Value) = .int (nI l9.length) by rw [rg_ups, hlq, lN_i]) ?_
    refine lv_icmp_le (tgt := 36) hx hb dG_insert_23 (by decide) (fun h11 => absurd hx0 (fun q => q.elim h7 (fun q => Int32.not_lt.mpr h11 q))) (fun h11 => ?_)
    rw [hQ]
    exact rx_throw (cls := "java/lang/IndexOutOfBoundsException") (text := "no such place to insert at") (va_up rec 60 (va_cpy (rec (T b)) (rec 60) 0 0 24), fp, sp, an, nn, nI n, pt, un, uc, nI b, lc) (⟨rfl, gw_Rep_rec hrep (fun r9 h9 => rg_upn _ _ (by have h9 : r9 < n := h9; omega))⟩) rfl hx hb hlt hown hts hT hno (by decide +kernel) rx_clB rx_itB rx_inB rx_bdB rx_gdB (by decide +kernel) hK hP hD hS (hl.1.trans hml.symm) dG_insert_26 dG_insert_29 dG_insert_30 dG_insert_32 dG_insert_35 (by rw [hR]; exact Nat.le_of_ble_eq_true rfl) (by rw [hR]; exact Nat.le_of_ble_eq_true rfl) (by rw [hR]; exact Nat.le_of_ble_eq_true rfl) (by rw [hR]; exact Nat.le_of_ble_eq_true rfl) hlk (Nat.le_of_ble_eq_true rfl) (Nat.le_of_ble_eq_true rfl)
set_option maxHeartbeats 4000000 in
set_option maxRecDepth 100000 in
theorem c_G_insert_xl {l : Launch} {dC : Nat → ClassId} {dI : Nat → Nat → Nat} {ad fo fa ur : Nat → Nat} {cI cL cF cA : ClassId} {rec : Nat → Nat → Int64} {fp : Nat → Int32} {sp : Nat → Int32} {an : Nat → Int64} {nn : Nat → Int32} {pt : Nat → Int32} {un : Nat → Nat → Int32} {uc : Nat → Int32} {lc : Int32} (hlt : l.stackTraces = false) (n b : Nat) (Rr : Nat → rg_R) (P1 P2 : Nat → Int32) (T : Nat → Nat) (U : Nat → List Nat) (k : Nat) (hk2 : k < 2) (l9 : List Int32) (hl9 : (Rr (T b)).2.2.2 k = l9) (x : Nat) (v : Int32) (hxl : x ≤ l9.length) (hl8 : l9.length = 8) (hrep : gw_Rep rec fp sp an (nI n) pt un uc (nI b) lc (n, Rr, P1, P2, T, U, b, lc)) : rx_M l yG_insert (Cond.code yG_insert prog_1_method_5_code 4 (some .int) :: rg_tbl) { frames := 8, cells := 1, slots := 6, locals := 133 } (dC, dI) rg_cl (gw_tys cI cL cF cA) (gw_W ad fo fa ur cI cL cF cA rec fp sp an nn (nI n) pt un uc (nI b) lc) [.ref ((ad 0)), .int (nI (k + 6)), .int (nI x), .int v] (rg_QI (dC, dI) rg_cl (gw_tys cI cL cF cA) (S := Unit) (fun _ _ => False) (fun _ => gw_W ad fo fa ur cI cL cF cA rec fp sp an nn (nI n) pt un uc (nI b) lc)) (rx_X (dC, dI) rg_cl (gw_tys cI cL cF cA) (S := gw_S) (gw_Px "java/lang/IllegalStateException" (n, Rr, P1, P2, T, U, b, lc)) (fun u => gw_Wu ad fo fa ur cI cL cF cA u)) 1 6 := by
  refine rx_of prog_1_method_5_code 4 (some .int) (by decide) rfl (Nat.le_of_ble_eq_true rfl) ?_
  intro p e R s m args below meth c Q A H locs ls hR hQ hx hb hml hr hts hown hlk hnm hno hT hP hK hD hA hS hl
  have hl : lv_has ls 4 [(0, .ref ((ad 0))), (1, .int (nI (k + 6))), (2, .int (nI x)), (3, .int v)] := hl
  have hts : ∀ w ∈ rg_tbl, w.before args s = true := fun w h => hts w (List.mem_cons_of_mem _ h)
  have hok := hrep.1
  have hn1 : 1 ≤ n := hok.1
  have hn60 : n ≤ 60 := hok.2.1
  have hb4 : b < 4 := hok.2.2.2.2.2.2.2.1
  have hTb : T b < n := (hok.2.2.2.2.2.2.1 b hb4).1
  have hpt : pt b = nI (T b) := (hrep.2.2.2.2.2.2 b hb4).1
  have hyc : rg_CR (rec (T b)) (Rr (T b)) := hrep.2.2.2.2.1 (T b) hTb
  have hq9 := rg_CR_cpy (d' := rec 60) hyc k hk2
  rw [hl9] at hq9
  have hlq := hq9.2.2.2.2.1
  have hl89 := hq9.2.2.2.1
  have hlc9 : rg_LC ((va_up rec 60 (va_cpy (rec (T b)) (rec 60) 0 0 24)) 60) k l9 := by rw [rg_ups]; exact ⟨hq9.2.2.2.2.1, hq9.2.2.2.2.2⟩
  refine lv_iload_n hx hb dG_insert_0 rfl (lv_at hl 1 rfl) ?_
  refine lv_bipush (v := nI 6) hx hb dG_insert_1 (by decide) ?_
  refine rg_callv hD hS hA (va_runS (As := [.int (nI (k + 6)), .int (nI 6)]) (rest := []) ⟨hx, hb, hml, hown, hts⟩ (c_G_requireKind (k + 6) 6 (by omega) (by omega) _) (va_cwS 2 hts (rg_gSx tw_159 tw_160 tw_1 tw_161) rfl rfl rfl (by decide +kernel) ⟨by rw [hR]; exact Nat.le_of_ble_eq_true rfl, by rw [hR]; exact Nat.le_of_ble_eq_true rfl⟩) (rg_preS rfl hK hP hD) rfl rfl hl.1 rfl (lv_room (Nat.le_of_ble_eq_true rfl)) dG_insert_3 ⟨Nat.zero_le _, Nat.zero_le _⟩) (fun u2 H locs hw3 hP hD hS => ?_)
  have hP : va_P (dC, dI) rg_cl (gw_W ad fo fa ur cI cL cF cA rec fp sp an nn (nI n) pt un uc (nI b) lc) H := hP
  have hD : va_D A (gw_W ad fo fa ur cI cL cF cA rec fp sp an nn (nI n) pt un uc (nI b) lc) := hD
  refine lv_aload_n hx hb dG_insert_6 rfl (lv_at hl 0 rfl) ?_
  refine rg_callv hD hS hA (va_runV (As := []) (rest := []) ⟨hx, hb, hml, hown, hts⟩ (c_G_draftPresent b (T b) (by omega) (by omega) hpt _) (cwV 0 hts (rg_gV tw_231 tw_233 ts_G_draftPresent tw_1 tw_234) rfl rfl rfl (by decide +kernel) ⟨by rw [hR]; exact Nat.le_of_ble_eq_true rfl, by rw [hR]; exact Nat.le_of_ble_eq_true rfl⟩) (rg_preV rfl hK hP hD (ci := 1) (q0 := 0) rfl rfl) rfl rfl hl.1 rfl (lv_room (Nat.le_of_ble_eq_true rfl)) dG_insert_7 ⟨Nat.zero_le _, Nat.zero_le _⟩) (fun u5 H locs hw6 hP hD hS => ?_)
  have hP : va_P (dC, dI) rg_cl (gw_W ad fo fa ur cI cL cF cA (va_up rec 60 (va_cpy (rec (T b)) (rec 60) 0 0 24)) fp sp an nn (nI n) pt un uc (nI b) lc) H := hP
  have hD : va_D A (gw_W ad fo fa ur cI cL cF cA (va_up rec 60 (va_cpy (rec (T b)) (rec 60) 0 0 24)) fp sp an nn (nI n) pt un uc (nI b) lc) := hD
  refine lv_iload_n hx hb dG_insert_10 rfl (lv_at hl 2 rfl) ?_
  refine rg_ifN_lt (tgt := 26) hx hb dG_insert_11 (by decide) (by omega) (fun h7 => h7.elim) (fun h7 => ?_)
  refine lv_iload_n hx hb dG_insert_14 rfl (lv_at hl 2 rfl) ?_
  refine lv_aload_n hx hb dG_insert_15 rfl (lv_at hl 0 rfl) ?_
  refine va_get (D := (dC, dI)) (ci := 1) (C := "RevisionGrove") (T := TG) (N := 4) hx hb hts inG hown hK hP 0 rfl rfl 2 (by decide) (hts _ tw_88) (fun _ h9 => h9) rfl dG_insert_16 ?_
  refine lv_iload_n hx hb dG_insert_19 rfl (lv_at hl 1 rfl) ?_
  refine rg_calli hD hS hA (va_runV (As := [.int (nI (k + 6))]) (rest := [.int (nI x)]) ⟨hx, hb, hml, hown, hts⟩ (c_F_length 60 (k + 6) (by omega) (by omega) _) (cwV 1 hts (rg_gV tw_323 tw_324 tw_325 tw_3 tw_326) rfl rfl rfl (by decide +kernel) ⟨by rw [hR]; exact Nat.le_of_ble_eq_true rfl, by rw [hR]; exact Nat.le_of_ble_eq_true rfl⟩) (rg_preV rfl hK hP hD (ci := 4) (q0 := (11 + (4 + 60))) rfl (gw_obj (by omega))) rfl rfl hl.1 rfl (lv_room (Nat.le_of_ble_eq_true rfl)) dG_insert_20 ⟨Nat.zero_le _, Nat.zero_le _⟩) (fun r8 u9 H locs hw10 hP hD hS => ?_)
  subst hw10
  have hP : va_P (dC, dI) rg_cl (gw_W ad fo fa ur cI cL cF cA (va_up rec 60 (va_cpy (rec (T b)) (rec 60) 0 0 24)) fp sp an nn (nI n) pt un uc (nI b) lc) H := hP
  have hD : va_D A (gw_W ad fo fa ur cI cL cF cA (va_up rec 60 (va_cpy (rec (T b)) (rec 60) 0 0 24)) fp sp an nn (nI n) pt un uc (nI b) lc) := hD
  refine rg_top (show (.int (((va_up rec 60 (va_cpy (rec (T b)) (rec 60) 0 0 24)) 60 (k + 6)).toInt32) : Value) = .int (nI l9.length) by rw [rg_ups, hlq, lN_i]) ?_
  refine rg_icmp_le (tgt := 36) hx hb dG_insert_23 (by decide) (by omega) (by omega) (fun h11 => ?_) (fun h11 => by exfalso; omega)
  refine lv_aload_n hx hb dG_insert_36 rfl (lv_at hl 0 rfl) ?_
  refine va_get (D := (dC, dI)) (ci := 1) (C := "RevisionGrove") (T := TG) (N := 4) hx hb hts inG hown hK hP 0 rfl rfl 2 (by decide) (hts _ tw_88) (fun _ h9 => h9) rfl dG_insert_37 ?_
  refine lv_iload_n hx hb dG_insert_40 rfl (lv_at hl 1 rfl) ?_
  refine rg_calli hD hS hA (va_runV (As := [.int (nI (k + 6))]) (rest := []) ⟨hx, hb, hml, hown, hts⟩ (c_F_length 60 (k + 6) (by omega) (by omega) _) (cwV 1 hts (rg_gV tw_323 tw_324 tw_325 tw_3 tw_326) rfl rfl rfl (by decide +kernel) ⟨by rw [hR]; exact Nat.le_of_ble_eq_true rfl, by rw [hR]; exact Nat.le_of_ble_eq_true rfl⟩) (rg_preV rfl hK hP hD (ci := 4) (q0 := (11 + (4 + 60))) rfl (gw_obj (by omega))) rfl rfl hl.1 rfl (lv_room (Nat.le_of_ble_eq_true rfl)) dG_insert_41 ⟨Nat.zero_le _, Nat.zero_le _⟩) (fun r12 u13 H locs hw14 hP hD hS => ?_)
  subst hw14
  have hP : va_P (dC, dI) rg_cl (gw_W ad fo fa ur cI cL cF cA (va_up rec 60 (va_cpy (rec (T b)) (rec 60) 0 0 24)) fp sp an nn (nI n) pt un uc (nI b) lc) H := hP
  have hD : va_D A (gw_W ad fo fa ur cI cL cF cA (va_up rec 60 (va_cpy (rec (T b)) (rec 60) 0 0 24)) fp sp an nn (nI n) pt un uc (nI b) lc) := hD
  refine rg_top (show (.int (((va_up rec 60 (va_cpy (rec (T b)) (rec 60) 0 0 24)) 60 (k + 6)).toInt32) : Value) = .int (nI l9.length) by rw [rg_ups, hlq, lN_i]) ?_
  refine lv_bipush (v := nI 8) hx hb dG_insert_44 (by decide) ?_
  refine rg_icmp_ne (tgt := 59) hx hb dG_insert_46 (by decide) (by omega) (by omega) (fun h15 => by exfalso; omega) (fun h15 => ?_)
  rw [hQ]
  exact rx_throw (cls := "java/lang/IllegalStateException") (text := "the list is full") (va_up rec 60 (va_cpy (rec (T b)) (rec 60) 0 0 24), fp, sp, an, nn, nI n, pt, un, uc, nI b, lc) (⟨rfl, gw_Rep_rec hrep (fun r9 h9 => rg_upn _ _ (by have h9 : r9 < n := h9; omega))⟩) rfl hx hb hlt hown hts hT hno (by decide +kernel) rx_clS rx_itS rx_inS rx_bdS rx_gdS (by decide +kernel) hK hP hD hS (hl.1.trans hml.symm) dG_insert_49 dG_insert_52 dG_insert_53 dG_insert_55 dG_insert_58 (by rw [hR]; exact Nat.le_of_ble_eq_true rfl) (by rw [hR]; exact Nat.le_of_ble_eq_true rfl) (by rw [hR]; exact Nat.le_of_ble_eq_true rfl) (by rw [hR]; exact Nat.le_of_ble_eq_true rfl) hlk (Nat.le_of_ble_eq_true rfl) (Nat.le_of_ble_eq_true rfl)
set_option maxHeartbeats 4000000 in
set_option maxRecDepth 100000 in
theorem c_G_remove_s {l : Launch} {dC : Nat → ClassId} {dI : Nat → Nat → Nat} {ad fo fa ur : Nat → Nat} {cI cL cF cA : ClassId} {rec : Nat → Nat → Int64} {fp : Nat → Int32} {sp : Nat → Int32} {an : Nat → Int64} {nn : Nat → Int32} {pt : Nat → Int32} {un : Nat → Nat → Int32} {uc : Nat → Int32} {lc : Int32} (n b : Nat) (Rr : Nat → rg_R) (P1 P2 : Nat → Int32) (T : Nat → Nat) (U : Nat → List Nat) (k : Nat) (hk2 : k < 2) (l9 : List Int32) (hl9 : (Rr (T b)).2.2.2 k = l9) (x : Nat) (hxl : x < l9.length) (hs : rg_sf (rg_setL (Rr (T b)) k (rg_remL l9 x)) (Rr (T b)) (k + 6) = true) (hrep : gw_Rep rec fp sp an (nI n) pt un uc (nI b) lc (n, Rr, P1, P2, T, U, b, lc)) : rg_M l yG_remove (Cond.code yG_remove prog_1_method_6_code 3 (some .int) :: rg_tbl) { frames := 5, cells := 0, slots := 0, locals := 118 } (dC, dI) rg_cl (gw_tys cI cL cF cA) (gw_W ad fo fa ur cI cL cF cA rec fp sp an nn (nI n) pt un uc (nI b) lc) [.ref ((ad 0)), .int (nI (k + 6)), .int (nI x)] (rg_QI (dC, dI) rg_cl (gw_tys cI cL cF cA) (S := gw_S) (gw_Po (rg_chg 2 (n, Rr, P1, P2, T, U, b, lc) (rg_setL (Rr (T b)) k (rg_remL l9 x)))) (fun u => gw_Wu ad fo fa ur cI cL cF cA u)) 0 0 := by
  refine rg_of prog_1_method_6_code 3 (some .int) (by decide) rfl (Nat.le_of_ble_eq_true rfl) ?_
  intro p e R s m args below meth c Q A H locs ls hR hQ hx hb hml hr hts hown hlk hnm hP hK hD hA hS hl
  have hl : lv_has ls 3 [(0, .ref ((ad 0))), (1, .int (nI (k + 6))), (2, .int (nI x))] := hl
  have hts : ∀ w ∈ rg_tbl, w.before args s = true := fun w h => hts w (List.mem_cons_of_mem _ h)
  have hok := hrep.1
  have hn1 : 1 ≤ n := hok.1
  have hn60 : n ≤ 60 := hok.2.1
  have hb4 : b < 4 := hok.2.2.2.2.2.2.2.1
  have hTb : T b < n := (hok.2.2.2.2.2.2.1 b hb4).1
  have hpt : pt b = nI (T b) := (hrep.2.2.2.2.2.2 b hb4).1
  have hyc : rg_CR (rec (T b)) (Rr (T b)) := hrep.2.2.2.2.1 (T b) hTb
  have hq9 := rg_CR_cpy (d' := rec 60) hyc k hk2
  rw [hl9] at hq9
  have hlq := hq9.2.2.2.2.1
  have hl89 := hq9.2.2.2.1
  have hlc9 : rg_LC ((va_up rec 60 (va_cpy (rec (T b)) (rec 60) 0 0 24)) 60) k l9 := by rw [rg_ups]; exact ⟨hq9.2.2.2.2.1, hq9.2.2.2.2.2⟩
  refine lv_iload_n hx hb dG_remove_0 rfl (lv_at hl 1 rfl) ?_
  refine lv_bipush (v := nI 6) hx hb dG_remove_1 (by decide) ?_
  refine rg_callv hD hS hA (va_runS (As := [.int (nI (k + 6)), .int (nI 6)]) (rest := []) ⟨hx, hb, hml, hown, hts⟩ (c_G_requireKind (k + 6) 6 (by omega) (by omega) _) (va_cwS 2 hts (rg_gSx tw_159 tw_160 tw_1 tw_161) rfl rfl rfl (by decide +kernel) ⟨by rw [hR]; exact Nat.le_of_ble_eq_true rfl, by rw [hR]; exact Nat.le_of_ble_eq_true rfl⟩) (rg_preS rfl hK hP hD) rfl rfl hl.1 rfl (lv_room (Nat.le_of_ble_eq_true rfl)) dG_remove_3 ⟨Nat.zero_le _, Nat.zero_le _⟩) (fun u2 H locs hw3 hP hD hS => ?_)
  have hP : va_P (dC, dI) rg_cl (gw_W ad fo fa ur cI cL cF cA rec fp sp an nn (nI n) pt un uc (nI b) lc) H := hP
  have hD : va_D A (gw_W ad fo fa ur cI cL cF cA rec fp sp an nn (nI n) pt un uc (nI b) lc) := hD
  refine lv_aload_n hx hb dG_remove_6 rfl (lv_at hl 0 rfl) ?_
  refine rg_callv hD hS hA (va_runV (As := []) (rest := []) ⟨hx, hb, hml, hown, hts⟩ (c_G_draftPresent b (T b) (by omega) (by omega) hpt _) (cwV 0 hts (rg_gV tw_231 tw_233 ts_G_draftPresent tw_1 tw_234) rfl rfl rfl (by decide +kernel) ⟨by rw [hR]; exact Nat.le_of_ble_eq_true rfl, by rw [hR]; exact Nat.le_of_ble_eq_true rfl⟩) (rg_preV rfl hK hP hD (ci := 1) (q0 := 0) rfl rfl) rfl rfl hl.1 rfl (lv_room (Nat.le_of_ble_eq_true rfl)) dG_remove_7 ⟨Nat.zero_le _, Nat.zero_le _⟩) (fun u5 H locs hw6 hP hD hS => ?_)
  have hP : va_P (dC, dI) rg_cl (gw_W ad fo fa ur cI cL cF cA (va_up rec 60 (va_cpy (rec (T b)) (rec 60) 0 0 24)) fp sp an nn (nI n) pt un uc (nI b) lc) H := hP
  have hD : va_D A (gw_W ad fo fa ur cI cL cF cA (va_up rec 60 (va_cpy (rec (T b)) (rec 60) 0 0 24)) fp sp an nn (nI n) pt un uc (nI b) lc) := hD
  refine lv_aload_n hx hb dG_remove_10 rfl (lv_at hl 0 rfl) ?_
  refine va_get (D := (dC, dI)) (ci := 1) (C := "RevisionGrove") (T := TG) (N := 4) hx hb hts inG hown hK hP 0 rfl rfl 2 (by decide) (hts _ tw_88) (fun _ h9 => h9) rfl dG_remove_11 ?_
  refine lv_iload_n hx hb dG_remove_14 rfl (lv_at hl 1 rfl) ?_
  refine lv_iload_n hx hb dG_remove_15 rfl (lv_at hl 2 rfl) ?_
  refine rg_calli hD hS hA (va_runV (As := [.int (nI (k + 6)), .int (nI x)]) (rest := []) ⟨hx, hb, hml, hown, hts⟩ (c_F_hasPlace 60 k l9.length (by omega) (by omega) (by rw [rg_ups]; exact hlq) (nI x) _) (cwV 2 hts (rg_gV tw_356 tw_357 tw_358 tw_3 tw_359) rfl rfl rfl (by decide +kernel) ⟨by rw [hR]; exact Nat.le_of_ble_eq_true rfl, by rw [hR]; exact Nat.le_of_ble_eq_true rfl⟩) (rg_preV rfl hK hP hD (ci := 4) (q0 := (11 + (4 + 60))) rfl (gw_obj (by omega))) rfl rfl hl.1 rfl (lv_room (Nat.le_of_ble_eq_true rfl)) dG_remove_16 ⟨Nat.zero_le _, Nat.zero_le _⟩) (fun r7 u8 H locs hw9 hP hD hS => ?_)
  subst hw9
  have hP : va_P (dC, dI) rg_cl (gw_W ad fo fa ur cI cL cF cA (va_up rec 60 (va_cpy (rec (T b)) (rec 60) 0 0 24)) fp sp an nn (nI n) pt un uc (nI b) lc) H := hP
  have hD : va_D A (gw_W ad fo fa ur cI cL cF cA (va_up rec 60 (va_cpy (rec (T b)) (rec 60) 0 0 24)) fp sp an nn (nI n) pt un uc (nI b) lc) := hD
  refine rg_ifz_ne (tgt := 32) hx hb dG_remove_19 (by decide) (fun h10 => ?_) (fun h10 => absurd ((rg_isR_ok (n := l9.length) (by omega) hxl).symm.trans h10) (by decide))
  refine lv_aload_n hx hb dG_remove_32 rfl (lv_at hl 0 rfl) ?_
  refine va_get (D := (dC, dI)) (ci := 1) (C := "RevisionGrove") (T := TG) (N := 4) hx hb hts inG hown hK hP 0 rfl rfl 2 (by decide) (hts _ tw_88) (fun _ h9 => h9) rfl dG_remove_33 ?_
  refine lv_iload_n hx hb dG_remove_36 rfl (lv_at hl 1 rfl) ?_
  refine lv_iload_n hx hb dG_remove_37 rfl (lv_at hl 2 rfl) ?_
  refine rg_callv hD hS hA (va_runV (As := [.int (nI (k + 6)), .int (nI x)]) (rest := []) ⟨hx, hb, hml, hown, hts⟩ (c_F_removeInt 60 k x (by omega) (by omega) l9 hlc9 hxl hl89 _) (cwV 2 hts (rg_gV tw_361 tw_362 tw_363 tw_3 tw_364) rfl rfl rfl (by decide +kernel) ⟨by rw [hR]; exact Nat.le_of_ble_eq_true rfl, by rw [hR]; exact Nat.le_of_ble_eq_true rfl⟩) (rg_preV rfl hK hP hD (ci := 4) (q0 := (11 + (4 + 60))) rfl (gw_obj (by omega))) rfl rfl hl.1 rfl (lv_room (Nat.le_of_ble_eq_true rfl)) dG_remove_38 ⟨Nat.zero_le _, Nat.zero_le _⟩) (fun u12 H locs hw13 hP hD hS => ?_)
  have hP : va_P (dC, dI) rg_cl (gw_W ad fo fa ur cI cL cF cA (va_up (va_up rec 60 (va_cpy (rec (T b)) (rec 60) 0 0 24)) 60 u12) fp sp an nn (nI n) pt un uc (nI b) lc) H := hP
  have hD : va_D A (gw_W ad fo fa ur cI cL cF cA (va_up (va_up rec 60 (va_cpy (rec (T b)) (rec 60) 0 0 24)) 60 u12) fp sp an nn (nI n) pt un uc (nI b) lc) := hD
  have hLC9 := hw13
  obtain ⟨d9, hd9⟩ : ∃ d9, d9 = (va_up (va_up rec 60 (va_cpy (rec (T b)) (rec 60) 0 0 24)) 60 u12) 60 := ⟨_, rfl⟩
  have hrc9 : va_up (va_up rec 60 (va_cpy (rec (T b)) (rec 60) 0 0 24)) 60 u12 = va_up rec 60 d9 := by rw [hd9]; simp only [rg_upup, rg_ups]
  rw [hrc9] at hP hD
  simp only [rg_ups] at hd9
  have hP : va_P (dC, dI) rg_cl (gw_W ad fo fa ur cI cL cF cA (va_up rec 60 d9) fp sp an nn (nI n) pt un uc (nI b) lc) H := hP
  have hD : va_D A (gw_W ad fo fa ur cI cL cF cA (va_up rec 60 d9) fp sp an nn (nI n) pt un uc (nI b) lc) := hD
  have hX9 : rg_CR d9 (rg_setL (Rr (T b)) k (rg_remL l9 x)) := by rw [hd9]; exact (rg_CR_setL (rg_CR_cpy hyc) hk2 (by rw [rg_remL_len hxl]; omega) hLC9.1 (by have := hLC9.2; rw [rg_ups] at this; exact this))
  have hXc : rg_CR ((va_up rec 60 d9) 60) (rg_setL (Rr (T b)) k (rg_remL l9 x)) := by rw [rg_ups]; exact hX9
  have hYc : rg_CR ((va_up rec 60 d9) (T b)) (Rr (T b)) := by rw [rg_upn _ _ (by omega)]; exact hyc
  have hr9 : gw_Rep (va_up rec 60 d9) fp sp an (nI n) pt un uc (nI b) lc (n, Rr, P1, P2, T, U, b, lc) := gw_Rep_rec hrep (fun r9 h9 => rg_upn _ _ (by have h9 : r9 < n := h9; omega))
  refine lv_aload_n hx hb dG_remove_41 rfl (lv_at hl 0 rfl) ?_
  refine lv_iload_n hx hb dG_remove_42 rfl (lv_at hl 1 rfl) ?_
  refine rg_calli hD hS hA (va_runV (As := [.int (nI (k + 6))]) (rest := []) ⟨hx, hb, hml, hown, hts⟩ (c_G_comeToChanged_s n b (T b) (k + 6) (by omega) (by omega) (by omega) (by omega) hpt (rg_setL (Rr (T b)) k (rg_remL l9 x)) (Rr (T b)) hXc hYc hs _) (cwV 1 hts (rg_gV tw_248 tw_250 ts_G_comeToChanged tw_1 tw_251) rfl rfl rfl (by decide +kernel) ⟨by rw [hR]; exact Nat.le_of_ble_eq_true rfl, by rw [hR]; exact Nat.le_of_ble_eq_true rfl⟩) (rg_preV rfl hK hP hD (ci := 1) (q0 := 0) rfl rfl) rfl rfl hl.1 rfl (lv_room (Nat.le_of_ble_eq_true rfl)) dG_remove_43 ⟨Nat.zero_le _, Nat.zero_le _⟩) (fun r14 u15 H locs hw16 hP hD hS => ?_)
  subst hw16
  have hP : va_P (dC, dI) rg_cl (gw_W ad fo fa ur cI cL cF cA (va_up rec 60 d9) fp sp an nn (nI n) pt un uc (nI b) lc) H := hP
  have hD : va_D A (gw_W ad fo fa ur cI cL cF cA (va_up rec 60 d9) fp sp an nn (nI n) pt un uc (nI b) lc) := hD
  rw [hQ]
  exact rg_iret hx hb hr hlk hK hP hD hS dG_remove_46 (va_up rec 60 d9, fp, sp, an, nn, nI n, pt, un, uc, nI b, lc) rfl (by rw [rg_chg_same (g := (n, Rr, P1, P2, T, U, b, lc)) ((rg_one_diff (f := k + 6) (by omega) (rg_sf_setL hk2)).mpr hs)]; exact ⟨hr9, rfl, rfl⟩)
set_option maxHeartbeats 4000000 in
set_option maxRecDepth 100000 in
theorem c_G_remove_n {l : Launch} {dC : Nat → ClassId} {dI : Nat → Nat → Nat} {ad fo fa ur : Nat → Nat} {cI cL cF cA : ClassId} {rec : Nat → Nat → Int64} {fp : Nat → Int32} {sp : Nat → Int32} {an : Nat → Int64} {nn : Nat → Int32} {pt : Nat → Int32} {un : Nat → Nat → Int32} {uc : Nat → Int32} {lc : Int32} (n b : Nat) (Rr : Nat → rg_R) (P1 P2 : Nat → Int32) (T : Nat → Nat) (U : Nat → List Nat) (k : Nat) (hk2 : k < 2) (l9 : List Int32) (hl9 : (Rr (T b)).2.2.2 k = l9) (x : Nat) (hxl : x < l9.length) (hs : rg_sf (rg_setL (Rr (T b)) k (rg_remL l9 x)) (Rr (T b)) (k + 6) = false) (hn9 : n < 60) (hrep : gw_Rep rec fp sp an (nI n) pt un uc (nI b) lc (n, Rr, P1, P2, T, U, b, lc)) : rg_M l yG_remove (Cond.code yG_remove prog_1_method_6_code 3 (some .int) :: rg_tbl) { frames := 5, cells := 0, slots := 0, locals := 118 } (dC, dI) rg_cl (gw_tys cI cL cF cA) (gw_W ad fo fa ur cI cL cF cA rec fp sp an nn (nI n) pt un uc (nI b) lc) [.ref ((ad 0)), .int (nI (k + 6)), .int (nI x)] (rg_QI (dC, dI) rg_cl (gw_tys cI cL cF cA) (S := gw_S) (gw_Po (rg_chg 2 (n, Rr, P1, P2, T, U, b, lc) (rg_setL (Rr (T b)) k (rg_remL l9 x)))) (fun u => gw_Wu ad fo fa ur cI cL cF cA u)) 0 0 := by
  refine rg_of prog_1_method_6_code 3 (some .int) (by decide) rfl (Nat.le_of_ble_eq_true rfl) ?_
  intro p e R s m args below meth c Q A H locs ls hR hQ hx hb hml hr hts hown hlk hnm hP hK hD hA hS hl
  have hl : lv_has ls 3 [(0, .ref ((ad 0))), (1, .int (nI (k + 6))), (2, .int (nI x))] := hl
  have hts : ∀ w ∈ rg_tbl, w.before args s = true := fun w h => hts w (List.mem_cons_of_mem _ h)
  have hok := hrep.1
  have hn1 : 1 ≤ n := hok.1
  have hn60 : n ≤ 60 := hok.2.1
  have hb4 : b < 4 := hok.2.2.2.2.2.2.2.1
  have hTb : T b < n := (hok.2.2.2.2.2.2.1 b hb4).1
  have hpt : pt b = nI (T b) := (hrep.2.2.2.2.2.2 b hb4).1
  have hyc : rg_CR (rec (T b)) (Rr (T b)) := hrep.2.2.2.2.1 (T b) hTb
  have hq9 := rg_CR_cpy (d' := rec 60) hyc k hk2
  rw [hl9] at hq9
  have hlq := hq9.2.2.2.2.1
  have hl89 := hq9.2.2.2.1
  have hlc9 : rg_LC ((va_up rec 60 (va_cpy (rec (T b)) (rec 60) 0 0 24)) 60) k l9 := by rw [rg_ups]; exact ⟨hq9.2.2.2.2.1, hq9.2.2.2.2.2⟩
  refine lv_iload_n hx hb dG_remove_0 rfl (lv_at hl 1 rfl) ?_
  refine lv_bipush (v := nI 6) hx hb dG_remove_1 (by decide) ?_
  refine rg_callv hD hS hA (va_runS (As := [.int (nI (k + 6)), .int (nI 6)]) (rest := []) ⟨hx, hb, hml, hown, hts⟩ (c_G_requireKind (k + 6) 6 (by omega) (by omega) _) (va_cwS 2 hts (rg_gSx tw_159 tw_160 tw_1 tw_161) rfl rfl rfl (by decide +kernel) ⟨by rw [hR]; exact Nat.le_of_ble_eq_true rfl, by rw [hR]; exact Nat.le_of_ble_eq_true rfl⟩) (rg_preS rfl hK hP hD) rfl rfl hl.1 rfl (lv_room (Nat.le_of_ble_eq_true rfl)) dG_remove_3 ⟨Nat.zero_le _, Nat.zero_le _⟩) (fun u2 H locs hw3 hP hD hS => ?_)
  have hP : va_P (dC, dI) rg_cl (gw_W ad fo fa ur cI cL cF cA rec fp sp an nn (nI n) pt un uc (nI b) lc) H := hP
  have hD : va_D A (gw_W ad fo fa ur cI cL cF cA rec fp sp an nn (nI n) pt un uc (nI b) lc) := hD
  refine lv_aload_n hx hb dG_remove_6 rfl (lv_at hl 0 rfl) ?_
  refine rg_callv hD hS hA (va_runV (As := []) (rest := []) ⟨hx, hb, hml, hown, hts⟩ (c_G_draftPresent b (T b) (by omega) (by omega) hpt _) (cwV 0 hts (rg_gV tw_231 tw_233 ts_G_draftPresent tw_1 tw_234) rfl rfl rfl (by decide +kernel) ⟨by rw [hR]; exact Nat.le_of_ble_eq_true rfl, by rw [hR]; exact Nat.le_of_ble_eq_true rfl⟩) (rg_preV rfl hK hP hD (ci := 1) (q0 := 0) rfl rfl) rfl rfl hl.1 rfl (lv_room (Nat.le_of_ble_eq_true rfl)) dG_remove_7 ⟨Nat.zero_le _, Nat.zero_le _⟩) (fun u5 H locs hw6 hP hD hS => ?_)
  have hP : va_P (dC, dI) rg_cl (gw_W ad fo fa ur cI cL cF cA (va_up rec 60 (va_cpy (rec (T b)) (rec 60) 0 0 24)) fp sp an nn (nI n) pt un uc (nI b) lc) H := hP
  have hD : va_D A (gw_W ad fo fa ur cI cL cF cA (va_up rec 60 (va_cpy (rec (T b)) (rec 60) 0 0 24)) fp sp an nn (nI n) pt un uc (nI b) lc) := hD
  refine lv_aload_n hx hb dG_remove_10 rfl (lv_at hl 0 rfl) ?_
  refine va_get (D := (dC, dI)) (ci := 1) (C := "RevisionGrove") (T := TG) (N := 4) hx hb hts inG hown hK hP 0 rfl rfl 2 (by decide) (hts _ tw_88) (fun _ h9 => h9) rfl dG_remove_11 ?_
  refine lv_iload_n hx hb dG_remove_14 rfl (lv_at hl 1 rfl) ?_
  refine lv_iload_n hx hb dG_remove_15 rfl (lv_at hl 2 rfl) ?_
  refine rg_calli hD hS hA (va_runV (As := [.int (nI (k + 6)), .int (nI x)]) (rest := []) ⟨hx, hb, hml, hown, hts⟩ (c_F_hasPlace 60 k l9.length (by omega) (by omega) (by rw [rg_ups]; exact hlq) (nI x) _) (cwV 2 hts (rg_gV tw_356 tw_357 tw_358 tw_3 tw_359) rfl rfl rfl (by decide +kernel) ⟨by rw [hR]; exact Nat.le_of_ble_eq_true rfl, by rw [hR]; exact Nat.le_of_ble_eq_true rfl⟩) (rg_preV rfl hK hP hD (ci := 4) (q0 := (11 + (4 + 60))) rfl (gw_obj (by omega))) rfl rfl hl.1 rfl (lv_room (Nat.le_of_ble_eq_true rfl)) dG_remove_16 ⟨Nat.zero_le _, Nat.zero_le _⟩) (fun r7 u8 H locs hw9 hP hD hS => ?_)
  subst hw9
  have hP : va_P (dC, dI) rg_cl (gw_W ad fo fa ur cI cL cF cA (va_up rec 60 (va_cpy (rec (T b)) (rec 60) 0 0 24)) fp sp an nn (nI n) pt un uc (nI b) lc) H := hP
  have hD : va_D A (gw_W ad fo fa ur cI cL cF cA (va_up rec 60 (va_cpy (rec (T b)) (rec 60) 0 0 24)) fp sp an nn (nI n) pt un uc (nI b) lc) := hD
  refine rg_ifz_ne (tgt := 32) hx hb dG_remove_19 (by decide) (fun h10 => ?_) (fun h10 => absurd ((rg_isR_ok (n := l9.length) (by omega) hxl).symm.trans h10) (by decide))
  refine lv_aload_n hx hb dG_remove_32 rfl (lv_at hl 0 rfl) ?_
  refine va_get (D := (dC, dI)) (ci := 1) (C := "RevisionGrove") (T := TG) (N := 4) hx hb hts inG hown hK hP 0 rfl rfl 2 (by decide) (hts _ tw_88) (fun _ h9 => h9) rfl dG_remove_33 ?_
  refine lv_iload_n hx hb dG_remove_36 rfl (lv_at hl 1 rfl) ?_
  refine lv_iload_n hx hb dG_remove_37 rfl (lv_at hl 2 rfl) ?_
  refine rg_callv hD hS hA (va_runV (As := [.int (nI (k + 6)), .int (nI x)]) (rest := []) ⟨hx, hb, hml, hown, hts⟩ (c_F_removeInt 60 k x (by omega) (by omega) l9 hlc9 hxl hl89 _) (cwV 2 hts (rg_gV tw_361 tw_362 tw_363 tw_3 tw_364) rfl rfl rfl (by decide +kernel) ⟨by rw [hR]; exact Nat.le_of_ble_eq_true rfl, by rw [hR]; exact Nat.le_of_ble_eq_true rfl⟩) (rg_preV rfl hK hP hD (ci := 4) (q0 := (11 + (4 + 60))) rfl (gw_obj (by omega))) rfl rfl hl.1 rfl (lv_room (Nat.le_of_ble_eq_true rfl)) dG_remove_38 ⟨Nat.zero_le _, Nat.zero_le _⟩) (fun u12 H locs hw13 hP hD hS => ?_)
  have hP : va_P (dC, dI) rg_cl (gw_W ad fo fa ur cI cL cF cA (va_up (va_up rec 60 (va_cpy (rec (T b)) (rec 60) 0 0 24)) 60 u12) fp sp an nn (nI n) pt un uc (nI b) lc) H := hP
  have hD : va_D A (gw_W ad fo fa ur cI cL cF cA (va_up (va_up rec 60 (va_cpy (rec (T b)) (rec 60) 0 0 24)) 60 u12) fp sp an nn (nI n) pt un uc (nI b) lc) := hD
  have hLC9 := hw13
  obtain ⟨d9, hd9⟩ : ∃ d9, d9 = (va_up (va_up rec 60 (va_cpy (rec (T b)) (rec 60) 0 0 24)) 60 u12) 60 := ⟨_, rfl⟩
  have hrc9 : va_up (va_up rec 60 (va_cpy (rec (T b)) (rec 60) 0 0 24)) 60 u12 = va_up rec 60 d9 := by rw [hd9]; simp only [rg_upup, rg_ups]
  rw [hrc9] at hP hD
  simp only [rg_ups] at hd9
  have hP : va_P (dC, dI) rg_cl (gw_W ad fo fa ur cI cL cF cA (va_up rec 60 d9) fp sp an nn (nI n) pt un uc (nI b) lc) H := hP
  have hD : va_D A (gw_W ad fo fa ur cI cL cF cA (va_up rec 60 d9) fp sp an nn (nI n) pt un uc (nI b) lc) := hD
  have hX9 : rg_CR d9 (rg_setL (Rr (T b)) k (rg_remL l9 x)) := by rw [hd9]; exact (rg_CR_setL (rg_CR_cpy hyc) hk2 (by rw [rg_remL_len hxl]; omega) hLC9.1 (by have := hLC9.2; rw [rg_ups] at this; exact this))
  have hXc : rg_CR ((va_up rec 60 d9) 60) (rg_setL (Rr (T b)) k (rg_remL l9 x)) := by rw [rg_ups]; exact hX9
  have hYc : rg_CR ((va_up rec 60 d9) (T b)) (Rr (T b)) := by rw [rg_upn _ _ (by omega)]; exact hyc
  have hr9 : gw_Rep (va_up rec 60 d9) fp sp an (nI n) pt un uc (nI b) lc (n, Rr, P1, P2, T, U, b, lc) := gw_Rep_rec hrep (fun r9 h9 => rg_upn _ _ (by have h9 : r9 < n := h9; omega))
  refine lv_aload_n hx hb dG_remove_41 rfl (lv_at hl 0 rfl) ?_
  refine lv_iload_n hx hb dG_remove_42 rfl (lv_at hl 1 rfl) ?_
  refine rg_calli hD hS hA (va_runV (As := [.int (nI (k + 6))]) (rest := []) ⟨hx, hb, hml, hown, hts⟩ (c_G_comeToChanged_n n b (T b) (k + 6) (by omega) (by omega) (by omega) (by omega) hpt (rg_setL (Rr (T b)) k (rg_remL l9 x)) (Rr (T b)) hXc hYc hs hn9 _) (cwV 1 hts (rg_gV tw_248 tw_250 ts_G_comeToChanged tw_1 tw_251) rfl rfl rfl (by decide +kernel) ⟨by rw [hR]; exact Nat.le_of_ble_eq_true rfl, by rw [hR]; exact Nat.le_of_ble_eq_true rfl⟩) (rg_preV rfl hK hP hD (ci := 1) (q0 := 0) rfl rfl) rfl rfl hl.1 rfl (lv_room (Nat.le_of_ble_eq_true rfl)) dG_remove_43 ⟨Nat.zero_le _, Nat.zero_le _⟩) (fun r14 u15 H locs hw16 hP hD hS => ?_)
  subst hw16
  have hP : va_P (dC, dI) rg_cl (gw_W ad fo fa ur cI cL cF cA (va_up (va_up rec 60 d9) n (va_cpy ((va_up rec 60 d9) 60) ((va_up rec 60 d9) n) 0 0 24)) (upd fp n (nI (T b))) (upd sp n (-1)) (vp_updL an n ((((1 : Int64) <<< ((nI n).toInt64 &&& 63)) ||| (rg_ax an (nI (T b)))) ||| (rg_ax an (-1)))) nn (nI (n + 1)) (upd pt b (nI n)) un (upd uc b (nI 0)) (nI b) lc) H := hP
  have hD : va_D A (gw_W ad fo fa ur cI cL cF cA (va_up (va_up rec 60 d9) n (va_cpy ((va_up rec 60 d9) 60) ((va_up rec 60 d9) n) 0 0 24)) (upd fp n (nI (T b))) (upd sp n (-1)) (vp_updL an n ((((1 : Int64) <<< ((nI n).toInt64 &&& 63)) ||| (rg_ax an (nI (T b)))) ||| (rg_ax an (-1)))) nn (nI (n + 1)) (upd pt b (nI n)) un (upd uc b (nI 0)) (nI b) lc) := hD
  rw [hQ]
  exact rg_iret hx hb hr hlk hK hP hD hS dG_remove_46 (va_up (va_up rec 60 d9) n (va_cpy ((va_up rec 60 d9) 60) ((va_up rec 60 d9) n) 0 0 24), upd fp n (nI (T b)), upd sp n (-1), vp_updL an n ((((1 : Int64) <<< ((nI n).toInt64 &&& 63)) ||| (rg_ax an (nI (T b)))) ||| (rg_ax an (-1))), nn, nI (n + 1), upd pt b (nI n), un, upd uc b (nI 0), nI b, lc) rfl (by rw [rg_chg_new (g := (n, Rr, P1, P2, T, U, b, lc)) (fun q => by rw [(rg_one_diff (f := k + 6) (by omega) (rg_sf_setL hk2)).mp q] at hs; cases hs) (by show ¬ n = 60; omega)]; exact ⟨gw_Rep_new (g := (n, Rr, P1, P2, T, U, b, lc)) hr9 hXc hn9 (Or.inl rfl), rfl, rfl⟩)
set_option maxHeartbeats 4000000 in
set_option maxRecDepth 100000 in
theorem c_G_remove_x {l : Launch} {dC : Nat → ClassId} {dI : Nat → Nat → Nat} {ad fo fa ur : Nat → Nat} {cI cL cF cA : ClassId} {rec : Nat → Nat → Int64} {fp : Nat → Int32} {sp : Nat → Int32} {an : Nat → Int64} {nn : Nat → Int32} {pt : Nat → Int32} {un : Nat → Nat → Int32} {uc : Nat → Int32} {lc : Int32} (hlt : l.stackTraces = false) (b : Nat) (Rr : Nat → rg_R) (P1 P2 : Nat → Int32) (T : Nat → Nat) (U : Nat → List Nat) (k : Nat) (hk2 : k < 2) (l9 : List Int32) (hl9 : (Rr (T b)).2.2.2 k = l9) (x : Nat) (hxl : x < l9.length) (hs : rg_sf (rg_setL (Rr (T b)) k (rg_remL l9 x)) (Rr (T b)) (k + 6) = false) (hrep : gw_Rep rec fp sp an (nI 60) pt un uc (nI b) lc (60, Rr, P1, P2, T, U, b, lc)) : rx_M l yG_remove (Cond.code yG_remove prog_1_method_6_code 3 (some .int) :: rg_tbl) { frames := 8, cells := 1, slots := 6, locals := 133 } (dC, dI) rg_cl (gw_tys cI cL cF cA) (gw_W ad fo fa ur cI cL cF cA rec fp sp an nn (nI 60) pt un uc (nI b) lc) [.ref ((ad 0)), .int (nI (k + 6)), .int (nI x)] (rg_QI (dC, dI) rg_cl (gw_tys cI cL cF cA) (S := Unit) (fun _ _ => False) (fun _ => gw_W ad fo fa ur cI cL cF cA rec fp sp an nn (nI 60) pt un uc (nI b) lc)) (rx_X (dC, dI) rg_cl (gw_tys cI cL cF cA) (S := gw_S) (gw_Px "java/lang/IllegalStateException" (60, Rr, P1, P2, T, U, b, lc)) (fun u => gw_Wu ad fo fa ur cI cL cF cA u)) 1 6 := by
  refine rx_of prog_1_method_6_code 3 (some .int) (by decide) rfl (Nat.le_of_ble_eq_true rfl) ?_
  intro p e R s m args below meth c Q A H locs ls hR hQ hx hb hml hr hts hown hlk hnm hno hT hP hK hD hA hS hl
  have hl : lv_has ls 3 [(0, .ref ((ad 0))), (1, .int (nI (k + 6))), (2, .int (nI x))] := hl
  have hts : ∀ w ∈ rg_tbl, w.before args s = true := fun w h => hts w (List.mem_cons_of_mem _ h)
  have hok := hrep.1
  have hb4 : b < 4 := hok.2.2.2.2.2.2.2.1
  have hTb : T b < 60 := (hok.2.2.2.2.2.2.1 b hb4).1
  have hpt : pt b = nI (T b) := (hrep.2.2.2.2.2.2 b hb4).1
  have hyc : rg_CR (rec (T b)) (Rr (T b)) := hrep.2.2.2.2.1 (T b) hTb
  have hq9 := rg_CR_cpy (d' := rec 60) hyc k hk2
  rw [hl9] at hq9
  have hlq := hq9.2.2.2.2.1
  have hl89 := hq9.2.2.2.1
  have hlc9 : rg_LC ((va_up rec 60 (va_cpy (rec (T b)) (rec 60) 0 0 24)) 60) k l9 := by rw [rg_ups]; exact ⟨hq9.2.2.2.2.1, hq9.2.2.2.2.2⟩
  refine lv_iload_n hx hb dG_remove_0 rfl (lv_at hl 1 rfl) ?_
  refine lv_bipush (v := nI 6) hx hb dG_remove_1 (by decide) ?_
  refine rg_callv hD hS hA (va_runS (As := [.int (nI (k + 6)), .int (nI 6)]) (rest := []) ⟨hx, hb, hml, hown, hts⟩ (c_G_requireKind (k + 6) 6 (by omega) (by omega) _) (va_cwS 2 hts (rg_gSx tw_159 tw_160 tw_1 tw_161) rfl rfl rfl (by decide +kernel) ⟨by rw [hR]; exact Nat.le_of_ble_eq_true rfl, by rw [hR]; exact Nat.le_of_ble_eq_true rfl⟩) (rg_preS rfl hK hP hD) rfl rfl hl.1 rfl (lv_room (Nat.le_of_ble_eq_true rfl)) dG_remove_3 ⟨Nat.zero_le _, Nat.zero_le _⟩) (fun u2 H locs hw3 hP hD hS => ?_)
  have hP : va_P (dC, dI) rg_cl (gw_W ad fo fa ur cI cL cF cA rec fp sp an nn (nI 60) pt un uc (nI b) lc) H := hP
  have hD : va_D A (gw_W ad fo fa ur cI cL cF cA rec fp sp an nn (nI 60) pt un uc (nI b) lc) := hD
  refine lv_aload_n hx hb dG_remove_6 rfl (lv_at hl 0 rfl) ?_
  refine rg_callv hD hS hA (va_runV (As := []) (rest := []) ⟨hx, hb, hml, hown, hts⟩ (c_G_draftPresent b (T b) (by omega) (by omega) hpt _) (cwV 0 hts (rg_gV tw_231 tw_233 ts_G_draftPresent tw_1 tw_234) rfl rfl rfl (by decide +kernel) ⟨by rw [hR]; exact Nat.le_of_ble_eq_true rfl, by rw [hR]; exact Nat.le_of_ble_eq_true rfl⟩) (rg_preV rfl hK hP hD (ci := 1) (q0 := 0) rfl rfl) rfl rfl hl.1 rfl (lv_room (Nat.le_of_ble_eq_true rfl)) dG_remove_7 ⟨Nat.zero_le _, Nat.zero_le _⟩) (fun u5 H locs hw6 hP hD hS => ?_)
  have hP : va_P (dC, dI) rg_cl (gw_W ad fo fa ur cI cL cF cA (va_up rec 60 (va_cpy (rec (T b)) (rec 60) 0 0 24)) fp sp an nn (nI 60) pt un uc (nI b) lc) H := hP
  have hD : va_D A (gw_W ad fo fa ur cI cL cF cA (va_up rec 60 (va_cpy (rec (T b)) (rec 60) 0 0 24)) fp sp an nn (nI 60) pt un uc (nI b) lc) := hD
  refine lv_aload_n hx hb dG_remove_10 rfl (lv_at hl 0 rfl) ?_
  refine va_get (D := (dC, dI)) (ci := 1) (C := "RevisionGrove") (T := TG) (N := 4) hx hb hts inG hown hK hP 0 rfl rfl 2 (by decide) (hts _ tw_88) (fun _ h9 => h9) rfl dG_remove_11 ?_
  refine lv_iload_n hx hb dG_remove_14 rfl (lv_at hl 1 rfl) ?_
  refine lv_iload_n hx hb dG_remove_15 rfl (lv_at hl 2 rfl) ?_
  refine rg_calli hD hS hA (va_runV (As := [.int (nI (k + 6)), .int (nI x)]) (rest := []) ⟨hx, hb, hml, hown, hts⟩ (c_F_hasPlace 60 k l9.length (by omega) (by omega) (by rw [rg_ups]; exact hlq) (nI x) _) (cwV 2 hts (rg_gV tw_356 tw_357 tw_358 tw_3 tw_359) rfl rfl rfl (by decide +kernel) ⟨by rw [hR]; exact Nat.le_of_ble_eq_true rfl, by rw [hR]; exact Nat.le_of_ble_eq_true rfl⟩) (rg_preV rfl hK hP hD (ci := 4) (q0 := (11 + (4 + 60))) rfl (gw_obj (by omega))) rfl rfl hl.1 rfl (lv_room (Nat.le_of_ble_eq_true rfl)) dG_remove_16 ⟨Nat.zero_le _, Nat.zero_le _⟩) (fun r7 u8 H locs hw9 hP hD hS => ?_)
  subst hw9
  have hP : va_P (dC, dI) rg_cl (gw_W ad fo fa ur cI cL cF cA (va_up rec 60 (va_cpy (rec (T b)) (rec 60) 0 0 24)) fp sp an nn (nI 60) pt un uc (nI b) lc) H := hP
  have hD : va_D A (gw_W ad fo fa ur cI cL cF cA (va_up rec 60 (va_cpy (rec (T b)) (rec 60) 0 0 24)) fp sp an nn (nI 60) pt un uc (nI b) lc) := hD
  refine rg_ifz_ne (tgt := 32) hx hb dG_remove_19 (by decide) (fun h10 => ?_) (fun h10 => absurd ((rg_isR_ok (n := l9.length) (by omega) hxl).symm.trans h10) (by decide))
  refine lv_aload_n hx hb dG_remove_32 rfl (lv_at hl 0 rfl) ?_
  refine va_get (D := (dC, dI)) (ci := 1) (C := "RevisionGrove") (T := TG) (N := 4) hx hb hts inG hown hK hP 0 rfl rfl 2 (by decide) (hts _ tw_88) (fun _ h9 => h9) rfl dG_remove_33 ?_
  refine lv_iload_n hx hb dG_remove_36 rfl (lv_at hl 1 rfl) ?_
  refine lv_iload_n hx hb dG_remove_37 rfl (lv_at hl 2 rfl) ?_
  refine rg_callv hD hS hA (va_runV (As := [.int (nI (k + 6)), .int (nI x)]) (rest := []) ⟨hx, hb, hml, hown, hts⟩ (c_F_removeInt 60 k x (by omega) (by omega) l9 hlc9 hxl hl89 _) (cwV 2 hts (rg_gV tw_361 tw_362 tw_363 tw_3 tw_364) rfl rfl rfl (by decide +kernel) ⟨by rw [hR]; exact Nat.le_of_ble_eq_true rfl, by rw [hR]; exact Nat.le_of_ble_eq_true rfl⟩) (rg_preV rfl hK hP hD (ci := 4) (q0 := (11 + (4 + 60))) rfl (gw_obj (by omega))) rfl rfl hl.1 rfl (lv_room (Nat.le_of_ble_eq_true rfl)) dG_remove_38 ⟨Nat.zero_le _, Nat.zero_le _⟩) (fun u12 H locs hw13 hP hD hS => ?_)
  have hP : va_P (dC, dI) rg_cl (gw_W ad fo fa ur cI cL cF cA (va_up (va_up rec 60 (va_cpy (rec (T b)) (rec 60) 0 0 24)) 60 u12) fp sp an nn (nI 60) pt un uc (nI b) lc) H := hP
  have hD : va_D A (gw_W ad fo fa ur cI cL cF cA (va_up (va_up rec 60 (va_cpy (rec (T b)) (rec 60) 0 0 24)) 60 u12) fp sp an nn (nI 60) pt un uc (nI b) lc) := hD
  have hLC9 := hw13
  obtain ⟨d9, hd9⟩ : ∃ d9, d9 = (va_up (va_up rec 60 (va_cpy (rec (T b)) (rec 60) 0 0 24)) 60 u12) 60 := ⟨_, rfl⟩
  have hrc9 : va_up (va_up rec 60 (va_cpy (rec (T b)) (rec 60) 0 0 24)) 60 u12 = va_up rec 60 d9 := by rw [hd9]; simp only [rg_upup, rg_ups]
  rw [hrc9] at hP hD
  simp only [rg_ups] at hd9
  have hP : va_P (dC, dI) rg_cl (gw_W ad fo fa ur cI cL cF cA (va_up rec 60 d9) fp sp an nn (nI 60) pt un uc (nI b) lc) H := hP
  have hD : va_D A (gw_W ad fo fa ur cI cL cF cA (va_up rec 60 d9) fp sp an nn (nI 60) pt un uc (nI b) lc) := hD
  have hX9 : rg_CR d9 (rg_setL (Rr (T b)) k (rg_remL l9 x)) := by rw [hd9]; exact (rg_CR_setL (rg_CR_cpy hyc) hk2 (by rw [rg_remL_len hxl]; omega) hLC9.1 (by have := hLC9.2; rw [rg_ups] at this; exact this))
  have hXc : rg_CR ((va_up rec 60 d9) 60) (rg_setL (Rr (T b)) k (rg_remL l9 x)) := by rw [rg_ups]; exact hX9
  have hYc : rg_CR ((va_up rec 60 d9) (T b)) (Rr (T b)) := by rw [rg_upn _ _ (by omega)]; exact hyc
  have hr9 : gw_Rep (va_up rec 60 d9) fp sp an (nI 60) pt un uc (nI b) lc (60, Rr, P1, P2, T, U, b, lc) := gw_Rep_rec hrep (fun r9 h9 => rg_upn _ _ (by have h9 : r9 < 60 := h9; omega))
  refine lv_aload_n hx hb dG_remove_41 rfl (lv_at hl 0 rfl) ?_
  refine lv_iload_n hx hb dG_remove_42 rfl (lv_at hl 1 rfl) ?_
  exact rx_calli hQ (fun E u h => ⟨(va_up rec 60 d9, fp, sp, an, nn, nI 60, pt, un, uc, nI b, lc), ⟨h, hr9⟩, rfl⟩) hno hlk hD hS hA (Nat.le_of_ble_eq_true rfl) (Nat.le_of_ble_eq_true rfl) (vx_runV (As := [.int (nI (k + 6))]) (rest := []) ⟨hx, hb, hml, hown, hts⟩ (c_G_comeToChanged_x hlt b (T b) (k + 6) (by omega) (by omega) (by omega) hpt (rg_setL (Rr (T b)) k (rg_remL l9 x)) (Rr (T b)) hXc hYc hs _) (cwV 1 hts (rg_gV tw_248 tw_250 ts_G_comeToChanged tw_1 tw_251) rfl rfl rfl (by decide +kernel) ⟨(by rw [hR]; exact Nat.le_of_ble_eq_true rfl), (by rw [hR]; exact Nat.le_of_ble_eq_true rfl)⟩) (rx_preV rfl hT hS hA hK hP hD (ci := 1) (q0 := 0) rfl rfl) rfl rfl hl.1 rfl (lv_room (Nat.le_of_ble_eq_true rfl)) dG_remove_43 ⟨(by rw [hR]; exact Nat.le_of_ble_eq_true rfl), (by rw [hR]; exact Nat.le_of_ble_eq_true rfl)⟩) (fun _ _ _ _ h9 => h9.elim)
set_option maxHeartbeats 4000000 in
set_option maxRecDepth 100000 in
theorem c_G_remove_xf {l : Launch} {dC : Nat → ClassId} {dI : Nat → Nat → Nat} {ad fo fa ur : Nat → Nat} {cI cL cF cA : ClassId} {rec : Nat → Nat → Int64} {fp : Nat → Int32} {sp : Nat → Int32} {an : Nat → Int64} {nn : Nat → Int32} {pt : Nat → Int32} {un : Nat → Nat → Int32} {uc : Nat → Int32} {lc : Int32} (hlt : l.stackTraces = false) (n b : Nat) (Rr : Nat → rg_R) (P1 P2 : Nat → Int32) (T : Nat → Nat) (U : Nat → List Nat) (f x : Int32) (hk0 : ¬ f = 6) (hk1 : ¬ f = 7) (hrep : gw_Rep rec fp sp an (nI n) pt un uc (nI b) lc (n, Rr, P1, P2, T, U, b, lc)) : rx_M l yG_remove (Cond.code yG_remove prog_1_method_6_code 3 (some .int) :: rg_tbl) { frames := 8, cells := 1, slots := 6, locals := 133 } (dC, dI) rg_cl (gw_tys cI cL cF cA) (gw_W ad fo fa ur cI cL cF cA rec fp sp an nn (nI n) pt un uc (nI b) lc) [.ref ((ad 0)), .int f, .int x] (rg_QI (dC, dI) rg_cl (gw_tys cI cL cF cA) (S := Unit) (fun _ _ => False) (fun _ => gw_W ad fo fa ur cI cL cF cA rec fp sp an nn (nI n) pt un uc (nI b) lc)) (rx_X (dC, dI) rg_cl (gw_tys cI cL cF cA) (S := gw_S) (gw_Px "java/lang/IllegalArgumentException" (n, Rr, P1, P2, T, U, b, lc)) (fun u => gw_Wu ad fo fa ur cI cL cF cA u)) 1 6 := by
  refine rx_of prog_1_method_6_code 3 (some .int) (by decide) rfl (Nat.le_of_ble_eq_true rfl) ?_
  intro p e R s m args below meth c Q A H locs ls hR hQ hx hb hml hr hts hown hlk hnm hno hT hP hK hD hA hS hl
  have hl : lv_has ls 3 [(0, .ref ((ad 0))), (1, .int f), (2, .int x)] := hl
  have hts : ∀ w ∈ rg_tbl, w.before args s = true := fun w h => hts w (List.mem_cons_of_mem _ h)
  refine lv_iload_n hx hb dG_remove_0 rfl (lv_at hl 1 rfl) ?_
  refine lv_bipush (v := nI 6) hx hb dG_remove_1 (by decide) ?_
  exact rx_callv hQ (fun E u h => ⟨(rec, fp, sp, an, nn, nI n, pt, un, uc, nI b, lc), ⟨h, hrep⟩, rfl⟩) hno hlk hD hS hA (Nat.le_of_ble_eq_true rfl) (Nat.le_of_ble_eq_true rfl) (vx_runS (As := [.int f, .int (nI 6)]) (rest := []) ⟨hx, hb, hml, hown, hts⟩ (c_G_requireKind_x hlt f 6 hk0 hk1 _) (va_cwS 2 hts (rg_gSx tw_159 tw_160 tw_1 tw_161) rfl rfl rfl (by decide +kernel) ⟨(by rw [hR]; exact Nat.le_of_ble_eq_true rfl), (by rw [hR]; exact Nat.le_of_ble_eq_true rfl)⟩) (rx_preS rfl hT hS hA hK hP hD) rfl rfl hl.1 rfl (lv_room (Nat.le_of_ble_eq_true rfl)) dG_remove_3 ⟨(by rw [hR]; exact Nat.le_of_ble_eq_true rfl), (by rw [hR]; exact Nat.le_of_ble_eq_true rfl)⟩) (fun _ _ _ h9 => h9.elim)
set_option maxHeartbeats 4000000 in
set_option maxRecDepth 100000 in
theorem c_G_remove_xp {l : Launch} {dC : Nat → ClassId} {dI : Nat → Nat → Nat} {ad fo fa ur : Nat → Nat} {cI cL cF cA : ClassId} {rec : Nat → Nat → Int64} {fp : Nat → Int32} {sp : Nat → Int32} {an : Nat → Int64} {nn : Nat → Int32} {pt : Nat → Int32} {un : Nat → Nat → Int32} {uc : Nat → Int32} {lc : Int32} (hlt : l.stackTraces = false) (n b : Nat) (Rr : Nat → rg_R) (P1 P2 : Nat → Int32) (T : Nat → Nat) (U : Nat → List Nat) (k : Nat) (hk2 : k < 2) (l9 : List Int32) (hl9 : (Rr (T b)).2.2.2 k = l9) (x : Int32) (hx0 : x < 0 ∨ nI l9.length ≤ x) (hrep : gw_Rep rec fp sp an (nI n) pt un uc (nI b) lc (n, Rr, P1, P2, T, U, b, lc)) : rx_M l yG_remove (Cond.code yG_remove prog_1_method_6_code 3 (some .int) :: rg_tbl) { frames := 8, cells := 1, slots := 6, locals := 133 } (dC, dI) rg_cl (gw_tys cI cL cF cA) (gw_W ad fo fa ur cI cL cF cA rec fp sp an nn (nI n) pt un uc (nI b) lc) [.ref ((ad 0)), .int (nI (k + 6)), .int x] (rg_QI (dC, dI) rg_cl (gw_tys cI cL cF cA) (S := Unit) (fun _ _ => False) (fun _ => gw_W ad fo fa ur cI cL cF cA rec fp sp an nn (nI n) pt un uc (nI b) lc)) (rx_X (dC, dI) rg_cl (gw_tys cI cL cF cA) (S := gw_S) (gw_Px "java/lang/IndexOutOfBoundsException" (n, Rr, P1, P2, T, U, b, lc)) (fun u => gw_Wu ad fo fa ur cI cL cF cA u)) 1 6 := by
  refine rx_of prog_1_method_6_code 3 (some .int) (by decide) rfl (Nat.le_of_ble_eq_true rfl) ?_
  intro p e R s m args below meth c Q A H locs ls hR hQ hx hb hml hr hts hown hlk hnm hno hT hP hK hD hA hS hl
  have hl : lv_has ls 3 [(0, .ref ((ad 0))), (1, .int (nI (k + 6))), (2, .int x)] := hl
  have hts : ∀ w ∈ rg_tbl, w.before args s = true := fun w h => hts w (List.mem_cons_of_mem _ h)
  have hok := hrep.1
  have hn1 : 1 ≤ n := hok.1
  have hn60 : n ≤ 60 := hok.2.1
  have hb4 : b < 4 := hok.2.2.2.2.2.2.2.1
  have hTb : T b < n := (hok.2.2.2.2.2.2.1 b hb4).1
  have hpt : pt b = nI (T b) := (hrep.2.2.2.2.2.2 b hb4).1
  have hyc : rg_CR (rec (T b)) (Rr (T b)) := hrep.2.2.2.2.1 (T b) hTb
  have hq9 := rg_CR_cpy (d' := rec 60) hyc k hk2
  rw [hl9] at hq9
  have hlq := hq9.2.2.2.2.1
  have hl89 := hq9.2.2.2.1
  have hlc9 : rg_LC ((va_up rec 60 (va_cpy (rec (T b)) (rec 60) 0 0 24)) 60) k l9 := by rw [rg_ups]; exact ⟨hq9.2.2.2.2.1, hq9.2.2.2.2.2⟩
  refine lv_iload_n hx hb dG_remove_0 rfl (lv_at hl 1 rfl) ?_
  refine lv_bipush (v := nI 6) hx hb dG_remove_1 (by decide) ?_
  refine rg_callv hD hS hA (va_runS (As := [.int (nI (k + 6)), .int (nI 6)]) (rest := []) ⟨hx, hb, hml, hown, hts⟩ (c_G_requireKind (k + 6) 6 (by omega) (by omega) _) (va_cwS 2 hts (rg_gSx tw_159 tw_160 tw_1 tw_161) rfl rfl rfl (by decide +kernel) ⟨by rw [hR]; exact Nat.le_of_ble_eq_true rfl, by rw [hR]; exact Nat.le_of_ble_eq_true rfl⟩) (rg_preS rfl hK hP hD) rfl rfl hl.1 rfl (lv_room (Nat.le_of_ble_eq_true rfl)) dG_remove_3 ⟨Nat.zero_le _, Nat.zero_le _⟩) (fun u2 H locs hw3 hP hD hS => ?_)
  have hP : va_P (dC, dI) rg_cl (gw_W ad fo fa ur cI cL cF cA rec fp sp an nn (nI n) pt un uc (nI b) lc) H := hP
  have hD : va_D A (gw_W ad fo fa ur cI cL cF cA rec fp sp an nn (nI n) pt un uc (nI b) lc) := hD
  refine lv_aload_n hx hb dG_remove_6 rfl (lv_at hl 0 rfl) ?_
  refine rg_callv hD hS hA (va_runV (As := []) (rest := []) ⟨hx, hb, hml, hown, hts⟩ (c_G_draftPresent b (T b) (by omega) (by omega) hpt _) (cwV 0 hts (rg_gV tw_231 tw_233 ts_G_draftPresent tw_1 tw_234) rfl rfl rfl (by decide +kernel) ⟨by rw [hR]; exact Nat.le_of_ble_eq_true rfl, by rw [hR]; exact Nat.le_of_ble_eq_true rfl⟩) (rg_preV rfl hK hP hD (ci := 1) (q0 := 0) rfl rfl) rfl rfl hl.1 rfl (lv_room (Nat.le_of_ble_eq_true rfl)) dG_remove_7 ⟨Nat.zero_le _, Nat.zero_le _⟩) (fun u5 H locs hw6 hP hD hS => ?_)
  have hP : va_P (dC, dI) rg_cl (gw_W ad fo fa ur cI cL cF cA (va_up rec 60 (va_cpy (rec (T b)) (rec 60) 0 0 24)) fp sp an nn (nI n) pt un uc (nI b) lc) H := hP
  have hD : va_D A (gw_W ad fo fa ur cI cL cF cA (va_up rec 60 (va_cpy (rec (T b)) (rec 60) 0 0 24)) fp sp an nn (nI n) pt un uc (nI b) lc) := hD
  refine lv_aload_n hx hb dG_remove_10 rfl (lv_at hl 0 rfl) ?_
  refine va_get (D := (dC, dI)) (ci := 1) (C := "RevisionGrove") (T := TG) (N := 4) hx hb hts inG hown hK hP 0 rfl rfl 2 (by decide) (hts _ tw_88) (fun _ h9 => h9) rfl dG_remove_11 ?_
  refine lv_iload_n hx hb dG_remove_14 rfl (lv_at hl 1 rfl) ?_
  refine lv_iload_n hx hb dG_remove_15 rfl (lv_at hl 2 rfl) ?_
  refine rg_calli hD hS hA (va_runV (As := [.int (nI (k + 6)), .int x]) (rest := []) ⟨hx, hb, hml, hown, hts⟩ (c_F_hasPlace 60 k l9.length (by omega) (by omega) (by rw [rg_ups]; exact hlq) x _) (cwV 2 hts (rg_gV tw_356 tw_357 tw_358 tw_3 tw_359) rfl rfl rfl (by decide +kernel) ⟨by rw [hR]; exact Nat.le_of_ble_eq_true rfl, by rw [hR]; exact Nat.le_of_ble_eq_true rfl⟩) (rg_preV rfl hK hP hD (ci := 4) (q0 := (11 + (4 + 60))) rfl (gw_obj (by omega))) rfl rfl hl.1 rfl (lv_room (Nat.le_of_ble_eq_true rfl)) dG_remove_16 ⟨Nat.zero_le _, Nat.zero_le _⟩) (fun r7 u8 H locs hw9 hP hD hS => ?_)
  subst hw9
  have hP : va_P (dC, dI) rg_cl (gw_W ad fo fa ur cI cL cF cA (va_up rec 60 (va_cpy (rec (T b)) (rec 60) 0 0 24)) fp sp an nn (nI n) pt un uc (nI b) lc) H := hP
  have hD : va_D A (gw_W ad fo fa ur cI cL cF cA (va_up rec 60 (va_cpy (rec (T b)) (rec 60) 0 0 24)) fp sp an nn (nI n) pt un uc (nI b) lc) := hD
  refine rg_ifz_ne (tgt := 32) hx hb dG_remove_19 (by decide) (fun h10 => absurd ((rg_isR_no hx0).symm.trans h10) (by decide)) (fun h10 => ?_)
  rw [hQ]
  exact rx_throw (cls := "java/lang/IndexOutOfBoundsException") (text := "no int at this place") (va_up rec 60 (va_cpy (rec (T b)) (rec 60) 0 0 24), fp, sp, an, nn, nI n, pt, un, uc, nI b, lc) (⟨rfl, gw_Rep_rec hrep (fun r9 h9 => rg_upn _ _ (by have h9 : r9 < n := h9; omega))⟩) rfl hx hb hlt hown hts hT hno (by decide +kernel) rx_clB rx_itB rx_inB rx_bdB rx_gdB (by decide +kernel) hK hP hD hS (hl.1.trans hml.symm) dG_remove_22 dG_remove_25 dG_remove_26 dG_remove_28 dG_remove_31 (by rw [hR]; exact Nat.le_of_ble_eq_true rfl) (by rw [hR]; exact Nat.le_of_ble_eq_true rfl) (by rw [hR]; exact Nat.le_of_ble_eq_true rfl) (by rw [hR]; exact Nat.le_of_ble_eq_true rfl) hlk (Nat.le_of_ble_eq_true rfl) (Nat.le_of_ble_eq_true rfl)
