theorem gw_Rep_c {rec : Nat → Nat → Int64} {fp sp : Nat → Int32} {an : Nat → Int64} {cnt pr lc c lc' c' : Int32} {pt uc : Nat → Int32} {un : Nat → Nat → Int32} {n : Nat} {R : Nat → rg_R} {P Q : Nat → Int32} {T : Nat → Nat} {U : Nat → List Nat} {B : Nat} (h : gw_Rep rec fp sp an cnt pt un uc pr lc (n, R, P, Q, T, U, B, c)) (e : lc' = c') : gw_Rep rec fp sp an cnt pt un uc pr lc' (n, R, P, Q, T, U, B, c') :=
  ⟨h.1, h.2.1, h.2.2.1, e, h.2.2.2.2⟩
set_option maxHeartbeats 4000000 in
set_option maxRecDepth 100000 in
theorem c_G_draftJoined_2 {l : Launch} {dC : Nat → ClassId} {dI : Nat → Nat → Nat} {ad fo fa ur : Nat → Nat} {cI cL cF cA : ClassId} {rec : Nat → Nat → Int64} {fp : Nat → Int32} {sp : Nat → Int32} {an : Nat → Int64} {nn : Nat → Int32} {pt : Nat → Int32} {un : Nat → Nat → Int32} {uc : Nat → Int32} {lc : Int32} (n b : Nat) (Rr : Nat → rg_R) (P1 P2 : Nat → Int32) (T : Nat → Nat) (U : Nat → List Nat) (j s9 : Nat) (hj4 : j < 4) (hs3 : s9 < 3) (hs : s9 = 2) (hrep : gw_Rep rec fp sp an (nI n) pt un uc (nI b) lc (n, Rr, P1, P2, T, U, b, lc)) : rx_M l yG_draftJoined (Cond.code yG_draftJoined prog_1_method_24_code 7 (some .int) :: rg_tbl) { frames := 5, cells := 16, slots := 64, locals := 133 } (dC, dI) rg_cl (gw_tys cI cL cF cA) (gw_W ad fo fa ur cI cL cF cA rec fp sp an nn (nI n) pt un uc (nI b) lc) [.ref ((ad 0)), .int (nI (T b)), .int (nI (T j)), .int (nI s9)] (rg_QI (dC, dI) rg_cl (gw_tys cI cL cF cA) (S := (Nat → Int64)) (fun z u => z = rg_mc (Rr (rg_base P1 P2 (T b) (T j))) (Rr (T b)) (Rr (T j)) 2 ∧ rg_CR u (rg_mg (Rr (rg_base P1 P2 (T b) (T j))) (Rr (T b)) (Rr (T j)) s9)) (fun u => gw_W ad fo fa ur cI cL cF cA (va_up rec 60 u) fp sp an nn (nI n) pt un uc (nI b) lc)) (rx_X (dC, dI) rg_cl (gw_tys cI cL cF cA) (S := Unit) (fun _ _ => False) (fun _ => gw_W ad fo fa ur cI cL cF cA rec fp sp an nn (nI n) pt un uc (nI b) lc)) 16 64 := by
  refine rx_of prog_1_method_24_code 7 (some .int) (by decide) rfl (Nat.le_of_ble_eq_true rfl) ?_
  intro p e R s m args below meth c Q A H locs ls hR hQ hx hb hml hr hts hown hlk hnm hno hT hP hK hD hA hS hl
  have hl : lv_has ls 7 [(0, .ref ((ad 0))), (1, .int (nI (T b))), (2, .int (nI (T j))), (3, .int (nI s9))] := hl
  have hts : ∀ w ∈ rg_tbl, w.before args s = true := fun w h => hts w (List.mem_cons_of_mem _ h)
  have hok := hrep.1
  have hn1 : 1 ≤ n := hok.1
  have hn60 : n ≤ 60 := hok.2.1
  have hb4 : b < 4 := hok.2.2.2.2.2.2.2.1
  have hTb : T b < n := (hok.2.2.2.2.2.2.1 b hb4).1
  have hpt : pt b = nI (T b) := (hrep.2.2.2.2.2.2 b hb4).1
  have hyc : rg_CR (rec (T b)) (Rr (T b)) := hrep.2.2.2.2.1 (T b) hTb
  have hpj : pt j = nI (T j) := (hrep.2.2.2.2.2.2 j hj4).1
  have hTj : T j < n := (hok.2.2.2.2.2.2.1 j hj4).1
  have hzc : rg_CR (rec (T j)) (Rr (T j)) := hrep.2.2.2.2.1 (T j) hTj
  refine lv_aload_n hx hb dG_draftJoined_0 rfl (lv_at hl 0 rfl) ?_
  refine va_get (D := (dC, dI)) (ci := 1) (C := "RevisionGrove") (T := TG) (N := 4) hx hb hts inG hown hK hP 0 rfl rfl 0 (by decide) (hts _ tw_86) (fun _ h9 => h9) rfl dG_draftJoined_1 ?_
  refine lv_aload_n hx hb dG_draftJoined_4 rfl (lv_at hl 0 rfl) ?_
  refine va_get (D := (dC, dI)) (ci := 1) (C := "RevisionGrove") (T := TG) (N := 4) hx hb hts inG hown hK hP 0 rfl rfl 0 (by decide) (hts _ tw_86) (fun _ h9 => h9) rfl dG_draftJoined_5 ?_
  refine lv_iload_n hx hb dG_draftJoined_8 rfl (lv_at hl 1 rfl) ?_
  refine lv_iload_n hx hb dG_draftJoined_9 rfl (lv_at hl 2 rfl) ?_
  refine rg_calli hD hS hA (va_runV (As := [.int (nI (T b)), .int (nI (T j))]) (rest := [.ref ((ad 1))]) ⟨hx, hb, hml, hown, hts⟩ (c_R_latestShared (T b) (T j) (by omega) (by omega) P1 P2 (hrep.2.2.2.2.2.1 (T b) hTb).2.2 (hrep.2.2.2.2.2.1 (T j) hTj).2.2 (rg_An_0 (rg_Ok_Pr hok) _ hTb) (rg_An_0 (rg_Ok_Pr hok) _ hTj) _) (cwV 2 hts (rg_gV tw_476 tw_477 tw_478 tw_2 tw_479) rfl rfl rfl (by decide +kernel) ⟨by rw [hR]; exact Nat.le_of_ble_eq_true rfl, by rw [hR]; exact Nat.le_of_ble_eq_true rfl⟩) (rg_preV rfl hK hP hD (ci := 2) (q0 := 1) rfl rfl) rfl rfl hl.1 rfl (lv_room (Nat.le_of_ble_eq_true rfl)) dG_draftJoined_10 ⟨Nat.zero_le _, Nat.zero_le _⟩) (fun r1 u2 H locs hw3 hP hD hS => ?_)
  obtain ⟨q4, rfl, hbs⟩ := hw3
  have hP : va_P (dC, dI) rg_cl (gw_W ad fo fa ur cI cL cF cA rec fp sp an nn (nI n) pt un uc (nI b) lc) H := hP
  have hD : va_D A (gw_W ad fo fa ur cI cL cF cA rec fp sp an nn (nI n) pt un uc (nI b) lc) := hD
  have hba := rg_base_eq hbs
  have hb60 : q4 < n := by have h9 := rg_An_le hbs.1; omega
  have hxc : rg_CR (rec q4) (Rr q4) := hrep.2.2.2.2.1 q4 hb60
  refine rg_calla hD hS hA (va_runV (As := [.int (nI q4)]) (rest := []) ⟨hx, hb, hml, hown, hts⟩ (c_R_fields q4 (by omega) _) (cwV 1 hts (rg_gV tw_239 tw_240 tw_241 tw_2 tw_242) rfl rfl rfl (by decide +kernel) ⟨by rw [hR]; exact Nat.le_of_ble_eq_true rfl, by rw [hR]; exact Nat.le_of_ble_eq_true rfl⟩) (rg_preV rfl hK hP hD (ci := 2) (q0 := 1) rfl rfl) rfl rfl hl.1 rfl (lv_room (Nat.le_of_ble_eq_true rfl)) dG_draftJoined_13 ⟨Nat.zero_le _, Nat.zero_le _⟩) (fun H locs hP hD hS => ?_)
  have hP : va_P (dC, dI) rg_cl (gw_W ad fo fa ur cI cL cF cA rec fp sp an nn (nI n) pt un uc (nI b) lc) H := hP
  have hD : va_D A (gw_W ad fo fa ur cI cL cF cA rec fp sp an nn (nI n) pt un uc (nI b) lc) := hD
  refine lv_astore (lv' := [(4, .ref ((fo q4))), (0, .ref ((ad 0))), (1, .int (nI (T b))), (2, .int (nI (T j))), (3, .int (nI s9))]) hx hb dG_draftJoined_16 hl (by decide) rfl (fun ls hl => ?_)
  refine lv_aload_n hx hb dG_draftJoined_18 rfl (lv_at hl 1 rfl) ?_
  refine va_get (D := (dC, dI)) (ci := 1) (C := "RevisionGrove") (T := TG) (N := 4) hx hb hts inG hown hK hP 0 rfl rfl 0 (by decide) (hts _ tw_86) (fun _ h9 => h9) rfl dG_draftJoined_19 ?_
  refine lv_iload_n hx hb dG_draftJoined_22 rfl (lv_at hl 2 rfl) ?_
  refine rg_calla hD hS hA (va_runV (As := [.int (nI (T b))]) (rest := []) ⟨hx, hb, hml, hown, hts⟩ (c_R_fields (T b) (by omega) _) (cwV 1 hts (rg_gV tw_239 tw_240 tw_241 tw_2 tw_242) rfl rfl rfl (by decide +kernel) ⟨by rw [hR]; exact Nat.le_of_ble_eq_true rfl, by rw [hR]; exact Nat.le_of_ble_eq_true rfl⟩) (rg_preV rfl hK hP hD (ci := 2) (q0 := 1) rfl rfl) rfl rfl hl.1 rfl (lv_room (Nat.le_of_ble_eq_true rfl)) dG_draftJoined_23 ⟨Nat.zero_le _, Nat.zero_le _⟩) (fun H locs hP hD hS => ?_)
  have hP : va_P (dC, dI) rg_cl (gw_W ad fo fa ur cI cL cF cA rec fp sp an nn (nI n) pt un uc (nI b) lc) H := hP
  have hD : va_D A (gw_W ad fo fa ur cI cL cF cA rec fp sp an nn (nI n) pt un uc (nI b) lc) := hD
  refine lv_astore (lv' := [(5, .ref ((fo (T b)))), (4, .ref ((fo q4))), (0, .ref ((ad 0))), (1, .int (nI (T b))), (2, .int (nI (T j))), (3, .int (nI s9))]) hx hb dG_draftJoined_26 hl (by decide) rfl (fun ls hl => ?_)
  refine lv_aload_n hx hb dG_draftJoined_28 rfl (lv_at hl 2 rfl) ?_
  refine va_get (D := (dC, dI)) (ci := 1) (C := "RevisionGrove") (T := TG) (N := 4) hx hb hts inG hown hK hP 0 rfl rfl 0 (by decide) (hts _ tw_86) (fun _ h9 => h9) rfl dG_draftJoined_29 ?_
  refine lv_iload_n hx hb dG_draftJoined_32 rfl (lv_at hl 4 rfl) ?_
  refine rg_calla hD hS hA (va_runV (As := [.int (nI (T j))]) (rest := []) ⟨hx, hb, hml, hown, hts⟩ (c_R_fields (T j) (by omega) _) (cwV 1 hts (rg_gV tw_239 tw_240 tw_241 tw_2 tw_242) rfl rfl rfl (by decide +kernel) ⟨by rw [hR]; exact Nat.le_of_ble_eq_true rfl, by rw [hR]; exact Nat.le_of_ble_eq_true rfl⟩) (rg_preV rfl hK hP hD (ci := 2) (q0 := 1) rfl rfl) rfl rfl hl.1 rfl (lv_room (Nat.le_of_ble_eq_true rfl)) dG_draftJoined_33 ⟨Nat.zero_le _, Nat.zero_le _⟩) (fun H locs hP hD hS => ?_)
  have hP : va_P (dC, dI) rg_cl (gw_W ad fo fa ur cI cL cF cA rec fp sp an nn (nI n) pt un uc (nI b) lc) H := hP
  have hD : va_D A (gw_W ad fo fa ur cI cL cF cA rec fp sp an nn (nI n) pt un uc (nI b) lc) := hD
  refine lv_astore (lv' := [(6, .ref ((fo (T j)))), (5, .ref ((fo (T b)))), (4, .ref ((fo q4))), (0, .ref ((ad 0))), (1, .int (nI (T b))), (2, .int (nI (T j))), (3, .int (nI s9))]) hx hb dG_draftJoined_36 hl (by decide) rfl (fun ls hl => ?_)
  refine lv_aload_n hx hb dG_draftJoined_38 rfl (lv_at hl 3 rfl) ?_
  refine va_get (D := (dC, dI)) (ci := 1) (C := "RevisionGrove") (T := TG) (N := 4) hx hb hts inG hown hK hP 0 rfl rfl 2 (by decide) (hts _ tw_88) (fun _ h9 => h9) rfl dG_draftJoined_39 ?_
  refine lv_aload hx hb dG_draftJoined_42 (lv_at hl 2 rfl) ?_
  refine lv_aload hx hb dG_draftJoined_44 (lv_at hl 1 rfl) ?_
  refine lv_aload hx hb dG_draftJoined_46 (lv_at hl 0 rfl) ?_
  refine lv_iload_n hx hb dG_draftJoined_48 rfl (lv_at hl 6 rfl) ?_
  refine lv_iconst (v := nI 2) hx hb dG_draftJoined_49 (by decide) ?_
  refine rg_icmp_ne (tgt := 58) hx hb dG_draftJoined_50 (by decide) (by omega) (by omega) (fun h14 => by exfalso; omega) (fun h14 => ?_)
  refine lv_aload hx hb dG_draftJoined_53 (lv_at hl 0 rfl) ?_
  refine lv_goto (tgt := 60) hx hb dG_draftJoined_55 (by decide) ?_
  refine rx_calli hQ (fun _ _ h9 => h9.elim) hno hlk hD hS hA (Nat.le_of_ble_eq_true rfl) (Nat.le_of_ble_eq_true rfl) (vx_runS (As := [.ref ((fo 60)), .ref ((fo q4)), .ref ((fo (T b))), .ref ((fo (T j))), .ref ((fo (T j)))]) (rest := []) ⟨hx, hb, hml, hown, hts⟩ (c_J_join q4 (T b) (T j) (T j) s9 (by omega) (by omega) (by omega) (by omega) (Rr q4) (Rr (T b)) (Rr (T j)) hxc hyc hzc (by rw [if_pos hs]; exact hzc) _) (va_cwS 5 hts (rg_gSx tw_483 tw_484 tw_15 tw_485) rfl rfl rfl (by decide +kernel) ⟨(by rw [hR]; exact Nat.le_of_ble_eq_true rfl), (by rw [hR]; exact Nat.le_of_ble_eq_true rfl)⟩) (rx_preS rfl hT hS hA hK hP hD) rfl rfl hl.1 rfl (lv_room (Nat.le_of_ble_eq_true rfl)) dG_draftJoined_60 ⟨(by rw [hR]; exact Nat.le_of_ble_eq_true rfl), (by rw [hR]; exact Nat.le_of_ble_eq_true rfl)⟩) (fun r9 u9 H locs hw9 hP hD hS => ?_)
  obtain ⟨hz9, hu9⟩ := hw9
  subst hz9
  have hP : va_P (dC, dI) rg_cl (gw_W ad fo fa ur cI cL cF cA (va_up rec 60 u9) fp sp an nn (nI n) pt un uc (nI b) lc) H := hP
  have hD : va_D A (gw_W ad fo fa ur cI cL cF cA (va_up rec 60 u9) fp sp an nn (nI n) pt un uc (nI b) lc) := hD
  rw [hQ]
  exact rx_ret (by first | exact Nat.zero_le _ | omega) (by first | exact Nat.zero_le _ | omega) (rg_iret hx hb hr hlk hK hP hD hS dG_draftJoined_63 u9 rfl (⟨by rw [hba], by rw [hba]; exact hu9⟩))
set_option maxHeartbeats 4000000 in
set_option maxRecDepth 100000 in
theorem c_G_draftJoined_n {l : Launch} {dC : Nat → ClassId} {dI : Nat → Nat → Nat} {ad fo fa ur : Nat → Nat} {cI cL cF cA : ClassId} {rec : Nat → Nat → Int64} {fp : Nat → Int32} {sp : Nat → Int32} {an : Nat → Int64} {nn : Nat → Int32} {pt : Nat → Int32} {un : Nat → Nat → Int32} {uc : Nat → Int32} {lc : Int32} (n b : Nat) (Rr : Nat → rg_R) (P1 P2 : Nat → Int32) (T : Nat → Nat) (U : Nat → List Nat) (j s9 : Nat) (hj4 : j < 4) (hs3 : s9 < 3) (hs : ¬ s9 = 2) (hrep : gw_Rep rec fp sp an (nI n) pt un uc (nI b) lc (n, Rr, P1, P2, T, U, b, lc)) : rx_M l yG_draftJoined (Cond.code yG_draftJoined prog_1_method_24_code 7 (some .int) :: rg_tbl) { frames := 5, cells := 16, slots := 64, locals := 133 } (dC, dI) rg_cl (gw_tys cI cL cF cA) (gw_W ad fo fa ur cI cL cF cA rec fp sp an nn (nI n) pt un uc (nI b) lc) [.ref ((ad 0)), .int (nI (T b)), .int (nI (T j)), .int (nI s9)] (rg_QI (dC, dI) rg_cl (gw_tys cI cL cF cA) (S := (Nat → Int64)) (fun z u => z = rg_mc (Rr (rg_base P1 P2 (T b) (T j))) (Rr (T b)) (Rr (T j)) 2 ∧ rg_CR u (rg_mg (Rr (rg_base P1 P2 (T b) (T j))) (Rr (T b)) (Rr (T j)) s9)) (fun u => gw_W ad fo fa ur cI cL cF cA (va_up rec 60 u) fp sp an nn (nI n) pt un uc (nI b) lc)) (rx_X (dC, dI) rg_cl (gw_tys cI cL cF cA) (S := Unit) (fun _ _ => False) (fun _ => gw_W ad fo fa ur cI cL cF cA rec fp sp an nn (nI n) pt un uc (nI b) lc)) 16 64 := by
  refine rx_of prog_1_method_24_code 7 (some .int) (by decide) rfl (Nat.le_of_ble_eq_true rfl) ?_
  intro p e R s m args below meth c Q A H locs ls hR hQ hx hb hml hr hts hown hlk hnm hno hT hP hK hD hA hS hl
  have hl : lv_has ls 7 [(0, .ref ((ad 0))), (1, .int (nI (T b))), (2, .int (nI (T j))), (3, .int (nI s9))] := hl
  have hts : ∀ w ∈ rg_tbl, w.before args s = true := fun w h => hts w (List.mem_cons_of_mem _ h)
  have hok := hrep.1
  have hn1 : 1 ≤ n := hok.1
  have hn60 : n ≤ 60 := hok.2.1
  have hb4 : b < 4 := hok.2.2.2.2.2.2.2.1
  have hTb : T b < n := (hok.2.2.2.2.2.2.1 b hb4).1
  have hpt : pt b = nI (T b) := (hrep.2.2.2.2.2.2 b hb4).1
  have hyc : rg_CR (rec (T b)) (Rr (T b)) := hrep.2.2.2.2.1 (T b) hTb
  have hpj : pt j = nI (T j) := (hrep.2.2.2.2.2.2 j hj4).1
  have hTj : T j < n := (hok.2.2.2.2.2.2.1 j hj4).1
  have hzc : rg_CR (rec (T j)) (Rr (T j)) := hrep.2.2.2.2.1 (T j) hTj
  refine lv_aload_n hx hb dG_draftJoined_0 rfl (lv_at hl 0 rfl) ?_
  refine va_get (D := (dC, dI)) (ci := 1) (C := "RevisionGrove") (T := TG) (N := 4) hx hb hts inG hown hK hP 0 rfl rfl 0 (by decide) (hts _ tw_86) (fun _ h9 => h9) rfl dG_draftJoined_1 ?_
  refine lv_aload_n hx hb dG_draftJoined_4 rfl (lv_at hl 0 rfl) ?_
  refine va_get (D := (dC, dI)) (ci := 1) (C := "RevisionGrove") (T := TG) (N := 4) hx hb hts inG hown hK hP 0 rfl rfl 0 (by decide) (hts _ tw_86) (fun _ h9 => h9) rfl dG_draftJoined_5 ?_
  refine lv_iload_n hx hb dG_draftJoined_8 rfl (lv_at hl 1 rfl) ?_
  refine lv_iload_n hx hb dG_draftJoined_9 rfl (lv_at hl 2 rfl) ?_
  refine rg_calli hD hS hA (va_runV (As := [.int (nI (T b)), .int (nI (T j))]) (rest := [.ref ((ad 1))]) ⟨hx, hb, hml, hown, hts⟩ (c_R_latestShared (T b) (T j) (by omega) (by omega) P1 P2 (hrep.2.2.2.2.2.1 (T b) hTb).2.2 (hrep.2.2.2.2.2.1 (T j) hTj).2.2 (rg_An_0 (rg_Ok_Pr hok) _ hTb) (rg_An_0 (rg_Ok_Pr hok) _ hTj) _) (cwV 2 hts (rg_gV tw_476 tw_477 tw_478 tw_2 tw_479) rfl rfl rfl (by decide +kernel) ⟨by rw [hR]; exact Nat.le_of_ble_eq_true rfl, by rw [hR]; exact Nat.le_of_ble_eq_true rfl⟩) (rg_preV rfl hK hP hD (ci := 2) (q0 := 1) rfl rfl) rfl rfl hl.1 rfl (lv_room (Nat.le_of_ble_eq_true rfl)) dG_draftJoined_10 ⟨Nat.zero_le _, Nat.zero_le _⟩) (fun r1 u2 H locs hw3 hP hD hS => ?_)
  obtain ⟨q4, rfl, hbs⟩ := hw3
  have hP : va_P (dC, dI) rg_cl (gw_W ad fo fa ur cI cL cF cA rec fp sp an nn (nI n) pt un uc (nI b) lc) H := hP
  have hD : va_D A (gw_W ad fo fa ur cI cL cF cA rec fp sp an nn (nI n) pt un uc (nI b) lc) := hD
  have hba := rg_base_eq hbs
  have hb60 : q4 < n := by have h9 := rg_An_le hbs.1; omega
  have hxc : rg_CR (rec q4) (Rr q4) := hrep.2.2.2.2.1 q4 hb60
  refine rg_calla hD hS hA (va_runV (As := [.int (nI q4)]) (rest := []) ⟨hx, hb, hml, hown, hts⟩ (c_R_fields q4 (by omega) _) (cwV 1 hts (rg_gV tw_239 tw_240 tw_241 tw_2 tw_242) rfl rfl rfl (by decide +kernel) ⟨by rw [hR]; exact Nat.le_of_ble_eq_true rfl, by rw [hR]; exact Nat.le_of_ble_eq_true rfl⟩) (rg_preV rfl hK hP hD (ci := 2) (q0 := 1) rfl rfl) rfl rfl hl.1 rfl (lv_room (Nat.le_of_ble_eq_true rfl)) dG_draftJoined_13 ⟨Nat.zero_le _, Nat.zero_le _⟩) (fun H locs hP hD hS => ?_)
  have hP : va_P (dC, dI) rg_cl (gw_W ad fo fa ur cI cL cF cA rec fp sp an nn (nI n) pt un uc (nI b) lc) H := hP
  have hD : va_D A (gw_W ad fo fa ur cI cL cF cA rec fp sp an nn (nI n) pt un uc (nI b) lc) := hD
  refine lv_astore (lv' := [(4, .ref ((fo q4))), (0, .ref ((ad 0))), (1, .int (nI (T b))), (2, .int (nI (T j))), (3, .int (nI s9))]) hx hb dG_draftJoined_16 hl (by decide) rfl (fun ls hl => ?_)
  refine lv_aload_n hx hb dG_draftJoined_18 rfl (lv_at hl 1 rfl) ?_
  refine va_get (D := (dC, dI)) (ci := 1) (C := "RevisionGrove") (T := TG) (N := 4) hx hb hts inG hown hK hP 0 rfl rfl 0 (by decide) (hts _ tw_86) (fun _ h9 => h9) rfl dG_draftJoined_19 ?_
  refine lv_iload_n hx hb dG_draftJoined_22 rfl (lv_at hl 2 rfl) ?_
  refine rg_calla hD hS hA (va_runV (As := [.int (nI (T b))]) (rest := []) ⟨hx, hb, hml, hown, hts⟩ (c_R_fields (T b) (by omega) _) (cwV 1 hts (rg_gV tw_239 tw_240 tw_241 tw_2 tw_242) rfl rfl rfl (by decide +kernel) ⟨by rw [hR]; exact Nat.le_of_ble_eq_true rfl, by rw [hR]; exact Nat.le_of_ble_eq_true rfl⟩) (rg_preV rfl hK hP hD (ci := 2) (q0 := 1) rfl rfl) rfl rfl hl.1 rfl (lv_room (Nat.le_of_ble_eq_true rfl)) dG_draftJoined_23 ⟨Nat.zero_le _, Nat.zero_le _⟩) (fun H locs hP hD hS => ?_)
  have hP : va_P (dC, dI) rg_cl (gw_W ad fo fa ur cI cL cF cA rec fp sp an nn (nI n) pt un uc (nI b) lc) H := hP
  have hD : va_D A (gw_W ad fo fa ur cI cL cF cA rec fp sp an nn (nI n) pt un uc (nI b) lc) := hD
  refine lv_astore (lv' := [(5, .ref ((fo (T b)))), (4, .ref ((fo q4))), (0, .ref ((ad 0))), (1, .int (nI (T b))), (2, .int (nI (T j))), (3, .int (nI s9))]) hx hb dG_draftJoined_26 hl (by decide) rfl (fun ls hl => ?_)
  refine lv_aload_n hx hb dG_draftJoined_28 rfl (lv_at hl 2 rfl) ?_
  refine va_get (D := (dC, dI)) (ci := 1) (C := "RevisionGrove") (T := TG) (N := 4) hx hb hts inG hown hK hP 0 rfl rfl 0 (by decide) (hts _ tw_86) (fun _ h9 => h9) rfl dG_draftJoined_29 ?_
  refine lv_iload_n hx hb dG_draftJoined_32 rfl (lv_at hl 4 rfl) ?_
  refine rg_calla hD hS hA (va_runV (As := [.int (nI (T j))]) (rest := []) ⟨hx, hb, hml, hown, hts⟩ (c_R_fields (T j) (by omega) _) (cwV 1 hts (rg_gV tw_239 tw_240 tw_241 tw_2 tw_242) rfl rfl rfl (by decide +kernel) ⟨by rw [hR]; exact Nat.le_of_ble_eq_true rfl, by rw [hR]; exact Nat.le_of_ble_eq_true rfl⟩) (rg_preV rfl hK hP hD (ci := 2) (q0 := 1) rfl rfl) rfl rfl hl.1 rfl (lv_room (Nat.le_of_ble_eq_true rfl)) dG_draftJoined_33 ⟨Nat.zero_le _, Nat.zero_le _⟩) (fun H locs hP hD hS => ?_)
  have hP : va_P (dC, dI) rg_cl (gw_W ad fo fa ur cI cL cF cA rec fp sp an nn (nI n) pt un uc (nI b) lc) H := hP
  have hD : va_D A (gw_W ad fo fa ur cI cL cF cA rec fp sp an nn (nI n) pt un uc (nI b) lc) := hD
  refine lv_astore (lv' := [(6, .ref ((fo (T j)))), (5, .ref ((fo (T b)))), (4, .ref ((fo q4))), (0, .ref ((ad 0))), (1, .int (nI (T b))), (2, .int (nI (T j))), (3, .int (nI s9))]) hx hb dG_draftJoined_36 hl (by decide) rfl (fun ls hl => ?_)
  refine lv_aload_n hx hb dG_draftJoined_38 rfl (lv_at hl 3 rfl) ?_
  refine va_get (D := (dC, dI)) (ci := 1) (C := "RevisionGrove") (T := TG) (N := 4) hx hb hts inG hown hK hP 0 rfl rfl 2 (by decide) (hts _ tw_88) (fun _ h9 => h9) rfl dG_draftJoined_39 ?_
  refine lv_aload hx hb dG_draftJoined_42 (lv_at hl 2 rfl) ?_
  refine lv_aload hx hb dG_draftJoined_44 (lv_at hl 1 rfl) ?_
  refine lv_aload hx hb dG_draftJoined_46 (lv_at hl 0 rfl) ?_
  refine lv_iload_n hx hb dG_draftJoined_48 rfl (lv_at hl 6 rfl) ?_
  refine lv_iconst (v := nI 2) hx hb dG_draftJoined_49 (by decide) ?_
  refine rg_icmp_ne (tgt := 58) hx hb dG_draftJoined_50 (by decide) (by omega) (by omega) (fun h14 => ?_) (fun h14 => by exfalso; omega)
  refine lv_aload hx hb dG_draftJoined_58 (lv_at hl 1 rfl) ?_
  refine rx_calli hQ (fun _ _ h9 => h9.elim) hno hlk hD hS hA (Nat.le_of_ble_eq_true rfl) (Nat.le_of_ble_eq_true rfl) (vx_runS (As := [.ref ((fo 60)), .ref ((fo q4)), .ref ((fo (T b))), .ref ((fo (T j))), .ref ((fo (T b)))]) (rest := []) ⟨hx, hb, hml, hown, hts⟩ (c_J_join q4 (T b) (T j) (T b) s9 (by omega) (by omega) (by omega) (by omega) (Rr q4) (Rr (T b)) (Rr (T j)) hxc hyc hzc (by rw [if_neg hs]; exact hyc) _) (va_cwS 5 hts (rg_gSx tw_483 tw_484 tw_15 tw_485) rfl rfl rfl (by decide +kernel) ⟨(by rw [hR]; exact Nat.le_of_ble_eq_true rfl), (by rw [hR]; exact Nat.le_of_ble_eq_true rfl)⟩) (rx_preS rfl hT hS hA hK hP hD) rfl rfl hl.1 rfl (lv_room (Nat.le_of_ble_eq_true rfl)) dG_draftJoined_60 ⟨(by rw [hR]; exact Nat.le_of_ble_eq_true rfl), (by rw [hR]; exact Nat.le_of_ble_eq_true rfl)⟩) (fun r9 u9 H locs hw9 hP hD hS => ?_)
  obtain ⟨hz9, hu9⟩ := hw9
  subst hz9
  have hP : va_P (dC, dI) rg_cl (gw_W ad fo fa ur cI cL cF cA (va_up rec 60 u9) fp sp an nn (nI n) pt un uc (nI b) lc) H := hP
  have hD : va_D A (gw_W ad fo fa ur cI cL cF cA (va_up rec 60 u9) fp sp an nn (nI n) pt un uc (nI b) lc) := hD
  rw [hQ]
  exact rx_ret (by first | exact Nat.zero_le _ | omega) (by first | exact Nat.zero_le _ | omega) (rg_iret hx hb hr hlk hK hP hD hS dG_draftJoined_63 u9 rfl (⟨by rw [hba], by rw [hba]; exact hu9⟩))
set_option maxRecDepth 100000 in
theorem c_G_draftJoined {l : Launch} {dC : Nat → ClassId} {dI : Nat → Nat → Nat} {ad fo fa ur : Nat → Nat} {cI cL cF cA : ClassId} {rec : Nat → Nat → Int64} {fp : Nat → Int32} {sp : Nat → Int32} {an : Nat → Int64} {nn : Nat → Int32} {pt : Nat → Int32} {un : Nat → Nat → Int32} {uc : Nat → Int32} {lc : Int32} (n b : Nat) (Rr : Nat → rg_R) (P1 P2 : Nat → Int32) (T : Nat → Nat) (U : Nat → List Nat) (j s9 : Nat) (hj4 : j < 4) (hs3 : s9 < 3) (hrep : gw_Rep rec fp sp an (nI n) pt un uc (nI b) lc (n, Rr, P1, P2, T, U, b, lc)) : rx_M l yG_draftJoined (Cond.code yG_draftJoined prog_1_method_24_code 7 (some .int) :: rg_tbl) { frames := 5, cells := 16, slots := 64, locals := 133 } (dC, dI) rg_cl (gw_tys cI cL cF cA) (gw_W ad fo fa ur cI cL cF cA rec fp sp an nn (nI n) pt un uc (nI b) lc) [.ref ((ad 0)), .int (nI (T b)), .int (nI (T j)), .int (nI s9)] (rg_QI (dC, dI) rg_cl (gw_tys cI cL cF cA) (S := (Nat → Int64)) (fun z u => z = rg_mc (Rr (rg_base P1 P2 (T b) (T j))) (Rr (T b)) (Rr (T j)) 2 ∧ rg_CR u (rg_mg (Rr (rg_base P1 P2 (T b) (T j))) (Rr (T b)) (Rr (T j)) s9)) (fun u => gw_W ad fo fa ur cI cL cF cA (va_up rec 60 u) fp sp an nn (nI n) pt un uc (nI b) lc)) (rx_X (dC, dI) rg_cl (gw_tys cI cL cF cA) (S := Unit) (fun _ _ => False) (fun _ => gw_W ad fo fa ur cI cL cF cA rec fp sp an nn (nI n) pt un uc (nI b) lc)) 16 64 := by
  by_cases hs : s9 = 2
  · exact c_G_draftJoined_2 n b Rr P1 P2 T U j s9 hj4 hs3 hs hrep
  · exact c_G_draftJoined_n n b Rr P1 P2 T U j s9 hj4 hs3 hs hrep
