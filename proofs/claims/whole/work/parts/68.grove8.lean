set_option maxHeartbeats 4000000 in
set_option maxRecDepth 100000 in
theorem c_G_undo_x {l : Launch} {dC : Nat → ClassId} {dI : Nat → Nat → Nat} {ad fo fa ur : Nat → Nat} {cI cL cF cA : ClassId} {rec : Nat → Nat → Int64} {fp : Nat → Int32} {sp : Nat → Int32} {an : Nat → Int64} {nn : Nat → Int32} {pt : Nat → Int32} {un : Nat → Nat → Int32} {uc : Nat → Int32} {lc : Int32} (hlt : l.stackTraces = false) (n b : Nat) (Rr : Nat → rg_R) (P1 P2 : Nat → Int32) (T : Nat → Nat) (U : Nat → List Nat) (hP1 : P1 (T b) = -1) (hrep : gw_Rep rec fp sp an (nI n) pt un uc (nI b) lc (n, Rr, P1, P2, T, U, b, lc)) : rx_M l yG_undo (Cond.code yG_undo prog_1_method_10_code 2 (some .int) :: rg_tbl) { frames := 6, cells := 1, slots := 6, locals := 90 } (dC, dI) rg_cl (gw_tys cI cL cF cA) (gw_W ad fo fa ur cI cL cF cA rec fp sp an nn (nI n) pt un uc (nI b) lc) [.ref ((ad 0))] (rg_QI (dC, dI) rg_cl (gw_tys cI cL cF cA) (S := Unit) (fun _ _ => False) (fun _ => gw_W ad fo fa ur cI cL cF cA rec fp sp an nn (nI n) pt un uc (nI b) lc)) (rx_X (dC, dI) rg_cl (gw_tys cI cL cF cA) (S := gw_S) (gw_Px "java/util/NoSuchElementException" (n, Rr, P1, P2, T, U, b, lc)) (fun u => gw_Wu ad fo fa ur cI cL cF cA u)) 1 6 := by
  refine rx_of prog_1_method_10_code 2 (some .int) (by decide) rfl (Nat.le_of_ble_eq_true rfl) ?_
  intro p e R s m args below meth c Q A H locs ls hR hQ hx hb hml hr hts hown hlk hnm hno hT hP hK hD hA hS hl
  have hl : lv_has ls 2 [(0, .ref ((ad 0)))] := hl
  have hts : ∀ w ∈ rg_tbl, w.before args s = true := fun w h => hts w (List.mem_cons_of_mem _ h)
  have hok := hrep.1
  have hn1 : 1 ≤ n := hok.1
  have hn60 : n ≤ 60 := hok.2.1
  have hb4 : b < 4 := hok.2.2.2.2.2.2.2.1
  have hTb : T b < n := (hok.2.2.2.2.2.2.1 b hb4).1
  have hpt : pt b = nI (T b) := (hrep.2.2.2.2.2.2 b hb4).1
  have hyc : rg_CR (rec (T b)) (Rr (T b)) := hrep.2.2.2.2.1 (T b) hTb
  have hfp : fp (T b) = -1 := (hrep.2.2.2.2.2.1 (T b) hTb).1.trans hP1
  refine lv_aload_n hx hb dG_undo_0 rfl (lv_at hl 0 rfl) ?_
  refine va_get (D := (dC, dI)) (ci := 1) (C := "RevisionGrove") (T := TG) (N := 4) hx hb hts inG hown hK hP 0 rfl rfl 0 (by decide) (hts _ tw_86) (fun _ h9 => h9) rfl dG_undo_1 ?_
  refine lv_aload_n hx hb dG_undo_4 rfl (lv_at hl 0 rfl) ?_
  refine va_get (D := (dC, dI)) (ci := 1) (C := "RevisionGrove") (T := TG) (N := 4) hx hb hts inG hown hK hP 0 rfl rfl 1 (by decide) (hts _ tw_87) (fun _ h9 => h9) rfl dG_undo_5 ?_
  refine rg_calli hD hS hA (va_runV (As := []) (rest := [.ref ((ad 1))]) ⟨hx, hb, hml, hown, hts⟩ (c_B_presentRevision b (by omega) _) (cwV 0 hts (rg_gV tw_235 tw_236 tw_237 tw_4 tw_238) rfl rfl rfl (by decide +kernel) ⟨by rw [hR]; exact Nat.le_of_ble_eq_true rfl, by rw [hR]; exact Nat.le_of_ble_eq_true rfl⟩) (rg_preV rfl hK hP hD (ci := 3) (q0 := 2) rfl rfl) rfl rfl hl.1 rfl (lv_room (Nat.le_of_ble_eq_true rfl)) dG_undo_8 ⟨Nat.zero_le _, Nat.zero_le _⟩) (fun r1 u2 H locs hw3 hP hD hS => ?_)
  subst hw3
  have hP : va_P (dC, dI) rg_cl (gw_W ad fo fa ur cI cL cF cA rec fp sp an nn (nI n) pt un uc (nI b) lc) H := hP
  have hD : va_D A (gw_W ad fo fa ur cI cL cF cA rec fp sp an nn (nI n) pt un uc (nI b) lc) := hD
  refine rg_top (show (.int (pt b) : Value) = .int (nI (T b)) by rw [hpt]) ?_
  refine rg_calli hD hS hA (va_runV (As := [.int (nI (T b))]) (rest := []) ⟨hx, hb, hml, hown, hts⟩ (c_R_firstParent (T b) (by omega) _) (cwV 1 hts (rg_gV tw_416 tw_417 tw_418 tw_2 tw_419) rfl rfl rfl (by decide +kernel) ⟨by rw [hR]; exact Nat.le_of_ble_eq_true rfl, by rw [hR]; exact Nat.le_of_ble_eq_true rfl⟩) (rg_preV rfl hK hP hD (ci := 2) (q0 := 1) rfl rfl) rfl rfl hl.1 rfl (lv_room (Nat.le_of_ble_eq_true rfl)) dG_undo_11 ⟨Nat.zero_le _, Nat.zero_le _⟩) (fun r4 u5 H locs hw6 hP hD hS => ?_)
  subst hw6
  have hP : va_P (dC, dI) rg_cl (gw_W ad fo fa ur cI cL cF cA rec fp sp an nn (nI n) pt un uc (nI b) lc) H := hP
  have hD : va_D A (gw_W ad fo fa ur cI cL cF cA rec fp sp an nn (nI n) pt un uc (nI b) lc) := hD
  refine rg_top (show (.int (fp (T b)) : Value) = .int ((-1)) by rw [hfp]) ?_
  refine lv_istore_n (lv' := [(1, .int ((-1))), (0, .ref ((ad 0)))]) hx hb dG_undo_14 rfl hl (by decide) rfl (fun ls hl => ?_)
  refine lv_iload_n hx hb dG_undo_15 rfl (lv_at hl 0 rfl) ?_
  refine lv_iconst (v := -1) hx hb dG_undo_16 (by decide) ?_
  refine lv_icmp_ne (tgt := 30) hx hb dG_undo_17 (by decide) (fun h7 => absurd rfl h7) (fun h7 => ?_)
  rw [hQ]
  exact rx_throwN (text := "nothing to undo") (rec, fp, sp, an, nn, nI n, pt, un, uc, nI b, lc) (⟨rfl, hrep⟩) rfl hx hb hlt hown hts hT hno (by decide +kernel) hK hP hD hS (hl.1.trans hml.symm) dG_undo_20 dG_undo_23 dG_undo_24 dG_undo_26 dG_undo_29 (by rw [hR]; exact Nat.le_of_ble_eq_true rfl) (by rw [hR]; exact Nat.le_of_ble_eq_true rfl) (by rw [hR]; exact Nat.le_of_ble_eq_true rfl) (by rw [hR]; exact Nat.le_of_ble_eq_true rfl) hlk (Nat.le_of_ble_eq_true rfl) (Nat.le_of_ble_eq_true rfl)
set_option maxHeartbeats 4000000 in
set_option maxRecDepth 100000 in
theorem c_G_redo_x {l : Launch} {dC : Nat → ClassId} {dI : Nat → Nat → Nat} {ad fo fa ur : Nat → Nat} {cI cL cF cA : ClassId} {rec : Nat → Nat → Int64} {fp : Nat → Int32} {sp : Nat → Int32} {an : Nat → Int64} {nn : Nat → Int32} {pt : Nat → Int32} {un : Nat → Nat → Int32} {uc : Nat → Int32} {lc : Int32} (hlt : l.stackTraces = false) (n b : Nat) (Rr : Nat → rg_R) (P1 P2 : Nat → Int32) (T : Nat → Nat) (U : Nat → List Nat) (hU0 : U b = []) (hrep : gw_Rep rec fp sp an (nI n) pt un uc (nI b) lc (n, Rr, P1, P2, T, U, b, lc)) : rx_M l yG_redo (Cond.code yG_redo prog_1_method_11_code 1 (some .int) :: rg_tbl) { frames := 6, cells := 1, slots := 6, locals := 90 } (dC, dI) rg_cl (gw_tys cI cL cF cA) (gw_W ad fo fa ur cI cL cF cA rec fp sp an nn (nI n) pt un uc (nI b) lc) [.ref ((ad 0))] (rg_QI (dC, dI) rg_cl (gw_tys cI cL cF cA) (S := Unit) (fun _ _ => False) (fun _ => gw_W ad fo fa ur cI cL cF cA rec fp sp an nn (nI n) pt un uc (nI b) lc)) (rx_X (dC, dI) rg_cl (gw_tys cI cL cF cA) (S := gw_S) (gw_Px "java/util/NoSuchElementException" (n, Rr, P1, P2, T, U, b, lc)) (fun u => gw_Wu ad fo fa ur cI cL cF cA u)) 1 6 := by
  refine rx_of prog_1_method_11_code 1 (some .int) (by decide) rfl (Nat.le_of_ble_eq_true rfl) ?_
  intro p e R s m args below meth c Q A H locs ls hR hQ hx hb hml hr hts hown hlk hnm hno hT hP hK hD hA hS hl
  have hl : lv_has ls 1 [(0, .ref ((ad 0)))] := hl
  have hts : ∀ w ∈ rg_tbl, w.before args s = true := fun w h => hts w (List.mem_cons_of_mem _ h)
  have hok := hrep.1
  have hn1 : 1 ≤ n := hok.1
  have hn60 : n ≤ 60 := hok.2.1
  have hb4 : b < 4 := hok.2.2.2.2.2.2.2.1
  have hTb : T b < n := (hok.2.2.2.2.2.2.1 b hb4).1
  have hpt : pt b = nI (T b) := (hrep.2.2.2.2.2.2 b hb4).1
  have hyc : rg_CR (rec (T b)) (Rr (T b)) := hrep.2.2.2.2.1 (T b) hTb
  have huc : uc b = nI 0 := by have h9 : uc b = nI (U b).length := (hrep.2.2.2.2.2.2 b hb4).2.1; rw [hU0] at h9; exact h9
  refine lv_aload_n hx hb dG_redo_0 rfl (lv_at hl 0 rfl) ?_
  refine va_get (D := (dC, dI)) (ci := 1) (C := "RevisionGrove") (T := TG) (N := 4) hx hb hts inG hown hK hP 0 rfl rfl 1 (by decide) (hts _ tw_87) (fun _ h9 => h9) rfl dG_redo_1 ?_
  refine rg_calli hD hS hA (va_runV (As := []) (rest := []) ⟨hx, hb, hml, hown, hts⟩ (c_B_undoneCount b (by omega) _) (cwV 0 hts (rg_gV tw_447 tw_448 tw_449 tw_4 tw_450) rfl rfl rfl (by decide +kernel) ⟨by rw [hR]; exact Nat.le_of_ble_eq_true rfl, by rw [hR]; exact Nat.le_of_ble_eq_true rfl⟩) (rg_preV rfl hK hP hD (ci := 3) (q0 := 2) rfl rfl) rfl rfl hl.1 rfl (lv_room (Nat.le_of_ble_eq_true rfl)) dG_redo_4 ⟨Nat.zero_le _, Nat.zero_le _⟩) (fun r1 u2 H locs hw3 hP hD hS => ?_)
  subst hw3
  have hP : va_P (dC, dI) rg_cl (gw_W ad fo fa ur cI cL cF cA rec fp sp an nn (nI n) pt un uc (nI b) lc) H := hP
  have hD : va_D A (gw_W ad fo fa ur cI cL cF cA rec fp sp an nn (nI n) pt un uc (nI b) lc) := hD
  refine rg_top (show (.int (uc b) : Value) = .int (nI 0) by rw [huc]) ?_
  refine rg_ifN_ne (tgt := 20) hx hb dG_redo_7 (by decide) (by decide) (fun h4 => by exfalso; omega) (fun h4 => ?_)
  rw [hQ]
  exact rx_throwN (text := "nothing to redo") (rec, fp, sp, an, nn, nI n, pt, un, uc, nI b, lc) (⟨rfl, hrep⟩) rfl hx hb hlt hown hts hT hno (by decide +kernel) hK hP hD hS (hl.1.trans hml.symm) dG_redo_10 dG_redo_13 dG_redo_14 dG_redo_16 dG_redo_19 (by rw [hR]; exact Nat.le_of_ble_eq_true rfl) (by rw [hR]; exact Nat.le_of_ble_eq_true rfl) (by rw [hR]; exact Nat.le_of_ble_eq_true rfl) (by rw [hR]; exact Nat.le_of_ble_eq_true rfl) hlk (Nat.le_of_ble_eq_true rfl) (Nat.le_of_ble_eq_true rfl)
