set_option maxHeartbeats 4000000 in
set_option maxRecDepth 100000 in
theorem c_G_requireKind {l : Launch} {dC : Nat → ClassId} {dI : Nat → Nat → Nat} {ad fo fa ur : Nat → Nat} {cI cL cF cA : ClassId} {rec : Nat → Nat → Int64} {fp : Nat → Int32} {sp : Nat → Int32} {an : Nat → Int64} {nn : Nat → Int32} {cnt : Int32} {pt : Nat → Int32} {un : Nat → Nat → Int32} {uc : Nat → Int32} {pr : Int32} {lc : Int32} (f q : Nat) (hq9 : q < 8) (hf9 : f = q ∨ f = q + 1) : rg_M l yG_requireKind (Cond.code yG_requireKind prog_1_method_20_code 2 none :: rg_tbl) { frames := 0, cells := 0, slots := 0, locals := 0 } (dC, dI) rg_cl (gw_tys cI cL cF cA) (gw_W ad fo fa ur cI cL cF cA rec fp sp an nn cnt pt un uc pr lc) [.int (nI f), .int (nI q)] (rg_QV (dC, dI) rg_cl (gw_tys cI cL cF cA) (S := Unit) (fun _ => True) (fun _ => gw_W ad fo fa ur cI cL cF cA rec fp sp an nn cnt pt un uc pr lc)) 0 0 := by
  refine rg_of prog_1_method_20_code 2 none (by decide) rfl (Nat.le_of_ble_eq_true rfl) ?_
  intro p e R s m args below meth c Q A H locs ls hR hQ hx hb hml hr hts hown hlk hnm hP hK hD hA hS hl
  have hl : lv_has ls 2 [(0, .int (nI f)), (1, .int (nI q))] := hl
  have hts : ∀ w ∈ rg_tbl, w.before args s = true := fun w h => hts w (List.mem_cons_of_mem _ h)
  refine lv_iload_n hx hb dG_requireKind_0 rfl (lv_at hl 0 rfl) ?_
  refine lv_iload_n hx hb dG_requireKind_1 rfl (lv_at hl 1 rfl) ?_
  refine rg_icmp_eq (tgt := 22) hx hb dG_requireKind_2 (by decide) (by omega) (by omega) (fun h1 => ?_) (fun h1 => ?_)
  · rw [hQ]
    exact rg_vret hx hb hr hlk hK hP hD hS dG_requireKind_22 () rfl (trivial)
  · refine lv_iload_n hx hb dG_requireKind_5 rfl (lv_at hl 0 rfl) ?_
    refine lv_iload_n hx hb dG_requireKind_6 rfl (lv_at hl 1 rfl) ?_
    refine lv_iconst (v := nI 1) hx hb dG_requireKind_7 (by decide) ?_
    refine rg_iadd hx hb dG_requireKind_8 ?_
    refine rg_icmp_eq (tgt := 22) hx hb dG_requireKind_9 (by decide) (by omega) (by omega) (fun h2 => ?_) (fun h2 => by exfalso; omega)
    rw [hQ]
    exact rg_vret hx hb hr hlk hK hP hD hS dG_requireKind_22 () rfl (trivial)
set_option maxHeartbeats 4000000 in
set_option maxRecDepth 100000 in
theorem c_G_requireKind_x {l : Launch} {dC : Nat → ClassId} {dI : Nat → Nat → Nat} {ad fo fa ur : Nat → Nat} {cI cL cF cA : ClassId} {rec : Nat → Nat → Int64} {fp : Nat → Int32} {sp : Nat → Int32} {an : Nat → Int64} {nn : Nat → Int32} {cnt : Int32} {pt : Nat → Int32} {un : Nat → Nat → Int32} {uc : Nat → Int32} {pr : Int32} {lc : Int32} (hlt : l.stackTraces = false) (f : Int32) (q : Nat) (hk0 : ¬ f = nI q) (hk1 : ¬ f = nI (q + 1)) : rx_M l yG_requireKind (Cond.code yG_requireKind prog_1_method_20_code 2 none :: rg_tbl) { frames := 6, cells := 1, slots := 6, locals := 90 } (dC, dI) rg_cl (gw_tys cI cL cF cA) (gw_W ad fo fa ur cI cL cF cA rec fp sp an nn cnt pt un uc pr lc) [.int f, .int (nI q)] (rg_QV (dC, dI) rg_cl (gw_tys cI cL cF cA) (S := Unit) (fun _ => False) (fun _ => gw_W ad fo fa ur cI cL cF cA rec fp sp an nn cnt pt un uc pr lc)) (rx_X (dC, dI) rg_cl (gw_tys cI cL cF cA) (S := Unit) (fun E _ => E = "java/lang/IllegalArgumentException") (fun _ => gw_W ad fo fa ur cI cL cF cA rec fp sp an nn cnt pt un uc pr lc)) 1 6 := by
  refine rx_of prog_1_method_20_code 2 none (by decide) rfl (Nat.le_of_ble_eq_true rfl) ?_
  intro p e R s m args below meth c Q A H locs ls hR hQ hx hb hml hr hts hown hlk hnm hno hT hP hK hD hA hS hl
  have hl : lv_has ls 2 [(0, .int f), (1, .int (nI q))] := hl
  have hts : ∀ w ∈ rg_tbl, w.before args s = true := fun w h => hts w (List.mem_cons_of_mem _ h)
  refine lv_iload_n hx hb dG_requireKind_0 rfl (lv_at hl 0 rfl) ?_
  refine lv_iload_n hx hb dG_requireKind_1 rfl (lv_at hl 1 rfl) ?_
  refine lv_icmp_eq (tgt := 22) hx hb dG_requireKind_2 (by decide) (fun h1 => absurd h1 hk0) (fun h1 => ?_)
  refine lv_iload_n hx hb dG_requireKind_5 rfl (lv_at hl 0 rfl) ?_
  refine lv_iload_n hx hb dG_requireKind_6 rfl (lv_at hl 1 rfl) ?_
  refine lv_iconst (v := nI 1) hx hb dG_requireKind_7 (by decide) ?_
  refine rg_iadd hx hb dG_requireKind_8 ?_
  refine lv_icmp_eq (tgt := 22) hx hb dG_requireKind_9 (by decide) (fun h2 => absurd h2 hk1) (fun h2 => ?_)
  rw [hQ]
  exact rx_throw (cls := "java/lang/IllegalArgumentException") (text := "no field of this kind") () (rfl) rfl hx hb hlt hown hts hT hno (by decide +kernel) rx_clA rx_itA rx_inA rx_bdA rx_gdA (by decide +kernel) hK hP hD hS (hl.1.trans hml.symm) dG_requireKind_12 dG_requireKind_15 dG_requireKind_16 dG_requireKind_18 dG_requireKind_21 (by rw [hR]; exact Nat.le_of_ble_eq_true rfl) (by rw [hR]; exact Nat.le_of_ble_eq_true rfl) (by rw [hR]; exact Nat.le_of_ble_eq_true rfl) (by rw [hR]; exact Nat.le_of_ble_eq_true rfl) hlk (Nat.le_of_ble_eq_true rfl) (Nat.le_of_ble_eq_true rfl)
set_option maxHeartbeats 4000000 in
set_option maxRecDepth 100000 in
theorem c_G_requireBranch {l : Launch} {dC : Nat → ClassId} {dI : Nat → Nat → Nat} {ad fo fa ur : Nat → Nat} {cI cL cF cA : ClassId} {rec : Nat → Nat → Int64} {fp : Nat → Int32} {sp : Nat → Int32} {an : Nat → Int64} {nn : Nat → Int32} {cnt : Int32} {pt : Nat → Int32} {un : Nat → Nat → Int32} {uc : Nat → Int32} {pr : Int32} {lc : Int32} (b : Nat) (hb4 : b < 4) : rg_M l yG_requireBranch (Cond.code yG_requireBranch prog_1_method_21_code 1 none :: rg_tbl) { frames := 0, cells := 0, slots := 0, locals := 0 } (dC, dI) rg_cl (gw_tys cI cL cF cA) (gw_W ad fo fa ur cI cL cF cA rec fp sp an nn cnt pt un uc pr lc) [.int (nI b)] (rg_QV (dC, dI) rg_cl (gw_tys cI cL cF cA) (S := Unit) (fun _ => True) (fun _ => gw_W ad fo fa ur cI cL cF cA rec fp sp an nn cnt pt un uc pr lc)) 0 0 := by
  refine rg_of prog_1_method_21_code 1 none (by decide) rfl (Nat.le_of_ble_eq_true rfl) ?_
  intro p e R s m args below meth c Q A H locs ls hR hQ hx hb hml hr hts hown hlk hnm hP hK hD hA hS hl
  have hl : lv_has ls 1 [(0, .int (nI b))] := hl
  have hts : ∀ w ∈ rg_tbl, w.before args s = true := fun w h => hts w (List.mem_cons_of_mem _ h)
  refine lv_iload_n hx hb dG_requireBranch_0 rfl (lv_at hl 0 rfl) ?_
  refine rg_ifN_lt (tgt := 9) hx hb dG_requireBranch_1 (by decide) (by omega) (fun h1 => h1.elim) (fun h1 => ?_)
  refine lv_iload_n hx hb dG_requireBranch_4 rfl (lv_at hl 0 rfl) ?_
  refine lv_iconst (v := nI 4) hx hb dG_requireBranch_5 (by decide) ?_
  refine rg_icmp_lt (tgt := 19) hx hb dG_requireBranch_6 (by decide) (by omega) (by omega) (fun h2 => ?_) (fun h2 => by exfalso; omega)
  rw [hQ]
  exact rg_vret hx hb hr hlk hK hP hD hS dG_requireBranch_19 () rfl (trivial)
set_option maxHeartbeats 4000000 in
set_option maxRecDepth 100000 in
theorem c_G_requireBranch_x {l : Launch} {dC : Nat → ClassId} {dI : Nat → Nat → Nat} {ad fo fa ur : Nat → Nat} {cI cL cF cA : ClassId} {rec : Nat → Nat → Int64} {fp : Nat → Int32} {sp : Nat → Int32} {an : Nat → Int64} {nn : Nat → Int32} {cnt : Int32} {pt : Nat → Int32} {un : Nat → Nat → Int32} {uc : Nat → Int32} {pr : Int32} {lc : Int32} (hlt : l.stackTraces = false) (x : Int32) (hB : rg_isB x = false) : rx_M l yG_requireBranch (Cond.code yG_requireBranch prog_1_method_21_code 1 none :: rg_tbl) { frames := 6, cells := 1, slots := 6, locals := 90 } (dC, dI) rg_cl (gw_tys cI cL cF cA) (gw_W ad fo fa ur cI cL cF cA rec fp sp an nn cnt pt un uc pr lc) [.int x] (rg_QV (dC, dI) rg_cl (gw_tys cI cL cF cA) (S := Unit) (fun _ => False) (fun _ => gw_W ad fo fa ur cI cL cF cA rec fp sp an nn cnt pt un uc pr lc)) (rx_X (dC, dI) rg_cl (gw_tys cI cL cF cA) (S := Unit) (fun E _ => E = "java/lang/IllegalArgumentException") (fun _ => gw_W ad fo fa ur cI cL cF cA rec fp sp an nn cnt pt un uc pr lc)) 1 6 := by
  refine rx_of prog_1_method_21_code 1 none (by decide) rfl (Nat.le_of_ble_eq_true rfl) ?_
  intro p e R s m args below meth c Q A H locs ls hR hQ hx hb hml hr hts hown hlk hnm hno hT hP hK hD hA hS hl
  have hl : lv_has ls 1 [(0, .int x)] := hl
  have hts : ∀ w ∈ rg_tbl, w.before args s = true := fun w h => hts w (List.mem_cons_of_mem _ h)
  refine lv_iload_n hx hb dG_requireBranch_0 rfl (lv_at hl 0 rfl) ?_
  refine lv_if_lt (tgt := 9) hx hb dG_requireBranch_1 (by decide) (fun h1 => ?_) (fun h1 => ?_)
  · rw [hQ]
    exact rx_throw (cls := "java/lang/IllegalArgumentException") (text := "no such branch") () (rfl) rfl hx hb hlt hown hts hT hno (by decide +kernel) rx_clA rx_itA rx_inA rx_bdA rx_gdA (by decide +kernel) hK hP hD hS (hl.1.trans hml.symm) dG_requireBranch_9 dG_requireBranch_12 dG_requireBranch_13 dG_requireBranch_15 dG_requireBranch_18 (by rw [hR]; exact Nat.le_of_ble_eq_true rfl) (by rw [hR]; exact Nat.le_of_ble_eq_true rfl) (by rw [hR]; exact Nat.le_of_ble_eq_true rfl) (by rw [hR]; exact Nat.le_of_ble_eq_true rfl) hlk (Nat.le_of_ble_eq_true rfl) (Nat.le_of_ble_eq_true rfl)
  · refine lv_iload_n hx hb dG_requireBranch_4 rfl (lv_at hl 0 rfl) ?_
    refine lv_iconst (v := nI 4) hx hb dG_requireBranch_5 (by decide) ?_
    refine lv_icmp_lt (tgt := 19) hx hb dG_requireBranch_6 (by decide) (fun h2 => absurd (rg_isB_lt h1 h2) (by rw [hB]; decide)) (fun h2 => ?_)
    rw [hQ]
    exact rx_throw (cls := "java/lang/IllegalArgumentException") (text := "no such branch") () (rfl) rfl hx hb hlt hown hts hT hno (by decide +kernel) rx_clA rx_itA rx_inA rx_bdA rx_gdA (by decide +kernel) hK hP hD hS (hl.1.trans hml.symm) dG_requireBranch_9 dG_requireBranch_12 dG_requireBranch_13 dG_requireBranch_15 dG_requireBranch_18 (by rw [hR]; exact Nat.le_of_ble_eq_true rfl) (by rw [hR]; exact Nat.le_of_ble_eq_true rfl) (by rw [hR]; exact Nat.le_of_ble_eq_true rfl) (by rw [hR]; exact Nat.le_of_ble_eq_true rfl) hlk (Nat.le_of_ble_eq_true rfl) (Nat.le_of_ble_eq_true rfl)
set_option maxHeartbeats 4000000 in
set_option maxRecDepth 100000 in
theorem c_G_requireRevision {l : Launch} {dC : Nat → ClassId} {dI : Nat → Nat → Nat} {ad fo fa ur : Nat → Nat} {cI cL cF cA : ClassId} {rec : Nat → Nat → Int64} {fp : Nat → Int32} {sp : Nat → Int32} {an : Nat → Int64} {nn : Nat → Int32} {pt : Nat → Int32} {un : Nat → Nat → Int32} {uc : Nat → Int32} {pr : Int32} {lc : Int32} (n r : Nat) (hn6 : n ≤ 60) (hrn : r < n) : rg_M l yG_requireRevision (Cond.code yG_requireRevision prog_1_method_22_code 2 none :: rg_tbl) { frames := 1, cells := 0, slots := 0, locals := 21 } (dC, dI) rg_cl (gw_tys cI cL cF cA) (gw_W ad fo fa ur cI cL cF cA rec fp sp an nn (nI n) pt un uc pr lc) [.ref ((ad 0)), .int (nI r)] (rg_QV (dC, dI) rg_cl (gw_tys cI cL cF cA) (S := Unit) (fun _ => True) (fun _ => gw_W ad fo fa ur cI cL cF cA rec fp sp an nn (nI n) pt un uc pr lc)) 0 0 := by
  refine rg_of prog_1_method_22_code 2 none (by decide) rfl (Nat.le_of_ble_eq_true rfl) ?_
  intro p e R s m args below meth c Q A H locs ls hR hQ hx hb hml hr hts hown hlk hnm hP hK hD hA hS hl
  have hl : lv_has ls 2 [(0, .ref ((ad 0))), (1, .int (nI r))] := hl
  have hts : ∀ w ∈ rg_tbl, w.before args s = true := fun w h => hts w (List.mem_cons_of_mem _ h)
  have hB := rg_isR_ok (n := n) (by omega) hrn
  refine lv_aload_n hx hb dG_requireRevision_0 rfl (lv_at hl 0 rfl) ?_
  refine va_get (D := (dC, dI)) (ci := 1) (C := "RevisionGrove") (T := TG) (N := 4) hx hb hts inG hown hK hP 0 rfl rfl 0 (by decide) (hts _ tw_86) (fun _ h9 => h9) rfl dG_requireRevision_1 ?_
  refine lv_iload_n hx hb dG_requireRevision_4 rfl (lv_at hl 1 rfl) ?_
  refine rg_calli hD hS hA (va_runV (As := [.int (nI r)]) (rest := []) ⟨hx, hb, hml, hown, hts⟩ (c_R_has n (nI r) _) (cwV 1 hts (rg_gV tw_403 tw_404 tw_405 tw_2 tw_406) rfl rfl rfl (by decide +kernel) ⟨by rw [hR]; exact Nat.le_of_ble_eq_true rfl, by rw [hR]; exact Nat.le_of_ble_eq_true rfl⟩) (rg_preV rfl hK hP hD (ci := 2) (q0 := 1) rfl rfl) rfl rfl hl.1 rfl (lv_room (Nat.le_of_ble_eq_true rfl)) dG_requireRevision_5 ⟨Nat.zero_le _, Nat.zero_le _⟩) (fun r1 u2 H locs hw3 hP hD hS => ?_)
  subst hw3
  have hP : va_P (dC, dI) rg_cl (gw_W ad fo fa ur cI cL cF cA rec fp sp an nn (nI n) pt un uc pr lc) H := hP
  have hD : va_D A (gw_W ad fo fa ur cI cL cF cA rec fp sp an nn (nI n) pt un uc pr lc) := hD
  refine rg_ifz_ne (tgt := 21) hx hb dG_requireRevision_8 (by decide) (fun h4 => ?_) (fun h4 => absurd (hB.symm.trans h4) (by decide))
  rw [hQ]
  exact rg_vret hx hb hr hlk hK hP hD hS dG_requireRevision_21 () rfl (trivial)
set_option maxHeartbeats 4000000 in
set_option maxRecDepth 100000 in
theorem c_G_requireRevision_x {l : Launch} {dC : Nat → ClassId} {dI : Nat → Nat → Nat} {ad fo fa ur : Nat → Nat} {cI cL cF cA : ClassId} {rec : Nat → Nat → Int64} {fp : Nat → Int32} {sp : Nat → Int32} {an : Nat → Int64} {nn : Nat → Int32} {pt : Nat → Int32} {un : Nat → Nat → Int32} {uc : Nat → Int32} {pr : Int32} {lc : Int32} (hlt : l.stackTraces = false) (n : Nat) (x : Int32) (hB : rg_isR n x = false) : rx_M l yG_requireRevision (Cond.code yG_requireRevision prog_1_method_22_code 2 none :: rg_tbl) { frames := 6, cells := 1, slots := 6, locals := 90 } (dC, dI) rg_cl (gw_tys cI cL cF cA) (gw_W ad fo fa ur cI cL cF cA rec fp sp an nn (nI n) pt un uc pr lc) [.ref ((ad 0)), .int x] (rg_QV (dC, dI) rg_cl (gw_tys cI cL cF cA) (S := Unit) (fun _ => False) (fun _ => gw_W ad fo fa ur cI cL cF cA rec fp sp an nn (nI n) pt un uc pr lc)) (rx_X (dC, dI) rg_cl (gw_tys cI cL cF cA) (S := Unit) (fun E _ => E = "java/lang/IllegalArgumentException") (fun _ => gw_W ad fo fa ur cI cL cF cA rec fp sp an nn (nI n) pt un uc pr lc)) 1 6 := by
  refine rx_of prog_1_method_22_code 2 none (by decide) rfl (Nat.le_of_ble_eq_true rfl) ?_
  intro p e R s m args below meth c Q A H locs ls hR hQ hx hb hml hr hts hown hlk hnm hno hT hP hK hD hA hS hl
  have hl : lv_has ls 2 [(0, .ref ((ad 0))), (1, .int x)] := hl
  have hts : ∀ w ∈ rg_tbl, w.before args s = true := fun w h => hts w (List.mem_cons_of_mem _ h)
  refine lv_aload_n hx hb dG_requireRevision_0 rfl (lv_at hl 0 rfl) ?_
  refine va_get (D := (dC, dI)) (ci := 1) (C := "RevisionGrove") (T := TG) (N := 4) hx hb hts inG hown hK hP 0 rfl rfl 0 (by decide) (hts _ tw_86) (fun _ h9 => h9) rfl dG_requireRevision_1 ?_
  refine lv_iload_n hx hb dG_requireRevision_4 rfl (lv_at hl 1 rfl) ?_
  refine rg_calli hD hS hA (va_runV (As := [.int x]) (rest := []) ⟨hx, hb, hml, hown, hts⟩ (c_R_has n x _) (cwV 1 hts (rg_gV tw_403 tw_404 tw_405 tw_2 tw_406) rfl rfl rfl (by decide +kernel) ⟨by rw [hR]; exact Nat.le_of_ble_eq_true rfl, by rw [hR]; exact Nat.le_of_ble_eq_true rfl⟩) (rg_preV rfl hK hP hD (ci := 2) (q0 := 1) rfl rfl) rfl rfl hl.1 rfl (lv_room (Nat.le_of_ble_eq_true rfl)) dG_requireRevision_5 ⟨Nat.zero_le _, Nat.zero_le _⟩) (fun r1 u2 H locs hw3 hP hD hS => ?_)
  subst hw3
  have hP : va_P (dC, dI) rg_cl (gw_W ad fo fa ur cI cL cF cA rec fp sp an nn (nI n) pt un uc pr lc) H := hP
  have hD : va_D A (gw_W ad fo fa ur cI cL cF cA rec fp sp an nn (nI n) pt un uc pr lc) := hD
  refine rg_ifz_ne (tgt := 21) hx hb dG_requireRevision_8 (by decide) (fun h4 => absurd (hB.symm.trans h4) (by decide)) (fun h4 => ?_)
  rw [hQ]
  exact rx_throw (cls := "java/lang/IllegalArgumentException") (text := "no such revision") () (rfl) rfl hx hb hlt hown hts hT hno (by decide +kernel) rx_clA rx_itA rx_inA rx_bdA rx_gdA (by decide +kernel) hK hP hD hS (hl.1.trans hml.symm) dG_requireRevision_11 dG_requireRevision_14 dG_requireRevision_15 dG_requireRevision_17 dG_requireRevision_20 (by rw [hR]; exact Nat.le_of_ble_eq_true rfl) (by rw [hR]; exact Nat.le_of_ble_eq_true rfl) (by rw [hR]; exact Nat.le_of_ble_eq_true rfl) (by rw [hR]; exact Nat.le_of_ble_eq_true rfl) hlk (Nat.le_of_ble_eq_true rfl) (Nat.le_of_ble_eq_true rfl)
set_option maxHeartbeats 4000000 in
set_option maxRecDepth 100000 in
theorem c_G_draftPresent {l : Launch} {dC : Nat → ClassId} {dI : Nat → Nat → Nat} {ad fo fa ur : Nat → Nat} {cI cL cF cA : ClassId} {rec : Nat → Nat → Int64} {fp : Nat → Int32} {sp : Nat → Int32} {an : Nat → Int64} {nn : Nat → Int32} {cnt : Int32} {pt : Nat → Int32} {un : Nat → Nat → Int32} {uc : Nat → Int32} {lc : Int32} (b t : Nat) (hb4 : b < 4) (ht6 : t < 60) (hpt : pt b = nI t) : rg_M l yG_draftPresent (Cond.code yG_draftPresent prog_1_method_23_code 1 none :: rg_tbl) { frames := 2, cells := 0, slots := 0, locals := 51 } (dC, dI) rg_cl (gw_tys cI cL cF cA) (gw_W ad fo fa ur cI cL cF cA rec fp sp an nn cnt pt un uc (nI b) lc) [.ref ((ad 0))] (rg_QV (dC, dI) rg_cl (gw_tys cI cL cF cA) (S := Unit) (fun _ => True) (fun _ => gw_W ad fo fa ur cI cL cF cA (va_up rec 60 (va_cpy (rec t) (rec 60) 0 0 24)) fp sp an nn cnt pt un uc (nI b) lc)) 0 0 := by
  refine rg_of prog_1_method_23_code 1 none (by decide) rfl (Nat.le_of_ble_eq_true rfl) ?_
  intro p e R s m args below meth c Q A H locs ls hR hQ hx hb hml hr hts hown hlk hnm hP hK hD hA hS hl
  have hl : lv_has ls 1 [(0, .ref ((ad 0)))] := hl
  have hts : ∀ w ∈ rg_tbl, w.before args s = true := fun w h => hts w (List.mem_cons_of_mem _ h)
  refine lv_aload_n hx hb dG_draftPresent_0 rfl (lv_at hl 0 rfl) ?_
  refine va_get (D := (dC, dI)) (ci := 1) (C := "RevisionGrove") (T := TG) (N := 4) hx hb hts inG hown hK hP 0 rfl rfl 2 (by decide) (hts _ tw_88) (fun _ h9 => h9) rfl dG_draftPresent_1 ?_
  refine lv_aload_n hx hb dG_draftPresent_4 rfl (lv_at hl 0 rfl) ?_
  refine va_get (D := (dC, dI)) (ci := 1) (C := "RevisionGrove") (T := TG) (N := 4) hx hb hts inG hown hK hP 0 rfl rfl 0 (by decide) (hts _ tw_86) (fun _ h9 => h9) rfl dG_draftPresent_5 ?_
  refine lv_aload_n hx hb dG_draftPresent_8 rfl (lv_at hl 0 rfl) ?_
  refine va_get (D := (dC, dI)) (ci := 1) (C := "RevisionGrove") (T := TG) (N := 4) hx hb hts inG hown hK hP 0 rfl rfl 1 (by decide) (hts _ tw_87) (fun _ h9 => h9) rfl dG_draftPresent_9 ?_
  refine rg_calli hD hS hA (va_runV (As := []) (rest := [.ref ((ad 1)), .ref ((fo 60))]) ⟨hx, hb, hml, hown, hts⟩ (c_B_presentRevision b (by omega) _) (cwV 0 hts (rg_gV tw_235 tw_236 tw_237 tw_4 tw_238) rfl rfl rfl (by decide +kernel) ⟨by rw [hR]; exact Nat.le_of_ble_eq_true rfl, by rw [hR]; exact Nat.le_of_ble_eq_true rfl⟩) (rg_preV rfl hK hP hD (ci := 3) (q0 := 2) rfl rfl) rfl rfl hl.1 rfl (lv_room (Nat.le_of_ble_eq_true rfl)) dG_draftPresent_12 ⟨Nat.zero_le _, Nat.zero_le _⟩) (fun r1 u2 H locs hw3 hP hD hS => ?_)
  subst hw3
  have hP : va_P (dC, dI) rg_cl (gw_W ad fo fa ur cI cL cF cA rec fp sp an nn cnt pt un uc (nI b) lc) H := hP
  have hD : va_D A (gw_W ad fo fa ur cI cL cF cA rec fp sp an nn cnt pt un uc (nI b) lc) := hD
  refine rg_top (show (.int (pt b) : Value) = .int (nI t) by rw [hpt]) ?_
  refine rg_calla hD hS hA (va_runV (As := [.int (nI t)]) (rest := [.ref ((fo 60))]) ⟨hx, hb, hml, hown, hts⟩ (c_R_fields t (by omega) _) (cwV 1 hts (rg_gV tw_239 tw_240 tw_241 tw_2 tw_242) rfl rfl rfl (by decide +kernel) ⟨by rw [hR]; exact Nat.le_of_ble_eq_true rfl, by rw [hR]; exact Nat.le_of_ble_eq_true rfl⟩) (rg_preV rfl hK hP hD (ci := 2) (q0 := 1) rfl rfl) rfl rfl hl.1 rfl (lv_room (Nat.le_of_ble_eq_true rfl)) dG_draftPresent_15 ⟨Nat.zero_le _, Nat.zero_le _⟩) (fun H locs hP hD hS => ?_)
  have hP : va_P (dC, dI) rg_cl (gw_W ad fo fa ur cI cL cF cA rec fp sp an nn cnt pt un uc (nI b) lc) H := hP
  have hD : va_D A (gw_W ad fo fa ur cI cL cF cA rec fp sp an nn cnt pt un uc (nI b) lc) := hD
  refine rg_callv hD hS hA (va_runV (As := [.ref ((fo t))]) (rest := []) ⟨hx, hb, hml, hown, hts⟩ (c_F_takeAll 60 t (by omega) (by omega) _) (cwV 1 hts (rg_gV tw_243 tw_127 tw_128 tw_3 tw_129) rfl rfl rfl (by decide +kernel) ⟨by rw [hR]; exact Nat.le_of_ble_eq_true rfl, by rw [hR]; exact Nat.le_of_ble_eq_true rfl⟩) (rg_preV rfl hK hP hD (ci := 4) (q0 := (11 + (4 + 60))) rfl (gw_obj (by omega))) rfl rfl hl.1 rfl (lv_room (Nat.le_of_ble_eq_true rfl)) dG_draftPresent_18 ⟨Nat.zero_le _, Nat.zero_le _⟩) (fun u8 H locs hw9 hP hD hS => ?_)
  have hP : va_P (dC, dI) rg_cl (gw_W ad fo fa ur cI cL cF cA (va_up rec 60 (va_cpy (rec t) (rec 60) 0 0 24)) fp sp an nn cnt pt un uc (nI b) lc) H := hP
  have hD : va_D A (gw_W ad fo fa ur cI cL cF cA (va_up rec 60 (va_cpy (rec t) (rec 60) 0 0 24)) fp sp an nn cnt pt un uc (nI b) lc) := hD
  rw [hQ]
  exact rg_vret hx hb hr hlk hK hP hD hS dG_draftPresent_21 () rfl (trivial)
set_option maxHeartbeats 4000000 in
set_option maxRecDepth 100000 in
theorem c_G_comeToDraft {l : Launch} {dC : Nat → ClassId} {dI : Nat → Nat → Nat} {ad fo fa ur : Nat → Nat} {cI cL cF cA : ClassId} {rec : Nat → Nat → Int64} {fp : Nat → Int32} {sp : Nat → Int32} {an : Nat → Int64} {nn : Nat → Int32} {pt : Nat → Int32} {un : Nat → Nat → Int32} {uc : Nat → Int32} {lc : Int32} (n b t : Nat) (hn6 : n < 60) (hb4 : b < 4) (ht6 : t < 60) (hpt : pt b = nI t) (y : Int32) (hy9 : y = -1 ∨ ∃ r, r < 60 ∧ y = nI r) : rg_M l yG_comeToDraft (Cond.code yG_comeToDraft prog_1_method_26_code 2 none :: rg_tbl) { frames := 3, cells := 0, slots := 0, locals := 75 } (dC, dI) rg_cl (gw_tys cI cL cF cA) (gw_W ad fo fa ur cI cL cF cA rec fp sp an nn (nI n) pt un uc (nI b) lc) [.ref ((ad 0)), .int y] (rg_QV (dC, dI) rg_cl (gw_tys cI cL cF cA) (S := Unit) (fun _ => True) (fun _ => gw_W ad fo fa ur cI cL cF cA (va_up rec n (va_cpy (rec 60) (rec n) 0 0 24)) (upd fp n (nI t)) (upd sp n y) (vp_updL an n ((((1 : Int64) <<< ((nI n).toInt64 &&& 63)) ||| (rg_ax an (nI t))) ||| (rg_ax an y))) nn (nI (n + 1)) (upd pt b (nI n)) un (upd uc b (nI 0)) (nI b) lc)) 0 0 := by
  refine rg_of prog_1_method_26_code 2 none (by decide) rfl (Nat.le_of_ble_eq_true rfl) ?_
  intro p e R s m args below meth c Q A H locs ls hR hQ hx hb hml hr hts hown hlk hnm hP hK hD hA hS hl
  have hl : lv_has ls 2 [(0, .ref ((ad 0))), (1, .int y)] := hl
  have hts : ∀ w ∈ rg_tbl, w.before args s = true := fun w h => hts w (List.mem_cons_of_mem _ h)
  refine lv_aload_n hx hb dG_comeToDraft_0 rfl (lv_at hl 0 rfl) ?_
  refine va_get (D := (dC, dI)) (ci := 1) (C := "RevisionGrove") (T := TG) (N := 4) hx hb hts inG hown hK hP 0 rfl rfl 0 (by decide) (hts _ tw_86) (fun _ h9 => h9) rfl dG_comeToDraft_1 ?_
  refine rg_calli hD hS hA (va_runV (As := []) (rest := []) ⟨hx, hb, hml, hown, hts⟩ (c_R_count _) (cwV 0 hts (rg_gV tw_107 tw_108 tw_109 tw_2 tw_110) rfl rfl rfl (by decide +kernel) ⟨by rw [hR]; exact Nat.le_of_ble_eq_true rfl, by rw [hR]; exact Nat.le_of_ble_eq_true rfl⟩) (rg_preV rfl hK hP hD (ci := 2) (q0 := 1) rfl rfl) rfl rfl hl.1 rfl (lv_room (Nat.le_of_ble_eq_true rfl)) dG_comeToDraft_4 ⟨Nat.zero_le _, Nat.zero_le _⟩) (fun r1 u2 H locs hw3 hP hD hS => ?_)
  subst hw3
  have hP : va_P (dC, dI) rg_cl (gw_W ad fo fa ur cI cL cF cA rec fp sp an nn (nI n) pt un uc (nI b) lc) H := hP
  have hD : va_D A (gw_W ad fo fa ur cI cL cF cA rec fp sp an nn (nI n) pt un uc (nI b) lc) := hD
  refine lv_bipush (v := nI 60) hx hb dG_comeToDraft_7 (by decide) ?_
  refine rg_icmp_ne (tgt := 22) hx hb dG_comeToDraft_9 (by decide) (by omega) (by omega) (fun h4 => ?_) (fun h4 => by exfalso; omega)
  refine lv_aload_n hx hb dG_comeToDraft_22 rfl (lv_at hl 0 rfl) ?_
  refine va_get (D := (dC, dI)) (ci := 1) (C := "RevisionGrove") (T := TG) (N := 4) hx hb hts inG hown hK hP 0 rfl rfl 1 (by decide) (hts _ tw_87) (fun _ h9 => h9) rfl dG_comeToDraft_23 ?_
  refine lv_aload_n hx hb dG_comeToDraft_26 rfl (lv_at hl 0 rfl) ?_
  refine va_get (D := (dC, dI)) (ci := 1) (C := "RevisionGrove") (T := TG) (N := 4) hx hb hts inG hown hK hP 0 rfl rfl 0 (by decide) (hts _ tw_86) (fun _ h9 => h9) rfl dG_comeToDraft_27 ?_
  refine lv_aload_n hx hb dG_comeToDraft_30 rfl (lv_at hl 0 rfl) ?_
  refine va_get (D := (dC, dI)) (ci := 1) (C := "RevisionGrove") (T := TG) (N := 4) hx hb hts inG hown hK hP 0 rfl rfl 2 (by decide) (hts _ tw_88) (fun _ h9 => h9) rfl dG_comeToDraft_31 ?_
  refine lv_aload_n hx hb dG_comeToDraft_34 rfl (lv_at hl 0 rfl) ?_
  refine va_get (D := (dC, dI)) (ci := 1) (C := "RevisionGrove") (T := TG) (N := 4) hx hb hts inG hown hK hP 0 rfl rfl 1 (by decide) (hts _ tw_87) (fun _ h9 => h9) rfl dG_comeToDraft_35 ?_
  refine rg_calli hD hS hA (va_runV (As := []) (rest := [.ref ((fo 60)), .ref ((ad 1)), .ref ((ad 2))]) ⟨hx, hb, hml, hown, hts⟩ (c_B_presentRevision b (by omega) _) (cwV 0 hts (rg_gV tw_235 tw_236 tw_237 tw_4 tw_238) rfl rfl rfl (by decide +kernel) ⟨by rw [hR]; exact Nat.le_of_ble_eq_true rfl, by rw [hR]; exact Nat.le_of_ble_eq_true rfl⟩) (rg_preV rfl hK hP hD (ci := 3) (q0 := 2) rfl rfl) rfl rfl hl.1 rfl (lv_room (Nat.le_of_ble_eq_true rfl)) dG_comeToDraft_38 ⟨Nat.zero_le _, Nat.zero_le _⟩) (fun r5 u6 H locs hw7 hP hD hS => ?_)
  subst hw7
  have hP : va_P (dC, dI) rg_cl (gw_W ad fo fa ur cI cL cF cA rec fp sp an nn (nI n) pt un uc (nI b) lc) H := hP
  have hD : va_D A (gw_W ad fo fa ur cI cL cF cA rec fp sp an nn (nI n) pt un uc (nI b) lc) := hD
  refine rg_top (show (.int (pt b) : Value) = .int (nI t) by rw [hpt]) ?_
  refine lv_iload_n hx hb dG_comeToDraft_41 rfl (lv_at hl 1 rfl) ?_
  refine rg_calli hD hS hA (va_runV (As := [.ref ((fo 60)), .int (nI t), .int y]) (rest := [.ref ((ad 2))]) ⟨hx, hb, hml, hown, hts⟩ (c_R_make n 60 (by omega) (by omega) (nI t) y (Or.inr ⟨t, by omega, rfl⟩) hy9 _) (cwV 3 hts (rg_gV tw_283 tw_284 tw_285 tw_2 tw_286) rfl rfl rfl (by decide +kernel) ⟨by rw [hR]; exact Nat.le_of_ble_eq_true rfl, by rw [hR]; exact Nat.le_of_ble_eq_true rfl⟩) (rg_preV rfl hK hP hD (ci := 2) (q0 := 1) rfl rfl) rfl rfl hl.1 rfl (lv_room (Nat.le_of_ble_eq_true rfl)) dG_comeToDraft_42 ⟨Nat.zero_le _, Nat.zero_le _⟩) (fun r8 u9 H locs hw10 hP hD hS => ?_)
  subst hw10
  have hP : va_P (dC, dI) rg_cl (gw_W ad fo fa ur cI cL cF cA (va_up rec n (va_cpy (rec 60) (rec n) 0 0 24)) (upd fp n (nI t)) (upd sp n y) (vp_updL an n ((((1 : Int64) <<< ((nI n).toInt64 &&& 63)) ||| (rg_ax an (nI t))) ||| (rg_ax an y))) nn (nI (n + 1)) pt un uc (nI b) lc) H := hP
  have hD : va_D A (gw_W ad fo fa ur cI cL cF cA (va_up rec n (va_cpy (rec 60) (rec n) 0 0 24)) (upd fp n (nI t)) (upd sp n y) (vp_updL an n ((((1 : Int64) <<< ((nI n).toInt64 &&& 63)) ||| (rg_ax an (nI t))) ||| (rg_ax an y))) nn (nI (n + 1)) pt un uc (nI b) lc) := hD
  refine rg_callv hD hS hA (va_runV (As := [.int (nI n)]) (rest := []) ⟨hx, hb, hml, hown, hts⟩ (c_B_come b (by omega) (nI n) _) (cwV 1 hts (rg_gV tw_287 tw_288 tw_289 tw_4 tw_290) rfl rfl rfl (by decide +kernel) ⟨by rw [hR]; exact Nat.le_of_ble_eq_true rfl, by rw [hR]; exact Nat.le_of_ble_eq_true rfl⟩) (rg_preV rfl hK hP hD (ci := 3) (q0 := 2) rfl rfl) rfl rfl hl.1 rfl (lv_room (Nat.le_of_ble_eq_true rfl)) dG_comeToDraft_45 ⟨Nat.zero_le _, Nat.zero_le _⟩) (fun u12 H locs hw13 hP hD hS => ?_)
  have hP : va_P (dC, dI) rg_cl (gw_W ad fo fa ur cI cL cF cA (va_up rec n (va_cpy (rec 60) (rec n) 0 0 24)) (upd fp n (nI t)) (upd sp n y) (vp_updL an n ((((1 : Int64) <<< ((nI n).toInt64 &&& 63)) ||| (rg_ax an (nI t))) ||| (rg_ax an y))) nn (nI (n + 1)) (upd pt b (nI n)) un (upd uc b (nI 0)) (nI b) lc) H := hP
  have hD : va_D A (gw_W ad fo fa ur cI cL cF cA (va_up rec n (va_cpy (rec 60) (rec n) 0 0 24)) (upd fp n (nI t)) (upd sp n y) (vp_updL an n ((((1 : Int64) <<< ((nI n).toInt64 &&& 63)) ||| (rg_ax an (nI t))) ||| (rg_ax an y))) nn (nI (n + 1)) (upd pt b (nI n)) un (upd uc b (nI 0)) (nI b) lc) := hD
  rw [hQ]
  exact rg_vret hx hb hr hlk hK hP hD hS dG_comeToDraft_48 () rfl (trivial)
set_option maxHeartbeats 4000000 in
set_option maxRecDepth 100000 in
theorem c_G_comeToDraft_x {l : Launch} {dC : Nat → ClassId} {dI : Nat → Nat → Nat} {ad fo fa ur : Nat → Nat} {cI cL cF cA : ClassId} {rec : Nat → Nat → Int64} {fp : Nat → Int32} {sp : Nat → Int32} {an : Nat → Int64} {nn : Nat → Int32} {pt : Nat → Int32} {un : Nat → Nat → Int32} {uc : Nat → Int32} {pr : Int32} {lc : Int32} (hlt : l.stackTraces = false) (y : Int32) : rx_M l yG_comeToDraft (Cond.code yG_comeToDraft prog_1_method_26_code 2 none :: rg_tbl) { frames := 6, cells := 1, slots := 6, locals := 90 } (dC, dI) rg_cl (gw_tys cI cL cF cA) (gw_W ad fo fa ur cI cL cF cA rec fp sp an nn (nI 60) pt un uc pr lc) [.ref ((ad 0)), .int y] (rg_QV (dC, dI) rg_cl (gw_tys cI cL cF cA) (S := Unit) (fun _ => False) (fun _ => gw_W ad fo fa ur cI cL cF cA rec fp sp an nn (nI 60) pt un uc pr lc)) (rx_X (dC, dI) rg_cl (gw_tys cI cL cF cA) (S := Unit) (fun E _ => E = "java/lang/IllegalStateException") (fun _ => gw_W ad fo fa ur cI cL cF cA rec fp sp an nn (nI 60) pt un uc pr lc)) 1 6 := by
  refine rx_of prog_1_method_26_code 2 none (by decide) rfl (Nat.le_of_ble_eq_true rfl) ?_
  intro p e R s m args below meth c Q A H locs ls hR hQ hx hb hml hr hts hown hlk hnm hno hT hP hK hD hA hS hl
  have hl : lv_has ls 2 [(0, .ref ((ad 0))), (1, .int y)] := hl
  have hts : ∀ w ∈ rg_tbl, w.before args s = true := fun w h => hts w (List.mem_cons_of_mem _ h)
  refine lv_aload_n hx hb dG_comeToDraft_0 rfl (lv_at hl 0 rfl) ?_
  refine va_get (D := (dC, dI)) (ci := 1) (C := "RevisionGrove") (T := TG) (N := 4) hx hb hts inG hown hK hP 0 rfl rfl 0 (by decide) (hts _ tw_86) (fun _ h9 => h9) rfl dG_comeToDraft_1 ?_
  refine rg_calli hD hS hA (va_runV (As := []) (rest := []) ⟨hx, hb, hml, hown, hts⟩ (c_R_count _) (cwV 0 hts (rg_gV tw_107 tw_108 tw_109 tw_2 tw_110) rfl rfl rfl (by decide +kernel) ⟨by rw [hR]; exact Nat.le_of_ble_eq_true rfl, by rw [hR]; exact Nat.le_of_ble_eq_true rfl⟩) (rg_preV rfl hK hP hD (ci := 2) (q0 := 1) rfl rfl) rfl rfl hl.1 rfl (lv_room (Nat.le_of_ble_eq_true rfl)) dG_comeToDraft_4 ⟨Nat.zero_le _, Nat.zero_le _⟩) (fun r1 u2 H locs hw3 hP hD hS => ?_)
  subst hw3
  have hP : va_P (dC, dI) rg_cl (gw_W ad fo fa ur cI cL cF cA rec fp sp an nn (nI 60) pt un uc pr lc) H := hP
  have hD : va_D A (gw_W ad fo fa ur cI cL cF cA rec fp sp an nn (nI 60) pt un uc pr lc) := hD
  refine lv_bipush (v := nI 60) hx hb dG_comeToDraft_7 (by decide) ?_
  refine rg_icmp_ne (tgt := 22) hx hb dG_comeToDraft_9 (by decide) (by omega) (by omega) (fun h4 => by exfalso; omega) (fun h4 => ?_)
  rw [hQ]
  exact rx_throw (cls := "java/lang/IllegalStateException") (text := "no room for another revision") () (rfl) rfl hx hb hlt hown hts hT hno (by decide +kernel) rx_clS rx_itS rx_inS rx_bdS rx_gdS (by decide +kernel) hK hP hD hS (hl.1.trans hml.symm) dG_comeToDraft_12 dG_comeToDraft_15 dG_comeToDraft_16 dG_comeToDraft_18 dG_comeToDraft_21 (by rw [hR]; exact Nat.le_of_ble_eq_true rfl) (by rw [hR]; exact Nat.le_of_ble_eq_true rfl) (by rw [hR]; exact Nat.le_of_ble_eq_true rfl) (by rw [hR]; exact Nat.le_of_ble_eq_true rfl) hlk (Nat.le_of_ble_eq_true rfl) (Nat.le_of_ble_eq_true rfl)
