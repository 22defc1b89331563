set_option maxHeartbeats 4000000 in
set_option maxRecDepth 100000 in
theorem c_R_count {l : Launch} {dC : Nat → ClassId} {dI : Nat → Nat → Nat} {ad fo fa ur : Nat → Nat} {cI cL cF cA : ClassId} {rec : Nat → Nat → Int64} {fp : Nat → Int32} {sp : Nat → Int32} {an : Nat → Int64} {nn : Nat → Int32} {cnt : Int32} {pt : Nat → Int32} {un : Nat → Nat → Int32} {uc : Nat → Int32} {pr : Int32} {lc : Int32}  : rg_M l yR_count (Cond.code yR_count prog_6_method_2_code 1 (some .int) :: rg_tbl) { frames := 0, cells := 0, slots := 0, locals := 0 } (dC, dI) rg_cl (gw_tys cI cL cF cA) (gw_W ad fo fa ur cI cL cF cA rec fp sp an nn cnt pt un uc pr lc) [.ref ((ad 1))] (rg_QI (dC, dI) rg_cl (gw_tys cI cL cF cA) (S := Unit) (fun z _ => z = cnt) (fun _ => gw_W ad fo fa ur cI cL cF cA rec fp sp an nn cnt pt un uc pr lc)) 0 0 := by
  refine rg_of prog_6_method_2_code 1 (some .int) (by decide) rfl (Nat.le_of_ble_eq_true rfl) ?_
  intro p e R s m args below meth c Q A H locs ls hR hQ hx hb hml hr hts hown hlk hnm hP hK hD hA hS hl
  have hl : lv_has ls 1 [(0, .ref ((ad 1)))] := hl
  have hts : ∀ w ∈ rg_tbl, w.before args s = true := fun w h => hts w (List.mem_cons_of_mem _ h)
  refine lv_aload_n hx hb dR_count_0 rfl (lv_at hl 0 rfl) ?_
  refine va_get (D := (dC, dI)) (ci := 2) (C := "RevisionGrove$Revisions") (T := TR) (N := 6) hx hb hts inR hown hK hP 1 rfl rfl 5 (by decide) (hts _ tw_49) (fun _ h9 => h9) rfl dR_count_1 ?_
  rw [hQ]
  exact rg_iret hx hb hr hlk hK hP hD hS dR_count_4 () rfl (rfl)
set_option maxHeartbeats 4000000 in
set_option maxRecDepth 100000 in
theorem c_R_has {l : Launch} {dC : Nat → ClassId} {dI : Nat → Nat → Nat} {ad fo fa ur : Nat → Nat} {cI cL cF cA : ClassId} {rec : Nat → Nat → Int64} {fp : Nat → Int32} {sp : Nat → Int32} {an : Nat → Int64} {nn : Nat → Int32} {pt : Nat → Int32} {un : Nat → Nat → Int32} {uc : Nat → Int32} {pr : Int32} {lc : Int32} (n : Nat) (x : Int32) : rg_M l yR_has (Cond.code yR_has prog_6_method_3_code 2 (some .boolean) :: rg_tbl) { frames := 0, cells := 0, slots := 0, locals := 0 } (dC, dI) rg_cl (gw_tys cI cL cF cA) (gw_W ad fo fa ur cI cL cF cA rec fp sp an nn (nI n) pt un uc pr lc) [.ref ((ad 1)), .int x] (rg_QI (dC, dI) rg_cl (gw_tys cI cL cF cA) (S := Unit) (fun z _ => z = bif rg_isR n x then 1 else 0) (fun _ => gw_W ad fo fa ur cI cL cF cA rec fp sp an nn (nI n) pt un uc pr lc)) 0 0 := by
  refine rg_of prog_6_method_3_code 2 (some .boolean) (by decide) rfl (Nat.le_of_ble_eq_true rfl) ?_
  intro p e R s m args below meth c Q A H locs ls hR hQ hx hb hml hr hts hown hlk hnm hP hK hD hA hS hl
  have hl : lv_has ls 2 [(0, .ref ((ad 1))), (1, .int x)] := hl
  have hts : ∀ w ∈ rg_tbl, w.before args s = true := fun w h => hts w (List.mem_cons_of_mem _ h)
  refine lv_iload_n hx hb dR_has_0 rfl (lv_at hl 1 rfl) ?_
  refine lv_if_lt (tgt := 16) hx hb dR_has_1 (by decide) (fun h1 => ?_) (fun h1 => ?_)
  · refine lv_iconst (v := nI 0) hx hb dR_has_16 (by decide) ?_
    rw [hQ]
    exact rg_zret hx hb hr hlk hK hP hD hS (by first | exact rg_b01 _ | exact Or.inl rfl | exact Or.inr rfl) dR_has_17 () rfl (by rw [show rg_isR n x = false from by unfold rg_isR; rw [decide_eq_true h1]; rfl]; rfl)
  · refine lv_iload_n hx hb dR_has_4 rfl (lv_at hl 1 rfl) ?_
    refine lv_aload_n hx hb dR_has_5 rfl (lv_at hl 0 rfl) ?_
    refine va_get (D := (dC, dI)) (ci := 2) (C := "RevisionGrove$Revisions") (T := TR) (N := 6) hx hb hts inR hown hK hP 1 rfl rfl 5 (by decide) (hts _ tw_49) (fun _ h9 => h9) rfl dR_has_6 ?_
    refine lv_icmp_ge (tgt := 16) hx hb dR_has_9 (by decide) (fun h2 => ?_) (fun h2 => ?_)
    · refine lv_iconst (v := nI 0) hx hb dR_has_16 (by decide) ?_
      rw [hQ]
      exact rg_zret hx hb hr hlk hK hP hD hS (by first | exact rg_b01 _ | exact Or.inl rfl | exact Or.inr rfl) dR_has_17 () rfl (by rw [show rg_isR n x = false from by unfold rg_isR; rw [decide_eq_false h1, decide_eq_true h2]; rfl]; rfl)
    · refine lv_iconst (v := nI 1) hx hb dR_has_12 (by decide) ?_
      refine lv_goto (tgt := 17) hx hb dR_has_13 (by decide) ?_
      rw [hQ]
      exact rg_zret hx hb hr hlk hK hP hD hS (by first | exact rg_b01 _ | exact Or.inl rfl | exact Or.inr rfl) dR_has_17 () rfl (by rw [show rg_isR n x = true from by unfold rg_isR; rw [decide_eq_false h1, decide_eq_false h2]; rfl]; rfl)
set_option maxHeartbeats 4000000 in
set_option maxRecDepth 100000 in
theorem c_R_fields {l : Launch} {dC : Nat → ClassId} {dI : Nat → Nat → Nat} {ad fo fa ur : Nat → Nat} {cI cL cF cA : ClassId} {rec : Nat → Nat → Int64} {fp : Nat → Int32} {sp : Nat → Int32} {an : Nat → Int64} {nn : Nat → Int32} {cnt : Int32} {pt : Nat → Int32} {un : Nat → Nat → Int32} {uc : Nat → Int32} {pr : Int32} {lc : Int32} (r : Nat) (hr6 : r < 60) : rg_M l yR_fields (Cond.code yR_fields prog_6_method_4_code 2 (some (.object "RevisionGrove$Fields")) :: rg_tbl) { frames := 0, cells := 0, slots := 0, locals := 0 } (dC, dI) rg_cl (gw_tys cI cL cF cA) (gw_W ad fo fa ur cI cL cF cA rec fp sp an nn cnt pt un uc pr lc) [.ref ((ad 1)), .int (nI r)] (rg_QA (dC, dI) rg_cl (gw_tys cI cL cF cA) (fo r) (fun _ => gw_W ad fo fa ur cI cL cF cA rec fp sp an nn cnt pt un uc pr lc)) 0 0 := by
  refine rg_of prog_6_method_4_code 2 (some (.object "RevisionGrove$Fields")) (by decide) rfl (Nat.le_of_ble_eq_true rfl) ?_
  intro p e R s m args below meth c Q A H locs ls hR hQ hx hb hml hr hts hown hlk hnm hP hK hD hA hS hl
  have hl : lv_has ls 2 [(0, .ref ((ad 1))), (1, .int (nI r))] := hl
  have hts : ∀ w ∈ rg_tbl, w.before args s = true := fun w h => hts w (List.mem_cons_of_mem _ h)
  refine lv_aload_n hx hb dR_fields_0 rfl (lv_at hl 0 rfl) ?_
  refine va_get (D := (dC, dI)) (ci := 2) (C := "RevisionGrove$Revisions") (T := TR) (N := 6) hx hb hts inR hown hK hP 1 rfl rfl 0 (by decide) (hts _ tw_44) (fun _ h9 => h9) rfl dR_fields_1 ?_
  refine lv_iload_n hx hb dR_fields_4 rfl (lv_at hl 1 rfl) ?_
  refine gw_recs hx hb hK hP (by omega) dR_fields_5 ?_
  rw [hQ]
  exact rg_aret hx hb hr hlk hK hP hD hS dR_fields_6 rfl
set_option maxHeartbeats 4000000 in
set_option maxRecDepth 100000 in
theorem c_R_firstParent {l : Launch} {dC : Nat → ClassId} {dI : Nat → Nat → Nat} {ad fo fa ur : Nat → Nat} {cI cL cF cA : ClassId} {rec : Nat → Nat → Int64} {fp : Nat → Int32} {sp : Nat → Int32} {an : Nat → Int64} {nn : Nat → Int32} {cnt : Int32} {pt : Nat → Int32} {un : Nat → Nat → Int32} {uc : Nat → Int32} {pr : Int32} {lc : Int32} (r : Nat) (hr6 : r < 60) : rg_M l yR_firstParent (Cond.code yR_firstParent prog_6_method_5_code 2 (some .int) :: rg_tbl) { frames := 0, cells := 0, slots := 0, locals := 0 } (dC, dI) rg_cl (gw_tys cI cL cF cA) (gw_W ad fo fa ur cI cL cF cA rec fp sp an nn cnt pt un uc pr lc) [.ref ((ad 1)), .int (nI r)] (rg_QI (dC, dI) rg_cl (gw_tys cI cL cF cA) (S := Unit) (fun z _ => z = fp r) (fun _ => gw_W ad fo fa ur cI cL cF cA rec fp sp an nn cnt pt un uc pr lc)) 0 0 := by
  refine rg_of prog_6_method_5_code 2 (some .int) (by decide) rfl (Nat.le_of_ble_eq_true rfl) ?_
  intro p e R s m args below meth c Q A H locs ls hR hQ hx hb hml hr hts hown hlk hnm hP hK hD hA hS hl
  have hl : lv_has ls 2 [(0, .ref ((ad 1))), (1, .int (nI r))] := hl
  have hts : ∀ w ∈ rg_tbl, w.before args s = true := fun w h => hts w (List.mem_cons_of_mem _ h)
  refine lv_aload_n hx hb dR_firstParent_0 rfl (lv_at hl 0 rfl) ?_
  refine va_get (D := (dC, dI)) (ci := 2) (C := "RevisionGrove$Revisions") (T := TR) (N := 6) hx hb hts inR hown hK hP 1 rfl rfl 1 (by decide) (hts _ tw_45) (fun _ h9 => h9) rfl dR_firstParent_1 ?_
  refine lv_iload_n hx hb dR_firstParent_4 rfl (lv_at hl 1 rfl) ?_
  refine rg_iald hx hb hK hP 4 0 rfl rfl (by decide) (by omega) dR_firstParent_5 ?_
  rw [hQ]
  exact rg_iret hx hb hr hlk hK hP hD hS dR_firstParent_6 () rfl (rfl)
set_option maxHeartbeats 4000000 in
set_option maxRecDepth 100000 in
theorem c_R_secondParent {l : Launch} {dC : Nat → ClassId} {dI : Nat → Nat → Nat} {ad fo fa ur : Nat → Nat} {cI cL cF cA : ClassId} {rec : Nat → Nat → Int64} {fp : Nat → Int32} {sp : Nat → Int32} {an : Nat → Int64} {nn : Nat → Int32} {cnt : Int32} {pt : Nat → Int32} {un : Nat → Nat → Int32} {uc : Nat → Int32} {pr : Int32} {lc : Int32} (r : Nat) (hr6 : r < 60) : rg_M l yR_secondParent (Cond.code yR_secondParent prog_6_method_6_code 2 (some .int) :: rg_tbl) { frames := 0, cells := 0, slots := 0, locals := 0 } (dC, dI) rg_cl (gw_tys cI cL cF cA) (gw_W ad fo fa ur cI cL cF cA rec fp sp an nn cnt pt un uc pr lc) [.ref ((ad 1)), .int (nI r)] (rg_QI (dC, dI) rg_cl (gw_tys cI cL cF cA) (S := Unit) (fun z _ => z = sp r) (fun _ => gw_W ad fo fa ur cI cL cF cA rec fp sp an nn cnt pt un uc pr lc)) 0 0 := by
  refine rg_of prog_6_method_6_code 2 (some .int) (by decide) rfl (Nat.le_of_ble_eq_true rfl) ?_
  intro p e R s m args below meth c Q A H locs ls hR hQ hx hb hml hr hts hown hlk hnm hP hK hD hA hS hl
  have hl : lv_has ls 2 [(0, .ref ((ad 1))), (1, .int (nI r))] := hl
  have hts : ∀ w ∈ rg_tbl, w.before args s = true := fun w h => hts w (List.mem_cons_of_mem _ h)
  refine lv_aload_n hx hb dR_secondParent_0 rfl (lv_at hl 0 rfl) ?_
  refine va_get (D := (dC, dI)) (ci := 2) (C := "RevisionGrove$Revisions") (T := TR) (N := 6) hx hb hts inR hown hK hP 1 rfl rfl 2 (by decide) (hts _ tw_46) (fun _ h9 => h9) rfl dR_secondParent_1 ?_
  refine lv_iload_n hx hb dR_secondParent_4 rfl (lv_at hl 1 rfl) ?_
  refine rg_iald hx hb hK hP 5 0 rfl rfl (by decide) (by omega) dR_secondParent_5 ?_
  rw [hQ]
  exact rg_iret hx hb hr hlk hK hP hD hS dR_secondParent_6 () rfl (rfl)
set_option maxHeartbeats 4000000 in
set_option maxRecDepth 100000 in
theorem c_R_ancestorsOf {l : Launch} {dC : Nat → ClassId} {dI : Nat → Nat → Nat} {ad fo fa ur : Nat → Nat} {cI cL cF cA : ClassId} {rec : Nat → Nat → Int64} {fp : Nat → Int32} {sp : Nat → Int32} {an : Nat → Int64} {nn : Nat → Int32} {cnt : Int32} {pt : Nat → Int32} {un : Nat → Nat → Int32} {uc : Nat → Int32} {pr : Int32} {lc : Int32} (r : Nat) (hr6 : r < 60) : rg_M l yR_ancestorsOf (Cond.code yR_ancestorsOf prog_6_method_7_code 2 (some .long) :: rg_tbl) { frames := 0, cells := 0, slots := 0, locals := 0 } (dC, dI) rg_cl (gw_tys cI cL cF cA) (gw_W ad fo fa ur cI cL cF cA rec fp sp an nn cnt pt un uc pr lc) [.ref ((ad 1)), .int (nI r)] (rg_QL (dC, dI) rg_cl (gw_tys cI cL cF cA) (S := Unit) (fun z _ => z = an r) (fun _ => gw_W ad fo fa ur cI cL cF cA rec fp sp an nn cnt pt un uc pr lc)) 0 0 := by
  refine rg_of prog_6_method_7_code 2 (some .long) (by decide) rfl (Nat.le_of_ble_eq_true rfl) ?_
  intro p e R s m args below meth c Q A H locs ls hR hQ hx hb hml hr hts hown hlk hnm hP hK hD hA hS hl
  have hl : lv_has ls 2 [(0, .ref ((ad 1))), (1, .int (nI r))] := hl
  have hts : ∀ w ∈ rg_tbl, w.before args s = true := fun w h => hts w (List.mem_cons_of_mem _ h)
  refine lv_aload_n hx hb dR_ancestorsOf_0 rfl (lv_at hl 0 rfl) ?_
  refine va_get (D := (dC, dI)) (ci := 2) (C := "RevisionGrove$Revisions") (T := TR) (N := 6) hx hb hts inR hown hK hP 1 rfl rfl 3 (by decide) (hts _ tw_47) (fun _ h9 => h9) rfl dR_ancestorsOf_1 ?_
  refine lv_iload_n hx hb dR_ancestorsOf_4 rfl (lv_at hl 1 rfl) ?_
  refine rg_lald hx hb hK hP 6 1 rfl rfl (by decide) (by omega) dR_ancestorsOf_5 ?_
  rw [hQ]
  exact rg_lret hx hb hr hlk hK hP hD hS dR_ancestorsOf_6 () rfl (rfl)
set_option maxHeartbeats 4000000 in
set_option maxRecDepth 100000 in
theorem c_R_holds {l : Launch} {dC : Nat → ClassId} {dI : Nat → Nat → Nat} {ad fo fa ur : Nat → Nat} {cI cL cF cA : ClassId} {rec : Nat → Nat → Int64} {fp : Nat → Int32} {sp : Nat → Int32} {an : Nat → Int64} {nn : Nat → Int32} {cnt : Int32} {pt : Nat → Int32} {un : Nat → Nat → Int32} {uc : Nat → Int32} {pr : Int32} {lc : Int32} (z : Int64) (r : Nat) (hr6 : r < 64) : rg_M l yR_holds (Cond.code yR_holds prog_6_method_15_code 3 (some .boolean) :: rg_tbl) { frames := 0, cells := 0, slots := 0, locals := 0 } (dC, dI) rg_cl (gw_tys cI cL cF cA) (gw_W ad fo fa ur cI cL cF cA rec fp sp an nn cnt pt un uc pr lc) [.long z, .int (nI r)] (rg_QI (dC, dI) rg_cl (gw_tys cI cL cF cA) (S := Unit) (fun x _ => x = bif rg_has z r then 1 else 0) (fun _ => gw_W ad fo fa ur cI cL cF cA rec fp sp an nn cnt pt un uc pr lc)) 0 0 := by
  refine rg_of prog_6_method_15_code 3 (some .boolean) (by decide) rfl (Nat.le_of_ble_eq_true rfl) ?_
  intro p e R s m args below meth c Q A H locs ls hR hQ hx hb hml hr hts hown hlk hnm hP hK hD hA hS hl
  have hl : lv_has ls 3 [(0, .long z), (2, .int (nI r))] := hl
  have hts : ∀ w ∈ rg_tbl, w.before args s = true := fun w h => hts w (List.mem_cons_of_mem _ h)
  refine lv_lload_n hx hb dR_holds_0 rfl (lv_at hl 0 rfl) ?_
  refine lv_iload_n hx hb dR_holds_1 rfl (lv_at hl 1 rfl) ?_
  refine lv_lushr (v := (z.toUInt64 >>> ((nI r).toInt64.toUInt64 &&& Int64.toUInt64 63)).toInt64) hx hb dR_holds_2 rfl ?_
  refine lv_lconst (v := 1) hx hb dR_holds_3 (by decide) ?_
  refine lv_land hx hb dR_holds_4 ?_
  refine lv_lconst (v := 0) hx hb dR_holds_5 (by decide) ?_
  refine W.lcmp hx hb dR_holds_6 ?_
  refine lv_if_eq (tgt := 14) hx hb dR_holds_7 (by decide) (fun h1 => ?_) (fun h1 => ?_)
  · refine lv_iconst (v := nI 0) hx hb dR_holds_14 (by decide) ?_
    rw [hQ]
    exact rg_zret hx hb hr hlk hK hP hD hS (by first | exact rg_b01 _ | exact Or.inl rfl | exact Or.inr rfl) dR_holds_15 () rfl (by rw [(rg_cu0 hr6).mp h1]; rfl)
  · refine lv_iconst (v := nI 1) hx hb dR_holds_10 (by decide) ?_
    refine lv_goto (tgt := 15) hx hb dR_holds_11 (by decide) ?_
    rw [hQ]
    exact rg_zret hx hb hr hlk hK hP hD hS (by first | exact rg_b01 _ | exact Or.inl rfl | exact Or.inr rfl) dR_holds_15 () rfl (by rw [rg_bT (b := rg_has z r) (fun q => h1 ((rg_cu0 hr6).mpr q))]; rfl)
set_option maxHeartbeats 4000000 in
set_option maxRecDepth 100000 in
theorem c_R_isAncestor {l : Launch} {dC : Nat → ClassId} {dI : Nat → Nat → Nat} {ad fo fa ur : Nat → Nat} {cI cL cF cA : ClassId} {rec : Nat → Nat → Int64} {fp : Nat → Int32} {sp : Nat → Int32} {an : Nat → Int64} {nn : Nat → Int32} {cnt : Int32} {pt : Nat → Int32} {un : Nat → Nat → Int32} {uc : Nat → Int32} {pr : Int32} {lc : Int32} (r q : Nat) (hr6 : r < 60) (hq6 : q < 60) : rg_M l yR_isAncestor (Cond.code yR_isAncestor prog_6_method_8_code 3 (some .boolean) :: rg_tbl) { frames := 1, cells := 0, slots := 0, locals := 22 } (dC, dI) rg_cl (gw_tys cI cL cF cA) (gw_W ad fo fa ur cI cL cF cA rec fp sp an nn cnt pt un uc pr lc) [.ref ((ad 1)), .int (nI r), .int (nI q)] (rg_QI (dC, dI) rg_cl (gw_tys cI cL cF cA) (S := Unit) (fun x _ => x = bif rg_has (an q) r then 1 else 0) (fun _ => gw_W ad fo fa ur cI cL cF cA rec fp sp an nn cnt pt un uc pr lc)) 0 0 := by
  refine rg_of prog_6_method_8_code 3 (some .boolean) (by decide) rfl (Nat.le_of_ble_eq_true rfl) ?_
  intro p e R s m args below meth c Q A H locs ls hR hQ hx hb hml hr hts hown hlk hnm hP hK hD hA hS hl
  have hl : lv_has ls 3 [(0, .ref ((ad 1))), (1, .int (nI r)), (2, .int (nI q))] := hl
  have hts : ∀ w ∈ rg_tbl, w.before args s = true := fun w h => hts w (List.mem_cons_of_mem _ h)
  refine lv_aload_n hx hb dR_isAncestor_0 rfl (lv_at hl 0 rfl) ?_
  refine va_get (D := (dC, dI)) (ci := 2) (C := "RevisionGrove$Revisions") (T := TR) (N := 6) hx hb hts inR hown hK hP 1 rfl rfl 3 (by decide) (hts _ tw_47) (fun _ h9 => h9) rfl dR_isAncestor_1 ?_
  refine lv_iload_n hx hb dR_isAncestor_4 rfl (lv_at hl 2 rfl) ?_
  refine rg_lald hx hb hK hP 6 1 rfl rfl (by decide) (by omega) dR_isAncestor_5 ?_
  refine lv_iload_n hx hb dR_isAncestor_6 rfl (lv_at hl 1 rfl) ?_
  refine rg_calli hD hS hA (va_runS (As := [.long (an q), .int (nI r)]) (rest := []) ⟨hx, hb, hml, hown, hts⟩ (c_R_holds (an q) r (by omega) _) (va_cwS 2 hts (rg_gSx tw_123 tw_124 tw_2 tw_125) rfl rfl rfl (by decide +kernel) ⟨by rw [hR]; exact Nat.le_of_ble_eq_true rfl, by rw [hR]; exact Nat.le_of_ble_eq_true rfl⟩) (rg_preS rfl hK hP hD) rfl rfl hl.1 rfl (lv_room (Nat.le_of_ble_eq_true rfl)) dR_isAncestor_7 ⟨Nat.zero_le _, Nat.zero_le _⟩) (fun r1 u2 H locs hw3 hP hD hS => ?_)
  subst hw3
  have hP : va_P (dC, dI) rg_cl (gw_W ad fo fa ur cI cL cF cA rec fp sp an nn cnt pt un uc pr lc) H := hP
  have hD : va_D A (gw_W ad fo fa ur cI cL cF cA rec fp sp an nn cnt pt un uc pr lc) := hD
  rw [hQ]
  exact rg_zret hx hb hr hlk hK hP hD hS (by first | exact rg_b01 _ | exact Or.inl rfl | exact Or.inr rfl) dR_isAncestor_10 () rfl (rfl)
set_option maxHeartbeats 4000000 in
set_option maxRecDepth 100000 in
theorem c_R_newNumber_m {l : Launch} {dC : Nat → ClassId} {dI : Nat → Nat → Nat} {ad fo fa ur : Nat → Nat} {cI cL cF cA : ClassId} {rec : Nat → Nat → Int64} {fp : Nat → Int32} {sp : Nat → Int32} {an : Nat → Int64} {nn : Nat → Int32} {cnt : Int32} {pt : Nat → Int32} {un : Nat → Nat → Int32} {uc : Nat → Int32} {pr : Int32} {lc : Int32}  : rg_M l yR_newNumber (Cond.code yR_newNumber prog_6_method_12_code 2 (some .int) :: rg_tbl) { frames := 0, cells := 0, slots := 0, locals := 0 } (dC, dI) rg_cl (gw_tys cI cL cF cA) (gw_W ad fo fa ur cI cL cF cA rec fp sp an nn cnt pt un uc pr lc) [.ref ((ad 1)), .int ((-1))] (rg_QI (dC, dI) rg_cl (gw_tys cI cL cF cA) (S := Unit) (fun z _ => z = rg_nx nn (-1)) (fun _ => gw_W ad fo fa ur cI cL cF cA rec fp sp an nn cnt pt un uc pr lc)) 0 0 := by
  refine rg_of prog_6_method_12_code 2 (some .int) (by decide) rfl (Nat.le_of_ble_eq_true rfl) ?_
  intro p e R s m args below meth c Q A H locs ls hR hQ hx hb hml hr hts hown hlk hnm hP hK hD hA hS hl
  have hl : lv_has ls 2 [(0, .ref ((ad 1))), (1, .int ((-1)))] := hl
  have hts : ∀ w ∈ rg_tbl, w.before args s = true := fun w h => hts w (List.mem_cons_of_mem _ h)
  refine lv_iload_n hx hb dR_newNumber_0 rfl (lv_at hl 1 rfl) ?_
  refine lv_iconst (v := -1) hx hb dR_newNumber_1 (by decide) ?_
  refine lv_icmp_ne (tgt := 9) hx hb dR_newNumber_2 (by decide) (fun h1 => absurd rfl h1) (fun h1 => ?_)
  refine lv_iconst (v := -1) hx hb dR_newNumber_5 (by decide) ?_
  refine lv_goto (tgt := 15) hx hb dR_newNumber_6 (by decide) ?_
  rw [hQ]
  exact rg_iret hx hb hr hlk hK hP hD hS dR_newNumber_15 () rfl ((rg_nx_m nn).symm)
set_option maxHeartbeats 4000000 in
set_option maxRecDepth 100000 in
theorem c_R_newNumber_n {l : Launch} {dC : Nat → ClassId} {dI : Nat → Nat → Nat} {ad fo fa ur : Nat → Nat} {cI cL cF cA : ClassId} {rec : Nat → Nat → Int64} {fp : Nat → Int32} {sp : Nat → Int32} {an : Nat → Int64} {nn : Nat → Int32} {cnt : Int32} {pt : Nat → Int32} {un : Nat → Nat → Int32} {uc : Nat → Int32} {pr : Int32} {lc : Int32} (r : Nat) (hr6 : r < 60) : rg_M l yR_newNumber (Cond.code yR_newNumber prog_6_method_12_code 2 (some .int) :: rg_tbl) { frames := 0, cells := 0, slots := 0, locals := 0 } (dC, dI) rg_cl (gw_tys cI cL cF cA) (gw_W ad fo fa ur cI cL cF cA rec fp sp an nn cnt pt un uc pr lc) [.ref ((ad 1)), .int (nI r)] (rg_QI (dC, dI) rg_cl (gw_tys cI cL cF cA) (S := Unit) (fun z _ => z = rg_nx nn (nI r)) (fun _ => gw_W ad fo fa ur cI cL cF cA rec fp sp an nn cnt pt un uc pr lc)) 0 0 := by
  refine rg_of prog_6_method_12_code 2 (some .int) (by decide) rfl (Nat.le_of_ble_eq_true rfl) ?_
  intro p e R s m args below meth c Q A H locs ls hR hQ hx hb hml hr hts hown hlk hnm hP hK hD hA hS hl
  have hl : lv_has ls 2 [(0, .ref ((ad 1))), (1, .int (nI r))] := hl
  have hts : ∀ w ∈ rg_tbl, w.before args s = true := fun w h => hts w (List.mem_cons_of_mem _ h)
  refine lv_iload_n hx hb dR_newNumber_0 rfl (lv_at hl 1 rfl) ?_
  refine lv_iconst (v := -1) hx hb dR_newNumber_1 (by decide) ?_
  refine lv_icmp_ne (tgt := 9) hx hb dR_newNumber_2 (by decide) (fun h1 => ?_) (fun h1 => absurd h1 (rg_nI_m1 (by omega)))
  refine lv_aload_n hx hb dR_newNumber_9 rfl (lv_at hl 0 rfl) ?_
  refine va_get (D := (dC, dI)) (ci := 2) (C := "RevisionGrove$Revisions") (T := TR) (N := 6) hx hb hts inR hown hK hP 1 rfl rfl 4 (by decide) (hts _ tw_48) (fun _ h9 => h9) rfl dR_newNumber_10 ?_
  refine lv_iload_n hx hb dR_newNumber_13 rfl (lv_at hl 1 rfl) ?_
  refine rg_iald hx hb hK hP 7 0 rfl rfl (by decide) (by omega) dR_newNumber_14 ?_
  rw [hQ]
  exact rg_iret hx hb hr hlk hK hP hD hS dR_newNumber_15 () rfl ((rg_nx_n nn (by omega)).symm)
theorem c_R_newNumber {l : Launch} {dC : Nat → ClassId} {dI : Nat → Nat → Nat} {ad fo fa ur : Nat → Nat} {cI cL cF cA : ClassId} {rec : Nat → Nat → Int64} {fp : Nat → Int32} {sp : Nat → Int32} {an : Nat → Int64} {nn : Nat → Int32} {cnt : Int32} {pt : Nat → Int32} {un : Nat → Nat → Int32} {uc : Nat → Int32} {pr : Int32} {lc : Int32} (x : Int32) (hx9 : x = -1 ∨ ∃ r, r < 60 ∧ x = nI r) : rg_M l yR_newNumber (Cond.code yR_newNumber prog_6_method_12_code 2 (some .int) :: rg_tbl) { frames := 0, cells := 0, slots := 0, locals := 0 } (dC, dI) rg_cl (gw_tys cI cL cF cA) (gw_W ad fo fa ur cI cL cF cA rec fp sp an nn cnt pt un uc pr lc) [.ref ((ad 1)), .int x] (rg_QI (dC, dI) rg_cl (gw_tys cI cL cF cA) (S := Unit) (fun z _ => z = rg_nx nn x) (fun _ => gw_W ad fo fa ur cI cL cF cA rec fp sp an nn cnt pt un uc pr lc)) 0 0 := by
  rcases hx9 with rfl | ⟨r, hr, rfl⟩
  · exact c_R_newNumber_m
  · exact c_R_newNumber_n r hr
set_option maxHeartbeats 4000000 in
set_option maxRecDepth 100000 in
theorem c_R_ancestorsOrNone_m {l : Launch} {dC : Nat → ClassId} {dI : Nat → Nat → Nat} {ad fo fa ur : Nat → Nat} {cI cL cF cA : ClassId} {rec : Nat → Nat → Int64} {fp : Nat → Int32} {sp : Nat → Int32} {an : Nat → Int64} {nn : Nat → Int32} {cnt : Int32} {pt : Nat → Int32} {un : Nat → Nat → Int32} {uc : Nat → Int32} {pr : Int32} {lc : Int32}  : rg_M l yR_ancestorsOrNone (Cond.code yR_ancestorsOrNone prog_6_method_14_code 2 (some .long) :: rg_tbl) { frames := 0, cells := 0, slots := 0, locals := 0 } (dC, dI) rg_cl (gw_tys cI cL cF cA) (gw_W ad fo fa ur cI cL cF cA rec fp sp an nn cnt pt un uc pr lc) [.ref ((ad 1)), .int ((-1))] (rg_QL (dC, dI) rg_cl (gw_tys cI cL cF cA) (S := Unit) (fun z _ => z = rg_ax an (-1)) (fun _ => gw_W ad fo fa ur cI cL cF cA rec fp sp an nn cnt pt un uc pr lc)) 0 0 := by
  refine rg_of prog_6_method_14_code 2 (some .long) (by decide) rfl (Nat.le_of_ble_eq_true rfl) ?_
  intro p e R s m args below meth c Q A H locs ls hR hQ hx hb hml hr hts hown hlk hnm hP hK hD hA hS hl
  have hl : lv_has ls 2 [(0, .ref ((ad 1))), (1, .int ((-1)))] := hl
  have hts : ∀ w ∈ rg_tbl, w.before args s = true := fun w h => hts w (List.mem_cons_of_mem _ h)
  refine lv_iload_n hx hb dR_ancestorsOrNone_0 rfl (lv_at hl 1 rfl) ?_
  refine lv_iconst (v := -1) hx hb dR_ancestorsOrNone_1 (by decide) ?_
  refine lv_icmp_ne (tgt := 9) hx hb dR_ancestorsOrNone_2 (by decide) (fun h1 => absurd rfl h1) (fun h1 => ?_)
  refine lv_lconst (v := 0) hx hb dR_ancestorsOrNone_5 (by decide) ?_
  refine lv_goto (tgt := 15) hx hb dR_ancestorsOrNone_6 (by decide) ?_
  rw [hQ]
  exact rg_lret hx hb hr hlk hK hP hD hS dR_ancestorsOrNone_15 () rfl ((rg_ax_m an).symm)
set_option maxHeartbeats 4000000 in
set_option maxRecDepth 100000 in
theorem c_R_ancestorsOrNone_n {l : Launch} {dC : Nat → ClassId} {dI : Nat → Nat → Nat} {ad fo fa ur : Nat → Nat} {cI cL cF cA : ClassId} {rec : Nat → Nat → Int64} {fp : Nat → Int32} {sp : Nat → Int32} {an : Nat → Int64} {nn : Nat → Int32} {cnt : Int32} {pt : Nat → Int32} {un : Nat → Nat → Int32} {uc : Nat → Int32} {pr : Int32} {lc : Int32} (r : Nat) (hr6 : r < 60) : rg_M l yR_ancestorsOrNone (Cond.code yR_ancestorsOrNone prog_6_method_14_code 2 (some .long) :: rg_tbl) { frames := 0, cells := 0, slots := 0, locals := 0 } (dC, dI) rg_cl (gw_tys cI cL cF cA) (gw_W ad fo fa ur cI cL cF cA rec fp sp an nn cnt pt un uc pr lc) [.ref ((ad 1)), .int (nI r)] (rg_QL (dC, dI) rg_cl (gw_tys cI cL cF cA) (S := Unit) (fun z _ => z = rg_ax an (nI r)) (fun _ => gw_W ad fo fa ur cI cL cF cA rec fp sp an nn cnt pt un uc pr lc)) 0 0 := by
  refine rg_of prog_6_method_14_code 2 (some .long) (by decide) rfl (Nat.le_of_ble_eq_true rfl) ?_
  intro p e R s m args below meth c Q A H locs ls hR hQ hx hb hml hr hts hown hlk hnm hP hK hD hA hS hl
  have hl : lv_has ls 2 [(0, .ref ((ad 1))), (1, .int (nI r))] := hl
  have hts : ∀ w ∈ rg_tbl, w.before args s = true := fun w h => hts w (List.mem_cons_of_mem _ h)
  refine lv_iload_n hx hb dR_ancestorsOrNone_0 rfl (lv_at hl 1 rfl) ?_
  refine lv_iconst (v := -1) hx hb dR_ancestorsOrNone_1 (by decide) ?_
  refine lv_icmp_ne (tgt := 9) hx hb dR_ancestorsOrNone_2 (by decide) (fun h1 => ?_) (fun h1 => absurd h1 (rg_nI_m1 (by omega)))
  refine lv_aload_n hx hb dR_ancestorsOrNone_9 rfl (lv_at hl 0 rfl) ?_
  refine va_get (D := (dC, dI)) (ci := 2) (C := "RevisionGrove$Revisions") (T := TR) (N := 6) hx hb hts inR hown hK hP 1 rfl rfl 3 (by decide) (hts _ tw_47) (fun _ h9 => h9) rfl dR_ancestorsOrNone_10 ?_
  refine lv_iload_n hx hb dR_ancestorsOrNone_13 rfl (lv_at hl 1 rfl) ?_
  refine rg_lald hx hb hK hP 6 1 rfl rfl (by decide) (by omega) dR_ancestorsOrNone_14 ?_
  rw [hQ]
  exact rg_lret hx hb hr hlk hK hP hD hS dR_ancestorsOrNone_15 () rfl ((rg_ax_n an (by omega)).symm)
theorem c_R_ancestorsOrNone {l : Launch} {dC : Nat → ClassId} {dI : Nat → Nat → Nat} {ad fo fa ur : Nat → Nat} {cI cL cF cA : ClassId} {rec : Nat → Nat → Int64} {fp : Nat → Int32} {sp : Nat → Int32} {an : Nat → Int64} {nn : Nat → Int32} {cnt : Int32} {pt : Nat → Int32} {un : Nat → Nat → Int32} {uc : Nat → Int32} {pr : Int32} {lc : Int32} (x : Int32) (hx9 : x = -1 ∨ ∃ r, r < 60 ∧ x = nI r) : rg_M l yR_ancestorsOrNone (Cond.code yR_ancestorsOrNone prog_6_method_14_code 2 (some .long) :: rg_tbl) { frames := 0, cells := 0, slots := 0, locals := 0 } (dC, dI) rg_cl (gw_tys cI cL cF cA) (gw_W ad fo fa ur cI cL cF cA rec fp sp an nn cnt pt un uc pr lc) [.ref ((ad 1)), .int x] (rg_QL (dC, dI) rg_cl (gw_tys cI cL cF cA) (S := Unit) (fun z _ => z = rg_ax an x) (fun _ => gw_W ad fo fa ur cI cL cF cA rec fp sp an nn cnt pt un uc pr lc)) 0 0 := by
  rcases hx9 with rfl | ⟨r, hr, rfl⟩
  · exact c_R_ancestorsOrNone_m
  · exact c_R_ancestorsOrNone_n r hr
set_option maxHeartbeats 4000000 in
set_option maxRecDepth 100000 in
theorem c_R_link {l : Launch} {dC : Nat → ClassId} {dI : Nat → Nat → Nat} {ad fo fa ur : Nat → Nat} {cI cL cF cA : ClassId} {rec : Nat → Nat → Int64} {fp : Nat → Int32} {sp : Nat → Int32} {an : Nat → Int64} {nn : Nat → Int32} {cnt : Int32} {pt : Nat → Int32} {un : Nat → Nat → Int32} {uc : Nat → Int32} {pr : Int32} {lc : Int32} (r : Nat) (hr6 : r < 60) (x y : Int32) (hx9 : x = -1 ∨ ∃ r, r < 60 ∧ x = nI r) (hy9 : y = -1 ∨ ∃ r, r < 60 ∧ y = nI r) : rg_M l yR_link (Cond.code yR_link prog_6_method_13_code 4 none :: rg_tbl) { frames := 1, cells := 0, slots := 0, locals := 21 } (dC, dI) rg_cl (gw_tys cI cL cF cA) (gw_W ad fo fa ur cI cL cF cA rec fp sp an nn cnt pt un uc pr lc) [.ref ((ad 1)), .int (nI r), .int x, .int y] (rg_QV (dC, dI) rg_cl (gw_tys cI cL cF cA) (S := Unit) (fun _ => True) (fun _ => gw_W ad fo fa ur cI cL cF cA rec (upd fp r x) (upd sp r y) (vp_updL an r ((((1 : Int64) <<< ((nI r).toInt64 &&& 63)) ||| (rg_ax an x)) ||| (rg_ax an y))) nn cnt pt un uc pr lc)) 0 0 := by
  refine rg_of prog_6_method_13_code 4 none (by decide) rfl (Nat.le_of_ble_eq_true rfl) ?_
  intro p e R s m args below meth c Q A H locs ls hR hQ hx hb hml hr hts hown hlk hnm hP hK hD hA hS hl
  have hl : lv_has ls 4 [(0, .ref ((ad 1))), (1, .int (nI r)), (2, .int x), (3, .int y)] := hl
  have hts : ∀ w ∈ rg_tbl, w.before args s = true := fun w h => hts w (List.mem_cons_of_mem _ h)
  refine lv_aload_n hx hb dR_link_0 rfl (lv_at hl 0 rfl) ?_
  refine va_get (D := (dC, dI)) (ci := 2) (C := "RevisionGrove$Revisions") (T := TR) (N := 6) hx hb hts inR hown hK hP 1 rfl rfl 1 (by decide) (hts _ tw_45) (fun _ h9 => h9) rfl dR_link_1 ?_
  refine lv_iload_n hx hb dR_link_4 rfl (lv_at hl 1 rfl) ?_
  refine lv_iload_n hx hb dR_link_5 rfl (lv_at hl 2 rfl) ?_
  refine rg_iast hx hb hK hP hD hS 4 0 rfl rfl (by decide) (by omega) dR_link_6 (fun H locs hP hD hS => ?_)
  have hP : va_P (dC, dI) rg_cl (gw_W ad fo fa ur cI cL cF cA rec (upd fp r x) sp an nn cnt pt un uc pr lc) H := hP
  have hD : va_D A (gw_W ad fo fa ur cI cL cF cA rec (upd fp r x) sp an nn cnt pt un uc pr lc) := hD
  refine lv_aload_n hx hb dR_link_7 rfl (lv_at hl 0 rfl) ?_
  refine va_get (D := (dC, dI)) (ci := 2) (C := "RevisionGrove$Revisions") (T := TR) (N := 6) hx hb hts inR hown hK hP 1 rfl rfl 2 (by decide) (hts _ tw_46) (fun _ h9 => h9) rfl dR_link_8 ?_
  refine lv_iload_n hx hb dR_link_11 rfl (lv_at hl 1 rfl) ?_
  refine lv_iload_n hx hb dR_link_12 rfl (lv_at hl 3 rfl) ?_
  refine rg_iast hx hb hK hP hD hS 5 0 rfl rfl (by decide) (by omega) dR_link_13 (fun H locs hP hD hS => ?_)
  have hP : va_P (dC, dI) rg_cl (gw_W ad fo fa ur cI cL cF cA rec (upd fp r x) (upd sp r y) an nn cnt pt un uc pr lc) H := hP
  have hD : va_D A (gw_W ad fo fa ur cI cL cF cA rec (upd fp r x) (upd sp r y) an nn cnt pt un uc pr lc) := hD
  refine lv_aload_n hx hb dR_link_14 rfl (lv_at hl 0 rfl) ?_
  refine va_get (D := (dC, dI)) (ci := 2) (C := "RevisionGrove$Revisions") (T := TR) (N := 6) hx hb hts inR hown hK hP 1 rfl rfl 3 (by decide) (hts _ tw_47) (fun _ h9 => h9) rfl dR_link_15 ?_
  refine lv_iload_n hx hb dR_link_18 rfl (lv_at hl 1 rfl) ?_
  refine lv_lconst (v := 1) hx hb dR_link_19 (by decide) ?_
  refine lv_iload_n hx hb dR_link_20 rfl (lv_at hl 1 rfl) ?_
  refine lv_lshl (v := (1 : Int64) <<< ((nI r).toInt64 &&& 63)) hx hb dR_link_21 rfl ?_
  refine lv_aload_n hx hb dR_link_22 rfl (lv_at hl 0 rfl) ?_
  refine lv_iload_n hx hb dR_link_23 rfl (lv_at hl 2 rfl) ?_
  refine rg_calll hD hS hA (va_runV (As := [.int x]) (rest := [.long ((1 : Int64) <<< ((nI r).toInt64 &&& 63)), .int (nI r), .ref ((ad 6))]) ⟨hx, hb, hml, hown, hts⟩ (c_R_ancestorsOrNone x hx9 _) (cwV 1 hts (rg_gV tw_141 tw_143 ts_R_ancestorsOrNone tw_2 tw_144) rfl rfl rfl (by decide +kernel) ⟨by rw [hR]; exact Nat.le_of_ble_eq_true rfl, by rw [hR]; exact Nat.le_of_ble_eq_true rfl⟩) (rg_preV rfl hK hP hD (ci := 2) (q0 := 1) rfl rfl) rfl rfl hl.1 rfl (lv_room (Nat.le_of_ble_eq_true rfl)) dR_link_24 ⟨Nat.zero_le _, Nat.zero_le _⟩) (fun r1 u2 H locs hw3 hP hD hS => ?_)
  subst hw3
  have hP : va_P (dC, dI) rg_cl (gw_W ad fo fa ur cI cL cF cA rec (upd fp r x) (upd sp r y) an nn cnt pt un uc pr lc) H := hP
  have hD : va_D A (gw_W ad fo fa ur cI cL cF cA rec (upd fp r x) (upd sp r y) an nn cnt pt un uc pr lc) := hD
  refine lv_lor hx hb dR_link_27 ?_
  refine lv_aload_n hx hb dR_link_28 rfl (lv_at hl 0 rfl) ?_
  refine lv_iload_n hx hb dR_link_29 rfl (lv_at hl 3 rfl) ?_
  refine rg_calll hD hS hA (va_runV (As := [.int y]) (rest := [.long (((1 : Int64) <<< ((nI r).toInt64 &&& 63)) ||| (rg_ax an x)), .int (nI r), .ref ((ad 6))]) ⟨hx, hb, hml, hown, hts⟩ (c_R_ancestorsOrNone y hy9 _) (cwV 1 hts (rg_gV tw_141 tw_143 ts_R_ancestorsOrNone tw_2 tw_144) rfl rfl rfl (by decide +kernel) ⟨by rw [hR]; exact Nat.le_of_ble_eq_true rfl, by rw [hR]; exact Nat.le_of_ble_eq_true rfl⟩) (rg_preV rfl hK hP hD (ci := 2) (q0 := 1) rfl rfl) rfl rfl hl.1 rfl (lv_room (Nat.le_of_ble_eq_true rfl)) dR_link_30 ⟨Nat.zero_le _, Nat.zero_le _⟩) (fun r4 u5 H locs hw6 hP hD hS => ?_)
  subst hw6
  have hP : va_P (dC, dI) rg_cl (gw_W ad fo fa ur cI cL cF cA rec (upd fp r x) (upd sp r y) an nn cnt pt un uc pr lc) H := hP
  have hD : va_D A (gw_W ad fo fa ur cI cL cF cA rec (upd fp r x) (upd sp r y) an nn cnt pt un uc pr lc) := hD
  refine lv_lor hx hb dR_link_33 ?_
  refine rg_last hx hb hK hP hD hS 6 1 rfl rfl (by decide) (by omega) dR_link_34 (fun H locs hP hD hS => ?_)
  have hP : va_P (dC, dI) rg_cl (gw_W ad fo fa ur cI cL cF cA rec (upd fp r x) (upd sp r y) (vp_updL an r ((((1 : Int64) <<< ((nI r).toInt64 &&& 63)) ||| (rg_ax an x)) ||| (rg_ax an y))) nn cnt pt un uc pr lc) H := hP
  have hD : va_D A (gw_W ad fo fa ur cI cL cF cA rec (upd fp r x) (upd sp r y) (vp_updL an r ((((1 : Int64) <<< ((nI r).toInt64 &&& 63)) ||| (rg_ax an x)) ||| (rg_ax an y))) nn cnt pt un uc pr lc) := hD
  rw [hQ]
  exact rg_vret hx hb hr hlk hK hP hD hS dR_link_35 () rfl (trivial)
set_option maxHeartbeats 4000000 in
set_option maxRecDepth 100000 in
theorem c_R_make {l : Launch} {dC : Nat → ClassId} {dI : Nat → Nat → Nat} {ad fo fa ur : Nat → Nat} {cI cL cF cA : ClassId} {rec : Nat → Nat → Int64} {fp : Nat → Int32} {sp : Nat → Int32} {an : Nat → Int64} {nn : Nat → Int32} {pt : Nat → Int32} {un : Nat → Nat → Int32} {uc : Nat → Int32} {pr : Int32} {lc : Int32} (n i : Nat) (hn6 : n < 60) (hi : i < 61) (x y : Int32) (hx9 : x = -1 ∨ ∃ r, r < 60 ∧ x = nI r) (hy9 : y = -1 ∨ ∃ r, r < 60 ∧ y = nI r) : rg_M l yR_make (Cond.code yR_make prog_6_method_10_code 5 (some .int) :: rg_tbl) { frames := 2, cells := 0, slots := 0, locals := 51 } (dC, dI) rg_cl (gw_tys cI cL cF cA) (gw_W ad fo fa ur cI cL cF cA rec fp sp an nn (nI n) pt un uc pr lc) [.ref ((ad 1)), .ref ((fo i)), .int x, .int y] (rg_QI (dC, dI) rg_cl (gw_tys cI cL cF cA) (S := Unit) (fun z _ => z = nI n) (fun _ => gw_W ad fo fa ur cI cL cF cA (va_up rec n (va_cpy (rec i) (rec n) 0 0 24)) (upd fp n x) (upd sp n y) (vp_updL an n ((((1 : Int64) <<< ((nI n).toInt64 &&& 63)) ||| (rg_ax an x)) ||| (rg_ax an y))) nn (nI (n + 1)) pt un uc pr lc)) 0 0 := by
  refine rg_of prog_6_method_10_code 5 (some .int) (by decide) rfl (Nat.le_of_ble_eq_true rfl) ?_
  intro p e R s m args below meth c Q A H locs ls hR hQ hx hb hml hr hts hown hlk hnm hP hK hD hA hS hl
  have hl : lv_has ls 5 [(0, .ref ((ad 1))), (1, .ref ((fo i))), (2, .int x), (3, .int y)] := hl
  have hts : ∀ w ∈ rg_tbl, w.before args s = true := fun w h => hts w (List.mem_cons_of_mem _ h)
  refine lv_aload_n hx hb dR_make_0 rfl (lv_at hl 0 rfl) ?_
  refine va_get (D := (dC, dI)) (ci := 2) (C := "RevisionGrove$Revisions") (T := TR) (N := 6) hx hb hts inR hown hK hP 1 rfl rfl 5 (by decide) (hts _ tw_49) (fun _ h9 => h9) rfl dR_make_1 ?_
  refine lv_istore (lv' := [(4, .int (nI n)), (0, .ref ((ad 1))), (1, .ref ((fo i))), (2, .int x), (3, .int y)]) hx hb dR_make_4 hl (by decide) rfl (fun ls hl => ?_)
  refine lv_aload_n hx hb dR_make_6 rfl (lv_at hl 1 rfl) ?_
  refine lv_dup hx hb dR_make_7 rfl ?_
  refine va_get (D := (dC, dI)) (ci := 2) (C := "RevisionGrove$Revisions") (T := TR) (N := 6) hx hb hts inR hown hK hP 1 rfl rfl 5 (by decide) (hts _ tw_49) (fun _ h9 => h9) rfl dR_make_8 ?_
  refine lv_iconst (v := nI 1) hx hb dR_make_11 (by decide) ?_
  refine rg_iadd hx hb dR_make_12 ?_
  refine va_put (D := (dC, dI)) (ci := 2) (v := .int (nI (n + 1))) (ty := .int) (C := "RevisionGrove$Revisions") (T := TR) (N := 6) hx hb hts inR tyR tyR_ok nmR hown hK hP hD hS 1 rfl rfl 5 (by decide) (hts _ tw_49) (fun _ h9 => h9) rfl (by decide +kernel) rfl rfl (Nat.le_of_ble_eq_true rfl) dR_make_13 (fun H locs hP hD hS => ?_)
  have hP : va_P (dC, dI) rg_cl (gw_W ad fo fa ur cI cL cF cA rec fp sp an nn (nI (n + 1)) pt un uc pr lc) H := hP
  have hD : va_D A (gw_W ad fo fa ur cI cL cF cA rec fp sp an nn (nI (n + 1)) pt un uc pr lc) := hD
  refine lv_aload_n hx hb dR_make_16 rfl (lv_at hl 1 rfl) ?_
  refine va_get (D := (dC, dI)) (ci := 2) (C := "RevisionGrove$Revisions") (T := TR) (N := 6) hx hb hts inR hown hK hP 1 rfl rfl 0 (by decide) (hts _ tw_44) (fun _ h9 => h9) rfl dR_make_17 ?_
  refine lv_iload hx hb dR_make_20 (lv_at hl 0 rfl) ?_
  refine gw_recs hx hb hK hP (by omega) dR_make_22 ?_
  refine lv_aload_n hx hb dR_make_23 rfl (lv_at hl 2 rfl) ?_
  refine rg_callv hD hS hA (va_runV (As := [.ref ((fo i))]) (rest := []) ⟨hx, hb, hml, hown, hts⟩ (c_F_takeAll n i (by omega) (by omega) _) (cwV 1 hts (rg_gV tw_126 tw_127 tw_128 tw_3 tw_129) rfl rfl rfl (by decide +kernel) ⟨by rw [hR]; exact Nat.le_of_ble_eq_true rfl, by rw [hR]; exact Nat.le_of_ble_eq_true rfl⟩) (rg_preV rfl hK hP hD (ci := 4) (q0 := (11 + (4 + n))) rfl (gw_obj (by omega))) rfl rfl hl.1 rfl (lv_room (Nat.le_of_ble_eq_true rfl)) dR_make_24 ⟨Nat.zero_le _, Nat.zero_le _⟩) (fun u2 H locs hw3 hP hD hS => ?_)
  have hP : va_P (dC, dI) rg_cl (gw_W ad fo fa ur cI cL cF cA (va_up rec n (va_cpy (rec i) (rec n) 0 0 24)) fp sp an nn (nI (n + 1)) pt un uc pr lc) H := hP
  have hD : va_D A (gw_W ad fo fa ur cI cL cF cA (va_up rec n (va_cpy (rec i) (rec n) 0 0 24)) fp sp an nn (nI (n + 1)) pt un uc pr lc) := hD
  refine lv_aload_n hx hb dR_make_27 rfl (lv_at hl 1 rfl) ?_
  refine lv_iload hx hb dR_make_28 (lv_at hl 0 rfl) ?_
  refine lv_iload_n hx hb dR_make_30 rfl (lv_at hl 3 rfl) ?_
  refine lv_iload_n hx hb dR_make_31 rfl (lv_at hl 4 rfl) ?_
  refine rg_callv hD hS hA (va_runV (As := [.int (nI n), .int x, .int y]) (rest := []) ⟨hx, hb, hml, hown, hts⟩ (c_R_link n (by omega) x y hx9 hy9 _) (cwV 3 hts (rg_gV tw_137 tw_139 ts_R_link tw_2 tw_140) rfl rfl rfl (by decide +kernel) ⟨by rw [hR]; exact Nat.le_of_ble_eq_true rfl, by rw [hR]; exact Nat.le_of_ble_eq_true rfl⟩) (rg_preV rfl hK hP hD (ci := 2) (q0 := 1) rfl rfl) rfl rfl hl.1 rfl (lv_room (Nat.le_of_ble_eq_true rfl)) dR_make_32 ⟨Nat.zero_le _, Nat.zero_le _⟩) (fun u5 H locs hw6 hP hD hS => ?_)
  have hP : va_P (dC, dI) rg_cl (gw_W ad fo fa ur cI cL cF cA (va_up rec n (va_cpy (rec i) (rec n) 0 0 24)) (upd fp n x) (upd sp n y) (vp_updL an n ((((1 : Int64) <<< ((nI n).toInt64 &&& 63)) ||| (rg_ax an x)) ||| (rg_ax an y))) nn (nI (n + 1)) pt un uc pr lc) H := hP
  have hD : va_D A (gw_W ad fo fa ur cI cL cF cA (va_up rec n (va_cpy (rec i) (rec n) 0 0 24)) (upd fp n x) (upd sp n y) (vp_updL an n ((((1 : Int64) <<< ((nI n).toInt64 &&& 63)) ||| (rg_ax an x)) ||| (rg_ax an y))) nn (nI (n + 1)) pt un uc pr lc) := hD
  refine lv_iload hx hb dR_make_35 (lv_at hl 0 rfl) ?_
  rw [hQ]
  exact rg_iret hx hb hr hlk hK hP hD hS dR_make_37 () rfl (rfl)
set_option maxHeartbeats 4000000 in
set_option maxRecDepth 100000 in
theorem c_R_latestShared {l : Launch} {dC : Nat → ClassId} {dI : Nat → Nat → Nat} {ad fo fa ur : Nat → Nat} {cI cL cF cA : ClassId} {rec : Nat → Nat → Int64} {fp : Nat → Int32} {sp : Nat → Int32} {an : Nat → Int64} {nn : Nat → Int32} {cnt : Int32} {pt : Nat → Int32} {un : Nat → Nat → Int32} {uc : Nat → Int32} {pr : Int32} {lc : Int32} (x y : Nat) (hx6 : x < 60) (hy6 : y < 60) (P1 P2 : Nat → Int32) (hax : ∀ j, rg_has (an x) j = true ↔ rg_An P1 P2 x j) (hay : ∀ j, rg_has (an y) j = true ↔ rg_An P1 P2 y j) (h0x : rg_An P1 P2 x 0) (h0y : rg_An P1 P2 y 0) : rg_M l yR_latestShared (Cond.code yR_latestShared prog_6_method_9_code 6 (some .int) :: rg_tbl) { frames := 1, cells := 0, slots := 0, locals := 30 } (dC, dI) rg_cl (gw_tys cI cL cF cA) (gw_W ad fo fa ur cI cL cF cA rec fp sp an nn cnt pt un uc pr lc) [.ref ((ad 1)), .int (nI x), .int (nI y)] (rg_QI (dC, dI) rg_cl (gw_tys cI cL cF cA) (S := Unit) (fun z _ => ∃ r, z = nI r ∧ rg_Bs P1 P2 x y r) (fun _ => gw_W ad fo fa ur cI cL cF cA rec fp sp an nn cnt pt un uc pr lc)) 0 0 := by
  refine rg_of prog_6_method_9_code 6 (some .int) (by decide) rfl (Nat.le_of_ble_eq_true rfl) ?_
  intro p e R s m args below meth c Q A H locs ls hR hQ hx hb hml hr hts hown hlk hnm hP hK hD hA hS hl
  have hl : lv_has ls 6 [(0, .ref ((ad 1))), (1, .int (nI x)), (2, .int (nI y))] := hl
  have hts : ∀ w ∈ rg_tbl, w.before args s = true := fun w h => hts w (List.mem_cons_of_mem _ h)
  have hmm := rg_min_le (Nat.le_refl (rg_min x y))
  refine lv_aload_n hx hb dR_latestShared_0 rfl (lv_at hl 0 rfl) ?_
  refine va_get (D := (dC, dI)) (ci := 2) (C := "RevisionGrove$Revisions") (T := TR) (N := 6) hx hb hts inR hown hK hP 1 rfl rfl 3 (by decide) (hts _ tw_47) (fun _ h9 => h9) rfl dR_latestShared_1 ?_
  refine lv_iload_n hx hb dR_latestShared_4 rfl (lv_at hl 1 rfl) ?_
  refine rg_lald hx hb hK hP 6 1 rfl rfl (by decide) (by omega) dR_latestShared_5 ?_
  refine lv_aload_n hx hb dR_latestShared_6 rfl (lv_at hl 0 rfl) ?_
  refine va_get (D := (dC, dI)) (ci := 2) (C := "RevisionGrove$Revisions") (T := TR) (N := 6) hx hb hts inR hown hK hP 1 rfl rfl 3 (by decide) (hts _ tw_47) (fun _ h9 => h9) rfl dR_latestShared_7 ?_
  refine lv_iload_n hx hb dR_latestShared_10 rfl (lv_at hl 2 rfl) ?_
  refine rg_lald hx hb hK hP 6 1 rfl rfl (by decide) (by omega) dR_latestShared_11 ?_
  refine lv_land hx hb dR_latestShared_12 ?_
  refine lv_lstore_n (lv' := [(3, .long ((an x) &&& (an y))), (0, .ref ((ad 1))), (1, .int (nI x)), (2, .int (nI y))]) hx hb dR_latestShared_13 rfl hl (by decide) rfl (fun ls hl => ?_)
  refine lv_iload_n hx hb dR_latestShared_14 rfl (lv_at hl 2 rfl) ?_
  refine lv_iload_n hx hb dR_latestShared_15 rfl (lv_at hl 3 rfl) ?_
  refine gw_mmin hx hb (hml.trans hl.1.symm) hown (hts _ tw_480) (hts _ tw_481) (hts _ tw_14) (hts _ tw_482) (by rw [hR]; exact Nat.le_of_ble_eq_true rfl) (by rw [hR]; exact Nat.le_of_ble_eq_true rfl) (Nat.zero_le _) (Nat.zero_le _) (by omega) (by omega) dR_latestShared_16 ?_
  refine lv_istore (lv' := [(5, .int (nI (rg_min x y))), (3, .long ((an x) &&& (an y))), (0, .ref ((ad 1))), (1, .int (nI x)), (2, .int (nI y))]) hx hb dR_latestShared_19 hl (by decide) rfl (fun ls hl => ?_)
  have lp21 : ∀ (fuel : Nat) (k : Nat) (H : Heap) (locs : List Loc) (ls : Array Slot), k < fuel → k ≤ rg_min x y → (∀ q, k < q → rg_has (an x &&& an y) q = false) → va_P (dC, dI) rg_cl (gw_W ad fo fa ur cI cL cF cA rec fp sp an nn cnt pt un uc pr lc) H → va_D A (gw_W ad fo fa ur cI cL cF cA rec fp sp an nn cnt pt un uc pr lc) → va_S A s.heap H locs → lv_has ls 6 [(0, .ref ((ad 1))), (3, .long (an x &&& an y)), (5, .int (nI k))] → W p l e R s m args below meth c H locs 0 0 Q (F0 m 21 ls []) := by
    intro fuel
    induction fuel with
    | zero => intro k H locs ls hf; exact absurd hf (Nat.not_lt_zero _)
    | succ fuel ih21 =>
      intro k H locs ls hfu21 hk6 hkz hP hD hS hl
      refine lv_iload hx hb dR_latestShared_21 (lv_at hl 2 rfl) ?_
      refine rg_ifN_le (tgt := 44) hx hb dR_latestShared_23 (by decide) (by omega) (fun h1 => ?_) (fun h1 => ?_)
      · refine lv_iconst (v := nI 0) hx hb dR_latestShared_44 (by decide) ?_
        rw [hQ]
        exact rg_iret hx hb hr hlk hK hP hD hS dR_latestShared_45 () rfl (⟨0, rfl, h0x, h0y, fun q h1 h2 => Nat.le_of_not_lt (fun w9 => by have e9 := hkz q (by omega); rw [rg_has_and, (hax q).mpr h1, (hay q).mpr h2] at e9; cases e9)⟩)
      · refine lv_lload_n hx hb dR_latestShared_26 rfl (lv_at hl 1 rfl) ?_
        refine lv_iload hx hb dR_latestShared_27 (lv_at hl 2 rfl) ?_
        refine rg_calli hD hS hA (va_runS (As := [.long (an x &&& an y), .int (nI k)]) (rest := []) ⟨hx, hb, hml, hown, hts⟩ (c_R_holds (an x &&& an y) k (by omega) _) (va_cwS 2 hts (rg_gSx tw_123 tw_124 tw_2 tw_125) rfl rfl rfl (by decide +kernel) ⟨by rw [hR]; exact Nat.le_of_ble_eq_true rfl, by rw [hR]; exact Nat.le_of_ble_eq_true rfl⟩) (rg_preS rfl hK hP hD) rfl rfl hl.1 rfl (lv_room (Nat.le_of_ble_eq_true rfl)) dR_latestShared_29 ⟨Nat.zero_le _, Nat.zero_le _⟩) (fun r2 u3 H locs hw4 hP hD hS => ?_)
        subst hw4
        have hP : va_P (dC, dI) rg_cl (gw_W ad fo fa ur cI cL cF cA rec fp sp an nn cnt pt un uc pr lc) H := hP
        have hD : va_D A (gw_W ad fo fa ur cI cL cF cA rec fp sp an nn cnt pt un uc pr lc) := hD
        refine rg_ifz_eq (tgt := 38) hx hb dR_latestShared_32 (by decide) (fun h5 => ?_) (fun h5 => ?_)
        · have hzk : rg_has (an x &&& an y) k = false := h5
          refine lv_iinc (k := 2) (v := nI (k - 1)) (lv' := [(5, .int (nI (k - 1))), (0, .ref ((ad 1))), (3, .long (an x &&& an y))]) hx hb dR_latestShared_38 hl rfl (rg_dec (by omega)) (by decide) rfl (fun ls hl => ?_)
          refine lv_goto (tgt := 21) hx hb dR_latestShared_41 (by decide) ?_
          exact ih21 (k - 1) _ _ _ (by omega) (by omega) (fun q hq => by by_cases e9 : q = k; rw [e9]; exact hzk; exact hkz q (by omega)) hP hD hS (lv_sub hl [1, 2, 0] rfl)
        · refine lv_iload hx hb dR_latestShared_35 (lv_at hl 2 rfl) ?_
          rw [hQ]
          exact rg_iret hx hb hr hlk hK hP hD hS dR_latestShared_37 () rfl (⟨k, rfl, (hax k).mp (Bool.and_eq_true_iff.mp ((rg_has_and _ _ _).symm.trans h5)).1, (hay k).mp (Bool.and_eq_true_iff.mp ((rg_has_and _ _ _).symm.trans h5)).2, fun q h1 h2 => Nat.le_of_not_lt (fun w9 => by have e9 := hkz q w9; rw [rg_has_and, (hax q).mpr h1, (hay q).mpr h2] at e9; cases e9)⟩)
  exact lp21 _ (rg_min x y) _ _ _ (Nat.lt_succ_self _) (Nat.le_refl _) (fun q hq => rg_bF (fun w9 => by rw [rg_has_and, Bool.and_eq_true] at w9; have e1 := rg_An_le ((hax q).mp w9.1); have e2 := rg_An_le ((hay q).mp w9.2); have e3 : q ≤ rg_min x y := by { unfold rg_min; split <;> omega }; omega)) hP hD hS (lv_sub hl [2, 1, 0] rfl)
