set_option maxHeartbeats 4000000 in
set_option maxRecDepth 100000 in
theorem c_F_cell {l : Launch} {dC : Nat → ClassId} {dI : Nat → Nat → Nat} {ad fo fa ur : Nat → Nat} {cI cL cF cA : ClassId} {rec : Nat → Nat → Int64} {fp : Nat → Int32} {sp : Nat → Int32} {an : Nat → Int64} {nn : Nat → Int32} {cnt : Int32} {pt : Nat → Int32} {un : Nat → Nat → Int32} {uc : Nat → Int32} {pr : Int32} {lc : Int32} (i f : Nat) (hi : i < 61) (hf : f < 24) : rg_M l yF_cell (Cond.code yF_cell prog_4_method_2_code 2 (some .long) :: rg_tbl) { frames := 0, cells := 0, slots := 0, locals := 0 } (dC, dI) rg_cl (gw_tys cI cL cF cA) (gw_W ad fo fa ur cI cL cF cA rec fp sp an nn cnt pt un uc pr lc) [.ref ((fo i)), .int (nI f)] (rg_QL (dC, dI) rg_cl (gw_tys cI cL cF cA) (S := Unit) (fun z _ => z = rec i f) (fun _ => gw_W ad fo fa ur cI cL cF cA rec fp sp an nn cnt pt un uc pr lc)) 0 0 := by
  refine rg_of prog_4_method_2_code 2 (some .long) (by decide) rfl (Nat.le_of_ble_eq_true rfl) ?_
  intro p e R s m args below meth c Q A H locs ls hR hQ hx hb hml hr hts hown hlk hnm hP hK hD hA hS hl
  have hl : lv_has ls 2 [(0, .ref ((fo i))), (1, .int (nI f))] := hl
  have hts : ∀ w ∈ rg_tbl, w.before args s = true := fun w h => hts w (List.mem_cons_of_mem _ h)
  refine lv_aload_n hx hb dF_cell_0 rfl (lv_at hl 0 rfl) ?_
  refine va_get (D := (dC, dI)) (ci := 4) (C := "RevisionGrove$Fields") (T := TF) (N := 1) hx hb hts inF hown hK hP (11 + (4 + i)) (gw_obj (by omega)) rfl 0 (by decide) (hts _ tw_38) (fun _ h9 => h9) rfl dF_cell_1 ?_
  refine lv_iload_n hx hb dF_cell_4 rfl (lv_at hl 1 rfl) ?_
  refine gw_lald hx hb hK hP (by omega) (by omega) dF_cell_5 ?_
  rw [hQ]
  exact rg_lret hx hb hr hlk hK hP hD hS dF_cell_6 () rfl (rfl)
set_option maxHeartbeats 4000000 in
set_option maxRecDepth 100000 in
theorem c_F_setCell {l : Launch} {dC : Nat → ClassId} {dI : Nat → Nat → Nat} {ad fo fa ur : Nat → Nat} {cI cL cF cA : ClassId} {rec : Nat → Nat → Int64} {fp : Nat → Int32} {sp : Nat → Int32} {an : Nat → Int64} {nn : Nat → Int32} {cnt : Int32} {pt : Nat → Int32} {un : Nat → Nat → Int32} {uc : Nat → Int32} {pr : Int32} {lc : Int32} (i f : Nat) (hi : i < 61) (hf : f < 24) (v : Int64) : rg_M l yF_setCell (Cond.code yF_setCell prog_4_method_3_code 4 none :: rg_tbl) { frames := 0, cells := 0, slots := 0, locals := 0 } (dC, dI) rg_cl (gw_tys cI cL cF cA) (gw_W ad fo fa ur cI cL cF cA rec fp sp an nn cnt pt un uc pr lc) [.ref ((fo i)), .int (nI f), .long v] (rg_QV (dC, dI) rg_cl (gw_tys cI cL cF cA) (S := Unit) (fun _ => True) (fun _ => gw_W ad fo fa ur cI cL cF cA (va_up rec i (vp_updL (rec i) f v)) fp sp an nn cnt pt un uc pr lc)) 0 0 := by
  refine rg_of prog_4_method_3_code 4 none (by decide) rfl (Nat.le_of_ble_eq_true rfl) ?_
  intro p e R s m args below meth c Q A H locs ls hR hQ hx hb hml hr hts hown hlk hnm hP hK hD hA hS hl
  have hl : lv_has ls 4 [(0, .ref ((fo i))), (1, .int (nI f)), (2, .long v)] := hl
  have hts : ∀ w ∈ rg_tbl, w.before args s = true := fun w h => hts w (List.mem_cons_of_mem _ h)
  refine lv_aload_n hx hb dF_setCell_0 rfl (lv_at hl 0 rfl) ?_
  refine va_get (D := (dC, dI)) (ci := 4) (C := "RevisionGrove$Fields") (T := TF) (N := 1) hx hb hts inF hown hK hP (11 + (4 + i)) (gw_obj (by omega)) rfl 0 (by decide) (hts _ tw_38) (fun _ h9 => h9) rfl dF_setCell_1 ?_
  refine lv_iload_n hx hb dF_setCell_4 rfl (lv_at hl 1 rfl) ?_
  refine lv_lload_n hx hb dF_setCell_5 rfl (lv_at hl 2 rfl) ?_
  refine gw_last hx hb hK hP hD hS (by omega) (by omega) dF_setCell_6 (fun H locs hP hD hS => ?_)
  have hP : va_P (dC, dI) rg_cl (gw_W ad fo fa ur cI cL cF cA (va_up rec i (vp_updL (rec i) f v)) fp sp an nn cnt pt un uc pr lc) H := hP
  have hD : va_D A (gw_W ad fo fa ur cI cL cF cA (va_up rec i (vp_updL (rec i) f v)) fp sp an nn cnt pt un uc pr lc) := hD
  rw [hQ]
  exact rg_vret hx hb hr hlk hK hP hD hS dF_setCell_7 () rfl (trivial)
set_option maxHeartbeats 4000000 in
set_option maxRecDepth 100000 in
theorem c_F_length {l : Launch} {dC : Nat → ClassId} {dI : Nat → Nat → Nat} {ad fo fa ur : Nat → Nat} {cI cL cF cA : ClassId} {rec : Nat → Nat → Int64} {fp : Nat → Int32} {sp : Nat → Int32} {an : Nat → Int64} {nn : Nat → Int32} {cnt : Int32} {pt : Nat → Int32} {un : Nat → Nat → Int32} {uc : Nat → Int32} {pr : Int32} {lc : Int32} (i f : Nat) (hi : i < 61) (hf : f < 24) : rg_M l yF_length (Cond.code yF_length prog_4_method_4_code 2 (some .int) :: rg_tbl) { frames := 0, cells := 0, slots := 0, locals := 0 } (dC, dI) rg_cl (gw_tys cI cL cF cA) (gw_W ad fo fa ur cI cL cF cA rec fp sp an nn cnt pt un uc pr lc) [.ref ((fo i)), .int (nI f)] (rg_QI (dC, dI) rg_cl (gw_tys cI cL cF cA) (S := Unit) (fun z _ => z = (rec i f).toInt32) (fun _ => gw_W ad fo fa ur cI cL cF cA rec fp sp an nn cnt pt un uc pr lc)) 0 0 := by
  refine rg_of prog_4_method_4_code 2 (some .int) (by decide) rfl (Nat.le_of_ble_eq_true rfl) ?_
  intro p e R s m args below meth c Q A H locs ls hR hQ hx hb hml hr hts hown hlk hnm hP hK hD hA hS hl
  have hl : lv_has ls 2 [(0, .ref ((fo i))), (1, .int (nI f))] := hl
  have hts : ∀ w ∈ rg_tbl, w.before args s = true := fun w h => hts w (List.mem_cons_of_mem _ h)
  refine lv_aload_n hx hb dF_length_0 rfl (lv_at hl 0 rfl) ?_
  refine va_get (D := (dC, dI)) (ci := 4) (C := "RevisionGrove$Fields") (T := TF) (N := 1) hx hb hts inF hown hK hP (11 + (4 + i)) (gw_obj (by omega)) rfl 0 (by decide) (hts _ tw_38) (fun _ h9 => h9) rfl dF_length_1 ?_
  refine lv_iload_n hx hb dF_length_4 rfl (lv_at hl 1 rfl) ?_
  refine gw_lald hx hb hK hP (by omega) (by omega) dF_length_5 ?_
  refine lv_l2i (v := (rec i f).toInt32) hx hb dF_length_6 rfl ?_
  rw [hQ]
  exact rg_iret hx hb hr hlk hK hP hD hS dF_length_7 () rfl (rfl)
set_option maxHeartbeats 4000000 in
set_option maxRecDepth 100000 in
theorem c_F_firstPlace {l : Launch} {dC : Nat → ClassId} {dI : Nat → Nat → Nat} {ad fo fa ur : Nat → Nat} {cI cL cF cA : ClassId} {rec : Nat → Nat → Int64} {fp : Nat → Int32} {sp : Nat → Int32} {an : Nat → Int64} {nn : Nat → Int32} {cnt : Int32} {pt : Nat → Int32} {un : Nat → Nat → Int32} {uc : Nat → Int32} {pr : Int32} {lc : Int32} (k : Nat) : rg_M l yF_firstPlace (Cond.code yF_firstPlace prog_4_method_17_code 1 (some .int) :: rg_tbl) { frames := 0, cells := 0, slots := 0, locals := 0 } (dC, dI) rg_cl (gw_tys cI cL cF cA) (gw_W ad fo fa ur cI cL cF cA rec fp sp an nn cnt pt un uc pr lc) [.int (nI (k + 6))] (rg_QI (dC, dI) rg_cl (gw_tys cI cL cF cA) (S := Unit) (fun z _ => z = nI (8 + k * 8)) (fun _ => gw_W ad fo fa ur cI cL cF cA rec fp sp an nn cnt pt un uc pr lc)) 0 0 := by
  refine rg_of prog_4_method_17_code 1 (some .int) (by decide) rfl (Nat.le_of_ble_eq_true rfl) ?_
  intro p e R s m args below meth c Q A H locs ls hR hQ hx hb hml hr hts hown hlk hnm hP hK hD hA hS hl
  have hl : lv_has ls 1 [(0, .int (nI (k + 6)))] := hl
  have hts : ∀ w ∈ rg_tbl, w.before args s = true := fun w h => hts w (List.mem_cons_of_mem _ h)
  refine lv_bipush (v := nI 8) hx hb dF_firstPlace_0 (by decide) ?_
  refine lv_iload_n hx hb dF_firstPlace_2 rfl (lv_at hl 0 rfl) ?_
  refine lv_bipush (v := nI 6) hx hb dF_firstPlace_3 (by decide) ?_
  refine rg_isub hx hb dF_firstPlace_5 (by omega) ?_
  refine rg_top (show (.int (nI (k + 6 - 6)) : Value) = .int (nI k) by rw [show k + 6 - 6 = k by omega]) ?_
  refine lv_bipush (v := nI 8) hx hb dF_firstPlace_6 (by decide) ?_
  refine rg_imul hx hb dF_firstPlace_8 ?_
  refine rg_iadd hx hb dF_firstPlace_9 ?_
  rw [hQ]
  exact rg_iret hx hb hr hlk hK hP hD hS dF_firstPlace_10 () rfl (rfl)
set_option maxHeartbeats 4000000 in
set_option maxRecDepth 100000 in
theorem c_F_intAt {l : Launch} {dC : Nat → ClassId} {dI : Nat → Nat → Nat} {ad fo fa ur : Nat → Nat} {cI cL cF cA : ClassId} {rec : Nat → Nat → Int64} {fp : Nat → Int32} {sp : Nat → Int32} {an : Nat → Int64} {nn : Nat → Int32} {cnt : Int32} {pt : Nat → Int32} {un : Nat → Nat → Int32} {uc : Nat → Int32} {pr : Int32} {lc : Int32} (i k q : Nat) (hi : i < 61) (hk : k < 2) (hq : q < 8) : rg_M l yF_intAt (Cond.code yF_intAt prog_4_method_6_code 3 (some .long) :: rg_tbl) { frames := 1, cells := 0, slots := 0, locals := 20 } (dC, dI) rg_cl (gw_tys cI cL cF cA) (gw_W ad fo fa ur cI cL cF cA rec fp sp an nn cnt pt un uc pr lc) [.ref ((fo i)), .int (nI (k + 6)), .int (nI q)] (rg_QL (dC, dI) rg_cl (gw_tys cI cL cF cA) (S := Unit) (fun z _ => z = rec i (8 + k * 8 + q)) (fun _ => gw_W ad fo fa ur cI cL cF cA rec fp sp an nn cnt pt un uc pr lc)) 0 0 := by
  refine rg_of prog_4_method_6_code 3 (some .long) (by decide) rfl (Nat.le_of_ble_eq_true rfl) ?_
  intro p e R s m args below meth c Q A H locs ls hR hQ hx hb hml hr hts hown hlk hnm hP hK hD hA hS hl
  have hl : lv_has ls 3 [(0, .ref ((fo i))), (1, .int (nI (k + 6))), (2, .int (nI q))] := hl
  have hts : ∀ w ∈ rg_tbl, w.before args s = true := fun w h => hts w (List.mem_cons_of_mem _ h)
  refine lv_aload_n hx hb dF_intAt_0 rfl (lv_at hl 0 rfl) ?_
  refine va_get (D := (dC, dI)) (ci := 4) (C := "RevisionGrove$Fields") (T := TF) (N := 1) hx hb hts inF hown hK hP (11 + (4 + i)) (gw_obj (by omega)) rfl 0 (by decide) (hts _ tw_38) (fun _ h9 => h9) rfl dF_intAt_1 ?_
  refine lv_iload_n hx hb dF_intAt_4 rfl (lv_at hl 1 rfl) ?_
  refine rg_calli hD hS hA (va_runS (As := [.int (nI (k + 6))]) (rest := [.ref ((fa i))]) ⟨hx, hb, hml, hown, hts⟩ (c_F_firstPlace k _) (va_cwS 1 hts (rg_gSx tw_256 tw_257 tw_3 tw_258) rfl rfl rfl (by decide +kernel) ⟨by rw [hR]; exact Nat.le_of_ble_eq_true rfl, by rw [hR]; exact Nat.le_of_ble_eq_true rfl⟩) (rg_preS rfl hK hP hD) rfl rfl hl.1 rfl (lv_room (Nat.le_of_ble_eq_true rfl)) dF_intAt_5 ⟨Nat.zero_le _, Nat.zero_le _⟩) (fun r1 u2 H locs hw3 hP hD hS => ?_)
  subst hw3
  have hP : va_P (dC, dI) rg_cl (gw_W ad fo fa ur cI cL cF cA rec fp sp an nn cnt pt un uc pr lc) H := hP
  have hD : va_D A (gw_W ad fo fa ur cI cL cF cA rec fp sp an nn cnt pt un uc pr lc) := hD
  refine lv_iload_n hx hb dF_intAt_8 rfl (lv_at hl 2 rfl) ?_
  refine rg_iadd hx hb dF_intAt_9 ?_
  refine gw_lald hx hb hK hP (by omega) (by omega) dF_intAt_10 ?_
  rw [hQ]
  exact rg_lret hx hb hr hlk hK hP hD hS dF_intAt_11 () rfl (rfl)
set_option maxHeartbeats 4000000 in
set_option maxRecDepth 100000 in
theorem c_F_takeAll {l : Launch} {dC : Nat → ClassId} {dI : Nat → Nat → Nat} {ad fo fa ur : Nat → Nat} {cI cL cF cA : ClassId} {rec : Nat → Nat → Int64} {fp : Nat → Int32} {sp : Nat → Int32} {an : Nat → Int64} {nn : Nat → Int32} {cnt : Int32} {pt : Nat → Int32} {un : Nat → Nat → Int32} {uc : Nat → Int32} {pr : Int32} {lc : Int32} (i j : Nat) (hi : i < 61) (hj : j < 61) : rg_M l yF_takeAll (Cond.code yF_takeAll prog_4_method_15_code 2 none :: rg_tbl) { frames := 1, cells := 0, slots := 0, locals := 30 } (dC, dI) rg_cl (gw_tys cI cL cF cA) (gw_W ad fo fa ur cI cL cF cA rec fp sp an nn cnt pt un uc pr lc) [.ref ((fo i)), .ref ((fo j))] (rg_QV (dC, dI) rg_cl (gw_tys cI cL cF cA) (S := Unit) (fun _ => True) (fun _ => gw_W ad fo fa ur cI cL cF cA (va_up rec i (va_cpy (rec j) (rec i) 0 0 24)) fp sp an nn cnt pt un uc pr lc)) 0 0 := by
  refine rg_of prog_4_method_15_code 2 none (by decide) rfl (Nat.le_of_ble_eq_true rfl) ?_
  intro p e R s m args below meth c Q A H locs ls hR hQ hx hb hml hr hts hown hlk hnm hP hK hD hA hS hl
  have hl : lv_has ls 2 [(0, .ref ((fo i))), (1, .ref ((fo j)))] := hl
  have hts : ∀ w ∈ rg_tbl, w.before args s = true := fun w h => hts w (List.mem_cons_of_mem _ h)
  refine lv_aload_n hx hb dF_takeAll_0 rfl (lv_at hl 1 rfl) ?_
  refine va_get (D := (dC, dI)) (ci := 4) (C := "RevisionGrove$Fields") (T := TF) (N := 1) hx hb hts inF hown hK hP (11 + (4 + j)) (gw_obj (by omega)) rfl 0 (by decide) (hts _ tw_38) (fun _ h9 => h9) rfl dF_takeAll_1 ?_
  refine lv_iconst (v := nI 0) hx hb dF_takeAll_4 (by decide) ?_
  refine lv_aload_n hx hb dF_takeAll_5 rfl (lv_at hl 0 rfl) ?_
  refine va_get (D := (dC, dI)) (ci := 4) (C := "RevisionGrove$Fields") (T := TF) (N := 1) hx hb hts inF hown hK hP (11 + (4 + i)) (gw_obj (by omega)) rfl 0 (by decide) (hts _ tw_38) (fun _ h9 => h9) rfl dF_takeAll_6 ?_
  refine lv_iconst (v := nI 0) hx hb dF_takeAll_9 (by decide) ?_
  refine lv_bipush (v := nI 24) hx hb dF_takeAll_10 (by decide) ?_
  refine gw_copy hx hb (hml.trans hl.1.symm) hown (hts _ tw_130) (hts _ tw_132) (hts _ tw_131) (hts _ tw_10) hK hP hD hS (by omega) (by omega) (by omega) (by omega) (by rw [hR]; exact Nat.le_of_ble_eq_true rfl) (by rw [hR]; exact Nat.le_of_ble_eq_true rfl) dF_takeAll_12 (fun H locs hP hD hS => ?_)
  have hP : va_P (dC, dI) rg_cl (gw_W ad fo fa ur cI cL cF cA (va_up rec i (va_cpy (rec j) (rec i) 0 0 24)) fp sp an nn cnt pt un uc pr lc) H := hP
  have hD : va_D A (gw_W ad fo fa ur cI cL cF cA (va_up rec i (va_cpy (rec j) (rec i) 0 0 24)) fp sp an nn cnt pt un uc pr lc) := hD
  rw [hQ]
  exact rg_vret hx hb hr hlk hK hP hD hS dF_takeAll_15 () rfl (trivial)
