set_option maxHeartbeats 4000000 in
set_option maxRecDepth 100000 in
theorem c_F_insertInt {l : Launch} {dC : Nat → ClassId} {dI : Nat → Nat → Nat} {ad fo fa ur : Nat → Nat} {cI cL cF cA : ClassId} {rec : Nat → Nat → Int64} {fp : Nat → Int32} {sp : Nat → Int32} {an : Nat → Int64} {nn : Nat → Int32} {cnt : Int32} {pt : Nat → Int32} {un : Nat → Nat → Int32} {uc : Nat → Int32} {pr : Int32} {lc : Int32} (i k x : Nat) (hi : i < 61) (hk : k < 2) (v : Int32) (l9 : List Int32) (hl9 : rg_LC (rec i) k l9) (hxl : x ≤ l9.length) (hl8 : l9.length < 8) : rg_M l yF_insertInt (Cond.code yF_insertInt prog_4_method_7_code 5 none :: rg_tbl) { frames := 1, cells := 0, slots := 0, locals := 30 } (dC, dI) rg_cl (gw_tys cI cL cF cA) (gw_W ad fo fa ur cI cL cF cA rec fp sp an nn cnt pt un uc pr lc) [.ref ((fo i)), .int (nI (k + 6)), .int (nI x), .int v] (rg_QV (dC, dI) rg_cl (gw_tys cI cL cF cA) (S := (Nat → Int64)) (fun u => rg_LC u k (rg_insL l9 x v) ∧ rg_Ot k u (rec i)) (fun u => gw_W ad fo fa ur cI cL cF cA (va_up rec i u) fp sp an nn cnt pt un uc pr lc)) 0 0 := by
  refine rg_of prog_4_method_7_code 5 none (by decide) rfl (Nat.le_of_ble_eq_true rfl) ?_
  intro p e R s m args below meth c Q A H locs ls hR hQ hx hb hml hr hts hown hlk hnm hP hK hD hA hS hl
  have hl : lv_has ls 5 [(0, .ref ((fo i))), (1, .int (nI (k + 6))), (2, .int (nI x)), (3, .int v)] := hl
  have hts : ∀ w ∈ rg_tbl, w.before args s = true := fun w h => hts w (List.mem_cons_of_mem _ h)
  have ql1 := hl9.1
  refine lv_iload_n hx hb dF_insertInt_0 rfl (lv_at hl 1 rfl) ?_
  refine rg_calli hD hS hA (va_runS (As := [.int (nI (k + 6))]) (rest := []) ⟨hx, hb, hml, hown, hts⟩ (c_F_firstPlace k _) (va_cwS 1 hts (rg_gSx tw_256 tw_257 tw_3 tw_258) rfl rfl rfl (by decide +kernel) ⟨by rw [hR]; exact Nat.le_of_ble_eq_true rfl, by rw [hR]; exact Nat.le_of_ble_eq_true rfl⟩) (rg_preS rfl hK hP hD) rfl rfl hl.1 rfl (lv_room (Nat.le_of_ble_eq_true rfl)) dF_insertInt_1 ⟨Nat.zero_le _, Nat.zero_le _⟩) (fun r1 u2 H locs hw3 hP hD hS => ?_)
  subst hw3
  have hP : va_P (dC, dI) rg_cl (gw_W ad fo fa ur cI cL cF cA rec fp sp an nn cnt pt un uc pr lc) H := hP
  have hD : va_D A (gw_W ad fo fa ur cI cL cF cA rec fp sp an nn cnt pt un uc pr lc) := hD
  refine lv_iload_n hx hb dF_insertInt_4 rfl (lv_at hl 2 rfl) ?_
  refine rg_iadd hx hb dF_insertInt_5 ?_
  refine lv_istore (lv' := [(4, .int (nI (8 + k * 8 + x))), (0, .ref ((fo i))), (1, .int (nI (k + 6))), (2, .int (nI x)), (3, .int v)]) hx hb dF_insertInt_6 hl (by decide) rfl (fun ls hl => ?_)
  refine lv_aload_n hx hb dF_insertInt_8 rfl (lv_at hl 1 rfl) ?_
  refine va_get (D := (dC, dI)) (ci := 4) (C := "RevisionGrove$Fields") (T := TF) (N := 1) hx hb hts inF hown hK hP (11 + (4 + i)) (gw_obj (by omega)) rfl 0 (by decide) (hts _ tw_38) (fun _ h9 => h9) rfl dF_insertInt_9 ?_
  refine lv_iload hx hb dF_insertInt_12 (lv_at hl 0 rfl) ?_
  refine lv_aload_n hx hb dF_insertInt_14 rfl (lv_at hl 1 rfl) ?_
  refine va_get (D := (dC, dI)) (ci := 4) (C := "RevisionGrove$Fields") (T := TF) (N := 1) hx hb hts inF hown hK hP (11 + (4 + i)) (gw_obj (by omega)) rfl 0 (by decide) (hts _ tw_38) (fun _ h9 => h9) rfl dF_insertInt_15 ?_
  refine lv_iload hx hb dF_insertInt_18 (lv_at hl 0 rfl) ?_
  refine lv_iconst (v := nI 1) hx hb dF_insertInt_20 (by decide) ?_
  refine rg_iadd hx hb dF_insertInt_21 ?_
  refine lv_aload_n hx hb dF_insertInt_22 rfl (lv_at hl 1 rfl) ?_
  refine lv_iload_n hx hb dF_insertInt_23 rfl (lv_at hl 2 rfl) ?_
  refine rg_calli hD hS hA (va_runV (As := [.int (nI (k + 6))]) (rest := [.int (nI (8 + k * 8 + x + 1)), .ref ((fa i)), .int (nI (8 + k * 8 + x)), .ref ((fa i))]) ⟨hx, hb, hml, hown, hts⟩ (c_F_length i (k + 6) (by omega) (by omega) _) (cwV 1 hts (rg_gV tw_348 tw_324 tw_325 tw_3 tw_326) rfl rfl rfl (by decide +kernel) ⟨by rw [hR]; exact Nat.le_of_ble_eq_true rfl, by rw [hR]; exact Nat.le_of_ble_eq_true rfl⟩) (rg_preV rfl hK hP hD (ci := 4) (q0 := (11 + (4 + i))) rfl (gw_obj (by omega))) rfl rfl hl.1 rfl (lv_room (Nat.le_of_ble_eq_true rfl)) dF_insertInt_24 ⟨Nat.zero_le _, Nat.zero_le _⟩) (fun r4 u5 H locs hw6 hP hD hS => ?_)
  subst hw6
  have hP : va_P (dC, dI) rg_cl (gw_W ad fo fa ur cI cL cF cA rec fp sp an nn cnt pt un uc pr lc) H := hP
  have hD : va_D A (gw_W ad fo fa ur cI cL cF cA rec fp sp an nn cnt pt un uc pr lc) := hD
  refine rg_top (show (.int ((rec i (k + 6)).toInt32) : Value) = .int (nI l9.length) by rw [ql1, lN_i]) ?_
  refine lv_iload_n hx hb dF_insertInt_27 rfl (lv_at hl 3 rfl) ?_
  refine rg_isub hx hb dF_insertInt_28 (by omega) ?_
  refine gw_copy hx hb (hml.trans hl.1.symm) hown (hts _ tw_130) (hts _ tw_132) (hts _ tw_131) (hts _ tw_10) hK hP hD hS (by omega) (by omega) (by omega) (by omega) (by rw [hR]; exact Nat.le_of_ble_eq_true rfl) (by rw [hR]; exact Nat.le_of_ble_eq_true rfl) dF_insertInt_29 (fun H locs hP hD hS => ?_)
  have hP : va_P (dC, dI) rg_cl (gw_W ad fo fa ur cI cL cF cA (va_up rec i (va_cpy (rec i) (rec i) (8 + k * 8 + x) (8 + k * 8 + x + 1) (l9.length - x))) fp sp an nn cnt pt un uc pr lc) H := hP
  have hD : va_D A (gw_W ad fo fa ur cI cL cF cA (va_up rec i (va_cpy (rec i) (rec i) (8 + k * 8 + x) (8 + k * 8 + x + 1) (l9.length - x))) fp sp an nn cnt pt un uc pr lc) := hD
  refine lv_aload_n hx hb dF_insertInt_32 rfl (lv_at hl 1 rfl) ?_
  refine va_get (D := (dC, dI)) (ci := 4) (C := "RevisionGrove$Fields") (T := TF) (N := 1) hx hb hts inF hown hK hP (11 + (4 + i)) (gw_obj (by omega)) rfl 0 (by decide) (hts _ tw_38) (fun _ h9 => h9) rfl dF_insertInt_33 ?_
  refine lv_iload hx hb dF_insertInt_36 (lv_at hl 0 rfl) ?_
  refine lv_iload_n hx hb dF_insertInt_38 rfl (lv_at hl 4 rfl) ?_
  refine lv_i2l (v := v.toInt64) hx hb dF_insertInt_39 rfl ?_
  refine gw_last hx hb hK hP hD hS (by omega) (by omega) dF_insertInt_40 (fun H locs hP hD hS => ?_)
  have hP : va_P (dC, dI) rg_cl (gw_W ad fo fa ur cI cL cF cA (va_up (va_up rec i (va_cpy (rec i) (rec i) (8 + k * 8 + x) (8 + k * 8 + x + 1) (l9.length - x))) i (vp_updL ((va_up rec i (va_cpy (rec i) (rec i) (8 + k * 8 + x) (8 + k * 8 + x + 1) (l9.length - x))) i) (8 + k * 8 + x) v.toInt64)) fp sp an nn cnt pt un uc pr lc) H := hP
  have hD : va_D A (gw_W ad fo fa ur cI cL cF cA (va_up (va_up rec i (va_cpy (rec i) (rec i) (8 + k * 8 + x) (8 + k * 8 + x + 1) (l9.length - x))) i (vp_updL ((va_up rec i (va_cpy (rec i) (rec i) (8 + k * 8 + x) (8 + k * 8 + x + 1) (l9.length - x))) i) (8 + k * 8 + x) v.toInt64)) fp sp an nn cnt pt un uc pr lc) := hD
  refine lv_aload_n hx hb dF_insertInt_41 rfl (lv_at hl 1 rfl) ?_
  refine va_get (D := (dC, dI)) (ci := 4) (C := "RevisionGrove$Fields") (T := TF) (N := 1) hx hb hts inF hown hK hP (11 + (4 + i)) (gw_obj (by omega)) rfl 0 (by decide) (hts _ tw_38) (fun _ h9 => h9) rfl dF_insertInt_42 ?_
  refine lv_iload_n hx hb dF_insertInt_45 rfl (lv_at hl 2 rfl) ?_
  refine lv_dup2_11 hx hb dF_insertInt_46 rfl rfl ?_
  refine gw_lald hx hb hK hP (by omega) (by omega) dF_insertInt_47 ?_
  refine lv_lconst (v := 1) hx hb dF_insertInt_48 (by decide) ?_
  refine lv_ladd hx hb dF_insertInt_49 ?_
  refine gw_last hx hb hK hP hD hS (by omega) (by omega) dF_insertInt_50 (fun H locs hP hD hS => ?_)
  have hP : va_P (dC, dI) rg_cl (gw_W ad fo fa ur cI cL cF cA (va_up (va_up (va_up rec i (va_cpy (rec i) (rec i) (8 + k * 8 + x) (8 + k * 8 + x + 1) (l9.length - x))) i (vp_updL ((va_up rec i (va_cpy (rec i) (rec i) (8 + k * 8 + x) (8 + k * 8 + x + 1) (l9.length - x))) i) (8 + k * 8 + x) v.toInt64)) i (vp_updL ((va_up (va_up rec i (va_cpy (rec i) (rec i) (8 + k * 8 + x) (8 + k * 8 + x + 1) (l9.length - x))) i (vp_updL ((va_up rec i (va_cpy (rec i) (rec i) (8 + k * 8 + x) (8 + k * 8 + x + 1) (l9.length - x))) i) (8 + k * 8 + x) v.toInt64)) i) (k + 6) (((va_up (va_up rec i (va_cpy (rec i) (rec i) (8 + k * 8 + x) (8 + k * 8 + x + 1) (l9.length - x))) i (vp_updL ((va_up rec i (va_cpy (rec i) (rec i) (8 + k * 8 + x) (8 + k * 8 + x + 1) (l9.length - x))) i) (8 + k * 8 + x) v.toInt64)) i (k + 6)) + (1 : Int64)))) fp sp an nn cnt pt un uc pr lc) H := hP
  have hD : va_D A (gw_W ad fo fa ur cI cL cF cA (va_up (va_up (va_up rec i (va_cpy (rec i) (rec i) (8 + k * 8 + x) (8 + k * 8 + x + 1) (l9.length - x))) i (vp_updL ((va_up rec i (va_cpy (rec i) (rec i) (8 + k * 8 + x) (8 + k * 8 + x + 1) (l9.length - x))) i) (8 + k * 8 + x) v.toInt64)) i (vp_updL ((va_up (va_up rec i (va_cpy (rec i) (rec i) (8 + k * 8 + x) (8 + k * 8 + x + 1) (l9.length - x))) i (vp_updL ((va_up rec i (va_cpy (rec i) (rec i) (8 + k * 8 + x) (8 + k * 8 + x + 1) (l9.length - x))) i) (8 + k * 8 + x) v.toInt64)) i) (k + 6) (((va_up (va_up rec i (va_cpy (rec i) (rec i) (8 + k * 8 + x) (8 + k * 8 + x + 1) (l9.length - x))) i (vp_updL ((va_up rec i (va_cpy (rec i) (rec i) (8 + k * 8 + x) (8 + k * 8 + x + 1) (l9.length - x))) i) (8 + k * 8 + x) v.toInt64)) i (k + 6)) + (1 : Int64)))) fp sp an nn cnt pt un uc pr lc) := hD
  rw [hQ]
  exact rg_vret hx hb hr hlk hK hP hD hS dF_insertInt_51 (vp_updL ((va_up (va_up rec i (va_cpy (rec i) (rec i) (8 + k * 8 + x) (8 + k * 8 + x + 1) (l9.length - x))) i (vp_updL ((va_up rec i (va_cpy (rec i) (rec i) (8 + k * 8 + x) (8 + k * 8 + x + 1) (l9.length - x))) i) (8 + k * 8 + x) v.toInt64)) i) (k + 6) (((va_up (va_up rec i (va_cpy (rec i) (rec i) (8 + k * 8 + x) (8 + k * 8 + x + 1) (l9.length - x))) i (vp_updL ((va_up rec i (va_cpy (rec i) (rec i) (8 + k * 8 + x) (8 + k * 8 + x + 1) (l9.length - x))) i) (8 + k * 8 + x) v.toInt64)) i (k + 6)) + (1 : Int64))) (by simp only [rg_upup]) (by simp only [rg_ups]; rw [pk_uLn (by omega), pk_cpy_out (by omega), ql1]; exact rg_LC_ins hl9 hk hxl hl8)
set_option maxHeartbeats 4000000 in
set_option maxRecDepth 100000 in
theorem c_F_append {l : Launch} {dC : Nat → ClassId} {dI : Nat → Nat → Nat} {ad fo fa ur : Nat → Nat} {cI cL cF cA : ClassId} {rec : Nat → Nat → Int64} {fp : Nat → Int32} {sp : Nat → Int32} {an : Nat → Int64} {nn : Nat → Int32} {cnt : Int32} {pt : Nat → Int32} {un : Nat → Nat → Int32} {uc : Nat → Int32} {pr : Int32} {lc : Int32} (i j k x y : Nat) (hi : i < 61) (hj : j < 61) (hk : k < 2) (D x9 : List Int32) (hD9 : rg_LC (rec i) k D) (hx9 : rg_LC (rec j) k x9) (hxy : x ≤ y) (hyx : y ≤ x9.length) (hx8 : x9.length ≤ 8) (hl8 : D.length + (y - x) ≤ 8) : rg_M l yF_append (Cond.code yF_append prog_4_method_10_code 6 none :: rg_tbl) { frames := 1, cells := 0, slots := 0, locals := 30 } (dC, dI) rg_cl (gw_tys cI cL cF cA) (gw_W ad fo fa ur cI cL cF cA rec fp sp an nn cnt pt un uc pr lc) [.ref ((fo i)), .int (nI (k + 6)), .ref ((fo j)), .int (nI x), .int (nI y)] (rg_QV (dC, dI) rg_cl (gw_tys cI cL cF cA) (S := (Nat → Int64)) (fun u => rg_LC u k (D ++ rg_sg x9 x y) ∧ rg_Ot k u (rec i)) (fun u => gw_W ad fo fa ur cI cL cF cA (va_up rec i u) fp sp an nn cnt pt un uc pr lc)) 0 0 := by
  refine rg_of prog_4_method_10_code 6 none (by decide) rfl (Nat.le_of_ble_eq_true rfl) ?_
  intro p e R s m args below meth c Q A H locs ls hR hQ hx hb hml hr hts hown hlk hnm hP hK hD hA hS hl
  have hl : lv_has ls 6 [(0, .ref ((fo i))), (1, .int (nI (k + 6))), (2, .ref ((fo j))), (3, .int (nI x)), (4, .int (nI y))] := hl
  have hts : ∀ w ∈ rg_tbl, w.before args s = true := fun w h => hts w (List.mem_cons_of_mem _ h)
  have ql1 := hD9.1
  refine lv_iload_n hx hb dF_append_0 rfl (lv_at hl 1 rfl) ?_
  refine rg_calli hD hS hA (va_runS (As := [.int (nI (k + 6))]) (rest := []) ⟨hx, hb, hml, hown, hts⟩ (c_F_firstPlace k _) (va_cwS 1 hts (rg_gSx tw_256 tw_257 tw_3 tw_258) rfl rfl rfl (by decide +kernel) ⟨by rw [hR]; exact Nat.le_of_ble_eq_true rfl, by rw [hR]; exact Nat.le_of_ble_eq_true rfl⟩) (rg_preS rfl hK hP hD) rfl rfl hl.1 rfl (lv_room (Nat.le_of_ble_eq_true rfl)) dF_append_1 ⟨Nat.zero_le _, Nat.zero_le _⟩) (fun r1 u2 H locs hw3 hP hD hS => ?_)
  subst hw3
  have hP : va_P (dC, dI) rg_cl (gw_W ad fo fa ur cI cL cF cA rec fp sp an nn cnt pt un uc pr lc) H := hP
  have hD : va_D A (gw_W ad fo fa ur cI cL cF cA rec fp sp an nn cnt pt un uc pr lc) := hD
  refine lv_aload_n hx hb dF_append_4 rfl (lv_at hl 0 rfl) ?_
  refine lv_iload_n hx hb dF_append_5 rfl (lv_at hl 1 rfl) ?_
  refine rg_calli hD hS hA (va_runV (As := [.int (nI (k + 6))]) (rest := [.int (nI (8 + k * 8))]) ⟨hx, hb, hml, hown, hts⟩ (c_F_length i (k + 6) (by omega) (by omega) _) (cwV 1 hts (rg_gV tw_348 tw_324 tw_325 tw_3 tw_326) rfl rfl rfl (by decide +kernel) ⟨by rw [hR]; exact Nat.le_of_ble_eq_true rfl, by rw [hR]; exact Nat.le_of_ble_eq_true rfl⟩) (rg_preV rfl hK hP hD (ci := 4) (q0 := (11 + (4 + i))) rfl (gw_obj (by omega))) rfl rfl hl.1 rfl (lv_room (Nat.le_of_ble_eq_true rfl)) dF_append_6 ⟨Nat.zero_le _, Nat.zero_le _⟩) (fun r4 u5 H locs hw6 hP hD hS => ?_)
  subst hw6
  have hP : va_P (dC, dI) rg_cl (gw_W ad fo fa ur cI cL cF cA rec fp sp an nn cnt pt un uc pr lc) H := hP
  have hD : va_D A (gw_W ad fo fa ur cI cL cF cA rec fp sp an nn cnt pt un uc pr lc) := hD
  refine rg_top (show (.int ((rec i (k + 6)).toInt32) : Value) = .int (nI D.length) by rw [ql1, lN_i]) ?_
  refine rg_iadd hx hb dF_append_9 ?_
  refine lv_istore (lv' := [(5, .int (nI (8 + k * 8 + D.length))), (0, .ref ((fo i))), (1, .int (nI (k + 6))), (2, .ref ((fo j))), (3, .int (nI x)), (4, .int (nI y))]) hx hb dF_append_10 hl (by decide) rfl (fun ls hl => ?_)
  refine lv_aload_n hx hb dF_append_12 rfl (lv_at hl 3 rfl) ?_
  refine va_get (D := (dC, dI)) (ci := 4) (C := "RevisionGrove$Fields") (T := TF) (N := 1) hx hb hts inF hown hK hP (11 + (4 + j)) (gw_obj (by omega)) rfl 0 (by decide) (hts _ tw_38) (fun _ h9 => h9) rfl dF_append_13 ?_
  refine lv_iload_n hx hb dF_append_16 rfl (lv_at hl 2 rfl) ?_
  refine rg_calli hD hS hA (va_runS (As := [.int (nI (k + 6))]) (rest := [.ref ((fa j))]) ⟨hx, hb, hml, hown, hts⟩ (c_F_firstPlace k _) (va_cwS 1 hts (rg_gSx tw_256 tw_257 tw_3 tw_258) rfl rfl rfl (by decide +kernel) ⟨by rw [hR]; exact Nat.le_of_ble_eq_true rfl, by rw [hR]; exact Nat.le_of_ble_eq_true rfl⟩) (rg_preS rfl hK hP hD) rfl rfl hl.1 rfl (lv_room (Nat.le_of_ble_eq_true rfl)) dF_append_17 ⟨Nat.zero_le _, Nat.zero_le _⟩) (fun r7 u8 H locs hw9 hP hD hS => ?_)
  subst hw9
  have hP : va_P (dC, dI) rg_cl (gw_W ad fo fa ur cI cL cF cA rec fp sp an nn cnt pt un uc pr lc) H := hP
  have hD : va_D A (gw_W ad fo fa ur cI cL cF cA rec fp sp an nn cnt pt un uc pr lc) := hD
  refine lv_iload_n hx hb dF_append_20 rfl (lv_at hl 4 rfl) ?_
  refine rg_iadd hx hb dF_append_21 ?_
  refine lv_aload_n hx hb dF_append_22 rfl (lv_at hl 1 rfl) ?_
  refine va_get (D := (dC, dI)) (ci := 4) (C := "RevisionGrove$Fields") (T := TF) (N := 1) hx hb hts inF hown hK hP (11 + (4 + i)) (gw_obj (by omega)) rfl 0 (by decide) (hts _ tw_38) (fun _ h9 => h9) rfl dF_append_23 ?_
  refine lv_iload hx hb dF_append_26 (lv_at hl 0 rfl) ?_
  refine lv_iload hx hb dF_append_28 (lv_at hl 5 rfl) ?_
  refine lv_iload_n hx hb dF_append_30 rfl (lv_at hl 4 rfl) ?_
  refine rg_isub hx hb dF_append_31 (by omega) ?_
  refine gw_copy hx hb (hml.trans hl.1.symm) hown (hts _ tw_130) (hts _ tw_132) (hts _ tw_131) (hts _ tw_10) hK hP hD hS (by omega) (by omega) (by omega) (by omega) (by rw [hR]; exact Nat.le_of_ble_eq_true rfl) (by rw [hR]; exact Nat.le_of_ble_eq_true rfl) dF_append_32 (fun H locs hP hD hS => ?_)
  have hP : va_P (dC, dI) rg_cl (gw_W ad fo fa ur cI cL cF cA (va_up rec i (va_cpy (rec j) (rec i) (8 + k * 8 + x) (8 + k * 8 + D.length) (y - x))) fp sp an nn cnt pt un uc pr lc) H := hP
  have hD : va_D A (gw_W ad fo fa ur cI cL cF cA (va_up rec i (va_cpy (rec j) (rec i) (8 + k * 8 + x) (8 + k * 8 + D.length) (y - x))) fp sp an nn cnt pt un uc pr lc) := hD
  refine lv_aload_n hx hb dF_append_35 rfl (lv_at hl 1 rfl) ?_
  refine va_get (D := (dC, dI)) (ci := 4) (C := "RevisionGrove$Fields") (T := TF) (N := 1) hx hb hts inF hown hK hP (11 + (4 + i)) (gw_obj (by omega)) rfl 0 (by decide) (hts _ tw_38) (fun _ h9 => h9) rfl dF_append_36 ?_
  refine lv_iload_n hx hb dF_append_39 rfl (lv_at hl 2 rfl) ?_
  refine lv_dup2_11 hx hb dF_append_40 rfl rfl ?_
  refine gw_lald hx hb hK hP (by omega) (by omega) dF_append_41 ?_
  refine lv_iload hx hb dF_append_42 (lv_at hl 5 rfl) ?_
  refine lv_iload_n hx hb dF_append_44 rfl (lv_at hl 4 rfl) ?_
  refine rg_isub hx hb dF_append_45 (by omega) ?_
  refine lv_i2l (v := (nI (y - x)).toInt64) hx hb dF_append_46 rfl ?_
  refine rg_top (show (.long ((nI (y - x)).toInt64) : Value) = .long (lN (y - x)) by rw [rg_i64_N (by omega)]) ?_
  refine lv_ladd hx hb dF_append_47 ?_
  refine gw_last hx hb hK hP hD hS (by omega) (by omega) dF_append_48 (fun H locs hP hD hS => ?_)
  have hP : va_P (dC, dI) rg_cl (gw_W ad fo fa ur cI cL cF cA (va_up (va_up rec i (va_cpy (rec j) (rec i) (8 + k * 8 + x) (8 + k * 8 + D.length) (y - x))) i (vp_updL ((va_up rec i (va_cpy (rec j) (rec i) (8 + k * 8 + x) (8 + k * 8 + D.length) (y - x))) i) (k + 6) (((va_up rec i (va_cpy (rec j) (rec i) (8 + k * 8 + x) (8 + k * 8 + D.length) (y - x))) i (k + 6)) + (lN (y - x))))) fp sp an nn cnt pt un uc pr lc) H := hP
  have hD : va_D A (gw_W ad fo fa ur cI cL cF cA (va_up (va_up rec i (va_cpy (rec j) (rec i) (8 + k * 8 + x) (8 + k * 8 + D.length) (y - x))) i (vp_updL ((va_up rec i (va_cpy (rec j) (rec i) (8 + k * 8 + x) (8 + k * 8 + D.length) (y - x))) i) (k + 6) (((va_up rec i (va_cpy (rec j) (rec i) (8 + k * 8 + x) (8 + k * 8 + D.length) (y - x))) i (k + 6)) + (lN (y - x))))) fp sp an nn cnt pt un uc pr lc) := hD
  rw [hQ]
  exact rg_vret hx hb hr hlk hK hP hD hS dF_append_49 (vp_updL ((va_up rec i (va_cpy (rec j) (rec i) (8 + k * 8 + x) (8 + k * 8 + D.length) (y - x))) i) (k + 6) (((va_up rec i (va_cpy (rec j) (rec i) (8 + k * 8 + x) (8 + k * 8 + D.length) (y - x))) i (k + 6)) + (lN (y - x)))) (by simp only [rg_upup]) (by simp only [rg_ups]; rw [pk_cpy_out (by omega), ql1]; exact rg_LC_app hD9 hx9 hk hxy hyx hx8 hl8)
