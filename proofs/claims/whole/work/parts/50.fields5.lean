set_option maxHeartbeats 4000000 in
set_option maxRecDepth 100000 in
theorem c_F_removeInt {l : Launch} {dC : Nat → ClassId} {dI : Nat → Nat → Nat} {ad fo fa ur : Nat → Nat} {cI cL cF cA : ClassId} {rec : Nat → Nat → Int64} {fp : Nat → Int32} {sp : Nat → Int32} {an : Nat → Int64} {nn : Nat → Int32} {cnt : Int32} {pt : Nat → Int32} {un : Nat → Nat → Int32} {uc : Nat → Int32} {pr : Int32} {lc : Int32} (i k x : Nat) (hi : i < 61) (hk : k < 2) (l9 : List Int32) (hl9 : rg_LC (rec i) k l9) (hxl : x < l9.length) (hl8 : l9.length ≤ 8) : rg_M l yF_removeInt (Cond.code yF_removeInt prog_4_method_8_code 4 none :: rg_tbl) { frames := 1, cells := 0, slots := 0, locals := 30 } (dC, dI) rg_cl (gw_tys cI cL cF cA) (gw_W ad fo fa ur cI cL cF cA rec fp sp an nn cnt pt un uc pr lc) [.ref ((fo i)), .int (nI (k + 6)), .int (nI x)] (rg_QV (dC, dI) rg_cl (gw_tys cI cL cF cA) (S := (Nat → Int64)) (fun u => rg_LC u k (rg_remL l9 x) ∧ rg_Ot k u (rec i)) (fun u => gw_W ad fo fa ur cI cL cF cA (va_up rec i u) fp sp an nn cnt pt un uc pr lc)) 0 0 := by
  refine rg_of prog_4_method_8_code 4 none (by decide) rfl (Nat.le_of_ble_eq_true rfl) ?_
  intro p e R s m args below meth c Q A H locs ls hR hQ hx hb hml hr hts hown hlk hnm hP hK hD hA hS hl
  have hl : lv_has ls 4 [(0, .ref ((fo i))), (1, .int (nI (k + 6))), (2, .int (nI x))] := hl
  have hts : ∀ w ∈ rg_tbl, w.before args s = true := fun w h => hts w (List.mem_cons_of_mem _ h)
  have ql1 := hl9.1
  have ql2 : rec i (k + 6) - 1 = lN (l9.length - 1) := by rw [ql1]; exact lN_sub (b := 1) (by omega)
  refine lv_iload_n hx hb dF_removeInt_0 rfl (lv_at hl 1 rfl) ?_
  refine rg_calli hD hS hA (va_runS (As := [.int (nI (k + 6))]) (rest := []) ⟨hx, hb, hml, hown, hts⟩ (c_F_firstPlace k _) (va_cwS 1 hts (rg_gSx tw_256 tw_257 tw_3 tw_258) rfl rfl rfl (by decide +kernel) ⟨by rw [hR]; exact Nat.le_of_ble_eq_true rfl, by rw [hR]; exact Nat.le_of_ble_eq_true rfl⟩) (rg_preS rfl hK hP hD) rfl rfl hl.1 rfl (lv_room (Nat.le_of_ble_eq_true rfl)) dF_removeInt_1 ⟨Nat.zero_le _, Nat.zero_le _⟩) (fun r1 u2 H locs hw3 hP hD hS => ?_)
  subst hw3
  have hP : va_P (dC, dI) rg_cl (gw_W ad fo fa ur cI cL cF cA rec fp sp an nn cnt pt un uc pr lc) H := hP
  have hD : va_D A (gw_W ad fo fa ur cI cL cF cA rec fp sp an nn cnt pt un uc pr lc) := hD
  refine lv_iload_n hx hb dF_removeInt_4 rfl (lv_at hl 2 rfl) ?_
  refine rg_iadd hx hb dF_removeInt_5 ?_
  refine lv_istore_n (lv' := [(3, .int (nI (8 + k * 8 + x))), (0, .ref ((fo i))), (1, .int (nI (k + 6))), (2, .int (nI x))]) hx hb dF_removeInt_6 rfl hl (by decide) rfl (fun ls hl => ?_)
  refine lv_aload_n hx hb dF_removeInt_7 rfl (lv_at hl 1 rfl) ?_
  refine va_get (D := (dC, dI)) (ci := 4) (C := "RevisionGrove$Fields") (T := TF) (N := 1) hx hb hts inF hown hK hP (11 + (4 + i)) (gw_obj (by omega)) rfl 0 (by decide) (hts _ tw_38) (fun _ h9 => h9) rfl dF_removeInt_8 ?_
  refine lv_iload_n hx hb dF_removeInt_11 rfl (lv_at hl 2 rfl) ?_
  refine lv_dup2_11 hx hb dF_removeInt_12 rfl rfl ?_
  refine gw_lald hx hb hK hP (by omega) (by omega) dF_removeInt_13 ?_
  refine lv_lconst (v := 1) hx hb dF_removeInt_14 (by decide) ?_
  refine lv_lsub hx hb dF_removeInt_15 ?_
  refine rg_top (show (.long ((rec i (k + 6)) - (1 : Int64)) : Value) = .long (lN (l9.length - 1)) by rw [ql2]) ?_
  refine gw_last hx hb hK hP hD hS (by omega) (by omega) dF_removeInt_16 (fun H locs hP hD hS => ?_)
  have hP : va_P (dC, dI) rg_cl (gw_W ad fo fa ur cI cL cF cA (va_up rec i (vp_updL (rec i) (k + 6) (lN (l9.length - 1)))) fp sp an nn cnt pt un uc pr lc) H := hP
  have hD : va_D A (gw_W ad fo fa ur cI cL cF cA (va_up rec i (vp_updL (rec i) (k + 6) (lN (l9.length - 1)))) fp sp an nn cnt pt un uc pr lc) := hD
  refine lv_aload_n hx hb dF_removeInt_17 rfl (lv_at hl 1 rfl) ?_
  refine va_get (D := (dC, dI)) (ci := 4) (C := "RevisionGrove$Fields") (T := TF) (N := 1) hx hb hts inF hown hK hP (11 + (4 + i)) (gw_obj (by omega)) rfl 0 (by decide) (hts _ tw_38) (fun _ h9 => h9) rfl dF_removeInt_18 ?_
  refine lv_iload_n hx hb dF_removeInt_21 rfl (lv_at hl 0 rfl) ?_
  refine lv_iconst (v := nI 1) hx hb dF_removeInt_22 (by decide) ?_
  refine rg_iadd hx hb dF_removeInt_23 ?_
  refine lv_aload_n hx hb dF_removeInt_24 rfl (lv_at hl 1 rfl) ?_
  refine va_get (D := (dC, dI)) (ci := 4) (C := "RevisionGrove$Fields") (T := TF) (N := 1) hx hb hts inF hown hK hP (11 + (4 + i)) (gw_obj (by omega)) rfl 0 (by decide) (hts _ tw_38) (fun _ h9 => h9) rfl dF_removeInt_25 ?_
  refine lv_iload_n hx hb dF_removeInt_28 rfl (lv_at hl 0 rfl) ?_
  refine lv_aload_n hx hb dF_removeInt_29 rfl (lv_at hl 1 rfl) ?_
  refine lv_iload_n hx hb dF_removeInt_30 rfl (lv_at hl 2 rfl) ?_
  refine rg_calli hD hS hA (va_runV (As := [.int (nI (k + 6))]) (rest := [.int (nI (8 + k * 8 + x)), .ref ((fa i)), .int (nI (8 + k * 8 + x + 1)), .ref ((fa i))]) ⟨hx, hb, hml, hown, hts⟩ (c_F_length i (k + 6) (by omega) (by omega) _) (cwV 1 hts (rg_gV tw_348 tw_324 tw_325 tw_3 tw_326) rfl rfl rfl (by decide +kernel) ⟨by rw [hR]; exact Nat.le_of_ble_eq_true rfl, by rw [hR]; exact Nat.le_of_ble_eq_true rfl⟩) (rg_preV rfl hK hP hD (ci := 4) (q0 := (11 + (4 + i))) rfl (gw_obj (by omega))) rfl rfl hl.1 rfl (lv_room (Nat.le_of_ble_eq_true rfl)) dF_removeInt_31 ⟨Nat.zero_le _, Nat.zero_le _⟩) (fun r4 u5 H locs hw6 hP hD hS => ?_)
  subst hw6
  have hP : va_P (dC, dI) rg_cl (gw_W ad fo fa ur cI cL cF cA (va_up rec i (vp_updL (rec i) (k + 6) (lN (l9.length - 1)))) fp sp an nn cnt pt un uc pr lc) H := hP
  have hD : va_D A (gw_W ad fo fa ur cI cL cF cA (va_up rec i (vp_updL (rec i) (k + 6) (lN (l9.length - 1)))) fp sp an nn cnt pt un uc pr lc) := hD
  refine rg_top (show (.int (((va_up rec i (vp_updL (rec i) (k + 6) (lN (l9.length - 1)))) i (k + 6)).toInt32) : Value) = .int (nI (l9.length - 1)) by rw [rg_ups, pk_uLs, lN_i]) ?_
  refine lv_iload_n hx hb dF_removeInt_34 rfl (lv_at hl 3 rfl) ?_
  refine rg_isub hx hb dF_removeInt_35 (by omega) ?_
  refine gw_copy hx hb (hml.trans hl.1.symm) hown (hts _ tw_130) (hts _ tw_132) (hts _ tw_131) (hts _ tw_10) hK hP hD hS (by omega) (by omega) (by omega) (by omega) (by rw [hR]; exact Nat.le_of_ble_eq_true rfl) (by rw [hR]; exact Nat.le_of_ble_eq_true rfl) dF_removeInt_36 (fun H locs hP hD hS => ?_)
  have hP : va_P (dC, dI) rg_cl (gw_W ad fo fa ur cI cL cF cA (va_up (va_up rec i (vp_updL (rec i) (k + 6) (lN (l9.length - 1)))) i (va_cpy ((va_up rec i (vp_updL (rec i) (k + 6) (lN (l9.length - 1)))) i) ((va_up rec i (vp_updL (rec i) (k + 6) (lN (l9.length - 1)))) i) (8 + k * 8 + x + 1) (8 + k * 8 + x) (l9.length - 1 - x))) fp sp an nn cnt pt un uc pr lc) H := hP
  have hD : va_D A (gw_W ad fo fa ur cI cL cF cA (va_up (va_up rec i (vp_updL (rec i) (k + 6) (lN (l9.length - 1)))) i (va_cpy ((va_up rec i (vp_updL (rec i) (k + 6) (lN (l9.length - 1)))) i) ((va_up rec i (vp_updL (rec i) (k + 6) (lN (l9.length - 1)))) i) (8 + k * 8 + x + 1) (8 + k * 8 + x) (l9.length - 1 - x))) fp sp an nn cnt pt un uc pr lc) := hD
  refine lv_aload_n hx hb dF_removeInt_39 rfl (lv_at hl 1 rfl) ?_
  refine va_get (D := (dC, dI)) (ci := 4) (C := "RevisionGrove$Fields") (T := TF) (N := 1) hx hb hts inF hown hK hP (11 + (4 + i)) (gw_obj (by omega)) rfl 0 (by decide) (hts _ tw_38) (fun _ h9 => h9) rfl dF_removeInt_40 ?_
  refine lv_iload_n hx hb dF_removeInt_43 rfl (lv_at hl 2 rfl) ?_
  refine rg_calli hD hS hA (va_runS (As := [.int (nI (k + 6))]) (rest := [.ref ((fa i))]) ⟨hx, hb, hml, hown, hts⟩ (c_F_firstPlace k _) (va_cwS 1 hts (rg_gSx tw_256 tw_257 tw_3 tw_258) rfl rfl rfl (by decide +kernel) ⟨by rw [hR]; exact Nat.le_of_ble_eq_true rfl, by rw [hR]; exact Nat.le_of_ble_eq_true rfl⟩) (rg_preS rfl hK hP hD) rfl rfl hl.1 rfl (lv_room (Nat.le_of_ble_eq_true rfl)) dF_removeInt_44 ⟨Nat.zero_le _, Nat.zero_le _⟩) (fun r7 u8 H locs hw9 hP hD hS => ?_)
  subst hw9
  have hP : va_P (dC, dI) rg_cl (gw_W ad fo fa ur cI cL cF cA (va_up (va_up rec i (vp_updL (rec i) (k + 6) (lN (l9.length - 1)))) i (va_cpy ((va_up rec i (vp_updL (rec i) (k + 6) (lN (l9.length - 1)))) i) ((va_up rec i (vp_updL (rec i) (k + 6) (lN (l9.length - 1)))) i) (8 + k * 8 + x + 1) (8 + k * 8 + x) (l9.length - 1 - x))) fp sp an nn cnt pt un uc pr lc) H := hP
  have hD : va_D A (gw_W ad fo fa ur cI cL cF cA (va_up (va_up rec i (vp_updL (rec i) (k + 6) (lN (l9.length - 1)))) i (va_cpy ((va_up rec i (vp_updL (rec i) (k + 6) (lN (l9.length - 1)))) i) ((va_up rec i (vp_updL (rec i) (k + 6) (lN (l9.length - 1)))) i) (8 + k * 8 + x + 1) (8 + k * 8 + x) (l9.length - 1 - x))) fp sp an nn cnt pt un uc pr lc) := hD
  refine lv_aload_n hx hb dF_removeInt_47 rfl (lv_at hl 1 rfl) ?_
  refine lv_iload_n hx hb dF_removeInt_48 rfl (lv_at hl 2 rfl) ?_
  refine rg_calli hD hS hA (va_runV (As := [.int (nI (k + 6))]) (rest := [.int (nI (8 + k * 8)), .ref ((fa i))]) ⟨hx, hb, hml, hown, hts⟩ (c_F_length i (k + 6) (by omega) (by omega) _) (cwV 1 hts (rg_gV tw_348 tw_324 tw_325 tw_3 tw_326) rfl rfl rfl (by decide +kernel) ⟨by rw [hR]; exact Nat.le_of_ble_eq_true rfl, by rw [hR]; exact Nat.le_of_ble_eq_true rfl⟩) (rg_preV rfl hK hP hD (ci := 4) (q0 := (11 + (4 + i))) rfl (gw_obj (by omega))) rfl rfl hl.1 rfl (lv_room (Nat.le_of_ble_eq_true rfl)) dF_removeInt_49 ⟨Nat.zero_le _, Nat.zero_le _⟩) (fun r10 u11 H locs hw12 hP hD hS => ?_)
  subst hw12
  have hP : va_P (dC, dI) rg_cl (gw_W ad fo fa ur cI cL cF cA (va_up (va_up rec i (vp_updL (rec i) (k + 6) (lN (l9.length - 1)))) i (va_cpy ((va_up rec i (vp_updL (rec i) (k + 6) (lN (l9.length - 1)))) i) ((va_up rec i (vp_updL (rec i) (k + 6) (lN (l9.length - 1)))) i) (8 + k * 8 + x + 1) (8 + k * 8 + x) (l9.length - 1 - x))) fp sp an nn cnt pt un uc pr lc) H := hP
  have hD : va_D A (gw_W ad fo fa ur cI cL cF cA (va_up (va_up rec i (vp_updL (rec i) (k + 6) (lN (l9.length - 1)))) i (va_cpy ((va_up rec i (vp_updL (rec i) (k + 6) (lN (l9.length - 1)))) i) ((va_up rec i (vp_updL (rec i) (k + 6) (lN (l9.length - 1)))) i) (8 + k * 8 + x + 1) (8 + k * 8 + x) (l9.length - 1 - x))) fp sp an nn cnt pt un uc pr lc) := hD
  refine rg_top (show (.int (((va_up (va_up rec i (vp_updL (rec i) (k + 6) (lN (l9.length - 1)))) i (va_cpy ((va_up rec i (vp_updL (rec i) (k + 6) (lN (l9.length - 1)))) i) ((va_up rec i (vp_updL (rec i) (k + 6) (lN (l9.length - 1)))) i) (8 + k * 8 + x + 1) (8 + k * 8 + x) (l9.length - 1 - x))) i (k + 6)).toInt32) : Value) = .int (nI (l9.length - 1)) by rw [rg_ups, pk_cpy_out (by omega), rg_ups, pk_uLs, lN_i]) ?_
  refine rg_iadd hx hb dF_removeInt_52 ?_
  refine lv_lconst (v := 0) hx hb dF_removeInt_53 (by decide) ?_
  refine gw_last hx hb hK hP hD hS (by omega) (by omega) dF_removeInt_54 (fun H locs hP hD hS => ?_)
  have hP : va_P (dC, dI) rg_cl (gw_W ad fo fa ur cI cL cF cA (va_up (va_up (va_up rec i (vp_updL (rec i) (k + 6) (lN (l9.length - 1)))) i (va_cpy ((va_up rec i (vp_updL (rec i) (k + 6) (lN (l9.length - 1)))) i) ((va_up rec i (vp_updL (rec i) (k + 6) (lN (l9.length - 1)))) i) (8 + k * 8 + x + 1) (8 + k * 8 + x) (l9.length - 1 - x))) i (vp_updL ((va_up (va_up rec i (vp_updL (rec i) (k + 6) (lN (l9.length - 1)))) i (va_cpy ((va_up rec i (vp_updL (rec i) (k + 6) (lN (l9.length - 1)))) i) ((va_up rec i (vp_updL (rec i) (k + 6) (lN (l9.length - 1)))) i) (8 + k * 8 + x + 1) (8 + k * 8 + x) (l9.length - 1 - x))) i) (8 + k * 8 + (l9.length - 1)) (0 : Int64))) fp sp an nn cnt pt un uc pr lc) H := hP
  have hD : va_D A (gw_W ad fo fa ur cI cL cF cA (va_up (va_up (va_up rec i (vp_updL (rec i) (k + 6) (lN (l9.length - 1)))) i (va_cpy ((va_up rec i (vp_updL (rec i) (k + 6) (lN (l9.length - 1)))) i) ((va_up rec i (vp_updL (rec i) (k + 6) (lN (l9.length - 1)))) i) (8 + k * 8 + x + 1) (8 + k * 8 + x) (l9.length - 1 - x))) i (vp_updL ((va_up (va_up rec i (vp_updL (rec i) (k + 6) (lN (l9.length - 1)))) i (va_cpy ((va_up rec i (vp_updL (rec i) (k + 6) (lN (l9.length - 1)))) i) ((va_up rec i (vp_updL (rec i) (k + 6) (lN (l9.length - 1)))) i) (8 + k * 8 + x + 1) (8 + k * 8 + x) (l9.length - 1 - x))) i) (8 + k * 8 + (l9.length - 1)) (0 : Int64))) fp sp an nn cnt pt un uc pr lc) := hD
  rw [hQ]
  exact rg_vret hx hb hr hlk hK hP hD hS dF_removeInt_55 (vp_updL ((va_up (va_up rec i (vp_updL (rec i) (k + 6) (lN (l9.length - 1)))) i (va_cpy ((va_up rec i (vp_updL (rec i) (k + 6) (lN (l9.length - 1)))) i) ((va_up rec i (vp_updL (rec i) (k + 6) (lN (l9.length - 1)))) i) (8 + k * 8 + x + 1) (8 + k * 8 + x) (l9.length - 1 - x))) i) (8 + k * 8 + (l9.length - 1)) (0 : Int64)) (by simp only [rg_upup]) (by simp only [rg_ups]; exact rg_LC_rem hl9 hk hxl hl8)
set_option maxHeartbeats 4000000 in
set_option maxRecDepth 100000 in
theorem c_F_clearList {l : Launch} {dC : Nat → ClassId} {dI : Nat → Nat → Nat} {ad fo fa ur : Nat → Nat} {cI cL cF cA : ClassId} {rec : Nat → Nat → Int64} {fp : Nat → Int32} {sp : Nat → Int32} {an : Nat → Int64} {nn : Nat → Int32} {cnt : Int32} {pt : Nat → Int32} {un : Nat → Nat → Int32} {uc : Nat → Int32} {pr : Int32} {lc : Int32} (i k : Nat) (hi : i < 61) (hk : k < 2) : rg_M l yF_clearList (Cond.code yF_clearList prog_4_method_9_code 3 none :: rg_tbl) { frames := 1, cells := 0, slots := 0, locals := 20 } (dC, dI) rg_cl (gw_tys cI cL cF cA) (gw_W ad fo fa ur cI cL cF cA rec fp sp an nn cnt pt un uc pr lc) [.ref ((fo i)), .int (nI (k + 6))] (rg_QV (dC, dI) rg_cl (gw_tys cI cL cF cA) (S := (Nat → Int64)) (fun u => rg_LC u k ([]) ∧ rg_Ot k u (rec i)) (fun u => gw_W ad fo fa ur cI cL cF cA (va_up rec i u) fp sp an nn cnt pt un uc pr lc)) 0 0 := by
  refine rg_of prog_4_method_9_code 3 none (by decide) rfl (Nat.le_of_ble_eq_true rfl) ?_
  intro p e R s m args below meth c Q A H locs ls hR hQ hx hb hml hr hts hown hlk hnm hP hK hD hA hS hl
  have hl : lv_has ls 3 [(0, .ref ((fo i))), (1, .int (nI (k + 6)))] := hl
  have hts : ∀ w ∈ rg_tbl, w.before args s = true := fun w h => hts w (List.mem_cons_of_mem _ h)
  refine lv_aload_n hx hb dF_clearList_0 rfl (lv_at hl 0 rfl) ?_
  refine va_get (D := (dC, dI)) (ci := 4) (C := "RevisionGrove$Fields") (T := TF) (N := 1) hx hb hts inF hown hK hP (11 + (4 + i)) (gw_obj (by omega)) rfl 0 (by decide) (hts _ tw_38) (fun _ h9 => h9) rfl dF_clearList_1 ?_
  refine lv_iload_n hx hb dF_clearList_4 rfl (lv_at hl 1 rfl) ?_
  refine lv_lconst (v := 0) hx hb dF_clearList_5 (by decide) ?_
  refine gw_last hx hb hK hP hD hS (by omega) (by omega) dF_clearList_6 (fun H locs hP hD hS => ?_)
  have hP : va_P (dC, dI) rg_cl (gw_W ad fo fa ur cI cL cF cA (va_up rec i (vp_updL (rec i) (k + 6) (0 : Int64))) fp sp an nn cnt pt un uc pr lc) H := hP
  have hD : va_D A (gw_W ad fo fa ur cI cL cF cA (va_up rec i (vp_updL (rec i) (k + 6) (0 : Int64))) fp sp an nn cnt pt un uc pr lc) := hD
  refine lv_iconst (v := nI 0) hx hb dF_clearList_7 (by decide) ?_
  refine lv_istore_n (lv' := [(2, .int (nI 0)), (0, .ref ((fo i))), (1, .int (nI (k + 6)))]) hx hb dF_clearList_8 rfl hl (by decide) rfl (fun ls hl => ?_)
  have lp9 : ∀ (fuel : Nat) (n : Nat) (d : Nat → Int64) (H : Heap) (locs : List Loc) (ls : Array Slot), 8 - n < fuel → n ≤ 8 → d (k + 6) = 0 → (∀ q, q < n → d (8 + k * 8 + q) = 0) → rg_Ot k d (rec i) → va_P (dC, dI) rg_cl (gw_W ad fo fa ur cI cL cF cA (va_up rec i d) fp sp an nn cnt pt un uc pr lc) H → va_D A (gw_W ad fo fa ur cI cL cF cA (va_up rec i d) fp sp an nn cnt pt un uc pr lc) → va_S A s.heap H locs → lv_has ls 3 [(0, .ref ((fo i))), (1, .int (nI (k + 6))), (2, .int (nI n))] → W p l e R s m args below meth c H locs 0 0 Q (F0 m 9 ls []) := by
    intro fuel
    induction fuel with
    | zero => intro n d H locs ls hf; exact absurd hf (Nat.not_lt_zero _)
    | succ fuel ih9 =>
      intro n d H locs ls hfu9 hn8 hd0 hd1 hd2 hP hD hS hl
      refine lv_iload_n hx hb dF_clearList_9 rfl (lv_at hl 2 rfl) ?_
      refine lv_bipush (v := nI 8) hx hb dF_clearList_10 (by decide) ?_
      refine rg_icmp_ge (tgt := 33) hx hb dF_clearList_12 (by decide) (by omega) (by omega) (fun h1 => ?_) (fun h1 => ?_)
      · rw [hQ]
        exact rg_vret hx hb hr hlk hK hP hD hS dF_clearList_33 d rfl ⟨⟨hd0, fun q hq => (hd1 q (by omega)).trans rg_i64_0.symm⟩, hd2⟩
      · refine lv_aload_n hx hb dF_clearList_15 rfl (lv_at hl 0 rfl) ?_
        refine va_get (D := (dC, dI)) (ci := 4) (C := "RevisionGrove$Fields") (T := TF) (N := 1) hx hb hts inF hown hK hP (11 + (4 + i)) (gw_obj (by omega)) rfl 0 (by decide) (hts _ tw_38) (fun _ h9 => h9) rfl dF_clearList_16 ?_
        refine lv_iload_n hx hb dF_clearList_19 rfl (lv_at hl 1 rfl) ?_
        refine rg_calli hD hS hA (va_runS (As := [.int (nI (k + 6))]) (rest := [.ref ((fa i))]) ⟨hx, hb, hml, hown, hts⟩ (c_F_firstPlace k _) (va_cwS 1 hts (rg_gSx tw_256 tw_257 tw_3 tw_258) rfl rfl rfl (by decide +kernel) ⟨by rw [hR]; exact Nat.le_of_ble_eq_true rfl, by rw [hR]; exact Nat.le_of_ble_eq_true rfl⟩) (rg_preS rfl hK hP hD) rfl rfl hl.1 rfl (lv_room (Nat.le_of_ble_eq_true rfl)) dF_clearList_20 ⟨Nat.zero_le _, Nat.zero_le _⟩) (fun r2 u3 H locs hw4 hP hD hS => ?_)
        subst hw4
        have hP : va_P (dC, dI) rg_cl (gw_W ad fo fa ur cI cL cF cA (va_up rec i d) fp sp an nn cnt pt un uc pr lc) H := hP
        have hD : va_D A (gw_W ad fo fa ur cI cL cF cA (va_up rec i d) fp sp an nn cnt pt un uc pr lc) := hD
        refine lv_iload_n hx hb dF_clearList_23 rfl (lv_at hl 2 rfl) ?_
        refine rg_iadd hx hb dF_clearList_24 ?_
        refine lv_lconst (v := 0) hx hb dF_clearList_25 (by decide) ?_
        refine gw_last hx hb hK hP hD hS (by omega) (by omega) dF_clearList_26 (fun H locs hP hD hS => ?_)
        have hP : va_P (dC, dI) rg_cl (gw_W ad fo fa ur cI cL cF cA (va_up (va_up rec i d) i (vp_updL ((va_up rec i d) i) (8 + k * 8 + n) (0 : Int64))) fp sp an nn cnt pt un uc pr lc) H := hP
        have hD : va_D A (gw_W ad fo fa ur cI cL cF cA (va_up (va_up rec i d) i (vp_updL ((va_up rec i d) i) (8 + k * 8 + n) (0 : Int64))) fp sp an nn cnt pt un uc pr lc) := hD
        simp only [rg_upup, rg_ups] at hP hD
        have hP : va_P (dC, dI) rg_cl (gw_W ad fo fa ur cI cL cF cA (va_up rec i (vp_updL d (8 + k * 8 + n) (0 : Int64))) fp sp an nn cnt pt un uc pr lc) H := hP
        have hD : va_D A (gw_W ad fo fa ur cI cL cF cA (va_up rec i (vp_updL d (8 + k * 8 + n) (0 : Int64))) fp sp an nn cnt pt un uc pr lc) := hD
        refine lv_iinc (k := 2) (v := nI (n + 1)) (lv' := [(2, .int (nI (n + 1))), (0, .ref ((fo i))), (1, .int (nI (k + 6)))]) hx hb dF_clearList_27 hl rfl (nI_1 _) (by decide) rfl (fun ls hl => ?_)
        refine lv_goto (tgt := 9) hx hb dF_clearList_30 (by decide) ?_
        exact ih9 (n + 1) (vp_updL d (8 + k * 8 + n) (0 : Int64)) _ _ _ (by omega) (by omega) (by rw [pk_uLn (by omega)]; exact hd0) (lt_s (fun q hq => by rw [pk_uLn (by omega)]; exact hd1 q hq) pk_uLs) (fun x h1 h2 => by rw [pk_uLn (by omega)]; exact hd2 x h1 h2) hP hD hS (lv_sub hl [1, 2, 0] rfl)
  exact lp9 _ 0 (vp_updL (rec i) (k + 6) (0 : Int64)) _ _ _ (Nat.lt_succ_self _) (Nat.zero_le _) pk_uLs (fun q hq => absurd hq (Nat.not_lt_zero q)) (fun x h1 h2 => pk_uLn h1) hP hD hS (lv_sub hl [1, 2, 0] rfl)
set_option maxHeartbeats 4000000 in
set_option maxRecDepth 100000 in
theorem c_F_take_lo {l : Launch} {dC : Nat → ClassId} {dI : Nat → Nat → Nat} {ad fo fa ur : Nat → Nat} {cI cL cF cA : ClassId} {rec : Nat → Nat → Int64} {fp : Nat → Int32} {sp : Nat → Int32} {an : Nat → Int64} {nn : Nat → Int32} {cnt : Int32} {pt : Nat → Int32} {un : Nat → Nat → Int32} {uc : Nat → Int32} {pr : Int32} {lc : Int32} (i j f : Nat) (hi : i < 61) (hj : j < 61) (hf6 : f < 6) : rg_M l yF_take (Cond.code yF_take prog_4_method_14_code 3 none :: rg_tbl) { frames := 1, cells := 0, slots := 0, locals := 30 } (dC, dI) rg_cl (gw_tys cI cL cF cA) (gw_W ad fo fa ur cI cL cF cA rec fp sp an nn cnt pt un uc pr lc) [.ref ((fo i)), .ref ((fo j)), .int (nI f)] (rg_QV (dC, dI) rg_cl (gw_tys cI cL cF cA) (S := Unit) (fun _ => True) (fun _ => gw_W ad fo fa ur cI cL cF cA (va_up rec i (vp_updL (rec i) f (rec j f))) fp sp an nn cnt pt un uc pr lc)) 0 0 := by
  refine rg_of prog_4_method_14_code 3 none (by decide) rfl (Nat.le_of_ble_eq_true rfl) ?_
  intro p e R s m args below meth c Q A H locs ls hR hQ hx hb hml hr hts hown hlk hnm hP hK hD hA hS hl
  have hl : lv_has ls 3 [(0, .ref ((fo i))), (1, .ref ((fo j))), (2, .int (nI f))] := hl
  have hts : ∀ w ∈ rg_tbl, w.before args s = true := fun w h => hts w (List.mem_cons_of_mem _ h)
  refine lv_aload_n hx hb dF_take_0 rfl (lv_at hl 0 rfl) ?_
  refine va_get (D := (dC, dI)) (ci := 4) (C := "RevisionGrove$Fields") (T := TF) (N := 1) hx hb hts inF hown hK hP (11 + (4 + i)) (gw_obj (by omega)) rfl 0 (by decide) (hts _ tw_38) (fun _ h9 => h9) rfl dF_take_1 ?_
  refine lv_iload_n hx hb dF_take_4 rfl (lv_at hl 2 rfl) ?_
  refine lv_aload_n hx hb dF_take_5 rfl (lv_at hl 1 rfl) ?_
  refine va_get (D := (dC, dI)) (ci := 4) (C := "RevisionGrove$Fields") (T := TF) (N := 1) hx hb hts inF hown hK hP (11 + (4 + j)) (gw_obj (by omega)) rfl 0 (by decide) (hts _ tw_38) (fun _ h9 => h9) rfl dF_take_6 ?_
  refine lv_iload_n hx hb dF_take_9 rfl (lv_at hl 2 rfl) ?_
  refine gw_lald hx hb hK hP (by omega) (by omega) dF_take_10 ?_
  refine gw_last hx hb hK hP hD hS (by omega) (by omega) dF_take_11 (fun H locs hP hD hS => ?_)
  have hP : va_P (dC, dI) rg_cl (gw_W ad fo fa ur cI cL cF cA (va_up rec i (vp_updL (rec i) f (rec j f))) fp sp an nn cnt pt un uc pr lc) H := hP
  have hD : va_D A (gw_W ad fo fa ur cI cL cF cA (va_up rec i (vp_updL (rec i) f (rec j f))) fp sp an nn cnt pt un uc pr lc) := hD
  refine lv_iload_n hx hb dF_take_12 rfl (lv_at hl 2 rfl) ?_
  refine lv_bipush (v := nI 6) hx hb dF_take_13 (by decide) ?_
  refine rg_icmp_lt (tgt := 39) hx hb dF_take_15 (by decide) (by omega) (by omega) (fun h1 => ?_) (fun h1 => by exfalso; omega)
  rw [hQ]
  exact rg_vret hx hb hr hlk hK hP hD hS dF_take_39 () rfl (trivial)
set_option maxHeartbeats 4000000 in
set_option maxRecDepth 100000 in
theorem c_F_take_hi {l : Launch} {dC : Nat → ClassId} {dI : Nat → Nat → Nat} {ad fo fa ur : Nat → Nat} {cI cL cF cA : ClassId} {rec : Nat → Nat → Int64} {fp : Nat → Int32} {sp : Nat → Int32} {an : Nat → Int64} {nn : Nat → Int32} {cnt : Int32} {pt : Nat → Int32} {un : Nat → Nat → Int32} {uc : Nat → Int32} {pr : Int32} {lc : Int32} (i j k : Nat) (hi : i < 61) (hj : j < 61) (hij : j ≠ i) (hk : k < 2) (x9 : List Int32) (hx9 : rg_LC (rec j) k x9) : rg_M l yF_take (Cond.code yF_take prog_4_method_14_code 3 none :: rg_tbl) { frames := 1, cells := 0, slots := 0, locals := 30 } (dC, dI) rg_cl (gw_tys cI cL cF cA) (gw_W ad fo fa ur cI cL cF cA rec fp sp an nn cnt pt un uc pr lc) [.ref ((fo i)), .ref ((fo j)), .int (nI (k + 6))] (rg_QV (dC, dI) rg_cl (gw_tys cI cL cF cA) (S := (Nat → Int64)) (fun u => rg_LC u k (x9) ∧ rg_Ot k u (rec i)) (fun u => gw_W ad fo fa ur cI cL cF cA (va_up rec i u) fp sp an nn cnt pt un uc pr lc)) 0 0 := by
  refine rg_of prog_4_method_14_code 3 none (by decide) rfl (Nat.le_of_ble_eq_true rfl) ?_
  intro p e R s m args below meth c Q A H locs ls hR hQ hx hb hml hr hts hown hlk hnm hP hK hD hA hS hl
  have hl : lv_has ls 3 [(0, .ref ((fo i))), (1, .ref ((fo j))), (2, .int (nI (k + 6)))] := hl
  have hts : ∀ w ∈ rg_tbl, w.before args s = true := fun w h => hts w (List.mem_cons_of_mem _ h)
  refine lv_aload_n hx hb dF_take_0 rfl (lv_at hl 0 rfl) ?_
  refine va_get (D := (dC, dI)) (ci := 4) (C := "RevisionGrove$Fields") (T := TF) (N := 1) hx hb hts inF hown hK hP (11 + (4 + i)) (gw_obj (by omega)) rfl 0 (by decide) (hts _ tw_38) (fun _ h9 => h9) rfl dF_take_1 ?_
  refine lv_iload_n hx hb dF_take_4 rfl (lv_at hl 2 rfl) ?_
  refine lv_aload_n hx hb dF_take_5 rfl (lv_at hl 1 rfl) ?_
  refine va_get (D := (dC, dI)) (ci := 4) (C := "RevisionGrove$Fields") (T := TF) (N := 1) hx hb hts inF hown hK hP (11 + (4 + j)) (gw_obj (by omega)) rfl 0 (by decide) (hts _ tw_38) (fun _ h9 => h9) rfl dF_take_6 ?_
  refine lv_iload_n hx hb dF_take_9 rfl (lv_at hl 2 rfl) ?_
  refine gw_lald hx hb hK hP (by omega) (by omega) dF_take_10 ?_
  refine gw_last hx hb hK hP hD hS (by omega) (by omega) dF_take_11 (fun H locs hP hD hS => ?_)
  have hP : va_P (dC, dI) rg_cl (gw_W ad fo fa ur cI cL cF cA (va_up rec i (vp_updL (rec i) (k + 6) (rec j (k + 6)))) fp sp an nn cnt pt un uc pr lc) H := hP
  have hD : va_D A (gw_W ad fo fa ur cI cL cF cA (va_up rec i (vp_updL (rec i) (k + 6) (rec j (k + 6)))) fp sp an nn cnt pt un uc pr lc) := hD
  refine lv_iload_n hx hb dF_take_12 rfl (lv_at hl 2 rfl) ?_
  refine lv_bipush (v := nI 6) hx hb dF_take_13 (by decide) ?_
  refine rg_icmp_lt (tgt := 39) hx hb dF_take_15 (by decide) (by omega) (by omega) (fun h1 => by exfalso; omega) (fun h1 => ?_)
  refine lv_aload_n hx hb dF_take_18 rfl (lv_at hl 1 rfl) ?_
  refine va_get (D := (dC, dI)) (ci := 4) (C := "RevisionGrove$Fields") (T := TF) (N := 1) hx hb hts inF hown hK hP (11 + (4 + j)) (gw_obj (by omega)) rfl 0 (by decide) (hts _ tw_38) (fun _ h9 => h9) rfl dF_take_19 ?_
  refine lv_iload_n hx hb dF_take_22 rfl (lv_at hl 2 rfl) ?_
  refine rg_calli hD hS hA (va_runS (As := [.int (nI (k + 6))]) (rest := [.ref ((fa j))]) ⟨hx, hb, hml, hown, hts⟩ (c_F_firstPlace k _) (va_cwS 1 hts (rg_gSx tw_256 tw_257 tw_3 tw_258) rfl rfl rfl (by decide +kernel) ⟨by rw [hR]; exact Nat.le_of_ble_eq_true rfl, by rw [hR]; exact Nat.le_of_ble_eq_true rfl⟩) (rg_preS rfl hK hP hD) rfl rfl hl.1 rfl (lv_room (Nat.le_of_ble_eq_true rfl)) dF_take_23 ⟨Nat.zero_le _, Nat.zero_le _⟩) (fun r2 u3 H locs hw4 hP hD hS => ?_)
  subst hw4
  have hP : va_P (dC, dI) rg_cl (gw_W ad fo fa ur cI cL cF cA (va_up rec i (vp_updL (rec i) (k + 6) (rec j (k + 6)))) fp sp an nn cnt pt un uc pr lc) H := hP
  have hD : va_D A (gw_W ad fo fa ur cI cL cF cA (va_up rec i (vp_updL (rec i) (k + 6) (rec j (k + 6)))) fp sp an nn cnt pt un uc pr lc) := hD
  refine lv_aload_n hx hb dF_take_26 rfl (lv_at hl 0 rfl) ?_
  refine va_get (D := (dC, dI)) (ci := 4) (C := "RevisionGrove$Fields") (T := TF) (N := 1) hx hb hts inF hown hK hP (11 + (4 + i)) (gw_obj (by omega)) rfl 0 (by decide) (hts _ tw_38) (fun _ h9 => h9) rfl dF_take_27 ?_
  refine lv_iload_n hx hb dF_take_30 rfl (lv_at hl 2 rfl) ?_
  refine rg_calli hD hS hA (va_runS (As := [.int (nI (k + 6))]) (rest := [.ref ((fa i)), .int (nI (8 + k * 8)), .ref ((fa j))]) ⟨hx, hb, hml, hown, hts⟩ (c_F_firstPlace k _) (va_cwS 1 hts (rg_gSx tw_256 tw_257 tw_3 tw_258) rfl rfl rfl (by decide +kernel) ⟨by rw [hR]; exact Nat.le_of_ble_eq_true rfl, by rw [hR]; exact Nat.le_of_ble_eq_true rfl⟩) (rg_preS rfl hK hP hD) rfl rfl hl.1 rfl (lv_room (Nat.le_of_ble_eq_true rfl)) dF_take_31 ⟨Nat.zero_le _, Nat.zero_le _⟩) (fun r5 u6 H locs hw7 hP hD hS => ?_)
  subst hw7
  have hP : va_P (dC, dI) rg_cl (gw_W ad fo fa ur cI cL cF cA (va_up rec i (vp_updL (rec i) (k + 6) (rec j (k + 6)))) fp sp an nn cnt pt un uc pr lc) H := hP
  have hD : va_D A (gw_W ad fo fa ur cI cL cF cA (va_up rec i (vp_updL (rec i) (k + 6) (rec j (k + 6)))) fp sp an nn cnt pt un uc pr lc) := hD
  refine lv_bipush (v := nI 8) hx hb dF_take_34 (by decide) ?_
  refine gw_copy hx hb (hml.trans hl.1.symm) hown (hts _ tw_130) (hts _ tw_132) (hts _ tw_131) (hts _ tw_10) hK hP hD hS (by omega) (by omega) (by omega) (by omega) (by rw [hR]; exact Nat.le_of_ble_eq_true rfl) (by rw [hR]; exact Nat.le_of_ble_eq_true rfl) dF_take_36 (fun H locs hP hD hS => ?_)
  have hP : va_P (dC, dI) rg_cl (gw_W ad fo fa ur cI cL cF cA (va_up (va_up rec i (vp_updL (rec i) (k + 6) (rec j (k + 6)))) i (va_cpy ((va_up rec i (vp_updL (rec i) (k + 6) (rec j (k + 6)))) j) ((va_up rec i (vp_updL (rec i) (k + 6) (rec j (k + 6)))) i) (8 + k * 8) (8 + k * 8) 8)) fp sp an nn cnt pt un uc pr lc) H := hP
  have hD : va_D A (gw_W ad fo fa ur cI cL cF cA (va_up (va_up rec i (vp_updL (rec i) (k + 6) (rec j (k + 6)))) i (va_cpy ((va_up rec i (vp_updL (rec i) (k + 6) (rec j (k + 6)))) j) ((va_up rec i (vp_updL (rec i) (k + 6) (rec j (k + 6)))) i) (8 + k * 8) (8 + k * 8) 8)) fp sp an nn cnt pt un uc pr lc) := hD
  rw [hQ]
  exact rg_vret hx hb hr hlk hK hP hD hS dF_take_39 (va_cpy ((va_up rec i (vp_updL (rec i) (k + 6) (rec j (k + 6)))) j) ((va_up rec i (vp_updL (rec i) (k + 6) (rec j (k + 6)))) i) (8 + k * 8) (8 + k * 8) 8) (by simp only [rg_upup]) (by simp only [rg_ups]; rw [rg_upn _ _ hij]; exact rg_LC_take hx9 hk)
