set_option maxHeartbeats 4000000 in
set_option maxRecDepth 100000 in
theorem c_F_sameAtBeginning {l : Launch} {dC : Nat → ClassId} {dI : Nat → Nat → Nat} {ad fo fa ur : Nat → Nat} {cI cL cF cA : ClassId} {rec : Nat → Nat → Int64} {fp : Nat → Int32} {sp : Nat → Int32} {an : Nat → Int64} {nn : Nat → Int32} {cnt : Int32} {pt : Nat → Int32} {un : Nat → Nat → Int32} {uc : Nat → Int32} {pr : Int32} {lc : Int32} (i j k : Nat) (hi : i < 61) (hj : j < 61) (hk : k < 2) (lx ly : List Int32) (hx8 : lx.length ≤ 8) (hlx : rg_LC (rec i) k lx) (hy8 : ly.length ≤ 8) (hly : rg_LC (rec j) k ly) : rg_M l yF_sameAtBeginning (Cond.code yF_sameAtBeginning prog_4_method_12_code 6 (some .int) :: rg_tbl) { frames := 1, cells := 0, slots := 0, locals := 30 } (dC, dI) rg_cl (gw_tys cI cL cF cA) (gw_W ad fo fa ur cI cL cF cA rec fp sp an nn cnt pt un uc pr lc) [.ref ((fo i)), .ref ((fo j)), .int (nI (k + 6))] (rg_QI (dC, dI) rg_cl (gw_tys cI cL cF cA) (S := Unit) (fun z _ => z = nI (rg_hd lx ly)) (fun _ => gw_W ad fo fa ur cI cL cF cA rec fp sp an nn cnt pt un uc pr lc)) 0 0 := by
  refine rg_of prog_4_method_12_code 6 (some .int) (by decide) rfl (Nat.le_of_ble_eq_true rfl) ?_
  intro p e R s m args below meth c Q A H locs ls hR hQ hx hb hml hr hts hown hlk hnm hP hK hD hA hS hl
  have hl : lv_has ls 6 [(0, .ref ((fo i))), (1, .ref ((fo j))), (2, .int (nI (k + 6)))] := hl
  have hts : ∀ w ∈ rg_tbl, w.before args s = true := fun w h => hts w (List.mem_cons_of_mem _ h)
  have ql1 := hlx.1
  have ql2 := hly.1
  have hmm := rg_min_le (Nat.le_refl (rg_min lx.length ly.length))
  refine lv_iload_n hx hb dF_sameAtBeginning_0 rfl (lv_at hl 2 rfl) ?_
  refine rg_calli hD hS hA (va_runS (As := [.int (nI (k + 6))]) (rest := []) ⟨hx, hb, hml, hown, hts⟩ (c_F_firstPlace k _) (va_cwS 1 hts (rg_gSx tw_256 tw_257 tw_3 tw_258) rfl rfl rfl (by decide +kernel) ⟨by rw [hR]; exact Nat.le_of_ble_eq_true rfl, by rw [hR]; exact Nat.le_of_ble_eq_true rfl⟩) (rg_preS rfl hK hP hD) rfl rfl hl.1 rfl (lv_room (Nat.le_of_ble_eq_true rfl)) dF_sameAtBeginning_1 ⟨Nat.zero_le _, Nat.zero_le _⟩) (fun r1 u2 H locs hw3 hP hD hS => ?_)
  subst hw3
  have hP : va_P (dC, dI) rg_cl (gw_W ad fo fa ur cI cL cF cA rec fp sp an nn cnt pt un uc pr lc) H := hP
  have hD : va_D A (gw_W ad fo fa ur cI cL cF cA rec fp sp an nn cnt pt un uc pr lc) := hD
  refine lv_istore_n (lv' := [(3, .int (nI (8 + k * 8))), (0, .ref ((fo i))), (1, .ref ((fo j))), (2, .int (nI (k + 6)))]) hx hb dF_sameAtBeginning_4 rfl hl (by decide) rfl (fun ls hl => ?_)
  refine lv_aload_n hx hb dF_sameAtBeginning_5 rfl (lv_at hl 1 rfl) ?_
  refine lv_iload_n hx hb dF_sameAtBeginning_6 rfl (lv_at hl 3 rfl) ?_
  refine rg_calli hD hS hA (va_runV (As := [.int (nI (k + 6))]) (rest := []) ⟨hx, hb, hml, hown, hts⟩ (c_F_length i (k + 6) (by omega) (by omega) _) (cwV 1 hts (rg_gV tw_348 tw_324 tw_325 tw_3 tw_326) rfl rfl rfl (by decide +kernel) ⟨by rw [hR]; exact Nat.le_of_ble_eq_true rfl, by rw [hR]; exact Nat.le_of_ble_eq_true rfl⟩) (rg_preV rfl hK hP hD (ci := 4) (q0 := (11 + (4 + i))) rfl (gw_obj (by omega))) rfl rfl hl.1 rfl (lv_room (Nat.le_of_ble_eq_true rfl)) dF_sameAtBeginning_7 ⟨Nat.zero_le _, Nat.zero_le _⟩) (fun r4 u5 H locs hw6 hP hD hS => ?_)
  subst hw6
  have hP : va_P (dC, dI) rg_cl (gw_W ad fo fa ur cI cL cF cA rec fp sp an nn cnt pt un uc pr lc) H := hP
  have hD : va_D A (gw_W ad fo fa ur cI cL cF cA rec fp sp an nn cnt pt un uc pr lc) := hD
  refine rg_top (show (.int ((rec i (k + 6)).toInt32) : Value) = .int (nI lx.length) by rw [ql1, lN_i]) ?_
  refine lv_aload_n hx hb dF_sameAtBeginning_10 rfl (lv_at hl 2 rfl) ?_
  refine lv_iload_n hx hb dF_sameAtBeginning_11 rfl (lv_at hl 3 rfl) ?_
  refine rg_calli hD hS hA (va_runV (As := [.int (nI (k + 6))]) (rest := [.int (nI lx.length)]) ⟨hx, hb, hml, hown, hts⟩ (c_F_length j (k + 6) (by omega) (by omega) _) (cwV 1 hts (rg_gV tw_348 tw_324 tw_325 tw_3 tw_326) rfl rfl rfl (by decide +kernel) ⟨by rw [hR]; exact Nat.le_of_ble_eq_true rfl, by rw [hR]; exact Nat.le_of_ble_eq_true rfl⟩) (rg_preV rfl hK hP hD (ci := 4) (q0 := (11 + (4 + j))) rfl (gw_obj (by omega))) rfl rfl hl.1 rfl (lv_room (Nat.le_of_ble_eq_true rfl)) dF_sameAtBeginning_12 ⟨Nat.zero_le _, Nat.zero_le _⟩) (fun r7 u8 H locs hw9 hP hD hS => ?_)
  subst hw9
  have hP : va_P (dC, dI) rg_cl (gw_W ad fo fa ur cI cL cF cA rec fp sp an nn cnt pt un uc pr lc) H := hP
  have hD : va_D A (gw_W ad fo fa ur cI cL cF cA rec fp sp an nn cnt pt un uc pr lc) := hD
  refine rg_top (show (.int ((rec j (k + 6)).toInt32) : Value) = .int (nI ly.length) by rw [ql2, lN_i]) ?_
  refine gw_mmin hx hb (hml.trans hl.1.symm) hown (hts _ tw_510) (hts _ tw_481) (hts _ tw_14) (hts _ tw_482) (by rw [hR]; exact Nat.le_of_ble_eq_true rfl) (by rw [hR]; exact Nat.le_of_ble_eq_true rfl) (Nat.zero_le _) (Nat.zero_le _) (by omega) (by omega) dF_sameAtBeginning_15 ?_
  refine lv_istore (lv' := [(4, .int (nI (rg_min lx.length ly.length))), (3, .int (nI (8 + k * 8))), (0, .ref ((fo i))), (1, .ref ((fo j))), (2, .int (nI (k + 6)))]) hx hb dF_sameAtBeginning_18 hl (by decide) rfl (fun ls hl => ?_)
  refine lv_iconst (v := nI 0) hx hb dF_sameAtBeginning_20 (by decide) ?_
  refine lv_istore (lv' := [(5, .int (nI 0)), (4, .int (nI (rg_min lx.length ly.length))), (3, .int (nI (8 + k * 8))), (0, .ref ((fo i))), (1, .ref ((fo j))), (2, .int (nI (k + 6)))]) hx hb dF_sameAtBeginning_21 hl (by decide) rfl (fun ls hl => ?_)
  have lp23 : ∀ (fuel : Nat) (n : Nat) (H : Heap) (locs : List Loc) (ls : Array Slot), rg_min lx.length ly.length + 1 - n < fuel → n ≤ rg_min lx.length ly.length → (∀ q, q < n → lx.getD q 0 = ly.getD q 0) → va_P (dC, dI) rg_cl (gw_W ad fo fa ur cI cL cF cA rec fp sp an nn cnt pt un uc pr lc) H → va_D A (gw_W ad fo fa ur cI cL cF cA rec fp sp an nn cnt pt un uc pr lc) → va_S A s.heap H locs → lv_has ls 6 [(0, .ref ((fo i))), (1, .ref ((fo j))), (2, .int (nI (k + 6))), (3, .int (nI (8 + k * 8))), (4, .int (nI (rg_min lx.length ly.length))), (5, .int (nI n))] → W p l e R s m args below meth c H locs 0 0 Q (F0 m 23 ls []) := by
    intro fuel
    induction fuel with
    | zero => intro n H locs ls hf; exact absurd hf (Nat.not_lt_zero _)
    | succ fuel ih23 =>
      intro n H locs ls hfu23 hn1 hn3 hP hD hS hl
      refine lv_iload hx hb dF_sameAtBeginning_23 (lv_at hl 5 rfl) ?_
      refine lv_iload hx hb dF_sameAtBeginning_25 (lv_at hl 4 rfl) ?_
      refine rg_icmp_ge (tgt := 58) hx hb dF_sameAtBeginning_27 (by decide) (by omega) (by omega) (fun h10 => ?_) (fun h10 => ?_)
      · refine lv_iload hx hb dF_sameAtBeginning_58 (lv_at hl 5 rfl) ?_
        rw [hQ]
        exact rg_iret hx hb hr hlk hK hP hD hS dF_sameAtBeginning_60 () rfl (by rw [show rg_hd lx ly = n from rg_ld_eq ⟨hn1, hn3, (fun h9 => by exfalso; omega)⟩])
      · have hka := hlx.2 n (by omega)
        have hkb := hly.2 n (by omega)
        refine lv_aload_n hx hb dF_sameAtBeginning_30 rfl (lv_at hl 0 rfl) ?_
        refine va_get (D := (dC, dI)) (ci := 4) (C := "RevisionGrove$Fields") (T := TF) (N := 1) hx hb hts inF hown hK hP (11 + (4 + i)) (gw_obj (by omega)) rfl 0 (by decide) (hts _ tw_38) (fun _ h9 => h9) rfl dF_sameAtBeginning_31 ?_
        refine lv_iload_n hx hb dF_sameAtBeginning_34 rfl (lv_at hl 3 rfl) ?_
        refine lv_iload hx hb dF_sameAtBeginning_35 (lv_at hl 5 rfl) ?_
        refine rg_iadd hx hb dF_sameAtBeginning_37 ?_
        refine gw_lald hx hb hK hP (by omega) (by omega) dF_sameAtBeginning_38 ?_
        refine rg_top (show (.long (rec i (8 + k * 8 + n)) : Value) = .long ((lx.getD n 0).toInt64) by rw [hka]) ?_
        refine lv_aload_n hx hb dF_sameAtBeginning_39 rfl (lv_at hl 1 rfl) ?_
        refine va_get (D := (dC, dI)) (ci := 4) (C := "RevisionGrove$Fields") (T := TF) (N := 1) hx hb hts inF hown hK hP (11 + (4 + j)) (gw_obj (by omega)) rfl 0 (by decide) (hts _ tw_38) (fun _ h9 => h9) rfl dF_sameAtBeginning_40 ?_
        refine lv_iload_n hx hb dF_sameAtBeginning_43 rfl (lv_at hl 3 rfl) ?_
        refine lv_iload hx hb dF_sameAtBeginning_44 (lv_at hl 5 rfl) ?_
        refine rg_iadd hx hb dF_sameAtBeginning_46 ?_
        refine gw_lald hx hb hK hP (by omega) (by omega) dF_sameAtBeginning_47 ?_
        refine rg_top (show (.long (rec j (8 + k * 8 + n)) : Value) = .long ((ly.getD n 0).toInt64) by rw [hkb]) ?_
        refine W.lcmp hx hb dF_sameAtBeginning_48 ?_
        refine lv_if_ne (tgt := 58) hx hb dF_sameAtBeginning_49 (by decide) (fun h11 => ?_) (fun h11 => ?_)
        · refine lv_iload hx hb dF_sameAtBeginning_58 (lv_at hl 5 rfl) ?_
          rw [hQ]
          exact rg_iret hx hb hr hlk hK hP hD hS dF_sameAtBeginning_60 () rfl (by rw [show rg_hd lx ly = n from rg_ld_eq ⟨hn1, hn3, (fun _ q => h11 ((rg_cmp0 _ _).mpr (rg_i64.mpr q)))⟩])
        · have hee := rg_i64.mp ((rg_cmp0 _ _).mp h11)
          refine lv_iinc (k := 5) (v := nI (n + 1)) (lv' := [(5, .int (nI (n + 1))), (0, .ref ((fo i))), (1, .ref ((fo j))), (2, .int (nI (k + 6))), (3, .int (nI (8 + k * 8))), (4, .int (nI (rg_min lx.length ly.length)))]) hx hb dF_sameAtBeginning_52 hl rfl (nI_1 _) (by decide) rfl (fun ls hl => ?_)
          refine lv_goto (tgt := 23) hx hb dF_sameAtBeginning_55 (by decide) ?_
          exact ih23 (n + 1) _ _ _ (by omega) (by omega) (lt_s hn3 hee) hP hD hS (lv_sub hl [1, 2, 3, 4, 5, 0] rfl)
  exact lp23 _ 0 _ _ _ (Nat.lt_succ_self _) (Nat.zero_le _) (fun q hq => absurd hq (Nat.not_lt_zero q)) hP hD hS (lv_sub hl [3, 4, 5, 2, 1, 0] rfl)
set_option maxHeartbeats 4000000 in
set_option maxRecDepth 100000 in
theorem c_F_sameAtEnd {l : Launch} {dC : Nat → ClassId} {dI : Nat → Nat → Nat} {ad fo fa ur : Nat → Nat} {cI cL cF cA : ClassId} {rec : Nat → Nat → Int64} {fp : Nat → Int32} {sp : Nat → Int32} {an : Nat → Int64} {nn : Nat → Int32} {cnt : Int32} {pt : Nat → Int32} {un : Nat → Nat → Int32} {uc : Nat → Int32} {pr : Int32} {lc : Int32} (i j k : Nat) (hi : i < 61) (hj : j < 61) (hk : k < 2) (lx ly : List Int32) (hx8 : lx.length ≤ 8) (hlx : rg_LC (rec i) k lx) (hy8 : ly.length ≤ 8) (hly : rg_LC (rec j) k ly) : rg_M l yF_sameAtEnd (Cond.code yF_sameAtEnd prog_4_method_13_code 8 (some .int) :: rg_tbl) { frames := 1, cells := 0, slots := 0, locals := 30 } (dC, dI) rg_cl (gw_tys cI cL cF cA) (gw_W ad fo fa ur cI cL cF cA rec fp sp an nn cnt pt un uc pr lc) [.ref ((fo i)), .ref ((fo j)), .int (nI (k + 6)), .int (nI (rg_hd lx ly))] (rg_QI (dC, dI) rg_cl (gw_tys cI cL cF cA) (S := Unit) (fun z _ => z = nI (rg_tl lx ly)) (fun _ => gw_W ad fo fa ur cI cL cF cA rec fp sp an nn cnt pt un uc pr lc)) 0 0 := by
  refine rg_of prog_4_method_13_code 8 (some .int) (by decide) rfl (Nat.le_of_ble_eq_true rfl) ?_
  intro p e R s m args below meth c Q A H locs ls hR hQ hx hb hml hr hts hown hlk hnm hP hK hD hA hS hl
  have hl : lv_has ls 8 [(0, .ref ((fo i))), (1, .ref ((fo j))), (2, .int (nI (k + 6))), (3, .int (nI (rg_hd lx ly)))] := hl
  have hts : ∀ w ∈ rg_tbl, w.before args s = true := fun w h => hts w (List.mem_cons_of_mem _ h)
  have ql1 := hlx.1
  have ql2 := hly.1
  have hmm := rg_min_le (Nat.le_refl (rg_min lx.length ly.length))
  have hh9 : rg_hd lx ly ≤ rg_min lx.length ly.length := rg_ld_le _ _ _
  refine lv_iload_n hx hb dF_sameAtEnd_0 rfl (lv_at hl 2 rfl) ?_
  refine rg_calli hD hS hA (va_runS (As := [.int (nI (k + 6))]) (rest := []) ⟨hx, hb, hml, hown, hts⟩ (c_F_firstPlace k _) (va_cwS 1 hts (rg_gSx tw_256 tw_257 tw_3 tw_258) rfl rfl rfl (by decide +kernel) ⟨by rw [hR]; exact Nat.le_of_ble_eq_true rfl, by rw [hR]; exact Nat.le_of_ble_eq_true rfl⟩) (rg_preS rfl hK hP hD) rfl rfl hl.1 rfl (lv_room (Nat.le_of_ble_eq_true rfl)) dF_sameAtEnd_1 ⟨Nat.zero_le _, Nat.zero_le _⟩) (fun r1 u2 H locs hw3 hP hD hS => ?_)
  subst hw3
  have hP : va_P (dC, dI) rg_cl (gw_W ad fo fa ur cI cL cF cA rec fp sp an nn cnt pt un uc pr lc) H := hP
  have hD : va_D A (gw_W ad fo fa ur cI cL cF cA rec fp sp an nn cnt pt un uc pr lc) := hD
  refine lv_aload_n hx hb dF_sameAtEnd_4 rfl (lv_at hl 0 rfl) ?_
  refine lv_iload_n hx hb dF_sameAtEnd_5 rfl (lv_at hl 2 rfl) ?_
  refine rg_calli hD hS hA (va_runV (As := [.int (nI (k + 6))]) (rest := [.int (nI (8 + k * 8))]) ⟨hx, hb, hml, hown, hts⟩ (c_F_length i (k + 6) (by omega) (by omega) _) (cwV 1 hts (rg_gV tw_348 tw_324 tw_325 tw_3 tw_326) rfl rfl rfl (by decide +kernel) ⟨by rw [hR]; exact Nat.le_of_ble_eq_true rfl, by rw [hR]; exact Nat.le_of_ble_eq_true rfl⟩) (rg_preV rfl hK hP hD (ci := 4) (q0 := (11 + (4 + i))) rfl (gw_obj (by omega))) rfl rfl hl.1 rfl (lv_room (Nat.le_of_ble_eq_true rfl)) dF_sameAtEnd_6 ⟨Nat.zero_le _, Nat.zero_le _⟩) (fun r4 u5 H locs hw6 hP hD hS => ?_)
  subst hw6
  have hP : va_P (dC, dI) rg_cl (gw_W ad fo fa ur cI cL cF cA rec fp sp an nn cnt pt un uc pr lc) H := hP
  have hD : va_D A (gw_W ad fo fa ur cI cL cF cA rec fp sp an nn cnt pt un uc pr lc) := hD
  refine rg_top (show (.int ((rec i (k + 6)).toInt32) : Value) = .int (nI lx.length) by rw [ql1, lN_i]) ?_
  refine rg_iadd hx hb dF_sameAtEnd_9 ?_
  refine lv_iconst (v := nI 1) hx hb dF_sameAtEnd_10 (by decide) ?_
  refine rg_isub hx hb dF_sameAtEnd_11 (by omega) ?_
  refine lv_istore (lv' := [(4, .int (nI (8 + k * 8 + lx.length - 1))), (0, .ref ((fo i))), (1, .ref ((fo j))), (2, .int (nI (k + 6))), (3, .int (nI (rg_hd lx ly)))]) hx hb dF_sameAtEnd_12 hl (by decide) rfl (fun ls hl => ?_)
  refine lv_iload_n hx hb dF_sameAtEnd_14 rfl (lv_at hl 3 rfl) ?_
  refine rg_calli hD hS hA (va_runS (As := [.int (nI (k + 6))]) (rest := []) ⟨hx, hb, hml, hown, hts⟩ (c_F_firstPlace k _) (va_cwS 1 hts (rg_gSx tw_256 tw_257 tw_3 tw_258) rfl rfl rfl (by decide +kernel) ⟨by rw [hR]; exact Nat.le_of_ble_eq_true rfl, by rw [hR]; exact Nat.le_of_ble_eq_true rfl⟩) (rg_preS rfl hK hP hD) rfl rfl hl.1 rfl (lv_room (Nat.le_of_ble_eq_true rfl)) dF_sameAtEnd_15 ⟨Nat.zero_le _, Nat.zero_le _⟩) (fun r7 u8 H locs hw9 hP hD hS => ?_)
  subst hw9
  have hP : va_P (dC, dI) rg_cl (gw_W ad fo fa ur cI cL cF cA rec fp sp an nn cnt pt un uc pr lc) H := hP
  have hD : va_D A (gw_W ad fo fa ur cI cL cF cA rec fp sp an nn cnt pt un uc pr lc) := hD
  refine lv_aload_n hx hb dF_sameAtEnd_18 rfl (lv_at hl 2 rfl) ?_
  refine lv_iload_n hx hb dF_sameAtEnd_19 rfl (lv_at hl 3 rfl) ?_
  refine rg_calli hD hS hA (va_runV (As := [.int (nI (k + 6))]) (rest := [.int (nI (8 + k * 8))]) ⟨hx, hb, hml, hown, hts⟩ (c_F_length j (k + 6) (by omega) (by omega) _) (cwV 1 hts (rg_gV tw_348 tw_324 tw_325 tw_3 tw_326) rfl rfl rfl (by decide +kernel) ⟨by rw [hR]; exact Nat.le_of_ble_eq_true rfl, by rw [hR]; exact Nat.le_of_ble_eq_true rfl⟩) (rg_preV rfl hK hP hD (ci := 4) (q0 := (11 + (4 + j))) rfl (gw_obj (by omega))) rfl rfl hl.1 rfl (lv_room (Nat.le_of_ble_eq_true rfl)) dF_sameAtEnd_20 ⟨Nat.zero_le _, Nat.zero_le _⟩) (fun r10 u11 H locs hw12 hP hD hS => ?_)
  subst hw12
  have hP : va_P (dC, dI) rg_cl (gw_W ad fo fa ur cI cL cF cA rec fp sp an nn cnt pt un uc pr lc) H := hP
  have hD : va_D A (gw_W ad fo fa ur cI cL cF cA rec fp sp an nn cnt pt un uc pr lc) := hD
  refine rg_top (show (.int ((rec j (k + 6)).toInt32) : Value) = .int (nI ly.length) by rw [ql2, lN_i]) ?_
  refine rg_iadd hx hb dF_sameAtEnd_23 ?_
  refine lv_iconst (v := nI 1) hx hb dF_sameAtEnd_24 (by decide) ?_
  refine rg_isub hx hb dF_sameAtEnd_25 (by omega) ?_
  refine lv_istore (lv' := [(5, .int (nI (8 + k * 8 + ly.length - 1))), (4, .int (nI (8 + k * 8 + lx.length - 1))), (0, .ref ((fo i))), (1, .ref ((fo j))), (2, .int (nI (k + 6))), (3, .int (nI (rg_hd lx ly)))]) hx hb dF_sameAtEnd_26 hl (by decide) rfl (fun ls hl => ?_)
  refine lv_aload_n hx hb dF_sameAtEnd_28 rfl (lv_at hl 2 rfl) ?_
  refine lv_iload_n hx hb dF_sameAtEnd_29 rfl (lv_at hl 4 rfl) ?_
  refine rg_calli hD hS hA (va_runV (As := [.int (nI (k + 6))]) (rest := []) ⟨hx, hb, hml, hown, hts⟩ (c_F_length i (k + 6) (by omega) (by omega) _) (cwV 1 hts (rg_gV tw_348 tw_324 tw_325 tw_3 tw_326) rfl rfl rfl (by decide +kernel) ⟨by rw [hR]; exact Nat.le_of_ble_eq_true rfl, by rw [hR]; exact Nat.le_of_ble_eq_true rfl⟩) (rg_preV rfl hK hP hD (ci := 4) (q0 := (11 + (4 + i))) rfl (gw_obj (by omega))) rfl rfl hl.1 rfl (lv_room (Nat.le_of_ble_eq_true rfl)) dF_sameAtEnd_30 ⟨Nat.zero_le _, Nat.zero_le _⟩) (fun r13 u14 H locs hw15 hP hD hS => ?_)
  subst hw15
  have hP : va_P (dC, dI) rg_cl (gw_W ad fo fa ur cI cL cF cA rec fp sp an nn cnt pt un uc pr lc) H := hP
  have hD : va_D A (gw_W ad fo fa ur cI cL cF cA rec fp sp an nn cnt pt un uc pr lc) := hD
  refine rg_top (show (.int ((rec i (k + 6)).toInt32) : Value) = .int (nI lx.length) by rw [ql1, lN_i]) ?_
  refine lv_aload_n hx hb dF_sameAtEnd_33 rfl (lv_at hl 3 rfl) ?_
  refine lv_iload_n hx hb dF_sameAtEnd_34 rfl (lv_at hl 4 rfl) ?_
  refine rg_calli hD hS hA (va_runV (As := [.int (nI (k + 6))]) (rest := [.int (nI lx.length)]) ⟨hx, hb, hml, hown, hts⟩ (c_F_length j (k + 6) (by omega) (by omega) _) (cwV 1 hts (rg_gV tw_348 tw_324 tw_325 tw_3 tw_326) rfl rfl rfl (by decide +kernel) ⟨by rw [hR]; exact Nat.le_of_ble_eq_true rfl, by rw [hR]; exact Nat.le_of_ble_eq_true rfl⟩) (rg_preV rfl hK hP hD (ci := 4) (q0 := (11 + (4 + j))) rfl (gw_obj (by omega))) rfl rfl hl.1 rfl (lv_room (Nat.le_of_ble_eq_true rfl)) dF_sameAtEnd_35 ⟨Nat.zero_le _, Nat.zero_le _⟩) (fun r16 u17 H locs hw18 hP hD hS => ?_)
  subst hw18
  have hP : va_P (dC, dI) rg_cl (gw_W ad fo fa ur cI cL cF cA rec fp sp an nn cnt pt un uc pr lc) H := hP
  have hD : va_D A (gw_W ad fo fa ur cI cL cF cA rec fp sp an nn cnt pt un uc pr lc) := hD
  refine rg_top (show (.int ((rec j (k + 6)).toInt32) : Value) = .int (nI ly.length) by rw [ql2, lN_i]) ?_
  refine gw_mmin hx hb (hml.trans hl.1.symm) hown (hts _ tw_510) (hts _ tw_481) (hts _ tw_14) (hts _ tw_482) (by rw [hR]; exact Nat.le_of_ble_eq_true rfl) (by rw [hR]; exact Nat.le_of_ble_eq_true rfl) (Nat.zero_le _) (Nat.zero_le _) (by omega) (by omega) dF_sameAtEnd_38 ?_
  refine lv_iload_n hx hb dF_sameAtEnd_41 rfl (lv_at hl 5 rfl) ?_
  refine rg_isub hx hb dF_sameAtEnd_42 (by omega) ?_
  refine lv_istore (lv' := [(6, .int (nI (rg_min lx.length ly.length - rg_hd lx ly))), (5, .int (nI (8 + k * 8 + ly.length - 1))), (4, .int (nI (8 + k * 8 + lx.length - 1))), (0, .ref ((fo i))), (1, .ref ((fo j))), (2, .int (nI (k + 6))), (3, .int (nI (rg_hd lx ly)))]) hx hb dF_sameAtEnd_43 hl (by decide) rfl (fun ls hl => ?_)
  refine lv_iconst (v := nI 0) hx hb dF_sameAtEnd_45 (by decide) ?_
  refine lv_istore (lv' := [(7, .int (nI 0)), (6, .int (nI (rg_min lx.length ly.length - rg_hd lx ly))), (5, .int (nI (8 + k * 8 + ly.length - 1))), (4, .int (nI (8 + k * 8 + lx.length - 1))), (0, .ref ((fo i))), (1, .ref ((fo j))), (2, .int (nI (k + 6))), (3, .int (nI (rg_hd lx ly)))]) hx hb dF_sameAtEnd_46 hl (by decide) rfl (fun ls hl => ?_)
  have lp48 : ∀ (fuel : Nat) (n : Nat) (H : Heap) (locs : List Loc) (ls : Array Slot), rg_min lx.length ly.length + 1 - n < fuel → n ≤ rg_min lx.length ly.length - rg_hd lx ly → (∀ q, q < n → lx.getD (lx.length - 1 - q) 0 = ly.getD (ly.length - 1 - q) 0) → va_P (dC, dI) rg_cl (gw_W ad fo fa ur cI cL cF cA rec fp sp an nn cnt pt un uc pr lc) H → va_D A (gw_W ad fo fa ur cI cL cF cA rec fp sp an nn cnt pt un uc pr lc) → va_S A s.heap H locs → lv_has ls 8 [(0, .ref ((fo i))), (1, .ref ((fo j))), (4, .int (nI (8 + k * 8 + lx.length - 1))), (5, .int (nI (8 + k * 8 + ly.length - 1))), (6, .int (nI (rg_min lx.length ly.length - rg_hd lx ly))), (7, .int (nI n))] → W p l e R s m args below meth c H locs 0 0 Q (F0 m 48 ls []) := by
    intro fuel
    induction fuel with
    | zero => intro n H locs ls hf; exact absurd hf (Nat.not_lt_zero _)
    | succ fuel ih48 =>
      intro n H locs ls hfu48 hn1 hn3 hP hD hS hl
      refine lv_iload hx hb dF_sameAtEnd_48 (lv_at hl 5 rfl) ?_
      refine lv_iload hx hb dF_sameAtEnd_50 (lv_at hl 4 rfl) ?_
      refine rg_icmp_ge (tgt := 85) hx hb dF_sameAtEnd_52 (by decide) (by omega) (by omega) (fun h19 => ?_) (fun h19 => ?_)
      · refine lv_iload hx hb dF_sameAtEnd_85 (lv_at hl 5 rfl) ?_
        rw [hQ]
        exact rg_iret hx hb hr hlk hK hP hD hS dF_sameAtEnd_87 () rfl (by rw [show rg_tl lx ly = n from rg_ld_eq ⟨hn1, hn3, (fun h9 => by exfalso; omega)⟩])
      · have hka := hlx.2 (lx.length - 1 - n) (by omega)
        have hkb := hly.2 (ly.length - 1 - n) (by omega)
        refine lv_aload_n hx hb dF_sameAtEnd_55 rfl (lv_at hl 0 rfl) ?_
        refine va_get (D := (dC, dI)) (ci := 4) (C := "RevisionGrove$Fields") (T := TF) (N := 1) hx hb hts inF hown hK hP (11 + (4 + i)) (gw_obj (by omega)) rfl 0 (by decide) (hts _ tw_38) (fun _ h9 => h9) rfl dF_sameAtEnd_56 ?_
        refine lv_iload hx hb dF_sameAtEnd_59 (lv_at hl 2 rfl) ?_
        refine lv_iload hx hb dF_sameAtEnd_61 (lv_at hl 5 rfl) ?_
        refine rg_isub hx hb dF_sameAtEnd_63 (by omega) ?_
        refine gw_lald hx hb hK hP (by omega) (by omega) dF_sameAtEnd_64 ?_
        refine rg_top (show (.long (rec i (8 + k * 8 + lx.length - 1 - n)) : Value) = .long ((lx.getD (lx.length - 1 - n) 0).toInt64) by rw [show 8 + k * 8 + lx.length - 1 - n = 8 + k * 8 + (lx.length - 1 - n) by omega, hka]) ?_
        refine lv_aload_n hx hb dF_sameAtEnd_65 rfl (lv_at hl 1 rfl) ?_
        refine va_get (D := (dC, dI)) (ci := 4) (C := "RevisionGrove$Fields") (T := TF) (N := 1) hx hb hts inF hown hK hP (11 + (4 + j)) (gw_obj (by omega)) rfl 0 (by decide) (hts _ tw_38) (fun _ h9 => h9) rfl dF_sameAtEnd_66 ?_
        refine lv_iload hx hb dF_sameAtEnd_69 (lv_at hl 3 rfl) ?_
        refine lv_iload hx hb dF_sameAtEnd_71 (lv_at hl 5 rfl) ?_
        refine rg_isub hx hb dF_sameAtEnd_73 (by omega) ?_
        refine gw_lald hx hb hK hP (by omega) (by omega) dF_sameAtEnd_74 ?_
        refine rg_top (show (.long (rec j (8 + k * 8 + ly.length - 1 - n)) : Value) = .long ((ly.getD (ly.length - 1 - n) 0).toInt64) by rw [show 8 + k * 8 + ly.length - 1 - n = 8 + k * 8 + (ly.length - 1 - n) by omega, hkb]) ?_
        refine W.lcmp hx hb dF_sameAtEnd_75 ?_
        refine lv_if_ne (tgt := 85) hx hb dF_sameAtEnd_76 (by decide) (fun h20 => ?_) (fun h20 => ?_)
        · refine lv_iload hx hb dF_sameAtEnd_85 (lv_at hl 5 rfl) ?_
          rw [hQ]
          exact rg_iret hx hb hr hlk hK hP hD hS dF_sameAtEnd_87 () rfl (by rw [show rg_tl lx ly = n from rg_ld_eq ⟨hn1, hn3, (fun _ q => h20 ((rg_cmp0 _ _).mpr (rg_i64.mpr q)))⟩])
        · have hee := rg_i64.mp ((rg_cmp0 _ _).mp h20)
          refine lv_iinc (k := 5) (v := nI (n + 1)) (lv' := [(7, .int (nI (n + 1))), (0, .ref ((fo i))), (1, .ref ((fo j))), (4, .int (nI (8 + k * 8 + lx.length - 1))), (5, .int (nI (8 + k * 8 + ly.length - 1))), (6, .int (nI (rg_min lx.length ly.length - rg_hd lx ly)))]) hx hb dF_sameAtEnd_79 hl rfl (nI_1 _) (by decide) rfl (fun ls hl => ?_)
          refine lv_goto (tgt := 48) hx hb dF_sameAtEnd_82 (by decide) ?_
          exact ih48 (n + 1) _ _ _ (by omega) (by omega) (lt_s hn3 hee) hP hD hS (lv_sub hl [1, 2, 3, 4, 5, 0] rfl)
  exact lp48 _ 0 _ _ _ (Nat.lt_succ_self _) (Nat.zero_le _) (fun q hq => absurd hq (Nat.not_lt_zero q)) hP hD hS (lv_sub hl [4, 5, 3, 2, 1, 0] rfl)
