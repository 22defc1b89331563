set_option maxHeartbeats 4000000 in
set_option maxRecDepth 100000 in
theorem c_J_joinedSet {l : Launch} {dC : Nat → ClassId} {dI : Nat → Nat → Nat} {ad fo fa ur : Nat → Nat} {cI cL cF cA : ClassId} {rec : Nat → Nat → Int64} {fp : Nat → Int32} {sp : Nat → Int32} {an : Nat → Int64} {nn : Nat → Int32} {cnt : Int32} {pt : Nat → Int32} {un : Nat → Nat → Int32} {uc : Nat → Int32} {pr : Int32} {lc : Int32} (x y z : Int64) : rg_M l yJ_joinedSet (Cond.code yJ_joinedSet prog_5_method_4_code 6 (some .long) :: rg_tbl) { frames := 0, cells := 0, slots := 0, locals := 0 } (dC, dI) rg_cl (gw_tys cI cL cF cA) (gw_W ad fo fa ur cI cL cF cA rec fp sp an nn cnt pt un uc pr lc) [.long x, .long y, .long z] (rg_QL (dC, dI) rg_cl (gw_tys cI cL cF cA) (S := Unit) (fun r _ => r = ((y &&& z) ||| ((y ||| z) &&& (x ^^^ (-1))))) (fun _ => gw_W ad fo fa ur cI cL cF cA rec fp sp an nn cnt pt un uc pr lc)) 0 0 := by
  refine rg_of prog_5_method_4_code 6 (some .long) (by decide) rfl (Nat.le_of_ble_eq_true rfl) ?_
  intro p e R s m args below meth c Q A H locs ls hR hQ hx hb hml hr hts hown hlk hnm hP hK hD hA hS hl
  have hl : lv_has ls 6 [(0, .long x), (2, .long y), (4, .long z)] := hl
  have hts : ∀ w ∈ rg_tbl, w.before args s = true := fun w h => hts w (List.mem_cons_of_mem _ h)
  refine lv_lload_n hx hb dJ_joinedSet_0 rfl (lv_at hl 1 rfl) ?_
  refine lv_lload hx hb dJ_joinedSet_1 (lv_at hl 2 rfl) ?_
  refine lv_land hx hb dJ_joinedSet_3 ?_
  refine lv_lload_n hx hb dJ_joinedSet_4 rfl (lv_at hl 1 rfl) ?_
  refine lv_lload hx hb dJ_joinedSet_5 (lv_at hl 2 rfl) ?_
  refine lv_lor hx hb dJ_joinedSet_7 ?_
  refine lv_lload_n hx hb dJ_joinedSet_8 rfl (lv_at hl 0 rfl) ?_
  refine lv_ldc2 (v := -1) hx hb hown (hts _ tw_494) dJ_joinedSet_9 ?_
  refine lv_lxor hx hb dJ_joinedSet_12 ?_
  refine lv_land hx hb dJ_joinedSet_13 ?_
  refine lv_lor hx hb dJ_joinedSet_14 ?_
  rw [hQ]
  exact rg_lret hx hb hr hlk hK hP hD hS dJ_joinedSet_15 () rfl (rfl)
set_option maxHeartbeats 4000000 in
set_option maxRecDepth 100000 in
theorem c_J_joinField_k {l : Launch} {dC : Nat → ClassId} {dI : Nat → Nat → Nat} {ad fo fa ur : Nat → Nat} {cI cL cF cA : ClassId} {rec : Nat → Nat → Int64} {fp : Nat → Int32} {sp : Nat → Int32} {an : Nat → Int64} {nn : Nat → Int32} {cnt : Int32} {pt : Nat → Int32} {un : Nat → Nat → Int32} {uc : Nat → Int32} {pr : Int32} {lc : Int32} (i j q k : Nat) (hi : i < 60) (hj : j < 60) (hq : q < 60) (hk : k < 2) : rg_M l yJ_joinField (Cond.code yJ_joinField prog_5_method_3_code 5 (some .boolean) :: rg_tbl) { frames := 2, cells := 0, slots := 0, locals := 52 } (dC, dI) rg_cl (gw_tys cI cL cF cA) (gw_W ad fo fa ur cI cL cF cA rec fp sp an nn cnt pt un uc pr lc) [.ref ((fo 60)), .ref ((fo i)), .ref ((fo j)), .ref ((fo q)), .int (nI (k + 2))] (rg_QI (dC, dI) rg_cl (gw_tys cI cL cF cA) (S := Unit) (fun z _ => z = nI 1) (fun _ => gw_W ad fo fa ur cI cL cF cA (va_up rec 60 (vp_updL (rec 60) (k + 2) (((rec j (k + 2)) + (rec q (k + 2))) - (rec i (k + 2))))) fp sp an nn cnt pt un uc pr lc)) 0 0 := by
  refine rg_of prog_5_method_3_code 5 (some .boolean) (by decide) rfl (Nat.le_of_ble_eq_true rfl) ?_
  intro p e R s m args below meth c Q A H locs ls hR hQ hx hb hml hr hts hown hlk hnm hP hK hD hA hS hl
  have hl : lv_has ls 5 [(0, .ref ((fo 60))), (1, .ref ((fo i))), (2, .ref ((fo j))), (3, .ref ((fo q))), (4, .int (nI (k + 2)))] := hl
  have hts : ∀ w ∈ rg_tbl, w.before args s = true := fun w h => hts w (List.mem_cons_of_mem _ h)
  refine lv_iload hx hb dJ_joinField_0 (lv_at hl 4 rfl) ?_
  refine lv_iconst (v := nI 2) hx hb dJ_joinField_2 (by decide) ?_
  refine rg_icmp_lt (tgt := 40) hx hb dJ_joinField_3 (by decide) (by omega) (by omega) (fun h1 => by exfalso; omega) (fun h1 => ?_)
  refine lv_iload hx hb dJ_joinField_6 (lv_at hl 4 rfl) ?_
  refine lv_iconst (v := nI 4) hx hb dJ_joinField_8 (by decide) ?_
  refine rg_icmp_ge (tgt := 40) hx hb dJ_joinField_9 (by decide) (by omega) (by omega) (fun h2 => by exfalso; omega) (fun h2 => ?_)
  refine lv_aload_n hx hb dJ_joinField_12 rfl (lv_at hl 0 rfl) ?_
  refine lv_iload hx hb dJ_joinField_13 (lv_at hl 4 rfl) ?_
  refine lv_aload_n hx hb dJ_joinField_15 rfl (lv_at hl 2 rfl) ?_
  refine lv_iload hx hb dJ_joinField_16 (lv_at hl 4 rfl) ?_
  refine rg_calll hD hS hA (va_runV (As := [.int (nI (k + 2))]) (rest := [.int (nI (k + 2)), .ref ((fo 60))]) ⟨hx, hb, hml, hown, hts⟩ (c_F_cell j (k + 2) (by omega) (by omega) _) (cwV 1 hts (rg_gV tw_489 tw_303 tw_304 tw_3 tw_305) rfl rfl rfl (by decide +kernel) ⟨by rw [hR]; exact Nat.le_of_ble_eq_true rfl, by rw [hR]; exact Nat.le_of_ble_eq_true rfl⟩) (rg_preV rfl hK hP hD (ci := 4) (q0 := (11 + (4 + j))) rfl (gw_obj (by omega))) rfl rfl hl.1 rfl (lv_room (Nat.le_of_ble_eq_true rfl)) dJ_joinField_18 ⟨Nat.zero_le _, Nat.zero_le _⟩) (fun r3 u4 H locs hw5 hP hD hS => ?_)
  subst hw5
  have hP : va_P (dC, dI) rg_cl (gw_W ad fo fa ur cI cL cF cA rec fp sp an nn cnt pt un uc pr lc) H := hP
  have hD : va_D A (gw_W ad fo fa ur cI cL cF cA rec fp sp an nn cnt pt un uc pr lc) := hD
  refine lv_aload_n hx hb dJ_joinField_21 rfl (lv_at hl 3 rfl) ?_
  refine lv_iload hx hb dJ_joinField_22 (lv_at hl 4 rfl) ?_
  refine rg_calll hD hS hA (va_runV (As := [.int (nI (k + 2))]) (rest := [.long (rec j (k + 2)), .int (nI (k + 2)), .ref ((fo 60))]) ⟨hx, hb, hml, hown, hts⟩ (c_F_cell q (k + 2) (by omega) (by omega) _) (cwV 1 hts (rg_gV tw_489 tw_303 tw_304 tw_3 tw_305) rfl rfl rfl (by decide +kernel) ⟨by rw [hR]; exact Nat.le_of_ble_eq_true rfl, by rw [hR]; exact Nat.le_of_ble_eq_true rfl⟩) (rg_preV rfl hK hP hD (ci := 4) (q0 := (11 + (4 + q))) rfl (gw_obj (by omega))) rfl rfl hl.1 rfl (lv_room (Nat.le_of_ble_eq_true rfl)) dJ_joinField_24 ⟨Nat.zero_le _, Nat.zero_le _⟩) (fun r6 u7 H locs hw8 hP hD hS => ?_)
  subst hw8
  have hP : va_P (dC, dI) rg_cl (gw_W ad fo fa ur cI cL cF cA rec fp sp an nn cnt pt un uc pr lc) H := hP
  have hD : va_D A (gw_W ad fo fa ur cI cL cF cA rec fp sp an nn cnt pt un uc pr lc) := hD
  refine lv_ladd hx hb dJ_joinField_27 ?_
  refine lv_aload_n hx hb dJ_joinField_28 rfl (lv_at hl 1 rfl) ?_
  refine lv_iload hx hb dJ_joinField_29 (lv_at hl 4 rfl) ?_
  refine rg_calll hD hS hA (va_runV (As := [.int (nI (k + 2))]) (rest := [.long ((rec j (k + 2)) + (rec q (k + 2))), .int (nI (k + 2)), .ref ((fo 60))]) ⟨hx, hb, hml, hown, hts⟩ (c_F_cell i (k + 2) (by omega) (by omega) _) (cwV 1 hts (rg_gV tw_489 tw_303 tw_304 tw_3 tw_305) rfl rfl rfl (by decide +kernel) ⟨by rw [hR]; exact Nat.le_of_ble_eq_true rfl, by rw [hR]; exact Nat.le_of_ble_eq_true rfl⟩) (rg_preV rfl hK hP hD (ci := 4) (q0 := (11 + (4 + i))) rfl (gw_obj (by omega))) rfl rfl hl.1 rfl (lv_room (Nat.le_of_ble_eq_true rfl)) dJ_joinField_31 ⟨Nat.zero_le _, Nat.zero_le _⟩) (fun r9 u10 H locs hw11 hP hD hS => ?_)
  subst hw11
  have hP : va_P (dC, dI) rg_cl (gw_W ad fo fa ur cI cL cF cA rec fp sp an nn cnt pt un uc pr lc) H := hP
  have hD : va_D A (gw_W ad fo fa ur cI cL cF cA rec fp sp an nn cnt pt un uc pr lc) := hD
  refine lv_lsub hx hb dJ_joinField_34 ?_
  refine rg_callv hD hS hA (va_runV (As := [.int (nI (k + 2)), .long (((rec j (k + 2)) + (rec q (k + 2))) - (rec i (k + 2)))]) (rest := []) ⟨hx, hb, hml, hown, hts⟩ (c_F_setCell 60 (k + 2) (by omega) (by omega) (((rec j (k + 2)) + (rec q (k + 2))) - (rec i (k + 2))) _) (cwV 2 hts (rg_gV tw_490 tw_245 tw_246 tw_3 tw_247) rfl rfl rfl (by decide +kernel) ⟨by rw [hR]; exact Nat.le_of_ble_eq_true rfl, by rw [hR]; exact Nat.le_of_ble_eq_true rfl⟩) (rg_preV rfl hK hP hD (ci := 4) (q0 := (11 + (4 + 60))) rfl (gw_obj (by omega))) rfl rfl hl.1 rfl (lv_room (Nat.le_of_ble_eq_true rfl)) dJ_joinField_35 ⟨Nat.zero_le _, Nat.zero_le _⟩) (fun u13 H locs hw14 hP hD hS => ?_)
  have hP : va_P (dC, dI) rg_cl (gw_W ad fo fa ur cI cL cF cA (va_up rec 60 (vp_updL (rec 60) (k + 2) (((rec j (k + 2)) + (rec q (k + 2))) - (rec i (k + 2))))) fp sp an nn cnt pt un uc pr lc) H := hP
  have hD : va_D A (gw_W ad fo fa ur cI cL cF cA (va_up rec 60 (vp_updL (rec 60) (k + 2) (((rec j (k + 2)) + (rec q (k + 2))) - (rec i (k + 2))))) fp sp an nn cnt pt un uc pr lc) := hD
  refine lv_iconst (v := nI 1) hx hb dJ_joinField_38 (by decide) ?_
  rw [hQ]
  exact rg_zret hx hb hr hlk hK hP hD hS (by first | exact rg_b01 _ | exact Or.inl rfl | exact Or.inr rfl) dJ_joinField_39 () rfl (rfl)
set_option maxHeartbeats 4000000 in
set_option maxRecDepth 100000 in
theorem c_J_joinField_e {l : Launch} {dC : Nat → ClassId} {dI : Nat → Nat → Nat} {ad fo fa ur : Nat → Nat} {cI cL cF cA : ClassId} {rec : Nat → Nat → Int64} {fp : Nat → Int32} {sp : Nat → Int32} {an : Nat → Int64} {nn : Nat → Int32} {cnt : Int32} {pt : Nat → Int32} {un : Nat → Nat → Int32} {uc : Nat → Int32} {pr : Int32} {lc : Int32} (i j q k : Nat) (hi : i < 60) (hj : j < 60) (hq : q < 60) (hk : k < 2) : rg_M l yJ_joinField (Cond.code yJ_joinField prog_5_method_3_code 5 (some .boolean) :: rg_tbl) { frames := 2, cells := 0, slots := 0, locals := 52 } (dC, dI) rg_cl (gw_tys cI cL cF cA) (gw_W ad fo fa ur cI cL cF cA rec fp sp an nn cnt pt un uc pr lc) [.ref ((fo 60)), .ref ((fo i)), .ref ((fo j)), .ref ((fo q)), .int (nI (k + 4))] (rg_QI (dC, dI) rg_cl (gw_tys cI cL cF cA) (S := Unit) (fun z _ => z = nI 1) (fun _ => gw_W ad fo fa ur cI cL cF cA (va_up rec 60 (vp_updL (rec 60) (k + 4) (((rec j (k + 4)) &&& (rec q (k + 4))) ||| (((rec j (k + 4)) ||| (rec q (k + 4))) &&& ((rec i (k + 4)) ^^^ (-1)))))) fp sp an nn cnt pt un uc pr lc)) 0 0 := by
  refine rg_of prog_5_method_3_code 5 (some .boolean) (by decide) rfl (Nat.le_of_ble_eq_true rfl) ?_
  intro p e R s m args below meth c Q A H locs ls hR hQ hx hb hml hr hts hown hlk hnm hP hK hD hA hS hl
  have hl : lv_has ls 5 [(0, .ref ((fo 60))), (1, .ref ((fo i))), (2, .ref ((fo j))), (3, .ref ((fo q))), (4, .int (nI (k + 4)))] := hl
  have hts : ∀ w ∈ rg_tbl, w.before args s = true := fun w h => hts w (List.mem_cons_of_mem _ h)
  refine lv_iload hx hb dJ_joinField_0 (lv_at hl 4 rfl) ?_
  refine lv_iconst (v := nI 2) hx hb dJ_joinField_2 (by decide) ?_
  refine rg_icmp_lt (tgt := 40) hx hb dJ_joinField_3 (by decide) (by omega) (by omega) (fun h1 => by exfalso; omega) (fun h1 => ?_)
  refine lv_iload hx hb dJ_joinField_6 (lv_at hl 4 rfl) ?_
  refine lv_iconst (v := nI 4) hx hb dJ_joinField_8 (by decide) ?_
  refine rg_icmp_ge (tgt := 40) hx hb dJ_joinField_9 (by decide) (by omega) (by omega) (fun h2 => ?_) (fun h2 => by exfalso; omega)
  refine lv_iload hx hb dJ_joinField_40 (lv_at hl 4 rfl) ?_
  refine lv_iconst (v := nI 4) hx hb dJ_joinField_42 (by decide) ?_
  refine rg_icmp_lt (tgt := 82) hx hb dJ_joinField_43 (by decide) (by omega) (by omega) (fun h3 => by exfalso; omega) (fun h3 => ?_)
  refine lv_iload hx hb dJ_joinField_46 (lv_at hl 4 rfl) ?_
  refine lv_bipush (v := nI 6) hx hb dJ_joinField_48 (by decide) ?_
  refine rg_icmp_ge (tgt := 82) hx hb dJ_joinField_50 (by decide) (by omega) (by omega) (fun h4 => by exfalso; omega) (fun h4 => ?_)
  refine lv_aload_n hx hb dJ_joinField_53 rfl (lv_at hl 0 rfl) ?_
  refine lv_iload hx hb dJ_joinField_54 (lv_at hl 4 rfl) ?_
  refine lv_aload_n hx hb dJ_joinField_56 rfl (lv_at hl 1 rfl) ?_
  refine lv_iload hx hb dJ_joinField_57 (lv_at hl 4 rfl) ?_
  refine rg_calll hD hS hA (va_runV (As := [.int (nI (k + 4))]) (rest := [.int (nI (k + 4)), .ref ((fo 60))]) ⟨hx, hb, hml, hown, hts⟩ (c_F_cell i (k + 4) (by omega) (by omega) _) (cwV 1 hts (rg_gV tw_489 tw_303 tw_304 tw_3 tw_305) rfl rfl rfl (by decide +kernel) ⟨by rw [hR]; exact Nat.le_of_ble_eq_true rfl, by rw [hR]; exact Nat.le_of_ble_eq_true rfl⟩) (rg_preV rfl hK hP hD (ci := 4) (q0 := (11 + (4 + i))) rfl (gw_obj (by omega))) rfl rfl hl.1 rfl (lv_room (Nat.le_of_ble_eq_true rfl)) dJ_joinField_59 ⟨Nat.zero_le _, Nat.zero_le _⟩) (fun r5 u6 H locs hw7 hP hD hS => ?_)
  subst hw7
  have hP : va_P (dC, dI) rg_cl (gw_W ad fo fa ur cI cL cF cA rec fp sp an nn cnt pt un uc pr lc) H := hP
  have hD : va_D A (gw_W ad fo fa ur cI cL cF cA rec fp sp an nn cnt pt un uc pr lc) := hD
  refine lv_aload_n hx hb dJ_joinField_62 rfl (lv_at hl 2 rfl) ?_
  refine lv_iload hx hb dJ_joinField_63 (lv_at hl 4 rfl) ?_
  refine rg_calll hD hS hA (va_runV (As := [.int (nI (k + 4))]) (rest := [.long (rec i (k + 4)), .int (nI (k + 4)), .ref ((fo 60))]) ⟨hx, hb, hml, hown, hts⟩ (c_F_cell j (k + 4) (by omega) (by omega) _) (cwV 1 hts (rg_gV tw_489 tw_303 tw_304 tw_3 tw_305) rfl rfl rfl (by decide +kernel) ⟨by rw [hR]; exact Nat.le_of_ble_eq_true rfl, by rw [hR]; exact Nat.le_of_ble_eq_true rfl⟩) (rg_preV rfl hK hP hD (ci := 4) (q0 := (11 + (4 + j))) rfl (gw_obj (by omega))) rfl rfl hl.1 rfl (lv_room (Nat.le_of_ble_eq_true rfl)) dJ_joinField_65 ⟨Nat.zero_le _, Nat.zero_le _⟩) (fun r8 u9 H locs hw10 hP hD hS => ?_)
  subst hw10
  have hP : va_P (dC, dI) rg_cl (gw_W ad fo fa ur cI cL cF cA rec fp sp an nn cnt pt un uc pr lc) H := hP
  have hD : va_D A (gw_W ad fo fa ur cI cL cF cA rec fp sp an nn cnt pt un uc pr lc) := hD
  refine lv_aload_n hx hb dJ_joinField_68 rfl (lv_at hl 3 rfl) ?_
  refine lv_iload hx hb dJ_joinField_69 (lv_at hl 4 rfl) ?_
  refine rg_calll hD hS hA (va_runV (As := [.int (nI (k + 4))]) (rest := [.long (rec j (k + 4)), .long (rec i (k + 4)), .int (nI (k + 4)), .ref ((fo 60))]) ⟨hx, hb, hml, hown, hts⟩ (c_F_cell q (k + 4) (by omega) (by omega) _) (cwV 1 hts (rg_gV tw_489 tw_303 tw_304 tw_3 tw_305) rfl rfl rfl (by decide +kernel) ⟨by rw [hR]; exact Nat.le_of_ble_eq_true rfl, by rw [hR]; exact Nat.le_of_ble_eq_true rfl⟩) (rg_preV rfl hK hP hD (ci := 4) (q0 := (11 + (4 + q))) rfl (gw_obj (by omega))) rfl rfl hl.1 rfl (lv_room (Nat.le_of_ble_eq_true rfl)) dJ_joinField_71 ⟨Nat.zero_le _, Nat.zero_le _⟩) (fun r11 u12 H locs hw13 hP hD hS => ?_)
  subst hw13
  have hP : va_P (dC, dI) rg_cl (gw_W ad fo fa ur cI cL cF cA rec fp sp an nn cnt pt un uc pr lc) H := hP
  have hD : va_D A (gw_W ad fo fa ur cI cL cF cA rec fp sp an nn cnt pt un uc pr lc) := hD
  refine rg_calll hD hS hA (va_runS (As := [.long (rec i (k + 4)), .long (rec j (k + 4)), .long (rec q (k + 4))]) (rest := [.int (nI (k + 4)), .ref ((fo 60))]) ⟨hx, hb, hml, hown, hts⟩ (c_J_joinedSet (rec i (k + 4)) (rec j (k + 4)) (rec q (k + 4)) _) (va_cwS 3 hts (rg_gSx tw_491 tw_492 tw_15 tw_493) rfl rfl rfl (by decide +kernel) ⟨by rw [hR]; exact Nat.le_of_ble_eq_true rfl, by rw [hR]; exact Nat.le_of_ble_eq_true rfl⟩) (rg_preS rfl hK hP hD) rfl rfl hl.1 rfl (lv_room (Nat.le_of_ble_eq_true rfl)) dJ_joinField_74 ⟨Nat.zero_le _, Nat.zero_le _⟩) (fun r14 u15 H locs hw16 hP hD hS => ?_)
  subst hw16
  have hP : va_P (dC, dI) rg_cl (gw_W ad fo fa ur cI cL cF cA rec fp sp an nn cnt pt un uc pr lc) H := hP
  have hD : va_D A (gw_W ad fo fa ur cI cL cF cA rec fp sp an nn cnt pt un uc pr lc) := hD
  refine rg_callv hD hS hA (va_runV (As := [.int (nI (k + 4)), .long ((((rec j (k + 4)) &&& (rec q (k + 4))) ||| (((rec j (k + 4)) ||| (rec q (k + 4))) &&& ((rec i (k + 4)) ^^^ (-1)))))]) (rest := []) ⟨hx, hb, hml, hown, hts⟩ (c_F_setCell 60 (k + 4) (by omega) (by omega) ((((rec j (k + 4)) &&& (rec q (k + 4))) ||| (((rec j (k + 4)) ||| (rec q (k + 4))) &&& ((rec i (k + 4)) ^^^ (-1))))) _) (cwV 2 hts (rg_gV tw_490 tw_245 tw_246 tw_3 tw_247) rfl rfl rfl (by decide +kernel) ⟨by rw [hR]; exact Nat.le_of_ble_eq_true rfl, by rw [hR]; exact Nat.le_of_ble_eq_true rfl⟩) (rg_preV rfl hK hP hD (ci := 4) (q0 := (11 + (4 + 60))) rfl (gw_obj (by omega))) rfl rfl hl.1 rfl (lv_room (Nat.le_of_ble_eq_true rfl)) dJ_joinField_77 ⟨Nat.zero_le _, Nat.zero_le _⟩) (fun u18 H locs hw19 hP hD hS => ?_)
  have hP : va_P (dC, dI) rg_cl (gw_W ad fo fa ur cI cL cF cA (va_up rec 60 (vp_updL (rec 60) (k + 4) ((((rec j (k + 4)) &&& (rec q (k + 4))) ||| (((rec j (k + 4)) ||| (rec q (k + 4))) &&& ((rec i (k + 4)) ^^^ (-1))))))) fp sp an nn cnt pt un uc pr lc) H := hP
  have hD : va_D A (gw_W ad fo fa ur cI cL cF cA (va_up rec 60 (vp_updL (rec 60) (k + 4) ((((rec j (k + 4)) &&& (rec q (k + 4))) ||| (((rec j (k + 4)) ||| (rec q (k + 4))) &&& ((rec i (k + 4)) ^^^ (-1))))))) fp sp an nn cnt pt un uc pr lc) := hD
  refine lv_iconst (v := nI 1) hx hb dJ_joinField_80 (by decide) ?_
  rw [hQ]
  exact rg_zret hx hb hr hlk hK hP hD hS (by first | exact rg_b01 _ | exact Or.inl rfl | exact Or.inr rfl) dJ_joinField_81 () rfl (rfl)
set_option maxHeartbeats 4000000 in
set_option maxRecDepth 100000 in
theorem c_J_joinField_n1 {l : Launch} {dC : Nat → ClassId} {dI : Nat → Nat → Nat} {ad fo fa ur : Nat → Nat} {cI cL cF cA : ClassId} {rec : Nat → Nat → Int64} {fp : Nat → Int32} {sp : Nat → Int32} {an : Nat → Int64} {nn : Nat → Int32} {cnt : Int32} {pt : Nat → Int32} {un : Nat → Nat → Int32} {uc : Nat → Int32} {pr : Int32} {lc : Int32} (i j q k : Nat) (hi : i < 60) (hj : j < 60) (hq : q < 60) (hk : k < 2) (X Y Z : rg_R) (hX : rg_CR (rec i) X) (hY : rg_CR (rec j) Y) (hZ : rg_CR (rec q) Z) (ka : rg_sf Y X k = true) : rg_M l yJ_joinField (Cond.code yJ_joinField prog_5_method_3_code 5 (some .boolean) :: rg_tbl) { frames := 2, cells := 0, slots := 0, locals := 52 } (dC, dI) rg_cl (gw_tys cI cL cF cA) (gw_W ad fo fa ur cI cL cF cA rec fp sp an nn cnt pt un uc pr lc) [.ref ((fo 60)), .ref ((fo i)), .ref ((fo j)), .ref ((fo q)), .int (nI k)] (rg_QI (dC, dI) rg_cl (gw_tys cI cL cF cA) (S := Unit) (fun z _ => z = nI 1) (fun _ => gw_W ad fo fa ur cI cL cF cA (va_up rec 60 (vp_updL (rec 60) k (rec q k))) fp sp an nn cnt pt un uc pr lc)) 0 0 := by
  refine rg_of prog_5_method_3_code 5 (some .boolean) (by decide) rfl (Nat.le_of_ble_eq_true rfl) ?_
  intro p e R s m args below meth c Q A H locs ls hR hQ hx hb hml hr hts hown hlk hnm hP hK hD hA hS hl
  have hl : lv_has ls 5 [(0, .ref ((fo 60))), (1, .ref ((fo i))), (2, .ref ((fo j))), (3, .ref ((fo q))), (4, .int (nI k))] := hl
  have hts : ∀ w ∈ rg_tbl, w.before args s = true := fun w h => hts w (List.mem_cons_of_mem _ h)
  refine lv_iload hx hb dJ_joinField_0 (lv_at hl 4 rfl) ?_
  refine lv_iconst (v := nI 2) hx hb dJ_joinField_2 (by decide) ?_
  refine rg_icmp_lt (tgt := 40) hx hb dJ_joinField_3 (by decide) (by omega) (by omega) (fun h1 => ?_) (fun h1 => by exfalso; omega)
  refine lv_iload hx hb dJ_joinField_40 (lv_at hl 4 rfl) ?_
  refine lv_iconst (v := nI 4) hx hb dJ_joinField_42 (by decide) ?_
  refine rg_icmp_lt (tgt := 82) hx hb dJ_joinField_43 (by decide) (by omega) (by omega) (fun h2 => ?_) (fun h2 => by exfalso; omega)
  refine lv_aload_n hx hb dJ_joinField_82 rfl (lv_at hl 2 rfl) ?_
  refine lv_aload_n hx hb dJ_joinField_83 rfl (lv_at hl 1 rfl) ?_
  refine lv_iload hx hb dJ_joinField_84 (lv_at hl 4 rfl) ?_
  refine rg_calli hD hS hA (va_runV (As := [.ref ((fo i)), .int (nI k)]) (rest := []) ⟨hx, hb, hml, hown, hts⟩ (c_F_isSame j i k (by omega) (by omega) (by omega) Y X hY hX _) (cwV 2 hts (rg_gV tw_495 tw_253 tw_254 tw_3 tw_255) rfl rfl rfl (by decide +kernel) ⟨by rw [hR]; exact Nat.le_of_ble_eq_true rfl, by rw [hR]; exact Nat.le_of_ble_eq_true rfl⟩) (rg_preV rfl hK hP hD (ci := 4) (q0 := (11 + (4 + j))) rfl (gw_obj (by omega))) rfl rfl hl.1 rfl (lv_room (Nat.le_of_ble_eq_true rfl)) dJ_joinField_86 ⟨Nat.zero_le _, Nat.zero_le _⟩) (fun r3 u4 H locs hw5 hP hD hS => ?_)
  subst hw5
  have hP : va_P (dC, dI) rg_cl (gw_W ad fo fa ur cI cL cF cA rec fp sp an nn cnt pt un uc pr lc) H := hP
  have hD : va_D A (gw_W ad fo fa ur cI cL cF cA rec fp sp an nn cnt pt un uc pr lc) := hD
  refine rg_ifz_eq (tgt := 101) hx hb dJ_joinField_89 (by decide) (fun h6 => absurd (ka.symm.trans h6) (by decide)) (fun h6 => ?_)
  refine lv_aload_n hx hb dJ_joinField_92 rfl (lv_at hl 0 rfl) ?_
  refine lv_aload_n hx hb dJ_joinField_93 rfl (lv_at hl 3 rfl) ?_
  refine lv_iload hx hb dJ_joinField_94 (lv_at hl 4 rfl) ?_
  refine rg_callv hD hS hA (va_runV (As := [.ref ((fo q)), .int (nI k)]) (rest := []) ⟨hx, hb, hml, hown, hts⟩ (c_F_take_lo 60 q k (by omega) (by omega) (by omega) _) (cwV 2 hts (rg_gV tw_496 tw_497 tw_498 tw_3 tw_499) rfl rfl rfl (by decide +kernel) ⟨by rw [hR]; exact Nat.le_of_ble_eq_true rfl, by rw [hR]; exact Nat.le_of_ble_eq_true rfl⟩) (rg_preV rfl hK hP hD (ci := 4) (q0 := (11 + (4 + 60))) rfl (gw_obj (by omega))) rfl rfl hl.1 rfl (lv_room (Nat.le_of_ble_eq_true rfl)) dJ_joinField_96 ⟨Nat.zero_le _, Nat.zero_le _⟩) (fun u8 H locs hw9 hP hD hS => ?_)
  have hP : va_P (dC, dI) rg_cl (gw_W ad fo fa ur cI cL cF cA (va_up rec 60 (vp_updL (rec 60) k (rec q k))) fp sp an nn cnt pt un uc pr lc) H := hP
  have hD : va_D A (gw_W ad fo fa ur cI cL cF cA (va_up rec 60 (vp_updL (rec 60) k (rec q k))) fp sp an nn cnt pt un uc pr lc) := hD
  refine lv_iconst (v := nI 1) hx hb dJ_joinField_99 (by decide) ?_
  rw [hQ]
  exact rg_zret hx hb hr hlk hK hP hD hS (by first | exact rg_b01 _ | exact Or.inl rfl | exact Or.inr rfl) dJ_joinField_100 () rfl (rfl)
set_option maxHeartbeats 4000000 in
set_option maxRecDepth 100000 in
theorem c_J_joinField_n2 {l : Launch} {dC : Nat → ClassId} {dI : Nat → Nat → Nat} {ad fo fa ur : Nat → Nat} {cI cL cF cA : ClassId} {rec : Nat → Nat → Int64} {fp : Nat → Int32} {sp : Nat → Int32} {an : Nat → Int64} {nn : Nat → Int32} {cnt : Int32} {pt : Nat → Int32} {un : Nat → Nat → Int32} {uc : Nat → Int32} {pr : Int32} {lc : Int32} (i j q k : Nat) (hi : i < 60) (hj : j < 60) (hq : q < 60) (hk : k < 2) (X Y Z : rg_R) (hX : rg_CR (rec i) X) (hY : rg_CR (rec j) Y) (hZ : rg_CR (rec q) Z) (ka : rg_sf Y X (k) = false) (kb : rg_sf Z X (k) = true ∨ rg_sf Z Y (k) = true) : rg_M l yJ_joinField (Cond.code yJ_joinField prog_5_method_3_code 5 (some .boolean) :: rg_tbl) { frames := 2, cells := 0, slots := 0, locals := 52 } (dC, dI) rg_cl (gw_tys cI cL cF cA) (gw_W ad fo fa ur cI cL cF cA rec fp sp an nn cnt pt un uc pr lc) [.ref ((fo 60)), .ref ((fo i)), .ref ((fo j)), .ref ((fo q)), .int (nI k)] (rg_QI (dC, dI) rg_cl (gw_tys cI cL cF cA) (S := Unit) (fun z _ => z = nI 1) (fun _ => gw_W ad fo fa ur cI cL cF cA (va_up rec 60 (vp_updL (rec 60) k (rec j k))) fp sp an nn cnt pt un uc pr lc)) 0 0 := by
  refine rg_of prog_5_method_3_code 5 (some .boolean) (by decide) rfl (Nat.le_of_ble_eq_true rfl) ?_
  intro p e R s m args below meth c Q A H locs ls hR hQ hx hb hml hr hts hown hlk hnm hP hK hD hA hS hl
  have hl : lv_has ls 5 [(0, .ref ((fo 60))), (1, .ref ((fo i))), (2, .ref ((fo j))), (3, .ref ((fo q))), (4, .int (nI k))] := hl
  have hts : ∀ w ∈ rg_tbl, w.before args s = true := fun w h => hts w (List.mem_cons_of_mem _ h)
  refine lv_iload hx hb dJ_joinField_0 (lv_at hl 4 rfl) ?_
  refine lv_iconst (v := nI 2) hx hb dJ_joinField_2 (by decide) ?_
  refine rg_icmp_lt (tgt := 40) hx hb dJ_joinField_3 (by decide) (by omega) (by omega) (fun h1 => ?_) (fun h1 => by exfalso; omega)
  refine lv_iload hx hb dJ_joinField_40 (lv_at hl 4 rfl) ?_
  refine lv_iconst (v := nI 4) hx hb dJ_joinField_42 (by decide) ?_
  refine rg_icmp_lt (tgt := 82) hx hb dJ_joinField_43 (by decide) (by omega) (by omega) (fun h2 => ?_) (fun h2 => by exfalso; omega)
  refine lv_aload_n hx hb dJ_joinField_82 rfl (lv_at hl 2 rfl) ?_
  refine lv_aload_n hx hb dJ_joinField_83 rfl (lv_at hl 1 rfl) ?_
  refine lv_iload hx hb dJ_joinField_84 (lv_at hl 4 rfl) ?_
  refine rg_calli hD hS hA (va_runV (As := [.ref ((fo i)), .int (nI k)]) (rest := []) ⟨hx, hb, hml, hown, hts⟩ (c_F_isSame j i k (by omega) (by omega) (by omega) Y X hY hX _) (cwV 2 hts (rg_gV tw_495 tw_253 tw_254 tw_3 tw_255) rfl rfl rfl (by decide +kernel) ⟨by rw [hR]; exact Nat.le_of_ble_eq_true rfl, by rw [hR]; exact Nat.le_of_ble_eq_true rfl⟩) (rg_preV rfl hK hP hD (ci := 4) (q0 := (11 + (4 + j))) rfl (gw_obj (by omega))) rfl rfl hl.1 rfl (lv_room (Nat.le_of_ble_eq_true rfl)) dJ_joinField_86 ⟨Nat.zero_le _, Nat.zero_le _⟩) (fun r3 u4 H locs hw5 hP hD hS => ?_)
  subst hw5
  have hP : va_P (dC, dI) rg_cl (gw_W ad fo fa ur cI cL cF cA rec fp sp an nn cnt pt un uc pr lc) H := hP
  have hD : va_D A (gw_W ad fo fa ur cI cL cF cA rec fp sp an nn cnt pt un uc pr lc) := hD
  refine rg_ifz_eq (tgt := 101) hx hb dJ_joinField_89 (by decide) (fun h6 => ?_) (fun h6 => absurd (ka.symm.trans h6) (by decide))
  refine lv_aload_n hx hb dJ_joinField_101 rfl (lv_at hl 3 rfl) ?_
  refine lv_aload_n hx hb dJ_joinField_102 rfl (lv_at hl 1 rfl) ?_
  refine lv_iload hx hb dJ_joinField_103 (lv_at hl 4 rfl) ?_
  refine rg_calli hD hS hA (va_runV (As := [.ref ((fo i)), .int (nI k)]) (rest := []) ⟨hx, hb, hml, hown, hts⟩ (c_F_isSame q i k (by omega) (by omega) (by omega) Z X hZ hX _) (cwV 2 hts (rg_gV tw_495 tw_253 tw_254 tw_3 tw_255) rfl rfl rfl (by decide +kernel) ⟨by rw [hR]; exact Nat.le_of_ble_eq_true rfl, by rw [hR]; exact Nat.le_of_ble_eq_true rfl⟩) (rg_preV rfl hK hP hD (ci := 4) (q0 := (11 + (4 + q))) rfl (gw_obj (by omega))) rfl rfl hl.1 rfl (lv_room (Nat.le_of_ble_eq_true rfl)) dJ_joinField_105 ⟨Nat.zero_le _, Nat.zero_le _⟩) (fun r7 u8 H locs hw9 hP hD hS => ?_)
  subst hw9
  have hP : va_P (dC, dI) rg_cl (gw_W ad fo fa ur cI cL cF cA rec fp sp an nn cnt pt un uc pr lc) H := hP
  have hD : va_D A (gw_W ad fo fa ur cI cL cF cA rec fp sp an nn cnt pt un uc pr lc) := hD
  refine rg_ifz_ne (tgt := 121) hx hb dJ_joinField_108 (by decide) (fun h10 => ?_) (fun h10 => ?_)
  · refine lv_aload_n hx hb dJ_joinField_121 rfl (lv_at hl 0 rfl) ?_
    refine lv_aload_n hx hb dJ_joinField_122 rfl (lv_at hl 2 rfl) ?_
    refine lv_iload hx hb dJ_joinField_123 (lv_at hl 4 rfl) ?_
    refine rg_callv hD hS hA (va_runV (As := [.ref ((fo j)), .int (nI k)]) (rest := []) ⟨hx, hb, hml, hown, hts⟩ (c_F_take_lo 60 j k (by omega) (by omega) (by omega) _) (cwV 2 hts (rg_gV tw_496 tw_497 tw_498 tw_3 tw_499) rfl rfl rfl (by decide +kernel) ⟨by rw [hR]; exact Nat.le_of_ble_eq_true rfl, by rw [hR]; exact Nat.le_of_ble_eq_true rfl⟩) (rg_preV rfl hK hP hD (ci := 4) (q0 := (11 + (4 + 60))) rfl (gw_obj (by omega))) rfl rfl hl.1 rfl (lv_room (Nat.le_of_ble_eq_true rfl)) dJ_joinField_125 ⟨Nat.zero_le _, Nat.zero_le _⟩) (fun u12 H locs hw13 hP hD hS => ?_)
    have hP : va_P (dC, dI) rg_cl (gw_W ad fo fa ur cI cL cF cA (va_up rec 60 (vp_updL (rec 60) k (rec j k))) fp sp an nn cnt pt un uc pr lc) H := hP
    have hD : va_D A (gw_W ad fo fa ur cI cL cF cA (va_up rec 60 (vp_updL (rec 60) k (rec j k))) fp sp an nn cnt pt un uc pr lc) := hD
    refine lv_iconst (v := nI 1) hx hb dJ_joinField_128 (by decide) ?_
    rw [hQ]
    exact rg_zret hx hb hr hlk hK hP hD hS (by first | exact rg_b01 _ | exact Or.inl rfl | exact Or.inr rfl) dJ_joinField_129 () rfl (rfl)
  · refine lv_aload_n hx hb dJ_joinField_111 rfl (lv_at hl 3 rfl) ?_
    refine lv_aload_n hx hb dJ_joinField_112 rfl (lv_at hl 2 rfl) ?_
    refine lv_iload hx hb dJ_joinField_113 (lv_at hl 4 rfl) ?_
    refine rg_calli hD hS hA (va_runV (As := [.ref ((fo j)), .int (nI k)]) (rest := []) ⟨hx, hb, hml, hown, hts⟩ (c_F_isSame q j k (by omega) (by omega) (by omega) Z Y hZ hY _) (cwV 2 hts (rg_gV tw_495 tw_253 tw_254 tw_3 tw_255) rfl rfl rfl (by decide +kernel) ⟨by rw [hR]; exact Nat.le_of_ble_eq_true rfl, by rw [hR]; exact Nat.le_of_ble_eq_true rfl⟩) (rg_preV rfl hK hP hD (ci := 4) (q0 := (11 + (4 + q))) rfl (gw_obj (by omega))) rfl rfl hl.1 rfl (lv_room (Nat.le_of_ble_eq_true rfl)) dJ_joinField_115 ⟨Nat.zero_le _, Nat.zero_le _⟩) (fun r14 u15 H locs hw16 hP hD hS => ?_)
    subst hw16
    have hP : va_P (dC, dI) rg_cl (gw_W ad fo fa ur cI cL cF cA rec fp sp an nn cnt pt un uc pr lc) H := hP
    have hD : va_D A (gw_W ad fo fa ur cI cL cF cA rec fp sp an nn cnt pt un uc pr lc) := hD
    refine rg_ifz_eq (tgt := 130) hx hb dJ_joinField_118 (by decide) (fun h17 => absurd kb (by rw [h10, h17]; decide)) (fun h17 => ?_)
    refine lv_aload_n hx hb dJ_joinField_121 rfl (lv_at hl 0 rfl) ?_
    refine lv_aload_n hx hb dJ_joinField_122 rfl (lv_at hl 2 rfl) ?_
    refine lv_iload hx hb dJ_joinField_123 (lv_at hl 4 rfl) ?_
    refine rg_callv hD hS hA (va_runV (As := [.ref ((fo j)), .int (nI k)]) (rest := []) ⟨hx, hb, hml, hown, hts⟩ (c_F_take_lo 60 j k (by omega) (by omega) (by omega) _) (cwV 2 hts (rg_gV tw_496 tw_497 tw_498 tw_3 tw_499) rfl rfl rfl (by decide +kernel) ⟨by rw [hR]; exact Nat.le_of_ble_eq_true rfl, by rw [hR]; exact Nat.le_of_ble_eq_true rfl⟩) (rg_preV rfl hK hP hD (ci := 4) (q0 := (11 + (4 + 60))) rfl (gw_obj (by omega))) rfl rfl hl.1 rfl (lv_room (Nat.le_of_ble_eq_true rfl)) dJ_joinField_125 ⟨Nat.zero_le _, Nat.zero_le _⟩) (fun u19 H locs hw20 hP hD hS => ?_)
    have hP : va_P (dC, dI) rg_cl (gw_W ad fo fa ur cI cL cF cA (va_up rec 60 (vp_updL (rec 60) k (rec j k))) fp sp an nn cnt pt un uc pr lc) H := hP
    have hD : va_D A (gw_W ad fo fa ur cI cL cF cA (va_up rec 60 (vp_updL (rec 60) k (rec j k))) fp sp an nn cnt pt un uc pr lc) := hD
    refine lv_iconst (v := nI 1) hx hb dJ_joinField_128 (by decide) ?_
    rw [hQ]
    exact rg_zret hx hb hr hlk hK hP hD hS (by first | exact rg_b01 _ | exact Or.inl rfl | exact Or.inr rfl) dJ_joinField_129 () rfl (rfl)
set_option maxHeartbeats 4000000 in
set_option maxRecDepth 100000 in
theorem c_J_joinField_n3 {l : Launch} {dC : Nat → ClassId} {dI : Nat → Nat → Nat} {ad fo fa ur : Nat → Nat} {cI cL cF cA : ClassId} {rec : Nat → Nat → Int64} {fp : Nat → Int32} {sp : Nat → Int32} {an : Nat → Int64} {nn : Nat → Int32} {cnt : Int32} {pt : Nat → Int32} {un : Nat → Nat → Int32} {uc : Nat → Int32} {pr : Int32} {lc : Int32} (i j q k : Nat) (hi : i < 60) (hj : j < 60) (hq : q < 60) (hk : k < 2) (X Y Z : rg_R) (hX : rg_CR (rec i) X) (hY : rg_CR (rec j) Y) (hZ : rg_CR (rec q) Z) (ka : rg_sf Y X (k) = false) (kb : rg_sf Z X (k) = false) (kc : rg_sf Z Y (k) = false) : rg_M l yJ_joinField (Cond.code yJ_joinField prog_5_method_3_code 5 (some .boolean) :: rg_tbl) { frames := 2, cells := 0, slots := 0, locals := 52 } (dC, dI) rg_cl (gw_tys cI cL cF cA) (gw_W ad fo fa ur cI cL cF cA rec fp sp an nn cnt pt un uc pr lc) [.ref ((fo 60)), .ref ((fo i)), .ref ((fo j)), .ref ((fo q)), .int (nI k)] (rg_QI (dC, dI) rg_cl (gw_tys cI cL cF cA) (S := Unit) (fun z _ => z = nI 0) (fun _ => gw_W ad fo fa ur cI cL cF cA rec fp sp an nn cnt pt un uc pr lc)) 0 0 := by
  refine rg_of prog_5_method_3_code 5 (some .boolean) (by decide) rfl (Nat.le_of_ble_eq_true rfl) ?_
  intro p e R s m args below meth c Q A H locs ls hR hQ hx hb hml hr hts hown hlk hnm hP hK hD hA hS hl
  have hl : lv_has ls 5 [(0, .ref ((fo 60))), (1, .ref ((fo i))), (2, .ref ((fo j))), (3, .ref ((fo q))), (4, .int (nI k))] := hl
  have hts : ∀ w ∈ rg_tbl, w.before args s = true := fun w h => hts w (List.mem_cons_of_mem _ h)
  refine lv_iload hx hb dJ_joinField_0 (lv_at hl 4 rfl) ?_
  refine lv_iconst (v := nI 2) hx hb dJ_joinField_2 (by decide) ?_
  refine rg_icmp_lt (tgt := 40) hx hb dJ_joinField_3 (by decide) (by omega) (by omega) (fun h1 => ?_) (fun h1 => by exfalso; omega)
  refine lv_iload hx hb dJ_joinField_40 (lv_at hl 4 rfl) ?_
  refine lv_iconst (v := nI 4) hx hb dJ_joinField_42 (by decide) ?_
  refine rg_icmp_lt (tgt := 82) hx hb dJ_joinField_43 (by decide) (by omega) (by omega) (fun h2 => ?_) (fun h2 => by exfalso; omega)
  refine lv_aload_n hx hb dJ_joinField_82 rfl (lv_at hl 2 rfl) ?_
  refine lv_aload_n hx hb dJ_joinField_83 rfl (lv_at hl 1 rfl) ?_
  refine lv_iload hx hb dJ_joinField_84 (lv_at hl 4 rfl) ?_
  refine rg_calli hD hS hA (va_runV (As := [.ref ((fo i)), .int (nI k)]) (rest := []) ⟨hx, hb, hml, hown, hts⟩ (c_F_isSame j i k (by omega) (by omega) (by omega) Y X hY hX _) (cwV 2 hts (rg_gV tw_495 tw_253 tw_254 tw_3 tw_255) rfl rfl rfl (by decide +kernel) ⟨by rw [hR]; exact Nat.le_of_ble_eq_true rfl, by rw [hR]; exact Nat.le_of_ble_eq_true rfl⟩) (rg_preV rfl hK hP hD (ci := 4) (q0 := (11 + (4 + j))) rfl (gw_obj (by omega))) rfl rfl hl.1 rfl (lv_room (Nat.le_of_ble_eq_true rfl)) dJ_joinField_86 ⟨Nat.zero_le _, Nat.zero_le _⟩) (fun r3 u4 H locs hw5 hP hD hS => ?_)
  subst hw5
  have hP : va_P (dC, dI) rg_cl (gw_W ad fo fa ur cI cL cF cA rec fp sp an nn cnt pt un uc pr lc) H := hP
  have hD : va_D A (gw_W ad fo fa ur cI cL cF cA rec fp sp an nn cnt pt un uc pr lc) := hD
  refine rg_ifz_eq (tgt := 101) hx hb dJ_joinField_89 (by decide) (fun h6 => ?_) (fun h6 => absurd (ka.symm.trans h6) (by decide))
  refine lv_aload_n hx hb dJ_joinField_101 rfl (lv_at hl 3 rfl) ?_
  refine lv_aload_n hx hb dJ_joinField_102 rfl (lv_at hl 1 rfl) ?_
  refine lv_iload hx hb dJ_joinField_103 (lv_at hl 4 rfl) ?_
  refine rg_calli hD hS hA (va_runV (As := [.ref ((fo i)), .int (nI k)]) (rest := []) ⟨hx, hb, hml, hown, hts⟩ (c_F_isSame q i k (by omega) (by omega) (by omega) Z X hZ hX _) (cwV 2 hts (rg_gV tw_495 tw_253 tw_254 tw_3 tw_255) rfl rfl rfl (by decide +kernel) ⟨by rw [hR]; exact Nat.le_of_ble_eq_true rfl, by rw [hR]; exact Nat.le_of_ble_eq_true rfl⟩) (rg_preV rfl hK hP hD (ci := 4) (q0 := (11 + (4 + q))) rfl (gw_obj (by omega))) rfl rfl hl.1 rfl (lv_room (Nat.le_of_ble_eq_true rfl)) dJ_joinField_105 ⟨Nat.zero_le _, Nat.zero_le _⟩) (fun r7 u8 H locs hw9 hP hD hS => ?_)
  subst hw9
  have hP : va_P (dC, dI) rg_cl (gw_W ad fo fa ur cI cL cF cA rec fp sp an nn cnt pt un uc pr lc) H := hP
  have hD : va_D A (gw_W ad fo fa ur cI cL cF cA rec fp sp an nn cnt pt un uc pr lc) := hD
  refine rg_ifz_ne (tgt := 121) hx hb dJ_joinField_108 (by decide) (fun h10 => absurd (kb.symm.trans h10) (by decide)) (fun h10 => ?_)
  refine lv_aload_n hx hb dJ_joinField_111 rfl (lv_at hl 3 rfl) ?_
  refine lv_aload_n hx hb dJ_joinField_112 rfl (lv_at hl 2 rfl) ?_
  refine lv_iload hx hb dJ_joinField_113 (lv_at hl 4 rfl) ?_
  refine rg_calli hD hS hA (va_runV (As := [.ref ((fo j)), .int (nI k)]) (rest := []) ⟨hx, hb, hml, hown, hts⟩ (c_F_isSame q j k (by omega) (by omega) (by omega) Z Y hZ hY _) (cwV 2 hts (rg_gV tw_495 tw_253 tw_254 tw_3 tw_255) rfl rfl rfl (by decide +kernel) ⟨by rw [hR]; exact Nat.le_of_ble_eq_true rfl, by rw [hR]; exact Nat.le_of_ble_eq_true rfl⟩) (rg_preV rfl hK hP hD (ci := 4) (q0 := (11 + (4 + q))) rfl (gw_obj (by omega))) rfl rfl hl.1 rfl (lv_room (Nat.le_of_ble_eq_true rfl)) dJ_joinField_115 ⟨Nat.zero_le _, Nat.zero_le _⟩) (fun r11 u12 H locs hw13 hP hD hS => ?_)
  subst hw13
  have hP : va_P (dC, dI) rg_cl (gw_W ad fo fa ur cI cL cF cA rec fp sp an nn cnt pt un uc pr lc) H := hP
  have hD : va_D A (gw_W ad fo fa ur cI cL cF cA rec fp sp an nn cnt pt un uc pr lc) := hD
  refine rg_ifz_eq (tgt := 130) hx hb dJ_joinField_118 (by decide) (fun h14 => ?_) (fun h14 => absurd (kc.symm.trans h14) (by decide))
  refine lv_iload hx hb dJ_joinField_130 (lv_at hl 4 rfl) ?_
  refine lv_bipush (v := nI 6) hx hb dJ_joinField_132 (by decide) ?_
  refine rg_icmp_lt (tgt := 173) hx hb dJ_joinField_134 (by decide) (by omega) (by omega) (fun h15 => ?_) (fun h15 => by exfalso; omega)
  refine lv_iconst (v := nI 0) hx hb dJ_joinField_173 (by decide) ?_
  rw [hQ]
  exact rg_zret hx hb hr hlk hK hP hD hS (by first | exact rg_b01 _ | exact Or.inl rfl | exact Or.inr rfl) dJ_joinField_174 () rfl (rfl)
set_option maxHeartbeats 4000000 in
set_option maxRecDepth 100000 in
theorem c_J_joinField_l1 {l : Launch} {dC : Nat → ClassId} {dI : Nat → Nat → Nat} {ad fo fa ur : Nat → Nat} {cI cL cF cA : ClassId} {rec : Nat → Nat → Int64} {fp : Nat → Int32} {sp : Nat → Int32} {an : Nat → Int64} {nn : Nat → Int32} {cnt : Int32} {pt : Nat → Int32} {un : Nat → Nat → Int32} {uc : Nat → Int32} {pr : Int32} {lc : Int32} (i j q k : Nat) (hi : i < 60) (hj : j < 60) (hq : q < 60) (hk : k < 2) (X Y Z : rg_R) (hX : rg_CR (rec i) X) (hY : rg_CR (rec j) Y) (hZ : rg_CR (rec q) Z) (ka : rg_sf Y X (k + 6) = true) : rg_M l yJ_joinField (Cond.code yJ_joinField prog_5_method_3_code 5 (some .boolean) :: rg_tbl) { frames := 2, cells := 0, slots := 0, locals := 52 } (dC, dI) rg_cl (gw_tys cI cL cF cA) (gw_W ad fo fa ur cI cL cF cA rec fp sp an nn cnt pt un uc pr lc) [.ref ((fo 60)), .ref ((fo i)), .ref ((fo j)), .ref ((fo q)), .int (nI (k + 6))] (rg_QI (dC, dI) rg_cl (gw_tys cI cL cF cA) (S := (Nat → Int64)) (fun z u => z = nI 1 ∧ rg_LC u k (Z.2.2.2 k) ∧ rg_Ot k u (rec 60)) (fun u => gw_W ad fo fa ur cI cL cF cA (va_up rec 60 u) fp sp an nn cnt pt un uc pr lc)) 0 0 := by
  refine rg_of prog_5_method_3_code 5 (some .boolean) (by decide) rfl (Nat.le_of_ble_eq_true rfl) ?_
  intro p e R s m args below meth c Q A H locs ls hR hQ hx hb hml hr hts hown hlk hnm hP hK hD hA hS hl
  have hl : lv_has ls 5 [(0, .ref ((fo 60))), (1, .ref ((fo i))), (2, .ref ((fo j))), (3, .ref ((fo q))), (4, .int (nI (k + 6)))] := hl
  have hts : ∀ w ∈ rg_tbl, w.before args s = true := fun w h => hts w (List.mem_cons_of_mem _ h)
  refine lv_iload hx hb dJ_joinField_0 (lv_at hl 4 rfl) ?_
  refine lv_iconst (v := nI 2) hx hb dJ_joinField_2 (by decide) ?_
  refine rg_icmp_lt (tgt := 40) hx hb dJ_joinField_3 (by decide) (by omega) (by omega) (fun h1 => by exfalso; omega) (fun h1 => ?_)
  refine lv_iload hx hb dJ_joinField_6 (lv_at hl 4 rfl) ?_
  refine lv_iconst (v := nI 4) hx hb dJ_joinField_8 (by decide) ?_
  refine rg_icmp_ge (tgt := 40) hx hb dJ_joinField_9 (by decide) (by omega) (by omega) (fun h2 => ?_) (fun h2 => by exfalso; omega)
  refine lv_iload hx hb dJ_joinField_40 (lv_at hl 4 rfl) ?_
  refine lv_iconst (v := nI 4) hx hb dJ_joinField_42 (by decide) ?_
  refine rg_icmp_lt (tgt := 82) hx hb dJ_joinField_43 (by decide) (by omega) (by omega) (fun h3 => by exfalso; omega) (fun h3 => ?_)
  refine lv_iload hx hb dJ_joinField_46 (lv_at hl 4 rfl) ?_
  refine lv_bipush (v := nI 6) hx hb dJ_joinField_48 (by decide) ?_
  refine rg_icmp_ge (tgt := 82) hx hb dJ_joinField_50 (by decide) (by omega) (by omega) (fun h4 => ?_) (fun h4 => by exfalso; omega)
  refine lv_aload_n hx hb dJ_joinField_82 rfl (lv_at hl 2 rfl) ?_
  refine lv_aload_n hx hb dJ_joinField_83 rfl (lv_at hl 1 rfl) ?_
  refine lv_iload hx hb dJ_joinField_84 (lv_at hl 4 rfl) ?_
  refine rg_calli hD hS hA (va_runV (As := [.ref ((fo i)), .int (nI (k + 6))]) (rest := []) ⟨hx, hb, hml, hown, hts⟩ (c_F_isSame j i (k + 6) (by omega) (by omega) (by omega) Y X hY hX _) (cwV 2 hts (rg_gV tw_495 tw_253 tw_254 tw_3 tw_255) rfl rfl rfl (by decide +kernel) ⟨by rw [hR]; exact Nat.le_of_ble_eq_true rfl, by rw [hR]; exact Nat.le_of_ble_eq_true rfl⟩) (rg_preV rfl hK hP hD (ci := 4) (q0 := (11 + (4 + j))) rfl (gw_obj (by omega))) rfl rfl hl.1 rfl (lv_room (Nat.le_of_ble_eq_true rfl)) dJ_joinField_86 ⟨Nat.zero_le _, Nat.zero_le _⟩) (fun r5 u6 H locs hw7 hP hD hS => ?_)
  subst hw7
  have hP : va_P (dC, dI) rg_cl (gw_W ad fo fa ur cI cL cF cA rec fp sp an nn cnt pt un uc pr lc) H := hP
  have hD : va_D A (gw_W ad fo fa ur cI cL cF cA rec fp sp an nn cnt pt un uc pr lc) := hD
  refine rg_ifz_eq (tgt := 101) hx hb dJ_joinField_89 (by decide) (fun h8 => absurd (ka.symm.trans h8) (by decide)) (fun h8 => ?_)
  refine lv_aload_n hx hb dJ_joinField_92 rfl (lv_at hl 0 rfl) ?_
  refine lv_aload_n hx hb dJ_joinField_93 rfl (lv_at hl 3 rfl) ?_
  refine lv_iload hx hb dJ_joinField_94 (lv_at hl 4 rfl) ?_
  refine rg_callv hD hS hA (va_runV (As := [.ref ((fo q)), .int (nI (k + 6))]) (rest := []) ⟨hx, hb, hml, hown, hts⟩ (c_F_take_hi 60 q k (by omega) (by omega) (by omega) (by omega) ((Z).2.2.2 k) (rg_CR_LC hZ hk) _) (cwV 2 hts (rg_gV tw_496 tw_497 tw_498 tw_3 tw_499) rfl rfl rfl (by decide +kernel) ⟨by rw [hR]; exact Nat.le_of_ble_eq_true rfl, by rw [hR]; exact Nat.le_of_ble_eq_true rfl⟩) (rg_preV rfl hK hP hD (ci := 4) (q0 := (11 + (4 + 60))) rfl (gw_obj (by omega))) rfl rfl hl.1 rfl (lv_room (Nat.le_of_ble_eq_true rfl)) dJ_joinField_96 ⟨Nat.zero_le _, Nat.zero_le _⟩) (fun u10 H locs hw11 hP hD hS => ?_)
  have hP : va_P (dC, dI) rg_cl (gw_W ad fo fa ur cI cL cF cA (va_up rec 60 u10) fp sp an nn cnt pt un uc pr lc) H := hP
  have hD : va_D A (gw_W ad fo fa ur cI cL cF cA (va_up rec 60 u10) fp sp an nn cnt pt un uc pr lc) := hD
  refine lv_iconst (v := nI 1) hx hb dJ_joinField_99 (by decide) ?_
  rw [hQ]
  exact rg_zret hx hb hr hlk hK hP hD hS (by first | exact rg_b01 _ | exact Or.inl rfl | exact Or.inr rfl) dJ_joinField_100 u10 rfl (⟨rfl, hw11.1, hw11.2⟩)
set_option maxHeartbeats 4000000 in
set_option maxRecDepth 100000 in
theorem c_J_joinField_l2 {l : Launch} {dC : Nat → ClassId} {dI : Nat → Nat → Nat} {ad fo fa ur : Nat → Nat} {cI cL cF cA : ClassId} {rec : Nat → Nat → Int64} {fp : Nat → Int32} {sp : Nat → Int32} {an : Nat → Int64} {nn : Nat → Int32} {cnt : Int32} {pt : Nat → Int32} {un : Nat → Nat → Int32} {uc : Nat → Int32} {pr : Int32} {lc : Int32} (i j q k : Nat) (hi : i < 60) (hj : j < 60) (hq : q < 60) (hk : k < 2) (X Y Z : rg_R) (hX : rg_CR (rec i) X) (hY : rg_CR (rec j) Y) (hZ : rg_CR (rec q) Z) (ka : rg_sf Y X (k + 6) = false) (kb : rg_sf Z X (k + 6) = true ∨ rg_sf Z Y (k + 6) = true) : rg_M l yJ_joinField (Cond.code yJ_joinField prog_5_method_3_code 5 (some .boolean) :: rg_tbl) { frames := 2, cells := 0, slots := 0, locals := 52 } (dC, dI) rg_cl (gw_tys cI cL cF cA) (gw_W ad fo fa ur cI cL cF cA rec fp sp an nn cnt pt un uc pr lc) [.ref ((fo 60)), .ref ((fo i)), .ref ((fo j)), .ref ((fo q)), .int (nI (k + 6))] (rg_QI (dC, dI) rg_cl (gw_tys cI cL cF cA) (S := (Nat → Int64)) (fun z u => z = nI 1 ∧ rg_LC u k (Y.2.2.2 k) ∧ rg_Ot k u (rec 60)) (fun u => gw_W ad fo fa ur cI cL cF cA (va_up rec 60 u) fp sp an nn cnt pt un uc pr lc)) 0 0 := by
  refine rg_of prog_5_method_3_code 5 (some .boolean) (by decide) rfl (Nat.le_of_ble_eq_true rfl) ?_
  intro p e R s m args below meth c Q A H locs ls hR hQ hx hb hml hr hts hown hlk hnm hP hK hD hA hS hl
  have hl : lv_has ls 5 [(0, .ref ((fo 60))), (1, .ref ((fo i))), (2, .ref ((fo j))), (3, .ref ((fo q))), (4, .int (nI (k + 6)))] := hl
  have hts : ∀ w ∈ rg_tbl, w.before args s = true := fun w h => hts w (List.mem_cons_of_mem _ h)
  refine lv_iload hx hb dJ_joinField_0 (lv_at hl 4 rfl) ?_
  refine lv_iconst (v := nI 2) hx hb dJ_joinField_2 (by decide) ?_
  refine rg_icmp_lt (tgt := 40) hx hb dJ_joinField_3 (by decide) (by omega) (by omega) (fun h1 => by exfalso; omega) (fun h1 => ?_)
  refine lv_iload hx hb dJ_joinField_6 (lv_at hl 4 rfl) ?_
  refine lv_iconst (v := nI 4) hx hb dJ_joinField_8 (by decide) ?_
  refine rg_icmp_ge (tgt := 40) hx hb dJ_joinField_9 (by decide) (by omega) (by omega) (fun h2 => ?_) (fun h2 => by exfalso; omega)
  refine lv_iload hx hb dJ_joinField_40 (lv_at hl 4 rfl) ?_
  refine lv_iconst (v := nI 4) hx hb dJ_joinField_42 (by decide) ?_
  refine rg_icmp_lt (tgt := 82) hx hb dJ_joinField_43 (by decide) (by omega) (by omega) (fun h3 => by exfalso; omega) (fun h3 => ?_)
  refine lv_iload hx hb dJ_joinField_46 (lv_at hl 4 rfl) ?_
  refine lv_bipush (v := nI 6) hx hb dJ_joinField_48 (by decide) ?_
  refine rg_icmp_ge (tgt := 82) hx hb dJ_joinField_50 (by decide) (by omega) (by omega) (fun h4 => ?_) (fun h4 => by exfalso; omega)
  refine lv_aload_n hx hb dJ_joinField_82 rfl (lv_at hl 2 rfl) ?_
  refine lv_aload_n hx hb dJ_joinField_83 rfl (lv_at hl 1 rfl) ?_
  refine lv_iload hx hb dJ_joinField_84 (lv_at hl 4 rfl) ?_
  refine rg_calli hD hS hA (va_runV (As := [.ref ((fo i)), .int (nI (k + 6))]) (rest := []) ⟨hx, hb, hml, hown, hts⟩ (c_F_isSame j i (k + 6) (by omega) (by omega) (by omega) Y X hY hX _) (cwV 2 hts (rg_gV tw_495 tw_253 tw_254 tw_3 tw_255) rfl rfl rfl (by decide +kernel) ⟨by rw [hR]; exact Nat.le_of_ble_eq_true rfl, by rw [hR]; exact Nat.le_of_ble_eq_true rfl⟩) (rg_preV rfl hK hP hD (ci := 4) (q0 := (11 + (4 + j))) rfl (gw_obj (by omega))) rfl rfl hl.1 rfl (lv_room (Nat.le_of_ble_eq_true rfl)) dJ_joinField_86 ⟨Nat.zero_le _, Nat.zero_le _⟩) (fun r5 u6 H locs hw7 hP hD hS => ?_)
  subst hw7
  have hP : va_P (dC, dI) rg_cl (gw_W ad fo fa ur cI cL cF cA rec fp sp an nn cnt pt un uc pr lc) H := hP
  have hD : va_D A (gw_W ad fo fa ur cI cL cF cA rec fp sp an nn cnt pt un uc pr lc) := hD
  refine rg_ifz_eq (tgt := 101) hx hb dJ_joinField_89 (by decide) (fun h8 => ?_) (fun h8 => absurd (ka.symm.trans h8) (by decide))
  refine lv_aload_n hx hb dJ_joinField_101 rfl (lv_at hl 3 rfl) ?_
  refine lv_aload_n hx hb dJ_joinField_102 rfl (lv_at hl 1 rfl) ?_
  refine lv_iload hx hb dJ_joinField_103 (lv_at hl 4 rfl) ?_
  refine rg_calli hD hS hA (va_runV (As := [.ref ((fo i)), .int (nI (k + 6))]) (rest := []) ⟨hx, hb, hml, hown, hts⟩ (c_F_isSame q i (k + 6) (by omega) (by omega) (by omega) Z X hZ hX _) (cwV 2 hts (rg_gV tw_495 tw_253 tw_254 tw_3 tw_255) rfl rfl rfl (by decide +kernel) ⟨by rw [hR]; exact Nat.le_of_ble_eq_true rfl, by rw [hR]; exact Nat.le_of_ble_eq_true rfl⟩) (rg_preV rfl hK hP hD (ci := 4) (q0 := (11 + (4 + q))) rfl (gw_obj (by omega))) rfl rfl hl.1 rfl (lv_room (Nat.le_of_ble_eq_true rfl)) dJ_joinField_105 ⟨Nat.zero_le _, Nat.zero_le _⟩) (fun r9 u10 H locs hw11 hP hD hS => ?_)
  subst hw11
  have hP : va_P (dC, dI) rg_cl (gw_W ad fo fa ur cI cL cF cA rec fp sp an nn cnt pt un uc pr lc) H := hP
  have hD : va_D A (gw_W ad fo fa ur cI cL cF cA rec fp sp an nn cnt pt un uc pr lc) := hD
  refine rg_ifz_ne (tgt := 121) hx hb dJ_joinField_108 (by decide) (fun h12 => ?_) (fun h12 => ?_)
  · refine lv_aload_n hx hb dJ_joinField_121 rfl (lv_at hl 0 rfl) ?_
    refine lv_aload_n hx hb dJ_joinField_122 rfl (lv_at hl 2 rfl) ?_
    refine lv_iload hx hb dJ_joinField_123 (lv_at hl 4 rfl) ?_
    refine rg_callv hD hS hA (va_runV (As := [.ref ((fo j)), .int (nI (k + 6))]) (rest := []) ⟨hx, hb, hml, hown, hts⟩ (c_F_take_hi 60 j k (by omega) (by omega) (by omega) (by omega) ((Y).2.2.2 k) (rg_CR_LC hY hk) _) (cwV 2 hts (rg_gV tw_496 tw_497 tw_498 tw_3 tw_499) rfl rfl rfl (by decide +kernel) ⟨by rw [hR]; exact Nat.le_of_ble_eq_true rfl, by rw [hR]; exact Nat.le_of_ble_eq_true rfl⟩) (rg_preV rfl hK hP hD (ci := 4) (q0 := (11 + (4 + 60))) rfl (gw_obj (by omega))) rfl rfl hl.1 rfl (lv_room (Nat.le_of_ble_eq_true rfl)) dJ_joinField_125 ⟨Nat.zero_le _, Nat.zero_le _⟩) (fun u14 H locs hw15 hP hD hS => ?_)
    have hP : va_P (dC, dI) rg_cl (gw_W ad fo fa ur cI cL cF cA (va_up rec 60 u14) fp sp an nn cnt pt un uc pr lc) H := hP
    have hD : va_D A (gw_W ad fo fa ur cI cL cF cA (va_up rec 60 u14) fp sp an nn cnt pt un uc pr lc) := hD
    refine lv_iconst (v := nI 1) hx hb dJ_joinField_128 (by decide) ?_
    rw [hQ]
    exact rg_zret hx hb hr hlk hK hP hD hS (by first | exact rg_b01 _ | exact Or.inl rfl | exact Or.inr rfl) dJ_joinField_129 u14 rfl (⟨rfl, hw15.1, hw15.2⟩)
  · refine lv_aload_n hx hb dJ_joinField_111 rfl (lv_at hl 3 rfl) ?_
    refine lv_aload_n hx hb dJ_joinField_112 rfl (lv_at hl 2 rfl) ?_
    refine lv_iload hx hb dJ_joinField_113 (lv_at hl 4 rfl) ?_
    refine rg_calli hD hS hA (va_runV (As := [.ref ((fo j)), .int (nI (k + 6))]) (rest := []) ⟨hx, hb, hml, hown, hts⟩ (c_F_isSame q j (k + 6) (by omega) (by omega) (by omega) Z Y hZ hY _) (cwV 2 hts (rg_gV tw_495 tw_253 tw_254 tw_3 tw_255) rfl rfl rfl (by decide +kernel) ⟨by rw [hR]; exact Nat.le_of_ble_eq_true rfl, by rw [hR]; exact Nat.le_of_ble_eq_true rfl⟩) (rg_preV rfl hK hP hD (ci := 4) (q0 := (11 + (4 + q))) rfl (gw_obj (by omega))) rfl rfl hl.1 rfl (lv_room (Nat.le_of_ble_eq_true rfl)) dJ_joinField_115 ⟨Nat.zero_le _, Nat.zero_le _⟩) (fun r16 u17 H locs hw18 hP hD hS => ?_)
    subst hw18
    have hP : va_P (dC, dI) rg_cl (gw_W ad fo fa ur cI cL cF cA rec fp sp an nn cnt pt un uc pr lc) H := hP
    have hD : va_D A (gw_W ad fo fa ur cI cL cF cA rec fp sp an nn cnt pt un uc pr lc) := hD
    refine rg_ifz_eq (tgt := 130) hx hb dJ_joinField_118 (by decide) (fun h19 => absurd kb (by rw [h12, h19]; decide)) (fun h19 => ?_)
    refine lv_aload_n hx hb dJ_joinField_121 rfl (lv_at hl 0 rfl) ?_
    refine lv_aload_n hx hb dJ_joinField_122 rfl (lv_at hl 2 rfl) ?_
    refine lv_iload hx hb dJ_joinField_123 (lv_at hl 4 rfl) ?_
    refine rg_callv hD hS hA (va_runV (As := [.ref ((fo j)), .int (nI (k + 6))]) (rest := []) ⟨hx, hb, hml, hown, hts⟩ (c_F_take_hi 60 j k (by omega) (by omega) (by omega) (by omega) ((Y).2.2.2 k) (rg_CR_LC hY hk) _) (cwV 2 hts (rg_gV tw_496 tw_497 tw_498 tw_3 tw_499) rfl rfl rfl (by decide +kernel) ⟨by rw [hR]; exact Nat.le_of_ble_eq_true rfl, by rw [hR]; exact Nat.le_of_ble_eq_true rfl⟩) (rg_preV rfl hK hP hD (ci := 4) (q0 := (11 + (4 + 60))) rfl (gw_obj (by omega))) rfl rfl hl.1 rfl (lv_room (Nat.le_of_ble_eq_true rfl)) dJ_joinField_125 ⟨Nat.zero_le _, Nat.zero_le _⟩) (fun u21 H locs hw22 hP hD hS => ?_)
    have hP : va_P (dC, dI) rg_cl (gw_W ad fo fa ur cI cL cF cA (va_up rec 60 u21) fp sp an nn cnt pt un uc pr lc) H := hP
    have hD : va_D A (gw_W ad fo fa ur cI cL cF cA (va_up rec 60 u21) fp sp an nn cnt pt un uc pr lc) := hD
    refine lv_iconst (v := nI 1) hx hb dJ_joinField_128 (by decide) ?_
    rw [hQ]
    exact rg_zret hx hb hr hlk hK hP hD hS (by first | exact rg_b01 _ | exact Or.inl rfl | exact Or.inr rfl) dJ_joinField_129 u21 rfl (⟨rfl, hw22.1, hw22.2⟩)
