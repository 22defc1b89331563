set_option maxHeartbeats 4000000 in
set_option maxRecDepth 100000 in
theorem c_rm_merge_ok {l : Launch} {dC : Nat → ClassId} {dI : Nat → Nat → Nat} {h : Nat} {a : Nat → Nat} {cI cL : ClassId} {cod : Int32} {cof : Int32} {mad : Int32} {nu : Nat → Int32} {co : Nat → Int64} {se : Nat → Int32} {li : Nat → Int32} {le : Nat → Int32} {fi : Nat → Int32} {sc : Nat → Int32} {ti : Nat → Int32} {un : Nat → Int32} {ma : Nat → Int32} {dr : Nat → Int32} {fr : Nat → Int32} {to : Nat → Int32} {en : Nat → Int32} (n b : Nat) (Rr : Nat → rg_R) (P1 P2 : Nat → Int32) (T : Nat → Nat) (U : Nat → List Nat) (j s9 : Nat) (hj4 : j < 4) (hs3 : s9 < 3) (hrep : rm_Rep (nI n) (nI b) cof nu co se li le fi sc ti un ma (n, Rr, P1, P2, T, U, b, cof)) : rg_M l yM_merge (Cond.code yM_merge prog_8_method_31_code 9 (some .int) :: rg_tbl) { frames := 4, cells := 0, slots := 0, locals := 106 } (dC, dI) rg_cl [(cI, .int), (cL, .long)] (rm_W h a cI cL cod (nI n) (nI b) cof mad nu co se li le fi sc ti un ma dr fr to en) [.ref h, .int (nI j), .int (nI s9)] (rg_QI (dC, dI) rg_cl [(cI, .int), (cL, .long)] (S := rm_S) (rm_Po (rg_mergeK (n, Rr, P1, P2, T, U, b, cof) j s9)) (fun u => rm_Wu h a cI cL u)) 0 0 := by
  refine rg_of prog_8_method_31_code 9 (some .int) (by decide) rfl (Nat.le_of_ble_eq_true rfl) ?_
  intro p e R s m args below meth c Q A H locs ls hR hQ hx hb hml hr hts hown hlk hnm hP hK hD hA hS hl
  have hl : lv_has ls 9 [(0, .ref h), (1, .int (nI j)), (2, .int (nI s9))] := hl
  have hts : ∀ w ∈ rg_tbl, w.before args s = true := fun w h => hts w (List.mem_cons_of_mem _ h)
  have hok := hrep.1
  have hn1 : 1 ≤ n := hok.1
  have hn60 : n ≤ 60 := hok.2.1
  have hb4 : b < 4 := hok.2.2.2.2.2.2.2.1
  have hTb : T b < n := (hok.2.2.2.2.2.2.1 b hb4).1
  have hti : ti b = nI (T b) := (hrep.2.2.2.2.2.2 b hb4).1
  have hma : ma b = nI (U b).length := (hrep.2.2.2.2.2.2 b hb4).2.1
  have hB := rg_isB_ok hj4
  have htj : ti j = nI (T j) := (hrep.2.2.2.2.2.2 j hj4).1
  have hTj : T j < n := (hok.2.2.2.2.2.2.1 j hj4).1
  have hpr : rg_Pr n fi sc := rm_Pr hrep
  have hsm : ∀ r q, r < n → (rg_An fi sc r q ↔ rg_An P1 P2 r q) := fun r q hr9 => ⟨fun h9 => rg_An_same (fun t ht => hrep.2.2.2.2.2.1 t (Nat.lt_of_le_of_lt ht hr9)) h9, fun h9 => rg_An_same (fun t ht => ⟨(hrep.2.2.2.2.2.1 t (Nat.lt_of_le_of_lt ht hr9)).1.symm, (hrep.2.2.2.2.2.1 t (Nat.lt_of_le_of_lt ht hr9)).2.symm⟩) h9⟩
  have hrep0 := rm_Rep_c (c' := nI 0) hrep
  refine lv_aload_n hx hb dM_merge_0 rfl (lv_at hl 0 rfl) ?_
  refine lv_iconst (v := nI 0) hx hb dM_merge_1 (by decide) ?_
  refine va_put (D := (dC, dI)) (ci := 0) (v := .int (nI 0)) (ty := .int) (C := "RevisionGroveModel") (T := TM) (N := 19) hx hb hts inM tyM tyM_ok nmM hown hK hP hD hS 0 rfl rfl 13 (by decide) (hts _ tw_614) (fun _ h9 => h9) rfl (by decide +kernel) rfl rfl (Nat.le_of_ble_eq_true rfl) dM_merge_2 (fun H locs hP hD hS => ?_)
  have hP : va_P (dC, dI) rg_cl (rm_W h a cI cL cod (nI n) (nI b) (nI 0) mad nu co se li le fi sc ti un ma dr fr to en) H := hP
  have hD : va_D A (rm_W h a cI cL cod (nI n) (nI b) (nI 0) mad nu co se li le fi sc ti un ma dr fr to en) := hD
  refine lv_aload_n hx hb dM_merge_5 rfl (lv_at hl 0 rfl) ?_
  refine lv_iload_n hx hb dM_merge_6 rfl (lv_at hl 1 rfl) ?_
  refine rg_calli hD hS hA (va_runS (As := [.int (nI j)]) (rest := [.ref h]) ⟨hx, hb, hml, hown, hts⟩ (c_rm_isBranch (nI j) _) (cwS 1 hts (rg_gS tw_715 tw_716 tw_5 tw_717) rfl rfl rfl (by decide +kernel) ⟨by rw [hR]; exact Nat.le_of_ble_eq_true rfl, by rw [hR]; exact Nat.le_of_ble_eq_true rfl⟩) (rg_preS rfl hK hP hD) rfl rfl hl.1 rfl (lv_room (Nat.le_of_ble_eq_true rfl)) dM_merge_7 ⟨Nat.zero_le _, Nat.zero_le _⟩) (fun r1 u2 H locs hw3 hP hD hS => ?_)
  subst hw3
  have hP : va_P (dC, dI) rg_cl (rm_W h a cI cL cod (nI n) (nI b) (nI 0) mad nu co se li le fi sc ti un ma dr fr to en) H := hP
  have hD : va_D A (rm_W h a cI cL cod (nI n) (nI b) (nI 0) mad nu co se li le fi sc ti un ma dr fr to en) := hD
  refine rg_ifz_eq (tgt := 26) hx hb dM_merge_10 (by decide) (fun h4 => absurd (hB.symm.trans h4) (by decide)) (fun h4 => ?_)
  refine lv_iload_n hx hb dM_merge_13 rfl (lv_at hl 2 rfl) ?_
  refine rg_ifN_lt (tgt := 26) hx hb dM_merge_14 (by decide) (by omega) (fun h5 => h5.elim) (fun h5 => ?_)
  refine lv_iload_n hx hb dM_merge_17 rfl (lv_at hl 2 rfl) ?_
  refine lv_iconst (v := nI 2) hx hb dM_merge_18 (by decide) ?_
  refine rg_icmp_gt (tgt := 26) hx hb dM_merge_19 (by decide) (by omega) (by omega) (fun h6 => by exfalso; omega) (fun h6 => ?_)
  refine lv_iconst (v := nI 0) hx hb dM_merge_22 (by decide) ?_
  refine lv_goto (tgt := 27) hx hb dM_merge_23 (by decide) ?_
  refine va_put (D := (dC, dI)) (ci := 0) (v := .int (nI 0)) (ty := .int) (C := "RevisionGroveModel") (T := TM) (N := 19) hx hb hts inM tyM tyM_ok nmM hown hK hP hD hS 0 rfl rfl 0 (by decide) (hts _ tw_601) (fun _ h9 => h9) rfl (by decide +kernel) rfl rfl (Nat.le_of_ble_eq_true rfl) dM_merge_27 (fun H locs hP hD hS => ?_)
  have hP : va_P (dC, dI) rg_cl (rm_W h a cI cL (nI 0) (nI n) (nI b) (nI 0) mad nu co se li le fi sc ti un ma dr fr to en) H := hP
  have hD : va_D A (rm_W h a cI cL (nI 0) (nI n) (nI b) (nI 0) mad nu co se li le fi sc ti un ma dr fr to en) := hD
  refine lv_aload_n hx hb dM_merge_30 rfl (lv_at hl 0 rfl) ?_
  refine va_get (D := (dC, dI)) (ci := 0) (C := "RevisionGroveModel") (T := TM) (N := 19) hx hb hts inM hown hK hP 0 rfl rfl 0 (by decide) (hts _ tw_601) (fun _ h9 => h9) rfl dM_merge_31 ?_
  refine rg_ifN_le (tgt := 39) hx hb dM_merge_34 (by decide) (by decide) (fun h7 => ?_) (fun h7 => by exfalso; omega)
  refine lv_aload_n hx hb dM_merge_39 rfl (lv_at hl 0 rfl) ?_
  refine rg_calli hD hS hA (va_runV (As := []) (rest := []) ⟨hx, hb, hml, hown, hts⟩ (c_rm_here b (by omega) _) (cwV 0 hts (rg_gV tw_667 tw_669 ts_M_here tw_5 tw_670) rfl rfl rfl (by decide +kernel) ⟨by rw [hR]; exact Nat.le_of_ble_eq_true rfl, by rw [hR]; exact Nat.le_of_ble_eq_true rfl⟩) (rg_preV rfl hK hP hD (ci := 0) (q0 := 0) rfl rfl) rfl rfl hl.1 rfl (lv_room (Nat.le_of_ble_eq_true rfl)) dM_merge_40 ⟨Nat.zero_le _, Nat.zero_le _⟩) (fun r8 u9 H locs hw10 hP hD hS => ?_)
  subst hw10
  have hP : va_P (dC, dI) rg_cl (rm_W h a cI cL (nI 0) (nI n) (nI b) (nI 0) mad nu co se li le fi sc ti un ma dr fr to en) H := hP
  have hD : va_D A (rm_W h a cI cL (nI 0) (nI n) (nI b) (nI 0) mad nu co se li le fi sc ti un ma dr fr to en) := hD
  refine rg_top (show (.int (ti b) : Value) = .int (nI (T b)) by rw [hti]) ?_
  refine lv_istore_n (lv' := [(3, .int (nI (T b))), (0, .ref h), (1, .int (nI j)), (2, .int (nI s9))]) hx hb dM_merge_43 rfl hl (by decide) rfl (fun ls hl => ?_)
  refine lv_aload_n hx hb dM_merge_44 rfl (lv_at hl 1 rfl) ?_
  refine va_get (D := (dC, dI)) (ci := 0) (C := "RevisionGroveModel") (T := TM) (N := 19) hx hb hts inM hown hK hP 0 rfl rfl 10 (by decide) (hts _ tw_611) (fun _ h9 => h9) rfl dM_merge_45 ?_
  refine lv_iload_n hx hb dM_merge_48 rfl (lv_at hl 2 rfl) ?_
  refine rg_iald hx hb hK hP 8 0 rfl rfl (by decide) (by omega) dM_merge_49 ?_
  refine rg_top (show (.int (ti j) : Value) = .int (nI (T j)) by rw [htj]) ?_
  refine lv_istore (lv' := [(4, .int (nI (T j))), (3, .int (nI (T b))), (0, .ref h), (1, .int (nI j)), (2, .int (nI s9))]) hx hb dM_merge_50 hl (by decide) rfl (fun ls hl => ?_)
  refine lv_aload_n hx hb dM_merge_52 rfl (lv_at hl 2 rfl) ?_
  refine lv_lconst (v := 1) hx hb dM_merge_53 (by decide) ?_
  refine lv_iload_n hx hb dM_merge_54 rfl (lv_at hl 1 rfl) ?_
  refine lv_lshl (v := (1 : Int64) <<< ((nI (T b)).toInt64 &&& 63)) hx hb dM_merge_55 rfl ?_
  refine rg_calll hD hS hA (va_runV (As := [.long ((1 : Int64) <<< ((nI (T b)).toInt64 &&& 63))]) (rest := []) ⟨hx, hb, hml, hown, hts⟩ (c_rm_ancestors n ((1 : Int64) <<< ((nI (T b)).toInt64 &&& 63)) hn60 hpr (rg_one_lt hTb hn60) _) (cwV 1 hts (rg_gV tw_742 tw_744 ts_M_ancestors tw_5 tw_745) rfl rfl rfl (by decide +kernel) ⟨by rw [hR]; exact Nat.le_of_ble_eq_true rfl, by rw [hR]; exact Nat.le_of_ble_eq_true rfl⟩) (rg_preV rfl hK hP hD (ci := 0) (q0 := 0) rfl rfl) rfl rfl hl.1 rfl (lv_room (Nat.le_of_ble_eq_true rfl)) dM_merge_56 ⟨Nat.zero_le _, Nat.zero_le _⟩) (fun r11 u12 H locs hw13 hP hD hS => ?_)
  have hP : va_P (dC, dI) rg_cl (rm_W h a cI cL (nI 0) (nI n) (nI b) (nI 0) mad nu co se li le fi sc ti un ma dr fr to en) H := hP
  have hD : va_D A (rm_W h a cI cL (nI 0) (nI n) (nI b) (nI 0) mad nu co se li le fi sc ti un ma dr fr to en) := hD
  have hax := rg_anc1 (by omega) hw13
  refine lv_iload hx hb dM_merge_59 (lv_at hl 0 rfl) ?_
  refine lv_lshr (v := r11 >>> ((nI (T j)).toInt64 &&& 63)) hx hb dM_merge_61 rfl ?_
  refine lv_lconst (v := 1) hx hb dM_merge_62 (by decide) ?_
  refine lv_land hx hb dM_merge_63 ?_
  refine rg_top (show (.long ((r11 >>> ((nI (T j)).toInt64 &&& 63)) &&& (1 : Int64)) : Value) = .long (bif rg_has r11 (T j) then 1 else 0) by rw [rg_bit_s _ (by omega)]) ?_
  refine lv_lconst (v := 1) hx hb dM_merge_64 (by decide) ?_
  refine W.lcmp hx hb dM_merge_65 ?_
  refine lv_if_ne (tgt := 71) hx hb dM_merge_66 (by decide) (fun h14 => ?_) (fun h14 => ?_)
  · have hn1 : ¬ rg_An P1 P2 (T b) (T j) := fun q => h14 (rg_cb1.mpr ((hax _).mpr ((hsm _ _ hTb).mpr q)))
    refine lv_aload_n hx hb dM_merge_71 rfl (lv_at hl 2 rfl) ?_
    refine lv_lconst (v := 1) hx hb dM_merge_72 (by decide) ?_
    refine lv_iload hx hb dM_merge_73 (lv_at hl 0 rfl) ?_
    refine lv_lshl (v := (1 : Int64) <<< ((nI (T j)).toInt64 &&& 63)) hx hb dM_merge_75 rfl ?_
    refine rg_calll hD hS hA (va_runV (As := [.long ((1 : Int64) <<< ((nI (T j)).toInt64 &&& 63))]) (rest := []) ⟨hx, hb, hml, hown, hts⟩ (c_rm_ancestors n ((1 : Int64) <<< ((nI (T j)).toInt64 &&& 63)) hn60 hpr (rg_one_lt hTj hn60) _) (cwV 1 hts (rg_gV tw_742 tw_744 ts_M_ancestors tw_5 tw_745) rfl rfl rfl (by decide +kernel) ⟨by rw [hR]; exact Nat.le_of_ble_eq_true rfl, by rw [hR]; exact Nat.le_of_ble_eq_true rfl⟩) (rg_preV rfl hK hP hD (ci := 0) (q0 := 0) rfl rfl) rfl rfl hl.1 rfl (lv_room (Nat.le_of_ble_eq_true rfl)) dM_merge_76 ⟨Nat.zero_le _, Nat.zero_le _⟩) (fun r15 u16 H locs hw17 hP hD hS => ?_)
    have hP : va_P (dC, dI) rg_cl (rm_W h a cI cL (nI 0) (nI n) (nI b) (nI 0) mad nu co se li le fi sc ti un ma dr fr to en) H := hP
    have hD : va_D A (rm_W h a cI cL (nI 0) (nI n) (nI b) (nI 0) mad nu co se li le fi sc ti un ma dr fr to en) := hD
    have haz := rg_anc1 (by omega) hw17
    refine lv_iload_n hx hb dM_merge_79 rfl (lv_at hl 1 rfl) ?_
    refine lv_lshr (v := r15 >>> ((nI (T b)).toInt64 &&& 63)) hx hb dM_merge_80 rfl ?_
    refine lv_lconst (v := 1) hx hb dM_merge_81 (by decide) ?_
    refine lv_land hx hb dM_merge_82 ?_
    refine rg_top (show (.long ((r15 >>> ((nI (T b)).toInt64 &&& 63)) &&& (1 : Int64)) : Value) = .long (bif rg_has r15 (T b) then 1 else 0) by rw [rg_bit_s _ (by omega)]) ?_
    refine lv_lconst (v := 1) hx hb dM_merge_83 (by decide) ?_
    refine W.lcmp hx hb dM_merge_84 ?_
    refine lv_if_ne (tgt := 96) hx hb dM_merge_85 (by decide) (fun h18 => ?_) (fun h18 => ?_)
    · have hn2 : ¬ rg_An P1 P2 (T j) (T b) := fun q => h18 (rg_cb1.mpr ((haz _).mpr ((hsm _ _ hTj).mpr q)))
      refine lv_aload_n hx hb dM_merge_96 rfl (lv_at hl 2 rfl) ?_
      refine lv_iload_n hx hb dM_merge_97 rfl (lv_at hl 1 rfl) ?_
      refine lv_iload hx hb dM_merge_98 (lv_at hl 0 rfl) ?_
      refine rg_calli hD hS hA (va_runV (As := [.int (nI (T b)), .int (nI (T j))]) (rest := []) ⟨hx, hb, hml, hown, hts⟩ (c_rm_baseOf n (T b) (T j) hn60 (by omega) (by omega) hpr _) (cwV 2 hts (rg_gV tw_746 tw_748 ts_M_baseOf tw_5 tw_749) rfl rfl rfl (by decide +kernel) ⟨by rw [hR]; exact Nat.le_of_ble_eq_true rfl, by rw [hR]; exact Nat.le_of_ble_eq_true rfl⟩) (rg_preV rfl hK hP hD (ci := 0) (q0 := 0) rfl rfl) rfl rfl hl.1 rfl (lv_room (Nat.le_of_ble_eq_true rfl)) dM_merge_100 ⟨Nat.zero_le _, Nat.zero_le _⟩) (fun r19 u20 H locs hw21 hP hD hS => ?_)
      obtain ⟨q22, rfl, hbs⟩ := hw21
      have hP : va_P (dC, dI) rg_cl (rm_W h a cI cL (nI 0) (nI n) (nI b) (nI 0) mad nu co se li le fi sc ti un ma dr fr to en) H := hP
      have hD : va_D A (rm_W h a cI cL (nI 0) (nI n) (nI b) (nI 0) mad nu co se li le fi sc ti un ma dr fr to en) := hD
      refine lv_istore (lv' := [(5, .int (nI q22)), (4, .int (nI (T j))), (3, .int (nI (T b))), (0, .ref h), (1, .int (nI j)), (2, .int (nI s9))]) hx hb dM_merge_103 hl (by decide) rfl (fun ls hl => ?_)
      have hbn : q22 < n := Nat.lt_of_le_of_lt (rg_An_le hbs.1) hTb
      have hbq : rg_base P1 P2 (T b) (T j) = q22 := rg_base_eq (rg_Bs_same (n := n) hrep.2.2.2.2.2.1 hTb hTj hbs)
      obtain ⟨X9, hX9⟩ : ∃ X9, X9 = Rr q22 := ⟨_, rfl⟩
      obtain ⟨Y9, hY9⟩ : ∃ Y9, Y9 = Rr (T b) := ⟨_, rfl⟩
      obtain ⟨Z9, hZ9⟩ : ∃ Z9, Z9 = Rr (T j) := ⟨_, rfl⟩
      have mX : rg_MR nu co se le li q22 X9 := by rw [hX9]; exact hrep.2.2.2.2.1 q22 hbn
      have mY : rg_MR nu co se le li (T b) Y9 := by rw [hY9]; exact hrep.2.2.2.2.1 (T b) hTb
      have mZ : rg_MR nu co se le li (T j) Z9 := by rw [hZ9]; exact hrep.2.2.2.2.1 (T j) hTj
      have hmk : rg_mergeK (n, Rr, P1, P2, T, U, b, cof) j s9 = if (rg_mc X9 Y9 Z9 2 ≠ 0 ∧ s9 = 0) ∨ n = 60 then (2, 0, rg_withc (n, Rr, P1, P2, T, U, b, cof) (rg_mc X9 Y9 Z9 2)) else (0, 2, rg_new (rg_withc (n, Rr, P1, P2, T, U, b, cof) (rg_mc X9 Y9 Z9 2)) (rg_mg X9 Y9 Z9 s9) (nI (T j))) := by rw [hX9, hY9, hZ9, ← hbq]; unfold rg_mergeK; rw [if_neg hn1, if_neg hn2]; rfl
      refine lv_iconst (v := nI 0) hx hb dM_merge_105 (by decide) ?_
      refine lv_istore (lv' := [(6, .int (nI 0)), (5, .int (nI q22)), (4, .int (nI (T j))), (3, .int (nI (T b))), (0, .ref h), (1, .int (nI j)), (2, .int (nI s9))]) hx hb dM_merge_106 hl (by decide) rfl (fun ls hl => ?_)
      have lp108 : ∀ (fuel : Nat) (f : Nat) (nu1 : Nat → Int32) (co1 : Nat → Int64) (se1 : Nat → Int32) (li1 : Nat → Int32) (le1 : Nat → Int32) (mad1 : Int32) (dr1 : Nat → Int32) (fr1 : Nat → Int32) (to1 : Nat → Int32) (en1 : Nat → Int32) (H : Heap) (locs : List Loc) (ls : Array Slot), 2 - f < fuel → f ≤ 2 → rm_Jk n nu nu1 co co1 se se1 li li1 le le1 → rm_MI n (rg_mg X9 Y9 Z9 s9) f nu1 co1 se1 li1 le1 → va_P (dC, dI) rg_cl (rm_W h a cI cL (nI 0) (nI n) (nI b) (rg_mc X9 Y9 Z9 f) mad1 nu1 co1 se1 li1 le1 fi sc ti un ma dr1 fr1 to1 en1) H → va_D A (rm_W h a cI cL (nI 0) (nI n) (nI b) (rg_mc X9 Y9 Z9 f) mad1 nu1 co1 se1 li1 le1 fi sc ti un ma dr1 fr1 to1 en1) → va_S A s.heap H locs → lv_has ls 9 [(0, .ref h), (2, .int (nI s9)), (3, .int (nI (T b))), (4, .int (nI (T j))), (5, .int (nI q22)), (6, .int (nI f))] → W p l e R s m args below meth c H locs 0 0 Q (F0 m 108 ls []) := by
        intro fuel
        induction fuel with
        | zero => intro f nu1 co1 se1 li1 le1 mad1 dr1 fr1 to1 en1 H locs ls hf; exact absurd hf (Nat.not_lt_zero _)
        | succ fuel ih108 =>
          intro f nu1 co1 se1 li1 le1 mad1 dr1 fr1 to1 en1 H locs ls hfu108 hf9 hJk hMI hP hD hS hl
          refine lv_iload hx hb dM_merge_108 (lv_at hl 5 rfl) ?_
          refine lv_iconst (v := nI 2) hx hb dM_merge_110 (by decide) ?_
          refine rg_icmp_ge (tgt := 262) hx hb dM_merge_111 (by decide) (by omega) (by omega) (fun h23 => ?_) (fun h23 => ?_)
          · obtain rfl : f = 2 := by omega
            have hrj : rm_Rep (nI n) (nI b) (rg_mc X9 Y9 Z9 2) nu1 co1 se1 li1 le1 fi sc ti un ma (n, Rr, P1, P2, T, U, b, rg_mc X9 Y9 Z9 2) := rm_Rep_junk (rm_Rep_c hrep) hJk.1 hJk.2.1 hJk.2.2.1 hJk.2.2.2.1 hJk.2.2.2.2 (fun _ _ => rfl) (fun _ _ => rfl)
            refine lv_aload_n hx hb dM_merge_262 rfl (lv_at hl 0 rfl) ?_
            refine lv_aload_n hx hb dM_merge_263 rfl (lv_at hl 0 rfl) ?_
            refine va_get (D := (dC, dI)) (ci := 0) (C := "RevisionGroveModel") (T := TM) (N := 19) hx hb hts inM hown hK hP 0 rfl rfl 13 (by decide) (hts _ tw_614) (fun _ h9 => h9) rfl dM_merge_264 ?_
            refine lv_if_eq (tgt := 274) hx hb dM_merge_267 (by decide) (fun h24 => ?_) (fun h24 => ?_)
            · refine lv_aload_n hx hb dM_merge_274 rfl (lv_at hl 0 rfl) ?_
              refine va_get (D := (dC, dI)) (ci := 0) (C := "RevisionGroveModel") (T := TM) (N := 19) hx hb hts inM hown hK hP 0 rfl rfl 1 (by decide) (hts _ tw_602) (fun _ h9 => h9) rfl dM_merge_275 ?_
              refine lv_bipush (v := nI 60) hx hb dM_merge_278 (by decide) ?_
              refine rg_icmp_ne (tgt := 287) hx hb dM_merge_280 (by decide) (by omega) (by omega) (fun h25 => ?_) (fun h25 => ?_)
              · refine lv_iconst (v := nI 0) hx hb dM_merge_287 (by decide) ?_
                refine va_put (D := (dC, dI)) (ci := 0) (v := .int (nI 0)) (ty := .int) (C := "RevisionGroveModel") (T := TM) (N := 19) hx hb hts inM tyM tyM_ok nmM hown hK hP hD hS 0 rfl rfl 0 (by decide) (hts _ tw_601) (fun _ h9 => h9) rfl (by decide +kernel) rfl rfl (Nat.le_of_ble_eq_true rfl) dM_merge_288 (fun H locs hP hD hS => ?_)
                have hP : va_P (dC, dI) rg_cl (rm_W h a cI cL (nI 0) (nI n) (nI b) (rg_mc X9 Y9 Z9 2) mad1 nu1 co1 se1 li1 le1 fi sc ti un ma dr1 fr1 to1 en1) H := hP
                have hD : va_D A (rm_W h a cI cL (nI 0) (nI n) (nI b) (rg_mc X9 Y9 Z9 2) mad1 nu1 co1 se1 li1 le1 fi sc ti un ma dr1 fr1 to1 en1) := hD
                refine lv_aload_n hx hb dM_merge_291 rfl (lv_at hl 0 rfl) ?_
                refine va_get (D := (dC, dI)) (ci := 0) (C := "RevisionGroveModel") (T := TM) (N := 19) hx hb hts inM hown hK hP 0 rfl rfl 0 (by decide) (hts _ tw_601) (fun _ h9 => h9) rfl dM_merge_292 ?_
                refine rg_ifN_le (tgt := 300) hx hb dM_merge_295 (by decide) (by decide) (fun h26 => ?_) (fun h26 => by exfalso; omega)
                refine lv_aload_n hx hb dM_merge_300 rfl (lv_at hl 0 rfl) ?_
                refine lv_iload_n hx hb dM_merge_301 rfl (lv_at hl 2 rfl) ?_
                refine lv_iload hx hb dM_merge_302 (lv_at hl 3 rfl) ?_
                refine rg_calli hD hS hA (va_runV (As := [.int (nI (T b)), .int (nI (T j))]) (rest := []) ⟨hx, hb, hml, hown, hts⟩ (c_rm_finish b n (by omega) (by omega) (nI (T b)) (nI (T j)) _) (cwV 2 hts (rg_gV tw_687 tw_689 ts_M_finish tw_5 tw_690) rfl rfl rfl (by decide +kernel) ⟨by rw [hR]; exact Nat.le_of_ble_eq_true rfl, by rw [hR]; exact Nat.le_of_ble_eq_true rfl⟩) (rg_preV rfl hK hP hD (ci := 0) (q0 := 0) rfl rfl) rfl rfl hl.1 rfl (lv_room (Nat.le_of_ble_eq_true rfl)) dM_merge_304 ⟨Nat.zero_le _, Nat.zero_le _⟩) (fun r27 u28 H locs hw29 hP hD hS => ?_)
                subst hw29
                have hP : va_P (dC, dI) rg_cl (rm_W h a cI cL (nI 0) (nI (n + 1)) (nI b) (rg_mc X9 Y9 Z9 2) mad1 nu1 co1 se1 li1 le1 (upd fi n (nI (T b))) (upd sc n (nI (T j))) (upd ti b (nI n)) un (upd ma b (nI 0)) dr1 fr1 to1 en1) H := hP
                have hD : va_D A (rm_W h a cI cL (nI 0) (nI (n + 1)) (nI b) (rg_mc X9 Y9 Z9 2) mad1 nu1 co1 se1 li1 le1 (upd fi n (nI (T b))) (upd sc n (nI (T j))) (upd ti b (nI n)) un (upd ma b (nI 0)) dr1 fr1 to1 en1) := hD
                refine lv_pop hx hb dM_merge_307 rfl ?_
                refine lv_iconst (v := nI 2) hx hb dM_merge_308 (by decide) ?_
                rw [hQ]
                exact rg_iret hx hb hr hlk hK hP hD hS dM_merge_309 (nI 0, nI (n + 1), nI b, rg_mc X9 Y9 Z9 2, mad1, nu1, co1, se1, li1, le1, upd fi n (nI (T b)), upd sc n (nI (T j)), upd ti b (nI n), un, upd ma b (nI 0), dr1, fr1, to1, en1) rfl (by rw [hmk, if_neg (fun q => q.elim (fun q => q.1 h24) h25)]; exact ⟨rm_Rep_new (g := rg_withc (n, Rr, P1, P2, T, U, b, cof) (rg_mc X9 Y9 Z9 2)) hrj hMI (by show n < 60; omega) (Or.inr ⟨T j, hTj, rfl⟩), rfl, rfl⟩)
              · refine lv_iconst (v := nI 2) hx hb dM_merge_283 (by decide) ?_
                refine lv_goto (tgt := 288) hx hb dM_merge_284 (by decide) ?_
                refine va_put (D := (dC, dI)) (ci := 0) (v := .int (nI 2)) (ty := .int) (C := "RevisionGroveModel") (T := TM) (N := 19) hx hb hts inM tyM tyM_ok nmM hown hK hP hD hS 0 rfl rfl 0 (by decide) (hts _ tw_601) (fun _ h9 => h9) rfl (by decide +kernel) rfl rfl (Nat.le_of_ble_eq_true rfl) dM_merge_288 (fun H locs hP hD hS => ?_)
                have hP : va_P (dC, dI) rg_cl (rm_W h a cI cL (nI 2) (nI n) (nI b) (rg_mc X9 Y9 Z9 2) mad1 nu1 co1 se1 li1 le1 fi sc ti un ma dr1 fr1 to1 en1) H := hP
                have hD : va_D A (rm_W h a cI cL (nI 2) (nI n) (nI b) (rg_mc X9 Y9 Z9 2) mad1 nu1 co1 se1 li1 le1 fi sc ti un ma dr1 fr1 to1 en1) := hD
                refine lv_aload_n hx hb dM_merge_291 rfl (lv_at hl 0 rfl) ?_
                refine va_get (D := (dC, dI)) (ci := 0) (C := "RevisionGroveModel") (T := TM) (N := 19) hx hb hts inM hown hK hP 0 rfl rfl 0 (by decide) (hts _ tw_601) (fun _ h9 => h9) rfl dM_merge_292 ?_
                refine rg_ifN_le (tgt := 300) hx hb dM_merge_295 (by decide) (by decide) (fun h30 => by exfalso; omega) (fun h30 => ?_)
                refine lv_iconst (v := nI 0) hx hb dM_merge_298 (by decide) ?_
                rw [hQ]
                exact rg_iret hx hb hr hlk hK hP hD hS dM_merge_299 (nI 2, nI n, nI b, rg_mc X9 Y9 Z9 2, mad1, nu1, co1, se1, li1, le1, fi, sc, ti, un, ma, dr1, fr1, to1, en1) rfl (by rw [hmk, if_pos (Or.inr h25)]; exact ⟨hrj, rfl, rfl⟩)
            · refine lv_iload_n hx hb dM_merge_270 rfl (lv_at hl 1 rfl) ?_
              refine rg_ifN_eq (tgt := 283) hx hb dM_merge_271 (by decide) (by omega) (fun h31 => ?_) (fun h31 => ?_)
              · refine lv_iconst (v := nI 2) hx hb dM_merge_283 (by decide) ?_
                refine lv_goto (tgt := 288) hx hb dM_merge_284 (by decide) ?_
                refine va_put (D := (dC, dI)) (ci := 0) (v := .int (nI 2)) (ty := .int) (C := "RevisionGroveModel") (T := TM) (N := 19) hx hb hts inM tyM tyM_ok nmM hown hK hP hD hS 0 rfl rfl 0 (by decide) (hts _ tw_601) (fun _ h9 => h9) rfl (by decide +kernel) rfl rfl (Nat.le_of_ble_eq_true rfl) dM_merge_288 (fun H locs hP hD hS => ?_)
                have hP : va_P (dC, dI) rg_cl (rm_W h a cI cL (nI 2) (nI n) (nI b) (rg_mc X9 Y9 Z9 2) mad1 nu1 co1 se1 li1 le1 fi sc ti un ma dr1 fr1 to1 en1) H := hP
                have hD : va_D A (rm_W h a cI cL (nI 2) (nI n) (nI b) (rg_mc X9 Y9 Z9 2) mad1 nu1 co1 se1 li1 le1 fi sc ti un ma dr1 fr1 to1 en1) := hD
                refine lv_aload_n hx hb dM_merge_291 rfl (lv_at hl 0 rfl) ?_
                refine va_get (D := (dC, dI)) (ci := 0) (C := "RevisionGroveModel") (T := TM) (N := 19) hx hb hts inM hown hK hP 0 rfl rfl 0 (by decide) (hts _ tw_601) (fun _ h9 => h9) rfl dM_merge_292 ?_
                refine rg_ifN_le (tgt := 300) hx hb dM_merge_295 (by decide) (by decide) (fun h32 => by exfalso; omega) (fun h32 => ?_)
                refine lv_iconst (v := nI 0) hx hb dM_merge_298 (by decide) ?_
                rw [hQ]
                exact rg_iret hx hb hr hlk hK hP hD hS dM_merge_299 (nI 2, nI n, nI b, rg_mc X9 Y9 Z9 2, mad1, nu1, co1, se1, li1, le1, fi, sc, ti, un, ma, dr1, fr1, to1, en1) rfl (by rw [hmk, if_pos (Or.inl ⟨h24, h31⟩)]; exact ⟨hrj, rfl, rfl⟩)
              · refine lv_aload_n hx hb dM_merge_274 rfl (lv_at hl 0 rfl) ?_
                refine va_get (D := (dC, dI)) (ci := 0) (C := "RevisionGroveModel") (T := TM) (N := 19) hx hb hts inM hown hK hP 0 rfl rfl 1 (by decide) (hts _ tw_602) (fun _ h9 => h9) rfl dM_merge_275 ?_
                refine lv_bipush (v := nI 60) hx hb dM_merge_278 (by decide) ?_
                refine rg_icmp_ne (tgt := 287) hx hb dM_merge_280 (by decide) (by omega) (by omega) (fun h33 => ?_) (fun h33 => ?_)
                · refine lv_iconst (v := nI 0) hx hb dM_merge_287 (by decide) ?_
                  refine va_put (D := (dC, dI)) (ci := 0) (v := .int (nI 0)) (ty := .int) (C := "RevisionGroveModel") (T := TM) (N := 19) hx hb hts inM tyM tyM_ok nmM hown hK hP hD hS 0 rfl rfl 0 (by decide) (hts _ tw_601) (fun _ h9 => h9) rfl (by decide +kernel) rfl rfl (Nat.le_of_ble_eq_true rfl) dM_merge_288 (fun H locs hP hD hS => ?_)
                  have hP : va_P (dC, dI) rg_cl (rm_W h a cI cL (nI 0) (nI n) (nI b) (rg_mc X9 Y9 Z9 2) mad1 nu1 co1 se1 li1 le1 fi sc ti un ma dr1 fr1 to1 en1) H := hP
                  have hD : va_D A (rm_W h a cI cL (nI 0) (nI n) (nI b) (rg_mc X9 Y9 Z9 2) mad1 nu1 co1 se1 li1 le1 fi sc ti un ma dr1 fr1 to1 en1) := hD
                  refine lv_aload_n hx hb dM_merge_291 rfl (lv_at hl 0 rfl) ?_
                  refine va_get (D := (dC, dI)) (ci := 0) (C := "RevisionGroveModel") (T := TM) (N := 19) hx hb hts inM hown hK hP 0 rfl rfl 0 (by decide) (hts _ tw_601) (fun _ h9 => h9) rfl dM_merge_292 ?_
                  refine rg_ifN_le (tgt := 300) hx hb dM_merge_295 (by decide) (by decide) (fun h34 => ?_) (fun h34 => by exfalso; omega)
                  refine lv_aload_n hx hb dM_merge_300 rfl (lv_at hl 0 rfl) ?_
                  refine lv_iload_n hx hb dM_merge_301 rfl (lv_at hl 2 rfl) ?_
                  refine lv_iload hx hb dM_merge_302 (lv_at hl 3 rfl) ?_
                  refine rg_calli hD hS hA (va_runV (As := [.int (nI (T b)), .int (nI (T j))]) (rest := []) ⟨hx, hb, hml, hown, hts⟩ (c_rm_finish b n (by omega) (by omega) (nI (T b)) (nI (T j)) _) (cwV 2 hts (rg_gV tw_687 tw_689 ts_M_finish tw_5 tw_690) rfl rfl rfl (by decide +kernel) ⟨by rw [hR]; exact Nat.le_of_ble_eq_true rfl, by rw [hR]; exact Nat.le_of_ble_eq_true rfl⟩) (rg_preV rfl hK hP hD (ci := 0) (q0 := 0) rfl rfl) rfl rfl hl.1 rfl (lv_room (Nat.le_of_ble_eq_true rfl)) dM_merge_304 ⟨Nat.zero_le _, Nat.zero_le _⟩) (fun r35 u36 H locs hw37 hP hD hS => ?_)
                  subst hw37
                  have hP : va_P (dC, dI) rg_cl (rm_W h a cI cL (nI 0) (nI (n + 1)) (nI b) (rg_mc X9 Y9 Z9 2) mad1 nu1 co1 se1 li1 le1 (upd fi n (nI (T b))) (upd sc n (nI (T j))) (upd ti b (nI n)) un (upd ma b (nI 0)) dr1 fr1 to1 en1) H := hP
                  have hD : va_D A (rm_W h a cI cL (nI 0) (nI (n + 1)) (nI b) (rg_mc X9 Y9 Z9 2) mad1 nu1 co1 se1 li1 le1 (upd fi n (nI (T b))) (upd sc n (nI (T j))) (upd ti b (nI n)) un (upd ma b (nI 0)) dr1 fr1 to1 en1) := hD
                  refine lv_pop hx hb dM_merge_307 rfl ?_
                  refine lv_iconst (v := nI 2) hx hb dM_merge_308 (by decide) ?_
                  rw [hQ]
                  exact rg_iret hx hb hr hlk hK hP hD hS dM_merge_309 (nI 0, nI (n + 1), nI b, rg_mc X9 Y9 Z9 2, mad1, nu1, co1, se1, li1, le1, upd fi n (nI (T b)), upd sc n (nI (T j)), upd ti b (nI n), un, upd ma b (nI 0), dr1, fr1, to1, en1) rfl (by rw [hmk, if_neg (fun q => q.elim (fun q => by have := q.2; omega) h33)]; exact ⟨rm_Rep_new (g := rg_withc (n, Rr, P1, P2, T, U, b, cof) (rg_mc X9 Y9 Z9 2)) hrj hMI (by show n < 60; omega) (Or.inr ⟨T j, hTj, rfl⟩), rfl, rfl⟩)
                · refine lv_iconst (v := nI 2) hx hb dM_merge_283 (by decide) ?_
                  refine lv_goto (tgt := 288) hx hb dM_merge_284 (by decide) ?_
                  refine va_put (D := (dC, dI)) (ci := 0) (v := .int (nI 2)) (ty := .int) (C := "RevisionGroveModel") (T := TM) (N := 19) hx hb hts inM tyM tyM_ok nmM hown hK hP hD hS 0 rfl rfl 0 (by decide) (hts _ tw_601) (fun _ h9 => h9) rfl (by decide +kernel) rfl rfl (Nat.le_of_ble_eq_true rfl) dM_merge_288 (fun H locs hP hD hS => ?_)
                  have hP : va_P (dC, dI) rg_cl (rm_W h a cI cL (nI 2) (nI n) (nI b) (rg_mc X9 Y9 Z9 2) mad1 nu1 co1 se1 li1 le1 fi sc ti un ma dr1 fr1 to1 en1) H := hP
                  have hD : va_D A (rm_W h a cI cL (nI 2) (nI n) (nI b) (rg_mc X9 Y9 Z9 2) mad1 nu1 co1 se1 li1 le1 fi sc ti un ma dr1 fr1 to1 en1) := hD
                  refine lv_aload_n hx hb dM_merge_291 rfl (lv_at hl 0 rfl) ?_
                  refine va_get (D := (dC, dI)) (ci := 0) (C := "RevisionGroveModel") (T := TM) (N := 19) hx hb hts inM hown hK hP 0 rfl rfl 0 (by decide) (hts _ tw_601) (fun _ h9 => h9) rfl dM_merge_292 ?_
                  refine rg_ifN_le (tgt := 300) hx hb dM_merge_295 (by decide) (by decide) (fun h38 => by exfalso; omega) (fun h38 => ?_)
                  refine lv_iconst (v := nI 0) hx hb dM_merge_298 (by decide) ?_
                  rw [hQ]
                  exact rg_iret hx hb hr hlk hK hP hD hS dM_merge_299 (nI 2, nI n, nI b, rg_mc X9 Y9 Z9 2, mad1, nu1, co1, se1, li1, le1, fi, sc, ti, un, ma, dr1, fr1, to1, en1) rfl (by rw [hmk, if_pos (Or.inr h33)]; exact ⟨hrj, rfl, rfl⟩)
          · obtain ⟨x1, x2, x3, x4, x5, x6⟩ := rm_Jk_MR hJk hbn mX f (by omega)
            obtain ⟨y1, y2, y3, y4, y5, y6⟩ := rm_Jk_MR hJk hTb mY f (by omega)
            obtain ⟨z1, z2, z3, z4, z5, z6⟩ := rm_Jk_MR hJk hTj mZ f (by omega)
            refine lv_aload_n hx hb dM_merge_114 rfl (lv_at hl 0 rfl) ?_
            refine lv_iload hx hb dM_merge_115 (lv_at hl 5 rfl) ?_
            refine lv_iload hx hb dM_merge_117 (lv_at hl 4 rfl) ?_
            refine lv_iload_n hx hb dM_merge_119 rfl (lv_at hl 2 rfl) ?_
            refine lv_iload hx hb dM_merge_120 (lv_at hl 3 rfl) ?_
            refine lv_iload_n hx hb dM_merge_122 rfl (lv_at hl 1 rfl) ?_
            refine rg_callv hD hS hA (va_runV (As := [.int (nI f), .int (nI q22), .int (nI (T b)), .int (nI (T j)), .int (nI s9)]) (rest := []) ⟨hx, hb, hml, hown, hts⟩ (c_rm_mergeNumber n f q22 (T b) (T j) s9 (by omega) (by omega) (by omega) (by omega) (by omega) (by omega) (X9.1 f) (Y9.1 f) (Z9.1 f) x1 y1 z1 _) (cwV 5 hts (rg_gV tw_750 tw_752 ts_M_mergeNumber tw_5 tw_753) rfl rfl rfl (by decide +kernel) ⟨by rw [hR]; exact Nat.le_of_ble_eq_true rfl, by rw [hR]; exact Nat.le_of_ble_eq_true rfl⟩) (rg_preV rfl hK hP hD (ci := 0) (q0 := 0) rfl rfl) rfl rfl hl.1 rfl (lv_room (Nat.le_of_ble_eq_true rfl)) dM_merge_123 ⟨Nat.zero_le _, Nat.zero_le _⟩) (fun u40 H locs hw41 hP hD hS => ?_)
            have hP : va_P (dC, dI) rg_cl (rm_W h a cI cL (nI 0) (nI n) (nI b) ((rg_mc X9 Y9 Z9 f) ||| rg_cN (rg_ch (decide (X9.1 f = Y9.1 f)) (decide (X9.1 f = Z9.1 f)) (decide (Y9.1 f = Z9.1 f))) f) mad1 (upd nu1 (2 * n + f) (rg_pick (rg_ch (decide (X9.1 f = Y9.1 f)) (decide (X9.1 f = Z9.1 f)) (decide (Y9.1 f = Z9.1 f))) s9 (X9.1 f) (Y9.1 f) (Z9.1 f))) co1 se1 li1 le1 fi sc ti un ma dr1 fr1 to1 en1) H := hP
            have hD : va_D A (rm_W h a cI cL (nI 0) (nI n) (nI b) ((rg_mc X9 Y9 Z9 f) ||| rg_cN (rg_ch (decide (X9.1 f = Y9.1 f)) (decide (X9.1 f = Z9.1 f)) (decide (Y9.1 f = Z9.1 f))) f) mad1 (upd nu1 (2 * n + f) (rg_pick (rg_ch (decide (X9.1 f = Y9.1 f)) (decide (X9.1 f = Z9.1 f)) (decide (Y9.1 f = Z9.1 f))) s9 (X9.1 f) (Y9.1 f) (Z9.1 f))) co1 se1 li1 le1 fi sc ti un ma dr1 fr1 to1 en1) := hD
            refine lv_aload_n hx hb dM_merge_126 rfl (lv_at hl 0 rfl) ?_
            refine va_get (D := (dC, dI)) (ci := 0) (C := "RevisionGroveModel") (T := TM) (N := 19) hx hb hts inM hown hK hP 0 rfl rfl 3 (by decide) (hts _ tw_604) (fun _ h9 => h9) rfl dM_merge_127 ?_
            refine lv_iconst (v := nI 2) hx hb dM_merge_130 (by decide) ?_
            refine lv_aload_n hx hb dM_merge_131 rfl (lv_at hl 0 rfl) ?_
            refine va_get (D := (dC, dI)) (ci := 0) (C := "RevisionGroveModel") (T := TM) (N := 19) hx hb hts inM hown hK hP 0 rfl rfl 1 (by decide) (hts _ tw_602) (fun _ h9 => h9) rfl dM_merge_132 ?_
            refine rg_imul hx hb dM_merge_135 ?_
            refine lv_iload hx hb dM_merge_136 (lv_at hl 5 rfl) ?_
            refine rg_iadd hx hb dM_merge_138 ?_
            refine lv_aload_n hx hb dM_merge_139 rfl (lv_at hl 0 rfl) ?_
            refine va_get (D := (dC, dI)) (ci := 0) (C := "RevisionGroveModel") (T := TM) (N := 19) hx hb hts inM hown hK hP 0 rfl rfl 3 (by decide) (hts _ tw_604) (fun _ h9 => h9) rfl dM_merge_140 ?_
            refine lv_iconst (v := nI 2) hx hb dM_merge_143 (by decide) ?_
            refine lv_iload_n hx hb dM_merge_144 rfl (lv_at hl 2 rfl) ?_
            refine rg_imul hx hb dM_merge_145 ?_
            refine lv_iload hx hb dM_merge_146 (lv_at hl 5 rfl) ?_
            refine rg_iadd hx hb dM_merge_148 ?_
            refine rg_lald hx hb hK hP 2 1 rfl rfl (by decide) (by omega) dM_merge_149 ?_
            refine rg_top (show (.long (co1 (2 * (T b) + f)) : Value) = .long (Y9.2.1 f) by rw [y2]) ?_
            refine lv_aload_n hx hb dM_merge_150 rfl (lv_at hl 0 rfl) ?_
            refine va_get (D := (dC, dI)) (ci := 0) (C := "RevisionGroveModel") (T := TM) (N := 19) hx hb hts inM hown hK hP 0 rfl rfl 3 (by decide) (hts _ tw_604) (fun _ h9 => h9) rfl dM_merge_151 ?_
            refine lv_iconst (v := nI 2) hx hb dM_merge_154 (by decide) ?_
            refine lv_iload hx hb dM_merge_155 (lv_at hl 3 rfl) ?_
            refine rg_imul hx hb dM_merge_157 ?_
            refine lv_iload hx hb dM_merge_158 (lv_at hl 5 rfl) ?_
            refine rg_iadd hx hb dM_merge_160 ?_
            refine rg_lald hx hb hK hP 2 1 rfl rfl (by decide) (by omega) dM_merge_161 ?_
            refine rg_top (show (.long (co1 (2 * (T j) + f)) : Value) = .long (Z9.2.1 f) by rw [z2]) ?_
            refine lv_ladd hx hb dM_merge_162 ?_
            refine lv_aload_n hx hb dM_merge_163 rfl (lv_at hl 0 rfl) ?_
            refine va_get (D := (dC, dI)) (ci := 0) (C := "RevisionGroveModel") (T := TM) (N := 19) hx hb hts inM hown hK hP 0 rfl rfl 3 (by decide) (hts _ tw_604) (fun _ h9 => h9) rfl dM_merge_164 ?_
            refine lv_iconst (v := nI 2) hx hb dM_merge_167 (by decide) ?_
            refine lv_iload hx hb dM_merge_168 (lv_at hl 4 rfl) ?_
            refine rg_imul hx hb dM_merge_170 ?_
            refine lv_iload hx hb dM_merge_171 (lv_at hl 5 rfl) ?_
            refine rg_iadd hx hb dM_merge_173 ?_
            refine rg_lald hx hb hK hP 2 1 rfl rfl (by decide) (by omega) dM_merge_174 ?_
            refine rg_top (show (.long (co1 (2 * q22 + f)) : Value) = .long (X9.2.1 f) by rw [x2]) ?_
            refine lv_lsub hx hb dM_merge_175 ?_
            refine rg_last hx hb hK hP hD hS 2 1 rfl rfl (by decide) (by omega) dM_merge_176 (fun H locs hP hD hS => ?_)
            have hP : va_P (dC, dI) rg_cl (rm_W h a cI cL (nI 0) (nI n) (nI b) ((rg_mc X9 Y9 Z9 f) ||| rg_cN (rg_ch (decide (X9.1 f = Y9.1 f)) (decide (X9.1 f = Z9.1 f)) (decide (Y9.1 f = Z9.1 f))) f) mad1 (upd nu1 (2 * n + f) (rg_pick (rg_ch (decide (X9.1 f = Y9.1 f)) (decide (X9.1 f = Z9.1 f)) (decide (Y9.1 f = Z9.1 f))) s9 (X9.1 f) (Y9.1 f) (Z9.1 f))) (vp_updL co1 (2 * n + f) (((Y9.2.1 f) + (Z9.2.1 f)) - (X9.2.1 f))) se1 li1 le1 fi sc ti un ma dr1 fr1 to1 en1) H := hP
            have hD : va_D A (rm_W h a cI cL (nI 0) (nI n) (nI b) ((rg_mc X9 Y9 Z9 f) ||| rg_cN (rg_ch (decide (X9.1 f = Y9.1 f)) (decide (X9.1 f = Z9.1 f)) (decide (Y9.1 f = Z9.1 f))) f) mad1 (upd nu1 (2 * n + f) (rg_pick (rg_ch (decide (X9.1 f = Y9.1 f)) (decide (X9.1 f = Z9.1 f)) (decide (Y9.1 f = Z9.1 f))) s9 (X9.1 f) (Y9.1 f) (Z9.1 f))) (vp_updL co1 (2 * n + f) (((Y9.2.1 f) + (Z9.2.1 f)) - (X9.2.1 f))) se1 li1 le1 fi sc ti un ma dr1 fr1 to1 en1) := hD
            refine lv_aload_n hx hb dM_merge_177 rfl (lv_at hl 0 rfl) ?_
            refine va_get (D := (dC, dI)) (ci := 0) (C := "RevisionGroveModel") (T := TM) (N := 19) hx hb hts inM hown hK hP 0 rfl rfl 4 (by decide) (hts _ tw_605) (fun _ h9 => h9) rfl dM_merge_178 ?_
            refine lv_iconst (v := nI 2) hx hb dM_merge_181 (by decide) ?_
            refine lv_iload_n hx hb dM_merge_182 rfl (lv_at hl 2 rfl) ?_
            refine rg_imul hx hb dM_merge_183 ?_
            refine lv_iload hx hb dM_merge_184 (lv_at hl 5 rfl) ?_
            refine rg_iadd hx hb dM_merge_186 ?_
            refine rg_iald hx hb hK hP 3 0 rfl rfl (by decide) (by omega) dM_merge_187 ?_
            refine rg_top (show (.int (se1 (2 * (T b) + f)) : Value) = .int (Y9.2.2.1 f) by rw [y3]) ?_
            refine lv_istore (lv' := [(7, .int (Y9.2.2.1 f)), (0, .ref h), (2, .int (nI s9)), (3, .int (nI (T b))), (4, .int (nI (T j))), (5, .int (nI q22)), (6, .int (nI f))]) hx hb dM_merge_188 hl (by decide) rfl (fun ls hl => ?_)
            refine lv_aload_n hx hb dM_merge_190 rfl (lv_at hl 1 rfl) ?_
            refine va_get (D := (dC, dI)) (ci := 0) (C := "RevisionGroveModel") (T := TM) (N := 19) hx hb hts inM hown hK hP 0 rfl rfl 4 (by decide) (hts _ tw_605) (fun _ h9 => h9) rfl dM_merge_191 ?_
            refine lv_iconst (v := nI 2) hx hb dM_merge_194 (by decide) ?_
            refine lv_iload hx hb dM_merge_195 (lv_at hl 4 rfl) ?_
            refine rg_imul hx hb dM_merge_197 ?_
            refine lv_iload hx hb dM_merge_198 (lv_at hl 6 rfl) ?_
            refine rg_iadd hx hb dM_merge_200 ?_
            refine rg_iald hx hb hK hP 3 0 rfl rfl (by decide) (by omega) dM_merge_201 ?_
            refine rg_top (show (.int (se1 (2 * (T j) + f)) : Value) = .int (Z9.2.2.1 f) by rw [z3]) ?_
            refine lv_istore (lv' := [(8, .int (Z9.2.2.1 f)), (7, .int (Y9.2.2.1 f)), (0, .ref h), (2, .int (nI s9)), (3, .int (nI (T b))), (4, .int (nI (T j))), (5, .int (nI q22)), (6, .int (nI f))]) hx hb dM_merge_202 hl (by decide) rfl (fun ls hl => ?_)
            refine lv_aload_n hx hb dM_merge_204 rfl (lv_at hl 2 rfl) ?_
            refine va_get (D := (dC, dI)) (ci := 0) (C := "RevisionGroveModel") (T := TM) (N := 19) hx hb hts inM hown hK hP 0 rfl rfl 4 (by decide) (hts _ tw_605) (fun _ h9 => h9) rfl dM_merge_205 ?_
            refine lv_iconst (v := nI 2) hx hb dM_merge_208 (by decide) ?_
            refine lv_aload_n hx hb dM_merge_209 rfl (lv_at hl 2 rfl) ?_
            refine va_get (D := (dC, dI)) (ci := 0) (C := "RevisionGroveModel") (T := TM) (N := 19) hx hb hts inM hown hK hP 0 rfl rfl 1 (by decide) (hts _ tw_602) (fun _ h9 => h9) rfl dM_merge_210 ?_
            refine rg_imul hx hb dM_merge_213 ?_
            refine lv_iload hx hb dM_merge_214 (lv_at hl 7 rfl) ?_
            refine rg_iadd hx hb dM_merge_216 ?_
            refine lv_iload hx hb dM_merge_217 (lv_at hl 1 rfl) ?_
            refine lv_iload hx hb dM_merge_219 (lv_at hl 0 rfl) ?_
            refine lv_iand hx hb dM_merge_221 ?_
            refine lv_iload hx hb dM_merge_222 (lv_at hl 1 rfl) ?_
            refine lv_iload hx hb dM_merge_224 (lv_at hl 0 rfl) ?_
            refine lv_ior hx hb dM_merge_226 ?_
            refine lv_aload_n hx hb dM_merge_227 rfl (lv_at hl 2 rfl) ?_
            refine va_get (D := (dC, dI)) (ci := 0) (C := "RevisionGroveModel") (T := TM) (N := 19) hx hb hts inM hown hK hP 0 rfl rfl 4 (by decide) (hts _ tw_605) (fun _ h9 => h9) rfl dM_merge_228 ?_
            refine lv_iconst (v := nI 2) hx hb dM_merge_231 (by decide) ?_
            refine lv_iload hx hb dM_merge_232 (lv_at hl 6 rfl) ?_
            refine rg_imul hx hb dM_merge_234 ?_
            refine lv_iload hx hb dM_merge_235 (lv_at hl 7 rfl) ?_
            refine rg_iadd hx hb dM_merge_237 ?_
            refine rg_iald hx hb hK hP 3 0 rfl rfl (by decide) (by omega) dM_merge_238 ?_
            refine rg_top (show (.int (se1 (2 * q22 + f)) : Value) = .int (X9.2.2.1 f) by rw [x3]) ?_
            refine lv_iconst (v := -1) hx hb dM_merge_239 (by decide) ?_
            refine lv_ixor hx hb dM_merge_240 ?_
            refine lv_iand hx hb dM_merge_241 ?_
            refine lv_ior hx hb dM_merge_242 ?_
            refine rg_iast hx hb hK hP hD hS 3 0 rfl rfl (by decide) (by omega) dM_merge_243 (fun H locs hP hD hS => ?_)
            have hP : va_P (dC, dI) rg_cl (rm_W h a cI cL (nI 0) (nI n) (nI b) ((rg_mc X9 Y9 Z9 f) ||| rg_cN (rg_ch (decide (X9.1 f = Y9.1 f)) (decide (X9.1 f = Z9.1 f)) (decide (Y9.1 f = Z9.1 f))) f) mad1 (upd nu1 (2 * n + f) (rg_pick (rg_ch (decide (X9.1 f = Y9.1 f)) (decide (X9.1 f = Z9.1 f)) (decide (Y9.1 f = Z9.1 f))) s9 (X9.1 f) (Y9.1 f) (Z9.1 f))) (vp_updL co1 (2 * n + f) (((Y9.2.1 f) + (Z9.2.1 f)) - (X9.2.1 f))) (upd se1 (2 * n + f) (((Y9.2.2.1 f) &&& (Z9.2.2.1 f)) ||| (((Y9.2.2.1 f) ||| (Z9.2.2.1 f)) &&& ((X9.2.2.1 f) ^^^ ((-1)))))) li1 le1 fi sc ti un ma dr1 fr1 to1 en1) H := hP
            have hD : va_D A (rm_W h a cI cL (nI 0) (nI n) (nI b) ((rg_mc X9 Y9 Z9 f) ||| rg_cN (rg_ch (decide (X9.1 f = Y9.1 f)) (decide (X9.1 f = Z9.1 f)) (decide (Y9.1 f = Z9.1 f))) f) mad1 (upd nu1 (2 * n + f) (rg_pick (rg_ch (decide (X9.1 f = Y9.1 f)) (decide (X9.1 f = Z9.1 f)) (decide (Y9.1 f = Z9.1 f))) s9 (X9.1 f) (Y9.1 f) (Z9.1 f))) (vp_updL co1 (2 * n + f) (((Y9.2.1 f) + (Z9.2.1 f)) - (X9.2.1 f))) (upd se1 (2 * n + f) (((Y9.2.2.1 f) &&& (Z9.2.2.1 f)) ||| (((Y9.2.2.1 f) ||| (Z9.2.2.1 f)) &&& ((X9.2.2.1 f) ^^^ ((-1)))))) li1 le1 fi sc ti un ma dr1 fr1 to1 en1) := hD
            refine lv_aload_n hx hb dM_merge_244 rfl (lv_at hl 2 rfl) ?_
            refine lv_iload hx hb dM_merge_245 (lv_at hl 7 rfl) ?_
            refine lv_iload hx hb dM_merge_247 (lv_at hl 6 rfl) ?_
            refine lv_iload_n hx hb dM_merge_249 rfl (lv_at hl 4 rfl) ?_
            refine lv_iload hx hb dM_merge_250 (lv_at hl 5 rfl) ?_
            refine lv_iload_n hx hb dM_merge_252 rfl (lv_at hl 3 rfl) ?_
            refine rg_callv hD hS hA (va_runV (As := [.int (nI f), .int (nI q22), .int (nI (T b)), .int (nI (T j)), .int (nI s9)]) (rest := []) ⟨hx, hb, hml, hown, hts⟩ (c_rm_mergeList n f q22 (T b) (T j) s9 (by omega) (by omega) (by omega) (by omega) (by omega) (by omega) (X9.2.2.2 f) (Y9.2.2.2 f) (Z9.2.2.2 f) x4 x5 x6 y4 y5 y6 z4 z5 z6 _) (cwV 5 hts (rg_gV tw_757 tw_759 ts_M_mergeList tw_5 tw_760) rfl rfl rfl (by decide +kernel) ⟨by rw [hR]; exact Nat.le_of_ble_eq_true rfl, by rw [hR]; exact Nat.le_of_ble_eq_true rfl⟩) (rg_preV rfl hK hP hD (ci := 0) (q0 := 0) rfl rfl) rfl rfl hl.1 rfl (lv_room (Nat.le_of_ble_eq_true rfl)) dM_merge_253 ⟨Nat.zero_le _, Nat.zero_le _⟩) (fun u43 H locs hw44 hP hD hS => ?_)
            have hP : va_P (dC, dI) rg_cl (rm_W h a cI cL (nI 0) (nI n) (nI b) (((rg_mc X9 Y9 Z9 f) ||| rg_cN (rg_ch (decide (X9.1 f = Y9.1 f)) (decide (X9.1 f = Z9.1 f)) (decide (Y9.1 f = Z9.1 f))) f) ||| rg_cL (rg_ch (decide (X9.2.2.2 f = Y9.2.2.2 f)) (decide (X9.2.2.2 f = Z9.2.2.2 f)) (decide (Y9.2.2.2 f = Z9.2.2.2 f))) (rg_jn (rg_ch (decide (X9.2.2.2 f = Y9.2.2.2 f)) (decide (X9.2.2.2 f = Z9.2.2.2 f)) (decide (Y9.2.2.2 f = Z9.2.2.2 f))) (X9.2.2.2 f) (Y9.2.2.2 f) (Z9.2.2.2 f)) f) u43.2.1 (upd nu1 (2 * n + f) (rg_pick (rg_ch (decide (X9.1 f = Y9.1 f)) (decide (X9.1 f = Z9.1 f)) (decide (Y9.1 f = Z9.1 f))) s9 (X9.1 f) (Y9.1 f) (Z9.1 f))) (vp_updL co1 (2 * n + f) (((Y9.2.1 f) + (Z9.2.1 f)) - (X9.2.1 f))) (upd se1 (2 * n + f) (((Y9.2.2.1 f) &&& (Z9.2.2.1 f)) ||| (((Y9.2.2.1 f) ||| (Z9.2.2.1 f)) &&& ((X9.2.2.1 f) ^^^ ((-1)))))) u43.1 (upd le1 (2 * n + f) (nI (rg_mL (rg_ch (decide (X9.2.2.2 f = Y9.2.2.2 f)) (decide (X9.2.2.2 f = Z9.2.2.2 f)) (decide (Y9.2.2.2 f = Z9.2.2.2 f))) s9 (X9.2.2.2 f) (Y9.2.2.2 f) (Z9.2.2.2 f)).length)) fi sc ti un ma u43.2.2.1 u43.2.2.2.1 u43.2.2.2.2.1 u43.2.2.2.2.2) H := hP
            have hD : va_D A (rm_W h a cI cL (nI 0) (nI n) (nI b) (((rg_mc X9 Y9 Z9 f) ||| rg_cN (rg_ch (decide (X9.1 f = Y9.1 f)) (decide (X9.1 f = Z9.1 f)) (decide (Y9.1 f = Z9.1 f))) f) ||| rg_cL (rg_ch (decide (X9.2.2.2 f = Y9.2.2.2 f)) (decide (X9.2.2.2 f = Z9.2.2.2 f)) (decide (Y9.2.2.2 f = Z9.2.2.2 f))) (rg_jn (rg_ch (decide (X9.2.2.2 f = Y9.2.2.2 f)) (decide (X9.2.2.2 f = Z9.2.2.2 f)) (decide (Y9.2.2.2 f = Z9.2.2.2 f))) (X9.2.2.2 f) (Y9.2.2.2 f) (Z9.2.2.2 f)) f) u43.2.1 (upd nu1 (2 * n + f) (rg_pick (rg_ch (decide (X9.1 f = Y9.1 f)) (decide (X9.1 f = Z9.1 f)) (decide (Y9.1 f = Z9.1 f))) s9 (X9.1 f) (Y9.1 f) (Z9.1 f))) (vp_updL co1 (2 * n + f) (((Y9.2.1 f) + (Z9.2.1 f)) - (X9.2.1 f))) (upd se1 (2 * n + f) (((Y9.2.2.1 f) &&& (Z9.2.2.1 f)) ||| (((Y9.2.2.1 f) ||| (Z9.2.2.1 f)) &&& ((X9.2.2.1 f) ^^^ ((-1)))))) u43.1 (upd le1 (2 * n + f) (nI (rg_mL (rg_ch (decide (X9.2.2.2 f = Y9.2.2.2 f)) (decide (X9.2.2.2 f = Z9.2.2.2 f)) (decide (Y9.2.2.2 f = Z9.2.2.2 f))) s9 (X9.2.2.2 f) (Y9.2.2.2 f) (Z9.2.2.2 f)).length)) fi sc ti un ma u43.2.2.1 u43.2.2.2.1 u43.2.2.2.2.1 u43.2.2.2.2.2) := hD
            refine lv_iinc (k := 7) (v := nI (f + 1)) (lv' := [(6, .int (nI (f + 1))), (8, .int (Z9.2.2.1 f)), (7, .int (Y9.2.2.1 f)), (0, .ref h), (2, .int (nI s9)), (3, .int (nI (T b))), (4, .int (nI (T j))), (5, .int (nI q22))]) hx hb dM_merge_256 hl rfl (nI_1 _) (by decide) rfl (fun ls hl => ?_)
            refine lv_goto (tgt := 108) hx hb dM_merge_259 (by decide) ?_
            exact ih108 (f + 1) (upd nu1 (2 * n + f) (rg_pick (rg_ch (decide (X9.1 f = Y9.1 f)) (decide (X9.1 f = Z9.1 f)) (decide (Y9.1 f = Z9.1 f))) s9 (X9.1 f) (Y9.1 f) (Z9.1 f))) (vp_updL co1 (2 * n + f) (((Y9.2.1 f) + (Z9.2.1 f)) - (X9.2.1 f))) (upd se1 (2 * n + f) (((Y9.2.2.1 f) &&& (Z9.2.2.1 f)) ||| (((Y9.2.2.1 f) ||| (Z9.2.2.1 f)) &&& ((X9.2.2.1 f) ^^^ ((-1)))))) u43.1 (upd le1 (2 * n + f) (nI (rg_mL (rg_ch (decide (X9.2.2.2 f = Y9.2.2.2 f)) (decide (X9.2.2.2 f = Z9.2.2.2 f)) (decide (Y9.2.2.2 f = Z9.2.2.2 f))) s9 (X9.2.2.2 f) (Y9.2.2.2 f) (Z9.2.2.2 f)).length)) u43.2.1 u43.2.2.1 u43.2.2.2.1 u43.2.2.2.2.1 u43.2.2.2.2.2 _ _ _ (by omega) (by omega) (rm_Jk_s hJk hw44.2) (rm_MI_s hMI rfl rfl rfl (rg_mL_len x4 y4 z4) (fun k hk => (hMI k hk).2.2.2.1) hw44.1 hw44.2) hP hD hS (lv_sub hl [3, 4, 5, 6, 7, 0] rfl)
      exact lp108 _ 0 nu co se li le mad dr fr to en _ _ _ (Nat.lt_succ_self _) (by omega) ⟨fun _ _ => rfl, fun _ _ => rfl, fun _ _ => rfl, fun _ _ => rfl, fun _ _ => rfl⟩ (fun k hk => absurd hk (Nat.not_lt_zero k)) hP hD hS (lv_sub hl [4, 6, 3, 2, 1, 0] rfl)
    · refine lv_aload_n hx hb dM_merge_88 rfl (lv_at hl 2 rfl) ?_
      refine lv_iload hx hb dM_merge_89 (lv_at hl 0 rfl) ?_
      refine rg_callv hD hS hA (va_runV (As := [.int (nI (T j))]) (rest := []) ⟨hx, hb, hml, hown, hts⟩ (c_rm_come b (by omega) (nI (T j)) _) (cwV 1 hts (rg_gV tw_691 tw_693 ts_M_come tw_5 tw_694) rfl rfl rfl (by decide +kernel) ⟨by rw [hR]; exact Nat.le_of_ble_eq_true rfl, by rw [hR]; exact Nat.le_of_ble_eq_true rfl⟩) (rg_preV rfl hK hP hD (ci := 0) (q0 := 0) rfl rfl) rfl rfl hl.1 rfl (lv_room (Nat.le_of_ble_eq_true rfl)) dM_merge_91 ⟨Nat.zero_le _, Nat.zero_le _⟩) (fun u46 H locs hw47 hP hD hS => ?_)
      have hP : va_P (dC, dI) rg_cl (rm_W h a cI cL (nI 0) (nI n) (nI b) (nI 0) mad nu co se li le fi sc (upd ti b (nI (T j))) un (upd ma b (nI 0)) dr fr to en) H := hP
      have hD : va_D A (rm_W h a cI cL (nI 0) (nI n) (nI b) (nI 0) mad nu co se li le fi sc (upd ti b (nI (T j))) un (upd ma b (nI 0)) dr fr to en) := hD
      refine lv_iconst (v := nI 1) hx hb dM_merge_94 (by decide) ?_
      rw [hQ]
      exact rg_iret hx hb hr hlk hK hP hD hS dM_merge_95 (nI 0, nI n, nI b, nI 0, mad, nu, co, se, li, le, fi, sc, upd ti b (nI (T j)), un, upd ma b (nI 0), dr, fr, to, en) rfl (by unfold rg_mergeK; rw [if_neg hn1, if_pos ((hsm _ _ hTj).mp ((haz _).mp (rg_cb1.mp h18)))]; exact ⟨rm_Rep_come (g := (n, Rr, P1, P2, T, U, b, nI 0)) hrep0 hTj, rfl, rfl⟩)
  · refine lv_iconst (v := nI 0) hx hb dM_merge_69 (by decide) ?_
    rw [hQ]
    exact rg_iret hx hb hr hlk hK hP hD hS dM_merge_70 (nI 0, nI n, nI b, nI 0, mad, nu, co, se, li, le, fi, sc, ti, un, ma, dr, fr, to, en) rfl (by unfold rg_mergeK; rw [if_pos ((hsm _ _ hTb).mp ((hax _).mp (rg_cb1.mp h14)))]; exact ⟨hrep0, rfl, rfl⟩)
set_option maxHeartbeats 4000000 in
set_option maxRecDepth 100000 in
theorem c_rm_merge_bad1 {l : Launch} {dC : Nat → ClassId} {dI : Nat → Nat → Nat} {h : Nat} {a : Nat → Nat} {cI cL : ClassId} {cod : Int32} {cof : Int32} {mad : Int32} {nu : Nat → Int32} {co : Nat → Int64} {se : Nat → Int32} {li : Nat → Int32} {le : Nat → Int32} {fi : Nat → Int32} {sc : Nat → Int32} {ti : Nat → Int32} {un : Nat → Int32} {ma : Nat → Int32} {dr : Nat → Int32} {fr : Nat → Int32} {to : Nat → Int32} {en : Nat → Int32} (n b : Nat) (Rr : Nat → rg_R) (P1 P2 : Nat → Int32) (T : Nat → Nat) (U : Nat → List Nat) (x y : Int32) (hB : rg_isB x = false) (hrep : rm_Rep (nI n) (nI b) cof nu co se li le fi sc ti un ma (n, Rr, P1, P2, T, U, b, cof)) : rg_M l yM_merge (Cond.code yM_merge prog_8_method_31_code 9 (some .int) :: rg_tbl) { frames := 4, cells := 0, slots := 0, locals := 106 } (dC, dI) rg_cl [(cI, .int), (cL, .long)] (rm_W h a cI cL cod (nI n) (nI b) cof mad nu co se li le fi sc ti un ma dr fr to en) [.ref h, .int x, .int y] (rg_QI (dC, dI) rg_cl [(cI, .int), (cL, .long)] (S := rm_S) (rm_Po (1, 0, rg_withc (n, Rr, P1, P2, T, U, b, cof) 0)) (fun u => rm_Wu h a cI cL u)) 0 0 := by
  refine rg_of prog_8_method_31_code 9 (some .int) (by decide) rfl (Nat.le_of_ble_eq_true rfl) ?_
  intro p e R s m args below meth c Q A H locs ls hR hQ hx hb hml hr hts hown hlk hnm hP hK hD hA hS hl
  have hl : lv_has ls 9 [(0, .ref h), (1, .int x), (2, .int y)] := hl
  have hts : ∀ w ∈ rg_tbl, w.before args s = true := fun w h => hts w (List.mem_cons_of_mem _ h)
  have hok := hrep.1
  have hn1 : 1 ≤ n := hok.1
  have hn60 : n ≤ 60 := hok.2.1
  have hb4 : b < 4 := hok.2.2.2.2.2.2.2.1
  have hTb : T b < n := (hok.2.2.2.2.2.2.1 b hb4).1
  have hti : ti b = nI (T b) := (hrep.2.2.2.2.2.2 b hb4).1
  have hma : ma b = nI (U b).length := (hrep.2.2.2.2.2.2 b hb4).2.1
  refine lv_aload_n hx hb dM_merge_0 rfl (lv_at hl 0 rfl) ?_
  refine lv_iconst (v := nI 0) hx hb dM_merge_1 (by decide) ?_
  refine va_put (D := (dC, dI)) (ci := 0) (v := .int (nI 0)) (ty := .int) (C := "RevisionGroveModel") (T := TM) (N := 19) hx hb hts inM tyM tyM_ok nmM hown hK hP hD hS 0 rfl rfl 13 (by decide) (hts _ tw_614) (fun _ h9 => h9) rfl (by decide +kernel) rfl rfl (Nat.le_of_ble_eq_true rfl) dM_merge_2 (fun H locs hP hD hS => ?_)
  have hP : va_P (dC, dI) rg_cl (rm_W h a cI cL cod (nI n) (nI b) (nI 0) mad nu co se li le fi sc ti un ma dr fr to en) H := hP
  have hD : va_D A (rm_W h a cI cL cod (nI n) (nI b) (nI 0) mad nu co se li le fi sc ti un ma dr fr to en) := hD
  refine lv_aload_n hx hb dM_merge_5 rfl (lv_at hl 0 rfl) ?_
  refine lv_iload_n hx hb dM_merge_6 rfl (lv_at hl 1 rfl) ?_
  refine rg_calli hD hS hA (va_runS (As := [.int x]) (rest := [.ref h]) ⟨hx, hb, hml, hown, hts⟩ (c_rm_isBranch x _) (cwS 1 hts (rg_gS tw_715 tw_716 tw_5 tw_717) rfl rfl rfl (by decide +kernel) ⟨by rw [hR]; exact Nat.le_of_ble_eq_true rfl, by rw [hR]; exact Nat.le_of_ble_eq_true rfl⟩) (rg_preS rfl hK hP hD) rfl rfl hl.1 rfl (lv_room (Nat.le_of_ble_eq_true rfl)) dM_merge_7 ⟨Nat.zero_le _, Nat.zero_le _⟩) (fun r1 u2 H locs hw3 hP hD hS => ?_)
  subst hw3
  have hP : va_P (dC, dI) rg_cl (rm_W h a cI cL cod (nI n) (nI b) (nI 0) mad nu co se li le fi sc ti un ma dr fr to en) H := hP
  have hD : va_D A (rm_W h a cI cL cod (nI n) (nI b) (nI 0) mad nu co se li le fi sc ti un ma dr fr to en) := hD
  refine rg_ifz_eq (tgt := 26) hx hb dM_merge_10 (by decide) (fun h4 => ?_) (fun h4 => absurd (hB.symm.trans h4) (by decide))
  refine lv_iconst (v := nI 1) hx hb dM_merge_26 (by decide) ?_
  refine va_put (D := (dC, dI)) (ci := 0) (v := .int (nI 1)) (ty := .int) (C := "RevisionGroveModel") (T := TM) (N := 19) hx hb hts inM tyM tyM_ok nmM hown hK hP hD hS 0 rfl rfl 0 (by decide) (hts _ tw_601) (fun _ h9 => h9) rfl (by decide +kernel) rfl rfl (Nat.le_of_ble_eq_true rfl) dM_merge_27 (fun H locs hP hD hS => ?_)
  have hP : va_P (dC, dI) rg_cl (rm_W h a cI cL (nI 1) (nI n) (nI b) (nI 0) mad nu co se li le fi sc ti un ma dr fr to en) H := hP
  have hD : va_D A (rm_W h a cI cL (nI 1) (nI n) (nI b) (nI 0) mad nu co se li le fi sc ti un ma dr fr to en) := hD
  refine lv_aload_n hx hb dM_merge_30 rfl (lv_at hl 0 rfl) ?_
  refine va_get (D := (dC, dI)) (ci := 0) (C := "RevisionGroveModel") (T := TM) (N := 19) hx hb hts inM hown hK hP 0 rfl rfl 0 (by decide) (hts _ tw_601) (fun _ h9 => h9) rfl dM_merge_31 ?_
  refine rg_ifN_le (tgt := 39) hx hb dM_merge_34 (by decide) (by decide) (fun h5 => by exfalso; omega) (fun h5 => ?_)
  refine lv_iconst (v := nI 0) hx hb dM_merge_37 (by decide) ?_
  rw [hQ]
  exact rg_iret hx hb hr hlk hK hP hD hS dM_merge_38 (nI 1, nI n, nI b, nI 0, mad, nu, co, se, li, le, fi, sc, ti, un, ma, dr, fr, to, en) rfl (⟨rm_Rep_c hrep, rfl, rfl⟩)
set_option maxHeartbeats 4000000 in
set_option maxRecDepth 100000 in
theorem c_rm_merge_bad2 {l : Launch} {dC : Nat → ClassId} {dI : Nat → Nat → Nat} {h : Nat} {a : Nat → Nat} {cI cL : ClassId} {cod : Int32} {cof : Int32} {mad : Int32} {nu : Nat → Int32} {co : Nat → Int64} {se : Nat → Int32} {li : Nat → Int32} {le : Nat → Int32} {fi : Nat → Int32} {sc : Nat → Int32} {ti : Nat → Int32} {un : Nat → Int32} {ma : Nat → Int32} {dr : Nat → Int32} {fr : Nat → Int32} {to : Nat → Int32} {en : Nat → Int32} (n b : Nat) (Rr : Nat → rg_R) (P1 P2 : Nat → Int32) (T : Nat → Nat) (U : Nat → List Nat) (x y : Int32) (hB : rg_isB x = true) (hy0 : y < 0 ∨ 2 < y) (hrep : rm_Rep (nI n) (nI b) cof nu co se li le fi sc ti un ma (n, Rr, P1, P2, T, U, b, cof)) : rg_M l yM_merge (Cond.code yM_merge prog_8_method_31_code 9 (some .int) :: rg_tbl) { frames := 4, cells := 0, slots := 0, locals := 106 } (dC, dI) rg_cl [(cI, .int), (cL, .long)] (rm_W h a cI cL cod (nI n) (nI b) cof mad nu co se li le fi sc ti un ma dr fr to en) [.ref h, .int x, .int y] (rg_QI (dC, dI) rg_cl [(cI, .int), (cL, .long)] (S := rm_S) (rm_Po (1, 0, rg_withc (n, Rr, P1, P2, T, U, b, cof) 0)) (fun u => rm_Wu h a cI cL u)) 0 0 := by
  refine rg_of prog_8_method_31_code 9 (some .int) (by decide) rfl (Nat.le_of_ble_eq_true rfl) ?_
  intro p e R s m args below meth c Q A H locs ls hR hQ hx hb hml hr hts hown hlk hnm hP hK hD hA hS hl
  have hl : lv_has ls 9 [(0, .ref h), (1, .int x), (2, .int y)] := hl
  have hts : ∀ w ∈ rg_tbl, w.before args s = true := fun w h => hts w (List.mem_cons_of_mem _ h)
  have hok := hrep.1
  have hn1 : 1 ≤ n := hok.1
  have hn60 : n ≤ 60 := hok.2.1
  have hb4 : b < 4 := hok.2.2.2.2.2.2.2.1
  have hTb : T b < n := (hok.2.2.2.2.2.2.1 b hb4).1
  have hti : ti b = nI (T b) := (hrep.2.2.2.2.2.2 b hb4).1
  have hma : ma b = nI (U b).length := (hrep.2.2.2.2.2.2 b hb4).2.1
  refine lv_aload_n hx hb dM_merge_0 rfl (lv_at hl 0 rfl) ?_
  refine lv_iconst (v := nI 0) hx hb dM_merge_1 (by decide) ?_
  refine va_put (D := (dC, dI)) (ci := 0) (v := .int (nI 0)) (ty := .int) (C := "RevisionGroveModel") (T := TM) (N := 19) hx hb hts inM tyM tyM_ok nmM hown hK hP hD hS 0 rfl rfl 13 (by decide) (hts _ tw_614) (fun _ h9 => h9) rfl (by decide +kernel) rfl rfl (Nat.le_of_ble_eq_true rfl) dM_merge_2 (fun H locs hP hD hS => ?_)
  have hP : va_P (dC, dI) rg_cl (rm_W h a cI cL cod (nI n) (nI b) (nI 0) mad nu co se li le fi sc ti un ma dr fr to en) H := hP
  have hD : va_D A (rm_W h a cI cL cod (nI n) (nI b) (nI 0) mad nu co se li le fi sc ti un ma dr fr to en) := hD
  refine lv_aload_n hx hb dM_merge_5 rfl (lv_at hl 0 rfl) ?_
  refine lv_iload_n hx hb dM_merge_6 rfl (lv_at hl 1 rfl) ?_
  refine rg_calli hD hS hA (va_runS (As := [.int x]) (rest := [.ref h]) ⟨hx, hb, hml, hown, hts⟩ (c_rm_isBranch x _) (cwS 1 hts (rg_gS tw_715 tw_716 tw_5 tw_717) rfl rfl rfl (by decide +kernel) ⟨by rw [hR]; exact Nat.le_of_ble_eq_true rfl, by rw [hR]; exact Nat.le_of_ble_eq_true rfl⟩) (rg_preS rfl hK hP hD) rfl rfl hl.1 rfl (lv_room (Nat.le_of_ble_eq_true rfl)) dM_merge_7 ⟨Nat.zero_le _, Nat.zero_le _⟩) (fun r1 u2 H locs hw3 hP hD hS => ?_)
  subst hw3
  have hP : va_P (dC, dI) rg_cl (rm_W h a cI cL cod (nI n) (nI b) (nI 0) mad nu co se li le fi sc ti un ma dr fr to en) H := hP
  have hD : va_D A (rm_W h a cI cL cod (nI n) (nI b) (nI 0) mad nu co se li le fi sc ti un ma dr fr to en) := hD
  refine rg_ifz_eq (tgt := 26) hx hb dM_merge_10 (by decide) (fun h4 => absurd (hB.symm.trans h4) (by decide)) (fun h4 => ?_)
  refine lv_iload_n hx hb dM_merge_13 rfl (lv_at hl 2 rfl) ?_
  refine lv_if_lt (tgt := 26) hx hb dM_merge_14 (by decide) (fun h5 => ?_) (fun h5 => ?_)
  · refine lv_iconst (v := nI 1) hx hb dM_merge_26 (by decide) ?_
    refine va_put (D := (dC, dI)) (ci := 0) (v := .int (nI 1)) (ty := .int) (C := "RevisionGroveModel") (T := TM) (N := 19) hx hb hts inM tyM tyM_ok nmM hown hK hP hD hS 0 rfl rfl 0 (by decide) (hts _ tw_601) (fun _ h9 => h9) rfl (by decide +kernel) rfl rfl (Nat.le_of_ble_eq_true rfl) dM_merge_27 (fun H locs hP hD hS => ?_)
    have hP : va_P (dC, dI) rg_cl (rm_W h a cI cL (nI 1) (nI n) (nI b) (nI 0) mad nu co se li le fi sc ti un ma dr fr to en) H := hP
    have hD : va_D A (rm_W h a cI cL (nI 1) (nI n) (nI b) (nI 0) mad nu co se li le fi sc ti un ma dr fr to en) := hD
    refine lv_aload_n hx hb dM_merge_30 rfl (lv_at hl 0 rfl) ?_
    refine va_get (D := (dC, dI)) (ci := 0) (C := "RevisionGroveModel") (T := TM) (N := 19) hx hb hts inM hown hK hP 0 rfl rfl 0 (by decide) (hts _ tw_601) (fun _ h9 => h9) rfl dM_merge_31 ?_
    refine rg_ifN_le (tgt := 39) hx hb dM_merge_34 (by decide) (by decide) (fun h6 => by exfalso; omega) (fun h6 => ?_)
    refine lv_iconst (v := nI 0) hx hb dM_merge_37 (by decide) ?_
    rw [hQ]
    exact rg_iret hx hb hr hlk hK hP hD hS dM_merge_38 (nI 1, nI n, nI b, nI 0, mad, nu, co, se, li, le, fi, sc, ti, un, ma, dr, fr, to, en) rfl (⟨rm_Rep_c hrep, rfl, rfl⟩)
  · refine lv_iload_n hx hb dM_merge_17 rfl (lv_at hl 2 rfl) ?_
    refine lv_iconst (v := nI 2) hx hb dM_merge_18 (by decide) ?_
    refine lv_icmp_gt (tgt := 26) hx hb dM_merge_19 (by decide) (fun h7 => ?_) (fun h7 => absurd hy0 (fun q => q.elim h5 h7))
    refine lv_iconst (v := nI 1) hx hb dM_merge_26 (by decide) ?_
    refine va_put (D := (dC, dI)) (ci := 0) (v := .int (nI 1)) (ty := .int) (C := "RevisionGroveModel") (T := TM) (N := 19) hx hb hts inM tyM tyM_ok nmM hown hK hP hD hS 0 rfl rfl 0 (by decide) (hts _ tw_601) (fun _ h9 => h9) rfl (by decide +kernel) rfl rfl (Nat.le_of_ble_eq_true rfl) dM_merge_27 (fun H locs hP hD hS => ?_)
    have hP : va_P (dC, dI) rg_cl (rm_W h a cI cL (nI 1) (nI n) (nI b) (nI 0) mad nu co se li le fi sc ti un ma dr fr to en) H := hP
    have hD : va_D A (rm_W h a cI cL (nI 1) (nI n) (nI b) (nI 0) mad nu co se li le fi sc ti un ma dr fr to en) := hD
    refine lv_aload_n hx hb dM_merge_30 rfl (lv_at hl 0 rfl) ?_
    refine va_get (D := (dC, dI)) (ci := 0) (C := "RevisionGroveModel") (T := TM) (N := 19) hx hb hts inM hown hK hP 0 rfl rfl 0 (by decide) (hts _ tw_601) (fun _ h9 => h9) rfl dM_merge_31 ?_
    refine rg_ifN_le (tgt := 39) hx hb dM_merge_34 (by decide) (by decide) (fun h8 => by exfalso; omega) (fun h8 => ?_)
    refine lv_iconst (v := nI 0) hx hb dM_merge_37 (by decide) ?_
    rw [hQ]
    exact rg_iret hx hb hr hlk hK hP hD hS dM_merge_38 (nI 1, nI n, nI b, nI 0, mad, nu, co, se, li, le, fi, sc, ti, un, ma, dr, fr, to, en) rfl (⟨rm_Rep_c hrep, rfl, rfl⟩)
theorem c_rm_merge {l : Launch} {dC : Nat → ClassId} {dI : Nat → Nat → Nat} {h : Nat} {a : Nat → Nat} {cI cL : ClassId} {cod : Int32} {cof : Int32} {mad : Int32} {nu : Nat → Int32} {co : Nat → Int64} {se : Nat → Int32} {li : Nat → Int32} {le : Nat → Int32} {fi : Nat → Int32} {sc : Nat → Int32} {ti : Nat → Int32} {un : Nat → Int32} {ma : Nat → Int32} {dr : Nat → Int32} {fr : Nat → Int32} {to : Nat → Int32} {en : Nat → Int32} (n b : Nat) (Rr : Nat → rg_R) (P1 P2 : Nat → Int32) (T : Nat → Nat) (U : Nat → List Nat) (x y : Int32) (hrep : rm_Rep (nI n) (nI b) cof nu co se li le fi sc ti un ma (n, Rr, P1, P2, T, U, b, cof)) : rg_M l yM_merge (Cond.code yM_merge prog_8_method_31_code 9 (some .int) :: rg_tbl) { frames := 4, cells := 0, slots := 0, locals := 106 } (dC, dI) rg_cl [(cI, .int), (cL, .long)] (rm_W h a cI cL cod (nI n) (nI b) cof mad nu co se li le fi sc ti un ma dr fr to en) [.ref h, .int x, .int y] (rg_QI (dC, dI) rg_cl [(cI, .int), (cL, .long)] (S := rm_S) (rm_Po (rg_oMerge (n, Rr, P1, P2, T, U, b, cof) x y)) (fun u => rm_Wu h a cI cL u)) 0 0 := by
  unfold rg_oMerge
  cases hB : rg_isB x with
  | false => rw [if_neg (fun q => by cases q.1)]; exact c_rm_merge_bad1 n b Rr P1 P2 T U x y hB hrep
  | true =>
    by_cases hy : y < 0 ∨ 2 < y
    · rw [if_neg (fun q => hy.elim q.2.1 q.2.2)]; exact c_rm_merge_bad2 n b Rr P1 P2 T U x y hB hy hrep
    · rw [if_pos ⟨rfl, fun q => hy (Or.inl q), fun q => hy (Or.inr q)⟩]
      obtain ⟨j, hj, rfl⟩ := rg_isB_of hB
      obtain ⟨i, hi, rfl⟩ := nI_of2 (M := 2) (n := 2) (by decide) (fun q => hy (Or.inl q)) (Int32.not_lt.mp (fun q => hy (Or.inr q)))
      rw [nI_clamp (by omega), nI_clamp (by omega)]
      exact c_rm_merge_ok n b Rr P1 P2 T U j i hj (by omega) hrep
