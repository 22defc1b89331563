set_option maxHeartbeats 4000000 in
set_option maxRecDepth 100000 in
theorem c_rm_ancestors {l : Launch} {dC : Nat → ClassId} {dI : Nat → Nat → Nat} {h : Nat} {a : Nat → Nat} {cI cL : ClassId} {cod : Int32} {cnt : Int32} {bra : Int32} {cof : Int32} {mad : Int32} {nu : Nat → Int32} {co : Nat → Int64} {se : Nat → Int32} {li : Nat → Int32} {le : Nat → Int32} {fi : Nat → Int32} {sc : Nat → Int32} {ti : Nat → Int32} {un : Nat → Int32} {ma : Nat → Int32} {dr : Nat → Int32} {fr : Nat → Int32} {to : Nat → Int32} {en : Nat → Int32} (n : Nat) (o : Int64) (hn60 : n ≤ 60) (hpr : rg_Pr n fi sc) (ho : ∀ j, rg_has o j = true → j < n) : rg_M l yM_ancestors (Cond.code yM_ancestors prog_8_method_22_code 6 (some .long) :: rg_tbl) { frames := 0, cells := 0, slots := 0, locals := 0 } (dC, dI) rg_cl [(cI, .int), (cL, .long)] (rm_W h a cI cL cod cnt bra cof mad nu co se li le fi sc ti un ma dr fr to en) [.ref h, .long o] (rg_QL (dC, dI) rg_cl [(cI, .int), (cL, .long)] (S := Unit) (fun z _ => ∀ j, rg_has z j = true ↔ ∃ i, rg_has o i = true ∧ rg_An fi sc i j) (fun _ => rm_W h a cI cL cod cnt bra cof mad nu co se li le fi sc ti un ma dr fr to en)) 0 0 := by
  refine rg_of prog_8_method_22_code 6 (some .long) (by decide) rfl (Nat.le_of_ble_eq_true rfl) ?_
  intro p e R s m args below meth c Q A H locs ls hR hQ hx hb hml hr hts hown hlk hnm hP hK hD hA hS hl
  have hl : lv_has ls 6 [(0, .ref h), (1, .long o)] := hl
  have hts : ∀ w ∈ rg_tbl, w.before args s = true := fun w h => hts w (List.mem_cons_of_mem _ h)
  refine lv_lload_n hx hb dM_ancestors_0 rfl (lv_at hl 1 rfl) ?_
  refine lv_lstore_n (lv' := [(3, .long o), (0, .ref h), (1, .long o)]) hx hb dM_ancestors_1 rfl hl (by decide) rfl (fun ls hl => ?_)
  refine lv_bipush (v := nI 59) hx hb dM_ancestors_2 (by decide) ?_
  refine lv_istore (lv' := [(5, .int (nI 59)), (3, .long o), (0, .ref h), (1, .long o)]) hx hb dM_ancestors_4 hl (by decide) rfl (fun ls hl => ?_)
  have lp6 : ∀ (fuel : Nat) (q : Nat) (z : Int64) (H : Heap) (locs : List Loc) (ls : Array Slot), q < fuel → rg_AI fi sc o q z → q ≤ 60 → va_P (dC, dI) rg_cl (rm_W h a cI cL cod cnt bra cof mad nu co se li le fi sc ti un ma dr fr to en) H → va_D A (rm_W h a cI cL cod cnt bra cof mad nu co se li le fi sc ti un ma dr fr to en) → va_S A s.heap H locs → lv_has ls 6 [(0, .ref h), (3, .long z), (5, .int (rg_p q))] → W p l e R s m args below meth c H locs 0 0 Q (F0 m 6 ls []) := by
    intro fuel
    induction fuel with
    | zero => intro q z H locs ls hf; exact absurd hf (Nat.not_lt_zero _)
    | succ fuel ih6 =>
      intro q z H locs ls hfu6 hAI hq9 hP hD hS hl
      cases q with
      | zero =>
        have hl : lv_has ls 6 [(0, .ref h), (3, .long z), (5, .int ((-1)))] := hl
        refine lv_iload hx hb dM_ancestors_6 (lv_at hl 2 rfl) ?_
        refine lv_if_lt (tgt := 80) hx hb dM_ancestors_8 (by decide) (fun h1 => ?_) (fun h1 => absurd (by decide) h1)
        refine lv_lload_n hx hb dM_ancestors_80 rfl (lv_at hl 1 rfl) ?_
        rw [hQ]
        exact rg_lret hx hb hr hlk hK hP hD hS dM_ancestors_81 () rfl (rg_AI_end hAI)
      | succ k =>
        have hl : lv_has ls 6 [(0, .ref h), (3, .long z), (5, .int (nI k))] := hl
        refine lv_iload hx hb dM_ancestors_6 (lv_at hl 2 rfl) ?_
        refine rg_ifN_lt (tgt := 80) hx hb dM_ancestors_8 (by decide) (by omega) (fun h2 => h2.elim) (fun h2 => ?_)
        refine lv_lload_n hx hb dM_ancestors_11 rfl (lv_at hl 1 rfl) ?_
        refine lv_iload hx hb dM_ancestors_12 (lv_at hl 2 rfl) ?_
        refine lv_lshr (v := z >>> ((nI k).toInt64 &&& 63)) hx hb dM_ancestors_14 rfl ?_
        refine lv_lconst (v := 1) hx hb dM_ancestors_15 (by decide) ?_
        refine lv_land hx hb dM_ancestors_16 ?_
        refine rg_top (show (.long ((z >>> ((nI k).toInt64 &&& 63)) &&& (1 : Int64)) : Value) = .long (bif rg_has z k then 1 else 0) by rw [rg_bit_s z (by omega)]) ?_
        refine lv_lconst (v := 1) hx hb dM_ancestors_17 (by decide) ?_
        refine W.lcmp hx hb dM_ancestors_18 ?_
        refine lv_if_ne (tgt := 74) hx hb dM_ancestors_19 (by decide) (fun h3 => ?_) (fun h3 => ?_)
        · have hzk : rg_has z k = false := rg_bF (fun q => h3 (rg_cb1.mpr q))
          refine lv_iinc (k := 2) (v := rg_p k) (lv' := [(5, .int (rg_p k)), (0, .ref h), (3, .long z)]) hx hb dM_ancestors_74 hl rfl (rg_p_dec k) (by decide) rfl (fun ls hl => ?_)
          refine lv_goto (tgt := 6) hx hb dM_ancestors_77 (by decide) ?_
          exact ih6 k z _ _ _ (by omega) (rg_AI_no hAI hzk) (by omega) hP hD hS (lv_sub hl [1, 2, 0] rfl)
        · have hzk : rg_has z k = true := rg_cb1.mp h3
          have hkn := rg_AI_lt hAI ho hzk
          refine lv_lload_n hx hb dM_ancestors_22 rfl (lv_at hl 1 rfl) ?_
          refine lv_aload_n hx hb dM_ancestors_23 rfl (lv_at hl 0 rfl) ?_
          refine va_get (D := (dC, dI)) (ci := 0) (C := "RevisionGroveModel") (T := TM) (N := 19) hx hb hts inM hown hK hP 0 rfl rfl 7 (by decide) (hts _ tw_608) (fun _ h9 => h9) rfl dM_ancestors_24 ?_
          refine lv_iload hx hb dM_ancestors_27 (lv_at hl 2 rfl) ?_
          refine rg_iald hx hb hK hP 6 0 rfl rfl (by decide) (by omega) dM_ancestors_29 ?_
          have J30 : ∀ v9 : Int64, v9 = (rg_pb (fi k)) → W p l e R s m args below meth c H locs 0 0 Q (F0 m 46 ls [.long v9, .long z]) := by
            intro v9 hv9
            subst hv9
            refine lv_lor hx hb dM_ancestors_46 ?_
            refine lv_lstore_n (lv' := [(3, .long (z ||| (rg_pb (fi k)))), (0, .ref h), (5, .int (nI k))]) hx hb dM_ancestors_47 rfl hl (by decide) rfl (fun ls hl => ?_)
            refine lv_lload_n hx hb dM_ancestors_48 rfl (lv_at hl 0 rfl) ?_
            refine lv_aload_n hx hb dM_ancestors_49 rfl (lv_at hl 1 rfl) ?_
            refine va_get (D := (dC, dI)) (ci := 0) (C := "RevisionGroveModel") (T := TM) (N := 19) hx hb hts inM hown hK hP 0 rfl rfl 8 (by decide) (hts _ tw_609) (fun _ h9 => h9) rfl dM_ancestors_50 ?_
            refine lv_iload hx hb dM_ancestors_53 (lv_at hl 2 rfl) ?_
            refine rg_iald hx hb hK hP 7 0 rfl rfl (by decide) (by omega) dM_ancestors_55 ?_
            have J56 : ∀ v9 : Int64, v9 = (rg_pb (sc k)) → W p l e R s m args below meth c H locs 0 0 Q (F0 m 72 ls [.long v9, .long (z ||| (rg_pb (fi k)))]) := by
              intro v9 hv9
              subst hv9
              refine lv_lor hx hb dM_ancestors_72 ?_
              refine lv_lstore_n (lv' := [(3, .long ((z ||| (rg_pb (fi k))) ||| (rg_pb (sc k)))), (0, .ref h), (5, .int (nI k))]) hx hb dM_ancestors_73 rfl hl (by decide) rfl (fun ls hl => ?_)
              refine lv_iinc (k := 2) (v := rg_p k) (lv' := [(5, .int (rg_p k)), (3, .long ((z ||| (rg_pb (fi k))) ||| (rg_pb (sc k)))), (0, .ref h)]) hx hb dM_ancestors_74 hl rfl (rg_p_dec k) (by decide) rfl (fun ls hl => ?_)
              refine lv_goto (tgt := 6) hx hb dM_ancestors_77 (by decide) ?_
              exact ih6 k ((z ||| rg_pb (fi k)) ||| rg_pb (sc k)) _ _ _ (by omega) (rg_AI_yes hAI hn60 hpr ho hzk) (by omega) hP hD hS (lv_sub hl [2, 1, 0] rfl)
            refine lv_if_ge (tgt := 63) hx hb dM_ancestors_56 (by decide) (fun h4 => ?_) (fun h4 => ?_)
            · refine lv_lconst (v := 1) hx hb dM_ancestors_63 (by decide) ?_
              refine lv_aload_n hx hb dM_ancestors_64 rfl (lv_at hl 1 rfl) ?_
              refine va_get (D := (dC, dI)) (ci := 0) (C := "RevisionGroveModel") (T := TM) (N := 19) hx hb hts inM hown hK hP 0 rfl rfl 8 (by decide) (hts _ tw_609) (fun _ h9 => h9) rfl dM_ancestors_65 ?_
              refine lv_iload hx hb dM_ancestors_68 (lv_at hl 2 rfl) ?_
              refine rg_iald hx hb hK hP 7 0 rfl rfl (by decide) (by omega) dM_ancestors_70 ?_
              refine lv_lshl (v := (1 : Int64) <<< ((sc k).toInt64 &&& 63)) hx hb dM_ancestors_71 rfl ?_
              exact J56 _ (rg_pb_ge h4)
            · refine lv_lconst (v := 0) hx hb dM_ancestors_59 (by decide) ?_
              refine lv_goto (tgt := 72) hx hb dM_ancestors_60 (by decide) ?_
              exact J56 _ (rg_pb_lt h4)
          refine lv_if_ge (tgt := 37) hx hb dM_ancestors_30 (by decide) (fun h5 => ?_) (fun h5 => ?_)
          · refine lv_lconst (v := 1) hx hb dM_ancestors_37 (by decide) ?_
            refine lv_aload_n hx hb dM_ancestors_38 rfl (lv_at hl 0 rfl) ?_
            refine va_get (D := (dC, dI)) (ci := 0) (C := "RevisionGroveModel") (T := TM) (N := 19) hx hb hts inM hown hK hP 0 rfl rfl 7 (by decide) (hts _ tw_608) (fun _ h9 => h9) rfl dM_ancestors_39 ?_
            refine lv_iload hx hb dM_ancestors_42 (lv_at hl 2 rfl) ?_
            refine rg_iald hx hb hK hP 6 0 rfl rfl (by decide) (by omega) dM_ancestors_44 ?_
            refine lv_lshl (v := (1 : Int64) <<< ((fi k).toInt64 &&& 63)) hx hb dM_ancestors_45 rfl ?_
            exact J30 _ (rg_pb_ge h5)
          · refine lv_lconst (v := 0) hx hb dM_ancestors_33 (by decide) ?_
            refine lv_goto (tgt := 46) hx hb dM_ancestors_34 (by decide) ?_
            exact J30 _ (rg_pb_lt h5)
  exact lp6 _ 60 o _ _ _ (Nat.lt_succ_self _) (rg_AI_0 hn60 ho) (Nat.le_refl _) hP hD hS (lv_sub hl [2, 1, 0] rfl)
set_option maxHeartbeats 4000000 in
set_option maxRecDepth 100000 in
theorem c_rm_rank {l : Launch} {dC : Nat → ClassId} {dI : Nat → Nat → Nat} {h : Nat} {a : Nat → Nat} {cI cL : ClassId} {cod : Int32} {cnt : Int32} {bra : Int32} {cof : Int32} {mad : Int32} {nu : Nat → Int32} {co : Nat → Int64} {se : Nat → Int32} {li : Nat → Int32} {le : Nat → Int32} {fi : Nat → Int32} {sc : Nat → Int32} {ti : Nat → Int32} {un : Nat → Int32} {ma : Nat → Int32} {dr : Nat → Int32} {fr : Nat → Int32} {to : Nat → Int32} {en : Nat → Int32} (z : Int64) (r : Nat) (hr6 : r < 64) : rg_M l yM_rank (Cond.code yM_rank prog_8_method_37_code 5 (some .int) :: rg_tbl) { frames := 0, cells := 0, slots := 0, locals := 0 } (dC, dI) rg_cl [(cI, .int), (cL, .long)] (rm_W h a cI cL cod cnt bra cof mad nu co se li le fi sc ti un ma dr fr to en) [.long z, .int (nI r)] (rg_QI (dC, dI) rg_cl [(cI, .int), (cL, .long)] (S := Unit) (fun x _ => x = nI (rg_rk (rg_has z) r)) (fun _ => rm_W h a cI cL cod cnt bra cof mad nu co se li le fi sc ti un ma dr fr to en)) 0 0 := by
  refine rg_of prog_8_method_37_code 5 (some .int) (by decide) rfl (Nat.le_of_ble_eq_true rfl) ?_
  intro p e R s m args below meth c Q A H locs ls hR hQ hx hb hml hr hts hown hlk hnm hP hK hD hA hS hl
  have hl : lv_has ls 5 [(0, .long z), (2, .int (nI r))] := hl
  have hts : ∀ w ∈ rg_tbl, w.before args s = true := fun w h => hts w (List.mem_cons_of_mem _ h)
  refine lv_iconst (v := nI 0) hx hb dM_rank_0 (by decide) ?_
  refine lv_istore_n (lv' := [(3, .int (nI 0)), (0, .long z), (2, .int (nI r))]) hx hb dM_rank_1 rfl hl (by decide) rfl (fun ls hl => ?_)
  refine lv_iconst (v := nI 0) hx hb dM_rank_2 (by decide) ?_
  refine lv_istore (lv' := [(4, .int (nI 0)), (3, .int (nI 0)), (0, .long z), (2, .int (nI r))]) hx hb dM_rank_3 hl (by decide) rfl (fun ls hl => ?_)
  have lp5 : ∀ (fuel : Nat) (i : Nat) (H : Heap) (locs : List Loc) (ls : Array Slot), r - i < fuel → i ≤ r → va_P (dC, dI) rg_cl (rm_W h a cI cL cod cnt bra cof mad nu co se li le fi sc ti un ma dr fr to en) H → va_D A (rm_W h a cI cL cod cnt bra cof mad nu co se li le fi sc ti un ma dr fr to en) → va_S A s.heap H locs → lv_has ls 5 [(0, .long z), (2, .int (nI r)), (3, .int (nI (rg_rk (rg_has z) i))), (4, .int (nI i))] → W p l e R s m args below meth c H locs 0 0 Q (F0 m 5 ls []) := by
    intro fuel
    induction fuel with
    | zero => intro i H locs ls hf; exact absurd hf (Nat.not_lt_zero _)
    | succ fuel ih5 =>
      intro i H locs ls hfu5 hir hP hD hS hl
      refine lv_iload hx hb dM_rank_5 (lv_at hl 3 rfl) ?_
      refine lv_iload_n hx hb dM_rank_7 rfl (lv_at hl 1 rfl) ?_
      refine rg_icmp_ge (tgt := 36) hx hb dM_rank_8 (by decide) (by omega) (by omega) (fun h1 => ?_) (fun h1 => ?_)
      · refine lv_iload_n hx hb dM_rank_36 rfl (lv_at hl 2 rfl) ?_
        obtain rfl : i = r := by omega
        rw [hQ]
        exact rg_iret hx hb hr hlk hK hP hD hS dM_rank_37 () rfl rfl
      · refine lv_iload_n hx hb dM_rank_11 rfl (lv_at hl 2 rfl) ?_
        refine lv_lload_n hx hb dM_rank_12 rfl (lv_at hl 0 rfl) ?_
        refine lv_iload hx hb dM_rank_13 (lv_at hl 3 rfl) ?_
        refine lv_lshr (v := z >>> ((nI i).toInt64 &&& 63)) hx hb dM_rank_15 rfl ?_
        refine lv_lconst (v := 1) hx hb dM_rank_16 (by decide) ?_
        refine lv_land hx hb dM_rank_17 ?_
        refine rg_top (show (.long ((z >>> ((nI i).toInt64 &&& 63)) &&& (1 : Int64)) : Value) = .long (bif rg_has z i then 1 else 0) by rw [rg_bit_s z (by omega)]) ?_
        refine lv_lconst (v := 1) hx hb dM_rank_18 (by decide) ?_
        refine W.lcmp hx hb dM_rank_19 ?_
        have J20 : ∀ v9 : Nat, v9 = (bif rg_has z i then 1 else 0) → W p l e R s m args below meth c H locs 0 0 Q (F0 m 28 ls [.int (nI v9), .int (nI (rg_rk (rg_has z) i))]) := by
          intro v9 hv9
          subst hv9
          refine rg_iadd hx hb dM_rank_28 ?_
          refine lv_istore_n (lv' := [(3, .int (nI (rg_rk (rg_has z) i + bif rg_has z i then 1 else 0))), (0, .long z), (2, .int (nI r)), (4, .int (nI i))]) hx hb dM_rank_29 rfl hl (by decide) rfl (fun ls hl => ?_)
          refine lv_iinc (k := 3) (v := nI (i + 1)) (lv' := [(4, .int (nI (i + 1))), (3, .int (nI (rg_rk (rg_has z) i + bif rg_has z i then 1 else 0))), (0, .long z), (2, .int (nI r))]) hx hb dM_rank_30 hl rfl (nI_1 _) (by decide) rfl (fun ls hl => ?_)
          refine lv_goto (tgt := 5) hx hb dM_rank_33 (by decide) ?_
          exact ih5 (i + 1) _ _ _ (by omega) (by omega) hP hD hS (lv_sub hl [2, 3, 1, 0] rfl)
        refine lv_if_ne (tgt := 27) hx hb dM_rank_20 (by decide) (fun h2 => ?_) (fun h2 => ?_)
        · refine lv_iconst (v := nI 0) hx hb dM_rank_27 (by decide) ?_
          exact J20 0 (by rw [rg_bF (fun q => h2 (rg_cb1.mpr q))]; rfl)
        · refine lv_iconst (v := nI 1) hx hb dM_rank_23 (by decide) ?_
          refine lv_goto (tgt := 28) hx hb dM_rank_24 (by decide) ?_
          exact J20 1 (by rw [rg_cb1.mp h2]; rfl)
  exact lp5 _ 0 _ _ _ (Nat.lt_succ_self _) (Nat.zero_le _) hP hD hS (lv_sub hl [2, 3, 1, 0] rfl)
set_option maxHeartbeats 4000000 in
set_option maxRecDepth 100000 in
theorem c_rm_baseOf {l : Launch} {dC : Nat → ClassId} {dI : Nat → Nat → Nat} {h : Nat} {a : Nat → Nat} {cI cL : ClassId} {cod : Int32} {cnt : Int32} {bra : Int32} {cof : Int32} {mad : Int32} {nu : Nat → Int32} {co : Nat → Int64} {se : Nat → Int32} {li : Nat → Int32} {le : Nat → Int32} {fi : Nat → Int32} {sc : Nat → Int32} {ti : Nat → Int32} {un : Nat → Int32} {ma : Nat → Int32} {dr : Nat → Int32} {fr : Nat → Int32} {to : Nat → Int32} {en : Nat → Int32} (n x y : Nat) (hn60 : n ≤ 60) (hxn : x < n) (hyn : y < n) (hpr : rg_Pr n fi sc) : rg_M l yM_baseOf (Cond.code yM_baseOf prog_8_method_23_code 6 (some .int) :: rg_tbl) { frames := 1, cells := 0, slots := 0, locals := 25 } (dC, dI) rg_cl [(cI, .int), (cL, .long)] (rm_W h a cI cL cod cnt bra cof mad nu co se li le fi sc ti un ma dr fr to en) [.ref h, .int (nI x), .int (nI y)] (rg_QI (dC, dI) rg_cl [(cI, .int), (cL, .long)] (S := Unit) (fun z _ => ∃ r, z = nI r ∧ rg_Bs fi sc x y r) (fun _ => rm_W h a cI cL cod cnt bra cof mad nu co se li le fi sc ti un ma dr fr to en)) 0 0 := by
  refine rg_of prog_8_method_23_code 6 (some .int) (by decide) rfl (Nat.le_of_ble_eq_true rfl) ?_
  intro p e R s m args below meth c Q A H locs ls hR hQ hx hb hml hr hts hown hlk hnm hP hK hD hA hS hl
  have hl : lv_has ls 6 [(0, .ref h), (1, .int (nI x)), (2, .int (nI y))] := hl
  have hts : ∀ w ∈ rg_tbl, w.before args s = true := fun w h => hts w (List.mem_cons_of_mem _ h)
  refine lv_aload_n hx hb dM_baseOf_0 rfl (lv_at hl 0 rfl) ?_
  refine lv_lconst (v := 1) hx hb dM_baseOf_1 (by decide) ?_
  refine lv_iload_n hx hb dM_baseOf_2 rfl (lv_at hl 1 rfl) ?_
  refine lv_lshl (v := (1 : Int64) <<< ((nI x).toInt64 &&& 63)) hx hb dM_baseOf_3 rfl ?_
  refine rg_calll hD hS hA (va_runV (As := [.long ((1 : Int64) <<< ((nI x).toInt64 &&& 63))]) (rest := []) ⟨hx, hb, hml, hown, hts⟩ (c_rm_ancestors n ((1 : Int64) <<< ((nI x).toInt64 &&& 63)) hn60 hpr (rg_one_lt hxn hn60) _) (cwV 1 hts (rg_gV tw_742 tw_744 ts_M_ancestors tw_5 tw_745) rfl rfl rfl (by decide +kernel) ⟨by rw [hR]; exact Nat.le_of_ble_eq_true rfl, by rw [hR]; exact Nat.le_of_ble_eq_true rfl⟩) (rg_preV rfl hK hP hD (ci := 0) (q0 := 0) rfl rfl) rfl rfl hl.1 rfl (lv_room (Nat.le_of_ble_eq_true rfl)) dM_baseOf_4 ⟨Nat.zero_le _, Nat.zero_le _⟩) (fun r1 u2 H locs hw3 hP hD hS => ?_)
  have hP : va_P (dC, dI) rg_cl (rm_W h a cI cL cod cnt bra cof mad nu co se li le fi sc ti un ma dr fr to en) H := hP
  have hD : va_D A (rm_W h a cI cL cod cnt bra cof mad nu co se li le fi sc ti un ma dr fr to en) := hD
  have hax := rg_anc1 (by omega) hw3
  refine lv_aload_n hx hb dM_baseOf_7 rfl (lv_at hl 0 rfl) ?_
  refine lv_lconst (v := 1) hx hb dM_baseOf_8 (by decide) ?_
  refine lv_iload_n hx hb dM_baseOf_9 rfl (lv_at hl 2 rfl) ?_
  refine lv_lshl (v := (1 : Int64) <<< ((nI y).toInt64 &&& 63)) hx hb dM_baseOf_10 rfl ?_
  refine rg_calll hD hS hA (va_runV (As := [.long ((1 : Int64) <<< ((nI y).toInt64 &&& 63))]) (rest := [.long r1]) ⟨hx, hb, hml, hown, hts⟩ (c_rm_ancestors n ((1 : Int64) <<< ((nI y).toInt64 &&& 63)) hn60 hpr (rg_one_lt hyn hn60) _) (cwV 1 hts (rg_gV tw_742 tw_744 ts_M_ancestors tw_5 tw_745) rfl rfl rfl (by decide +kernel) ⟨by rw [hR]; exact Nat.le_of_ble_eq_true rfl, by rw [hR]; exact Nat.le_of_ble_eq_true rfl⟩) (rg_preV rfl hK hP hD (ci := 0) (q0 := 0) rfl rfl) rfl rfl hl.1 rfl (lv_room (Nat.le_of_ble_eq_true rfl)) dM_baseOf_11 ⟨Nat.zero_le _, Nat.zero_le _⟩) (fun r4 u5 H locs hw6 hP hD hS => ?_)
  have hP : va_P (dC, dI) rg_cl (rm_W h a cI cL cod cnt bra cof mad nu co se li le fi sc ti un ma dr fr to en) H := hP
  have hD : va_D A (rm_W h a cI cL cod cnt bra cof mad nu co se li le fi sc ti un ma dr fr to en) := hD
  have hay := rg_anc1 (by omega) hw6
  obtain ⟨z, hz⟩ : ∃ z, z = r1 &&& r4 := ⟨_, rfl⟩
  have hzz : ∀ j, rg_has z j = true ↔ rg_An fi sc x j ∧ rg_An fi sc y j := fun j => by rw [hz, rg_has_and, Bool.and_eq_true, hax, hay]
  refine lv_land hx hb dM_baseOf_14 ?_
  rw [← hz]
  refine lv_lstore_n (lv' := [(3, .long z), (0, .ref h), (1, .int (nI x)), (2, .int (nI y))]) hx hb dM_baseOf_15 rfl hl (by decide) rfl (fun ls hl => ?_)
  refine lv_bipush (v := nI 59) hx hb dM_baseOf_16 (by decide) ?_
  refine lv_istore (lv' := [(5, .int (nI 59)), (3, .long z), (0, .ref h), (1, .int (nI x)), (2, .int (nI y))]) hx hb dM_baseOf_18 hl (by decide) rfl (fun ls hl => ?_)
  have lp20 : ∀ (fuel : Nat) (k : Nat) (H : Heap) (locs : List Loc) (ls : Array Slot), k < fuel → k < 60 → (∀ j, k < j → rg_has z j = false) → va_P (dC, dI) rg_cl (rm_W h a cI cL cod cnt bra cof mad nu co se li le fi sc ti un ma dr fr to en) H → va_D A (rm_W h a cI cL cod cnt bra cof mad nu co se li le fi sc ti un ma dr fr to en) → va_S A s.heap H locs → lv_has ls 6 [(0, .ref h), (3, .long z), (5, .int (nI k))] → W p l e R s m args below meth c H locs 0 0 Q (F0 m 20 ls []) := by
    intro fuel
    induction fuel with
    | zero => intro k H locs ls hf; exact absurd hf (Nat.not_lt_zero _)
    | succ fuel ih20 =>
      intro k H locs ls hfu20 hk6 hkz hP hD hS hl
      refine lv_lload_n hx hb dM_baseOf_20 rfl (lv_at hl 1 rfl) ?_
      refine lv_iload hx hb dM_baseOf_21 (lv_at hl 2 rfl) ?_
      refine lv_lshr (v := z >>> ((nI k).toInt64 &&& 63)) hx hb dM_baseOf_23 rfl ?_
      refine lv_lconst (v := 1) hx hb dM_baseOf_24 (by decide) ?_
      refine lv_land hx hb dM_baseOf_25 ?_
      refine rg_top (show (.long ((z >>> ((nI k).toInt64 &&& 63)) &&& (1 : Int64)) : Value) = .long (bif rg_has z k then 1 else 0) by rw [rg_bit_s z (by omega)]) ?_
      refine lv_lconst (v := 0) hx hb dM_baseOf_26 (by decide) ?_
      refine W.lcmp hx hb dM_baseOf_27 ?_
      refine lv_if_ne (tgt := 37) hx hb dM_baseOf_28 (by decide) (fun h7 => ?_) (fun h7 => ?_)
      · refine lv_iload hx hb dM_baseOf_37 (lv_at hl 2 rfl) ?_
        have hzk : rg_has z k = true := rg_bT (fun q => h7 (rg_cb0.mpr q))
        rw [hQ]
        exact rg_iret hx hb hr hlk hK hP hD hS dM_baseOf_39 () rfl ⟨k, rfl, ((hzz k).mp hzk).1, ((hzz k).mp hzk).2, fun q h1 h2 => Nat.le_of_not_lt (fun w => by have := (hzz q).mpr ⟨h1, h2⟩; rw [hkz q w] at this; cases this)⟩
      · have hzk : rg_has z k = false := rg_cb0.mp h7
        have hk0 : 0 < k := Nat.pos_of_ne_zero (fun q => by rw [q, (hzz 0).mpr ⟨rg_An_0 hpr x hxn, rg_An_0 hpr y hyn⟩] at hzk; cases hzk)
        refine lv_iinc (k := 2) (v := nI (k - 1)) (lv' := [(5, .int (nI (k - 1))), (0, .ref h), (3, .long z)]) hx hb dM_baseOf_31 hl rfl (rg_dec hk0) (by decide) rfl (fun ls hl => ?_)
        refine lv_goto (tgt := 20) hx hb dM_baseOf_34 (by decide) ?_
        exact ih20 (k - 1) _ _ _ (by omega) (by omega) (fun j hj => by by_cases e9 : j = k; rw [e9]; exact hzk; exact hkz j (by omega)) hP hD hS (lv_sub hl [1, 2, 0] rfl)
  exact lp20 _ 59 _ _ _ (Nat.lt_succ_self _) (by decide) (fun j hj => rg_bF (fun q => by have := rg_An_le ((hzz j).mp q).1; omega)) hP hD hS (lv_sub hl [2, 1, 0] rfl)
set_option maxHeartbeats 4000000 in
set_option maxRecDepth 100000 in
theorem c_rm_base_ok {l : Launch} {dC : Nat → ClassId} {dI : Nat → Nat → Nat} {h : Nat} {a : Nat → Nat} {cI cL : ClassId} {cod : Int32} {cof : Int32} {mad : Int32} {nu : Nat → Int32} {co : Nat → Int64} {se : Nat → Int32} {li : Nat → Int32} {le : Nat → Int32} {fi : Nat → Int32} {sc : Nat → Int32} {ti : Nat → Int32} {un : Nat → Int32} {ma : Nat → Int32} {dr : Nat → Int32} {fr : Nat → Int32} {to : Nat → Int32} {en : Nat → Int32} (n b : Nat) (Rr : Nat → rg_R) (P1 P2 : Nat → Int32) (T : Nat → Nat) (U : Nat → List Nat) (j : Nat) (hj4 : j < 4) (hrep : rm_Rep (nI n) (nI b) cof nu co se li le fi sc ti un ma (n, Rr, P1, P2, T, U, b, cof)) : rg_M l yM_base (Cond.code yM_base prog_8_method_33_code 2 (some .int) :: rg_tbl) { frames := 2, cells := 0, slots := 0, locals := 50 } (dC, dI) rg_cl [(cI, .int), (cL, .long)] (rm_W h a cI cL cod (nI n) (nI b) cof mad nu co se li le fi sc ti un ma dr fr to en) [.ref h, .int (nI j)] (rg_QI (dC, dI) rg_cl [(cI, .int), (cL, .long)] (S := rm_S) (rm_Po (0, nI (rg_base P1 P2 (T b) (T j)), (n, Rr, P1, P2, T, U, b, cof))) (fun u => rm_Wu h a cI cL u)) 0 0 := by
  refine rg_of prog_8_method_33_code 2 (some .int) (by decide) rfl (Nat.le_of_ble_eq_true rfl) ?_
  intro p e R s m args below meth c Q A H locs ls hR hQ hx hb hml hr hts hown hlk hnm hP hK hD hA hS hl
  have hl : lv_has ls 2 [(0, .ref h), (1, .int (nI j))] := hl
  have hts : ∀ w ∈ rg_tbl, w.before args s = true := fun w h => hts w (List.mem_cons_of_mem _ h)
  have hok := hrep.1
  have hn1 : 1 ≤ n := hok.1
  have hn60 : n ≤ 60 := hok.2.1
  have hb4 : b < 4 := hok.2.2.2.2.2.2.2.1
  have hTb : T b < n := (hok.2.2.2.2.2.2.1 b hb4).1
  have hti : ti b = nI (T b) := (hrep.2.2.2.2.2.2 b hb4).1
  have hma : ma b = nI (U b).length := (hrep.2.2.2.2.2.2 b hb4).2.1
  have hB := rg_isB_ok hj4
  have htj : ti j = nI (T j) := (hrep.2.2.2.2.2.2 j hj4).1
  have hTj : T j < n := (hok.2.2.2.2.2.2.1 j hj4).1
  have hpr : rg_Pr n fi sc := rm_Pr hrep
  refine lv_aload_n hx hb dM_base_0 rfl (lv_at hl 0 rfl) ?_
  refine lv_iload_n hx hb dM_base_1 rfl (lv_at hl 1 rfl) ?_
  refine rg_calli hD hS hA (va_runS (As := [.int (nI j)]) (rest := [.ref h]) ⟨hx, hb, hml, hown, hts⟩ (c_rm_isBranch (nI j) _) (cwS 1 hts (rg_gS tw_715 tw_716 tw_5 tw_717) rfl rfl rfl (by decide +kernel) ⟨by rw [hR]; exact Nat.le_of_ble_eq_true rfl, by rw [hR]; exact Nat.le_of_ble_eq_true rfl⟩) (rg_preS rfl hK hP hD) rfl rfl hl.1 rfl (lv_room (Nat.le_of_ble_eq_true rfl)) dM_base_2 ⟨Nat.zero_le _, Nat.zero_le _⟩) (fun r1 u2 H locs hw3 hP hD hS => ?_)
  subst hw3
  have hP : va_P (dC, dI) rg_cl (rm_W h a cI cL cod (nI n) (nI b) cof mad nu co se li le fi sc ti un ma dr fr to en) H := hP
  have hD : va_D A (rm_W h a cI cL cod (nI n) (nI b) cof mad nu co se li le fi sc ti un ma dr fr to en) := hD
  refine rg_ifz_eq (tgt := 12) hx hb dM_base_5 (by decide) (fun h4 => absurd (hB.symm.trans h4) (by decide)) (fun h4 => ?_)
  refine lv_iconst (v := nI 0) hx hb dM_base_8 (by decide) ?_
  refine lv_goto (tgt := 13) hx hb dM_base_9 (by decide) ?_
  refine va_put (D := (dC, dI)) (ci := 0) (v := .int (nI 0)) (ty := .int) (C := "RevisionGroveModel") (T := TM) (N := 19) hx hb hts inM tyM tyM_ok nmM hown hK hP hD hS 0 rfl rfl 0 (by decide) (hts _ tw_601) (fun _ h9 => h9) rfl (by decide +kernel) rfl rfl (Nat.le_of_ble_eq_true rfl) dM_base_13 (fun H locs hP hD hS => ?_)
  have hP : va_P (dC, dI) rg_cl (rm_W h a cI cL (nI 0) (nI n) (nI b) cof mad nu co se li le fi sc ti un ma dr fr to en) H := hP
  have hD : va_D A (rm_W h a cI cL (nI 0) (nI n) (nI b) cof mad nu co se li le fi sc ti un ma dr fr to en) := hD
  refine lv_aload_n hx hb dM_base_16 rfl (lv_at hl 0 rfl) ?_
  refine va_get (D := (dC, dI)) (ci := 0) (C := "RevisionGroveModel") (T := TM) (N := 19) hx hb hts inM hown hK hP 0 rfl rfl 0 (by decide) (hts _ tw_601) (fun _ h9 => h9) rfl dM_base_17 ?_
  refine rg_ifN_ne (tgt := 40) hx hb dM_base_20 (by decide) (by decide) (fun h5 => by exfalso; omega) (fun h5 => ?_)
  refine lv_aload_n hx hb dM_base_23 rfl (lv_at hl 0 rfl) ?_
  refine lv_aload_n hx hb dM_base_24 rfl (lv_at hl 0 rfl) ?_
  refine rg_calli hD hS hA (va_runV (As := []) (rest := [.ref h]) ⟨hx, hb, hml, hown, hts⟩ (c_rm_here b (by omega) _) (cwV 0 hts (rg_gV tw_667 tw_669 ts_M_here tw_5 tw_670) rfl rfl rfl (by decide +kernel) ⟨by rw [hR]; exact Nat.le_of_ble_eq_true rfl, by rw [hR]; exact Nat.le_of_ble_eq_true rfl⟩) (rg_preV rfl hK hP hD (ci := 0) (q0 := 0) rfl rfl) rfl rfl hl.1 rfl (lv_room (Nat.le_of_ble_eq_true rfl)) dM_base_25 ⟨Nat.zero_le _, Nat.zero_le _⟩) (fun r6 u7 H locs hw8 hP hD hS => ?_)
  subst hw8
  have hP : va_P (dC, dI) rg_cl (rm_W h a cI cL (nI 0) (nI n) (nI b) cof mad nu co se li le fi sc ti un ma dr fr to en) H := hP
  have hD : va_D A (rm_W h a cI cL (nI 0) (nI n) (nI b) cof mad nu co se li le fi sc ti un ma dr fr to en) := hD
  refine rg_top (show (.int (ti b) : Value) = .int (nI (T b)) by rw [hti]) ?_
  refine lv_aload_n hx hb dM_base_28 rfl (lv_at hl 0 rfl) ?_
  refine va_get (D := (dC, dI)) (ci := 0) (C := "RevisionGroveModel") (T := TM) (N := 19) hx hb hts inM hown hK hP 0 rfl rfl 10 (by decide) (hts _ tw_611) (fun _ h9 => h9) rfl dM_base_29 ?_
  refine lv_iload_n hx hb dM_base_32 rfl (lv_at hl 1 rfl) ?_
  refine rg_iald hx hb hK hP 8 0 rfl rfl (by decide) (by omega) dM_base_33 ?_
  refine rg_top (show (.int (ti j) : Value) = .int (nI (T j)) by rw [htj]) ?_
  refine rg_calli hD hS hA (va_runV (As := [.int (nI (T b)), .int (nI (T j))]) (rest := []) ⟨hx, hb, hml, hown, hts⟩ (c_rm_baseOf n (T b) (T j) hn60 (by omega) (by omega) hpr _) (cwV 2 hts (rg_gV tw_746 tw_748 ts_M_baseOf tw_5 tw_749) rfl rfl rfl (by decide +kernel) ⟨by rw [hR]; exact Nat.le_of_ble_eq_true rfl, by rw [hR]; exact Nat.le_of_ble_eq_true rfl⟩) (rg_preV rfl hK hP hD (ci := 0) (q0 := 0) rfl rfl) rfl rfl hl.1 rfl (lv_room (Nat.le_of_ble_eq_true rfl)) dM_base_34 ⟨Nat.zero_le _, Nat.zero_le _⟩) (fun r9 u10 H locs hw11 hP hD hS => ?_)
  obtain ⟨q12, rfl, hbs⟩ := hw11
  have hP : va_P (dC, dI) rg_cl (rm_W h a cI cL (nI 0) (nI n) (nI b) cof mad nu co se li le fi sc ti un ma dr fr to en) H := hP
  have hD : va_D A (rm_W h a cI cL (nI 0) (nI n) (nI b) cof mad nu co se li le fi sc ti un ma dr fr to en) := hD
  refine lv_goto (tgt := 41) hx hb dM_base_37 (by decide) ?_
  rw [hQ]
  exact rg_iret hx hb hr hlk hK hP hD hS dM_base_41 (nI 0, nI n, nI b, cof, mad, nu, co, se, li, le, fi, sc, ti, un, ma, dr, fr, to, en) rfl (⟨hrep, rfl, by show nI q12 = nI _; rw [rg_base_eq (rg_Bs_same (n := n) hrep.2.2.2.2.2.1 hTb hTj hbs)]⟩)
set_option maxHeartbeats 4000000 in
set_option maxRecDepth 100000 in
theorem c_rm_base_bad {l : Launch} {dC : Nat → ClassId} {dI : Nat → Nat → Nat} {h : Nat} {a : Nat → Nat} {cI cL : ClassId} {cod : Int32} {cof : Int32} {mad : Int32} {nu : Nat → Int32} {co : Nat → Int64} {se : Nat → Int32} {li : Nat → Int32} {le : Nat → Int32} {fi : Nat → Int32} {sc : Nat → Int32} {ti : Nat → Int32} {un : Nat → Int32} {ma : Nat → Int32} {dr : Nat → Int32} {fr : Nat → Int32} {to : Nat → Int32} {en : Nat → Int32} (n b : Nat) (Rr : Nat → rg_R) (P1 P2 : Nat → Int32) (T : Nat → Nat) (U : Nat → List Nat) (x : Int32) (hB : rg_isB x = false) (hrep : rm_Rep (nI n) (nI b) cof nu co se li le fi sc ti un ma (n, Rr, P1, P2, T, U, b, cof)) : rg_M l yM_base (Cond.code yM_base prog_8_method_33_code 2 (some .int) :: rg_tbl) { frames := 2, cells := 0, slots := 0, locals := 50 } (dC, dI) rg_cl [(cI, .int), (cL, .long)] (rm_W h a cI cL cod (nI n) (nI b) cof mad nu co se li le fi sc ti un ma dr fr to en) [.ref h, .int x] (rg_QI (dC, dI) rg_cl [(cI, .int), (cL, .long)] (S := rm_S) (rm_Po (1, 0, (n, Rr, P1, P2, T, U, b, cof))) (fun u => rm_Wu h a cI cL u)) 0 0 := by
  refine rg_of prog_8_method_33_code 2 (some .int) (by decide) rfl (Nat.le_of_ble_eq_true rfl) ?_
  intro p e R s m args below meth c Q A H locs ls hR hQ hx hb hml hr hts hown hlk hnm hP hK hD hA hS hl
  have hl : lv_has ls 2 [(0, .ref h), (1, .int x)] := hl
  have hts : ∀ w ∈ rg_tbl, w.before args s = true := fun w h => hts w (List.mem_cons_of_mem _ h)
  have hok := hrep.1
  have hn1 : 1 ≤ n := hok.1
  have hn60 : n ≤ 60 := hok.2.1
  have hb4 : b < 4 := hok.2.2.2.2.2.2.2.1
  have hTb : T b < n := (hok.2.2.2.2.2.2.1 b hb4).1
  have hti : ti b = nI (T b) := (hrep.2.2.2.2.2.2 b hb4).1
  have hma : ma b = nI (U b).length := (hrep.2.2.2.2.2.2 b hb4).2.1
  refine lv_aload_n hx hb dM_base_0 rfl (lv_at hl 0 rfl) ?_
  refine lv_iload_n hx hb dM_base_1 rfl (lv_at hl 1 rfl) ?_
  refine rg_calli hD hS hA (va_runS (As := [.int x]) (rest := [.ref h]) ⟨hx, hb, hml, hown, hts⟩ (c_rm_isBranch x _) (cwS 1 hts (rg_gS tw_715 tw_716 tw_5 tw_717) rfl rfl rfl (by decide +kernel) ⟨by rw [hR]; exact Nat.le_of_ble_eq_true rfl, by rw [hR]; exact Nat.le_of_ble_eq_true rfl⟩) (rg_preS rfl hK hP hD) rfl rfl hl.1 rfl (lv_room (Nat.le_of_ble_eq_true rfl)) dM_base_2 ⟨Nat.zero_le _, Nat.zero_le _⟩) (fun r1 u2 H locs hw3 hP hD hS => ?_)
  subst hw3
  have hP : va_P (dC, dI) rg_cl (rm_W h a cI cL cod (nI n) (nI b) cof mad nu co se li le fi sc ti un ma dr fr to en) H := hP
  have hD : va_D A (rm_W h a cI cL cod (nI n) (nI b) cof mad nu co se li le fi sc ti un ma dr fr to en) := hD
  refine rg_ifz_eq (tgt := 12) hx hb dM_base_5 (by decide) (fun h4 => ?_) (fun h4 => absurd (hB.symm.trans h4) (by decide))
  refine lv_iconst (v := nI 1) hx hb dM_base_12 (by decide) ?_
  refine va_put (D := (dC, dI)) (ci := 0) (v := .int (nI 1)) (ty := .int) (C := "RevisionGroveModel") (T := TM) (N := 19) hx hb hts inM tyM tyM_ok nmM hown hK hP hD hS 0 rfl rfl 0 (by decide) (hts _ tw_601) (fun _ h9 => h9) rfl (by decide +kernel) rfl rfl (Nat.le_of_ble_eq_true rfl) dM_base_13 (fun H locs hP hD hS => ?_)
  have hP : va_P (dC, dI) rg_cl (rm_W h a cI cL (nI 1) (nI n) (nI b) cof mad nu co se li le fi sc ti un ma dr fr to en) H := hP
  have hD : va_D A (rm_W h a cI cL (nI 1) (nI n) (nI b) cof mad nu co se li le fi sc ti un ma dr fr to en) := hD
  refine lv_aload_n hx hb dM_base_16 rfl (lv_at hl 0 rfl) ?_
  refine va_get (D := (dC, dI)) (ci := 0) (C := "RevisionGroveModel") (T := TM) (N := 19) hx hb hts inM hown hK hP 0 rfl rfl 0 (by decide) (hts _ tw_601) (fun _ h9 => h9) rfl dM_base_17 ?_
  refine rg_ifN_ne (tgt := 40) hx hb dM_base_20 (by decide) (by decide) (fun h5 => ?_) (fun h5 => by exfalso; omega)
  refine lv_iconst (v := nI 0) hx hb dM_base_40 (by decide) ?_
  rw [hQ]
  exact rg_iret hx hb hr hlk hK hP hD hS dM_base_41 (nI 1, nI n, nI b, cof, mad, nu, co, se, li, le, fi, sc, ti, un, ma, dr, fr, to, en) rfl (⟨hrep, rfl, rfl⟩)
theorem c_rm_base {l : Launch} {dC : Nat → ClassId} {dI : Nat → Nat → Nat} {h : Nat} {a : Nat → Nat} {cI cL : ClassId} {cod : Int32} {cof : Int32} {mad : Int32} {nu : Nat → Int32} {co : Nat → Int64} {se : Nat → Int32} {li : Nat → Int32} {le : Nat → Int32} {fi : Nat → Int32} {sc : Nat → Int32} {ti : Nat → Int32} {un : Nat → Int32} {ma : Nat → Int32} {dr : Nat → Int32} {fr : Nat → Int32} {to : Nat → Int32} {en : Nat → Int32} (n b : Nat) (Rr : Nat → rg_R) (P1 P2 : Nat → Int32) (T : Nat → Nat) (U : Nat → List Nat) (x : Int32) (hrep : rm_Rep (nI n) (nI b) cof nu co se li le fi sc ti un ma (n, Rr, P1, P2, T, U, b, cof)) : rg_M l yM_base (Cond.code yM_base prog_8_method_33_code 2 (some .int) :: rg_tbl) { frames := 2, cells := 0, slots := 0, locals := 50 } (dC, dI) rg_cl [(cI, .int), (cL, .long)] (rm_W h a cI cL cod (nI n) (nI b) cof mad nu co se li le fi sc ti un ma dr fr to en) [.ref h, .int x] (rg_QI (dC, dI) rg_cl [(cI, .int), (cL, .long)] (S := rm_S) (rm_Po (rg_oBase (n, Rr, P1, P2, T, U, b, cof) x)) (fun u => rm_Wu h a cI cL u)) 0 0 := by
  unfold rg_oBase
  cases hB : rg_isB x with
  | false => exact c_rm_base_bad n b Rr P1 P2 T U x hB hrep
  | true =>
    obtain ⟨j, hj, rfl⟩ := rg_isB_of hB
    rw [nI_clamp (by omega)]
    exact c_rm_base_ok n b Rr P1 P2 T U j hj hrep
