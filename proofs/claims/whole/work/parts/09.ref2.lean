set_option maxHeartbeats 4000000 in
set_option maxRecDepth 100000 in
theorem c_rm_sameList {l : Launch} {dC : Nat → ClassId} {dI : Nat → Nat → Nat} {h : Nat} {a : Nat → Nat} {cI cL : ClassId} {cod : Int32} {cnt : Int32} {bra : Int32} {cof : Int32} {mad : Int32} {nu : Nat → Int32} {co : Nat → Int64} {se : Nat → Int32} {li : Nat → Int32} {le : Nat → Int32} {fi : Nat → Int32} {sc : Nat → Int32} {ti : Nat → Int32} {un : Nat → Int32} {ma : Nat → Int32} {dr : Nat → Int32} {fr : Nat → Int32} {to : Nat → Int32} {en : Nat → Int32} (r q f : Nat) (hr6 : r < 61) (hq6 : q < 61) (hf2 : f < 2) (x y : List Int32) (hx8 : x.length ≤ 8) (hlx : le (2 * r + f) = nI x.length) (hcx : ∀ k, k < x.length → li (16 * r + 8 * f + k) = x.getD k 0) (hy8 : y.length ≤ 8) (hly : le (2 * q + f) = nI y.length) (hcy : ∀ k, k < y.length → li (16 * q + 8 * f + k) = y.getD k 0) : rg_M l yM_sameList (Cond.code yM_sameList prog_8_method_6_code 6 (some .boolean) :: rg_tbl) { frames := 0, cells := 0, slots := 0, locals := 0 } (dC, dI) rg_cl [(cI, .int), (cL, .long)] (rm_W h a cI cL cod cnt bra cof mad nu co se li le fi sc ti un ma dr fr to en) [.ref h, .int (nI r), .int (nI q), .int (nI f)] (rg_QI (dC, dI) rg_cl [(cI, .int), (cL, .long)] (S := Unit) (fun z _ => z = bif decide (x = y) then 1 else 0) (fun _ => rm_W h a cI cL cod cnt bra cof mad nu co se li le fi sc ti un ma dr fr to en)) 0 0 := by
  refine rg_of prog_8_method_6_code 6 (some .boolean) (by decide) rfl (Nat.le_of_ble_eq_true rfl) ?_
  intro p e R s m args below meth c Q A H locs ls hR hQ hx hb hml hr hts hown hlk hnm hP hK hD hA hS hl
  have hl : lv_has ls 6 [(0, .ref h), (1, .int (nI r)), (2, .int (nI q)), (3, .int (nI f))] := hl
  have hts : ∀ w ∈ rg_tbl, w.before args s = true := fun w h => hts w (List.mem_cons_of_mem _ h)
  refine lv_aload_n hx hb dM_sameList_0 rfl (lv_at hl 0 rfl) ?_
  refine va_get (D := (dC, dI)) (ci := 0) (C := "RevisionGroveModel") (T := TM) (N := 19) hx hb hts inM hown hK hP 0 rfl rfl 6 (by decide) (hts _ tw_607) (fun _ h9 => h9) rfl dM_sameList_1 ?_
  refine lv_iconst (v := nI 2) hx hb dM_sameList_4 (by decide) ?_
  refine lv_iload_n hx hb dM_sameList_5 rfl (lv_at hl 1 rfl) ?_
  refine rg_imul hx hb dM_sameList_6 ?_
  refine lv_iload_n hx hb dM_sameList_7 rfl (lv_at hl 3 rfl) ?_
  refine rg_iadd hx hb dM_sameList_8 ?_
  refine rg_iald hx hb hK hP 5 0 rfl rfl (by decide) (by omega) dM_sameList_9 ?_
  refine rg_top (show (.int (le (2 * r + f)) : Value) = .int (nI x.length) by rw [hlx]) ?_
  refine lv_aload_n hx hb dM_sameList_10 rfl (lv_at hl 0 rfl) ?_
  refine va_get (D := (dC, dI)) (ci := 0) (C := "RevisionGroveModel") (T := TM) (N := 19) hx hb hts inM hown hK hP 0 rfl rfl 6 (by decide) (hts _ tw_607) (fun _ h9 => h9) rfl dM_sameList_11 ?_
  refine lv_iconst (v := nI 2) hx hb dM_sameList_14 (by decide) ?_
  refine lv_iload_n hx hb dM_sameList_15 rfl (lv_at hl 2 rfl) ?_
  refine rg_imul hx hb dM_sameList_16 ?_
  refine lv_iload_n hx hb dM_sameList_17 rfl (lv_at hl 3 rfl) ?_
  refine rg_iadd hx hb dM_sameList_18 ?_
  refine rg_iald hx hb hK hP 5 0 rfl rfl (by decide) (by omega) dM_sameList_19 ?_
  refine rg_top (show (.int (le (2 * q + f)) : Value) = .int (nI y.length) by rw [hly]) ?_
  have J20 : ∀ v9 : Bool, v9 = (decide (x.length = y.length)) → W p l e R s m args below meth c H locs 0 0 Q (F0 m 28 ls [.int (bif v9 then 1 else 0)]) := by
    intro v9 hv9
    subst hv9
    refine lv_istore (lv' := [(4, .int (bif (decide (x.length = y.length)) then 1 else 0)), (0, .ref h), (1, .int (nI r)), (2, .int (nI q)), (3, .int (nI f))]) hx hb dM_sameList_28 hl (by decide) rfl (fun ls hl => ?_)
    refine lv_iconst (v := nI 0) hx hb dM_sameList_30 (by decide) ?_
    refine lv_istore (lv' := [(5, .int (nI 0)), (4, .int (bif (decide (x.length = y.length)) then 1 else 0)), (0, .ref h), (1, .int (nI r)), (2, .int (nI q)), (3, .int (nI f))]) hx hb dM_sameList_31 hl (by decide) rfl (fun ls hl => ?_)
    have lp33 : ∀ (fuel : Nat) (k : Nat) (bb : Bool) (H : Heap) (locs : List Loc) (ls : Array Slot), x.length + 1 - k < fuel → k ≤ x.length → (bb = true → x.length = y.length ∧ ∀ j, j < k → x.getD j 0 = y.getD j 0) → (bb = false → ¬ x = y) → va_P (dC, dI) rg_cl (rm_W h a cI cL cod cnt bra cof mad nu co se li le fi sc ti un ma dr fr to en) H → va_D A (rm_W h a cI cL cod cnt bra cof mad nu co se li le fi sc ti un ma dr fr to en) → va_S A s.heap H locs → lv_has ls 6 [(0, .ref h), (1, .int (nI r)), (2, .int (nI q)), (3, .int (nI f)), (4, .int (bif bb then 1 else 0)), (5, .int (nI k))] → W p l e R s m args below meth c H locs 0 0 Q (F0 m 33 ls []) := by
      intro fuel
      induction fuel with
      | zero => intro k bb H locs ls hf; exact absurd hf (Nat.not_lt_zero _)
      | succ fuel ih33 =>
        intro k bb H locs ls hfu33 hkn hb1 hb0 hP hD hS hl
        refine lv_iload hx hb dM_sameList_33 (lv_at hl 5 rfl) ?_
        refine lv_aload_n hx hb dM_sameList_35 rfl (lv_at hl 0 rfl) ?_
        refine va_get (D := (dC, dI)) (ci := 0) (C := "RevisionGroveModel") (T := TM) (N := 19) hx hb hts inM hown hK hP 0 rfl rfl 6 (by decide) (hts _ tw_607) (fun _ h9 => h9) rfl dM_sameList_36 ?_
        refine lv_iconst (v := nI 2) hx hb dM_sameList_39 (by decide) ?_
        refine lv_iload_n hx hb dM_sameList_40 rfl (lv_at hl 1 rfl) ?_
        refine rg_imul hx hb dM_sameList_41 ?_
        refine lv_iload_n hx hb dM_sameList_42 rfl (lv_at hl 3 rfl) ?_
        refine rg_iadd hx hb dM_sameList_43 ?_
        refine rg_iald hx hb hK hP 5 0 rfl rfl (by decide) (by omega) dM_sameList_44 ?_
        refine rg_top (show (.int (le (2 * r + f)) : Value) = .int (nI x.length) by rw [hlx]) ?_
        refine rg_icmp_ge (tgt := 103) hx hb dM_sameList_45 (by decide) (by omega) (by omega) (fun h1 => ?_) (fun h1 => ?_)
        · refine lv_iload hx hb dM_sameList_103 (lv_at hl 4 rfl) ?_
          rw [hQ]
          exact rg_zret hx hb hr hlk hK hP hD hS (rg_b01 _) dM_sameList_105 () rfl (rg_same_end h1 hb1 hb0)
        · refine lv_iload hx hb dM_sameList_48 (lv_at hl 4 rfl) ?_
          refine rg_ifz_eq (tgt := 103) hx hb dM_sameList_50 (by decide) (fun h2 => ?_) (fun h2 => ?_)
          · refine lv_iload hx hb dM_sameList_103 (lv_at hl 4 rfl) ?_
            rw [hQ]
            exact rg_zret hx hb hr hlk hK hP hD hS (rg_b01 _) dM_sameList_105 () rfl (rg_same_f h2 hb0)
          · have hle := (hb1 h2).1
            have hka := hcx k (by omega)
            have hkb := hcy k (by omega)
            have hB := h2
            refine lv_aload_n hx hb dM_sameList_53 rfl (lv_at hl 0 rfl) ?_
            refine va_get (D := (dC, dI)) (ci := 0) (C := "RevisionGroveModel") (T := TM) (N := 19) hx hb hts inM hown hK hP 0 rfl rfl 5 (by decide) (hts _ tw_606) (fun _ h9 => h9) rfl dM_sameList_54 ?_
            refine lv_bipush (v := nI 16) hx hb dM_sameList_57 (by decide) ?_
            refine lv_iload_n hx hb dM_sameList_59 rfl (lv_at hl 1 rfl) ?_
            refine rg_imul hx hb dM_sameList_60 ?_
            refine lv_bipush (v := nI 8) hx hb dM_sameList_61 (by decide) ?_
            refine lv_iload_n hx hb dM_sameList_63 rfl (lv_at hl 3 rfl) ?_
            refine rg_imul hx hb dM_sameList_64 ?_
            refine rg_iadd hx hb dM_sameList_65 ?_
            refine lv_iload hx hb dM_sameList_66 (lv_at hl 5 rfl) ?_
            refine rg_iadd hx hb dM_sameList_68 ?_
            refine rg_iald hx hb hK hP 4 0 rfl rfl (by decide) (by omega) dM_sameList_69 ?_
            refine rg_top (show (.int (li (16 * r + 8 * f + k)) : Value) = .int (x.getD k 0) by rw [hka]) ?_
            refine lv_aload_n hx hb dM_sameList_70 rfl (lv_at hl 0 rfl) ?_
            refine va_get (D := (dC, dI)) (ci := 0) (C := "RevisionGroveModel") (T := TM) (N := 19) hx hb hts inM hown hK hP 0 rfl rfl 5 (by decide) (hts _ tw_606) (fun _ h9 => h9) rfl dM_sameList_71 ?_
            refine lv_bipush (v := nI 16) hx hb dM_sameList_74 (by decide) ?_
            refine lv_iload_n hx hb dM_sameList_76 rfl (lv_at hl 2 rfl) ?_
            refine rg_imul hx hb dM_sameList_77 ?_
            refine lv_bipush (v := nI 8) hx hb dM_sameList_78 (by decide) ?_
            refine lv_iload_n hx hb dM_sameList_80 rfl (lv_at hl 3 rfl) ?_
            refine rg_imul hx hb dM_sameList_81 ?_
            refine rg_iadd hx hb dM_sameList_82 ?_
            refine lv_iload hx hb dM_sameList_83 (lv_at hl 5 rfl) ?_
            refine rg_iadd hx hb dM_sameList_85 ?_
            refine rg_iald hx hb hK hP 4 0 rfl rfl (by decide) (by omega) dM_sameList_86 ?_
            refine rg_top (show (.int (li (16 * q + 8 * f + k)) : Value) = .int (y.getD k 0) by rw [hkb]) ?_
            have J87 : ∀ v9 : Bool, v9 = (decide (x.getD k 0 = y.getD k 0)) → W p l e R s m args below meth c H locs 0 0 Q (F0 m 95 ls [.int (bif v9 then 1 else 0)]) := by
              intro v9 hv9
              subst hv9
              refine lv_istore (lv' := [(4, .int (bif (decide (x.getD k 0 = y.getD k 0)) then 1 else 0)), (0, .ref h), (1, .int (nI r)), (2, .int (nI q)), (3, .int (nI f)), (5, .int (nI k))]) hx hb dM_sameList_95 hl (by decide) rfl (fun ls hl => ?_)
              refine lv_iinc (k := 5) (v := nI (k + 1)) (lv' := [(5, .int (nI (k + 1))), (4, .int (bif (decide (x.getD k 0 = y.getD k 0)) then 1 else 0)), (0, .ref h), (1, .int (nI r)), (2, .int (nI q)), (3, .int (nI f))]) hx hb dM_sameList_97 hl rfl (nI_1 _) (by decide) rfl (fun ls hl => ?_)
              refine lv_goto (tgt := 33) hx hb dM_sameList_100 (by decide) ?_
              exact ih33 (k + 1) (decide (x.getD k 0 = y.getD k 0)) _ _ _ (by omega) (by omega) (fun h => ⟨hle, lt_s (hb1 hB).2 (of_decide_eq_true h)⟩) (fun h hxy => of_decide_eq_false h (by rw [hxy])) hP hD hS (lv_sub hl [2, 3, 4, 5, 1, 0] rfl)
            refine lv_icmp_ne (tgt := 94) hx hb dM_sameList_87 (by decide) (fun h3 => ?_) (fun h3 => ?_)
            · refine lv_iconst (v := nI 0) hx hb dM_sameList_94 (by decide) ?_
              exact J87 false ((decide_eq_false h3).symm)
            · refine lv_iconst (v := nI 1) hx hb dM_sameList_90 (by decide) ?_
              refine lv_goto (tgt := 95) hx hb dM_sameList_91 (by decide) ?_
              exact J87 true ((decide_eq_true h3).symm)
    exact lp33 _ 0 (decide (x.length = y.length)) _ _ _ (Nat.lt_succ_self _) (Nat.zero_le _) (fun h => ⟨of_decide_eq_true h, fun j hj => absurd hj (Nat.not_lt_zero j)⟩) (fun h hxy => of_decide_eq_false h (by rw [hxy])) hP hD hS (lv_sub hl [2, 3, 4, 5, 1, 0] rfl)
  refine rg_icmp_ne (tgt := 27) hx hb dM_sameList_20 (by decide) (by omega) (by omega) (fun h4 => ?_) (fun h4 => ?_)
  · refine lv_iconst (v := nI 0) hx hb dM_sameList_27 (by decide) ?_
    exact J20 false ((decide_eq_false h4).symm)
  · refine lv_iconst (v := nI 1) hx hb dM_sameList_23 (by decide) ?_
    refine lv_goto (tgt := 28) hx hb dM_sameList_24 (by decide) ?_
    exact J20 true ((decide_eq_true h4).symm)
set_option maxHeartbeats 4000000 in
set_option maxRecDepth 100000 in
theorem c_rm_difference {l : Launch} {dC : Nat → ClassId} {dI : Nat → Nat → Nat} {h : Nat} {a : Nat → Nat} {cI cL : ClassId} {cod : Int32} {cnt : Int32} {bra : Int32} {cof : Int32} {mad : Int32} {nu : Nat → Int32} {co : Nat → Int64} {se : Nat → Int32} {li : Nat → Int32} {le : Nat → Int32} {fi : Nat → Int32} {sc : Nat → Int32} {ti : Nat → Int32} {un : Nat → Int32} {ma : Nat → Int32} {dr : Nat → Int32} {fr : Nat → Int32} {to : Nat → Int32} {en : Nat → Int32} (r q : Nat) (hr6 : r < 61) (hq6 : q < 61) (X Y : rg_R) (hX : rg_MR nu co se le li r X) (hY : rg_MR nu co se le li q Y) : rg_M l yM_difference (Cond.code yM_difference prog_8_method_7_code 5 (some .int) :: rg_tbl) { frames := 1, cells := 0, slots := 0, locals := 25 } (dC, dI) rg_cl [(cI, .int), (cL, .long)] (rm_W h a cI cL cod cnt bra cof mad nu co se li le fi sc ti un ma dr fr to en) [.ref h, .int (nI r), .int (nI q)] (rg_QI (dC, dI) rg_cl [(cI, .int), (cL, .long)] (S := Unit) (fun z _ => z = rg_dif X Y) (fun _ => rm_W h a cI cL cod cnt bra cof mad nu co se li le fi sc ti un ma dr fr to en)) 0 0 := by
  refine rg_of prog_8_method_7_code 5 (some .int) (by decide) rfl (Nat.le_of_ble_eq_true rfl) ?_
  intro p e R s m args below meth c Q A H locs ls hR hQ hx hb hml hr hts hown hlk hnm hP hK hD hA hS hl
  have hl : lv_has ls 5 [(0, .ref h), (1, .int (nI r)), (2, .int (nI q))] := hl
  have hts : ∀ w ∈ rg_tbl, w.before args s = true := fun w h => hts w (List.mem_cons_of_mem _ h)
  refine lv_iconst (v := nI 0) hx hb dM_difference_0 (by decide) ?_
  refine lv_istore_n (lv' := [(3, .int (nI 0)), (0, .ref h), (1, .int (nI r)), (2, .int (nI q))]) hx hb dM_difference_1 rfl hl (by decide) rfl (fun ls hl => ?_)
  refine lv_iconst (v := nI 0) hx hb dM_difference_2 (by decide) ?_
  refine lv_istore (lv' := [(4, .int (nI 0)), (3, .int (nI 0)), (0, .ref h), (1, .int (nI r)), (2, .int (nI q))]) hx hb dM_difference_3 hl (by decide) rfl (fun ls hl => ?_)
  have lp5 : ∀ (fuel : Nat) (f : Nat) (H : Heap) (locs : List Loc) (ls : Array Slot), 2 - f < fuel → f ≤ 2 → va_P (dC, dI) rg_cl (rm_W h a cI cL cod cnt bra cof mad nu co se li le fi sc ti un ma dr fr to en) H → va_D A (rm_W h a cI cL cod cnt bra cof mad nu co se li le fi sc ti un ma dr fr to en) → va_S A s.heap H locs → lv_has ls 5 [(0, .ref h), (1, .int (nI r)), (2, .int (nI q)), (3, .int (rg_difK X Y f)), (4, .int (nI f))] → W p l e R s m args below meth c H locs 0 0 Q (F0 m 5 ls []) := by
    intro fuel
    induction fuel with
    | zero => intro f H locs ls hf; exact absurd hf (Nat.not_lt_zero _)
    | succ fuel ih5 =>
      intro f H locs ls hfu5 hf2 hP hD hS hl
      refine lv_iload hx hb dM_difference_5 (lv_at hl 4 rfl) ?_
      refine lv_iconst (v := nI 2) hx hb dM_difference_7 (by decide) ?_
      refine rg_icmp_ge (tgt := 150) hx hb dM_difference_8 (by decide) (by omega) (by omega) (fun h1 => ?_) (fun h1 => ?_)
      · refine lv_iload_n hx hb dM_difference_150 rfl (lv_at hl 3 rfl) ?_
        obtain rfl : f = 2 := by omega
        rw [hQ]
        exact rg_iret hx hb hr hlk hK hP hD hS dM_difference_151 () rfl rfl
      · obtain ⟨x1, x2, x3, x4, x5, x6⟩ := hX f (by omega)
        obtain ⟨y1, y2, y3, y4, y5, y6⟩ := hY f (by omega)
        refine lv_iload_n hx hb dM_difference_11 rfl (lv_at hl 3 rfl) ?_
        refine lv_aload_n hx hb dM_difference_12 rfl (lv_at hl 0 rfl) ?_
        refine va_get (D := (dC, dI)) (ci := 0) (C := "RevisionGroveModel") (T := TM) (N := 19) hx hb hts inM hown hK hP 0 rfl rfl 2 (by decide) (hts _ tw_603) (fun _ h9 => h9) rfl dM_difference_13 ?_
        refine lv_iconst (v := nI 2) hx hb dM_difference_16 (by decide) ?_
        refine lv_iload_n hx hb dM_difference_17 rfl (lv_at hl 1 rfl) ?_
        refine rg_imul hx hb dM_difference_18 ?_
        refine lv_iload hx hb dM_difference_19 (lv_at hl 4 rfl) ?_
        refine rg_iadd hx hb dM_difference_21 ?_
        refine rg_iald hx hb hK hP 1 0 rfl rfl (by decide) (by omega) dM_difference_22 ?_
        refine rg_top (show (.int (nu (2 * r + f)) : Value) = .int (X.1 f) by rw [x1]) ?_
        refine lv_aload_n hx hb dM_difference_23 rfl (lv_at hl 0 rfl) ?_
        refine va_get (D := (dC, dI)) (ci := 0) (C := "RevisionGroveModel") (T := TM) (N := 19) hx hb hts inM hown hK hP 0 rfl rfl 2 (by decide) (hts _ tw_603) (fun _ h9 => h9) rfl dM_difference_24 ?_
        refine lv_iconst (v := nI 2) hx hb dM_difference_27 (by decide) ?_
        refine lv_iload_n hx hb dM_difference_28 rfl (lv_at hl 2 rfl) ?_
        refine rg_imul hx hb dM_difference_29 ?_
        refine lv_iload hx hb dM_difference_30 (lv_at hl 4 rfl) ?_
        refine rg_iadd hx hb dM_difference_32 ?_
        refine rg_iald hx hb hK hP 1 0 rfl rfl (by decide) (by omega) dM_difference_33 ?_
        refine rg_top (show (.int (nu (2 * q + f)) : Value) = .int (Y.1 f) by rw [y1]) ?_
        have J34 : ∀ v9 : Int32, v9 = (bif decide (X.1 f = Y.1 f) then nI 0 else nI 1 <<< (nI f &&& 31)) → W p l e R s m args below meth c H locs 0 0 Q (F0 m 45 ls [.int v9, .int (rg_difK X Y f)]) := by
          intro v9 hv9
          subst hv9
          refine lv_ior hx hb dM_difference_45 ?_
          refine lv_istore_n (lv' := [(3, .int ((rg_difK X Y f) ||| (bif decide (X.1 f = Y.1 f) then nI 0 else nI 1 <<< (nI f &&& 31)))), (0, .ref h), (1, .int (nI r)), (2, .int (nI q)), (4, .int (nI f))]) hx hb dM_difference_46 rfl hl (by decide) rfl (fun ls hl => ?_)
          refine lv_iload_n hx hb dM_difference_47 rfl (lv_at hl 0 rfl) ?_
          refine lv_aload_n hx hb dM_difference_48 rfl (lv_at hl 1 rfl) ?_
          refine va_get (D := (dC, dI)) (ci := 0) (C := "RevisionGroveModel") (T := TM) (N := 19) hx hb hts inM hown hK hP 0 rfl rfl 3 (by decide) (hts _ tw_604) (fun _ h9 => h9) rfl dM_difference_49 ?_
          refine lv_iconst (v := nI 2) hx hb dM_difference_52 (by decide) ?_
          refine lv_iload_n hx hb dM_difference_53 rfl (lv_at hl 2 rfl) ?_
          refine rg_imul hx hb dM_difference_54 ?_
          refine lv_iload hx hb dM_difference_55 (lv_at hl 4 rfl) ?_
          refine rg_iadd hx hb dM_difference_57 ?_
          refine rg_lald hx hb hK hP 2 1 rfl rfl (by decide) (by omega) dM_difference_58 ?_
          refine rg_top (show (.long (co (2 * r + f)) : Value) = .long (X.2.1 f) by rw [x2]) ?_
          refine lv_aload_n hx hb dM_difference_59 rfl (lv_at hl 1 rfl) ?_
          refine va_get (D := (dC, dI)) (ci := 0) (C := "RevisionGroveModel") (T := TM) (N := 19) hx hb hts inM hown hK hP 0 rfl rfl 3 (by decide) (hts _ tw_604) (fun _ h9 => h9) rfl dM_difference_60 ?_
          refine lv_iconst (v := nI 2) hx hb dM_difference_63 (by decide) ?_
          refine lv_iload_n hx hb dM_difference_64 rfl (lv_at hl 3 rfl) ?_
          refine rg_imul hx hb dM_difference_65 ?_
          refine lv_iload hx hb dM_difference_66 (lv_at hl 4 rfl) ?_
          refine rg_iadd hx hb dM_difference_68 ?_
          refine rg_lald hx hb hK hP 2 1 rfl rfl (by decide) (by omega) dM_difference_69 ?_
          refine rg_top (show (.long (co (2 * q + f)) : Value) = .long (Y.2.1 f) by rw [y2]) ?_
          refine W.lcmp hx hb dM_difference_70 ?_
          have J71 : ∀ v9 : Int32, v9 = (bif decide (X.2.1 f = Y.2.1 f) then nI 0 else nI 4 <<< (nI f &&& 31)) → W p l e R s m args below meth c H locs 0 0 Q (F0 m 82 ls [.int v9, .int ((rg_difK X Y f) ||| (bif decide (X.1 f = Y.1 f) then nI 0 else nI 1 <<< (nI f &&& 31)))]) := by
            intro v9 hv9
            subst hv9
            refine lv_ior hx hb dM_difference_82 ?_
            refine lv_istore_n (lv' := [(3, .int (((rg_difK X Y f) ||| (bif decide (X.1 f = Y.1 f) then nI 0 else nI 1 <<< (nI f &&& 31))) ||| (bif decide (X.2.1 f = Y.2.1 f) then nI 0 else nI 4 <<< (nI f &&& 31)))), (0, .ref h), (1, .int (nI r)), (2, .int (nI q)), (4, .int (nI f))]) hx hb dM_difference_83 rfl hl (by decide) rfl (fun ls hl => ?_)
            refine lv_iload_n hx hb dM_difference_84 rfl (lv_at hl 0 rfl) ?_
            refine lv_aload_n hx hb dM_difference_85 rfl (lv_at hl 1 rfl) ?_
            refine va_get (D := (dC, dI)) (ci := 0) (C := "RevisionGroveModel") (T := TM) (N := 19) hx hb hts inM hown hK hP 0 rfl rfl 4 (by decide) (hts _ tw_605) (fun _ h9 => h9) rfl dM_difference_86 ?_
            refine lv_iconst (v := nI 2) hx hb dM_difference_89 (by decide) ?_
            refine lv_iload_n hx hb dM_difference_90 rfl (lv_at hl 2 rfl) ?_
            refine rg_imul hx hb dM_difference_91 ?_
            refine lv_iload hx hb dM_difference_92 (lv_at hl 4 rfl) ?_
            refine rg_iadd hx hb dM_difference_94 ?_
            refine rg_iald hx hb hK hP 3 0 rfl rfl (by decide) (by omega) dM_difference_95 ?_
            refine rg_top (show (.int (se (2 * r + f)) : Value) = .int (X.2.2.1 f) by rw [x3]) ?_
            refine lv_aload_n hx hb dM_difference_96 rfl (lv_at hl 1 rfl) ?_
            refine va_get (D := (dC, dI)) (ci := 0) (C := "RevisionGroveModel") (T := TM) (N := 19) hx hb hts inM hown hK hP 0 rfl rfl 4 (by decide) (hts _ tw_605) (fun _ h9 => h9) rfl dM_difference_97 ?_
            refine lv_iconst (v := nI 2) hx hb dM_difference_100 (by decide) ?_
            refine lv_iload_n hx hb dM_difference_101 rfl (lv_at hl 3 rfl) ?_
            refine rg_imul hx hb dM_difference_102 ?_
            refine lv_iload hx hb dM_difference_103 (lv_at hl 4 rfl) ?_
            refine rg_iadd hx hb dM_difference_105 ?_
            refine rg_iald hx hb hK hP 3 0 rfl rfl (by decide) (by omega) dM_difference_106 ?_
            refine rg_top (show (.int (se (2 * q + f)) : Value) = .int (Y.2.2.1 f) by rw [y3]) ?_
            have J107 : ∀ v9 : Int32, v9 = (bif decide (X.2.2.1 f = Y.2.2.1 f) then nI 0 else nI 16 <<< (nI f &&& 31)) → W p l e R s m args below meth c H locs 0 0 Q (F0 m 119 ls [.int v9, .int (((rg_difK X Y f) ||| (bif decide (X.1 f = Y.1 f) then nI 0 else nI 1 <<< (nI f &&& 31))) ||| (bif decide (X.2.1 f = Y.2.1 f) then nI 0 else nI 4 <<< (nI f &&& 31)))]) := by
              intro v9 hv9
              subst hv9
              refine lv_ior hx hb dM_difference_119 ?_
              refine lv_istore_n (lv' := [(3, .int ((((rg_difK X Y f) ||| (bif decide (X.1 f = Y.1 f) then nI 0 else nI 1 <<< (nI f &&& 31))) ||| (bif decide (X.2.1 f = Y.2.1 f) then nI 0 else nI 4 <<< (nI f &&& 31))) ||| (bif decide (X.2.2.1 f = Y.2.2.1 f) then nI 0 else nI 16 <<< (nI f &&& 31)))), (0, .ref h), (1, .int (nI r)), (2, .int (nI q)), (4, .int (nI f))]) hx hb dM_difference_120 rfl hl (by decide) rfl (fun ls hl => ?_)
              refine lv_iload_n hx hb dM_difference_121 rfl (lv_at hl 0 rfl) ?_
              refine lv_aload_n hx hb dM_difference_122 rfl (lv_at hl 1 rfl) ?_
              refine lv_iload_n hx hb dM_difference_123 rfl (lv_at hl 2 rfl) ?_
              refine lv_iload_n hx hb dM_difference_124 rfl (lv_at hl 3 rfl) ?_
              refine lv_iload hx hb dM_difference_125 (lv_at hl 4 rfl) ?_
              refine rg_calli hD hS hA (va_runV (As := [.int (nI r), .int (nI q), .int (nI f)]) (rest := [.int ((((rg_difK X Y f) ||| (bif decide (X.1 f = Y.1 f) then nI 0 else nI 1 <<< (nI f &&& 31))) ||| (bif decide (X.2.1 f = Y.2.1 f) then nI 0 else nI 4 <<< (nI f &&& 31))) ||| (bif decide (X.2.2.1 f = Y.2.2.1 f) then nI 0 else nI 16 <<< (nI f &&& 31)))]) ⟨hx, hb, hml, hown, hts⟩ (c_rm_sameList r q f (by omega) (by omega) (by omega) (X.2.2.2 f) (Y.2.2.2 f) x4 x5 x6 y4 y5 y6 _) (cwV 3 hts (rg_gV tw_683 tw_685 ts_M_sameList tw_5 tw_686) rfl rfl rfl (by decide +kernel) ⟨by rw [hR]; exact Nat.le_of_ble_eq_true rfl, by rw [hR]; exact Nat.le_of_ble_eq_true rfl⟩) (rg_preV rfl hK hP hD (ci := 0) (q0 := 0) rfl rfl) rfl rfl hl.1 rfl (lv_room (Nat.le_of_ble_eq_true rfl)) dM_difference_127 ⟨Nat.zero_le _, Nat.zero_le _⟩) (fun r2 u3 H locs hw4 hP hD hS => ?_)
              subst hw4
              have hP : va_P (dC, dI) rg_cl (rm_W h a cI cL cod cnt bra cof mad nu co se li le fi sc ti un ma dr fr to en) H := hP
              have hD : va_D A (rm_W h a cI cL cod cnt bra cof mad nu co se li le fi sc ti un ma dr fr to en) := hD
              have J130 : ∀ v9 : Int32, v9 = (bif decide (X.2.2.2 f = Y.2.2.2 f) then nI 0 else nI 64 <<< (nI f &&& 31)) → W p l e R s m args below meth c H locs 0 0 Q (F0 m 142 ls [.int v9, .int ((((rg_difK X Y f) ||| (bif decide (X.1 f = Y.1 f) then nI 0 else nI 1 <<< (nI f &&& 31))) ||| (bif decide (X.2.1 f = Y.2.1 f) then nI 0 else nI 4 <<< (nI f &&& 31))) ||| (bif decide (X.2.2.1 f = Y.2.2.1 f) then nI 0 else nI 16 <<< (nI f &&& 31)))]) := by
                intro v9 hv9
                subst hv9
                refine lv_ior hx hb dM_difference_142 ?_
                refine lv_istore_n (lv' := [(3, .int (((((rg_difK X Y f) ||| (bif decide (X.1 f = Y.1 f) then nI 0 else nI 1 <<< (nI f &&& 31))) ||| (bif decide (X.2.1 f = Y.2.1 f) then nI 0 else nI 4 <<< (nI f &&& 31))) ||| (bif decide (X.2.2.1 f = Y.2.2.1 f) then nI 0 else nI 16 <<< (nI f &&& 31))) ||| (bif decide (X.2.2.2 f = Y.2.2.2 f) then nI 0 else nI 64 <<< (nI f &&& 31)))), (0, .ref h), (1, .int (nI r)), (2, .int (nI q)), (4, .int (nI f))]) hx hb dM_difference_143 rfl hl (by decide) rfl (fun ls hl => ?_)
                refine lv_iinc (k := 4) (v := nI (f + 1)) (lv' := [(4, .int (nI (f + 1))), (3, .int (((((rg_difK X Y f) ||| (bif decide (X.1 f = Y.1 f) then nI 0 else nI 1 <<< (nI f &&& 31))) ||| (bif decide (X.2.1 f = Y.2.1 f) then nI 0 else nI 4 <<< (nI f &&& 31))) ||| (bif decide (X.2.2.1 f = Y.2.2.1 f) then nI 0 else nI 16 <<< (nI f &&& 31))) ||| (bif decide (X.2.2.2 f = Y.2.2.2 f) then nI 0 else nI 64 <<< (nI f &&& 31)))), (0, .ref h), (1, .int (nI r)), (2, .int (nI q))]) hx hb dM_difference_144 hl rfl (nI_1 _) (by decide) rfl (fun ls hl => ?_)
                refine lv_goto (tgt := 5) hx hb dM_difference_147 (by decide) ?_
                exact ih5 (f + 1) _ _ _ (by omega) (by omega) hP hD hS (lv_sub hl [2, 3, 4, 1, 0] rfl)
              refine rg_ifz_eq (tgt := 137) hx hb dM_difference_130 (by decide) (fun h5 => ?_) (fun h5 => ?_)
              · refine lv_bipush (v := nI 64) hx hb dM_difference_137 (by decide) ?_
                refine lv_iload hx hb dM_difference_139 (lv_at hl 4 rfl) ?_
                refine lv_ishl hx hb dM_difference_141 ?_
                exact J130 _ (by rw [h5]; rfl)
              · refine lv_iconst (v := nI 0) hx hb dM_difference_133 (by decide) ?_
                refine lv_goto (tgt := 142) hx hb dM_difference_134 (by decide) ?_
                exact J130 _ (by rw [h5]; rfl)
            refine lv_icmp_eq (tgt := 118) hx hb dM_difference_107 (by decide) (fun h6 => ?_) (fun h6 => ?_)
            · refine lv_iconst (v := nI 0) hx hb dM_difference_118 (by decide) ?_
              exact J107 _ (by rw [decide_eq_true h6]; rfl)
            · refine lv_bipush (v := nI 16) hx hb dM_difference_110 (by decide) ?_
              refine lv_iload hx hb dM_difference_112 (lv_at hl 4 rfl) ?_
              refine lv_ishl hx hb dM_difference_114 ?_
              refine lv_goto (tgt := 119) hx hb dM_difference_115 (by decide) ?_
              exact J107 _ (by rw [decide_eq_false h6]; rfl)
          refine lv_if_eq (tgt := 81) hx hb dM_difference_71 (by decide) (fun h7 => ?_) (fun h7 => ?_)
          · refine lv_iconst (v := nI 0) hx hb dM_difference_81 (by decide) ?_
            exact J71 _ (by rw [decide_eq_true ((rg_cmp0 _ _).mp h7)]; rfl)
          · refine lv_iconst (v := nI 4) hx hb dM_difference_74 (by decide) ?_
            refine lv_iload hx hb dM_difference_75 (lv_at hl 4 rfl) ?_
            refine lv_ishl hx hb dM_difference_77 ?_
            refine lv_goto (tgt := 82) hx hb dM_difference_78 (by decide) ?_
            exact J71 _ (by rw [decide_eq_false (fun q9 => h7 ((rg_cmp0 _ _).mpr q9))]; rfl)
        refine lv_icmp_eq (tgt := 44) hx hb dM_difference_34 (by decide) (fun h8 => ?_) (fun h8 => ?_)
        · refine lv_iconst (v := nI 0) hx hb dM_difference_44 (by decide) ?_
          exact J34 _ (by rw [decide_eq_true h8]; rfl)
        · refine lv_iconst (v := nI 1) hx hb dM_difference_37 (by decide) ?_
          refine lv_iload hx hb dM_difference_38 (lv_at hl 4 rfl) ?_
          refine lv_ishl hx hb dM_difference_40 ?_
          refine lv_goto (tgt := 45) hx hb dM_difference_41 (by decide) ?_
          exact J34 _ (by rw [decide_eq_false h8]; rfl)
  exact lp5 _ 0 _ _ _ (Nat.lt_succ_self _) (by omega) hP hD hS (lv_sub hl [2, 3, 4, 1, 0] rfl)
