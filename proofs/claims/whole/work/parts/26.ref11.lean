set_option maxHeartbeats 4000000 in
set_option maxRecDepth 100000 in
theorem c_rm_choice {l : Launch} {dC : Nat → ClassId} {dI : Nat → Nat → Nat} {h : Nat} {a : Nat → Nat} {cI cL : ClassId} {cod : Int32} {cnt : Int32} {bra : Int32} {cof : Int32} {mad : Int32} {nu : Nat → Int32} {co : Nat → Int64} {se : Nat → Int32} {li : Nat → Int32} {le : Nat → Int32} {fi : Nat → Int32} {sc : Nat → Int32} {ti : Nat → Int32} {un : Nat → Int32} {ma : Nat → Int32} {dr : Nat → Int32} {fr : Nat → Int32} {to : Nat → Int32} {en : Nat → Int32} (xy xz yz : Bool) : rg_M l yM_choice (Cond.code yM_choice prog_8_method_24_code 3 (some .int) :: rg_tbl) { frames := 0, cells := 0, slots := 0, locals := 0 } (dC, dI) rg_cl [(cI, .int), (cL, .long)] (rm_W h a cI cL cod cnt bra cof mad nu co se li le fi sc ti un ma dr fr to en) [.int (bif xy then 1 else 0), .int (bif xz then 1 else 0), .int (bif yz then 1 else 0)] (rg_QI (dC, dI) rg_cl [(cI, .int), (cL, .long)] (S := Unit) (fun z _ => z = nI (rg_ch xy xz yz)) (fun _ => rm_W h a cI cL cod cnt bra cof mad nu co se li le fi sc ti un ma dr fr to en)) 0 0 := by
  refine rg_of prog_8_method_24_code 3 (some .int) (by decide) rfl (Nat.le_of_ble_eq_true rfl) ?_
  intro p e R s m args below meth c Q A H locs ls hR hQ hx hb hml hr hts hown hlk hnm hP hK hD hA hS hl
  have hl : lv_has ls 3 [(0, .int (bif xy then 1 else 0)), (1, .int (bif xz then 1 else 0)), (2, .int (bif yz then 1 else 0))] := hl
  have hts : ∀ w ∈ rg_tbl, w.before args s = true := fun w h => hts w (List.mem_cons_of_mem _ h)
  refine lv_iload_n hx hb dM_choice_0 rfl (lv_at hl 0 rfl) ?_
  refine rg_ifz_ne (tgt := 16) hx hb dM_choice_1 (by decide) (fun h1 => ?_) (fun h1 => ?_)
  · refine lv_iload_n hx hb dM_choice_16 rfl (lv_at hl 0 rfl) ?_
    refine rg_ifz_ne (tgt := 24) hx hb dM_choice_17 (by decide) (fun h2 => ?_) (fun h2 => ?_)
    · refine lv_iload_n hx hb dM_choice_24 rfl (lv_at hl 1 rfl) ?_
      refine rg_ifz_ne (tgt := 32) hx hb dM_choice_25 (by decide) (fun h3 => ?_) (fun h3 => ?_)
      · refine lv_iconst (v := nI 0) hx hb dM_choice_32 (by decide) ?_
        rw [hQ]
        exact rg_iret hx hb hr hlk hK hP hD hS dM_choice_33 () rfl (by clear hl; revert h1 h2 h3; cases xy <;> cases xz <;> cases yz <;> decide)
      · refine lv_iconst (v := nI 2) hx hb dM_choice_28 (by decide) ?_
        refine lv_goto (tgt := 33) hx hb dM_choice_29 (by decide) ?_
        rw [hQ]
        exact rg_iret hx hb hr hlk hK hP hD hS dM_choice_33 () rfl (by clear hl; revert h1 h2 h3; cases xy <;> cases xz <;> cases yz <;> decide)
    · refine lv_iconst (v := nI 1) hx hb dM_choice_20 (by decide) ?_
      refine lv_goto (tgt := 33) hx hb dM_choice_21 (by decide) ?_
      rw [hQ]
      exact rg_iret hx hb hr hlk hK hP hD hS dM_choice_33 () rfl (by clear hl; revert h1 h2; cases xy <;> cases xz <;> cases yz <;> decide)
  · refine lv_iload_n hx hb dM_choice_4 rfl (lv_at hl 1 rfl) ?_
    refine rg_ifz_ne (tgt := 16) hx hb dM_choice_5 (by decide) (fun h4 => ?_) (fun h4 => ?_)
    · refine lv_iload_n hx hb dM_choice_16 rfl (lv_at hl 0 rfl) ?_
      refine rg_ifz_ne (tgt := 24) hx hb dM_choice_17 (by decide) (fun h5 => ?_) (fun h5 => ?_)
      · refine lv_iload_n hx hb dM_choice_24 rfl (lv_at hl 1 rfl) ?_
        refine rg_ifz_ne (tgt := 32) hx hb dM_choice_25 (by decide) (fun h6 => ?_) (fun h6 => ?_)
        · refine lv_iconst (v := nI 0) hx hb dM_choice_32 (by decide) ?_
          rw [hQ]
          exact rg_iret hx hb hr hlk hK hP hD hS dM_choice_33 () rfl (by clear hl; revert h1 h4 h5 h6; cases xy <;> cases xz <;> cases yz <;> decide)
        · refine lv_iconst (v := nI 2) hx hb dM_choice_28 (by decide) ?_
          refine lv_goto (tgt := 33) hx hb dM_choice_29 (by decide) ?_
          rw [hQ]
          exact rg_iret hx hb hr hlk hK hP hD hS dM_choice_33 () rfl (by clear hl; revert h1 h4 h5 h6; cases xy <;> cases xz <;> cases yz <;> decide)
      · refine lv_iconst (v := nI 1) hx hb dM_choice_20 (by decide) ?_
        refine lv_goto (tgt := 33) hx hb dM_choice_21 (by decide) ?_
        rw [hQ]
        exact rg_iret hx hb hr hlk hK hP hD hS dM_choice_33 () rfl (by clear hl; revert h1 h4 h5; cases xy <;> cases xz <;> cases yz <;> decide)
    · refine lv_iload_n hx hb dM_choice_8 rfl (lv_at hl 2 rfl) ?_
      refine rg_ifz_ne (tgt := 16) hx hb dM_choice_9 (by decide) (fun h7 => ?_) (fun h7 => ?_)
      · refine lv_iload_n hx hb dM_choice_16 rfl (lv_at hl 0 rfl) ?_
        refine rg_ifz_ne (tgt := 24) hx hb dM_choice_17 (by decide) (fun h8 => ?_) (fun h8 => ?_)
        · refine lv_iload_n hx hb dM_choice_24 rfl (lv_at hl 1 rfl) ?_
          refine rg_ifz_ne (tgt := 32) hx hb dM_choice_25 (by decide) (fun h9 => ?_) (fun h9 => ?_)
          · refine lv_iconst (v := nI 0) hx hb dM_choice_32 (by decide) ?_
            rw [hQ]
            exact rg_iret hx hb hr hlk hK hP hD hS dM_choice_33 () rfl (by clear hl; revert h1 h4 h7 h8 h9; cases xy <;> cases xz <;> cases yz <;> decide)
          · refine lv_iconst (v := nI 2) hx hb dM_choice_28 (by decide) ?_
            refine lv_goto (tgt := 33) hx hb dM_choice_29 (by decide) ?_
            rw [hQ]
            exact rg_iret hx hb hr hlk hK hP hD hS dM_choice_33 () rfl (by clear hl; revert h1 h4 h7 h8 h9; cases xy <;> cases xz <;> cases yz <;> decide)
        · refine lv_iconst (v := nI 1) hx hb dM_choice_20 (by decide) ?_
          refine lv_goto (tgt := 33) hx hb dM_choice_21 (by decide) ?_
          rw [hQ]
          exact rg_iret hx hb hr hlk hK hP hD hS dM_choice_33 () rfl (by clear hl; revert h1 h4 h7 h8; cases xy <;> cases xz <;> cases yz <;> decide)
      · refine lv_iconst (v := nI 3) hx hb dM_choice_12 (by decide) ?_
        refine lv_goto (tgt := 33) hx hb dM_choice_13 (by decide) ?_
        rw [hQ]
        exact rg_iret hx hb hr hlk hK hP hD hS dM_choice_33 () rfl (by clear hl; revert h1 h4 h7; cases xy <;> cases xz <;> cases yz <;> decide)
set_option maxHeartbeats 4000000 in
set_option maxRecDepth 100000 in
theorem c_rm_mergeNumber {l : Launch} {dC : Nat → ClassId} {dI : Nat → Nat → Nat} {h : Nat} {a : Nat → Nat} {cI cL : ClassId} {cod : Int32} {bra : Int32} {cof : Int32} {mad : Int32} {nu : Nat → Int32} {co : Nat → Int64} {se : Nat → Int32} {li : Nat → Int32} {le : Nat → Int32} {fi : Nat → Int32} {sc : Nat → Int32} {ti : Nat → Int32} {un : Nat → Int32} {ma : Nat → Int32} {dr : Nat → Int32} {fr : Nat → Int32} {to : Nat → Int32} {en : Nat → Int32} (n f x y z s9 : Nat) (hn6 : n < 61) (hf2 : f < 2) (hx6 : x < 61) (hy6 : y < 61) (hz6 : z < 61) (hs3 : s9 < 3) (x9 y9 z9 : Int32) (hx9 : nu (2 * x + f) = x9) (hy9 : nu (2 * y + f) = y9) (hz9 : nu (2 * z + f) = z9) : rg_M l yM_mergeNumber (Cond.code yM_mergeNumber prog_8_method_25_code 8 none :: rg_tbl) { frames := 1, cells := 0, slots := 0, locals := 22 } (dC, dI) rg_cl [(cI, .int), (cL, .long)] (rm_W h a cI cL cod (nI n) bra cof mad nu co se li le fi sc ti un ma dr fr to en) [.ref h, .int (nI f), .int (nI x), .int (nI y), .int (nI z), .int (nI s9)] (rg_QV (dC, dI) rg_cl [(cI, .int), (cL, .long)] (S := Unit) (fun _ => True) (fun _ => rm_W h a cI cL cod (nI n) bra (cof ||| rg_cN (rg_ch (decide (x9 = y9)) (decide (x9 = z9)) (decide (y9 = z9))) f) mad (upd nu (2 * n + f) (rg_pick (rg_ch (decide (x9 = y9)) (decide (x9 = z9)) (decide (y9 = z9))) s9 x9 y9 z9)) co se li le fi sc ti un ma dr fr to en)) 0 0 := by
  refine rg_of prog_8_method_25_code 8 none (by decide) rfl (Nat.le_of_ble_eq_true rfl) ?_
  intro p e R s m args below meth c Q A H locs ls hR hQ hx hb hml hr hts hown hlk hnm hP hK hD hA hS hl
  have hl : lv_has ls 8 [(0, .ref h), (1, .int (nI f)), (2, .int (nI x)), (3, .int (nI y)), (4, .int (nI z)), (5, .int (nI s9))] := hl
  have hts : ∀ w ∈ rg_tbl, w.before args s = true := fun w h => hts w (List.mem_cons_of_mem _ h)
  refine lv_aload_n hx hb dM_mergeNumber_0 rfl (lv_at hl 0 rfl) ?_
  refine va_get (D := (dC, dI)) (ci := 0) (C := "RevisionGroveModel") (T := TM) (N := 19) hx hb hts inM hown hK hP 0 rfl rfl 2 (by decide) (hts _ tw_603) (fun _ h9 => h9) rfl dM_mergeNumber_1 ?_
  refine lv_iconst (v := nI 2) hx hb dM_mergeNumber_4 (by decide) ?_
  refine lv_iload_n hx hb dM_mergeNumber_5 rfl (lv_at hl 2 rfl) ?_
  refine rg_imul hx hb dM_mergeNumber_6 ?_
  refine lv_iload_n hx hb dM_mergeNumber_7 rfl (lv_at hl 1 rfl) ?_
  refine rg_iadd hx hb dM_mergeNumber_8 ?_
  refine rg_iald hx hb hK hP 1 0 rfl rfl (by decide) (by omega) dM_mergeNumber_9 ?_
  refine rg_top (show (.int (nu (2 * x + f)) : Value) = .int x9 by rw [hx9]) ?_
  refine lv_aload_n hx hb dM_mergeNumber_10 rfl (lv_at hl 0 rfl) ?_
  refine va_get (D := (dC, dI)) (ci := 0) (C := "RevisionGroveModel") (T := TM) (N := 19) hx hb hts inM hown hK hP 0 rfl rfl 2 (by decide) (hts _ tw_603) (fun _ h9 => h9) rfl dM_mergeNumber_11 ?_
  refine lv_iconst (v := nI 2) hx hb dM_mergeNumber_14 (by decide) ?_
  refine lv_iload_n hx hb dM_mergeNumber_15 rfl (lv_at hl 3 rfl) ?_
  refine rg_imul hx hb dM_mergeNumber_16 ?_
  refine lv_iload_n hx hb dM_mergeNumber_17 rfl (lv_at hl 1 rfl) ?_
  refine rg_iadd hx hb dM_mergeNumber_18 ?_
  refine rg_iald hx hb hK hP 1 0 rfl rfl (by decide) (by omega) dM_mergeNumber_19 ?_
  refine rg_top (show (.int (nu (2 * y + f)) : Value) = .int y9 by rw [hy9]) ?_
  have J20 : ∀ v9 : Bool, v9 = (decide (x9 = y9)) → W p l e R s m args below meth c H locs 0 0 Q (F0 m 28 ls [.int (bif v9 then 1 else 0)]) := by
    intro v9 hv9
    subst hv9
    refine lv_aload_n hx hb dM_mergeNumber_28 rfl (lv_at hl 0 rfl) ?_
    refine va_get (D := (dC, dI)) (ci := 0) (C := "RevisionGroveModel") (T := TM) (N := 19) hx hb hts inM hown hK hP 0 rfl rfl 2 (by decide) (hts _ tw_603) (fun _ h9 => h9) rfl dM_mergeNumber_29 ?_
    refine lv_iconst (v := nI 2) hx hb dM_mergeNumber_32 (by decide) ?_
    refine lv_iload_n hx hb dM_mergeNumber_33 rfl (lv_at hl 2 rfl) ?_
    refine rg_imul hx hb dM_mergeNumber_34 ?_
    refine lv_iload_n hx hb dM_mergeNumber_35 rfl (lv_at hl 1 rfl) ?_
    refine rg_iadd hx hb dM_mergeNumber_36 ?_
    refine rg_iald hx hb hK hP 1 0 rfl rfl (by decide) (by omega) dM_mergeNumber_37 ?_
    refine rg_top (show (.int (nu (2 * x + f)) : Value) = .int x9 by rw [hx9]) ?_
    refine lv_aload_n hx hb dM_mergeNumber_38 rfl (lv_at hl 0 rfl) ?_
    refine va_get (D := (dC, dI)) (ci := 0) (C := "RevisionGroveModel") (T := TM) (N := 19) hx hb hts inM hown hK hP 0 rfl rfl 2 (by decide) (hts _ tw_603) (fun _ h9 => h9) rfl dM_mergeNumber_39 ?_
    refine lv_iconst (v := nI 2) hx hb dM_mergeNumber_42 (by decide) ?_
    refine lv_iload hx hb dM_mergeNumber_43 (lv_at hl 4 rfl) ?_
    refine rg_imul hx hb dM_mergeNumber_45 ?_
    refine lv_iload_n hx hb dM_mergeNumber_46 rfl (lv_at hl 1 rfl) ?_
    refine rg_iadd hx hb dM_mergeNumber_47 ?_
    refine rg_iald hx hb hK hP 1 0 rfl rfl (by decide) (by omega) dM_mergeNumber_48 ?_
    refine rg_top (show (.int (nu (2 * z + f)) : Value) = .int z9 by rw [hz9]) ?_
    have J49 : ∀ v9 : Bool, v9 = (decide (x9 = z9)) → W p l e R s m args below meth c H locs 0 0 Q (F0 m 57 ls [.int (bif v9 then 1 else 0), .int (bif (decide (x9 = y9)) then 1 else 0)]) := by
      intro v9 hv9
      subst hv9
      refine lv_aload_n hx hb dM_mergeNumber_57 rfl (lv_at hl 0 rfl) ?_
      refine va_get (D := (dC, dI)) (ci := 0) (C := "RevisionGroveModel") (T := TM) (N := 19) hx hb hts inM hown hK hP 0 rfl rfl 2 (by decide) (hts _ tw_603) (fun _ h9 => h9) rfl dM_mergeNumber_58 ?_
      refine lv_iconst (v := nI 2) hx hb dM_mergeNumber_61 (by decide) ?_
      refine lv_iload_n hx hb dM_mergeNumber_62 rfl (lv_at hl 3 rfl) ?_
      refine rg_imul hx hb dM_mergeNumber_63 ?_
      refine lv_iload_n hx hb dM_mergeNumber_64 rfl (lv_at hl 1 rfl) ?_
      refine rg_iadd hx hb dM_mergeNumber_65 ?_
      refine rg_iald hx hb hK hP 1 0 rfl rfl (by decide) (by omega) dM_mergeNumber_66 ?_
      refine rg_top (show (.int (nu (2 * y + f)) : Value) = .int y9 by rw [hy9]) ?_
      refine lv_aload_n hx hb dM_mergeNumber_67 rfl (lv_at hl 0 rfl) ?_
      refine va_get (D := (dC, dI)) (ci := 0) (C := "RevisionGroveModel") (T := TM) (N := 19) hx hb hts inM hown hK hP 0 rfl rfl 2 (by decide) (hts _ tw_603) (fun _ h9 => h9) rfl dM_mergeNumber_68 ?_
      refine lv_iconst (v := nI 2) hx hb dM_mergeNumber_71 (by decide) ?_
      refine lv_iload hx hb dM_mergeNumber_72 (lv_at hl 4 rfl) ?_
      refine rg_imul hx hb dM_mergeNumber_74 ?_
      refine lv_iload_n hx hb dM_mergeNumber_75 rfl (lv_at hl 1 rfl) ?_
      refine rg_iadd hx hb dM_mergeNumber_76 ?_
      refine rg_iald hx hb hK hP 1 0 rfl rfl (by decide) (by omega) dM_mergeNumber_77 ?_
      refine rg_top (show (.int (nu (2 * z + f)) : Value) = .int z9 by rw [hz9]) ?_
      have J78 : ∀ v9 : Bool, v9 = (decide (y9 = z9)) → W p l e R s m args below meth c H locs 0 0 Q (F0 m 86 ls [.int (bif v9 then 1 else 0), .int (bif (decide (x9 = z9)) then 1 else 0), .int (bif (decide (x9 = y9)) then 1 else 0)]) := by
        intro v9 hv9
        subst hv9
        refine rg_calli hD hS hA (va_runS (As := [.int (bif (decide (x9 = y9)) then 1 else 0), .int (bif (decide (x9 = z9)) then 1 else 0), .int (bif (decide (y9 = z9)) then 1 else 0)]) (rest := []) ⟨hx, hb, hml, hown, hts⟩ (c_rm_choice (decide (x9 = y9)) (decide (x9 = z9)) (decide (y9 = z9)) _) (cwS 3 hts (rg_gS tw_754 tw_755 tw_5 tw_756) rfl rfl rfl (by decide +kernel) ⟨by rw [hR]; exact Nat.le_of_ble_eq_true rfl, by rw [hR]; exact Nat.le_of_ble_eq_true rfl⟩) (rg_preS rfl hK hP hD) rfl rfl hl.1 rfl (lv_room (Nat.le_of_ble_eq_true rfl)) dM_mergeNumber_86 ⟨Nat.zero_le _, Nat.zero_le _⟩) (fun r1 u2 H locs hw3 hP hD hS => ?_)
        subst hw3
        have hP : va_P (dC, dI) rg_cl (rm_W h a cI cL cod (nI n) bra cof mad nu co se li le fi sc ti un ma dr fr to en) H := hP
        have hD : va_D A (rm_W h a cI cL cod (nI n) bra cof mad nu co se li le fi sc ti un ma dr fr to en) := hD
        have hw4 := rg_ch_lt (decide (x9 = y9)) (decide (x9 = z9)) (decide (y9 = z9))
        obtain ⟨w, hw9⟩ : ∃ w, w = rg_ch (decide (x9 = y9)) (decide (x9 = z9)) (decide (y9 = z9)) := ⟨_, rfl⟩
        rw [← hw9] at hw4 ⊢
        refine lv_istore (lv' := [(6, .int (nI w)), (0, .ref h), (1, .int (nI f)), (2, .int (nI x)), (3, .int (nI y)), (4, .int (nI z)), (5, .int (nI s9))]) hx hb dM_mergeNumber_89 hl (by decide) rfl (fun ls hl => ?_)
        refine lv_aload_n hx hb dM_mergeNumber_91 rfl (lv_at hl 1 rfl) ?_
        refine lv_dup hx hb dM_mergeNumber_92 rfl ?_
        refine va_get (D := (dC, dI)) (ci := 0) (C := "RevisionGroveModel") (T := TM) (N := 19) hx hb hts inM hown hK hP 0 rfl rfl 13 (by decide) (hts _ tw_614) (fun _ h9 => h9) rfl dM_mergeNumber_93 ?_
        refine lv_iload hx hb dM_mergeNumber_96 (lv_at hl 0 rfl) ?_
        refine lv_iconst (v := nI 3) hx hb dM_mergeNumber_98 (by decide) ?_
        have J99 : ∀ v9 : Int32, v9 = (rg_cN w f) → W p l e R s m args below meth c H locs 0 0 Q (F0 m 109 ls [.int v9, .int cof, .ref h]) := by
          intro v9 hv9
          subst hv9
          refine lv_ior hx hb dM_mergeNumber_109 ?_
          refine va_put (D := (dC, dI)) (ci := 0) (v := .int (cof ||| (rg_cN w f))) (ty := .int) (C := "RevisionGroveModel") (T := TM) (N := 19) hx hb hts inM tyM tyM_ok nmM hown hK hP hD hS 0 rfl rfl 13 (by decide) (hts _ tw_614) (fun _ h9 => h9) rfl (by decide +kernel) rfl rfl (Nat.le_of_ble_eq_true rfl) dM_mergeNumber_110 (fun H locs hP hD hS => ?_)
          have hP : va_P (dC, dI) rg_cl (rm_W h a cI cL cod (nI n) bra (cof ||| (rg_cN w f)) mad nu co se li le fi sc ti un ma dr fr to en) H := hP
          have hD : va_D A (rm_W h a cI cL cod (nI n) bra (cof ||| (rg_cN w f)) mad nu co se li le fi sc ti un ma dr fr to en) := hD
          refine lv_iload hx hb dM_mergeNumber_113 (lv_at hl 0 rfl) ?_
          refine lv_iconst (v := nI 3) hx hb dM_mergeNumber_115 (by decide) ?_
          have J116 : ∀ v9 : Nat, v9 = (rg_pick w s9 x y z) → W p l e R s m args below meth c H locs 0 0 Q (F0 m 156 ls [.int (nI v9)]) := by
            intro v9 hv9
            subst hv9
            have hq6 : rg_pick w s9 x y z < 61 := rg_pick_lt (by omega) (by omega) (by omega)
            have hv9 : nu (2 * rg_pick w s9 x y z + f) = rg_pick w s9 x9 y9 z9 := by rw [← hx9, ← hy9, ← hz9]; exact rg_pick_ap (fun r => nu (2 * r + f))
            obtain ⟨q9, hq9⟩ : ∃ q9, q9 = rg_pick w s9 x y z := ⟨_, rfl⟩
            rw [← hq9] at hq6 hv9 ⊢
            refine lv_istore (lv' := [(7, .int (nI q9)), (6, .int (nI w)), (0, .ref h), (1, .int (nI f)), (2, .int (nI x)), (3, .int (nI y)), (4, .int (nI z)), (5, .int (nI s9))]) hx hb dM_mergeNumber_156 hl (by decide) rfl (fun ls hl => ?_)
            refine lv_aload_n hx hb dM_mergeNumber_158 rfl (lv_at hl 2 rfl) ?_
            refine va_get (D := (dC, dI)) (ci := 0) (C := "RevisionGroveModel") (T := TM) (N := 19) hx hb hts inM hown hK hP 0 rfl rfl 2 (by decide) (hts _ tw_603) (fun _ h9 => h9) rfl dM_mergeNumber_159 ?_
            refine lv_iconst (v := nI 2) hx hb dM_mergeNumber_162 (by decide) ?_
            refine lv_aload_n hx hb dM_mergeNumber_163 rfl (lv_at hl 2 rfl) ?_
            refine va_get (D := (dC, dI)) (ci := 0) (C := "RevisionGroveModel") (T := TM) (N := 19) hx hb hts inM hown hK hP 0 rfl rfl 1 (by decide) (hts _ tw_602) (fun _ h9 => h9) rfl dM_mergeNumber_164 ?_
            refine rg_imul hx hb dM_mergeNumber_167 ?_
            refine lv_iload_n hx hb dM_mergeNumber_168 rfl (lv_at hl 3 rfl) ?_
            refine rg_iadd hx hb dM_mergeNumber_169 ?_
            refine lv_aload_n hx hb dM_mergeNumber_170 rfl (lv_at hl 2 rfl) ?_
            refine va_get (D := (dC, dI)) (ci := 0) (C := "RevisionGroveModel") (T := TM) (N := 19) hx hb hts inM hown hK hP 0 rfl rfl 2 (by decide) (hts _ tw_603) (fun _ h9 => h9) rfl dM_mergeNumber_171 ?_
            refine lv_iconst (v := nI 2) hx hb dM_mergeNumber_174 (by decide) ?_
            refine lv_iload hx hb dM_mergeNumber_175 (lv_at hl 0 rfl) ?_
            refine rg_imul hx hb dM_mergeNumber_177 ?_
            refine lv_iload_n hx hb dM_mergeNumber_178 rfl (lv_at hl 3 rfl) ?_
            refine rg_iadd hx hb dM_mergeNumber_179 ?_
            refine rg_iald hx hb hK hP 1 0 rfl rfl (by decide) (by omega) dM_mergeNumber_180 ?_
            refine rg_top (show (.int (nu (2 * q9 + f)) : Value) = .int (rg_pick w s9 x9 y9 z9) by rw [hv9]) ?_
            refine rg_iast hx hb hK hP hD hS 1 0 rfl rfl (by decide) (by omega) dM_mergeNumber_181 (fun H locs hP hD hS => ?_)
            have hP : va_P (dC, dI) rg_cl (rm_W h a cI cL cod (nI n) bra (cof ||| (rg_cN w f)) mad (upd nu (2 * n + f) (rg_pick w s9 x9 y9 z9)) co se li le fi sc ti un ma dr fr to en) H := hP
            have hD : va_D A (rm_W h a cI cL cod (nI n) bra (cof ||| (rg_cN w f)) mad (upd nu (2 * n + f) (rg_pick w s9 x9 y9 z9)) co se li le fi sc ti un ma dr fr to en) := hD
            subst hw9
            rw [hQ]
            exact rg_vret hx hb hr hlk hK hP hD hS dM_mergeNumber_182 () rfl trivial
          refine rg_icmp_ne (tgt := 134) hx hb dM_mergeNumber_116 (by decide) (by omega) (by omega) (fun h4 => ?_) (fun h4 => ?_)
          · refine lv_iload hx hb dM_mergeNumber_134 (lv_at hl 0 rfl) ?_
            refine lv_iconst (v := nI 1) hx hb dM_mergeNumber_136 (by decide) ?_
            refine rg_icmp_ne (tgt := 144) hx hb dM_mergeNumber_137 (by decide) (by omega) (by omega) (fun h5 => ?_) (fun h5 => ?_)
            · refine lv_iload hx hb dM_mergeNumber_144 (lv_at hl 0 rfl) ?_
              refine lv_iconst (v := nI 2) hx hb dM_mergeNumber_146 (by decide) ?_
              refine rg_icmp_ne (tgt := 155) hx hb dM_mergeNumber_147 (by decide) (by omega) (by omega) (fun h6 => ?_) (fun h6 => ?_)
              · refine lv_iload_n hx hb dM_mergeNumber_155 rfl (lv_at hl 3 rfl) ?_
                exact J116 x (by unfold rg_pick; rw [if_neg h4, if_neg h5, if_neg h6])
              · refine lv_iload hx hb dM_mergeNumber_150 (lv_at hl 5 rfl) ?_
                refine lv_goto (tgt := 156) hx hb dM_mergeNumber_152 (by decide) ?_
                exact J116 z (by unfold rg_pick; rw [if_neg h4, if_neg h5, if_pos h6])
            · refine lv_iload_n hx hb dM_mergeNumber_140 rfl (lv_at hl 4 rfl) ?_
              refine lv_goto (tgt := 156) hx hb dM_mergeNumber_141 (by decide) ?_
              exact J116 y (by unfold rg_pick; rw [if_neg h4, if_pos h5])
          · refine lv_iload hx hb dM_mergeNumber_119 (lv_at hl 6 rfl) ?_
            refine lv_iconst (v := nI 2) hx hb dM_mergeNumber_121 (by decide) ?_
            refine rg_icmp_ne (tgt := 130) hx hb dM_mergeNumber_122 (by decide) (by omega) (by omega) (fun h7 => ?_) (fun h7 => ?_)
            · refine lv_iload_n hx hb dM_mergeNumber_130 rfl (lv_at hl 4 rfl) ?_
              refine lv_goto (tgt := 156) hx hb dM_mergeNumber_131 (by decide) ?_
              exact J116 y (by unfold rg_pick; rw [if_pos h4, if_neg h7])
            · refine lv_iload hx hb dM_mergeNumber_125 (lv_at hl 5 rfl) ?_
              refine lv_goto (tgt := 156) hx hb dM_mergeNumber_127 (by decide) ?_
              exact J116 z (by unfold rg_pick; rw [if_pos h4, if_pos h7])
        refine rg_icmp_ne (tgt := 108) hx hb dM_mergeNumber_99 (by decide) (by omega) (by omega) (fun h8 => ?_) (fun h8 => ?_)
        · refine lv_iconst (v := nI 0) hx hb dM_mergeNumber_108 (by decide) ?_
          exact J99 _ (by unfold rg_cN; rw [decide_eq_false h8]; rfl)
        · refine lv_iconst (v := nI 1) hx hb dM_mergeNumber_102 (by decide) ?_
          refine lv_iload_n hx hb dM_mergeNumber_103 rfl (lv_at hl 2 rfl) ?_
          refine lv_ishl hx hb dM_mergeNumber_104 ?_
          refine lv_goto (tgt := 109) hx hb dM_mergeNumber_105 (by decide) ?_
          exact J99 _ (by unfold rg_cN; rw [decide_eq_true h8]; rfl)
      refine lv_icmp_ne (tgt := 85) hx hb dM_mergeNumber_78 (by decide) (fun h9 => ?_) (fun h9 => ?_)
      · refine lv_iconst (v := nI 0) hx hb dM_mergeNumber_85 (by decide) ?_
        exact J78 false ((decide_eq_false h9).symm)
      · refine lv_iconst (v := nI 1) hx hb dM_mergeNumber_81 (by decide) ?_
        refine lv_goto (tgt := 86) hx hb dM_mergeNumber_82 (by decide) ?_
        exact J78 true ((decide_eq_true h9).symm)
    refine lv_icmp_ne (tgt := 56) hx hb dM_mergeNumber_49 (by decide) (fun h10 => ?_) (fun h10 => ?_)
    · refine lv_iconst (v := nI 0) hx hb dM_mergeNumber_56 (by decide) ?_
      exact J49 false ((decide_eq_false h10).symm)
    · refine lv_iconst (v := nI 1) hx hb dM_mergeNumber_52 (by decide) ?_
      refine lv_goto (tgt := 57) hx hb dM_mergeNumber_53 (by decide) ?_
      exact J49 true ((decide_eq_true h10).symm)
  refine lv_icmp_ne (tgt := 27) hx hb dM_mergeNumber_20 (by decide) (fun h11 => ?_) (fun h11 => ?_)
  · refine lv_iconst (v := nI 0) hx hb dM_mergeNumber_27 (by decide) ?_
    exact J20 false ((decide_eq_false h11).symm)
  · refine lv_iconst (v := nI 1) hx hb dM_mergeNumber_23 (by decide) ?_
    refine lv_goto (tgt := 28) hx hb dM_mergeNumber_24 (by decide) ?_
    exact J20 true ((decide_eq_true h11).symm)
set_option maxHeartbeats 4000000 in
set_option maxRecDepth 100000 in
theorem c_rm_measure {l : Launch} {dC : Nat → ClassId} {dI : Nat → Nat → Nat} {h : Nat} {a : Nat → Nat} {cI cL : ClassId} {cod : Int32} {cnt : Int32} {bra : Int32} {cof : Int32} {mad : Int32} {nu : Nat → Int32} {co : Nat → Int64} {se : Nat → Int32} {li : Nat → Int32} {le : Nat → Int32} {fi : Nat → Int32} {sc : Nat → Int32} {ti : Nat → Int32} {un : Nat → Int32} {ma : Nat → Int32} {dr : Nat → Int32} {fr : Nat → Int32} {to : Nat → Int32} {en : Nat → Int32} (f x y w : Nat) (hf2 : f < 2) (hx6 : x < 61) (hy6 : y < 61) (hw2 : w < 2) (lx ly : List Int32) (hx8 : lx.length ≤ 8) (hlx : le (2 * x + f) = nI lx.length) (hcx : ∀ k, k < lx.length → li (16 * x + 8 * f + k) = lx.getD k 0) (hy8 : ly.length ≤ 8) (hly : le (2 * y + f) = nI ly.length) (hcy : ∀ k, k < ly.length → li (16 * y + 8 * f + k) = ly.getD k 0) : rg_M l yM_measure (Cond.code yM_measure prog_8_method_27_code 9 none :: rg_tbl) { frames := 1, cells := 0, slots := 0, locals := 23 } (dC, dI) rg_cl [(cI, .int), (cL, .long)] (rm_W h a cI cL cod cnt bra cof mad nu co se li le fi sc ti un ma dr fr to en) [.ref h, .int (nI f), .int (nI x), .int (nI y), .int (nI w)] (rg_QV (dC, dI) rg_cl [(cI, .int), (cL, .long)] (S := Unit) (fun _ => True) (fun _ => rm_W h a cI cL cod cnt bra cof mad nu co se li le fi sc ti un ma dr (upd fr w (nI (rg_hd lx ly))) (upd to w (nI (rg_to lx ly))) (upd en w (nI (rg_en lx ly))))) 0 0 := by
  refine rg_of prog_8_method_27_code 9 none (by decide) rfl (Nat.le_of_ble_eq_true rfl) ?_
  intro p e R s m args below meth c Q A H locs ls hR hQ hx hb hml hr hts hown hlk hnm hP hK hD hA hS hl
  have hl : lv_has ls 9 [(0, .ref h), (1, .int (nI f)), (2, .int (nI x)), (3, .int (nI y)), (4, .int (nI w))] := hl
  have hts : ∀ w ∈ rg_tbl, w.before args s = true := fun w h => hts w (List.mem_cons_of_mem _ h)
  refine lv_aload_n hx hb dM_measure_0 rfl (lv_at hl 0 rfl) ?_
  refine va_get (D := (dC, dI)) (ci := 0) (C := "RevisionGroveModel") (T := TM) (N := 19) hx hb hts inM hown hK hP 0 rfl rfl 6 (by decide) (hts _ tw_607) (fun _ h9 => h9) rfl dM_measure_1 ?_
  refine lv_iconst (v := nI 2) hx hb dM_measure_4 (by decide) ?_
  refine lv_iload_n hx hb dM_measure_5 rfl (lv_at hl 2 rfl) ?_
  refine rg_imul hx hb dM_measure_6 ?_
  refine lv_iload_n hx hb dM_measure_7 rfl (lv_at hl 1 rfl) ?_
  refine rg_iadd hx hb dM_measure_8 ?_
  refine rg_iald hx hb hK hP 5 0 rfl rfl (by decide) (by omega) dM_measure_9 ?_
  refine rg_top (show (.int (le (2 * x + f)) : Value) = .int (nI lx.length) by rw [hlx]) ?_
  refine lv_istore (lv' := [(5, .int (nI lx.length)), (0, .ref h), (1, .int (nI f)), (2, .int (nI x)), (3, .int (nI y)), (4, .int (nI w))]) hx hb dM_measure_10 hl (by decide) rfl (fun ls hl => ?_)
  refine lv_aload_n hx hb dM_measure_12 rfl (lv_at hl 1 rfl) ?_
  refine va_get (D := (dC, dI)) (ci := 0) (C := "RevisionGroveModel") (T := TM) (N := 19) hx hb hts inM hown hK hP 0 rfl rfl 6 (by decide) (hts _ tw_607) (fun _ h9 => h9) rfl dM_measure_13 ?_
  refine lv_iconst (v := nI 2) hx hb dM_measure_16 (by decide) ?_
  refine lv_iload_n hx hb dM_measure_17 rfl (lv_at hl 4 rfl) ?_
  refine rg_imul hx hb dM_measure_18 ?_
  refine lv_iload_n hx hb dM_measure_19 rfl (lv_at hl 2 rfl) ?_
  refine rg_iadd hx hb dM_measure_20 ?_
  refine rg_iald hx hb hK hP 5 0 rfl rfl (by decide) (by omega) dM_measure_21 ?_
  refine rg_top (show (.int (le (2 * y + f)) : Value) = .int (nI ly.length) by rw [hly]) ?_
  refine lv_istore (lv' := [(6, .int (nI ly.length)), (5, .int (nI lx.length)), (0, .ref h), (1, .int (nI f)), (2, .int (nI x)), (3, .int (nI y)), (4, .int (nI w))]) hx hb dM_measure_22 hl (by decide) rfl (fun ls hl => ?_)
  refine lv_iconst (v := nI 0) hx hb dM_measure_24 (by decide) ?_
  refine lv_istore (lv' := [(7, .int (nI 0)), (6, .int (nI ly.length)), (5, .int (nI lx.length)), (0, .ref h), (1, .int (nI f)), (2, .int (nI x)), (3, .int (nI y)), (4, .int (nI w))]) hx hb dM_measure_25 hl (by decide) rfl (fun ls hl => ?_)
  have lp27 : ∀ (fuel : Nat) (i : Nat) (H : Heap) (locs : List Loc) (ls : Array Slot), lx.length + 1 - i < fuel → i ≤ lx.length → i ≤ ly.length → (∀ j, j < i → lx.getD j 0 = ly.getD j 0) → va_P (dC, dI) rg_cl (rm_W h a cI cL cod cnt bra cof mad nu co se li le fi sc ti un ma dr fr to en) H → va_D A (rm_W h a cI cL cod cnt bra cof mad nu co se li le fi sc ti un ma dr fr to en) → va_S A s.heap H locs → lv_has ls 9 [(0, .ref h), (1, .int (nI f)), (2, .int (nI x)), (3, .int (nI y)), (4, .int (nI w)), (5, .int (nI lx.length)), (6, .int (nI ly.length)), (7, .int (nI i))] → W p l e R s m args below meth c H locs 0 0 Q (F0 m 27 ls []) := by
    intro fuel
    induction fuel with
    | zero => intro i H locs ls hf; exact absurd hf (Nat.not_lt_zero _)
    | succ fuel ih27 =>
      intro i H locs ls hfu27 hi1 hi2 hi3 hP hD hS hl
      refine lv_iload hx hb dM_measure_27 (lv_at hl 7 rfl) ?_
      refine lv_iload hx hb dM_measure_29 (lv_at hl 5 rfl) ?_
      refine rg_icmp_ge (tgt := 66) hx hb dM_measure_31 (by decide) (by omega) (by omega) (fun h1 => ?_) (fun h1 => ?_)
      · have hi9 : i = rg_hd lx ly := rg_hd_end hi1 hi2 hi3 (fun h1 h2 => by exfalso; omega)
        refine lv_iconst (v := nI 0) hx hb dM_measure_66 (by decide) ?_
        refine lv_istore (lv' := [(8, .int (nI 0)), (0, .ref h), (1, .int (nI f)), (2, .int (nI x)), (3, .int (nI y)), (4, .int (nI w)), (5, .int (nI lx.length)), (6, .int (nI ly.length)), (7, .int (nI i))]) hx hb dM_measure_67 hl (by decide) rfl (fun ls hl => ?_)
        have lp69 : ∀ (fuel : Nat) (q : Nat) (H : Heap) (locs : List Loc) (ls : Array Slot), lx.length + 1 - q < fuel → q ≤ lx.length - i → q ≤ ly.length - i → (∀ j, j < q → lx.getD (lx.length - 1 - j) 0 = ly.getD (ly.length - 1 - j) 0) → va_P (dC, dI) rg_cl (rm_W h a cI cL cod cnt bra cof mad nu co se li le fi sc ti un ma dr fr to en) H → va_D A (rm_W h a cI cL cod cnt bra cof mad nu co se li le fi sc ti un ma dr fr to en) → va_S A s.heap H locs → lv_has ls 9 [(0, .ref h), (1, .int (nI f)), (2, .int (nI x)), (3, .int (nI y)), (4, .int (nI w)), (5, .int (nI lx.length)), (6, .int (nI ly.length)), (7, .int (nI i)), (8, .int (nI q))] → W p l e R s m args below meth c H locs 0 0 Q (F0 m 69 ls []) := by
          intro fuel
          induction fuel with
          | zero => intro q H locs ls hf; exact absurd hf (Nat.not_lt_zero _)
          | succ fuel ih69 =>
            intro q H locs ls hfu69 hq1 hq2 hq3 hP hD hS hl
            refine lv_iload hx hb dM_measure_69 (lv_at hl 8 rfl) ?_
            refine lv_iload hx hb dM_measure_71 (lv_at hl 5 rfl) ?_
            refine lv_iload hx hb dM_measure_73 (lv_at hl 7 rfl) ?_
            refine rg_isub hx hb dM_measure_75 (by omega) ?_
            refine rg_icmp_ge (tgt := 124) hx hb dM_measure_76 (by decide) (by omega) (by omega) (fun h2 => ?_) (fun h2 => ?_)
            · have hq9 : q = rg_tl lx ly := rg_tl_end hi9 hq1 hq2 hq3 (fun h1 h2 => by exfalso; omega)
              refine lv_aload_n hx hb dM_measure_124 rfl (lv_at hl 0 rfl) ?_
              refine va_get (D := (dC, dI)) (ci := 0) (C := "RevisionGroveModel") (T := TM) (N := 19) hx hb hts inM hown hK hP 0 rfl rfl 16 (by decide) (hts _ tw_617) (fun _ h9 => h9) rfl dM_measure_125 ?_
              refine lv_iload hx hb dM_measure_128 (lv_at hl 4 rfl) ?_
              refine lv_iload hx hb dM_measure_130 (lv_at hl 7 rfl) ?_
              refine rg_iast hx hb hK hP hD hS 12 0 rfl rfl (by decide) (by omega) dM_measure_132 (fun H locs hP hD hS => ?_)
              have hP : va_P (dC, dI) rg_cl (rm_W h a cI cL cod cnt bra cof mad nu co se li le fi sc ti un ma dr (upd fr w (nI i)) to en) H := hP
              have hD : va_D A (rm_W h a cI cL cod cnt bra cof mad nu co se li le fi sc ti un ma dr (upd fr w (nI i)) to en) := hD
              refine lv_aload_n hx hb dM_measure_133 rfl (lv_at hl 0 rfl) ?_
              refine va_get (D := (dC, dI)) (ci := 0) (C := "RevisionGroveModel") (T := TM) (N := 19) hx hb hts inM hown hK hP 0 rfl rfl 17 (by decide) (hts _ tw_618) (fun _ h9 => h9) rfl dM_measure_134 ?_
              refine lv_iload hx hb dM_measure_137 (lv_at hl 4 rfl) ?_
              refine lv_iload hx hb dM_measure_139 (lv_at hl 5 rfl) ?_
              refine lv_iload hx hb dM_measure_141 (lv_at hl 8 rfl) ?_
              refine rg_isub hx hb dM_measure_143 (by omega) ?_
              refine rg_iast hx hb hK hP hD hS 13 0 rfl rfl (by decide) (by omega) dM_measure_144 (fun H locs hP hD hS => ?_)
              have hP : va_P (dC, dI) rg_cl (rm_W h a cI cL cod cnt bra cof mad nu co se li le fi sc ti un ma dr (upd fr w (nI i)) (upd to w (nI (lx.length - q))) en) H := hP
              have hD : va_D A (rm_W h a cI cL cod cnt bra cof mad nu co se li le fi sc ti un ma dr (upd fr w (nI i)) (upd to w (nI (lx.length - q))) en) := hD
              refine lv_aload_n hx hb dM_measure_145 rfl (lv_at hl 0 rfl) ?_
              refine va_get (D := (dC, dI)) (ci := 0) (C := "RevisionGroveModel") (T := TM) (N := 19) hx hb hts inM hown hK hP 0 rfl rfl 18 (by decide) (hts _ tw_619) (fun _ h9 => h9) rfl dM_measure_146 ?_
              refine lv_iload hx hb dM_measure_149 (lv_at hl 4 rfl) ?_
              refine lv_iload hx hb dM_measure_151 (lv_at hl 6 rfl) ?_
              refine lv_iload hx hb dM_measure_153 (lv_at hl 8 rfl) ?_
              refine rg_isub hx hb dM_measure_155 (by omega) ?_
              refine rg_iast hx hb hK hP hD hS 14 0 rfl rfl (by decide) (by omega) dM_measure_156 (fun H locs hP hD hS => ?_)
              have hP : va_P (dC, dI) rg_cl (rm_W h a cI cL cod cnt bra cof mad nu co se li le fi sc ti un ma dr (upd fr w (nI i)) (upd to w (nI (lx.length - q))) (upd en w (nI (ly.length - q)))) H := hP
              have hD : va_D A (rm_W h a cI cL cod cnt bra cof mad nu co se li le fi sc ti un ma dr (upd fr w (nI i)) (upd to w (nI (lx.length - q))) (upd en w (nI (ly.length - q)))) := hD
              subst hq9
              subst hi9
              rw [hQ]
              exact rg_vret hx hb hr hlk hK hP hD hS dM_measure_157 () rfl trivial
            · refine lv_iload hx hb dM_measure_79 (lv_at hl 8 rfl) ?_
              refine lv_iload hx hb dM_measure_81 (lv_at hl 6 rfl) ?_
              refine lv_iload hx hb dM_measure_83 (lv_at hl 7 rfl) ?_
              refine rg_isub hx hb dM_measure_85 (by omega) ?_
              refine rg_icmp_ge (tgt := 124) hx hb dM_measure_86 (by decide) (by omega) (by omega) (fun h3 => ?_) (fun h3 => ?_)
              · have hq9 : q = rg_tl lx ly := rg_tl_end hi9 hq1 hq2 hq3 (fun h1 h2 => by exfalso; omega)
                refine lv_aload_n hx hb dM_measure_124 rfl (lv_at hl 0 rfl) ?_
                refine va_get (D := (dC, dI)) (ci := 0) (C := "RevisionGroveModel") (T := TM) (N := 19) hx hb hts inM hown hK hP 0 rfl rfl 16 (by decide) (hts _ tw_617) (fun _ h9 => h9) rfl dM_measure_125 ?_
                refine lv_iload hx hb dM_measure_128 (lv_at hl 4 rfl) ?_
                refine lv_iload hx hb dM_measure_130 (lv_at hl 7 rfl) ?_
                refine rg_iast hx hb hK hP hD hS 12 0 rfl rfl (by decide) (by omega) dM_measure_132 (fun H locs hP hD hS => ?_)
                have hP : va_P (dC, dI) rg_cl (rm_W h a cI cL cod cnt bra cof mad nu co se li le fi sc ti un ma dr (upd fr w (nI i)) to en) H := hP
                have hD : va_D A (rm_W h a cI cL cod cnt bra cof mad nu co se li le fi sc ti un ma dr (upd fr w (nI i)) to en) := hD
                refine lv_aload_n hx hb dM_measure_133 rfl (lv_at hl 0 rfl) ?_
                refine va_get (D := (dC, dI)) (ci := 0) (C := "RevisionGroveModel") (T := TM) (N := 19) hx hb hts inM hown hK hP 0 rfl rfl 17 (by decide) (hts _ tw_618) (fun _ h9 => h9) rfl dM_measure_134 ?_
                refine lv_iload hx hb dM_measure_137 (lv_at hl 4 rfl) ?_
                refine lv_iload hx hb dM_measure_139 (lv_at hl 5 rfl) ?_
                refine lv_iload hx hb dM_measure_141 (lv_at hl 8 rfl) ?_
                refine rg_isub hx hb dM_measure_143 (by omega) ?_
                refine rg_iast hx hb hK hP hD hS 13 0 rfl rfl (by decide) (by omega) dM_measure_144 (fun H locs hP hD hS => ?_)
                have hP : va_P (dC, dI) rg_cl (rm_W h a cI cL cod cnt bra cof mad nu co se li le fi sc ti un ma dr (upd fr w (nI i)) (upd to w (nI (lx.length - q))) en) H := hP
                have hD : va_D A (rm_W h a cI cL cod cnt bra cof mad nu co se li le fi sc ti un ma dr (upd fr w (nI i)) (upd to w (nI (lx.length - q))) en) := hD
                refine lv_aload_n hx hb dM_measure_145 rfl (lv_at hl 0 rfl) ?_
                refine va_get (D := (dC, dI)) (ci := 0) (C := "RevisionGroveModel") (T := TM) (N := 19) hx hb hts inM hown hK hP 0 rfl rfl 18 (by decide) (hts _ tw_619) (fun _ h9 => h9) rfl dM_measure_146 ?_
                refine lv_iload hx hb dM_measure_149 (lv_at hl 4 rfl) ?_
                refine lv_iload hx hb dM_measure_151 (lv_at hl 6 rfl) ?_
                refine lv_iload hx hb dM_measure_153 (lv_at hl 8 rfl) ?_
                refine rg_isub hx hb dM_measure_155 (by omega) ?_
                refine rg_iast hx hb hK hP hD hS 14 0 rfl rfl (by decide) (by omega) dM_measure_156 (fun H locs hP hD hS => ?_)
                have hP : va_P (dC, dI) rg_cl (rm_W h a cI cL cod cnt bra cof mad nu co se li le fi sc ti un ma dr (upd fr w (nI i)) (upd to w (nI (lx.length - q))) (upd en w (nI (ly.length - q)))) H := hP
                have hD : va_D A (rm_W h a cI cL cod cnt bra cof mad nu co se li le fi sc ti un ma dr (upd fr w (nI i)) (upd to w (nI (lx.length - q))) (upd en w (nI (ly.length - q)))) := hD
                subst hq9
                subst hi9
                rw [hQ]
                exact rg_vret hx hb hr hlk hK hP hD hS dM_measure_157 () rfl trivial
              · have hka := hcx (lx.length - 1 - q) (by omega)
                have hkb := hcy (ly.length - 1 - q) (by omega)
                refine lv_aload_n hx hb dM_measure_89 rfl (lv_at hl 0 rfl) ?_
                refine lv_iload_n hx hb dM_measure_90 rfl (lv_at hl 2 rfl) ?_
                refine lv_iload_n hx hb dM_measure_91 rfl (lv_at hl 1 rfl) ?_
                refine lv_iload hx hb dM_measure_92 (lv_at hl 5 rfl) ?_
                refine lv_iconst (v := nI 1) hx hb dM_measure_94 (by decide) ?_
                refine rg_isub hx hb dM_measure_95 (by omega) ?_
                refine lv_iload hx hb dM_measure_96 (lv_at hl 8 rfl) ?_
                refine rg_isub hx hb dM_measure_98 (by omega) ?_
                refine rg_calli hD hS hA (va_runV (As := [.int (nI x), .int (nI f), .int (nI (lx.length - 1 - q))]) (rest := []) ⟨hx, hb, hml, hown, hts⟩ (c_rm_at x f (lx.length - 1 - q) (by omega) _) (cwV 3 hts (rg_gV tw_769 tw_771 ts_M_at tw_5 tw_772) rfl rfl rfl (by decide +kernel) ⟨by rw [hR]; exact Nat.le_of_ble_eq_true rfl, by rw [hR]; exact Nat.le_of_ble_eq_true rfl⟩) (rg_preV rfl hK hP hD (ci := 0) (q0 := 0) rfl rfl) rfl rfl hl.1 rfl (lv_room (Nat.le_of_ble_eq_true rfl)) dM_measure_99 ⟨Nat.zero_le _, Nat.zero_le _⟩) (fun r4 u5 H locs hw6 hP hD hS => ?_)
                subst hw6
                have hP : va_P (dC, dI) rg_cl (rm_W h a cI cL cod cnt bra cof mad nu co se li le fi sc ti un ma dr fr to en) H := hP
                have hD : va_D A (rm_W h a cI cL cod cnt bra cof mad nu co se li le fi sc ti un ma dr fr to en) := hD
                refine rg_top (show (.int (li (16 * x + 8 * f + (lx.length - 1 - q))) : Value) = .int (lx.getD (lx.length - 1 - q) 0) by rw [hka]) ?_
                refine lv_aload_n hx hb dM_measure_102 rfl (lv_at hl 0 rfl) ?_
                refine lv_iload_n hx hb dM_measure_103 rfl (lv_at hl 3 rfl) ?_
                refine lv_iload_n hx hb dM_measure_104 rfl (lv_at hl 1 rfl) ?_
                refine lv_iload hx hb dM_measure_105 (lv_at hl 6 rfl) ?_
                refine lv_iconst (v := nI 1) hx hb dM_measure_107 (by decide) ?_
                refine rg_isub hx hb dM_measure_108 (by omega) ?_
                refine lv_iload hx hb dM_measure_109 (lv_at hl 8 rfl) ?_
                refine rg_isub hx hb dM_measure_111 (by omega) ?_
                refine rg_calli hD hS hA (va_runV (As := [.int (nI y), .int (nI f), .int (nI (ly.length - 1 - q))]) (rest := [.int (lx.getD (lx.length - 1 - q) 0)]) ⟨hx, hb, hml, hown, hts⟩ (c_rm_at y f (ly.length - 1 - q) (by omega) _) (cwV 3 hts (rg_gV tw_769 tw_771 ts_M_at tw_5 tw_772) rfl rfl rfl (by decide +kernel) ⟨by rw [hR]; exact Nat.le_of_ble_eq_true rfl, by rw [hR]; exact Nat.le_of_ble_eq_true rfl⟩) (rg_preV rfl hK hP hD (ci := 0) (q0 := 0) rfl rfl) rfl rfl hl.1 rfl (lv_room (Nat.le_of_ble_eq_true rfl)) dM_measure_112 ⟨Nat.zero_le _, Nat.zero_le _⟩) (fun r7 u8 H locs hw9 hP hD hS => ?_)
                subst hw9
                have hP : va_P (dC, dI) rg_cl (rm_W h a cI cL cod cnt bra cof mad nu co se li le fi sc ti un ma dr fr to en) H := hP
                have hD : va_D A (rm_W h a cI cL cod cnt bra cof mad nu co se li le fi sc ti un ma dr fr to en) := hD
                refine rg_top (show (.int (li (16 * y + 8 * f + (ly.length - 1 - q))) : Value) = .int (ly.getD (ly.length - 1 - q) 0) by rw [hkb]) ?_
                refine lv_icmp_ne (tgt := 124) hx hb dM_measure_115 (by decide) (fun h10 => ?_) (fun h10 => ?_)
                · have hq9 : q = rg_tl lx ly := rg_tl_end hi9 hq1 hq2 hq3 (fun _ _ => h10)
                  refine lv_aload_n hx hb dM_measure_124 rfl (lv_at hl 0 rfl) ?_
                  refine va_get (D := (dC, dI)) (ci := 0) (C := "RevisionGroveModel") (T := TM) (N := 19) hx hb hts inM hown hK hP 0 rfl rfl 16 (by decide) (hts _ tw_617) (fun _ h9 => h9) rfl dM_measure_125 ?_
                  refine lv_iload hx hb dM_measure_128 (lv_at hl 4 rfl) ?_
                  refine lv_iload hx hb dM_measure_130 (lv_at hl 7 rfl) ?_
                  refine rg_iast hx hb hK hP hD hS 12 0 rfl rfl (by decide) (by omega) dM_measure_132 (fun H locs hP hD hS => ?_)
                  have hP : va_P (dC, dI) rg_cl (rm_W h a cI cL cod cnt bra cof mad nu co se li le fi sc ti un ma dr (upd fr w (nI i)) to en) H := hP
                  have hD : va_D A (rm_W h a cI cL cod cnt bra cof mad nu co se li le fi sc ti un ma dr (upd fr w (nI i)) to en) := hD
                  refine lv_aload_n hx hb dM_measure_133 rfl (lv_at hl 0 rfl) ?_
                  refine va_get (D := (dC, dI)) (ci := 0) (C := "RevisionGroveModel") (T := TM) (N := 19) hx hb hts inM hown hK hP 0 rfl rfl 17 (by decide) (hts _ tw_618) (fun _ h9 => h9) rfl dM_measure_134 ?_
                  refine lv_iload hx hb dM_measure_137 (lv_at hl 4 rfl) ?_
                  refine lv_iload hx hb dM_measure_139 (lv_at hl 5 rfl) ?_
                  refine lv_iload hx hb dM_measure_141 (lv_at hl 8 rfl) ?_
                  refine rg_isub hx hb dM_measure_143 (by omega) ?_
                  refine rg_iast hx hb hK hP hD hS 13 0 rfl rfl (by decide) (by omega) dM_measure_144 (fun H locs hP hD hS => ?_)
                  have hP : va_P (dC, dI) rg_cl (rm_W h a cI cL cod cnt bra cof mad nu co se li le fi sc ti un ma dr (upd fr w (nI i)) (upd to w (nI (lx.length - q))) en) H := hP
                  have hD : va_D A (rm_W h a cI cL cod cnt bra cof mad nu co se li le fi sc ti un ma dr (upd fr w (nI i)) (upd to w (nI (lx.length - q))) en) := hD
                  refine lv_aload_n hx hb dM_measure_145 rfl (lv_at hl 0 rfl) ?_
                  refine va_get (D := (dC, dI)) (ci := 0) (C := "RevisionGroveModel") (T := TM) (N := 19) hx hb hts inM hown hK hP 0 rfl rfl 18 (by decide) (hts _ tw_619) (fun _ h9 => h9) rfl dM_measure_146 ?_
                  refine lv_iload hx hb dM_measure_149 (lv_at hl 4 rfl) ?_
                  refine lv_iload hx hb dM_measure_151 (lv_at hl 6 rfl) ?_
                  refine lv_iload hx hb dM_measure_153 (lv_at hl 8 rfl) ?_
                  refine rg_isub hx hb dM_measure_155 (by omega) ?_
                  refine rg_iast hx hb hK hP hD hS 14 0 rfl rfl (by decide) (by omega) dM_measure_156 (fun H locs hP hD hS => ?_)
                  have hP : va_P (dC, dI) rg_cl (rm_W h a cI cL cod cnt bra cof mad nu co se li le fi sc ti un ma dr (upd fr w (nI i)) (upd to w (nI (lx.length - q))) (upd en w (nI (ly.length - q)))) H := hP
                  have hD : va_D A (rm_W h a cI cL cod cnt bra cof mad nu co se li le fi sc ti un ma dr (upd fr w (nI i)) (upd to w (nI (lx.length - q))) (upd en w (nI (ly.length - q)))) := hD
                  subst hq9
                  subst hi9
                  rw [hQ]
                  exact rg_vret hx hb hr hlk hK hP hD hS dM_measure_157 () rfl trivial
                · have hee := h10
                  refine lv_iinc (k := 8) (v := nI (q + 1)) (lv' := [(8, .int (nI (q + 1))), (0, .ref h), (1, .int (nI f)), (2, .int (nI x)), (3, .int (nI y)), (4, .int (nI w)), (5, .int (nI lx.length)), (6, .int (nI ly.length)), (7, .int (nI i))]) hx hb dM_measure_118 hl rfl (nI_1 _) (by decide) rfl (fun ls hl => ?_)
                  refine lv_goto (tgt := 69) hx hb dM_measure_121 (by decide) ?_
                  exact ih69 (q + 1) _ _ _ (by omega) (by omega) (by omega) (lt_s hq3 hee) hP hD hS (lv_sub hl [1, 2, 3, 4, 5, 6, 7, 8, 0] rfl)
        exact lp69 _ 0 _ _ _ (Nat.lt_succ_self _) (Nat.zero_le _) (Nat.zero_le _) (fun j hj => absurd hj (Nat.not_lt_zero j)) hP hD hS (lv_sub hl [1, 2, 3, 4, 5, 6, 7, 8, 0] rfl)
      · refine lv_iload hx hb dM_measure_34 (lv_at hl 7 rfl) ?_
        refine lv_iload hx hb dM_measure_36 (lv_at hl 6 rfl) ?_
        refine rg_icmp_ge (tgt := 66) hx hb dM_measure_38 (by decide) (by omega) (by omega) (fun h11 => ?_) (fun h11 => ?_)
        · have hi9 : i = rg_hd lx ly := rg_hd_end hi1 hi2 hi3 (fun h1 h2 => by exfalso; omega)
          refine lv_iconst (v := nI 0) hx hb dM_measure_66 (by decide) ?_
          refine lv_istore (lv' := [(8, .int (nI 0)), (0, .ref h), (1, .int (nI f)), (2, .int (nI x)), (3, .int (nI y)), (4, .int (nI w)), (5, .int (nI lx.length)), (6, .int (nI ly.length)), (7, .int (nI i))]) hx hb dM_measure_67 hl (by decide) rfl (fun ls hl => ?_)
          have lp69 : ∀ (fuel : Nat) (q : Nat) (H : Heap) (locs : List Loc) (ls : Array Slot), lx.length + 1 - q < fuel → q ≤ lx.length - i → q ≤ ly.length - i → (∀ j, j < q → lx.getD (lx.length - 1 - j) 0 = ly.getD (ly.length - 1 - j) 0) → va_P (dC, dI) rg_cl (rm_W h a cI cL cod cnt bra cof mad nu co se li le fi sc ti un ma dr fr to en) H → va_D A (rm_W h a cI cL cod cnt bra cof mad nu co se li le fi sc ti un ma dr fr to en) → va_S A s.heap H locs → lv_has ls 9 [(0, .ref h), (1, .int (nI f)), (2, .int (nI x)), (3, .int (nI y)), (4, .int (nI w)), (5, .int (nI lx.length)), (6, .int (nI ly.length)), (7, .int (nI i)), (8, .int (nI q))] → W p l e R s m args below meth c H locs 0 0 Q (F0 m 69 ls []) := by
            intro fuel
            induction fuel with
            | zero => intro q H locs ls hf; exact absurd hf (Nat.not_lt_zero _)
            | succ fuel ih69 =>
              intro q H locs ls hfu69 hq1 hq2 hq3 hP hD hS hl
              refine lv_iload hx hb dM_measure_69 (lv_at hl 8 rfl) ?_
              refine lv_iload hx hb dM_measure_71 (lv_at hl 5 rfl) ?_
              refine lv_iload hx hb dM_measure_73 (lv_at hl 7 rfl) ?_
              refine rg_isub hx hb dM_measure_75 (by omega) ?_
              refine rg_icmp_ge (tgt := 124) hx hb dM_measure_76 (by decide) (by omega) (by omega) (fun h12 => ?_) (fun h12 => ?_)
              · have hq9 : q = rg_tl lx ly := rg_tl_end hi9 hq1 hq2 hq3 (fun h1 h2 => by exfalso; omega)
                refine lv_aload_n hx hb dM_measure_124 rfl (lv_at hl 0 rfl) ?_
                refine va_get (D := (dC, dI)) (ci := 0) (C := "RevisionGroveModel") (T := TM) (N := 19) hx hb hts inM hown hK hP 0 rfl rfl 16 (by decide) (hts _ tw_617) (fun _ h9 => h9) rfl dM_measure_125 ?_
                refine lv_iload hx hb dM_measure_128 (lv_at hl 4 rfl) ?_
                refine lv_iload hx hb dM_measure_130 (lv_at hl 7 rfl) ?_
                refine rg_iast hx hb hK hP hD hS 12 0 rfl rfl (by decide) (by omega) dM_measure_132 (fun H locs hP hD hS => ?_)
                have hP : va_P (dC, dI) rg_cl (rm_W h a cI cL cod cnt bra cof mad nu co se li le fi sc ti un ma dr (upd fr w (nI i)) to en) H := hP
                have hD : va_D A (rm_W h a cI cL cod cnt bra cof mad nu co se li le fi sc ti un ma dr (upd fr w (nI i)) to en) := hD
                refine lv_aload_n hx hb dM_measure_133 rfl (lv_at hl 0 rfl) ?_
                refine va_get (D := (dC, dI)) (ci := 0) (C := "RevisionGroveModel") (T := TM) (N := 19) hx hb hts inM hown hK hP 0 rfl rfl 17 (by decide) (hts _ tw_618) (fun _ h9 => h9) rfl dM_measure_134 ?_
                refine lv_iload hx hb dM_measure_137 (lv_at hl 4 rfl) ?_
                refine lv_iload hx hb dM_measure_139 (lv_at hl 5 rfl) ?_
                refine lv_iload hx hb dM_measure_141 (lv_at hl 8 rfl) ?_
                refine rg_isub hx hb dM_measure_143 (by omega) ?_
                refine rg_iast hx hb hK hP hD hS 13 0 rfl rfl (by decide) (by omega) dM_measure_144 (fun H locs hP hD hS => ?_)
                have hP : va_P (dC, dI) rg_cl (rm_W h a cI cL cod cnt bra cof mad nu co se li le fi sc ti un ma dr (upd fr w (nI i)) (upd to w (nI (lx.length - q))) en) H := hP
                have hD : va_D A (rm_W h a cI cL cod cnt bra cof mad nu co se li le fi sc ti un ma dr (upd fr w (nI i)) (upd to w (nI (lx.length - q))) en) := hD
                refine lv_aload_n hx hb dM_measure_145 rfl (lv_at hl 0 rfl) ?_
                refine va_get (D := (dC, dI)) (ci := 0) (C := "RevisionGroveModel") (T := TM) (N := 19) hx hb hts inM hown hK hP 0 rfl rfl 18 (by decide) (hts _ tw_619) (fun _ h9 => h9) rfl dM_measure_146 ?_
                refine lv_iload hx hb dM_measure_149 (lv_at hl 4 rfl) ?_
                refine lv_iload hx hb dM_measure_151 (lv_at hl 6 rfl) ?_
                refine lv_iload hx hb dM_measure_153 (lv_at hl 8 rfl) ?_
                refine rg_isub hx hb dM_measure_155 (by omega) ?_
                refine rg_iast hx hb hK hP hD hS 14 0 rfl rfl (by decide) (by omega) dM_measure_156 (fun H locs hP hD hS => ?_)
                have hP : va_P (dC, dI) rg_cl (rm_W h a cI cL cod cnt bra cof mad nu co se li le fi sc ti un ma dr (upd fr w (nI i)) (upd to w (nI (lx.length - q))) (upd en w (nI (ly.length - q)))) H := hP
                have hD : va_D A (rm_W h a cI cL cod cnt bra cof mad nu co se li le fi sc ti un ma dr (upd fr w (nI i)) (upd to w (nI (lx.length - q))) (upd en w (nI (ly.length - q)))) := hD
                subst hq9
                subst hi9
                rw [hQ]
                exact rg_vret hx hb hr hlk hK hP hD hS dM_measure_157 () rfl trivial
              · refine lv_iload hx hb dM_measure_79 (lv_at hl 8 rfl) ?_
                refine lv_iload hx hb dM_measure_81 (lv_at hl 6 rfl) ?_
                refine lv_iload hx hb dM_measure_83 (lv_at hl 7 rfl) ?_
                refine rg_isub hx hb dM_measure_85 (by omega) ?_
                refine rg_icmp_ge (tgt := 124) hx hb dM_measure_86 (by decide) (by omega) (by omega) (fun h13 => ?_) (fun h13 => ?_)
                · have hq9 : q = rg_tl lx ly := rg_tl_end hi9 hq1 hq2 hq3 (fun h1 h2 => by exfalso; omega)
                  refine lv_aload_n hx hb dM_measure_124 rfl (lv_at hl 0 rfl) ?_
                  refine va_get (D := (dC, dI)) (ci := 0) (C := "RevisionGroveModel") (T := TM) (N := 19) hx hb hts inM hown hK hP 0 rfl rfl 16 (by decide) (hts _ tw_617) (fun _ h9 => h9) rfl dM_measure_125 ?_
                  refine lv_iload hx hb dM_measure_128 (lv_at hl 4 rfl) ?_
                  refine lv_iload hx hb dM_measure_130 (lv_at hl 7 rfl) ?_
                  refine rg_iast hx hb hK hP hD hS 12 0 rfl rfl (by decide) (by omega) dM_measure_132 (fun H locs hP hD hS => ?_)
                  have hP : va_P (dC, dI) rg_cl (rm_W h a cI cL cod cnt bra cof mad nu co se li le fi sc ti un ma dr (upd fr w (nI i)) to en) H := hP
                  have hD : va_D A (rm_W h a cI cL cod cnt bra cof mad nu co se li le fi sc ti un ma dr (upd fr w (nI i)) to en) := hD
                  refine lv_aload_n hx hb dM_measure_133 rfl (lv_at hl 0 rfl) ?_
                  refine va_get (D := (dC, dI)) (ci := 0) (C := "RevisionGroveModel") (T := TM) (N := 19) hx hb hts inM hown hK hP 0 rfl rfl 17 (by decide) (hts _ tw_618) (fun _ h9 => h9) rfl dM_measure_134 ?_
                  refine lv_iload hx hb dM_measure_137 (lv_at hl 4 rfl) ?_
                  refine lv_iload hx hb dM_measure_139 (lv_at hl 5 rfl) ?_
                  refine lv_iload hx hb dM_measure_141 (lv_at hl 8 rfl) ?_
                  refine rg_isub hx hb dM_measure_143 (by omega) ?_
                  refine rg_iast hx hb hK hP hD hS 13 0 rfl rfl (by decide) (by omega) dM_measure_144 (fun H locs hP hD hS => ?_)
                  have hP : va_P (dC, dI) rg_cl (rm_W h a cI cL cod cnt bra cof mad nu co se li le fi sc ti un ma dr (upd fr w (nI i)) (upd to w (nI (lx.length - q))) en) H := hP
                  have hD : va_D A (rm_W h a cI cL cod cnt bra cof mad nu co se li le fi sc ti un ma dr (upd fr w (nI i)) (upd to w (nI (lx.length - q))) en) := hD
                  refine lv_aload_n hx hb dM_measure_145 rfl (lv_at hl 0 rfl) ?_
                  refine va_get (D := (dC, dI)) (ci := 0) (C := "RevisionGroveModel") (T := TM) (N := 19) hx hb hts inM hown hK hP 0 rfl rfl 18 (by decide) (hts _ tw_619) (fun _ h9 => h9) rfl dM_measure_146 ?_
                  refine lv_iload hx hb dM_measure_149 (lv_at hl 4 rfl) ?_
                  refine lv_iload hx hb dM_measure_151 (lv_at hl 6 rfl) ?_
                  refine lv_iload hx hb dM_measure_153 (lv_at hl 8 rfl) ?_
                  refine rg_isub hx hb dM_measure_155 (by omega) ?_
                  refine rg_iast hx hb hK hP hD hS 14 0 rfl rfl (by decide) (by omega) dM_measure_156 (fun H locs hP hD hS => ?_)
                  have hP : va_P (dC, dI) rg_cl (rm_W h a cI cL cod cnt bra cof mad nu co se li le fi sc ti un ma dr (upd fr w (nI i)) (upd to w (nI (lx.length - q))) (upd en w (nI (ly.length - q)))) H := hP
                  have hD : va_D A (rm_W h a cI cL cod cnt bra cof mad nu co se li le fi sc ti un ma dr (upd fr w (nI i)) (upd to w (nI (lx.length - q))) (upd en w (nI (ly.length - q)))) := hD
                  subst hq9
                  subst hi9
                  rw [hQ]
                  exact rg_vret hx hb hr hlk hK hP hD hS dM_measure_157 () rfl trivial
                · have hka := hcx (lx.length - 1 - q) (by omega)
                  have hkb := hcy (ly.length - 1 - q) (by omega)
                  refine lv_aload_n hx hb dM_measure_89 rfl (lv_at hl 0 rfl) ?_
                  refine lv_iload_n hx hb dM_measure_90 rfl (lv_at hl 2 rfl) ?_
                  refine lv_iload_n hx hb dM_measure_91 rfl (lv_at hl 1 rfl) ?_
                  refine lv_iload hx hb dM_measure_92 (lv_at hl 5 rfl) ?_
                  refine lv_iconst (v := nI 1) hx hb dM_measure_94 (by decide) ?_
                  refine rg_isub hx hb dM_measure_95 (by omega) ?_
                  refine lv_iload hx hb dM_measure_96 (lv_at hl 8 rfl) ?_
                  refine rg_isub hx hb dM_measure_98 (by omega) ?_
                  refine rg_calli hD hS hA (va_runV (As := [.int (nI x), .int (nI f), .int (nI (lx.length - 1 - q))]) (rest := []) ⟨hx, hb, hml, hown, hts⟩ (c_rm_at x f (lx.length - 1 - q) (by omega) _) (cwV 3 hts (rg_gV tw_769 tw_771 ts_M_at tw_5 tw_772) rfl rfl rfl (by decide +kernel) ⟨by rw [hR]; exact Nat.le_of_ble_eq_true rfl, by rw [hR]; exact Nat.le_of_ble_eq_true rfl⟩) (rg_preV rfl hK hP hD (ci := 0) (q0 := 0) rfl rfl) rfl rfl hl.1 rfl (lv_room (Nat.le_of_ble_eq_true rfl)) dM_measure_99 ⟨Nat.zero_le _, Nat.zero_le _⟩) (fun r14 u15 H locs hw16 hP hD hS => ?_)
                  subst hw16
                  have hP : va_P (dC, dI) rg_cl (rm_W h a cI cL cod cnt bra cof mad nu co se li le fi sc ti un ma dr fr to en) H := hP
                  have hD : va_D A (rm_W h a cI cL cod cnt bra cof mad nu co se li le fi sc ti un ma dr fr to en) := hD
                  refine rg_top (show (.int (li (16 * x + 8 * f + (lx.length - 1 - q))) : Value) = .int (lx.getD (lx.length - 1 - q) 0) by rw [hka]) ?_
                  refine lv_aload_n hx hb dM_measure_102 rfl (lv_at hl 0 rfl) ?_
                  refine lv_iload_n hx hb dM_measure_103 rfl (lv_at hl 3 rfl) ?_
                  refine lv_iload_n hx hb dM_measure_104 rfl (lv_at hl 1 rfl) ?_
                  refine lv_iload hx hb dM_measure_105 (lv_at hl 6 rfl) ?_
                  refine lv_iconst (v := nI 1) hx hb dM_measure_107 (by decide) ?_
                  refine rg_isub hx hb dM_measure_108 (by omega) ?_
                  refine lv_iload hx hb dM_measure_109 (lv_at hl 8 rfl) ?_
                  refine rg_isub hx hb dM_measure_111 (by omega) ?_
                  refine rg_calli hD hS hA (va_runV (As := [.int (nI y), .int (nI f), .int (nI (ly.length - 1 - q))]) (rest := [.int (lx.getD (lx.length - 1 - q) 0)]) ⟨hx, hb, hml, hown, hts⟩ (c_rm_at y f (ly.length - 1 - q) (by omega) _) (cwV 3 hts (rg_gV tw_769 tw_771 ts_M_at tw_5 tw_772) rfl rfl rfl (by decide +kernel) ⟨by rw [hR]; exact Nat.le_of_ble_eq_true rfl, by rw [hR]; exact Nat.le_of_ble_eq_true rfl⟩) (rg_preV rfl hK hP hD (ci := 0) (q0 := 0) rfl rfl) rfl rfl hl.1 rfl (lv_room (Nat.le_of_ble_eq_true rfl)) dM_measure_112 ⟨Nat.zero_le _, Nat.zero_le _⟩) (fun r17 u18 H locs hw19 hP hD hS => ?_)
                  subst hw19
                  have hP : va_P (dC, dI) rg_cl (rm_W h a cI cL cod cnt bra cof mad nu co se li le fi sc ti un ma dr fr to en) H := hP
                  have hD : va_D A (rm_W h a cI cL cod cnt bra cof mad nu co se li le fi sc ti un ma dr fr to en) := hD
                  refine rg_top (show (.int (li (16 * y + 8 * f + (ly.length - 1 - q))) : Value) = .int (ly.getD (ly.length - 1 - q) 0) by rw [hkb]) ?_
                  refine lv_icmp_ne (tgt := 124) hx hb dM_measure_115 (by decide) (fun h20 => ?_) (fun h20 => ?_)
                  · have hq9 : q = rg_tl lx ly := rg_tl_end hi9 hq1 hq2 hq3 (fun _ _ => h20)
                    refine lv_aload_n hx hb dM_measure_124 rfl (lv_at hl 0 rfl) ?_
                    refine va_get (D := (dC, dI)) (ci := 0) (C := "RevisionGroveModel") (T := TM) (N := 19) hx hb hts inM hown hK hP 0 rfl rfl 16 (by decide) (hts _ tw_617) (fun _ h9 => h9) rfl dM_measure_125 ?_
                    refine lv_iload hx hb dM_measure_128 (lv_at hl 4 rfl) ?_
                    refine lv_iload hx hb dM_measure_130 (lv_at hl 7 rfl) ?_
                    refine rg_iast hx hb hK hP hD hS 12 0 rfl rfl (by decide) (by omega) dM_measure_132 (fun H locs hP hD hS => ?_)
                    have hP : va_P (dC, dI) rg_cl (rm_W h a cI cL cod cnt bra cof mad nu co se li le fi sc ti un ma dr (upd fr w (nI i)) to en) H := hP
                    have hD : va_D A (rm_W h a cI cL cod cnt bra cof mad nu co se li le fi sc ti un ma dr (upd fr w (nI i)) to en) := hD
                    refine lv_aload_n hx hb dM_measure_133 rfl (lv_at hl 0 rfl) ?_
                    refine va_get (D := (dC, dI)) (ci := 0) (C := "RevisionGroveModel") (T := TM) (N := 19) hx hb hts inM hown hK hP 0 rfl rfl 17 (by decide) (hts _ tw_618) (fun _ h9 => h9) rfl dM_measure_134 ?_
                    refine lv_iload hx hb dM_measure_137 (lv_at hl 4 rfl) ?_
                    refine lv_iload hx hb dM_measure_139 (lv_at hl 5 rfl) ?_
                    refine lv_iload hx hb dM_measure_141 (lv_at hl 8 rfl) ?_
                    refine rg_isub hx hb dM_measure_143 (by omega) ?_
                    refine rg_iast hx hb hK hP hD hS 13 0 rfl rfl (by decide) (by omega) dM_measure_144 (fun H locs hP hD hS => ?_)
                    have hP : va_P (dC, dI) rg_cl (rm_W h a cI cL cod cnt bra cof mad nu co se li le fi sc ti un ma dr (upd fr w (nI i)) (upd to w (nI (lx.length - q))) en) H := hP
                    have hD : va_D A (rm_W h a cI cL cod cnt bra cof mad nu co se li le fi sc ti un ma dr (upd fr w (nI i)) (upd to w (nI (lx.length - q))) en) := hD
                    refine lv_aload_n hx hb dM_measure_145 rfl (lv_at hl 0 rfl) ?_
                    refine va_get (D := (dC, dI)) (ci := 0) (C := "RevisionGroveModel") (T := TM) (N := 19) hx hb hts inM hown hK hP 0 rfl rfl 18 (by decide) (hts _ tw_619) (fun _ h9 => h9) rfl dM_measure_146 ?_
                    refine lv_iload hx hb dM_measure_149 (lv_at hl 4 rfl) ?_
                    refine lv_iload hx hb dM_measure_151 (lv_at hl 6 rfl) ?_
                    refine lv_iload hx hb dM_measure_153 (lv_at hl 8 rfl) ?_
                    refine rg_isub hx hb dM_measure_155 (by omega) ?_
                    refine rg_iast hx hb hK hP hD hS 14 0 rfl rfl (by decide) (by omega) dM_measure_156 (fun H locs hP hD hS => ?_)
                    have hP : va_P (dC, dI) rg_cl (rm_W h a cI cL cod cnt bra cof mad nu co se li le fi sc ti un ma dr (upd fr w (nI i)) (upd to w (nI (lx.length - q))) (upd en w (nI (ly.length - q)))) H := hP
                    have hD : va_D A (rm_W h a cI cL cod cnt bra cof mad nu co se li le fi sc ti un ma dr (upd fr w (nI i)) (upd to w (nI (lx.length - q))) (upd en w (nI (ly.length - q)))) := hD
                    subst hq9
                    subst hi9
                    rw [hQ]
                    exact rg_vret hx hb hr hlk hK hP hD hS dM_measure_157 () rfl trivial
                  · have hee := h20
                    refine lv_iinc (k := 8) (v := nI (q + 1)) (lv' := [(8, .int (nI (q + 1))), (0, .ref h), (1, .int (nI f)), (2, .int (nI x)), (3, .int (nI y)), (4, .int (nI w)), (5, .int (nI lx.length)), (6, .int (nI ly.length)), (7, .int (nI i))]) hx hb dM_measure_118 hl rfl (nI_1 _) (by decide) rfl (fun ls hl => ?_)
                    refine lv_goto (tgt := 69) hx hb dM_measure_121 (by decide) ?_
                    exact ih69 (q + 1) _ _ _ (by omega) (by omega) (by omega) (lt_s hq3 hee) hP hD hS (lv_sub hl [1, 2, 3, 4, 5, 6, 7, 8, 0] rfl)
          exact lp69 _ 0 _ _ _ (Nat.lt_succ_self _) (Nat.zero_le _) (Nat.zero_le _) (fun j hj => absurd hj (Nat.not_lt_zero j)) hP hD hS (lv_sub hl [1, 2, 3, 4, 5, 6, 7, 8, 0] rfl)
        · have hka := hcx i (by omega)
          have hkb := hcy i (by omega)
          refine lv_aload_n hx hb dM_measure_41 rfl (lv_at hl 0 rfl) ?_
          refine lv_iload_n hx hb dM_measure_42 rfl (lv_at hl 2 rfl) ?_
          refine lv_iload_n hx hb dM_measure_43 rfl (lv_at hl 1 rfl) ?_
          refine lv_iload hx hb dM_measure_44 (lv_at hl 7 rfl) ?_
          refine rg_calli hD hS hA (va_runV (As := [.int (nI x), .int (nI f), .int (nI i)]) (rest := []) ⟨hx, hb, hml, hown, hts⟩ (c_rm_at x f i (by omega) _) (cwV 3 hts (rg_gV tw_769 tw_771 ts_M_at tw_5 tw_772) rfl rfl rfl (by decide +kernel) ⟨by rw [hR]; exact Nat.le_of_ble_eq_true rfl, by rw [hR]; exact Nat.le_of_ble_eq_true rfl⟩) (rg_preV rfl hK hP hD (ci := 0) (q0 := 0) rfl rfl) rfl rfl hl.1 rfl (lv_room (Nat.le_of_ble_eq_true rfl)) dM_measure_46 ⟨Nat.zero_le _, Nat.zero_le _⟩) (fun r21 u22 H locs hw23 hP hD hS => ?_)
          subst hw23
          have hP : va_P (dC, dI) rg_cl (rm_W h a cI cL cod cnt bra cof mad nu co se li le fi sc ti un ma dr fr to en) H := hP
          have hD : va_D A (rm_W h a cI cL cod cnt bra cof mad nu co se li le fi sc ti un ma dr fr to en) := hD
          refine rg_top (show (.int (li (16 * x + 8 * f + i)) : Value) = .int (lx.getD i 0) by rw [hka]) ?_
          refine lv_aload_n hx hb dM_measure_49 rfl (lv_at hl 0 rfl) ?_
          refine lv_iload_n hx hb dM_measure_50 rfl (lv_at hl 3 rfl) ?_
          refine lv_iload_n hx hb dM_measure_51 rfl (lv_at hl 1 rfl) ?_
          refine lv_iload hx hb dM_measure_52 (lv_at hl 7 rfl) ?_
          refine rg_calli hD hS hA (va_runV (As := [.int (nI y), .int (nI f), .int (nI i)]) (rest := [.int (lx.getD i 0)]) ⟨hx, hb, hml, hown, hts⟩ (c_rm_at y f i (by omega) _) (cwV 3 hts (rg_gV tw_769 tw_771 ts_M_at tw_5 tw_772) rfl rfl rfl (by decide +kernel) ⟨by rw [hR]; exact Nat.le_of_ble_eq_true rfl, by rw [hR]; exact Nat.le_of_ble_eq_true rfl⟩) (rg_preV rfl hK hP hD (ci := 0) (q0 := 0) rfl rfl) rfl rfl hl.1 rfl (lv_room (Nat.le_of_ble_eq_true rfl)) dM_measure_54 ⟨Nat.zero_le _, Nat.zero_le _⟩) (fun r24 u25 H locs hw26 hP hD hS => ?_)
          subst hw26
          have hP : va_P (dC, dI) rg_cl (rm_W h a cI cL cod cnt bra cof mad nu co se li le fi sc ti un ma dr fr to en) H := hP
          have hD : va_D A (rm_W h a cI cL cod cnt bra cof mad nu co se li le fi sc ti un ma dr fr to en) := hD
          refine rg_top (show (.int (li (16 * y + 8 * f + i)) : Value) = .int (ly.getD i 0) by rw [hkb]) ?_
          refine lv_icmp_ne (tgt := 66) hx hb dM_measure_57 (by decide) (fun h27 => ?_) (fun h27 => ?_)
          · have hi9 : i = rg_hd lx ly := rg_hd_end hi1 hi2 hi3 (fun _ _ => h27)
            refine lv_iconst (v := nI 0) hx hb dM_measure_66 (by decide) ?_
            refine lv_istore (lv' := [(8, .int (nI 0)), (0, .ref h), (1, .int (nI f)), (2, .int (nI x)), (3, .int (nI y)), (4, .int (nI w)), (5, .int (nI lx.length)), (6, .int (nI ly.length)), (7, .int (nI i))]) hx hb dM_measure_67 hl (by decide) rfl (fun ls hl => ?_)
            have lp69 : ∀ (fuel : Nat) (q : Nat) (H : Heap) (locs : List Loc) (ls : Array Slot), lx.length + 1 - q < fuel → q ≤ lx.length - i → q ≤ ly.length - i → (∀ j, j < q → lx.getD (lx.length - 1 - j) 0 = ly.getD (ly.length - 1 - j) 0) → va_P (dC, dI) rg_cl (rm_W h a cI cL cod cnt bra cof mad nu co se li le fi sc ti un ma dr fr to en) H → va_D A (rm_W h a cI cL cod cnt bra cof mad nu co se li le fi sc ti un ma dr fr to en) → va_S A s.heap H locs → lv_has ls 9 [(0, .ref h), (1, .int (nI f)), (2, .int (nI x)), (3, .int (nI y)), (4, .int (nI w)), (5, .int (nI lx.length)), (6, .int (nI ly.length)), (7, .int (nI i)), (8, .int (nI q))] → W p l e R s m args below meth c H locs 0 0 Q (F0 m 69 ls []) := by
              intro fuel
              induction fuel with
              | zero => intro q H locs ls hf; exact absurd hf (Nat.not_lt_zero _)
              | succ fuel ih69 =>
                intro q H locs ls hfu69 hq1 hq2 hq3 hP hD hS hl
                refine lv_iload hx hb dM_measure_69 (lv_at hl 8 rfl) ?_
                refine lv_iload hx hb dM_measure_71 (lv_at hl 5 rfl) ?_
                refine lv_iload hx hb dM_measure_73 (lv_at hl 7 rfl) ?_
                refine rg_isub hx hb dM_measure_75 (by omega) ?_
                refine rg_icmp_ge (tgt := 124) hx hb dM_measure_76 (by decide) (by omega) (by omega) (fun h28 => ?_) (fun h28 => ?_)
                · have hq9 : q = rg_tl lx ly := rg_tl_end hi9 hq1 hq2 hq3 (fun h1 h2 => by exfalso; omega)
                  refine lv_aload_n hx hb dM_measure_124 rfl (lv_at hl 0 rfl) ?_
                  refine va_get (D := (dC, dI)) (ci := 0) (C := "RevisionGroveModel") (T := TM) (N := 19) hx hb hts inM hown hK hP 0 rfl rfl 16 (by decide) (hts _ tw_617) (fun _ h9 => h9) rfl dM_measure_125 ?_
                  refine lv_iload hx hb dM_measure_128 (lv_at hl 4 rfl) ?_
                  refine lv_iload hx hb dM_measure_130 (lv_at hl 7 rfl) ?_
                  refine rg_iast hx hb hK hP hD hS 12 0 rfl rfl (by decide) (by omega) dM_measure_132 (fun H locs hP hD hS => ?_)
                  have hP : va_P (dC, dI) rg_cl (rm_W h a cI cL cod cnt bra cof mad nu co se li le fi sc ti un ma dr (upd fr w (nI i)) to en) H := hP
                  have hD : va_D A (rm_W h a cI cL cod cnt bra cof mad nu co se li le fi sc ti un ma dr (upd fr w (nI i)) to en) := hD
                  refine lv_aload_n hx hb dM_measure_133 rfl (lv_at hl 0 rfl) ?_
                  refine va_get (D := (dC, dI)) (ci := 0) (C := "RevisionGroveModel") (T := TM) (N := 19) hx hb hts inM hown hK hP 0 rfl rfl 17 (by decide) (hts _ tw_618) (fun _ h9 => h9) rfl dM_measure_134 ?_
                  refine lv_iload hx hb dM_measure_137 (lv_at hl 4 rfl) ?_
                  refine lv_iload hx hb dM_measure_139 (lv_at hl 5 rfl) ?_
                  refine lv_iload hx hb dM_measure_141 (lv_at hl 8 rfl) ?_
                  refine rg_isub hx hb dM_measure_143 (by omega) ?_
                  refine rg_iast hx hb hK hP hD hS 13 0 rfl rfl (by decide) (by omega) dM_measure_144 (fun H locs hP hD hS => ?_)
                  have hP : va_P (dC, dI) rg_cl (rm_W h a cI cL cod cnt bra cof mad nu co se li le fi sc ti un ma dr (upd fr w (nI i)) (upd to w (nI (lx.length - q))) en) H := hP
                  have hD : va_D A (rm_W h a cI cL cod cnt bra cof mad nu co se li le fi sc ti un ma dr (upd fr w (nI i)) (upd to w (nI (lx.length - q))) en) := hD
                  refine lv_aload_n hx hb dM_measure_145 rfl (lv_at hl 0 rfl) ?_
                  refine va_get (D := (dC, dI)) (ci := 0) (C := "RevisionGroveModel") (T := TM) (N := 19) hx hb hts inM hown hK hP 0 rfl rfl 18 (by decide) (hts _ tw_619) (fun _ h9 => h9) rfl dM_measure_146 ?_
                  refine lv_iload hx hb dM_measure_149 (lv_at hl 4 rfl) ?_
                  refine lv_iload hx hb dM_measure_151 (lv_at hl 6 rfl) ?_
                  refine lv_iload hx hb dM_measure_153 (lv_at hl 8 rfl) ?_
                  refine rg_isub hx hb dM_measure_155 (by omega) ?_
                  refine rg_iast hx hb hK hP hD hS 14 0 rfl rfl (by decide) (by omega) dM_measure_156 (fun H locs hP hD hS => ?_)
                  have hP : va_P (dC, dI) rg_cl (rm_W h a cI cL cod cnt bra cof mad nu co se li le fi sc ti un ma dr (upd fr w (nI i)) (upd to w (nI (lx.length - q))) (upd en w (nI (ly.length - q)))) H := hP
                  have hD : va_D A (rm_W h a cI cL cod cnt bra cof mad nu co se li le fi sc ti un ma dr (upd fr w (nI i)) (upd to w (nI (lx.length - q))) (upd en w (nI (ly.length - q)))) := hD
                  subst hq9
                  subst hi9
                  rw [hQ]
                  exact rg_vret hx hb hr hlk hK hP hD hS dM_measure_157 () rfl trivial
                · refine lv_iload hx hb dM_measure_79 (lv_at hl 8 rfl) ?_
                  refine lv_iload hx hb dM_measure_81 (lv_at hl 6 rfl) ?_
                  refine lv_iload hx hb dM_measure_83 (lv_at hl 7 rfl) ?_
                  refine rg_isub hx hb dM_measure_85 (by omega) ?_
                  refine rg_icmp_ge (tgt := 124) hx hb dM_measure_86 (by decide) (by omega) (by omega) (fun h29 => ?_) (fun h29 => ?_)
                  · have hq9 : q = rg_tl lx ly := rg_tl_end hi9 hq1 hq2 hq3 (fun h1 h2 => by exfalso; omega)
                    refine lv_aload_n hx hb dM_measure_124 rfl (lv_at hl 0 rfl) ?_
                    refine va_get (D := (dC, dI)) (ci := 0) (C := "RevisionGroveModel") (T := TM) (N := 19) hx hb hts inM hown hK hP 0 rfl rfl 16 (by decide) (hts _ tw_617) (fun _ h9 => h9) rfl dM_measure_125 ?_
                    refine lv_iload hx hb dM_measure_128 (lv_at hl 4 rfl) ?_
                    refine lv_iload hx hb dM_measure_130 (lv_at hl 7 rfl) ?_
                    refine rg_iast hx hb hK hP hD hS 12 0 rfl rfl (by decide) (by omega) dM_measure_132 (fun H locs hP hD hS => ?_)
                    have hP : va_P (dC, dI) rg_cl (rm_W h a cI cL cod cnt bra cof mad nu co se li le fi sc ti un ma dr (upd fr w (nI i)) to en) H := hP
                    have hD : va_D A (rm_W h a cI cL cod cnt bra cof mad nu co se li le fi sc ti un ma dr (upd fr w (nI i)) to en) := hD
                    refine lv_aload_n hx hb dM_measure_133 rfl (lv_at hl 0 rfl) ?_
                    refine va_get (D := (dC, dI)) (ci := 0) (C := "RevisionGroveModel") (T := TM) (N := 19) hx hb hts inM hown hK hP 0 rfl rfl 17 (by decide) (hts _ tw_618) (fun _ h9 => h9) rfl dM_measure_134 ?_
                    refine lv_iload hx hb dM_measure_137 (lv_at hl 4 rfl) ?_
                    refine lv_iload hx hb dM_measure_139 (lv_at hl 5 rfl) ?_
                    refine lv_iload hx hb dM_measure_141 (lv_at hl 8 rfl) ?_
                    refine rg_isub hx hb dM_measure_143 (by omega) ?_
                    refine rg_iast hx hb hK hP hD hS 13 0 rfl rfl (by decide) (by omega) dM_measure_144 (fun H locs hP hD hS => ?_)
                    have hP : va_P (dC, dI) rg_cl (rm_W h a cI cL cod cnt bra cof mad nu co se li le fi sc ti un ma dr (upd fr w (nI i)) (upd to w (nI (lx.length - q))) en) H := hP
                    have hD : va_D A (rm_W h a cI cL cod cnt bra cof mad nu co se li le fi sc ti un ma dr (upd fr w (nI i)) (upd to w (nI (lx.length - q))) en) := hD
                    refine lv_aload_n hx hb dM_measure_145 rfl (lv_at hl 0 rfl) ?_
                    refine va_get (D := (dC, dI)) (ci := 0) (C := "RevisionGroveModel") (T := TM) (N := 19) hx hb hts inM hown hK hP 0 rfl rfl 18 (by decide) (hts _ tw_619) (fun _ h9 => h9) rfl dM_measure_146 ?_
                    refine lv_iload hx hb dM_measure_149 (lv_at hl 4 rfl) ?_
                    refine lv_iload hx hb dM_measure_151 (lv_at hl 6 rfl) ?_
                    refine lv_iload hx hb dM_measure_153 (lv_at hl 8 rfl) ?_
                    refine rg_isub hx hb dM_measure_155 (by omega) ?_
                    refine rg_iast hx hb hK hP hD hS 14 0 rfl rfl (by decide) (by omega) dM_measure_156 (fun H locs hP hD hS => ?_)
                    have hP : va_P (dC, dI) rg_cl (rm_W h a cI cL cod cnt bra cof mad nu co se li le fi sc ti un ma dr (upd fr w (nI i)) (upd to w (nI (lx.length - q))) (upd en w (nI (ly.length - q)))) H := hP
                    have hD : va_D A (rm_W h a cI cL cod cnt bra cof mad nu co se li le fi sc ti un ma dr (upd fr w (nI i)) (upd to w (nI (lx.length - q))) (upd en w (nI (ly.length - q)))) := hD
                    subst hq9
                    subst hi9
                    rw [hQ]
                    exact rg_vret hx hb hr hlk hK hP hD hS dM_measure_157 () rfl trivial
                  · have hka := hcx (lx.length - 1 - q) (by omega)
                    have hkb := hcy (ly.length - 1 - q) (by omega)
                    refine lv_aload_n hx hb dM_measure_89 rfl (lv_at hl 0 rfl) ?_
                    refine lv_iload_n hx hb dM_measure_90 rfl (lv_at hl 2 rfl) ?_
                    refine lv_iload_n hx hb dM_measure_91 rfl (lv_at hl 1 rfl) ?_
                    refine lv_iload hx hb dM_measure_92 (lv_at hl 5 rfl) ?_
                    refine lv_iconst (v := nI 1) hx hb dM_measure_94 (by decide) ?_
                    refine rg_isub hx hb dM_measure_95 (by omega) ?_
                    refine lv_iload hx hb dM_measure_96 (lv_at hl 8 rfl) ?_
                    refine rg_isub hx hb dM_measure_98 (by omega) ?_
                    refine rg_calli hD hS hA (va_runV (As := [.int (nI x), .int (nI f), .int (nI (lx.length - 1 - q))]) (rest := []) ⟨hx, hb, hml, hown, hts⟩ (c_rm_at x f (lx.length - 1 - q) (by omega) _) (cwV 3 hts (rg_gV tw_769 tw_771 ts_M_at tw_5 tw_772) rfl rfl rfl (by decide +kernel) ⟨by rw [hR]; exact Nat.le_of_ble_eq_true rfl, by rw [hR]; exact Nat.le_of_ble_eq_true rfl⟩) (rg_preV rfl hK hP hD (ci := 0) (q0 := 0) rfl rfl) rfl rfl hl.1 rfl (lv_room (Nat.le_of_ble_eq_true rfl)) dM_measure_99 ⟨Nat.zero_le _, Nat.zero_le _⟩) (fun r30 u31 H locs hw32 hP hD hS => ?_)
                    subst hw32
                    have hP : va_P (dC, dI) rg_cl (rm_W h a cI cL cod cnt bra cof mad nu co se li le fi sc ti un ma dr fr to en) H := hP
                    have hD : va_D A (rm_W h a cI cL cod cnt bra cof mad nu co se li le fi sc ti un ma dr fr to en) := hD
                    refine rg_top (show (.int (li (16 * x + 8 * f + (lx.length - 1 - q))) : Value) = .int (lx.getD (lx.length - 1 - q) 0) by rw [hka]) ?_
                    refine lv_aload_n hx hb dM_measure_102 rfl (lv_at hl 0 rfl) ?_
                    refine lv_iload_n hx hb dM_measure_103 rfl (lv_at hl 3 rfl) ?_
                    refine lv_iload_n hx hb dM_measure_104 rfl (lv_at hl 1 rfl) ?_
                    refine lv_iload hx hb dM_measure_105 (lv_at hl 6 rfl) ?_
                    refine lv_iconst (v := nI 1) hx hb dM_measure_107 (by decide) ?_
                    refine rg_isub hx hb dM_measure_108 (by omega) ?_
                    refine lv_iload hx hb dM_measure_109 (lv_at hl 8 rfl) ?_
                    refine rg_isub hx hb dM_measure_111 (by omega) ?_
                    refine rg_calli hD hS hA (va_runV (As := [.int (nI y), .int (nI f), .int (nI (ly.length - 1 - q))]) (rest := [.int (lx.getD (lx.length - 1 - q) 0)]) ⟨hx, hb, hml, hown, hts⟩ (c_rm_at y f (ly.length - 1 - q) (by omega) _) (cwV 3 hts (rg_gV tw_769 tw_771 ts_M_at tw_5 tw_772) rfl rfl rfl (by decide +kernel) ⟨by rw [hR]; exact Nat.le_of_ble_eq_true rfl, by rw [hR]; exact Nat.le_of_ble_eq_true rfl⟩) (rg_preV rfl hK hP hD (ci := 0) (q0 := 0) rfl rfl) rfl rfl hl.1 rfl (lv_room (Nat.le_of_ble_eq_true rfl)) dM_measure_112 ⟨Nat.zero_le _, Nat.zero_le _⟩) (fun r33 u34 H locs hw35 hP hD hS => ?_)
                    subst hw35
                    have hP : va_P (dC, dI) rg_cl (rm_W h a cI cL cod cnt bra cof mad nu co se li le fi sc ti un ma dr fr to en) H := hP
                    have hD : va_D A (rm_W h a cI cL cod cnt bra cof mad nu co se li le fi sc ti un ma dr fr to en) := hD
                    refine rg_top (show (.int (li (16 * y + 8 * f + (ly.length - 1 - q))) : Value) = .int (ly.getD (ly.length - 1 - q) 0) by rw [hkb]) ?_
                    refine lv_icmp_ne (tgt := 124) hx hb dM_measure_115 (by decide) (fun h36 => ?_) (fun h36 => ?_)
                    · have hq9 : q = rg_tl lx ly := rg_tl_end hi9 hq1 hq2 hq3 (fun _ _ => h36)
                      refine lv_aload_n hx hb dM_measure_124 rfl (lv_at hl 0 rfl) ?_
                      refine va_get (D := (dC, dI)) (ci := 0) (C := "RevisionGroveModel") (T := TM) (N := 19) hx hb hts inM hown hK hP 0 rfl rfl 16 (by decide) (hts _ tw_617) (fun _ h9 => h9) rfl dM_measure_125 ?_
                      refine lv_iload hx hb dM_measure_128 (lv_at hl 4 rfl) ?_
                      refine lv_iload hx hb dM_measure_130 (lv_at hl 7 rfl) ?_
                      refine rg_iast hx hb hK hP hD hS 12 0 rfl rfl (by decide) (by omega) dM_measure_132 (fun H locs hP hD hS => ?_)
                      have hP : va_P (dC, dI) rg_cl (rm_W h a cI cL cod cnt bra cof mad nu co se li le fi sc ti un ma dr (upd fr w (nI i)) to en) H := hP
                      have hD : va_D A (rm_W h a cI cL cod cnt bra cof mad nu co se li le fi sc ti un ma dr (upd fr w (nI i)) to en) := hD
                      refine lv_aload_n hx hb dM_measure_133 rfl (lv_at hl 0 rfl) ?_
                      refine va_get (D := (dC, dI)) (ci := 0) (C := "RevisionGroveModel") (T := TM) (N := 19) hx hb hts inM hown hK hP 0 rfl rfl 17 (by decide) (hts _ tw_618) (fun _ h9 => h9) rfl dM_measure_134 ?_
                      refine lv_iload hx hb dM_measure_137 (lv_at hl 4 rfl) ?_
                      refine lv_iload hx hb dM_measure_139 (lv_at hl 5 rfl) ?_
                      refine lv_iload hx hb dM_measure_141 (lv_at hl 8 rfl) ?_
                      refine rg_isub hx hb dM_measure_143 (by omega) ?_
                      refine rg_iast hx hb hK hP hD hS 13 0 rfl rfl (by decide) (by omega) dM_measure_144 (fun H locs hP hD hS => ?_)
                      have hP : va_P (dC, dI) rg_cl (rm_W h a cI cL cod cnt bra cof mad nu co se li le fi sc ti un ma dr (upd fr w (nI i)) (upd to w (nI (lx.length - q))) en) H := hP
                      have hD : va_D A (rm_W h a cI cL cod cnt bra cof mad nu co se li le fi sc ti un ma dr (upd fr w (nI i)) (upd to w (nI (lx.length - q))) en) := hD
                      refine lv_aload_n hx hb dM_measure_145 rfl (lv_at hl 0 rfl) ?_
                      refine va_get (D := (dC, dI)) (ci := 0) (C := "RevisionGroveModel") (T := TM) (N := 19) hx hb hts inM hown hK hP 0 rfl rfl 18 (by decide) (hts _ tw_619) (fun _ h9 => h9) rfl dM_measure_146 ?_
                      refine lv_iload hx hb dM_measure_149 (lv_at hl 4 rfl) ?_
                      refine lv_iload hx hb dM_measure_151 (lv_at hl 6 rfl) ?_
                      refine lv_iload hx hb dM_measure_153 (lv_at hl 8 rfl) ?_
                      refine rg_isub hx hb dM_measure_155 (by omega) ?_
                      refine rg_iast hx hb hK hP hD hS 14 0 rfl rfl (by decide) (by omega) dM_measure_156 (fun H locs hP hD hS => ?_)
                      have hP : va_P (dC, dI) rg_cl (rm_W h a cI cL cod cnt bra cof mad nu co se li le fi sc ti un ma dr (upd fr w (nI i)) (upd to w (nI (lx.length - q))) (upd en w (nI (ly.length - q)))) H := hP
                      have hD : va_D A (rm_W h a cI cL cod cnt bra cof mad nu co se li le fi sc ti un ma dr (upd fr w (nI i)) (upd to w (nI (lx.length - q))) (upd en w (nI (ly.length - q)))) := hD
                      subst hq9
                      subst hi9
                      rw [hQ]
                      exact rg_vret hx hb hr hlk hK hP hD hS dM_measure_157 () rfl trivial
                    · have hee := h36
                      refine lv_iinc (k := 8) (v := nI (q + 1)) (lv' := [(8, .int (nI (q + 1))), (0, .ref h), (1, .int (nI f)), (2, .int (nI x)), (3, .int (nI y)), (4, .int (nI w)), (5, .int (nI lx.length)), (6, .int (nI ly.length)), (7, .int (nI i))]) hx hb dM_measure_118 hl rfl (nI_1 _) (by decide) rfl (fun ls hl => ?_)
                      refine lv_goto (tgt := 69) hx hb dM_measure_121 (by decide) ?_
                      exact ih69 (q + 1) _ _ _ (by omega) (by omega) (by omega) (lt_s hq3 hee) hP hD hS (lv_sub hl [1, 2, 3, 4, 5, 6, 7, 8, 0] rfl)
            exact lp69 _ 0 _ _ _ (Nat.lt_succ_self _) (Nat.zero_le _) (Nat.zero_le _) (fun j hj => absurd hj (Nat.not_lt_zero j)) hP hD hS (lv_sub hl [1, 2, 3, 4, 5, 6, 7, 8, 0] rfl)
          · have hee := h27
            refine lv_iinc (k := 7) (v := nI (i + 1)) (lv' := [(7, .int (nI (i + 1))), (0, .ref h), (1, .int (nI f)), (2, .int (nI x)), (3, .int (nI y)), (4, .int (nI w)), (5, .int (nI lx.length)), (6, .int (nI ly.length))]) hx hb dM_measure_60 hl rfl (nI_1 _) (by decide) rfl (fun ls hl => ?_)
            refine lv_goto (tgt := 27) hx hb dM_measure_63 (by decide) ?_
            exact ih27 (i + 1) _ _ _ (by omega) (by omega) (by omega) (lt_s hi3 hee) hP hD hS (lv_sub hl [1, 2, 3, 4, 5, 6, 7, 0] rfl)
  exact lp27 _ 0 _ _ _ (Nat.lt_succ_self _) (Nat.zero_le _) (Nat.zero_le _) (fun j hj => absurd hj (Nat.not_lt_zero j)) hP hD hS (lv_sub hl [3, 4, 5, 6, 7, 2, 1, 0] rfl)
set_option maxHeartbeats 4000000 in
set_option maxRecDepth 100000 in
theorem c_rm_take {l : Launch} {dC : Nat → ClassId} {dI : Nat → Nat → Nat} {h : Nat} {a : Nat → Nat} {cI cL : ClassId} {cod : Int32} {cnt : Int32} {bra : Int32} {cof : Int32} {nu : Nat → Int32} {co : Nat → Int64} {se : Nat → Int32} {li : Nat → Int32} {le : Nat → Int32} {fi : Nat → Int32} {sc : Nat → Int32} {ti : Nat → Int32} {un : Nat → Int32} {ma : Nat → Int32} {dr : Nat → Int32} {fr : Nat → Int32} {to : Nat → Int32} {en : Nat → Int32} (r f i j : Nat) (hr6 : r < 61) (hf2 : f < 2) (D x9 : List Int32) (hij : i ≤ j) (hjx : j ≤ x9.length) (hx8 : x9.length ≤ 8) (hcx : ∀ k, k < x9.length → li (16 * r + 8 * f + k) = x9.getD k 0) (hD24 : D.length + (j - i) ≤ 24) (hDr0 : rg_Dr dr D) : rg_M l yM_take (Cond.code yM_take prog_8_method_28_code 6 none :: rg_tbl) { frames := 1, cells := 0, slots := 0, locals := 23 } (dC, dI) rg_cl [(cI, .int), (cL, .long)] (rm_W h a cI cL cod cnt bra cof (nI D.length) nu co se li le fi sc ti un ma dr fr to en) [.ref h, .int (nI r), .int (nI f), .int (nI i), .int (nI j)] (rg_QV (dC, dI) rg_cl [(cI, .int), (cL, .long)] (S := (Nat → Int32)) (fun u => rg_Dr u (D ++ rg_sg x9 i j)) (fun u => rm_W h a cI cL cod cnt bra cof (nI (D ++ rg_sg x9 i j).length) nu co se li le fi sc ti un ma u fr to en)) 0 0 := by
  refine rg_of prog_8_method_28_code 6 none (by decide) rfl (Nat.le_of_ble_eq_true rfl) ?_
  intro p e R s m args below meth c Q A H locs ls hR hQ hx hb hml hr hts hown hlk hnm hP hK hD hA hS hl
  have hl : lv_has ls 6 [(0, .ref h), (1, .int (nI r)), (2, .int (nI f)), (3, .int (nI i)), (4, .int (nI j))] := hl
  have hts : ∀ w ∈ rg_tbl, w.before args s = true := fun w h => hts w (List.mem_cons_of_mem _ h)
  refine lv_iload_n hx hb dM_take_0 rfl (lv_at hl 3 rfl) ?_
  refine lv_istore (lv' := [(5, .int (nI i)), (0, .ref h), (1, .int (nI r)), (2, .int (nI f)), (3, .int (nI i)), (4, .int (nI j))]) hx hb dM_take_1 hl (by decide) rfl (fun ls hl => ?_)
  have lp3 : ∀ (fuel : Nat) (k : Nat) (dr1 : Nat → Int32) (H : Heap) (locs : List Loc) (ls : Array Slot), j - k < fuel → i ≤ k → k ≤ j → rg_Dr dr1 (D ++ rg_sg x9 i k) → va_P (dC, dI) rg_cl (rm_W h a cI cL cod cnt bra cof (nI (D ++ rg_sg x9 i k).length) nu co se li le fi sc ti un ma dr1 fr to en) H → va_D A (rm_W h a cI cL cod cnt bra cof (nI (D ++ rg_sg x9 i k).length) nu co se li le fi sc ti un ma dr1 fr to en) → va_S A s.heap H locs → lv_has ls 6 [(0, .ref h), (1, .int (nI r)), (2, .int (nI f)), (3, .int (nI i)), (4, .int (nI j)), (5, .int (nI k))] → W p l e R s m args below meth c H locs 0 0 Q (F0 m 3 ls []) := by
    intro fuel
    induction fuel with
    | zero => intro k dr1 H locs ls hf; exact absurd hf (Nat.not_lt_zero _)
    | succ fuel ih3 =>
      intro k dr1 H locs ls hfu3 hk1 hk2 hDr hP hD hS hl
      refine lv_iload hx hb dM_take_3 (lv_at hl 5 rfl) ?_
      refine lv_iload hx hb dM_take_5 (lv_at hl 4 rfl) ?_
      refine rg_icmp_ge (tgt := 43) hx hb dM_take_7 (by decide) (by omega) (by omega) (fun h1 => ?_) (fun h1 => ?_)
      · obtain rfl : k = j := by omega
        rw [hQ]
        exact rg_vret hx hb hr hlk hK hP hD hS dM_take_43 dr1 rfl hDr
      · have hL := rg_sg_l (D := D) (x := x9) (i := i) (k := k) (by omega)
        have hka := hcx k (by omega)
        refine lv_aload_n hx hb dM_take_10 rfl (lv_at hl 0 rfl) ?_
        refine va_get (D := (dC, dI)) (ci := 0) (C := "RevisionGroveModel") (T := TM) (N := 19) hx hb hts inM hown hK hP 0 rfl rfl 15 (by decide) (hts _ tw_616) (fun _ h9 => h9) rfl dM_take_11 ?_
        refine lv_aload_n hx hb dM_take_14 rfl (lv_at hl 0 rfl) ?_
        refine va_get (D := (dC, dI)) (ci := 0) (C := "RevisionGroveModel") (T := TM) (N := 19) hx hb hts inM hown hK hP 0 rfl rfl 14 (by decide) (hts _ tw_615) (fun _ h9 => h9) rfl dM_take_15 ?_
        refine lv_aload_n hx hb dM_take_18 rfl (lv_at hl 0 rfl) ?_
        refine lv_iload_n hx hb dM_take_19 rfl (lv_at hl 1 rfl) ?_
        refine lv_iload_n hx hb dM_take_20 rfl (lv_at hl 2 rfl) ?_
        refine lv_iload hx hb dM_take_21 (lv_at hl 5 rfl) ?_
        refine rg_calli hD hS hA (va_runV (As := [.int (nI r), .int (nI f), .int (nI k)]) (rest := [.int (nI ((D ++ rg_sg x9 i k).length)), .ref ((a 11))]) ⟨hx, hb, hml, hown, hts⟩ (c_rm_at r f k (by omega) _) (cwV 3 hts (rg_gV tw_769 tw_771 ts_M_at tw_5 tw_772) rfl rfl rfl (by decide +kernel) ⟨by rw [hR]; exact Nat.le_of_ble_eq_true rfl, by rw [hR]; exact Nat.le_of_ble_eq_true rfl⟩) (rg_preV rfl hK hP hD (ci := 0) (q0 := 0) rfl rfl) rfl rfl hl.1 rfl (lv_room (Nat.le_of_ble_eq_true rfl)) dM_take_23 ⟨Nat.zero_le _, Nat.zero_le _⟩) (fun r2 u3 H locs hw4 hP hD hS => ?_)
        subst hw4
        have hP : va_P (dC, dI) rg_cl (rm_W h a cI cL cod cnt bra cof (nI (D ++ rg_sg x9 i k).length) nu co se li le fi sc ti un ma dr1 fr to en) H := hP
        have hD : va_D A (rm_W h a cI cL cod cnt bra cof (nI (D ++ rg_sg x9 i k).length) nu co se li le fi sc ti un ma dr1 fr to en) := hD
        refine rg_top (show (.int (li (16 * r + 8 * f + k)) : Value) = .int (x9.getD k 0) by rw [hka]) ?_
        refine rg_iast hx hb hK hP hD hS 11 0 rfl rfl (by decide) (by omega) dM_take_26 (fun H locs hP hD hS => ?_)
        have hP : va_P (dC, dI) rg_cl (rm_W h a cI cL cod cnt bra cof (nI (D ++ rg_sg x9 i k).length) nu co se li le fi sc ti un ma (upd dr1 ((D ++ rg_sg x9 i k).length) (x9.getD k 0)) fr to en) H := hP
        have hD : va_D A (rm_W h a cI cL cod cnt bra cof (nI (D ++ rg_sg x9 i k).length) nu co se li le fi sc ti un ma (upd dr1 ((D ++ rg_sg x9 i k).length) (x9.getD k 0)) fr to en) := hD
        refine lv_aload_n hx hb dM_take_27 rfl (lv_at hl 0 rfl) ?_
        refine lv_dup hx hb dM_take_28 rfl ?_
        refine va_get (D := (dC, dI)) (ci := 0) (C := "RevisionGroveModel") (T := TM) (N := 19) hx hb hts inM hown hK hP 0 rfl rfl 14 (by decide) (hts _ tw_615) (fun _ h9 => h9) rfl dM_take_29 ?_
        refine lv_iconst (v := nI 1) hx hb dM_take_32 (by decide) ?_
        refine rg_iadd hx hb dM_take_33 ?_
        refine va_put (D := (dC, dI)) (ci := 0) (v := .int (nI ((D ++ rg_sg x9 i k).length + 1))) (ty := .int) (C := "RevisionGroveModel") (T := TM) (N := 19) hx hb hts inM tyM tyM_ok nmM hown hK hP hD hS 0 rfl rfl 14 (by decide) (hts _ tw_615) (fun _ h9 => h9) rfl (by decide +kernel) rfl rfl (Nat.le_of_ble_eq_true rfl) dM_take_34 (fun H locs hP hD hS => ?_)
        have hP : va_P (dC, dI) rg_cl (rm_W h a cI cL cod cnt bra cof (nI ((D ++ rg_sg x9 i k).length + 1)) nu co se li le fi sc ti un ma (upd dr1 ((D ++ rg_sg x9 i k).length) (x9.getD k 0)) fr to en) H := hP
        have hD : va_D A (rm_W h a cI cL cod cnt bra cof (nI ((D ++ rg_sg x9 i k).length + 1)) nu co se li le fi sc ti un ma (upd dr1 ((D ++ rg_sg x9 i k).length) (x9.getD k 0)) fr to en) := hD
        refine lv_iinc (k := 5) (v := nI (k + 1)) (lv' := [(5, .int (nI (k + 1))), (0, .ref h), (1, .int (nI r)), (2, .int (nI f)), (3, .int (nI i)), (4, .int (nI j))]) hx hb dM_take_37 hl rfl (nI_1 _) (by decide) rfl (fun ls hl => ?_)
        refine lv_goto (tgt := 3) hx hb dM_take_40 (by decide) ?_
        exact ih3 (k + 1) (upd dr1 ((D ++ rg_sg x9 i k).length) (x9.getD k 0)) _ _ _ (by omega) (by omega) (by omega) (rg_Dr_s hDr hk1 (by omega) rfl) (by rw [← rg_sg_s hk1 (by omega)]; exact hP) (by rw [← rg_sg_s hk1 (by omega)]; exact hD) hS (lv_sub hl [1, 2, 3, 4, 5, 0] rfl)
  exact lp3 _ i dr _ _ _ (Nat.lt_succ_self _) (Nat.le_refl _) hij (by rw [rg_sg_nil, List.append_nil]; exact hDr0) (by rw [rg_sg_nil, List.append_nil]; exact hP) (by rw [rg_sg_nil, List.append_nil]; exact hD) hS (lv_sub hl [1, 2, 3, 4, 5, 0] rfl)
