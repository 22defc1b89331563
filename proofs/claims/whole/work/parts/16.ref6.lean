set_option maxHeartbeats 4000000 in
set_option maxRecDepth 100000 in
theorem c_rm_isBranch {l : Launch} {dC : Nat → ClassId} {dI : Nat → Nat → Nat} {h : Nat} {a : Nat → Nat} {cI cL : ClassId} {cod : Int32} {cnt : Int32} {bra : Int32} {cof : Int32} {mad : Int32} {nu : Nat → Int32} {co : Nat → Int64} {se : Nat → Int32} {li : Nat → Int32} {le : Nat → Int32} {fi : Nat → Int32} {sc : Nat → Int32} {ti : Nat → Int32} {un : Nat → Int32} {ma : Nat → Int32} {dr : Nat → Int32} {fr : Nat → Int32} {to : Nat → Int32} {en : Nat → Int32} (x : Int32) : rg_M l yM_isBranch (Cond.code yM_isBranch prog_8_method_15_code 1 (some .boolean) :: rg_tbl) { frames := 0, cells := 0, slots := 0, locals := 0 } (dC, dI) rg_cl [(cI, .int), (cL, .long)] (rm_W h a cI cL cod cnt bra cof mad nu co se li le fi sc ti un ma dr fr to en) [.int x] (rg_QI (dC, dI) rg_cl [(cI, .int), (cL, .long)] (S := Unit) (fun z _ => z = bif rg_isB x then 1 else 0) (fun _ => rm_W h a cI cL cod cnt bra cof mad nu co se li le fi sc ti un ma dr fr to en)) 0 0 := by
  refine rg_of prog_8_method_15_code 1 (some .boolean) (by decide) rfl (Nat.le_of_ble_eq_true rfl) ?_
  intro p e R s m args below meth c Q A H locs ls hR hQ hx hb hml hr hts hown hlk hnm hP hK hD hA hS hl
  have hl : lv_has ls 1 [(0, .int x)] := hl
  have hts : ∀ w ∈ rg_tbl, w.before args s = true := fun w h => hts w (List.mem_cons_of_mem _ h)
  refine lv_iload_n hx hb dM_isBranch_0 rfl (lv_at hl 0 rfl) ?_
  refine lv_if_lt (tgt := 13) hx hb dM_isBranch_1 (by decide) (fun h1 => ?_) (fun h1 => ?_)
  · refine lv_iconst (v := nI 0) hx hb dM_isBranch_13 (by decide) ?_
    rw [hQ]
    exact rg_zret hx hb hr hlk hK hP hD hS (by first | exact Or.inl rfl | exact Or.inr rfl) dM_isBranch_14 () rfl (by rw [show rg_isB x = false from by unfold rg_isB; rw [decide_eq_true h1]; rfl]; rfl)
  · refine lv_iload_n hx hb dM_isBranch_4 rfl (lv_at hl 0 rfl) ?_
    refine lv_iconst (v := nI 3) hx hb dM_isBranch_5 (by decide) ?_
    refine lv_icmp_gt (tgt := 13) hx hb dM_isBranch_6 (by decide) (fun h2 => ?_) (fun h2 => ?_)
    · refine lv_iconst (v := nI 0) hx hb dM_isBranch_13 (by decide) ?_
      rw [hQ]
      exact rg_zret hx hb hr hlk hK hP hD hS (by first | exact Or.inl rfl | exact Or.inr rfl) dM_isBranch_14 () rfl (by rw [show rg_isB x = false from by unfold rg_isB; rw [decide_eq_false h1, decide_eq_true (show (3 : Int32) < x from h2)]; rfl]; rfl)
    · refine lv_iconst (v := nI 1) hx hb dM_isBranch_9 (by decide) ?_
      refine lv_goto (tgt := 14) hx hb dM_isBranch_10 (by decide) ?_
      rw [hQ]
      exact rg_zret hx hb hr hlk hK hP hD hS (by first | exact Or.inl rfl | exact Or.inr rfl) dM_isBranch_14 () rfl (by rw [show rg_isB x = true from by unfold rg_isB; rw [decide_eq_false h1, decide_eq_false (show ¬ (3 : Int32) < x from h2)]; rfl]; rfl)
set_option maxHeartbeats 4000000 in
set_option maxRecDepth 100000 in
theorem c_rm_isRevision {l : Launch} {dC : Nat → ClassId} {dI : Nat → Nat → Nat} {h : Nat} {a : Nat → Nat} {cI cL : ClassId} {cod : Int32} {bra : Int32} {cof : Int32} {mad : Int32} {nu : Nat → Int32} {co : Nat → Int64} {se : Nat → Int32} {li : Nat → Int32} {le : Nat → Int32} {fi : Nat → Int32} {sc : Nat → Int32} {ti : Nat → Int32} {un : Nat → Int32} {ma : Nat → Int32} {dr : Nat → Int32} {fr : Nat → Int32} {to : Nat → Int32} {en : Nat → Int32} (n : Nat) (x : Int32) : rg_M l yM_isRevision (Cond.code yM_isRevision prog_8_method_16_code 2 (some .boolean) :: rg_tbl) { frames := 0, cells := 0, slots := 0, locals := 0 } (dC, dI) rg_cl [(cI, .int), (cL, .long)] (rm_W h a cI cL cod (nI n) bra cof mad nu co se li le fi sc ti un ma dr fr to en) [.ref h, .int x] (rg_QI (dC, dI) rg_cl [(cI, .int), (cL, .long)] (S := Unit) (fun z _ => z = bif rg_isR n x then 1 else 0) (fun _ => rm_W h a cI cL cod (nI n) bra cof mad nu co se li le fi sc ti un ma dr fr to en)) 0 0 := by
  refine rg_of prog_8_method_16_code 2 (some .boolean) (by decide) rfl (Nat.le_of_ble_eq_true rfl) ?_
  intro p e R s m args below meth c Q A H locs ls hR hQ hx hb hml hr hts hown hlk hnm hP hK hD hA hS hl
  have hl : lv_has ls 2 [(0, .ref h), (1, .int x)] := hl
  have hts : ∀ w ∈ rg_tbl, w.before args s = true := fun w h => hts w (List.mem_cons_of_mem _ h)
  refine lv_iload_n hx hb dM_isRevision_0 rfl (lv_at hl 1 rfl) ?_
  refine lv_if_lt (tgt := 16) hx hb dM_isRevision_1 (by decide) (fun h1 => ?_) (fun h1 => ?_)
  · refine lv_iconst (v := nI 0) hx hb dM_isRevision_16 (by decide) ?_
    rw [hQ]
    exact rg_zret hx hb hr hlk hK hP hD hS (by first | exact Or.inl rfl | exact Or.inr rfl) dM_isRevision_17 () rfl (by rw [show rg_isR n x = false from by unfold rg_isR; rw [decide_eq_true h1]; rfl]; rfl)
  · refine lv_iload_n hx hb dM_isRevision_4 rfl (lv_at hl 1 rfl) ?_
    refine lv_aload_n hx hb dM_isRevision_5 rfl (lv_at hl 0 rfl) ?_
    refine va_get (D := (dC, dI)) (ci := 0) (C := "RevisionGroveModel") (T := TM) (N := 19) hx hb hts inM hown hK hP 0 rfl rfl 1 (by decide) (hts _ tw_602) (fun _ h9 => h9) rfl dM_isRevision_6 ?_
    refine lv_icmp_ge (tgt := 16) hx hb dM_isRevision_9 (by decide) (fun h2 => ?_) (fun h2 => ?_)
    · refine lv_iconst (v := nI 0) hx hb dM_isRevision_16 (by decide) ?_
      rw [hQ]
      exact rg_zret hx hb hr hlk hK hP hD hS (by first | exact Or.inl rfl | exact Or.inr rfl) dM_isRevision_17 () rfl (by rw [show rg_isR n x = false from by unfold rg_isR; rw [decide_eq_false h1, decide_eq_true h2]; rfl]; rfl)
    · refine lv_iconst (v := nI 1) hx hb dM_isRevision_12 (by decide) ?_
      refine lv_goto (tgt := 17) hx hb dM_isRevision_13 (by decide) ?_
      rw [hQ]
      exact rg_zret hx hb hr hlk hK hP hD hS (by first | exact Or.inl rfl | exact Or.inr rfl) dM_isRevision_17 () rfl (by rw [show rg_isR n x = true from by unfold rg_isR; rw [decide_eq_false h1, decide_eq_false h2]; rfl]; rfl)
