set_option maxHeartbeats 4000000 in
set_option maxRecDepth 100000 in
theorem c_rm_join {l : Launch} {dC : Nat → ClassId} {dI : Nat → Nat → Nat} {h : Nat} {a : Nat → Nat} {cI cL : ClassId} {cod : Int32} {cnt : Int32} {bra : Int32} {cof : Int32} {mad : Int32} {nu : Nat → Int32} {co : Nat → Int64} {se : Nat → Int32} {li : Nat → Int32} {le : Nat → Int32} {fi : Nat → Int32} {sc : Nat → Int32} {ti : Nat → Int32} {un : Nat → Int32} {ma : Nat → Int32} {dr : Nat → Int32} {fr : Nat → Int32} {to : Nat → Int32} {en : Nat → Int32} (f x y z : Nat) (hf2 : f < 2) (hx6 : x < 61) (hy6 : y < 61) (hz6 : z < 61) (lx ly lz : List Int32) (hx8 : lx.length ≤ 8) (hlx : le (2 * x + f) = nI lx.length) (hcx : ∀ k, k < lx.length → li (16 * x + 8 * f + k) = lx.getD k 0) (hy8 : ly.length ≤ 8) (hly : le (2 * y + f) = nI ly.length) (hcy : ∀ k, k < ly.length → li (16 * y + 8 * f + k) = ly.getD k 0) (hz8 : lz.length ≤ 8) (hlz : le (2 * z + f) = nI lz.length) (hcz : ∀ k, k < lz.length → li (16 * z + 8 * f + k) = lz.getD k 0)  : rg_M l yM_join (Cond.code yM_join prog_8_method_29_code 8 (some .boolean) :: rg_tbl) { frames := 2, cells := 0, slots := 0, locals := 51 } (dC, dI) rg_cl [(cI, .int), (cL, .long)] (rm_W h a cI cL cod cnt bra cof mad nu co se li le fi sc ti un ma dr fr to en) [.ref h, .int (nI f), .int (nI x), .int (nI y), .int (nI z)] (rg_QI (dC, dI) rg_cl [(cI, .int), (cL, .long)] (S := (Int32 × (Nat → Int32) × (Nat → Int32) × (Nat → Int32) × (Nat → Int32))) (fun r9 u => r9 = (bif rg_jok lx ly lz then 1 else 0) ∧ (rg_jok lx ly lz = true → u.1 = nI (rg_jl lx ly lz).length ∧ rg_Dr u.2.1 (rg_jl lx ly lz))) (fun u => rm_W h a cI cL cod cnt bra cof u.1 nu co se li le fi sc ti un ma u.2.1 u.2.2.1 u.2.2.2.1 u.2.2.2.2)) 0 0 := by
  refine rg_of prog_8_method_29_code 8 (some .boolean) (by decide) rfl (Nat.le_of_ble_eq_true rfl) ?_
  intro p e R s m args below meth c Q A H locs ls hR hQ hx hb hml hr hts hown hlk hnm hP hK hD hA hS hl
  have hl : lv_has ls 8 [(0, .ref h), (1, .int (nI f)), (2, .int (nI x)), (3, .int (nI y)), (4, .int (nI z))] := hl
  have hts : ∀ w ∈ rg_tbl, w.before args s = true := fun w h => hts w (List.mem_cons_of_mem _ h)
  have g1 := rg_hd_le lx ly
  have g2 := rg_hd_le lx lz
  have g3 := rg_tl_le lx ly
  have g4 := rg_tl_le lx lz
  have g5 : rg_to lx ly = lx.length - rg_tl lx ly := rfl
  have g6 : rg_to lx lz = lx.length - rg_tl lx lz := rfl
  have g7 : rg_en lx ly = ly.length - rg_tl lx ly := rfl
  have g8 : rg_en lx lz = lz.length - rg_tl lx lz := rfl
  have g9 : ([] : List Int32).length = 0 := rfl
  refine lv_aload_n hx hb dM_join_0 rfl (lv_at hl 0 rfl) ?_
  refine lv_iload_n hx hb dM_join_1 rfl (lv_at hl 1 rfl) ?_
  refine lv_iload_n hx hb dM_join_2 rfl (lv_at hl 2 rfl) ?_
  refine lv_iload_n hx hb dM_join_3 rfl (lv_at hl 3 rfl) ?_
  refine lv_iconst (v := nI 0) hx hb dM_join_4 (by decide) ?_
  refine rg_callv hD hS hA (va_runV (As := [.int (nI f), .int (nI x), .int (nI y), .int (nI 0)]) (rest := []) ⟨hx, hb, hml, hown, hts⟩ (c_rm_measure f x y 0 (by omega) (by omega) (by omega) (by omega) lx ly hx8 hlx hcx hy8 hly hcy _) (cwV 4 hts (rg_gV tw_765 tw_767 ts_M_measure tw_5 tw_768) rfl rfl rfl (by decide +kernel) ⟨by rw [hR]; exact Nat.le_of_ble_eq_true rfl, by rw [hR]; exact Nat.le_of_ble_eq_true rfl⟩) (rg_preV rfl hK hP hD (ci := 0) (q0 := 0) rfl rfl) rfl rfl hl.1 rfl (lv_room (Nat.le_of_ble_eq_true rfl)) dM_join_5 ⟨Nat.zero_le _, Nat.zero_le _⟩) (fun u2 H locs hw3 hP hD hS => ?_)
  have hP : va_P (dC, dI) rg_cl (rm_W h a cI cL cod cnt bra cof mad nu co se li le fi sc ti un ma dr (upd fr 0 (nI (rg_hd lx ly))) (upd to 0 (nI (rg_to lx ly))) (upd en 0 (nI (rg_en lx ly)))) H := hP
  have hD : va_D A (rm_W h a cI cL cod cnt bra cof mad nu co se li le fi sc ti un ma dr (upd fr 0 (nI (rg_hd lx ly))) (upd to 0 (nI (rg_to lx ly))) (upd en 0 (nI (rg_en lx ly)))) := hD
  refine lv_aload_n hx hb dM_join_8 rfl (lv_at hl 0 rfl) ?_
  refine lv_iload_n hx hb dM_join_9 rfl (lv_at hl 1 rfl) ?_
  refine lv_iload_n hx hb dM_join_10 rfl (lv_at hl 2 rfl) ?_
  refine lv_iload hx hb dM_join_11 (lv_at hl 4 rfl) ?_
  refine lv_iconst (v := nI 1) hx hb dM_join_13 (by decide) ?_
  refine rg_callv hD hS hA (va_runV (As := [.int (nI f), .int (nI x), .int (nI z), .int (nI 1)]) (rest := []) ⟨hx, hb, hml, hown, hts⟩ (c_rm_measure f x z 1 (by omega) (by omega) (by omega) (by omega) lx lz hx8 hlx hcx hz8 hlz hcz _) (cwV 4 hts (rg_gV tw_765 tw_767 ts_M_measure tw_5 tw_768) rfl rfl rfl (by decide +kernel) ⟨by rw [hR]; exact Nat.le_of_ble_eq_true rfl, by rw [hR]; exact Nat.le_of_ble_eq_true rfl⟩) (rg_preV rfl hK hP hD (ci := 0) (q0 := 0) rfl rfl) rfl rfl hl.1 rfl (lv_room (Nat.le_of_ble_eq_true rfl)) dM_join_14 ⟨Nat.zero_le _, Nat.zero_le _⟩) (fun u5 H locs hw6 hP hD hS => ?_)
  have hP : va_P (dC, dI) rg_cl (rm_W h a cI cL cod cnt bra cof mad nu co se li le fi sc ti un ma dr (upd (upd fr 0 (nI (rg_hd lx ly))) 1 (nI (rg_hd lx lz))) (upd (upd to 0 (nI (rg_to lx ly))) 1 (nI (rg_to lx lz))) (upd (upd en 0 (nI (rg_en lx ly))) 1 (nI (rg_en lx lz)))) H := hP
  have hD : va_D A (rm_W h a cI cL cod cnt bra cof mad nu co se li le fi sc ti un ma dr (upd (upd fr 0 (nI (rg_hd lx ly))) 1 (nI (rg_hd lx lz))) (upd (upd to 0 (nI (rg_to lx ly))) 1 (nI (rg_to lx lz))) (upd (upd en 0 (nI (rg_en lx ly))) 1 (nI (rg_en lx lz)))) := hD
  refine lv_aload_n hx hb dM_join_17 rfl (lv_at hl 0 rfl) ?_
  refine va_get (D := (dC, dI)) (ci := 0) (C := "RevisionGroveModel") (T := TM) (N := 19) hx hb hts inM hown hK hP 0 rfl rfl 17 (by decide) (hts _ tw_618) (fun _ h9 => h9) rfl dM_join_18 ?_
  refine lv_iconst (v := nI 0) hx hb dM_join_21 (by decide) ?_
  refine rg_iald hx hb hK hP 13 0 rfl rfl (by decide) (by omega) dM_join_22 ?_
  refine rg_top (show (.int ((upd (upd to 0 (nI (rg_to lx ly))) 1 (nI (rg_to lx lz))) 0) : Value) = .int (nI (rg_to lx ly)) by rw [pk_un (by decide), pk_us]) ?_
  refine lv_aload_n hx hb dM_join_23 rfl (lv_at hl 0 rfl) ?_
  refine va_get (D := (dC, dI)) (ci := 0) (C := "RevisionGroveModel") (T := TM) (N := 19) hx hb hts inM hown hK hP 0 rfl rfl 16 (by decide) (hts _ tw_617) (fun _ h9 => h9) rfl dM_join_24 ?_
  refine lv_iconst (v := nI 1) hx hb dM_join_27 (by decide) ?_
  refine rg_iald hx hb hK hP 12 0 rfl rfl (by decide) (by omega) dM_join_28 ?_
  refine rg_top (show (.int ((upd (upd fr 0 (nI (rg_hd lx ly))) 1 (nI (rg_hd lx lz))) 1) : Value) = .int (nI (rg_hd lx lz)) by rw [pk_us]) ?_
  have J29 : ∀ v9 : Bool, v9 = (rg_le1 lx ly lz) → W p l e R s m args below meth c H locs 0 0 Q (F0 m 37 ls [.int (bif v9 then 1 else 0)]) := by
    intro v9 hv9
    subst hv9
    refine lv_istore (lv' := [(5, .int (bif (rg_le1 lx ly lz) then 1 else 0)), (0, .ref h), (1, .int (nI f)), (2, .int (nI x)), (3, .int (nI y)), (4, .int (nI z))]) hx hb dM_join_37 hl (by decide) rfl (fun ls hl => ?_)
    refine lv_aload_n hx hb dM_join_39 rfl (lv_at hl 1 rfl) ?_
    refine va_get (D := (dC, dI)) (ci := 0) (C := "RevisionGroveModel") (T := TM) (N := 19) hx hb hts inM hown hK hP 0 rfl rfl 17 (by decide) (hts _ tw_618) (fun _ h9 => h9) rfl dM_join_40 ?_
    refine lv_iconst (v := nI 1) hx hb dM_join_43 (by decide) ?_
    refine rg_iald hx hb hK hP 13 0 rfl rfl (by decide) (by omega) dM_join_44 ?_
    refine rg_top (show (.int ((upd (upd to 0 (nI (rg_to lx ly))) 1 (nI (rg_to lx lz))) 1) : Value) = .int (nI (rg_to lx lz)) by rw [pk_us]) ?_
    refine lv_aload_n hx hb dM_join_45 rfl (lv_at hl 1 rfl) ?_
    refine va_get (D := (dC, dI)) (ci := 0) (C := "RevisionGroveModel") (T := TM) (N := 19) hx hb hts inM hown hK hP 0 rfl rfl 16 (by decide) (hts _ tw_617) (fun _ h9 => h9) rfl dM_join_46 ?_
    refine lv_iconst (v := nI 0) hx hb dM_join_49 (by decide) ?_
    refine rg_iald hx hb hK hP 12 0 rfl rfl (by decide) (by omega) dM_join_50 ?_
    refine rg_top (show (.int ((upd (upd fr 0 (nI (rg_hd lx ly))) 1 (nI (rg_hd lx lz))) 0) : Value) = .int (nI (rg_hd lx ly)) by rw [pk_un (by decide), pk_us]) ?_
    have J51 : ∀ v9 : Bool, v9 = (rg_le1 lx lz ly) → W p l e R s m args below meth c H locs 0 0 Q (F0 m 59 ls [.int (bif v9 then 1 else 0)]) := by
      intro v9 hv9
      subst hv9
      refine lv_istore (lv' := [(6, .int (bif (rg_le1 lx lz ly) then 1 else 0)), (5, .int (bif (rg_le1 lx ly lz) then 1 else 0)), (0, .ref h), (1, .int (nI f)), (2, .int (nI x)), (3, .int (nI y)), (4, .int (nI z))]) hx hb dM_join_59 hl (by decide) rfl (fun ls hl => ?_)
      refine lv_iload hx hb dM_join_61 (lv_at hl 1 rfl) ?_
      refine lv_iload hx hb dM_join_63 (lv_at hl 0 rfl) ?_
      refine lv_icmp_ne (tgt := 70) hx hb dM_join_65 (by decide) (fun h7 => ?_) (fun h7 => ?_)
      · have hne9 : ¬ rg_le1 lx ly lz = rg_le1 lx lz ly := fun q => h7 (rg_bif_inj.mpr q)
        refine lv_iload hx hb dM_join_70 (lv_at hl 1 rfl) ?_
        refine rg_ifz_eq (tgt := 79) hx hb dM_join_72 (by decide) (fun h8 => ?_) (fun h8 => ?_)
        · have hle : rg_le1 lx ly lz = false := h8
          have hfo : rg_le1 lx lz ly = true := by rw [hle] at hne9; exact rg_bT (fun q => hne9 q.symm)
          have hA9 : rg_to lx lz ≤ rg_hd lx ly := of_decide_eq_true hfo
          refine lv_iconst (v := nI 1) hx hb dM_join_79 (by decide) ?_
          refine lv_istore (lv' := [(7, .int (nI 1)), (6, .int (bif (rg_le1 lx lz ly) then 1 else 0)), (5, .int (bif (rg_le1 lx ly lz) then 1 else 0)), (0, .ref h), (1, .int (nI f)), (2, .int (nI x)), (3, .int (nI y)), (4, .int (nI z))]) hx hb dM_join_80 hl (by decide) rfl (fun ls hl => ?_)
          refine lv_aload_n hx hb dM_join_82 rfl (lv_at hl 3 rfl) ?_
          refine lv_iconst (v := nI 0) hx hb dM_join_83 (by decide) ?_
          refine va_put (D := (dC, dI)) (ci := 0) (v := .int (nI 0)) (ty := .int) (C := "RevisionGroveModel") (T := TM) (N := 19) hx hb hts inM tyM tyM_ok nmM hown hK hP hD hS 0 rfl rfl 14 (by decide) (hts _ tw_615) (fun _ h9 => h9) rfl (by decide +kernel) rfl rfl (Nat.le_of_ble_eq_true rfl) dM_join_84 (fun H locs hP hD hS => ?_)
          have hP : va_P (dC, dI) rg_cl (rm_W h a cI cL cod cnt bra cof (nI 0) nu co se li le fi sc ti un ma dr (upd (upd fr 0 (nI (rg_hd lx ly))) 1 (nI (rg_hd lx lz))) (upd (upd to 0 (nI (rg_to lx ly))) 1 (nI (rg_to lx lz))) (upd (upd en 0 (nI (rg_en lx ly))) 1 (nI (rg_en lx lz)))) H := hP
          have hD : va_D A (rm_W h a cI cL cod cnt bra cof (nI 0) nu co se li le fi sc ti un ma dr (upd (upd fr 0 (nI (rg_hd lx ly))) 1 (nI (rg_hd lx lz))) (upd (upd to 0 (nI (rg_to lx ly))) 1 (nI (rg_to lx lz))) (upd (upd en 0 (nI (rg_en lx ly))) 1 (nI (rg_en lx lz)))) := hD
          refine lv_aload_n hx hb dM_join_87 rfl (lv_at hl 3 rfl) ?_
          refine lv_iload_n hx hb dM_join_88 rfl (lv_at hl 5 rfl) ?_
          refine lv_iload_n hx hb dM_join_89 rfl (lv_at hl 4 rfl) ?_
          refine lv_iconst (v := nI 0) hx hb dM_join_90 (by decide) ?_
          refine lv_aload_n hx hb dM_join_91 rfl (lv_at hl 3 rfl) ?_
          refine va_get (D := (dC, dI)) (ci := 0) (C := "RevisionGroveModel") (T := TM) (N := 19) hx hb hts inM hown hK hP 0 rfl rfl 16 (by decide) (hts _ tw_617) (fun _ h9 => h9) rfl dM_join_92 ?_
          refine lv_iload hx hb dM_join_95 (lv_at hl 0 rfl) ?_
          refine rg_iald hx hb hK hP 12 0 rfl rfl (by decide) (by omega) dM_join_97 ?_
          refine rg_top (show (.int ((upd (upd fr 0 (nI (rg_hd lx ly))) 1 (nI (rg_hd lx lz))) 1) : Value) = .int (nI (rg_hd lx lz)) by rw [pk_us]) ?_
          refine rg_callv hD hS hA (va_runV (As := [.int (nI x), .int (nI f), .int (nI 0), .int (nI (rg_hd lx lz))]) (rest := []) ⟨hx, hb, hml, hown, hts⟩ (c_rm_take x f 0 (rg_hd lx lz) (by omega) (by omega) (([] : List Int32)) lx (by omega) (by omega) hx8 hcx (by omega) (rg_Dr_0 _) _) (cwV 4 hts (rg_gV tw_773 tw_775 ts_M_take tw_5 tw_776) rfl rfl rfl (by decide +kernel) ⟨by rw [hR]; exact Nat.le_of_ble_eq_true rfl, by rw [hR]; exact Nat.le_of_ble_eq_true rfl⟩) (rg_preV rfl hK hP hD (ci := 0) (q0 := 0) rfl rfl) rfl rfl hl.1 rfl (lv_room (Nat.le_of_ble_eq_true rfl)) dM_join_98 ⟨Nat.zero_le _, Nat.zero_le _⟩) (fun u10 H locs hw11 hP hD hS => ?_)
          have hP : va_P (dC, dI) rg_cl (rm_W h a cI cL cod cnt bra cof (nI ((([] : List Int32)) ++ rg_sg lx 0 (rg_hd lx lz)).length) nu co se li le fi sc ti un ma u10 (upd (upd fr 0 (nI (rg_hd lx ly))) 1 (nI (rg_hd lx lz))) (upd (upd to 0 (nI (rg_to lx ly))) 1 (nI (rg_to lx lz))) (upd (upd en 0 (nI (rg_en lx ly))) 1 (nI (rg_en lx lz)))) H := hP
          have hD : va_D A (rm_W h a cI cL cod cnt bra cof (nI ((([] : List Int32)) ++ rg_sg lx 0 (rg_hd lx lz)).length) nu co se li le fi sc ti un ma u10 (upd (upd fr 0 (nI (rg_hd lx ly))) 1 (nI (rg_hd lx lz))) (upd (upd to 0 (nI (rg_to lx ly))) 1 (nI (rg_to lx lz))) (upd (upd en 0 (nI (rg_en lx ly))) 1 (nI (rg_en lx lz)))) := hD
          refine lv_aload_n hx hb dM_join_101 rfl (lv_at hl 3 rfl) ?_
          refine lv_iload hx hb dM_join_102 (lv_at hl 2 rfl) ?_
          refine rg_ifz_eq (tgt := 111) hx hb dM_join_104 (by decide) (fun h12 => ?_) (fun h12 => absurd (hle.symm.trans h12) (by decide))
          refine lv_iload hx hb dM_join_111 (lv_at hl 7 rfl) ?_
          refine lv_iload_n hx hb dM_join_113 rfl (lv_at hl 4 rfl) ?_
          refine lv_aload_n hx hb dM_join_114 rfl (lv_at hl 3 rfl) ?_
          refine va_get (D := (dC, dI)) (ci := 0) (C := "RevisionGroveModel") (T := TM) (N := 19) hx hb hts inM hown hK hP 0 rfl rfl 16 (by decide) (hts _ tw_617) (fun _ h9 => h9) rfl dM_join_115 ?_
          refine lv_iload hx hb dM_join_118 (lv_at hl 0 rfl) ?_
          refine rg_iald hx hb hK hP 12 0 rfl rfl (by decide) (by omega) dM_join_120 ?_
          refine rg_top (show (.int ((upd (upd fr 0 (nI (rg_hd lx ly))) 1 (nI (rg_hd lx lz))) 1) : Value) = .int (nI (rg_hd lx lz)) by rw [pk_us]) ?_
          refine lv_aload_n hx hb dM_join_121 rfl (lv_at hl 3 rfl) ?_
          refine va_get (D := (dC, dI)) (ci := 0) (C := "RevisionGroveModel") (T := TM) (N := 19) hx hb hts inM hown hK hP 0 rfl rfl 18 (by decide) (hts _ tw_619) (fun _ h9 => h9) rfl dM_join_122 ?_
          refine lv_iload hx hb dM_join_125 (lv_at hl 0 rfl) ?_
          refine rg_iald hx hb hK hP 14 0 rfl rfl (by decide) (by omega) dM_join_127 ?_
          refine rg_top (show (.int ((upd (upd en 0 (nI (rg_en lx ly))) 1 (nI (rg_en lx lz))) 1) : Value) = .int (nI (rg_en lx lz)) by rw [pk_us]) ?_
          have hL1 := rg_sg_l (D := ([] : List Int32)) (x := lx) (i := 0) (k := rg_hd lx lz) (by omega)
          refine rg_callv hD hS hA (va_runV (As := [.int (nI z), .int (nI f), .int (nI (rg_hd lx lz)), .int (nI (rg_en lx lz))]) (rest := []) ⟨hx, hb, hml, hown, hts⟩ (c_rm_take z f (rg_hd lx lz) (rg_en lx lz) (by omega) (by omega) ((([] : List Int32)) ++ rg_sg lx 0 (rg_hd lx lz)) lz (by omega) (by omega) hz8 hcz (by omega) hw11 _) (cwV 4 hts (rg_gV tw_773 tw_775 ts_M_take tw_5 tw_776) rfl rfl rfl (by decide +kernel) ⟨by rw [hR]; exact Nat.le_of_ble_eq_true rfl, by rw [hR]; exact Nat.le_of_ble_eq_true rfl⟩) (rg_preV rfl hK hP hD (ci := 0) (q0 := 0) rfl rfl) rfl rfl hl.1 rfl (lv_room (Nat.le_of_ble_eq_true rfl)) dM_join_128 ⟨Nat.zero_le _, Nat.zero_le _⟩) (fun u14 H locs hw15 hP hD hS => ?_)
          have hP : va_P (dC, dI) rg_cl (rm_W h a cI cL cod cnt bra cof (nI (((([] : List Int32)) ++ rg_sg lx 0 (rg_hd lx lz)) ++ rg_sg lz (rg_hd lx lz) (rg_en lx lz)).length) nu co se li le fi sc ti un ma u14 (upd (upd fr 0 (nI (rg_hd lx ly))) 1 (nI (rg_hd lx lz))) (upd (upd to 0 (nI (rg_to lx ly))) 1 (nI (rg_to lx lz))) (upd (upd en 0 (nI (rg_en lx ly))) 1 (nI (rg_en lx lz)))) H := hP
          have hD : va_D A (rm_W h a cI cL cod cnt bra cof (nI (((([] : List Int32)) ++ rg_sg lx 0 (rg_hd lx lz)) ++ rg_sg lz (rg_hd lx lz) (rg_en lx lz)).length) nu co se li le fi sc ti un ma u14 (upd (upd fr 0 (nI (rg_hd lx ly))) 1 (nI (rg_hd lx lz))) (upd (upd to 0 (nI (rg_to lx ly))) 1 (nI (rg_to lx lz))) (upd (upd en 0 (nI (rg_en lx ly))) 1 (nI (rg_en lx lz)))) := hD
          refine lv_aload_n hx hb dM_join_131 rfl (lv_at hl 3 rfl) ?_
          refine lv_iload_n hx hb dM_join_132 rfl (lv_at hl 5 rfl) ?_
          refine lv_iload_n hx hb dM_join_133 rfl (lv_at hl 4 rfl) ?_
          refine lv_aload_n hx hb dM_join_134 rfl (lv_at hl 3 rfl) ?_
          refine va_get (D := (dC, dI)) (ci := 0) (C := "RevisionGroveModel") (T := TM) (N := 19) hx hb hts inM hown hK hP 0 rfl rfl 17 (by decide) (hts _ tw_618) (fun _ h9 => h9) rfl dM_join_135 ?_
          refine lv_iload hx hb dM_join_138 (lv_at hl 0 rfl) ?_
          refine rg_iald hx hb hK hP 13 0 rfl rfl (by decide) (by omega) dM_join_140 ?_
          refine rg_top (show (.int ((upd (upd to 0 (nI (rg_to lx ly))) 1 (nI (rg_to lx lz))) 1) : Value) = .int (nI (rg_to lx lz)) by rw [pk_us]) ?_
          refine lv_aload_n hx hb dM_join_141 rfl (lv_at hl 3 rfl) ?_
          refine va_get (D := (dC, dI)) (ci := 0) (C := "RevisionGroveModel") (T := TM) (N := 19) hx hb hts inM hown hK hP 0 rfl rfl 16 (by decide) (hts _ tw_617) (fun _ h9 => h9) rfl dM_join_142 ?_
          refine lv_iconst (v := nI 1) hx hb dM_join_145 (by decide) ?_
          refine lv_iload hx hb dM_join_146 (lv_at hl 0 rfl) ?_
          refine rg_isub hx hb dM_join_148 (by omega) ?_
          refine rg_top (show Value.int (nI (1 - 1)) = .int (nI 0) from rfl) ?_
          refine rg_iald hx hb hK hP 12 0 rfl rfl (by decide) (by omega) dM_join_149 ?_
          refine rg_top (show (.int ((upd (upd fr 0 (nI (rg_hd lx ly))) 1 (nI (rg_hd lx lz))) 0) : Value) = .int (nI (rg_hd lx ly)) by rw [pk_un (by decide), pk_us]) ?_
          have hL2 := rg_sg_l (D := (([] : List Int32)) ++ rg_sg lx 0 (rg_hd lx lz)) (x := lz) (i := rg_hd lx lz) (k := rg_en lx lz) (by omega)
          refine rg_callv hD hS hA (va_runV (As := [.int (nI x), .int (nI f), .int (nI (rg_to lx lz)), .int (nI (rg_hd lx ly))]) (rest := []) ⟨hx, hb, hml, hown, hts⟩ (c_rm_take x f (rg_to lx lz) (rg_hd lx ly) (by omega) (by omega) (((([] : List Int32)) ++ rg_sg lx 0 (rg_hd lx lz)) ++ rg_sg lz (rg_hd lx lz) (rg_en lx lz)) lx (by omega) (by omega) hx8 hcx (by omega) hw15 _) (cwV 4 hts (rg_gV tw_773 tw_775 ts_M_take tw_5 tw_776) rfl rfl rfl (by decide +kernel) ⟨by rw [hR]; exact Nat.le_of_ble_eq_true rfl, by rw [hR]; exact Nat.le_of_ble_eq_true rfl⟩) (rg_preV rfl hK hP hD (ci := 0) (q0 := 0) rfl rfl) rfl rfl hl.1 rfl (lv_room (Nat.le_of_ble_eq_true rfl)) dM_join_150 ⟨Nat.zero_le _, Nat.zero_le _⟩) (fun u17 H locs hw18 hP hD hS => ?_)
          have hP : va_P (dC, dI) rg_cl (rm_W h a cI cL cod cnt bra cof (nI ((((([] : List Int32)) ++ rg_sg lx 0 (rg_hd lx lz)) ++ rg_sg lz (rg_hd lx lz) (rg_en lx lz)) ++ rg_sg lx (rg_to lx lz) (rg_hd lx ly)).length) nu co se li le fi sc ti un ma u17 (upd (upd fr 0 (nI (rg_hd lx ly))) 1 (nI (rg_hd lx lz))) (upd (upd to 0 (nI (rg_to lx ly))) 1 (nI (rg_to lx lz))) (upd (upd en 0 (nI (rg_en lx ly))) 1 (nI (rg_en lx lz)))) H := hP
          have hD : va_D A (rm_W h a cI cL cod cnt bra cof (nI ((((([] : List Int32)) ++ rg_sg lx 0 (rg_hd lx lz)) ++ rg_sg lz (rg_hd lx lz) (rg_en lx lz)) ++ rg_sg lx (rg_to lx lz) (rg_hd lx ly)).length) nu co se li le fi sc ti un ma u17 (upd (upd fr 0 (nI (rg_hd lx ly))) 1 (nI (rg_hd lx lz))) (upd (upd to 0 (nI (rg_to lx ly))) 1 (nI (rg_to lx lz))) (upd (upd en 0 (nI (rg_en lx ly))) 1 (nI (rg_en lx lz)))) := hD
          refine lv_aload_n hx hb dM_join_153 rfl (lv_at hl 3 rfl) ?_
          refine lv_iload hx hb dM_join_154 (lv_at hl 2 rfl) ?_
          refine rg_ifz_eq (tgt := 164) hx hb dM_join_156 (by decide) (fun h19 => ?_) (fun h19 => absurd (hle.symm.trans h19) (by decide))
          refine lv_iload_n hx hb dM_join_164 rfl (lv_at hl 6 rfl) ?_
          refine lv_iload_n hx hb dM_join_165 rfl (lv_at hl 4 rfl) ?_
          refine lv_aload_n hx hb dM_join_166 rfl (lv_at hl 3 rfl) ?_
          refine va_get (D := (dC, dI)) (ci := 0) (C := "RevisionGroveModel") (T := TM) (N := 19) hx hb hts inM hown hK hP 0 rfl rfl 16 (by decide) (hts _ tw_617) (fun _ h9 => h9) rfl dM_join_167 ?_
          refine lv_iconst (v := nI 1) hx hb dM_join_170 (by decide) ?_
          refine lv_iload hx hb dM_join_171 (lv_at hl 0 rfl) ?_
          refine rg_isub hx hb dM_join_173 (by omega) ?_
          refine rg_top (show Value.int (nI (1 - 1)) = .int (nI 0) from rfl) ?_
          refine rg_iald hx hb hK hP 12 0 rfl rfl (by decide) (by omega) dM_join_174 ?_
          refine rg_top (show (.int ((upd (upd fr 0 (nI (rg_hd lx ly))) 1 (nI (rg_hd lx lz))) 0) : Value) = .int (nI (rg_hd lx ly)) by rw [pk_un (by decide), pk_us]) ?_
          refine lv_aload_n hx hb dM_join_175 rfl (lv_at hl 3 rfl) ?_
          refine va_get (D := (dC, dI)) (ci := 0) (C := "RevisionGroveModel") (T := TM) (N := 19) hx hb hts inM hown hK hP 0 rfl rfl 18 (by decide) (hts _ tw_619) (fun _ h9 => h9) rfl dM_join_176 ?_
          refine lv_iconst (v := nI 1) hx hb dM_join_179 (by decide) ?_
          refine lv_iload hx hb dM_join_180 (lv_at hl 0 rfl) ?_
          refine rg_isub hx hb dM_join_182 (by omega) ?_
          refine rg_top (show Value.int (nI (1 - 1)) = .int (nI 0) from rfl) ?_
          refine rg_iald hx hb hK hP 14 0 rfl rfl (by decide) (by omega) dM_join_183 ?_
          refine rg_top (show (.int ((upd (upd en 0 (nI (rg_en lx ly))) 1 (nI (rg_en lx lz))) 0) : Value) = .int (nI (rg_en lx ly)) by rw [pk_un (by decide), pk_us]) ?_
          have hL3 := rg_sg_l (D := ((([] : List Int32)) ++ rg_sg lx 0 (rg_hd lx lz)) ++ rg_sg lz (rg_hd lx lz) (rg_en lx lz)) (x := lx) (i := rg_to lx lz) (k := rg_hd lx ly) (by omega)
          refine rg_callv hD hS hA (va_runV (As := [.int (nI y), .int (nI f), .int (nI (rg_hd lx ly)), .int (nI (rg_en lx ly))]) (rest := []) ⟨hx, hb, hml, hown, hts⟩ (c_rm_take y f (rg_hd lx ly) (rg_en lx ly) (by omega) (by omega) ((((([] : List Int32)) ++ rg_sg lx 0 (rg_hd lx lz)) ++ rg_sg lz (rg_hd lx lz) (rg_en lx lz)) ++ rg_sg lx (rg_to lx lz) (rg_hd lx ly)) ly (by omega) (by omega) hy8 hcy (by omega) hw18 _) (cwV 4 hts (rg_gV tw_773 tw_775 ts_M_take tw_5 tw_776) rfl rfl rfl (by decide +kernel) ⟨by rw [hR]; exact Nat.le_of_ble_eq_true rfl, by rw [hR]; exact Nat.le_of_ble_eq_true rfl⟩) (rg_preV rfl hK hP hD (ci := 0) (q0 := 0) rfl rfl) rfl rfl hl.1 rfl (lv_room (Nat.le_of_ble_eq_true rfl)) dM_join_184 ⟨Nat.zero_le _, Nat.zero_le _⟩) (fun u21 H locs hw22 hP hD hS => ?_)
          have hP : va_P (dC, dI) rg_cl (rm_W h a cI cL cod cnt bra cof (nI (((((([] : List Int32)) ++ rg_sg lx 0 (rg_hd lx lz)) ++ rg_sg lz (rg_hd lx lz) (rg_en lx lz)) ++ rg_sg lx (rg_to lx lz) (rg_hd lx ly)) ++ rg_sg ly (rg_hd lx ly) (rg_en lx ly)).length) nu co se li le fi sc ti un ma u21 (upd (upd fr 0 (nI (rg_hd lx ly))) 1 (nI (rg_hd lx lz))) (upd (upd to 0 (nI (rg_to lx ly))) 1 (nI (rg_to lx lz))) (upd (upd en 0 (nI (rg_en lx ly))) 1 (nI (rg_en lx lz)))) H := hP
          have hD : va_D A (rm_W h a cI cL cod cnt bra cof (nI (((((([] : List Int32)) ++ rg_sg lx 0 (rg_hd lx lz)) ++ rg_sg lz (rg_hd lx lz) (rg_en lx lz)) ++ rg_sg lx (rg_to lx lz) (rg_hd lx ly)) ++ rg_sg ly (rg_hd lx ly) (rg_en lx ly)).length) nu co se li le fi sc ti un ma u21 (upd (upd fr 0 (nI (rg_hd lx ly))) 1 (nI (rg_hd lx lz))) (upd (upd to 0 (nI (rg_to lx ly))) 1 (nI (rg_to lx lz))) (upd (upd en 0 (nI (rg_en lx ly))) 1 (nI (rg_en lx lz)))) := hD
          refine lv_aload_n hx hb dM_join_187 rfl (lv_at hl 3 rfl) ?_
          refine lv_iload_n hx hb dM_join_188 rfl (lv_at hl 5 rfl) ?_
          refine lv_iload_n hx hb dM_join_189 rfl (lv_at hl 4 rfl) ?_
          refine lv_aload_n hx hb dM_join_190 rfl (lv_at hl 3 rfl) ?_
          refine va_get (D := (dC, dI)) (ci := 0) (C := "RevisionGroveModel") (T := TM) (N := 19) hx hb hts inM hown hK hP 0 rfl rfl 17 (by decide) (hts _ tw_618) (fun _ h9 => h9) rfl dM_join_191 ?_
          refine lv_iconst (v := nI 1) hx hb dM_join_194 (by decide) ?_
          refine lv_iload hx hb dM_join_195 (lv_at hl 0 rfl) ?_
          refine rg_isub hx hb dM_join_197 (by omega) ?_
          refine rg_top (show Value.int (nI (1 - 1)) = .int (nI 0) from rfl) ?_
          refine rg_iald hx hb hK hP 13 0 rfl rfl (by decide) (by omega) dM_join_198 ?_
          refine rg_top (show (.int ((upd (upd to 0 (nI (rg_to lx ly))) 1 (nI (rg_to lx lz))) 0) : Value) = .int (nI (rg_to lx ly)) by rw [pk_un (by decide), pk_us]) ?_
          refine lv_aload_n hx hb dM_join_199 rfl (lv_at hl 3 rfl) ?_
          refine va_get (D := (dC, dI)) (ci := 0) (C := "RevisionGroveModel") (T := TM) (N := 19) hx hb hts inM hown hK hP 0 rfl rfl 6 (by decide) (hts _ tw_607) (fun _ h9 => h9) rfl dM_join_200 ?_
          refine lv_iconst (v := nI 2) hx hb dM_join_203 (by decide) ?_
          refine lv_iload_n hx hb dM_join_204 rfl (lv_at hl 5 rfl) ?_
          refine rg_imul hx hb dM_join_205 ?_
          refine lv_iload_n hx hb dM_join_206 rfl (lv_at hl 4 rfl) ?_
          refine rg_iadd hx hb dM_join_207 ?_
          refine rg_iald hx hb hK hP 5 0 rfl rfl (by decide) (by omega) dM_join_208 ?_
          refine rg_top (show (.int (le (2 * x + f)) : Value) = .int (nI lx.length) by rw [hlx]) ?_
          have hL4 := rg_sg_l (D := (((([] : List Int32)) ++ rg_sg lx 0 (rg_hd lx lz)) ++ rg_sg lz (rg_hd lx lz) (rg_en lx lz)) ++ rg_sg lx (rg_to lx lz) (rg_hd lx ly)) (x := ly) (i := rg_hd lx ly) (k := rg_en lx ly) (by omega)
          refine rg_callv hD hS hA (va_runV (As := [.int (nI x), .int (nI f), .int (nI (rg_to lx ly)), .int (nI lx.length)]) (rest := []) ⟨hx, hb, hml, hown, hts⟩ (c_rm_take x f (rg_to lx ly) lx.length (by omega) (by omega) (((((([] : List Int32)) ++ rg_sg lx 0 (rg_hd lx lz)) ++ rg_sg lz (rg_hd lx lz) (rg_en lx lz)) ++ rg_sg lx (rg_to lx lz) (rg_hd lx ly)) ++ rg_sg ly (rg_hd lx ly) (rg_en lx ly)) lx (by omega) (by omega) hx8 hcx (by omega) hw22 _) (cwV 4 hts (rg_gV tw_773 tw_775 ts_M_take tw_5 tw_776) rfl rfl rfl (by decide +kernel) ⟨by rw [hR]; exact Nat.le_of_ble_eq_true rfl, by rw [hR]; exact Nat.le_of_ble_eq_true rfl⟩) (rg_preV rfl hK hP hD (ci := 0) (q0 := 0) rfl rfl) rfl rfl hl.1 rfl (lv_room (Nat.le_of_ble_eq_true rfl)) dM_join_209 ⟨Nat.zero_le _, Nat.zero_le _⟩) (fun u24 H locs hw25 hP hD hS => ?_)
          have hP : va_P (dC, dI) rg_cl (rm_W h a cI cL cod cnt bra cof (nI ((((((([] : List Int32)) ++ rg_sg lx 0 (rg_hd lx lz)) ++ rg_sg lz (rg_hd lx lz) (rg_en lx lz)) ++ rg_sg lx (rg_to lx lz) (rg_hd lx ly)) ++ rg_sg ly (rg_hd lx ly) (rg_en lx ly)) ++ rg_sg lx (rg_to lx ly) lx.length).length) nu co se li le fi sc ti un ma u24 (upd (upd fr 0 (nI (rg_hd lx ly))) 1 (nI (rg_hd lx lz))) (upd (upd to 0 (nI (rg_to lx ly))) 1 (nI (rg_to lx lz))) (upd (upd en 0 (nI (rg_en lx ly))) 1 (nI (rg_en lx lz)))) H := hP
          have hD : va_D A (rm_W h a cI cL cod cnt bra cof (nI ((((((([] : List Int32)) ++ rg_sg lx 0 (rg_hd lx lz)) ++ rg_sg lz (rg_hd lx lz) (rg_en lx lz)) ++ rg_sg lx (rg_to lx lz) (rg_hd lx ly)) ++ rg_sg ly (rg_hd lx ly) (rg_en lx ly)) ++ rg_sg lx (rg_to lx ly) lx.length).length) nu co se li le fi sc ti un ma u24 (upd (upd fr 0 (nI (rg_hd lx ly))) 1 (nI (rg_hd lx lz))) (upd (upd to 0 (nI (rg_to lx ly))) 1 (nI (rg_to lx lz))) (upd (upd en 0 (nI (rg_en lx ly))) 1 (nI (rg_en lx lz)))) := hD
          have hL5 := rg_sg_l (D := ((((([] : List Int32)) ++ rg_sg lx 0 (rg_hd lx lz)) ++ rg_sg lz (rg_hd lx lz) (rg_en lx lz)) ++ rg_sg lx (rg_to lx lz) (rg_hd lx ly)) ++ rg_sg ly (rg_hd lx ly) (rg_en lx ly)) (x := lx) (i := rg_to lx ly) (k := lx.length) (by omega)
          refine lv_aload_n hx hb dM_join_212 rfl (lv_at hl 3 rfl) ?_
          refine va_get (D := (dC, dI)) (ci := 0) (C := "RevisionGroveModel") (T := TM) (N := 19) hx hb hts inM hown hK hP 0 rfl rfl 14 (by decide) (hts _ tw_615) (fun _ h9 => h9) rfl dM_join_213 ?_
          refine lv_bipush (v := nI 8) hx hb dM_join_216 (by decide) ?_
          refine rg_icmp_gt (tgt := 225) hx hb dM_join_218 (by decide) (by omega) (by omega) (fun h26 => ?_) (fun h26 => ?_)
          · refine lv_iconst (v := nI 0) hx hb dM_join_225 (by decide) ?_
            rw [hQ]
            exact rg_zret hx hb hr hlk hK hP hD hS (by first | exact Or.inl rfl | exact Or.inr rfl) dM_join_226 (nI ((((((([] : List Int32)) ++ rg_sg lx 0 (rg_hd lx lz)) ++ rg_sg lz (rg_hd lx lz) (rg_en lx lz)) ++ rg_sg lx (rg_to lx lz) (rg_hd lx ly)) ++ rg_sg ly (rg_hd lx ly) (rg_en lx ly)) ++ rg_sg lx (rg_to lx ly) lx.length).length, u24, upd (upd fr 0 (nI (rg_hd lx ly))) 1 (nI (rg_hd lx lz)), upd (upd to 0 (nI (rg_to lx ly))) 1 (nI (rg_to lx lz)), upd (upd en 0 (nI (rg_en lx ly))) 1 (nI (rg_en lx lz))) rfl (⟨by rw [(rg_jok_r hle hfo).2, decide_eq_false (show ¬ (rg_five lx lz ly).length ≤ 8 from Nat.not_le.mpr h26)]; rfl, fun q => by rw [(rg_jok_r hle hfo).2, decide_eq_false (show ¬ (rg_five lx lz ly).length ≤ 8 from Nat.not_le.mpr h26)] at q; cases q⟩)
          · refine lv_iconst (v := nI 1) hx hb dM_join_221 (by decide) ?_
            refine lv_goto (tgt := 226) hx hb dM_join_222 (by decide) ?_
            rw [hQ]
            exact rg_zret hx hb hr hlk hK hP hD hS (by first | exact Or.inl rfl | exact Or.inr rfl) dM_join_226 (nI ((((((([] : List Int32)) ++ rg_sg lx 0 (rg_hd lx lz)) ++ rg_sg lz (rg_hd lx lz) (rg_en lx lz)) ++ rg_sg lx (rg_to lx lz) (rg_hd lx ly)) ++ rg_sg ly (rg_hd lx ly) (rg_en lx ly)) ++ rg_sg lx (rg_to lx ly) lx.length).length, u24, upd (upd fr 0 (nI (rg_hd lx ly))) 1 (nI (rg_hd lx lz)), upd (upd to 0 (nI (rg_to lx ly))) 1 (nI (rg_to lx lz)), upd (upd en 0 (nI (rg_en lx ly))) 1 (nI (rg_en lx lz))) rfl (⟨by rw [(rg_jok_r hle hfo).2, decide_eq_true (show (rg_five lx lz ly).length ≤ 8 from h26)]; rfl, fun _ => by rw [(rg_jok_r hle hfo).1]; exact ⟨rfl, hw25⟩⟩)
        · have hle : rg_le1 lx ly lz = true := h8
          have hfo : rg_le1 lx lz ly = false := by rw [hle] at hne9; exact rg_bF (fun q => hne9 q.symm)
          have hA9 : rg_to lx ly ≤ rg_hd lx lz := of_decide_eq_true hle
          refine lv_iconst (v := nI 0) hx hb dM_join_75 (by decide) ?_
          refine lv_goto (tgt := 80) hx hb dM_join_76 (by decide) ?_
          refine lv_istore (lv' := [(7, .int (nI 0)), (6, .int (bif (rg_le1 lx lz ly) then 1 else 0)), (5, .int (bif (rg_le1 lx ly lz) then 1 else 0)), (0, .ref h), (1, .int (nI f)), (2, .int (nI x)), (3, .int (nI y)), (4, .int (nI z))]) hx hb dM_join_80 hl (by decide) rfl (fun ls hl => ?_)
          refine lv_aload_n hx hb dM_join_82 rfl (lv_at hl 3 rfl) ?_
          refine lv_iconst (v := nI 0) hx hb dM_join_83 (by decide) ?_
          refine va_put (D := (dC, dI)) (ci := 0) (v := .int (nI 0)) (ty := .int) (C := "RevisionGroveModel") (T := TM) (N := 19) hx hb hts inM tyM tyM_ok nmM hown hK hP hD hS 0 rfl rfl 14 (by decide) (hts _ tw_615) (fun _ h9 => h9) rfl (by decide +kernel) rfl rfl (Nat.le_of_ble_eq_true rfl) dM_join_84 (fun H locs hP hD hS => ?_)
          have hP : va_P (dC, dI) rg_cl (rm_W h a cI cL cod cnt bra cof (nI 0) nu co se li le fi sc ti un ma dr (upd (upd fr 0 (nI (rg_hd lx ly))) 1 (nI (rg_hd lx lz))) (upd (upd to 0 (nI (rg_to lx ly))) 1 (nI (rg_to lx lz))) (upd (upd en 0 (nI (rg_en lx ly))) 1 (nI (rg_en lx lz)))) H := hP
          have hD : va_D A (rm_W h a cI cL cod cnt bra cof (nI 0) nu co se li le fi sc ti un ma dr (upd (upd fr 0 (nI (rg_hd lx ly))) 1 (nI (rg_hd lx lz))) (upd (upd to 0 (nI (rg_to lx ly))) 1 (nI (rg_to lx lz))) (upd (upd en 0 (nI (rg_en lx ly))) 1 (nI (rg_en lx lz)))) := hD
          refine lv_aload_n hx hb dM_join_87 rfl (lv_at hl 3 rfl) ?_
          refine lv_iload_n hx hb dM_join_88 rfl (lv_at hl 5 rfl) ?_
          refine lv_iload_n hx hb dM_join_89 rfl (lv_at hl 4 rfl) ?_
          refine lv_iconst (v := nI 0) hx hb dM_join_90 (by decide) ?_
          refine lv_aload_n hx hb dM_join_91 rfl (lv_at hl 3 rfl) ?_
          refine va_get (D := (dC, dI)) (ci := 0) (C := "RevisionGroveModel") (T := TM) (N := 19) hx hb hts inM hown hK hP 0 rfl rfl 16 (by decide) (hts _ tw_617) (fun _ h9 => h9) rfl dM_join_92 ?_
          refine lv_iload hx hb dM_join_95 (lv_at hl 0 rfl) ?_
          refine rg_iald hx hb hK hP 12 0 rfl rfl (by decide) (by omega) dM_join_97 ?_
          refine rg_top (show (.int ((upd (upd fr 0 (nI (rg_hd lx ly))) 1 (nI (rg_hd lx lz))) 0) : Value) = .int (nI (rg_hd lx ly)) by rw [pk_un (by decide), pk_us]) ?_
          refine rg_callv hD hS hA (va_runV (As := [.int (nI x), .int (nI f), .int (nI 0), .int (nI (rg_hd lx ly))]) (rest := []) ⟨hx, hb, hml, hown, hts⟩ (c_rm_take x f 0 (rg_hd lx ly) (by omega) (by omega) (([] : List Int32)) lx (by omega) (by omega) hx8 hcx (by omega) (rg_Dr_0 _) _) (cwV 4 hts (rg_gV tw_773 tw_775 ts_M_take tw_5 tw_776) rfl rfl rfl (by decide +kernel) ⟨by rw [hR]; exact Nat.le_of_ble_eq_true rfl, by rw [hR]; exact Nat.le_of_ble_eq_true rfl⟩) (rg_preV rfl hK hP hD (ci := 0) (q0 := 0) rfl rfl) rfl rfl hl.1 rfl (lv_room (Nat.le_of_ble_eq_true rfl)) dM_join_98 ⟨Nat.zero_le _, Nat.zero_le _⟩) (fun u28 H locs hw29 hP hD hS => ?_)
          have hP : va_P (dC, dI) rg_cl (rm_W h a cI cL cod cnt bra cof (nI ((([] : List Int32)) ++ rg_sg lx 0 (rg_hd lx ly)).length) nu co se li le fi sc ti un ma u28 (upd (upd fr 0 (nI (rg_hd lx ly))) 1 (nI (rg_hd lx lz))) (upd (upd to 0 (nI (rg_to lx ly))) 1 (nI (rg_to lx lz))) (upd (upd en 0 (nI (rg_en lx ly))) 1 (nI (rg_en lx lz)))) H := hP
          have hD : va_D A (rm_W h a cI cL cod cnt bra cof (nI ((([] : List Int32)) ++ rg_sg lx 0 (rg_hd lx ly)).length) nu co se li le fi sc ti un ma u28 (upd (upd fr 0 (nI (rg_hd lx ly))) 1 (nI (rg_hd lx lz))) (upd (upd to 0 (nI (rg_to lx ly))) 1 (nI (rg_to lx lz))) (upd (upd en 0 (nI (rg_en lx ly))) 1 (nI (rg_en lx lz)))) := hD
          refine lv_aload_n hx hb dM_join_101 rfl (lv_at hl 3 rfl) ?_
          refine lv_iload hx hb dM_join_102 (lv_at hl 2 rfl) ?_
          refine rg_ifz_eq (tgt := 111) hx hb dM_join_104 (by decide) (fun h30 => absurd (hle.symm.trans h30) (by decide)) (fun h30 => ?_)
          refine lv_iload_n hx hb dM_join_107 rfl (lv_at hl 6 rfl) ?_
          refine lv_goto (tgt := 113) hx hb dM_join_108 (by decide) ?_
          refine lv_iload_n hx hb dM_join_113 rfl (lv_at hl 4 rfl) ?_
          refine lv_aload_n hx hb dM_join_114 rfl (lv_at hl 3 rfl) ?_
          refine va_get (D := (dC, dI)) (ci := 0) (C := "RevisionGroveModel") (T := TM) (N := 19) hx hb hts inM hown hK hP 0 rfl rfl 16 (by decide) (hts _ tw_617) (fun _ h9 => h9) rfl dM_join_115 ?_
          refine lv_iload hx hb dM_join_118 (lv_at hl 0 rfl) ?_
          refine rg_iald hx hb hK hP 12 0 rfl rfl (by decide) (by omega) dM_join_120 ?_
          refine rg_top (show (.int ((upd (upd fr 0 (nI (rg_hd lx ly))) 1 (nI (rg_hd lx lz))) 0) : Value) = .int (nI (rg_hd lx ly)) by rw [pk_un (by decide), pk_us]) ?_
          refine lv_aload_n hx hb dM_join_121 rfl (lv_at hl 3 rfl) ?_
          refine va_get (D := (dC, dI)) (ci := 0) (C := "RevisionGroveModel") (T := TM) (N := 19) hx hb hts inM hown hK hP 0 rfl rfl 18 (by decide) (hts _ tw_619) (fun _ h9 => h9) rfl dM_join_122 ?_
          refine lv_iload hx hb dM_join_125 (lv_at hl 0 rfl) ?_
          refine rg_iald hx hb hK hP 14 0 rfl rfl (by decide) (by omega) dM_join_127 ?_
          refine rg_top (show (.int ((upd (upd en 0 (nI (rg_en lx ly))) 1 (nI (rg_en lx lz))) 0) : Value) = .int (nI (rg_en lx ly)) by rw [pk_un (by decide), pk_us]) ?_
          have hL1 := rg_sg_l (D := ([] : List Int32)) (x := lx) (i := 0) (k := rg_hd lx ly) (by omega)
          refine rg_callv hD hS hA (va_runV (As := [.int (nI y), .int (nI f), .int (nI (rg_hd lx ly)), .int (nI (rg_en lx ly))]) (rest := []) ⟨hx, hb, hml, hown, hts⟩ (c_rm_take y f (rg_hd lx ly) (rg_en lx ly) (by omega) (by omega) ((([] : List Int32)) ++ rg_sg lx 0 (rg_hd lx ly)) ly (by omega) (by omega) hy8 hcy (by omega) hw29 _) (cwV 4 hts (rg_gV tw_773 tw_775 ts_M_take tw_5 tw_776) rfl rfl rfl (by decide +kernel) ⟨by rw [hR]; exact Nat.le_of_ble_eq_true rfl, by rw [hR]; exact Nat.le_of_ble_eq_true rfl⟩) (rg_preV rfl hK hP hD (ci := 0) (q0 := 0) rfl rfl) rfl rfl hl.1 rfl (lv_room (Nat.le_of_ble_eq_true rfl)) dM_join_128 ⟨Nat.zero_le _, Nat.zero_le _⟩) (fun u32 H locs hw33 hP hD hS => ?_)
          have hP : va_P (dC, dI) rg_cl (rm_W h a cI cL cod cnt bra cof (nI (((([] : List Int32)) ++ rg_sg lx 0 (rg_hd lx ly)) ++ rg_sg ly (rg_hd lx ly) (rg_en lx ly)).length) nu co se li le fi sc ti un ma u32 (upd (upd fr 0 (nI (rg_hd lx ly))) 1 (nI (rg_hd lx lz))) (upd (upd to 0 (nI (rg_to lx ly))) 1 (nI (rg_to lx lz))) (upd (upd en 0 (nI (rg_en lx ly))) 1 (nI (rg_en lx lz)))) H := hP
          have hD : va_D A (rm_W h a cI cL cod cnt bra cof (nI (((([] : List Int32)) ++ rg_sg lx 0 (rg_hd lx ly)) ++ rg_sg ly (rg_hd lx ly) (rg_en lx ly)).length) nu co se li le fi sc ti un ma u32 (upd (upd fr 0 (nI (rg_hd lx ly))) 1 (nI (rg_hd lx lz))) (upd (upd to 0 (nI (rg_to lx ly))) 1 (nI (rg_to lx lz))) (upd (upd en 0 (nI (rg_en lx ly))) 1 (nI (rg_en lx lz)))) := hD
          refine lv_aload_n hx hb dM_join_131 rfl (lv_at hl 3 rfl) ?_
          refine lv_iload_n hx hb dM_join_132 rfl (lv_at hl 5 rfl) ?_
          refine lv_iload_n hx hb dM_join_133 rfl (lv_at hl 4 rfl) ?_
          refine lv_aload_n hx hb dM_join_134 rfl (lv_at hl 3 rfl) ?_
          refine va_get (D := (dC, dI)) (ci := 0) (C := "RevisionGroveModel") (T := TM) (N := 19) hx hb hts inM hown hK hP 0 rfl rfl 17 (by decide) (hts _ tw_618) (fun _ h9 => h9) rfl dM_join_135 ?_
          refine lv_iload hx hb dM_join_138 (lv_at hl 0 rfl) ?_
          refine rg_iald hx hb hK hP 13 0 rfl rfl (by decide) (by omega) dM_join_140 ?_
          refine rg_top (show (.int ((upd (upd to 0 (nI (rg_to lx ly))) 1 (nI (rg_to lx lz))) 0) : Value) = .int (nI (rg_to lx ly)) by rw [pk_un (by decide), pk_us]) ?_
          refine lv_aload_n hx hb dM_join_141 rfl (lv_at hl 3 rfl) ?_
          refine va_get (D := (dC, dI)) (ci := 0) (C := "RevisionGroveModel") (T := TM) (N := 19) hx hb hts inM hown hK hP 0 rfl rfl 16 (by decide) (hts _ tw_617) (fun _ h9 => h9) rfl dM_join_142 ?_
          refine lv_iconst (v := nI 1) hx hb dM_join_145 (by decide) ?_
          refine lv_iload hx hb dM_join_146 (lv_at hl 0 rfl) ?_
          refine rg_isub hx hb dM_join_148 (by omega) ?_
          refine rg_top (show Value.int (nI (1 - 0)) = .int (nI 1) from rfl) ?_
          refine rg_iald hx hb hK hP 12 0 rfl rfl (by decide) (by omega) dM_join_149 ?_
          refine rg_top (show (.int ((upd (upd fr 0 (nI (rg_hd lx ly))) 1 (nI (rg_hd lx lz))) 1) : Value) = .int (nI (rg_hd lx lz)) by rw [pk_us]) ?_
          have hL2 := rg_sg_l (D := (([] : List Int32)) ++ rg_sg lx 0 (rg_hd lx ly)) (x := ly) (i := rg_hd lx ly) (k := rg_en lx ly) (by omega)
          refine rg_callv hD hS hA (va_runV (As := [.int (nI x), .int (nI f), .int (nI (rg_to lx ly)), .int (nI (rg_hd lx lz))]) (rest := []) ⟨hx, hb, hml, hown, hts⟩ (c_rm_take x f (rg_to lx ly) (rg_hd lx lz) (by omega) (by omega) (((([] : List Int32)) ++ rg_sg lx 0 (rg_hd lx ly)) ++ rg_sg ly (rg_hd lx ly) (rg_en lx ly)) lx (by omega) (by omega) hx8 hcx (by omega) hw33 _) (cwV 4 hts (rg_gV tw_773 tw_775 ts_M_take tw_5 tw_776) rfl rfl rfl (by decide +kernel) ⟨by rw [hR]; exact Nat.le_of_ble_eq_true rfl, by rw [hR]; exact Nat.le_of_ble_eq_true rfl⟩) (rg_preV rfl hK hP hD (ci := 0) (q0 := 0) rfl rfl) rfl rfl hl.1 rfl (lv_room (Nat.le_of_ble_eq_true rfl)) dM_join_150 ⟨Nat.zero_le _, Nat.zero_le _⟩) (fun u35 H locs hw36 hP hD hS => ?_)
          have hP : va_P (dC, dI) rg_cl (rm_W h a cI cL cod cnt bra cof (nI ((((([] : List Int32)) ++ rg_sg lx 0 (rg_hd lx ly)) ++ rg_sg ly (rg_hd lx ly) (rg_en lx ly)) ++ rg_sg lx (rg_to lx ly) (rg_hd lx lz)).length) nu co se li le fi sc ti un ma u35 (upd (upd fr 0 (nI (rg_hd lx ly))) 1 (nI (rg_hd lx lz))) (upd (upd to 0 (nI (rg_to lx ly))) 1 (nI (rg_to lx lz))) (upd (upd en 0 (nI (rg_en lx ly))) 1 (nI (rg_en lx lz)))) H := hP
          have hD : va_D A (rm_W h a cI cL cod cnt bra cof (nI ((((([] : List Int32)) ++ rg_sg lx 0 (rg_hd lx ly)) ++ rg_sg ly (rg_hd lx ly) (rg_en lx ly)) ++ rg_sg lx (rg_to lx ly) (rg_hd lx lz)).length) nu co se li le fi sc ti un ma u35 (upd (upd fr 0 (nI (rg_hd lx ly))) 1 (nI (rg_hd lx lz))) (upd (upd to 0 (nI (rg_to lx ly))) 1 (nI (rg_to lx lz))) (upd (upd en 0 (nI (rg_en lx ly))) 1 (nI (rg_en lx lz)))) := hD
          refine lv_aload_n hx hb dM_join_153 rfl (lv_at hl 3 rfl) ?_
          refine lv_iload hx hb dM_join_154 (lv_at hl 2 rfl) ?_
          refine rg_ifz_eq (tgt := 164) hx hb dM_join_156 (by decide) (fun h37 => absurd (hle.symm.trans h37) (by decide)) (fun h37 => ?_)
          refine lv_iload hx hb dM_join_159 (lv_at hl 7 rfl) ?_
          refine lv_goto (tgt := 165) hx hb dM_join_161 (by decide) ?_
          refine lv_iload_n hx hb dM_join_165 rfl (lv_at hl 4 rfl) ?_
          refine lv_aload_n hx hb dM_join_166 rfl (lv_at hl 3 rfl) ?_
          refine va_get (D := (dC, dI)) (ci := 0) (C := "RevisionGroveModel") (T := TM) (N := 19) hx hb hts inM hown hK hP 0 rfl rfl 16 (by decide) (hts _ tw_617) (fun _ h9 => h9) rfl dM_join_167 ?_
          refine lv_iconst (v := nI 1) hx hb dM_join_170 (by decide) ?_
          refine lv_iload hx hb dM_join_171 (lv_at hl 0 rfl) ?_
          refine rg_isub hx hb dM_join_173 (by omega) ?_
          refine rg_top (show Value.int (nI (1 - 0)) = .int (nI 1) from rfl) ?_
          refine rg_iald hx hb hK hP 12 0 rfl rfl (by decide) (by omega) dM_join_174 ?_
          refine rg_top (show (.int ((upd (upd fr 0 (nI (rg_hd lx ly))) 1 (nI (rg_hd lx lz))) 1) : Value) = .int (nI (rg_hd lx lz)) by rw [pk_us]) ?_
          refine lv_aload_n hx hb dM_join_175 rfl (lv_at hl 3 rfl) ?_
          refine va_get (D := (dC, dI)) (ci := 0) (C := "RevisionGroveModel") (T := TM) (N := 19) hx hb hts inM hown hK hP 0 rfl rfl 18 (by decide) (hts _ tw_619) (fun _ h9 => h9) rfl dM_join_176 ?_
          refine lv_iconst (v := nI 1) hx hb dM_join_179 (by decide) ?_
          refine lv_iload hx hb dM_join_180 (lv_at hl 0 rfl) ?_
          refine rg_isub hx hb dM_join_182 (by omega) ?_
          refine rg_top (show Value.int (nI (1 - 0)) = .int (nI 1) from rfl) ?_
          refine rg_iald hx hb hK hP 14 0 rfl rfl (by decide) (by omega) dM_join_183 ?_
          refine rg_top (show (.int ((upd (upd en 0 (nI (rg_en lx ly))) 1 (nI (rg_en lx lz))) 1) : Value) = .int (nI (rg_en lx lz)) by rw [pk_us]) ?_
          have hL3 := rg_sg_l (D := ((([] : List Int32)) ++ rg_sg lx 0 (rg_hd lx ly)) ++ rg_sg ly (rg_hd lx ly) (rg_en lx ly)) (x := lx) (i := rg_to lx ly) (k := rg_hd lx lz) (by omega)
          refine rg_callv hD hS hA (va_runV (As := [.int (nI z), .int (nI f), .int (nI (rg_hd lx lz)), .int (nI (rg_en lx lz))]) (rest := []) ⟨hx, hb, hml, hown, hts⟩ (c_rm_take z f (rg_hd lx lz) (rg_en lx lz) (by omega) (by omega) ((((([] : List Int32)) ++ rg_sg lx 0 (rg_hd lx ly)) ++ rg_sg ly (rg_hd lx ly) (rg_en lx ly)) ++ rg_sg lx (rg_to lx ly) (rg_hd lx lz)) lz (by omega) (by omega) hz8 hcz (by omega) hw36 _) (cwV 4 hts (rg_gV tw_773 tw_775 ts_M_take tw_5 tw_776) rfl rfl rfl (by decide +kernel) ⟨by rw [hR]; exact Nat.le_of_ble_eq_true rfl, by rw [hR]; exact Nat.le_of_ble_eq_true rfl⟩) (rg_preV rfl hK hP hD (ci := 0) (q0 := 0) rfl rfl) rfl rfl hl.1 rfl (lv_room (Nat.le_of_ble_eq_true rfl)) dM_join_184 ⟨Nat.zero_le _, Nat.zero_le _⟩) (fun u39 H locs hw40 hP hD hS => ?_)
          have hP : va_P (dC, dI) rg_cl (rm_W h a cI cL cod cnt bra cof (nI (((((([] : List Int32)) ++ rg_sg lx 0 (rg_hd lx ly)) ++ rg_sg ly (rg_hd lx ly) (rg_en lx ly)) ++ rg_sg lx (rg_to lx ly) (rg_hd lx lz)) ++ rg_sg lz (rg_hd lx lz) (rg_en lx lz)).length) nu co se li le fi sc ti un ma u39 (upd (upd fr 0 (nI (rg_hd lx ly))) 1 (nI (rg_hd lx lz))) (upd (upd to 0 (nI (rg_to lx ly))) 1 (nI (rg_to lx lz))) (upd (upd en 0 (nI (rg_en lx ly))) 1 (nI (rg_en lx lz)))) H := hP
          have hD : va_D A (rm_W h a cI cL cod cnt bra cof (nI (((((([] : List Int32)) ++ rg_sg lx 0 (rg_hd lx ly)) ++ rg_sg ly (rg_hd lx ly) (rg_en lx ly)) ++ rg_sg lx (rg_to lx ly) (rg_hd lx lz)) ++ rg_sg lz (rg_hd lx lz) (rg_en lx lz)).length) nu co se li le fi sc ti un ma u39 (upd (upd fr 0 (nI (rg_hd lx ly))) 1 (nI (rg_hd lx lz))) (upd (upd to 0 (nI (rg_to lx ly))) 1 (nI (rg_to lx lz))) (upd (upd en 0 (nI (rg_en lx ly))) 1 (nI (rg_en lx lz)))) := hD
          refine lv_aload_n hx hb dM_join_187 rfl (lv_at hl 3 rfl) ?_
          refine lv_iload_n hx hb dM_join_188 rfl (lv_at hl 5 rfl) ?_
          refine lv_iload_n hx hb dM_join_189 rfl (lv_at hl 4 rfl) ?_
          refine lv_aload_n hx hb dM_join_190 rfl (lv_at hl 3 rfl) ?_
          refine va_get (D := (dC, dI)) (ci := 0) (C := "RevisionGroveModel") (T := TM) (N := 19) hx hb hts inM hown hK hP 0 rfl rfl 17 (by decide) (hts _ tw_618) (fun _ h9 => h9) rfl dM_join_191 ?_
          refine lv_iconst (v := nI 1) hx hb dM_join_194 (by decide) ?_
          refine lv_iload hx hb dM_join_195 (lv_at hl 0 rfl) ?_
          refine rg_isub hx hb dM_join_197 (by omega) ?_
          refine rg_top (show Value.int (nI (1 - 0)) = .int (nI 1) from rfl) ?_
          refine rg_iald hx hb hK hP 13 0 rfl rfl (by decide) (by omega) dM_join_198 ?_
          refine rg_top (show (.int ((upd (upd to 0 (nI (rg_to lx ly))) 1 (nI (rg_to lx lz))) 1) : Value) = .int (nI (rg_to lx lz)) by rw [pk_us]) ?_
          refine lv_aload_n hx hb dM_join_199 rfl (lv_at hl 3 rfl) ?_
          refine va_get (D := (dC, dI)) (ci := 0) (C := "RevisionGroveModel") (T := TM) (N := 19) hx hb hts inM hown hK hP 0 rfl rfl 6 (by decide) (hts _ tw_607) (fun _ h9 => h9) rfl dM_join_200 ?_
          refine lv_iconst (v := nI 2) hx hb dM_join_203 (by decide) ?_
          refine lv_iload_n hx hb dM_join_204 rfl (lv_at hl 5 rfl) ?_
          refine rg_imul hx hb dM_join_205 ?_
          refine lv_iload_n hx hb dM_join_206 rfl (lv_at hl 4 rfl) ?_
          refine rg_iadd hx hb dM_join_207 ?_
          refine rg_iald hx hb hK hP 5 0 rfl rfl (by decide) (by omega) dM_join_208 ?_
          refine rg_top (show (.int (le (2 * x + f)) : Value) = .int (nI lx.length) by rw [hlx]) ?_
          have hL4 := rg_sg_l (D := (((([] : List Int32)) ++ rg_sg lx 0 (rg_hd lx ly)) ++ rg_sg ly (rg_hd lx ly) (rg_en lx ly)) ++ rg_sg lx (rg_to lx ly) (rg_hd lx lz)) (x := lz) (i := rg_hd lx lz) (k := rg_en lx lz) (by omega)
          refine rg_callv hD hS hA (va_runV (As := [.int (nI x), .int (nI f), .int (nI (rg_to lx lz)), .int (nI lx.length)]) (rest := []) ⟨hx, hb, hml, hown, hts⟩ (c_rm_take x f (rg_to lx lz) lx.length (by omega) (by omega) (((((([] : List Int32)) ++ rg_sg lx 0 (rg_hd lx ly)) ++ rg_sg ly (rg_hd lx ly) (rg_en lx ly)) ++ rg_sg lx (rg_to lx ly) (rg_hd lx lz)) ++ rg_sg lz (rg_hd lx lz) (rg_en lx lz)) lx (by omega) (by omega) hx8 hcx (by omega) hw40 _) (cwV 4 hts (rg_gV tw_773 tw_775 ts_M_take tw_5 tw_776) rfl rfl rfl (by decide +kernel) ⟨by rw [hR]; exact Nat.le_of_ble_eq_true rfl, by rw [hR]; exact Nat.le_of_ble_eq_true rfl⟩) (rg_preV rfl hK hP hD (ci := 0) (q0 := 0) rfl rfl) rfl rfl hl.1 rfl (lv_room (Nat.le_of_ble_eq_true rfl)) dM_join_209 ⟨Nat.zero_le _, Nat.zero_le _⟩) (fun u42 H locs hw43 hP hD hS => ?_)
          have hP : va_P (dC, dI) rg_cl (rm_W h a cI cL cod cnt bra cof (nI ((((((([] : List Int32)) ++ rg_sg lx 0 (rg_hd lx ly)) ++ rg_sg ly (rg_hd lx ly) (rg_en lx ly)) ++ rg_sg lx (rg_to lx ly) (rg_hd lx lz)) ++ rg_sg lz (rg_hd lx lz) (rg_en lx lz)) ++ rg_sg lx (rg_to lx lz) lx.length).length) nu co se li le fi sc ti un ma u42 (upd (upd fr 0 (nI (rg_hd lx ly))) 1 (nI (rg_hd lx lz))) (upd (upd to 0 (nI (rg_to lx ly))) 1 (nI (rg_to lx lz))) (upd (upd en 0 (nI (rg_en lx ly))) 1 (nI (rg_en lx lz)))) H := hP
          have hD : va_D A (rm_W h a cI cL cod cnt bra cof (nI ((((((([] : List Int32)) ++ rg_sg lx 0 (rg_hd lx ly)) ++ rg_sg ly (rg_hd lx ly) (rg_en lx ly)) ++ rg_sg lx (rg_to lx ly) (rg_hd lx lz)) ++ rg_sg lz (rg_hd lx lz) (rg_en lx lz)) ++ rg_sg lx (rg_to lx lz) lx.length).length) nu co se li le fi sc ti un ma u42 (upd (upd fr 0 (nI (rg_hd lx ly))) 1 (nI (rg_hd lx lz))) (upd (upd to 0 (nI (rg_to lx ly))) 1 (nI (rg_to lx lz))) (upd (upd en 0 (nI (rg_en lx ly))) 1 (nI (rg_en lx lz)))) := hD
          have hL5 := rg_sg_l (D := ((((([] : List Int32)) ++ rg_sg lx 0 (rg_hd lx ly)) ++ rg_sg ly (rg_hd lx ly) (rg_en lx ly)) ++ rg_sg lx (rg_to lx ly) (rg_hd lx lz)) ++ rg_sg lz (rg_hd lx lz) (rg_en lx lz)) (x := lx) (i := rg_to lx lz) (k := lx.length) (by omega)
          refine lv_aload_n hx hb dM_join_212 rfl (lv_at hl 3 rfl) ?_
          refine va_get (D := (dC, dI)) (ci := 0) (C := "RevisionGroveModel") (T := TM) (N := 19) hx hb hts inM hown hK hP 0 rfl rfl 14 (by decide) (hts _ tw_615) (fun _ h9 => h9) rfl dM_join_213 ?_
          refine lv_bipush (v := nI 8) hx hb dM_join_216 (by decide) ?_
          refine rg_icmp_gt (tgt := 225) hx hb dM_join_218 (by decide) (by omega) (by omega) (fun h44 => ?_) (fun h44 => ?_)
          · refine lv_iconst (v := nI 0) hx hb dM_join_225 (by decide) ?_
            rw [hQ]
            exact rg_zret hx hb hr hlk hK hP hD hS (by first | exact Or.inl rfl | exact Or.inr rfl) dM_join_226 (nI ((((((([] : List Int32)) ++ rg_sg lx 0 (rg_hd lx ly)) ++ rg_sg ly (rg_hd lx ly) (rg_en lx ly)) ++ rg_sg lx (rg_to lx ly) (rg_hd lx lz)) ++ rg_sg lz (rg_hd lx lz) (rg_en lx lz)) ++ rg_sg lx (rg_to lx lz) lx.length).length, u42, upd (upd fr 0 (nI (rg_hd lx ly))) 1 (nI (rg_hd lx lz)), upd (upd to 0 (nI (rg_to lx ly))) 1 (nI (rg_to lx lz)), upd (upd en 0 (nI (rg_en lx ly))) 1 (nI (rg_en lx lz))) rfl (⟨by rw [(rg_jok_l hle hfo).2, decide_eq_false (show ¬ (rg_five lx ly lz).length ≤ 8 from Nat.not_le.mpr h44)]; rfl, fun q => by rw [(rg_jok_l hle hfo).2, decide_eq_false (show ¬ (rg_five lx ly lz).length ≤ 8 from Nat.not_le.mpr h44)] at q; cases q⟩)
          · refine lv_iconst (v := nI 1) hx hb dM_join_221 (by decide) ?_
            refine lv_goto (tgt := 226) hx hb dM_join_222 (by decide) ?_
            rw [hQ]
            exact rg_zret hx hb hr hlk hK hP hD hS (by first | exact Or.inl rfl | exact Or.inr rfl) dM_join_226 (nI ((((((([] : List Int32)) ++ rg_sg lx 0 (rg_hd lx ly)) ++ rg_sg ly (rg_hd lx ly) (rg_en lx ly)) ++ rg_sg lx (rg_to lx ly) (rg_hd lx lz)) ++ rg_sg lz (rg_hd lx lz) (rg_en lx lz)) ++ rg_sg lx (rg_to lx lz) lx.length).length, u42, upd (upd fr 0 (nI (rg_hd lx ly))) 1 (nI (rg_hd lx lz)), upd (upd to 0 (nI (rg_to lx ly))) 1 (nI (rg_to lx lz)), upd (upd en 0 (nI (rg_en lx ly))) 1 (nI (rg_en lx lz))) rfl (⟨by rw [(rg_jok_l hle hfo).2, decide_eq_true (show (rg_five lx ly lz).length ≤ 8 from h44)]; rfl, fun _ => by rw [(rg_jok_l hle hfo).1]; exact ⟨rfl, hw43⟩⟩)
      · refine lv_iconst (v := nI 0) hx hb dM_join_68 (by decide) ?_
        rw [hQ]
        exact rg_zret hx hb hr hlk hK hP hD hS (by first | exact Or.inl rfl | exact Or.inr rfl) dM_join_69 (mad, dr, upd (upd fr 0 (nI (rg_hd lx ly))) 1 (nI (rg_hd lx lz)), upd (upd to 0 (nI (rg_to lx ly))) 1 (nI (rg_to lx lz)), upd (upd en 0 (nI (rg_en lx ly))) 1 (nI (rg_en lx lz))) rfl (⟨by rw [rg_jok_no (rg_bif_inj.mp h7)]; rfl, fun q => by rw [rg_jok_no (rg_bif_inj.mp h7)] at q; cases q⟩)
    refine rg_icmp_gt (tgt := 58) hx hb dM_join_51 (by decide) (by omega) (by omega) (fun h45 => ?_) (fun h45 => ?_)
    · refine lv_iconst (v := nI 0) hx hb dM_join_58 (by decide) ?_
      exact J51 false ((decide_eq_false (Nat.not_le.mpr h45)).symm)
    · refine lv_iconst (v := nI 1) hx hb dM_join_54 (by decide) ?_
      refine lv_goto (tgt := 59) hx hb dM_join_55 (by decide) ?_
      exact J51 true ((decide_eq_true h45).symm)
  refine rg_icmp_gt (tgt := 36) hx hb dM_join_29 (by decide) (by omega) (by omega) (fun h46 => ?_) (fun h46 => ?_)
  · refine lv_iconst (v := nI 0) hx hb dM_join_36 (by decide) ?_
    exact J29 false ((decide_eq_false (Nat.not_le.mpr h46)).symm)
  · refine lv_iconst (v := nI 1) hx hb dM_join_32 (by decide) ?_
    refine lv_goto (tgt := 37) hx hb dM_join_33 (by decide) ?_
    exact J29 true ((decide_eq_true h46).symm)
