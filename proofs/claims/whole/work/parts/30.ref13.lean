set_option maxHeartbeats 4000000 in
set_option maxRecDepth 100000 in
theorem c_rm_mergeList {l : Launch} {dC : Nat → ClassId} {dI : Nat → Nat → Nat} {h : Nat} {a : Nat → Nat} {cI cL : ClassId} {cod : Int32} {bra : Int32} {cof : Int32} {mad : Int32} {nu : Nat → Int32} {co : Nat → Int64} {se : Nat → Int32} {li : Nat → Int32} {le : Nat → Int32} {fi : Nat → Int32} {sc : Nat → Int32} {ti : Nat → Int32} {un : Nat → Int32} {ma : Nat → Int32} {dr : Nat → Int32} {fr : Nat → Int32} {to : Nat → Int32} {en : Nat → Int32} (n f x y z s9 : Nat) (hn6 : n < 61) (hf2 : f < 2) (hx6 : x < 61) (hy6 : y < 61) (hz6 : z < 61) (hs3 : s9 < 3) (lx ly lz : List Int32) (hx8 : lx.length ≤ 8) (hlx : le (2 * x + f) = nI lx.length) (hcx : ∀ k, k < lx.length → li (16 * x + 8 * f + k) = lx.getD k 0) (hy8 : ly.length ≤ 8) (hly : le (2 * y + f) = nI ly.length) (hcy : ∀ k, k < ly.length → li (16 * y + 8 * f + k) = ly.getD k 0) (hz8 : lz.length ≤ 8) (hlz : le (2 * z + f) = nI lz.length) (hcz : ∀ k, k < lz.length → li (16 * z + 8 * f + k) = lz.getD k 0)  : rg_M l yM_mergeList (Cond.code yM_mergeList prog_8_method_30_code 9 none :: rg_tbl) { frames := 3, cells := 0, slots := 0, locals := 78 } (dC, dI) rg_cl [(cI, .int), (cL, .long)] (rm_W h a cI cL cod (nI n) bra cof mad nu co se li le fi sc ti un ma dr fr to en) [.ref h, .int (nI f), .int (nI x), .int (nI y), .int (nI z), .int (nI s9)] (rg_QV (dC, dI) rg_cl [(cI, .int), (cL, .long)] (S := ((Nat → Int32) × Int32 × (Nat → Int32) × (Nat → Int32) × (Nat → Int32) × (Nat → Int32))) (fun u => (∀ i, i < (rg_mL (rg_ch (decide (lx = ly)) (decide (lx = lz)) (decide (ly = lz))) s9 lx ly lz).length → u.1 (16 * n + 8 * f + i) = (rg_mL (rg_ch (decide (lx = ly)) (decide (lx = lz)) (decide (ly = lz))) s9 lx ly lz).getD i 0) ∧ ∀ j, j < 16 * n + 8 * f ∨ 16 * n + 8 * f + 8 ≤ j → u.1 j = li j) (fun u => rm_W h a cI cL cod (nI n) bra (cof ||| rg_cL (rg_ch (decide (lx = ly)) (decide (lx = lz)) (decide (ly = lz))) (rg_jn (rg_ch (decide (lx = ly)) (decide (lx = lz)) (decide (ly = lz))) lx ly lz) f) u.2.1 nu co se u.1 (upd le (2 * n + f) (nI (rg_mL (rg_ch (decide (lx = ly)) (decide (lx = lz)) (decide (ly = lz))) s9 lx ly lz).length)) fi sc ti un ma u.2.2.1 u.2.2.2.1 u.2.2.2.2.1 u.2.2.2.2.2)) 0 0 := by
  refine rg_of prog_8_method_30_code 9 none (by decide) rfl (Nat.le_of_ble_eq_true rfl) ?_
  intro p e R s m args below meth c Q A H locs ls hR hQ hx hb hml hr hts hown hlk hnm hP hK hD hA hS hl
  have hl : lv_has ls 9 [(0, .ref h), (1, .int (nI f)), (2, .int (nI x)), (3, .int (nI y)), (4, .int (nI z)), (5, .int (nI s9))] := hl
  have hts : ∀ w ∈ rg_tbl, w.before args s = true := fun w h => hts w (List.mem_cons_of_mem _ h)
  refine lv_aload_n hx hb dM_mergeList_0 rfl (lv_at hl 0 rfl) ?_
  refine lv_iload_n hx hb dM_mergeList_1 rfl (lv_at hl 2 rfl) ?_
  refine lv_iload_n hx hb dM_mergeList_2 rfl (lv_at hl 3 rfl) ?_
  refine lv_iload_n hx hb dM_mergeList_3 rfl (lv_at hl 1 rfl) ?_
  refine rg_calli hD hS hA (va_runV (As := [.int (nI x), .int (nI y), .int (nI f)]) (rest := []) ⟨hx, hb, hml, hown, hts⟩ (c_rm_sameList x y f (by omega) (by omega) (by omega) lx ly hx8 hlx hcx hy8 hly hcy _) (cwV 3 hts (rg_gV tw_683 tw_685 ts_M_sameList tw_5 tw_686) rfl rfl rfl (by decide +kernel) ⟨by rw [hR]; exact Nat.le_of_ble_eq_true rfl, by rw [hR]; exact Nat.le_of_ble_eq_true rfl⟩) (rg_preV rfl hK hP hD (ci := 0) (q0 := 0) rfl rfl) rfl rfl hl.1 rfl (lv_room (Nat.le_of_ble_eq_true rfl)) dM_mergeList_4 ⟨Nat.zero_le _, Nat.zero_le _⟩) (fun r1 u2 H locs hw3 hP hD hS => ?_)
  subst hw3
  have hP : va_P (dC, dI) rg_cl (rm_W h a cI cL cod (nI n) bra cof mad nu co se li le fi sc ti un ma dr fr to en) H := hP
  have hD : va_D A (rm_W h a cI cL cod (nI n) bra cof mad nu co se li le fi sc ti un ma dr fr to en) := hD
  refine lv_aload_n hx hb dM_mergeList_7 rfl (lv_at hl 0 rfl) ?_
  refine lv_iload_n hx hb dM_mergeList_8 rfl (lv_at hl 2 rfl) ?_
  refine lv_iload hx hb dM_mergeList_9 (lv_at hl 4 rfl) ?_
  refine lv_iload_n hx hb dM_mergeList_11 rfl (lv_at hl 1 rfl) ?_
  refine rg_calli hD hS hA (va_runV (As := [.int (nI x), .int (nI z), .int (nI f)]) (rest := [.int (bif (decide (lx = ly)) then 1 else 0)]) ⟨hx, hb, hml, hown, hts⟩ (c_rm_sameList x z f (by omega) (by omega) (by omega) lx lz hx8 hlx hcx hz8 hlz hcz _) (cwV 3 hts (rg_gV tw_683 tw_685 ts_M_sameList tw_5 tw_686) rfl rfl rfl (by decide +kernel) ⟨by rw [hR]; exact Nat.le_of_ble_eq_true rfl, by rw [hR]; exact Nat.le_of_ble_eq_true rfl⟩) (rg_preV rfl hK hP hD (ci := 0) (q0 := 0) rfl rfl) rfl rfl hl.1 rfl (lv_room (Nat.le_of_ble_eq_true rfl)) dM_mergeList_12 ⟨Nat.zero_le _, Nat.zero_le _⟩) (fun r4 u5 H locs hw6 hP hD hS => ?_)
  subst hw6
  have hP : va_P (dC, dI) rg_cl (rm_W h a cI cL cod (nI n) bra cof mad nu co se li le fi sc ti un ma dr fr to en) H := hP
  have hD : va_D A (rm_W h a cI cL cod (nI n) bra cof mad nu co se li le fi sc ti un ma dr fr to en) := hD
  refine lv_aload_n hx hb dM_mergeList_15 rfl (lv_at hl 0 rfl) ?_
  refine lv_iload_n hx hb dM_mergeList_16 rfl (lv_at hl 3 rfl) ?_
  refine lv_iload hx hb dM_mergeList_17 (lv_at hl 4 rfl) ?_
  refine lv_iload_n hx hb dM_mergeList_19 rfl (lv_at hl 1 rfl) ?_
  refine rg_calli hD hS hA (va_runV (As := [.int (nI y), .int (nI z), .int (nI f)]) (rest := [.int (bif (decide (lx = lz)) then 1 else 0), .int (bif (decide (lx = ly)) then 1 else 0)]) ⟨hx, hb, hml, hown, hts⟩ (c_rm_sameList y z f (by omega) (by omega) (by omega) ly lz hy8 hly hcy hz8 hlz hcz _) (cwV 3 hts (rg_gV tw_683 tw_685 ts_M_sameList tw_5 tw_686) rfl rfl rfl (by decide +kernel) ⟨by rw [hR]; exact Nat.le_of_ble_eq_true rfl, by rw [hR]; exact Nat.le_of_ble_eq_true rfl⟩) (rg_preV rfl hK hP hD (ci := 0) (q0 := 0) rfl rfl) rfl rfl hl.1 rfl (lv_room (Nat.le_of_ble_eq_true rfl)) dM_mergeList_20 ⟨Nat.zero_le _, Nat.zero_le _⟩) (fun r7 u8 H locs hw9 hP hD hS => ?_)
  subst hw9
  have hP : va_P (dC, dI) rg_cl (rm_W h a cI cL cod (nI n) bra cof mad nu co se li le fi sc ti un ma dr fr to en) H := hP
  have hD : va_D A (rm_W h a cI cL cod (nI n) bra cof mad nu co se li le fi sc ti un ma dr fr to en) := hD
  refine rg_calli hD hS hA (va_runS (As := [.int (bif (decide (lx = ly)) then 1 else 0), .int (bif (decide (lx = lz)) then 1 else 0), .int (bif (decide (ly = lz)) then 1 else 0)]) (rest := []) ⟨hx, hb, hml, hown, hts⟩ (c_rm_choice (decide (lx = ly)) (decide (lx = lz)) (decide (ly = lz)) _) (cwS 3 hts (rg_gS tw_754 tw_755 tw_5 tw_756) rfl rfl rfl (by decide +kernel) ⟨by rw [hR]; exact Nat.le_of_ble_eq_true rfl, by rw [hR]; exact Nat.le_of_ble_eq_true rfl⟩) (rg_preS rfl hK hP hD) rfl rfl hl.1 rfl (lv_room (Nat.le_of_ble_eq_true rfl)) dM_mergeList_23 ⟨Nat.zero_le _, Nat.zero_le _⟩) (fun r10 u11 H locs hw12 hP hD hS => ?_)
  subst hw12
  have hP : va_P (dC, dI) rg_cl (rm_W h a cI cL cod (nI n) bra cof mad nu co se li le fi sc ti un ma dr fr to en) H := hP
  have hD : va_D A (rm_W h a cI cL cod (nI n) bra cof mad nu co se li le fi sc ti un ma dr fr to en) := hD
  have hw4 := rg_ch_lt (decide (lx = ly)) (decide (lx = lz)) (decide (ly = lz))
  obtain ⟨w, hw9⟩ : ∃ w, w = rg_ch (decide (lx = ly)) (decide (lx = lz)) (decide (ly = lz)) := ⟨_, rfl⟩
  rw [← hw9] at hw4 ⊢
  refine lv_istore (lv' := [(6, .int (nI w)), (0, .ref h), (1, .int (nI f)), (2, .int (nI x)), (3, .int (nI y)), (4, .int (nI z)), (5, .int (nI s9))]) hx hb dM_mergeList_26 hl (by decide) rfl (fun ls hl => ?_)
  refine lv_iload hx hb dM_mergeList_28 (lv_at hl 0 rfl) ?_
  refine lv_iconst (v := nI 3) hx hb dM_mergeList_30 (by decide) ?_
  refine rg_icmp_ne (tgt := 50) hx hb dM_mergeList_31 (by decide) (by omega) (by omega) (fun h13 => ?_) (fun h13 => ?_)
  · refine lv_iconst (v := nI 0) hx hb dM_mergeList_50 (by decide) ?_
    have hjn : rg_jn w lx ly lz = false := rg_jn_n h13
    refine lv_istore (lv' := [(7, .int (nI 0)), (6, .int (nI w)), (0, .ref h), (1, .int (nI f)), (2, .int (nI x)), (3, .int (nI y)), (4, .int (nI z)), (5, .int (nI s9))]) hx hb dM_mergeList_51 hl (by decide) rfl (fun ls hl => ?_)
    refine lv_aload_n hx hb dM_mergeList_53 rfl (lv_at hl 2 rfl) ?_
    refine lv_dup hx hb dM_mergeList_54 rfl ?_
    refine va_get (D := (dC, dI)) (ci := 0) (C := "RevisionGroveModel") (T := TM) (N := 19) hx hb hts inM hown hK hP 0 rfl rfl 13 (by decide) (hts _ tw_614) (fun _ h9 => h9) rfl dM_mergeList_55 ?_
    refine lv_iload hx hb dM_mergeList_58 (lv_at hl 1 rfl) ?_
    refine lv_iconst (v := nI 3) hx hb dM_mergeList_60 (by decide) ?_
    refine rg_icmp_ne (tgt := 76) hx hb dM_mergeList_61 (by decide) (by omega) (by omega) (fun h14 => ?_) (fun h14 => absurd h14 h13)
    refine lv_iconst (v := nI 0) hx hb dM_mergeList_76 (by decide) ?_
    refine rg_top (show (.int (nI 0) : Value) = .int (rg_cL w (rg_jn w lx ly lz) f) by rw [rg_cL_n h13]) ?_
    refine lv_ior hx hb dM_mergeList_77 ?_
    refine va_put (D := (dC, dI)) (ci := 0) (v := .int (cof ||| (rg_cL w (rg_jn w lx ly lz) f))) (ty := .int) (C := "RevisionGroveModel") (T := TM) (N := 19) hx hb hts inM tyM tyM_ok nmM hown hK hP hD hS 0 rfl rfl 13 (by decide) (hts _ tw_614) (fun _ h9 => h9) rfl (by decide +kernel) rfl rfl (Nat.le_of_ble_eq_true rfl) dM_mergeList_78 (fun H locs hP hD hS => ?_)
    have hP : va_P (dC, dI) rg_cl (rm_W h a cI cL cod (nI n) bra (cof ||| (rg_cL w (rg_jn w lx ly lz) f)) mad nu co se li le fi sc ti un ma dr fr to en) H := hP
    have hD : va_D A (rm_W h a cI cL cod (nI n) bra (cof ||| (rg_cL w (rg_jn w lx ly lz) f)) mad nu co se li le fi sc ti un ma dr fr to en) := hD
    refine lv_iload hx hb dM_mergeList_81 (lv_at hl 0 rfl) ?_
    refine rg_ifN_ne (tgt := 155) hx hb dM_mergeList_83 (by decide) (by decide) (fun h15 => by exfalso; omega) (fun h15 => ?_)
    refine lv_aload_n hx hb dM_mergeList_86 rfl (lv_at hl 2 rfl) ?_
    refine lv_iconst (v := nI 0) hx hb dM_mergeList_87 (by decide) ?_
    refine va_put (D := (dC, dI)) (ci := 0) (v := .int (nI 0)) (ty := .int) (C := "RevisionGroveModel") (T := TM) (N := 19) hx hb hts inM tyM tyM_ok nmM hown hK hP hD hS 0 rfl rfl 14 (by decide) (hts _ tw_615) (fun _ h9 => h9) rfl (by decide +kernel) rfl rfl (Nat.le_of_ble_eq_true rfl) dM_mergeList_88 (fun H locs hP hD hS => ?_)
    have hP : va_P (dC, dI) rg_cl (rm_W h a cI cL cod (nI n) bra (cof ||| (rg_cL w (rg_jn w lx ly lz) f)) (nI 0) nu co se li le fi sc ti un ma dr fr to en) H := hP
    have hD : va_D A (rm_W h a cI cL cod (nI n) bra (cof ||| (rg_cL w (rg_jn w lx ly lz) f)) (nI 0) nu co se li le fi sc ti un ma dr fr to en) := hD
    refine lv_iload hx hb dM_mergeList_91 (lv_at hl 1 rfl) ?_
    refine lv_iconst (v := nI 3) hx hb dM_mergeList_93 (by decide) ?_
    have J94 : ∀ v9 : Nat, v9 = (rg_pick w s9 x y z) → W p l e R s m args below meth c H locs 0 0 Q (F0 m 134 ls [.int (nI v9)]) := by
      intro v9 hv9
      subst hv9
      have hq6 : rg_pick w s9 x y z < 61 := rg_pick_lt (by omega) (by omega) (by omega)
      have hLs : rg_Ls le li f (rg_pick w s9 x y z) (rg_pick w s9 lx ly lz) := rg_pick_Ls ⟨hx8, hlx, hcx⟩ ⟨hy8, hly, hcy⟩ ⟨hz8, hlz, hcz⟩
      obtain ⟨q9, hq9⟩ : ∃ q9, q9 = rg_pick w s9 x y z := ⟨_, rfl⟩
      rw [← hq9] at hq6 hLs ⊢
      have hmf := rg_mL_f (s := s9) hjn
      obtain ⟨lq, hlq⟩ : ∃ lq, lq = rg_pick w s9 lx ly lz := ⟨_, rfl⟩
      rw [← hlq] at hLs hmf
      have hleq := hLs.2.1
      have hlq8 := hLs.1
      refine lv_istore (lv' := [(8, .int (nI q9)), (7, .int (nI 0)), (6, .int (nI w)), (0, .ref h), (1, .int (nI f)), (2, .int (nI x)), (3, .int (nI y)), (4, .int (nI z)), (5, .int (nI s9))]) hx hb dM_mergeList_134 hl (by decide) rfl (fun ls hl => ?_)
      refine lv_aload_n hx hb dM_mergeList_136 rfl (lv_at hl 3 rfl) ?_
      refine lv_iload hx hb dM_mergeList_137 (lv_at hl 0 rfl) ?_
      refine lv_iload_n hx hb dM_mergeList_139 rfl (lv_at hl 4 rfl) ?_
      refine lv_iconst (v := nI 0) hx hb dM_mergeList_140 (by decide) ?_
      refine lv_aload_n hx hb dM_mergeList_141 rfl (lv_at hl 3 rfl) ?_
      refine va_get (D := (dC, dI)) (ci := 0) (C := "RevisionGroveModel") (T := TM) (N := 19) hx hb hts inM hown hK hP 0 rfl rfl 6 (by decide) (hts _ tw_607) (fun _ h9 => h9) rfl dM_mergeList_142 ?_
      refine lv_iconst (v := nI 2) hx hb dM_mergeList_145 (by decide) ?_
      refine lv_iload hx hb dM_mergeList_146 (lv_at hl 0 rfl) ?_
      refine rg_imul hx hb dM_mergeList_148 ?_
      refine lv_iload_n hx hb dM_mergeList_149 rfl (lv_at hl 4 rfl) ?_
      refine rg_iadd hx hb dM_mergeList_150 ?_
      refine rg_iald hx hb hK hP 5 0 rfl rfl (by decide) (by omega) dM_mergeList_151 ?_
      refine rg_top (show (.int (le (2 * q9 + f)) : Value) = .int (nI lq.length) by rw [hleq]) ?_
      refine rg_callv hD hS hA (va_runV (As := [.int (nI q9), .int (nI f), .int (nI 0), .int (nI lq.length)]) (rest := []) ⟨hx, hb, hml, hown, hts⟩ (c_rm_take q9 f 0 lq.length (by omega) (by omega) (([] : List Int32)) lq (Nat.zero_le _) (Nat.le_refl _) hLs.1 hLs.2.2 (by show 0 + (lq.length - 0) ≤ 24; omega) (rg_Dr_0 _) _) (cwV 4 hts (rg_gV tw_773 tw_775 ts_M_take tw_5 tw_776) rfl rfl rfl (by decide +kernel) ⟨by rw [hR]; exact Nat.le_of_ble_eq_true rfl, by rw [hR]; exact Nat.le_of_ble_eq_true rfl⟩) (rg_preV rfl hK hP hD (ci := 0) (q0 := 0) rfl rfl) rfl rfl hl.1 rfl (lv_room (Nat.le_of_ble_eq_true rfl)) dM_mergeList_152 ⟨Nat.zero_le _, Nat.zero_le _⟩) (fun u17 H locs hw18 hP hD hS => ?_)
      have hP : va_P (dC, dI) rg_cl (rm_W h a cI cL cod (nI n) bra (cof ||| (rg_cL w (rg_jn w lx ly lz) f)) (nI ((([] : List Int32)) ++ rg_sg lq 0 lq.length).length) nu co se li le fi sc ti un ma u17 fr to en) H := hP
      have hD : va_D A (rm_W h a cI cL cod (nI n) bra (cof ||| (rg_cL w (rg_jn w lx ly lz) f)) (nI ((([] : List Int32)) ++ rg_sg lq 0 lq.length).length) nu co se li le fi sc ti un ma u17 fr to en) := hD
      have hMD := hw18
      rw [rg_sg_all, ← hmf] at hMD
      have hMm : (nI (([] : List Int32) ++ rg_sg lq 0 lq.length).length) = nI (rg_mL w s9 lx ly lz).length := by rw [rg_sg_all, hmf]
      have hM8 : (rg_mL w s9 lx ly lz).length ≤ 8 := rg_mL_len hx8 hy8 hz8
      obtain ⟨ML, hML⟩ : ∃ ML, ML = rg_mL w s9 lx ly lz := ⟨_, rfl⟩
      rw [← hML] at hMm hMD hM8
      rw [hMm] at hP hD
      have hP : va_P (dC, dI) rg_cl (rm_W h a cI cL cod (nI n) bra (cof ||| (rg_cL w (rg_jn w lx ly lz) f)) (nI ML.length) nu co se li le fi sc ti un ma u17 fr to en) H := hP
      have hD : va_D A (rm_W h a cI cL cod (nI n) bra (cof ||| (rg_cL w (rg_jn w lx ly lz) f)) (nI ML.length) nu co se li le fi sc ti un ma u17 fr to en) := hD
      refine lv_iconst (v := nI 0) hx hb dM_mergeList_155 (by decide) ?_
      refine lv_istore (lv' := [(8, .int (nI 0)), (7, .int (nI 0)), (6, .int (nI w)), (0, .ref h), (1, .int (nI f)), (2, .int (nI x)), (3, .int (nI y)), (4, .int (nI z)), (5, .int (nI s9))]) hx hb dM_mergeList_156 hl (by decide) rfl (fun ls hl => ?_)
      have lp158 : ∀ (fuel : Nat) (k : Nat) (li1 : Nat → Int32) (H : Heap) (locs : List Loc) (ls : Array Slot), ML.length - k < fuel → k ≤ ML.length → (∀ i, i < k → li1 (16 * n + 8 * f + i) = ML.getD i 0) → (∀ j, j < 16 * n + 8 * f ∨ 16 * n + 8 * f + 8 ≤ j → li1 j = li j) → va_P (dC, dI) rg_cl (rm_W h a cI cL cod (nI n) bra (cof ||| (rg_cL w (rg_jn w lx ly lz) f)) (nI ML.length) nu co se li1 le fi sc ti un ma u17 fr to en) H → va_D A (rm_W h a cI cL cod (nI n) bra (cof ||| (rg_cL w (rg_jn w lx ly lz) f)) (nI ML.length) nu co se li1 le fi sc ti un ma u17 fr to en) → va_S A s.heap H locs → lv_has ls 9 [(0, .ref h), (1, .int (nI f)), (8, .int (nI k))] → W p l e R s m args below meth c H locs 0 0 Q (F0 m 158 ls []) := by
        intro fuel
        induction fuel with
        | zero => intro k li1 H locs ls hf; exact absurd hf (Nat.not_lt_zero _)
        | succ fuel ih158 =>
          intro k li1 H locs ls hfu158 hk9 hin hout hP hD hS hl
          refine lv_iload hx hb dM_mergeList_158 (lv_at hl 2 rfl) ?_
          refine lv_aload_n hx hb dM_mergeList_160 rfl (lv_at hl 0 rfl) ?_
          refine va_get (D := (dC, dI)) (ci := 0) (C := "RevisionGroveModel") (T := TM) (N := 19) hx hb hts inM hown hK hP 0 rfl rfl 14 (by decide) (hts _ tw_615) (fun _ h9 => h9) rfl dM_mergeList_161 ?_
          refine rg_icmp_ge (tgt := 200) hx hb dM_mergeList_164 (by decide) (by omega) (by omega) (fun h19 => ?_) (fun h19 => ?_)
          · refine lv_aload_n hx hb dM_mergeList_200 rfl (lv_at hl 0 rfl) ?_
            refine va_get (D := (dC, dI)) (ci := 0) (C := "RevisionGroveModel") (T := TM) (N := 19) hx hb hts inM hown hK hP 0 rfl rfl 6 (by decide) (hts _ tw_607) (fun _ h9 => h9) rfl dM_mergeList_201 ?_
            refine lv_iconst (v := nI 2) hx hb dM_mergeList_204 (by decide) ?_
            refine lv_aload_n hx hb dM_mergeList_205 rfl (lv_at hl 0 rfl) ?_
            refine va_get (D := (dC, dI)) (ci := 0) (C := "RevisionGroveModel") (T := TM) (N := 19) hx hb hts inM hown hK hP 0 rfl rfl 1 (by decide) (hts _ tw_602) (fun _ h9 => h9) rfl dM_mergeList_206 ?_
            refine rg_imul hx hb dM_mergeList_209 ?_
            refine lv_iload_n hx hb dM_mergeList_210 rfl (lv_at hl 1 rfl) ?_
            refine rg_iadd hx hb dM_mergeList_211 ?_
            refine lv_aload_n hx hb dM_mergeList_212 rfl (lv_at hl 0 rfl) ?_
            refine va_get (D := (dC, dI)) (ci := 0) (C := "RevisionGroveModel") (T := TM) (N := 19) hx hb hts inM hown hK hP 0 rfl rfl 14 (by decide) (hts _ tw_615) (fun _ h9 => h9) rfl dM_mergeList_213 ?_
            refine rg_iast hx hb hK hP hD hS 5 0 rfl rfl (by decide) (by omega) dM_mergeList_216 (fun H locs hP hD hS => ?_)
            have hP : va_P (dC, dI) rg_cl (rm_W h a cI cL cod (nI n) bra (cof ||| (rg_cL w (rg_jn w lx ly lz) f)) (nI ML.length) nu co se li1 (upd le (2 * n + f) (nI ML.length)) fi sc ti un ma u17 fr to en) H := hP
            have hD : va_D A (rm_W h a cI cL cod (nI n) bra (cof ||| (rg_cL w (rg_jn w lx ly lz) f)) (nI ML.length) nu co se li1 (upd le (2 * n + f) (nI ML.length)) fi sc ti un ma u17 fr to en) := hD
            have hkM : k = ML.length := by omega
            rw [hkM] at hin
            subst hML
            subst hw9
            rw [hQ]
            exact rg_vret hx hb hr hlk hK hP hD hS dM_mergeList_217 (li1, nI (rg_mL (rg_ch (decide (lx = ly)) (decide (lx = lz)) (decide (ly = lz))) s9 lx ly lz).length, u17, fr, to, en) rfl ⟨hin, hout⟩
          · have hdk := hMD k (by omega)
            refine lv_aload_n hx hb dM_mergeList_167 rfl (lv_at hl 0 rfl) ?_
            refine va_get (D := (dC, dI)) (ci := 0) (C := "RevisionGroveModel") (T := TM) (N := 19) hx hb hts inM hown hK hP 0 rfl rfl 5 (by decide) (hts _ tw_606) (fun _ h9 => h9) rfl dM_mergeList_168 ?_
            refine lv_bipush (v := nI 16) hx hb dM_mergeList_171 (by decide) ?_
            refine lv_aload_n hx hb dM_mergeList_173 rfl (lv_at hl 0 rfl) ?_
            refine va_get (D := (dC, dI)) (ci := 0) (C := "RevisionGroveModel") (T := TM) (N := 19) hx hb hts inM hown hK hP 0 rfl rfl 1 (by decide) (hts _ tw_602) (fun _ h9 => h9) rfl dM_mergeList_174 ?_
            refine rg_imul hx hb dM_mergeList_177 ?_
            refine lv_bipush (v := nI 8) hx hb dM_mergeList_178 (by decide) ?_
            refine lv_iload_n hx hb dM_mergeList_180 rfl (lv_at hl 1 rfl) ?_
            refine rg_imul hx hb dM_mergeList_181 ?_
            refine rg_iadd hx hb dM_mergeList_182 ?_
            refine lv_iload hx hb dM_mergeList_183 (lv_at hl 2 rfl) ?_
            refine rg_iadd hx hb dM_mergeList_185 ?_
            refine lv_aload_n hx hb dM_mergeList_186 rfl (lv_at hl 0 rfl) ?_
            refine va_get (D := (dC, dI)) (ci := 0) (C := "RevisionGroveModel") (T := TM) (N := 19) hx hb hts inM hown hK hP 0 rfl rfl 15 (by decide) (hts _ tw_616) (fun _ h9 => h9) rfl dM_mergeList_187 ?_
            refine lv_iload hx hb dM_mergeList_190 (lv_at hl 2 rfl) ?_
            refine rg_iald hx hb hK hP 11 0 rfl rfl (by decide) (by omega) dM_mergeList_192 ?_
            refine rg_top (show (.int (u17 k) : Value) = .int (ML.getD k 0) by rw [hdk]) ?_
            refine rg_iast hx hb hK hP hD hS 4 0 rfl rfl (by decide) (by omega) dM_mergeList_193 (fun H locs hP hD hS => ?_)
            have hP : va_P (dC, dI) rg_cl (rm_W h a cI cL cod (nI n) bra (cof ||| (rg_cL w (rg_jn w lx ly lz) f)) (nI ML.length) nu co se (upd li1 (16 * n + 8 * f + k) (ML.getD k 0)) le fi sc ti un ma u17 fr to en) H := hP
            have hD : va_D A (rm_W h a cI cL cod (nI n) bra (cof ||| (rg_cL w (rg_jn w lx ly lz) f)) (nI ML.length) nu co se (upd li1 (16 * n + 8 * f + k) (ML.getD k 0)) le fi sc ti un ma u17 fr to en) := hD
            refine lv_iinc (k := 2) (v := nI (k + 1)) (lv' := [(8, .int (nI (k + 1))), (0, .ref h), (1, .int (nI f))]) hx hb dM_mergeList_194 hl rfl (nI_1 _) (by decide) rfl (fun ls hl => ?_)
            refine lv_goto (tgt := 158) hx hb dM_mergeList_197 (by decide) ?_
            exact ih158 (k + 1) (upd li1 (16 * n + 8 * f + k) (ML.getD k 0)) _ _ _ (by omega) (by omega) (lt_s (fun i hi => by rw [pk_un (by omega)]; exact hin i hi) pk_us) (fun j hj => by rw [pk_un (by omega)]; exact hout j hj) hP hD hS (lv_sub hl [1, 2, 0] rfl)
      exact lp158 _ 0 li _ _ _ (Nat.lt_succ_self _) (Nat.zero_le _) (fun i hi => absurd hi (Nat.not_lt_zero i)) (fun _ _ => rfl) hP hD hS (lv_sub hl [3, 4, 0] rfl)
    refine rg_icmp_ne (tgt := 112) hx hb dM_mergeList_94 (by decide) (by omega) (by omega) (fun h20 => ?_) (fun h20 => absurd h20 h13)
    refine lv_iload hx hb dM_mergeList_112 (lv_at hl 1 rfl) ?_
    refine lv_iconst (v := nI 1) hx hb dM_mergeList_114 (by decide) ?_
    refine rg_icmp_ne (tgt := 122) hx hb dM_mergeList_115 (by decide) (by omega) (by omega) (fun h21 => ?_) (fun h21 => ?_)
    · refine lv_iload hx hb dM_mergeList_122 (lv_at hl 1 rfl) ?_
      refine lv_iconst (v := nI 2) hx hb dM_mergeList_124 (by decide) ?_
      refine rg_icmp_ne (tgt := 133) hx hb dM_mergeList_125 (by decide) (by omega) (by omega) (fun h22 => ?_) (fun h22 => ?_)
      · refine lv_iload_n hx hb dM_mergeList_133 rfl (lv_at hl 4 rfl) ?_
        exact J94 x (by unfold rg_pick; rw [if_neg h20, if_neg h21, if_neg h22])
      · refine lv_iload hx hb dM_mergeList_128 (lv_at hl 6 rfl) ?_
        refine lv_goto (tgt := 134) hx hb dM_mergeList_130 (by decide) ?_
        exact J94 z (by unfold rg_pick; rw [if_neg h20, if_neg h21, if_pos h22])
    · refine lv_iload_n hx hb dM_mergeList_118 rfl (lv_at hl 5 rfl) ?_
      refine lv_goto (tgt := 134) hx hb dM_mergeList_119 (by decide) ?_
      exact J94 y (by unfold rg_pick; rw [if_neg h20, if_pos h21])
  · refine lv_aload_n hx hb dM_mergeList_34 rfl (lv_at hl 1 rfl) ?_
    refine lv_iload_n hx hb dM_mergeList_35 rfl (lv_at hl 2 rfl) ?_
    refine lv_iload_n hx hb dM_mergeList_36 rfl (lv_at hl 3 rfl) ?_
    refine lv_iload_n hx hb dM_mergeList_37 rfl (lv_at hl 4 rfl) ?_
    refine lv_iload hx hb dM_mergeList_38 (lv_at hl 5 rfl) ?_
    refine rg_calli hD hS hA (va_runV (As := [.int (nI f), .int (nI x), .int (nI y), .int (nI z)]) (rest := []) ⟨hx, hb, hml, hown, hts⟩ (c_rm_join f x y z (by omega) (by omega) (by omega) (by omega) lx ly lz hx8 hlx hcx hy8 hly hcy hz8 hlz hcz _) (cwV 4 hts (rg_gV tw_761 tw_763 ts_M_join tw_5 tw_764) rfl rfl rfl (by decide +kernel) ⟨by rw [hR]; exact Nat.le_of_ble_eq_true rfl, by rw [hR]; exact Nat.le_of_ble_eq_true rfl⟩) (rg_preV rfl hK hP hD (ci := 0) (q0 := 0) rfl rfl) rfl rfl hl.1 rfl (lv_room (Nat.le_of_ble_eq_true rfl)) dM_mergeList_40 ⟨Nat.zero_le _, Nat.zero_le _⟩) (fun r23 u24 H locs hw25 hP hD hS => ?_)
    obtain ⟨hj26, hj27⟩ := hw25
    subst hj26
    have hP : va_P (dC, dI) rg_cl (rm_W h a cI cL cod (nI n) bra cof u24.1 nu co se li le fi sc ti un ma u24.2.1 u24.2.2.1 u24.2.2.2.1 u24.2.2.2.2) H := hP
    have hD : va_D A (rm_W h a cI cL cod (nI n) bra cof u24.1 nu co se li le fi sc ti un ma u24.2.1 u24.2.2.1 u24.2.2.2.1 u24.2.2.2.2) := hD
    refine rg_ifz_eq (tgt := 50) hx hb dM_mergeList_43 (by decide) (fun h28 => ?_) (fun h28 => ?_)
    · refine lv_iconst (v := nI 0) hx hb dM_mergeList_50 (by decide) ?_
      have hjn : rg_jn w lx ly lz = false := (rg_jn_3 h13).trans h28
      refine lv_istore (lv' := [(7, .int (nI 0)), (6, .int (nI w)), (0, .ref h), (1, .int (nI f)), (2, .int (nI x)), (3, .int (nI y)), (4, .int (nI z)), (5, .int (nI s9))]) hx hb dM_mergeList_51 hl (by decide) rfl (fun ls hl => ?_)
      refine lv_aload_n hx hb dM_mergeList_53 rfl (lv_at hl 2 rfl) ?_
      refine lv_dup hx hb dM_mergeList_54 rfl ?_
      refine va_get (D := (dC, dI)) (ci := 0) (C := "RevisionGroveModel") (T := TM) (N := 19) hx hb hts inM hown hK hP 0 rfl rfl 13 (by decide) (hts _ tw_614) (fun _ h9 => h9) rfl dM_mergeList_55 ?_
      refine lv_iload hx hb dM_mergeList_58 (lv_at hl 1 rfl) ?_
      refine lv_iconst (v := nI 3) hx hb dM_mergeList_60 (by decide) ?_
      refine rg_icmp_ne (tgt := 76) hx hb dM_mergeList_61 (by decide) (by omega) (by omega) (fun h29 => absurd h13 h29) (fun h29 => ?_)
      refine lv_iload hx hb dM_mergeList_64 (lv_at hl 0 rfl) ?_
      refine rg_ifN_ne (tgt := 76) hx hb dM_mergeList_66 (by decide) (by decide) (fun h30 => by exfalso; omega) (fun h30 => ?_)
      refine lv_bipush (v := nI 64) hx hb dM_mergeList_69 (by decide) ?_
      refine lv_iload_n hx hb dM_mergeList_71 rfl (lv_at hl 3 rfl) ?_
      refine lv_ishl hx hb dM_mergeList_72 ?_
      refine lv_goto (tgt := 77) hx hb dM_mergeList_73 (by decide) ?_
      refine rg_top (show (.int ((nI 64) <<< ((nI f) &&& 31)) : Value) = .int (rg_cL w (rg_jn w lx ly lz) f) by rw [hjn, rg_cL_f h13]) ?_
      refine lv_ior hx hb dM_mergeList_77 ?_
      refine va_put (D := (dC, dI)) (ci := 0) (v := .int (cof ||| (rg_cL w (rg_jn w lx ly lz) f))) (ty := .int) (C := "RevisionGroveModel") (T := TM) (N := 19) hx hb hts inM tyM tyM_ok nmM hown hK hP hD hS 0 rfl rfl 13 (by decide) (hts _ tw_614) (fun _ h9 => h9) rfl (by decide +kernel) rfl rfl (Nat.le_of_ble_eq_true rfl) dM_mergeList_78 (fun H locs hP hD hS => ?_)
      have hP : va_P (dC, dI) rg_cl (rm_W h a cI cL cod (nI n) bra (cof ||| (rg_cL w (rg_jn w lx ly lz) f)) u24.1 nu co se li le fi sc ti un ma u24.2.1 u24.2.2.1 u24.2.2.2.1 u24.2.2.2.2) H := hP
      have hD : va_D A (rm_W h a cI cL cod (nI n) bra (cof ||| (rg_cL w (rg_jn w lx ly lz) f)) u24.1 nu co se li le fi sc ti un ma u24.2.1 u24.2.2.1 u24.2.2.2.1 u24.2.2.2.2) := hD
      refine lv_iload hx hb dM_mergeList_81 (lv_at hl 0 rfl) ?_
      refine rg_ifN_ne (tgt := 155) hx hb dM_mergeList_83 (by decide) (by decide) (fun h31 => by exfalso; omega) (fun h31 => ?_)
      refine lv_aload_n hx hb dM_mergeList_86 rfl (lv_at hl 2 rfl) ?_
      refine lv_iconst (v := nI 0) hx hb dM_mergeList_87 (by decide) ?_
      refine va_put (D := (dC, dI)) (ci := 0) (v := .int (nI 0)) (ty := .int) (C := "RevisionGroveModel") (T := TM) (N := 19) hx hb hts inM tyM tyM_ok nmM hown hK hP hD hS 0 rfl rfl 14 (by decide) (hts _ tw_615) (fun _ h9 => h9) rfl (by decide +kernel) rfl rfl (Nat.le_of_ble_eq_true rfl) dM_mergeList_88 (fun H locs hP hD hS => ?_)
      have hP : va_P (dC, dI) rg_cl (rm_W h a cI cL cod (nI n) bra (cof ||| (rg_cL w (rg_jn w lx ly lz) f)) (nI 0) nu co se li le fi sc ti un ma u24.2.1 u24.2.2.1 u24.2.2.2.1 u24.2.2.2.2) H := hP
      have hD : va_D A (rm_W h a cI cL cod (nI n) bra (cof ||| (rg_cL w (rg_jn w lx ly lz) f)) (nI 0) nu co se li le fi sc ti un ma u24.2.1 u24.2.2.1 u24.2.2.2.1 u24.2.2.2.2) := hD
      refine lv_iload hx hb dM_mergeList_91 (lv_at hl 1 rfl) ?_
      refine lv_iconst (v := nI 3) hx hb dM_mergeList_93 (by decide) ?_
      have J94 : ∀ v9 : Nat, v9 = (rg_pick w s9 x y z) → W p l e R s m args below meth c H locs 0 0 Q (F0 m 134 ls [.int (nI v9)]) := by
        intro v9 hv9
        subst hv9
        have hq6 : rg_pick w s9 x y z < 61 := rg_pick_lt (by omega) (by omega) (by omega)
        have hLs : rg_Ls le li f (rg_pick w s9 x y z) (rg_pick w s9 lx ly lz) := rg_pick_Ls ⟨hx8, hlx, hcx⟩ ⟨hy8, hly, hcy⟩ ⟨hz8, hlz, hcz⟩
        obtain ⟨q9, hq9⟩ : ∃ q9, q9 = rg_pick w s9 x y z := ⟨_, rfl⟩
        rw [← hq9] at hq6 hLs ⊢
        have hmf := rg_mL_f (s := s9) hjn
        obtain ⟨lq, hlq⟩ : ∃ lq, lq = rg_pick w s9 lx ly lz := ⟨_, rfl⟩
        rw [← hlq] at hLs hmf
        have hleq := hLs.2.1
        have hlq8 := hLs.1
        refine lv_istore (lv' := [(8, .int (nI q9)), (7, .int (nI 0)), (6, .int (nI w)), (0, .ref h), (1, .int (nI f)), (2, .int (nI x)), (3, .int (nI y)), (4, .int (nI z)), (5, .int (nI s9))]) hx hb dM_mergeList_134 hl (by decide) rfl (fun ls hl => ?_)
        refine lv_aload_n hx hb dM_mergeList_136 rfl (lv_at hl 3 rfl) ?_
        refine lv_iload hx hb dM_mergeList_137 (lv_at hl 0 rfl) ?_
        refine lv_iload_n hx hb dM_mergeList_139 rfl (lv_at hl 4 rfl) ?_
        refine lv_iconst (v := nI 0) hx hb dM_mergeList_140 (by decide) ?_
        refine lv_aload_n hx hb dM_mergeList_141 rfl (lv_at hl 3 rfl) ?_
        refine va_get (D := (dC, dI)) (ci := 0) (C := "RevisionGroveModel") (T := TM) (N := 19) hx hb hts inM hown hK hP 0 rfl rfl 6 (by decide) (hts _ tw_607) (fun _ h9 => h9) rfl dM_mergeList_142 ?_
        refine lv_iconst (v := nI 2) hx hb dM_mergeList_145 (by decide) ?_
        refine lv_iload hx hb dM_mergeList_146 (lv_at hl 0 rfl) ?_
        refine rg_imul hx hb dM_mergeList_148 ?_
        refine lv_iload_n hx hb dM_mergeList_149 rfl (lv_at hl 4 rfl) ?_
        refine rg_iadd hx hb dM_mergeList_150 ?_
        refine rg_iald hx hb hK hP 5 0 rfl rfl (by decide) (by omega) dM_mergeList_151 ?_
        refine rg_top (show (.int (le (2 * q9 + f)) : Value) = .int (nI lq.length) by rw [hleq]) ?_
        refine rg_callv hD hS hA (va_runV (As := [.int (nI q9), .int (nI f), .int (nI 0), .int (nI lq.length)]) (rest := []) ⟨hx, hb, hml, hown, hts⟩ (c_rm_take q9 f 0 lq.length (by omega) (by omega) (([] : List Int32)) lq (Nat.zero_le _) (Nat.le_refl _) hLs.1 hLs.2.2 (by show 0 + (lq.length - 0) ≤ 24; omega) (rg_Dr_0 _) _) (cwV 4 hts (rg_gV tw_773 tw_775 ts_M_take tw_5 tw_776) rfl rfl rfl (by decide +kernel) ⟨by rw [hR]; exact Nat.le_of_ble_eq_true rfl, by rw [hR]; exact Nat.le_of_ble_eq_true rfl⟩) (rg_preV rfl hK hP hD (ci := 0) (q0 := 0) rfl rfl) rfl rfl hl.1 rfl (lv_room (Nat.le_of_ble_eq_true rfl)) dM_mergeList_152 ⟨Nat.zero_le _, Nat.zero_le _⟩) (fun u33 H locs hw34 hP hD hS => ?_)
        have hP : va_P (dC, dI) rg_cl (rm_W h a cI cL cod (nI n) bra (cof ||| (rg_cL w (rg_jn w lx ly lz) f)) (nI ((([] : List Int32)) ++ rg_sg lq 0 lq.length).length) nu co se li le fi sc ti un ma u33 u24.2.2.1 u24.2.2.2.1 u24.2.2.2.2) H := hP
        have hD : va_D A (rm_W h a cI cL cod (nI n) bra (cof ||| (rg_cL w (rg_jn w lx ly lz) f)) (nI ((([] : List Int32)) ++ rg_sg lq 0 lq.length).length) nu co se li le fi sc ti un ma u33 u24.2.2.1 u24.2.2.2.1 u24.2.2.2.2) := hD
        have hMD := hw34
        rw [rg_sg_all, ← hmf] at hMD
        have hMm : (nI (([] : List Int32) ++ rg_sg lq 0 lq.length).length) = nI (rg_mL w s9 lx ly lz).length := by rw [rg_sg_all, hmf]
        have hM8 : (rg_mL w s9 lx ly lz).length ≤ 8 := rg_mL_len hx8 hy8 hz8
        obtain ⟨ML, hML⟩ : ∃ ML, ML = rg_mL w s9 lx ly lz := ⟨_, rfl⟩
        rw [← hML] at hMm hMD hM8
        rw [hMm] at hP hD
        have hP : va_P (dC, dI) rg_cl (rm_W h a cI cL cod (nI n) bra (cof ||| (rg_cL w (rg_jn w lx ly lz) f)) (nI ML.length) nu co se li le fi sc ti un ma u33 u24.2.2.1 u24.2.2.2.1 u24.2.2.2.2) H := hP
        have hD : va_D A (rm_W h a cI cL cod (nI n) bra (cof ||| (rg_cL w (rg_jn w lx ly lz) f)) (nI ML.length) nu co se li le fi sc ti un ma u33 u24.2.2.1 u24.2.2.2.1 u24.2.2.2.2) := hD
        refine lv_iconst (v := nI 0) hx hb dM_mergeList_155 (by decide) ?_
        refine lv_istore (lv' := [(8, .int (nI 0)), (7, .int (nI 0)), (6, .int (nI w)), (0, .ref h), (1, .int (nI f)), (2, .int (nI x)), (3, .int (nI y)), (4, .int (nI z)), (5, .int (nI s9))]) hx hb dM_mergeList_156 hl (by decide) rfl (fun ls hl => ?_)
        have lp158 : ∀ (fuel : Nat) (k : Nat) (li1 : Nat → Int32) (H : Heap) (locs : List Loc) (ls : Array Slot), ML.length - k < fuel → k ≤ ML.length → (∀ i, i < k → li1 (16 * n + 8 * f + i) = ML.getD i 0) → (∀ j, j < 16 * n + 8 * f ∨ 16 * n + 8 * f + 8 ≤ j → li1 j = li j) → va_P (dC, dI) rg_cl (rm_W h a cI cL cod (nI n) bra (cof ||| (rg_cL w (rg_jn w lx ly lz) f)) (nI ML.length) nu co se li1 le fi sc ti un ma u33 u24.2.2.1 u24.2.2.2.1 u24.2.2.2.2) H → va_D A (rm_W h a cI cL cod (nI n) bra (cof ||| (rg_cL w (rg_jn w lx ly lz) f)) (nI ML.length) nu co se li1 le fi sc ti un ma u33 u24.2.2.1 u24.2.2.2.1 u24.2.2.2.2) → va_S A s.heap H locs → lv_has ls 9 [(0, .ref h), (1, .int (nI f)), (8, .int (nI k))] → W p l e R s m args below meth c H locs 0 0 Q (F0 m 158 ls []) := by
          intro fuel
          induction fuel with
          | zero => intro k li1 H locs ls hf; exact absurd hf (Nat.not_lt_zero _)
          | succ fuel ih158 =>
            intro k li1 H locs ls hfu158 hk9 hin hout hP hD hS hl
            refine lv_iload hx hb dM_mergeList_158 (lv_at hl 2 rfl) ?_
            refine lv_aload_n hx hb dM_mergeList_160 rfl (lv_at hl 0 rfl) ?_
            refine va_get (D := (dC, dI)) (ci := 0) (C := "RevisionGroveModel") (T := TM) (N := 19) hx hb hts inM hown hK hP 0 rfl rfl 14 (by decide) (hts _ tw_615) (fun _ h9 => h9) rfl dM_mergeList_161 ?_
            refine rg_icmp_ge (tgt := 200) hx hb dM_mergeList_164 (by decide) (by omega) (by omega) (fun h35 => ?_) (fun h35 => ?_)
            · refine lv_aload_n hx hb dM_mergeList_200 rfl (lv_at hl 0 rfl) ?_
              refine va_get (D := (dC, dI)) (ci := 0) (C := "RevisionGroveModel") (T := TM) (N := 19) hx hb hts inM hown hK hP 0 rfl rfl 6 (by decide) (hts _ tw_607) (fun _ h9 => h9) rfl dM_mergeList_201 ?_
              refine lv_iconst (v := nI 2) hx hb dM_mergeList_204 (by decide) ?_
              refine lv_aload_n hx hb dM_mergeList_205 rfl (lv_at hl 0 rfl) ?_
              refine va_get (D := (dC, dI)) (ci := 0) (C := "RevisionGroveModel") (T := TM) (N := 19) hx hb hts inM hown hK hP 0 rfl rfl 1 (by decide) (hts _ tw_602) (fun _ h9 => h9) rfl dM_mergeList_206 ?_
              refine rg_imul hx hb dM_mergeList_209 ?_
              refine lv_iload_n hx hb dM_mergeList_210 rfl (lv_at hl 1 rfl) ?_
              refine rg_iadd hx hb dM_mergeList_211 ?_
              refine lv_aload_n hx hb dM_mergeList_212 rfl (lv_at hl 0 rfl) ?_
              refine va_get (D := (dC, dI)) (ci := 0) (C := "RevisionGroveModel") (T := TM) (N := 19) hx hb hts inM hown hK hP 0 rfl rfl 14 (by decide) (hts _ tw_615) (fun _ h9 => h9) rfl dM_mergeList_213 ?_
              refine rg_iast hx hb hK hP hD hS 5 0 rfl rfl (by decide) (by omega) dM_mergeList_216 (fun H locs hP hD hS => ?_)
              have hP : va_P (dC, dI) rg_cl (rm_W h a cI cL cod (nI n) bra (cof ||| (rg_cL w (rg_jn w lx ly lz) f)) (nI ML.length) nu co se li1 (upd le (2 * n + f) (nI ML.length)) fi sc ti un ma u33 u24.2.2.1 u24.2.2.2.1 u24.2.2.2.2) H := hP
              have hD : va_D A (rm_W h a cI cL cod (nI n) bra (cof ||| (rg_cL w (rg_jn w lx ly lz) f)) (nI ML.length) nu co se li1 (upd le (2 * n + f) (nI ML.length)) fi sc ti un ma u33 u24.2.2.1 u24.2.2.2.1 u24.2.2.2.2) := hD
              have hkM : k = ML.length := by omega
              rw [hkM] at hin
              subst hML
              subst hw9
              rw [hQ]
              exact rg_vret hx hb hr hlk hK hP hD hS dM_mergeList_217 (li1, nI (rg_mL (rg_ch (decide (lx = ly)) (decide (lx = lz)) (decide (ly = lz))) s9 lx ly lz).length, u33, u24.2.2.1, u24.2.2.2.1, u24.2.2.2.2) rfl ⟨hin, hout⟩
            · have hdk := hMD k (by omega)
              refine lv_aload_n hx hb dM_mergeList_167 rfl (lv_at hl 0 rfl) ?_
              refine va_get (D := (dC, dI)) (ci := 0) (C := "RevisionGroveModel") (T := TM) (N := 19) hx hb hts inM hown hK hP 0 rfl rfl 5 (by decide) (hts _ tw_606) (fun _ h9 => h9) rfl dM_mergeList_168 ?_
              refine lv_bipush (v := nI 16) hx hb dM_mergeList_171 (by decide) ?_
              refine lv_aload_n hx hb dM_mergeList_173 rfl (lv_at hl 0 rfl) ?_
              refine va_get (D := (dC, dI)) (ci := 0) (C := "RevisionGroveModel") (T := TM) (N := 19) hx hb hts inM hown hK hP 0 rfl rfl 1 (by decide) (hts _ tw_602) (fun _ h9 => h9) rfl dM_mergeList_174 ?_
              refine rg_imul hx hb dM_mergeList_177 ?_
              refine lv_bipush (v := nI 8) hx hb dM_mergeList_178 (by decide) ?_
              refine lv_iload_n hx hb dM_mergeList_180 rfl (lv_at hl 1 rfl) ?_
              refine rg_imul hx hb dM_mergeList_181 ?_
              refine rg_iadd hx hb dM_mergeList_182 ?_
              refine lv_iload hx hb dM_mergeList_183 (lv_at hl 2 rfl) ?_
              refine rg_iadd hx hb dM_mergeList_185 ?_
              refine lv_aload_n hx hb dM_mergeList_186 rfl (lv_at hl 0 rfl) ?_
              refine va_get (D := (dC, dI)) (ci := 0) (C := "RevisionGroveModel") (T := TM) (N := 19) hx hb hts inM hown hK hP 0 rfl rfl 15 (by decide) (hts _ tw_616) (fun _ h9 => h9) rfl dM_mergeList_187 ?_
              refine lv_iload hx hb dM_mergeList_190 (lv_at hl 2 rfl) ?_
              refine rg_iald hx hb hK hP 11 0 rfl rfl (by decide) (by omega) dM_mergeList_192 ?_
              refine rg_top (show (.int (u33 k) : Value) = .int (ML.getD k 0) by rw [hdk]) ?_
              refine rg_iast hx hb hK hP hD hS 4 0 rfl rfl (by decide) (by omega) dM_mergeList_193 (fun H locs hP hD hS => ?_)
              have hP : va_P (dC, dI) rg_cl (rm_W h a cI cL cod (nI n) bra (cof ||| (rg_cL w (rg_jn w lx ly lz) f)) (nI ML.length) nu co se (upd li1 (16 * n + 8 * f + k) (ML.getD k 0)) le fi sc ti un ma u33 u24.2.2.1 u24.2.2.2.1 u24.2.2.2.2) H := hP
              have hD : va_D A (rm_W h a cI cL cod (nI n) bra (cof ||| (rg_cL w (rg_jn w lx ly lz) f)) (nI ML.length) nu co se (upd li1 (16 * n + 8 * f + k) (ML.getD k 0)) le fi sc ti un ma u33 u24.2.2.1 u24.2.2.2.1 u24.2.2.2.2) := hD
              refine lv_iinc (k := 2) (v := nI (k + 1)) (lv' := [(8, .int (nI (k + 1))), (0, .ref h), (1, .int (nI f))]) hx hb dM_mergeList_194 hl rfl (nI_1 _) (by decide) rfl (fun ls hl => ?_)
              refine lv_goto (tgt := 158) hx hb dM_mergeList_197 (by decide) ?_
              exact ih158 (k + 1) (upd li1 (16 * n + 8 * f + k) (ML.getD k 0)) _ _ _ (by omega) (by omega) (lt_s (fun i hi => by rw [pk_un (by omega)]; exact hin i hi) pk_us) (fun j hj => by rw [pk_un (by omega)]; exact hout j hj) hP hD hS (lv_sub hl [1, 2, 0] rfl)
        exact lp158 _ 0 li _ _ _ (Nat.lt_succ_self _) (Nat.zero_le _) (fun i hi => absurd hi (Nat.not_lt_zero i)) (fun _ _ => rfl) hP hD hS (lv_sub hl [3, 4, 0] rfl)
      refine rg_icmp_ne (tgt := 112) hx hb dM_mergeList_94 (by decide) (by omega) (by omega) (fun h36 => absurd h13 h36) (fun h36 => ?_)
      refine lv_iload hx hb dM_mergeList_97 (lv_at hl 7 rfl) ?_
      refine lv_iconst (v := nI 2) hx hb dM_mergeList_99 (by decide) ?_
      refine rg_icmp_ne (tgt := 108) hx hb dM_mergeList_100 (by decide) (by omega) (by omega) (fun h37 => ?_) (fun h37 => ?_)
      · refine lv_iload_n hx hb dM_mergeList_108 rfl (lv_at hl 5 rfl) ?_
        refine lv_goto (tgt := 134) hx hb dM_mergeList_109 (by decide) ?_
        exact J94 y (by unfold rg_pick; rw [if_pos h36, if_neg h37])
      · refine lv_iload hx hb dM_mergeList_103 (lv_at hl 6 rfl) ?_
        refine lv_goto (tgt := 134) hx hb dM_mergeList_105 (by decide) ?_
        exact J94 z (by unfold rg_pick; rw [if_pos h36, if_pos h37])
    · refine lv_iconst (v := nI 1) hx hb dM_mergeList_46 (by decide) ?_
      refine lv_goto (tgt := 51) hx hb dM_mergeList_47 (by decide) ?_
      have hjn : rg_jn w lx ly lz = true := (rg_jn_3 h13).trans h28
      refine lv_istore (lv' := [(7, .int (nI 1)), (6, .int (nI w)), (0, .ref h), (1, .int (nI f)), (2, .int (nI x)), (3, .int (nI y)), (4, .int (nI z)), (5, .int (nI s9))]) hx hb dM_mergeList_51 hl (by decide) rfl (fun ls hl => ?_)
      refine lv_aload_n hx hb dM_mergeList_53 rfl (lv_at hl 2 rfl) ?_
      refine lv_dup hx hb dM_mergeList_54 rfl ?_
      refine va_get (D := (dC, dI)) (ci := 0) (C := "RevisionGroveModel") (T := TM) (N := 19) hx hb hts inM hown hK hP 0 rfl rfl 13 (by decide) (hts _ tw_614) (fun _ h9 => h9) rfl dM_mergeList_55 ?_
      refine lv_iload hx hb dM_mergeList_58 (lv_at hl 1 rfl) ?_
      refine lv_iconst (v := nI 3) hx hb dM_mergeList_60 (by decide) ?_
      refine rg_icmp_ne (tgt := 76) hx hb dM_mergeList_61 (by decide) (by omega) (by omega) (fun h38 => absurd h13 h38) (fun h38 => ?_)
      refine lv_iload hx hb dM_mergeList_64 (lv_at hl 0 rfl) ?_
      refine rg_ifN_ne (tgt := 76) hx hb dM_mergeList_66 (by decide) (by decide) (fun h39 => ?_) (fun h39 => by exfalso; omega)
      refine lv_iconst (v := nI 0) hx hb dM_mergeList_76 (by decide) ?_
      refine rg_top (show (.int (nI 0) : Value) = .int (rg_cL w (rg_jn w lx ly lz) f) by rw [hjn, rg_cL_t]) ?_
      refine lv_ior hx hb dM_mergeList_77 ?_
      refine va_put (D := (dC, dI)) (ci := 0) (v := .int (cof ||| (rg_cL w (rg_jn w lx ly lz) f))) (ty := .int) (C := "RevisionGroveModel") (T := TM) (N := 19) hx hb hts inM tyM tyM_ok nmM hown hK hP hD hS 0 rfl rfl 13 (by decide) (hts _ tw_614) (fun _ h9 => h9) rfl (by decide +kernel) rfl rfl (Nat.le_of_ble_eq_true rfl) dM_mergeList_78 (fun H locs hP hD hS => ?_)
      have hP : va_P (dC, dI) rg_cl (rm_W h a cI cL cod (nI n) bra (cof ||| (rg_cL w (rg_jn w lx ly lz) f)) u24.1 nu co se li le fi sc ti un ma u24.2.1 u24.2.2.1 u24.2.2.2.1 u24.2.2.2.2) H := hP
      have hD : va_D A (rm_W h a cI cL cod (nI n) bra (cof ||| (rg_cL w (rg_jn w lx ly lz) f)) u24.1 nu co se li le fi sc ti un ma u24.2.1 u24.2.2.1 u24.2.2.2.1 u24.2.2.2.2) := hD
      refine lv_iload hx hb dM_mergeList_81 (lv_at hl 0 rfl) ?_
      refine rg_ifN_ne (tgt := 155) hx hb dM_mergeList_83 (by decide) (by decide) (fun h40 => ?_) (fun h40 => by exfalso; omega)
      obtain ⟨hMm, hMD⟩ := hj27 ((rg_jn_3 h13).symm.trans hjn)
      rw [← rg_mL_t (s := s9) hjn] at hMm hMD
      have hM8 : (rg_mL w s9 lx ly lz).length ≤ 8 := rg_mL_len hx8 hy8 hz8
      obtain ⟨ML, hML⟩ : ∃ ML, ML = rg_mL w s9 lx ly lz := ⟨_, rfl⟩
      rw [← hML] at hMm hMD hM8
      rw [hMm] at hP hD
      have hP : va_P (dC, dI) rg_cl (rm_W h a cI cL cod (nI n) bra (cof ||| (rg_cL w (rg_jn w lx ly lz) f)) (nI ML.length) nu co se li le fi sc ti un ma u24.2.1 u24.2.2.1 u24.2.2.2.1 u24.2.2.2.2) H := hP
      have hD : va_D A (rm_W h a cI cL cod (nI n) bra (cof ||| (rg_cL w (rg_jn w lx ly lz) f)) (nI ML.length) nu co se li le fi sc ti un ma u24.2.1 u24.2.2.1 u24.2.2.2.1 u24.2.2.2.2) := hD
      refine lv_iconst (v := nI 0) hx hb dM_mergeList_155 (by decide) ?_
      refine lv_istore (lv' := [(8, .int (nI 0)), (7, .int (nI 1)), (6, .int (nI w)), (0, .ref h), (1, .int (nI f)), (2, .int (nI x)), (3, .int (nI y)), (4, .int (nI z)), (5, .int (nI s9))]) hx hb dM_mergeList_156 hl (by decide) rfl (fun ls hl => ?_)
      have lp158 : ∀ (fuel : Nat) (k : Nat) (li1 : Nat → Int32) (H : Heap) (locs : List Loc) (ls : Array Slot), ML.length - k < fuel → k ≤ ML.length → (∀ i, i < k → li1 (16 * n + 8 * f + i) = ML.getD i 0) → (∀ j, j < 16 * n + 8 * f ∨ 16 * n + 8 * f + 8 ≤ j → li1 j = li j) → va_P (dC, dI) rg_cl (rm_W h a cI cL cod (nI n) bra (cof ||| (rg_cL w (rg_jn w lx ly lz) f)) (nI ML.length) nu co se li1 le fi sc ti un ma u24.2.1 u24.2.2.1 u24.2.2.2.1 u24.2.2.2.2) H → va_D A (rm_W h a cI cL cod (nI n) bra (cof ||| (rg_cL w (rg_jn w lx ly lz) f)) (nI ML.length) nu co se li1 le fi sc ti un ma u24.2.1 u24.2.2.1 u24.2.2.2.1 u24.2.2.2.2) → va_S A s.heap H locs → lv_has ls 9 [(0, .ref h), (1, .int (nI f)), (8, .int (nI k))] → W p l e R s m args below meth c H locs 0 0 Q (F0 m 158 ls []) := by
        intro fuel
        induction fuel with
        | zero => intro k li1 H locs ls hf; exact absurd hf (Nat.not_lt_zero _)
        | succ fuel ih158 =>
          intro k li1 H locs ls hfu158 hk9 hin hout hP hD hS hl
          refine lv_iload hx hb dM_mergeList_158 (lv_at hl 2 rfl) ?_
          refine lv_aload_n hx hb dM_mergeList_160 rfl (lv_at hl 0 rfl) ?_
          refine va_get (D := (dC, dI)) (ci := 0) (C := "RevisionGroveModel") (T := TM) (N := 19) hx hb hts inM hown hK hP 0 rfl rfl 14 (by decide) (hts _ tw_615) (fun _ h9 => h9) rfl dM_mergeList_161 ?_
          refine rg_icmp_ge (tgt := 200) hx hb dM_mergeList_164 (by decide) (by omega) (by omega) (fun h41 => ?_) (fun h41 => ?_)
          · refine lv_aload_n hx hb dM_mergeList_200 rfl (lv_at hl 0 rfl) ?_
            refine va_get (D := (dC, dI)) (ci := 0) (C := "RevisionGroveModel") (T := TM) (N := 19) hx hb hts inM hown hK hP 0 rfl rfl 6 (by decide) (hts _ tw_607) (fun _ h9 => h9) rfl dM_mergeList_201 ?_
            refine lv_iconst (v := nI 2) hx hb dM_mergeList_204 (by decide) ?_
            refine lv_aload_n hx hb dM_mergeList_205 rfl (lv_at hl 0 rfl) ?_
            refine va_get (D := (dC, dI)) (ci := 0) (C := "RevisionGroveModel") (T := TM) (N := 19) hx hb hts inM hown hK hP 0 rfl rfl 1 (by decide) (hts _ tw_602) (fun _ h9 => h9) rfl dM_mergeList_206 ?_
            refine rg_imul hx hb dM_mergeList_209 ?_
            refine lv_iload_n hx hb dM_mergeList_210 rfl (lv_at hl 1 rfl) ?_
            refine rg_iadd hx hb dM_mergeList_211 ?_
            refine lv_aload_n hx hb dM_mergeList_212 rfl (lv_at hl 0 rfl) ?_
            refine va_get (D := (dC, dI)) (ci := 0) (C := "RevisionGroveModel") (T := TM) (N := 19) hx hb hts inM hown hK hP 0 rfl rfl 14 (by decide) (hts _ tw_615) (fun _ h9 => h9) rfl dM_mergeList_213 ?_
            refine rg_iast hx hb hK hP hD hS 5 0 rfl rfl (by decide) (by omega) dM_mergeList_216 (fun H locs hP hD hS => ?_)
            have hP : va_P (dC, dI) rg_cl (rm_W h a cI cL cod (nI n) bra (cof ||| (rg_cL w (rg_jn w lx ly lz) f)) (nI ML.length) nu co se li1 (upd le (2 * n + f) (nI ML.length)) fi sc ti un ma u24.2.1 u24.2.2.1 u24.2.2.2.1 u24.2.2.2.2) H := hP
            have hD : va_D A (rm_W h a cI cL cod (nI n) bra (cof ||| (rg_cL w (rg_jn w lx ly lz) f)) (nI ML.length) nu co se li1 (upd le (2 * n + f) (nI ML.length)) fi sc ti un ma u24.2.1 u24.2.2.1 u24.2.2.2.1 u24.2.2.2.2) := hD
            have hkM : k = ML.length := by omega
            rw [hkM] at hin
            subst hML
            subst hw9
            rw [hQ]
            exact rg_vret hx hb hr hlk hK hP hD hS dM_mergeList_217 (li1, nI (rg_mL (rg_ch (decide (lx = ly)) (decide (lx = lz)) (decide (ly = lz))) s9 lx ly lz).length, u24.2.1, u24.2.2.1, u24.2.2.2.1, u24.2.2.2.2) rfl ⟨hin, hout⟩
          · have hdk := hMD k (by omega)
            refine lv_aload_n hx hb dM_mergeList_167 rfl (lv_at hl 0 rfl) ?_
            refine va_get (D := (dC, dI)) (ci := 0) (C := "RevisionGroveModel") (T := TM) (N := 19) hx hb hts inM hown hK hP 0 rfl rfl 5 (by decide) (hts _ tw_606) (fun _ h9 => h9) rfl dM_mergeList_168 ?_
            refine lv_bipush (v := nI 16) hx hb dM_mergeList_171 (by decide) ?_
            refine lv_aload_n hx hb dM_mergeList_173 rfl (lv_at hl 0 rfl) ?_
            refine va_get (D := (dC, dI)) (ci := 0) (C := "RevisionGroveModel") (T := TM) (N := 19) hx hb hts inM hown hK hP 0 rfl rfl 1 (by decide) (hts _ tw_602) (fun _ h9 => h9) rfl dM_mergeList_174 ?_
            refine rg_imul hx hb dM_mergeList_177 ?_
            refine lv_bipush (v := nI 8) hx hb dM_mergeList_178 (by decide) ?_
            refine lv_iload_n hx hb dM_mergeList_180 rfl (lv_at hl 1 rfl) ?_
            refine rg_imul hx hb dM_mergeList_181 ?_
            refine rg_iadd hx hb dM_mergeList_182 ?_
            refine lv_iload hx hb dM_mergeList_183 (lv_at hl 2 rfl) ?_
            refine rg_iadd hx hb dM_mergeList_185 ?_
            refine lv_aload_n hx hb dM_mergeList_186 rfl (lv_at hl 0 rfl) ?_
            refine va_get (D := (dC, dI)) (ci := 0) (C := "RevisionGroveModel") (T := TM) (N := 19) hx hb hts inM hown hK hP 0 rfl rfl 15 (by decide) (hts _ tw_616) (fun _ h9 => h9) rfl dM_mergeList_187 ?_
            refine lv_iload hx hb dM_mergeList_190 (lv_at hl 2 rfl) ?_
            refine rg_iald hx hb hK hP 11 0 rfl rfl (by decide) (by omega) dM_mergeList_192 ?_
            refine rg_top (show (.int (u24.2.1 k) : Value) = .int (ML.getD k 0) by rw [hdk]) ?_
            refine rg_iast hx hb hK hP hD hS 4 0 rfl rfl (by decide) (by omega) dM_mergeList_193 (fun H locs hP hD hS => ?_)
            have hP : va_P (dC, dI) rg_cl (rm_W h a cI cL cod (nI n) bra (cof ||| (rg_cL w (rg_jn w lx ly lz) f)) (nI ML.length) nu co se (upd li1 (16 * n + 8 * f + k) (ML.getD k 0)) le fi sc ti un ma u24.2.1 u24.2.2.1 u24.2.2.2.1 u24.2.2.2.2) H := hP
            have hD : va_D A (rm_W h a cI cL cod (nI n) bra (cof ||| (rg_cL w (rg_jn w lx ly lz) f)) (nI ML.length) nu co se (upd li1 (16 * n + 8 * f + k) (ML.getD k 0)) le fi sc ti un ma u24.2.1 u24.2.2.1 u24.2.2.2.1 u24.2.2.2.2) := hD
            refine lv_iinc (k := 2) (v := nI (k + 1)) (lv' := [(8, .int (nI (k + 1))), (0, .ref h), (1, .int (nI f))]) hx hb dM_mergeList_194 hl rfl (nI_1 _) (by decide) rfl (fun ls hl => ?_)
            refine lv_goto (tgt := 158) hx hb dM_mergeList_197 (by decide) ?_
            exact ih158 (k + 1) (upd li1 (16 * n + 8 * f + k) (ML.getD k 0)) _ _ _ (by omega) (by omega) (lt_s (fun i hi => by rw [pk_un (by omega)]; exact hin i hi) pk_us) (fun j hj => by rw [pk_un (by omega)]; exact hout j hj) hP hD hS (lv_sub hl [1, 2, 0] rfl)
      exact lp158 _ 0 li _ _ _ (Nat.lt_succ_self _) (Nat.zero_le _) (fun i hi => absurd hi (Nat.not_lt_zero i)) (fun _ _ => rfl) hP hD hS (lv_sub hl [3, 4, 0] rfl)
