set_option maxHeartbeats 4000000 in
set_option maxRecDepth 100000 in
theorem c_B_needed {l : Launch} {dC : Nat → ClassId} {dI : Nat → Nat → Nat} {ad fo fa ur : Nat → Nat} {cI cL cF cA : ClassId} {rec : Nat → Nat → Int64} {fp : Nat → Int32} {sp : Nat → Int32} {an : Nat → Int64} {nn : Nat → Int32} {pt : Nat → Int32} {un : Nat → Nat → Int32} {uc : Nat → Int32} {lc : Int32} (n b : Nat) (Rr : Nat → rg_R) (P1 P2 : Nat → Int32) (T : Nat → Nat) (U : Nat → List Nat) (hrep : gw_Rep rec fp sp an (nI n) pt un uc (nI b) lc (n, Rr, P1, P2, T, U, b, lc)) : rg_M l yB_needed (Cond.code yB_needed prog_2_method_11_code 6 (some .long) :: rg_tbl) { frames := 1, cells := 0, slots := 0, locals := 21 } (dC, dI) rg_cl (gw_tys cI cL cF cA) (gw_W ad fo fa ur cI cL cF cA rec fp sp an nn (nI n) pt un uc (nI b) lc) [.ref ((ad 2)), .ref ((ad 1))] (rg_QL (dC, dI) rg_cl (gw_tys cI cL cF cA) (S := Unit) (fun z _ => rg_has z = rg_kp (n, Rr, P1, P2, T, U, b, lc)) (fun _ => gw_W ad fo fa ur cI cL cF cA rec fp sp an nn (nI n) pt un uc (nI b) lc)) 0 0 := by
  refine rg_of prog_2_method_11_code 6 (some .long) (by decide) rfl (Nat.le_of_ble_eq_true rfl) ?_
  intro p e R s m args below meth c Q A H locs ls hR hQ hx hb hml hr hts hown hlk hnm hP hK hD hA hS hl
  have hl : lv_has ls 6 [(0, .ref ((ad 2))), (1, .ref ((ad 1)))] := hl
  have hts : ∀ w ∈ rg_tbl, w.before args s = true := fun w h => hts w (List.mem_cons_of_mem _ h)
  have hok := hrep.1
  have hn1 : 1 ≤ n := hok.1
  have hn60 : n ≤ 60 := hok.2.1
  have hb4 : b < 4 := hok.2.2.2.2.2.2.2.1
  have hTb : T b < n := (hok.2.2.2.2.2.2.1 b hb4).1
  have hpt : pt b = nI (T b) := (hrep.2.2.2.2.2.2 b hb4).1
  have hyc : rg_CR (rec (T b)) (Rr (T b)) := hrep.2.2.2.2.1 (T b) hTb
  refine lv_lconst (v := 0) hx hb dB_needed_0 (by decide) ?_
  refine lv_lstore_n (lv' := [(2, .long (0 : Int64)), (0, .ref ((ad 2))), (1, .ref ((ad 1)))]) hx hb dB_needed_1 rfl hl (by decide) rfl (fun ls hl => ?_)
  refine lv_iconst (v := nI 0) hx hb dB_needed_2 (by decide) ?_
  refine lv_istore (lv' := [(4, .int (nI 0)), (2, .long (0 : Int64)), (0, .ref ((ad 2))), (1, .ref ((ad 1)))]) hx hb dB_needed_3 hl (by decide) rfl (fun ls hl => ?_)
  have lp5 : ∀ (fuel : Nat) (bb : Nat) (o : Int64) (H : Heap) (locs : List Loc) (ls : Array Slot), 4 - bb < fuel → bb ≤ 4 → (∀ j, rg_has o j = true ↔ gw_NS P1 P2 T U bb j) → va_P (dC, dI) rg_cl (gw_W ad fo fa ur cI cL cF cA rec fp sp an nn (nI n) pt un uc (nI b) lc) H → va_D A (gw_W ad fo fa ur cI cL cF cA rec fp sp an nn (nI n) pt un uc (nI b) lc) → va_S A s.heap H locs → lv_has ls 6 [(0, .ref ((ad 2))), (1, .ref ((ad 1))), (2, .long o), (4, .int (nI bb))] → W p l e R s m args below meth c H locs 0 0 Q (F0 m 5 ls []) := by
    intro fuel
    induction fuel with
    | zero => intro bb o H locs ls hf; exact absurd hf (Nat.not_lt_zero _)
    | succ fuel ih5 =>
      intro bb o H locs ls hfu5 hb9 ho1 hP hD hS hl
      refine lv_iload hx hb dB_needed_5 (lv_at hl 3 rfl) ?_
      refine lv_iconst (v := nI 4) hx hb dB_needed_7 (by decide) ?_
      refine rg_icmp_ge (tgt := 69) hx hb dB_needed_8 (by decide) (by omega) (by omega) (fun h1 => ?_) (fun h1 => ?_)
      · obtain rfl : bb = 4 := by omega
        refine lv_lload_n hx hb dB_needed_69 rfl (lv_at hl 2 rfl) ?_
        rw [hQ]
        exact rg_lret hx hb hr hlk hK hP hD hS dB_needed_70 () rfl (gw_n4 (g := (n, Rr, P1, P2, T, U, b, lc)) ho1)
      · have h7 := hrep.2.2.2.2.2.2 bb (by omega)
        have hp9 : pt bb = nI (T bb) := h7.1
        have hu9 : uc bb = nI (U bb).length := h7.2.1
        have hT9 : T bb < n := (hok.2.2.2.2.2.2.1 bb (by omega)).1
        have hl9 : (U bb).length < 60 := gw_ulen hrep bb (by omega)
        refine lv_lload_n hx hb dB_needed_11 rfl (lv_at hl 2 rfl) ?_
        refine lv_aload_n hx hb dB_needed_12 rfl (lv_at hl 1 rfl) ?_
        refine lv_aload_n hx hb dB_needed_13 rfl (lv_at hl 0 rfl) ?_
        refine va_get (D := (dC, dI)) (ci := 3) (C := "RevisionGrove$Branches") (T := TB) (N := 4) hx hb hts inB hown hK hP 2 rfl rfl 0 (by decide) (hts _ tw_71) (fun _ h9 => h9) rfl dB_needed_14 ?_
        refine lv_iload hx hb dB_needed_17 (lv_at hl 3 rfl) ?_
        refine rg_iald hx hb hK hP 8 0 rfl rfl (by decide) (by omega) dB_needed_19 ?_
        refine rg_top (show (.int (pt bb) : Value) = .int (nI (T bb)) by rw [hp9]) ?_
        refine rg_calll hD hS hA (va_runV (As := [.int (nI (T bb))]) (rest := [.long o]) ⟨hx, hb, hml, hown, hts⟩ (c_R_ancestorsOf (T bb) (by omega) _) (cwV 1 hts (rg_gV tw_115 tw_116 tw_117 tw_2 tw_118) rfl rfl rfl (by decide +kernel) ⟨by rw [hR]; exact Nat.le_of_ble_eq_true rfl, by rw [hR]; exact Nat.le_of_ble_eq_true rfl⟩) (rg_preV rfl hK hP hD (ci := 2) (q0 := 1) rfl rfl) rfl rfl hl.1 rfl (lv_room (Nat.le_of_ble_eq_true rfl)) dB_needed_20 ⟨Nat.zero_le _, Nat.zero_le _⟩) (fun r2 u3 H locs hw4 hP hD hS => ?_)
        subst hw4
        have hP : va_P (dC, dI) rg_cl (gw_W ad fo fa ur cI cL cF cA rec fp sp an nn (nI n) pt un uc (nI b) lc) H := hP
        have hD : va_D A (gw_W ad fo fa ur cI cL cF cA rec fp sp an nn (nI n) pt un uc (nI b) lc) := hD
        refine lv_lor hx hb dB_needed_23 ?_
        refine lv_lstore_n (lv' := [(2, .long (o ||| (an (T bb)))), (0, .ref ((ad 2))), (1, .ref ((ad 1))), (4, .int (nI bb))]) hx hb dB_needed_24 rfl hl (by decide) rfl (fun ls hl => ?_)
        refine lv_iconst (v := nI 0) hx hb dB_needed_25 (by decide) ?_
        refine lv_istore (lv' := [(5, .int (nI 0)), (2, .long (o ||| (an (T bb)))), (0, .ref ((ad 2))), (1, .ref ((ad 1))), (4, .int (nI bb))]) hx hb dB_needed_26 hl (by decide) rfl (fun ls hl => ?_)
        have lp28 : ∀ (fuel : Nat) (k : Nat) (o2 : Int64) (H : Heap) (locs : List Loc) (ls : Array Slot), (U bb).length - k < fuel → k ≤ (U bb).length → (∀ j, rg_has o2 j = true ↔ gw_NI P1 P2 T U bb k j) → va_P (dC, dI) rg_cl (gw_W ad fo fa ur cI cL cF cA rec fp sp an nn (nI n) pt un uc (nI b) lc) H → va_D A (gw_W ad fo fa ur cI cL cF cA rec fp sp an nn (nI n) pt un uc (nI b) lc) → va_S A s.heap H locs → lv_has ls 6 [(0, .ref ((ad 2))), (1, .ref ((ad 1))), (2, .long o2), (4, .int (nI bb)), (5, .int (nI k))] → W p l e R s m args below meth c H locs 0 0 Q (F0 m 28 ls []) := by
          intro fuel
          induction fuel with
          | zero => intro k o2 H locs ls hf; exact absurd hf (Nat.not_lt_zero _)
          | succ fuel ih28 =>
            intro k o2 H locs ls hfu28 hk9 ho2 hP hD hS hl
            refine lv_iload hx hb dB_needed_28 (lv_at hl 4 rfl) ?_
            refine lv_aload_n hx hb dB_needed_30 rfl (lv_at hl 0 rfl) ?_
            refine va_get (D := (dC, dI)) (ci := 3) (C := "RevisionGrove$Branches") (T := TB) (N := 4) hx hb hts inB hown hK hP 2 rfl rfl 2 (by decide) (hts _ tw_73) (fun _ h9 => h9) rfl dB_needed_31 ?_
            refine lv_iload hx hb dB_needed_34 (lv_at hl 3 rfl) ?_
            refine rg_iald hx hb hK hP 10 0 rfl rfl (by decide) (by omega) dB_needed_36 ?_
            refine rg_top (show (.int (uc bb) : Value) = .int (nI ((U bb).length)) by rw [hu9]) ?_
            refine rg_icmp_ge (tgt := 63) hx hb dB_needed_37 (by decide) (by omega) (by omega) (fun h5 => ?_) (fun h5 => ?_)
            · refine lv_iinc (k := 3) (v := nI (bb + 1)) (lv' := [(4, .int (nI (bb + 1))), (0, .ref ((ad 2))), (1, .ref ((ad 1))), (2, .long o2), (5, .int (nI k))]) hx hb dB_needed_63 hl rfl (nI_1 _) (by decide) rfl (fun ls hl => ?_)
              refine lv_goto (tgt := 5) hx hb dB_needed_66 (by decide) ?_
              exact ih5 (bb + 1) o2 _ _ _ (by omega) (by omega) (gw_n3 (by omega) ho2) hP hD hS (lv_sub hl [1, 2, 3, 0] rfl)
            · have hub : un bb k = nI ((U bb).getD k 0) := h7.2.2 k (by show k < (U bb).length; omega)
              have hgn : (U bb).getD k 0 < n := (hok.2.2.2.2.2.2.1 bb (by omega)).2.1 _ (rg_getD_mem (by show k < (U bb).length; omega))
              refine lv_lload_n hx hb dB_needed_40 rfl (lv_at hl 2 rfl) ?_
              refine lv_aload_n hx hb dB_needed_41 rfl (lv_at hl 1 rfl) ?_
              refine lv_aload_n hx hb dB_needed_42 rfl (lv_at hl 0 rfl) ?_
              refine va_get (D := (dC, dI)) (ci := 3) (C := "RevisionGrove$Branches") (T := TB) (N := 4) hx hb hts inB hown hK hP 2 rfl rfl 1 (by decide) (hts _ tw_72) (fun _ h9 => h9) rfl dB_needed_43 ?_
              refine lv_iload hx hb dB_needed_46 (lv_at hl 3 rfl) ?_
              refine gw_undo hx hb hK hP (by omega) dB_needed_48 ?_
              refine lv_iload hx hb dB_needed_49 (lv_at hl 4 rfl) ?_
              refine gw_rald hx hb hK hP (by omega) (by omega) dB_needed_51 ?_
              refine rg_top (show (.int (un bb k) : Value) = .int (nI ((U bb).getD k 0)) by rw [hub]) ?_
              refine rg_calll hD hS hA (va_runV (As := [.int (nI ((U bb).getD k 0))]) (rest := [.long o2]) ⟨hx, hb, hml, hown, hts⟩ (c_R_ancestorsOf ((U bb).getD k 0) (by omega) _) (cwV 1 hts (rg_gV tw_115 tw_116 tw_117 tw_2 tw_118) rfl rfl rfl (by decide +kernel) ⟨by rw [hR]; exact Nat.le_of_ble_eq_true rfl, by rw [hR]; exact Nat.le_of_ble_eq_true rfl⟩) (rg_preV rfl hK hP hD (ci := 2) (q0 := 1) rfl rfl) rfl rfl hl.1 rfl (lv_room (Nat.le_of_ble_eq_true rfl)) dB_needed_52 ⟨Nat.zero_le _, Nat.zero_le _⟩) (fun r6 u7 H locs hw8 hP hD hS => ?_)
              subst hw8
              have hP : va_P (dC, dI) rg_cl (gw_W ad fo fa ur cI cL cF cA rec fp sp an nn (nI n) pt un uc (nI b) lc) H := hP
              have hD : va_D A (gw_W ad fo fa ur cI cL cF cA rec fp sp an nn (nI n) pt un uc (nI b) lc) := hD
              refine lv_lor hx hb dB_needed_55 ?_
              refine lv_lstore_n (lv' := [(2, .long (o2 ||| (an ((U bb).getD k 0)))), (0, .ref ((ad 2))), (1, .ref ((ad 1))), (4, .int (nI bb)), (5, .int (nI k))]) hx hb dB_needed_56 rfl hl (by decide) rfl (fun ls hl => ?_)
              refine lv_iinc (k := 4) (v := nI (k + 1)) (lv' := [(5, .int (nI (k + 1))), (2, .long (o2 ||| (an ((U bb).getD k 0)))), (0, .ref ((ad 2))), (1, .ref ((ad 1))), (4, .int (nI bb))]) hx hb dB_needed_57 hl rfl (nI_1 _) (by decide) rfl (fun ls hl => ?_)
              refine lv_goto (tgt := 28) hx hb dB_needed_60 (by decide) ?_
              exact ih28 (k + 1) (o2 ||| (an ((U bb).getD k 0))) _ _ _ (by omega) (by omega) (gw_n2 (by omega) ho2 (hrep.2.2.2.2.2.1 _ hgn).2.2) hP hD hS (lv_sub hl [2, 3, 1, 4, 0] rfl)
        exact lp28 _ 0 (o ||| (an (T bb))) _ _ _ (Nat.lt_succ_self _) (Nat.zero_le _) (gw_n1 ho1 (hrep.2.2.2.2.2.1 (T bb) hT9).2.2) hP hD hS (lv_sub hl [2, 3, 1, 4, 0] rfl)
  exact lp5 _ 0 (0 : Int64) _ _ _ (Nat.lt_succ_self _) (by omega) gw_n0 hP hD hS (lv_sub hl [2, 3, 1, 0] rfl)
set_option maxHeartbeats 4000000 in
set_option maxRecDepth 100000 in
theorem c_B_renumber {l : Launch} {dC : Nat → ClassId} {dI : Nat → Nat → Nat} {ad fo fa ur : Nat → Nat} {cI cL cF cA : ClassId} {rec : Nat → Nat → Int64} {fp : Nat → Int32} {sp : Nat → Int32} {an : Nat → Int64} {nn : Nat → Int32} {cnt : Int32} {pt : Nat → Int32} {un : Nat → Nat → Int32} {uc : Nat → Int32} {pr : Int32} {lc : Int32} (n : Nat) (hn60 : n ≤ 60) (T : Nat → Nat) (U : Nat → List Nat) (K : Nat → Bool) (hT0 : rm_RT T K 0 pt) (hU0 : gw_RU U K 0 0 un) (huc : ∀ b, b < 4 → uc b = nI (U b).length) (hul : ∀ b, b < 4 → (U b).length < 60) (hnn : ∀ i, i < n → K i = true → nn i = nI (rg_rk K i)) (hKT : ∀ b, b < 4 → T b < n ∧ K (T b) = true) (hKU : ∀ b, b < 4 → ∀ u, u ∈ U b → u < n ∧ K u = true) : rg_M l yB_renumber (Cond.code yB_renumber prog_2_method_12_code 4 none :: rg_tbl) { frames := 1, cells := 0, slots := 0, locals := 21 } (dC, dI) rg_cl (gw_tys cI cL cF cA) (gw_W ad fo fa ur cI cL cF cA rec fp sp an nn cnt pt un uc pr lc) [.ref ((ad 2)), .ref ((ad 1))] (rg_QV (dC, dI) rg_cl (gw_tys cI cL cF cA) (S := (Nat → Int32) × (Nat → Nat → Int32)) (fun v9 => rm_RT T K 4 v9.1 ∧ gw_RU U K 4 0 v9.2) (fun v9 => gw_W ad fo fa ur cI cL cF cA rec fp sp an nn cnt v9.1 v9.2 uc pr lc)) 0 0 := by
  refine rg_of prog_2_method_12_code 4 none (by decide) rfl (Nat.le_of_ble_eq_true rfl) ?_
  intro p e R s m args below meth c Q A H locs ls hR hQ hx hb hml hr hts hown hlk hnm hP hK hD hA hS hl
  have hl : lv_has ls 4 [(0, .ref ((ad 2))), (1, .ref ((ad 1)))] := hl
  have hts : ∀ w ∈ rg_tbl, w.before args s = true := fun w h => hts w (List.mem_cons_of_mem _ h)
  refine lv_iconst (v := nI 0) hx hb dB_renumber_0 (by decide) ?_
  refine lv_istore_n (lv' := [(2, .int (nI 0)), (0, .ref ((ad 2))), (1, .ref ((ad 1)))]) hx hb dB_renumber_1 rfl hl (by decide) rfl (fun ls hl => ?_)
  have lp2 : ∀ (fuel : Nat) (bb : Nat) (pt2 : Nat → Int32) (un2 : Nat → Nat → Int32) (H : Heap) (locs : List Loc) (ls : Array Slot), 4 - bb < fuel → bb ≤ 4 → rm_RT T K bb pt2 → gw_RU U K bb 0 un2 → va_P (dC, dI) rg_cl (gw_W ad fo fa ur cI cL cF cA rec fp sp an nn cnt pt2 un2 uc pr lc) H → va_D A (gw_W ad fo fa ur cI cL cF cA rec fp sp an nn cnt pt2 un2 uc pr lc) → va_S A s.heap H locs → lv_has ls 4 [(0, .ref ((ad 2))), (1, .ref ((ad 1))), (2, .int (nI bb))] → W p l e R s m args below meth c H locs 0 0 Q (F0 m 2 ls []) := by
    intro fuel
    induction fuel with
    | zero => intro bb pt2 un2 H locs ls hf; exact absurd hf (Nat.not_lt_zero _)
    | succ fuel ih2 =>
      intro bb pt2 un2 H locs ls hfu2 hb9 hRT hRU hP hD hS hl
      refine lv_iload_n hx hb dB_renumber_2 rfl (lv_at hl 2 rfl) ?_
      refine lv_iconst (v := nI 4) hx hb dB_renumber_3 (by decide) ?_
      refine rg_icmp_ge (tgt := 67) hx hb dB_renumber_4 (by decide) (by omega) (by omega) (fun h1 => ?_) (fun h1 => ?_)
      · obtain rfl : bb = 4 := by omega
        rw [hQ]
        exact rg_vret hx hb hr hlk hK hP hD hS dB_renumber_67 (pt2, un2) rfl (⟨hRT, hRU⟩)
      · have hp9 : pt2 bb = nI (T bb) := by rw [hRT bb (by omega), if_neg (Nat.lt_irrefl bb)]
        have hu9 : uc bb = nI (U bb).length := huc bb (by omega)
        have hT9 := hKT bb (by omega)
        have hl9 := hul bb (by omega)
        have hnT : rg_nx nn (nI (T bb)) = nI (rg_rk K (T bb)) := (rg_nx_n nn (by omega)).trans (hnn _ hT9.1 hT9.2)
        refine lv_aload_n hx hb dB_renumber_7 rfl (lv_at hl 0 rfl) ?_
        refine va_get (D := (dC, dI)) (ci := 3) (C := "RevisionGrove$Branches") (T := TB) (N := 4) hx hb hts inB hown hK hP 2 rfl rfl 0 (by decide) (hts _ tw_71) (fun _ h9 => h9) rfl dB_renumber_8 ?_
        refine lv_iload_n hx hb dB_renumber_11 rfl (lv_at hl 2 rfl) ?_
        refine lv_aload_n hx hb dB_renumber_12 rfl (lv_at hl 1 rfl) ?_
        refine lv_aload_n hx hb dB_renumber_13 rfl (lv_at hl 0 rfl) ?_
        refine va_get (D := (dC, dI)) (ci := 3) (C := "RevisionGrove$Branches") (T := TB) (N := 4) hx hb hts inB hown hK hP 2 rfl rfl 0 (by decide) (hts _ tw_71) (fun _ h9 => h9) rfl dB_renumber_14 ?_
        refine lv_iload_n hx hb dB_renumber_17 rfl (lv_at hl 2 rfl) ?_
        refine rg_iald hx hb hK hP 8 0 rfl rfl (by decide) (by omega) dB_renumber_18 ?_
        refine rg_top (show (.int (pt2 bb) : Value) = .int (nI (T bb)) by rw [hp9]) ?_
        refine rg_calli hD hS hA (va_runV (As := [.int (nI (T bb))]) (rest := [.int (nI bb), .ref ((ad 8))]) ⟨hx, hb, hml, hown, hts⟩ (c_R_newNumber (nI (T bb)) (Or.inr ⟨_, by omega, rfl⟩) _) (cwV 1 hts (rg_gV tw_149 tw_134 tw_135 tw_2 tw_136) rfl rfl rfl (by decide +kernel) ⟨by rw [hR]; exact Nat.le_of_ble_eq_true rfl, by rw [hR]; exact Nat.le_of_ble_eq_true rfl⟩) (rg_preV rfl hK hP hD (ci := 2) (q0 := 1) rfl rfl) rfl rfl hl.1 rfl (lv_room (Nat.le_of_ble_eq_true rfl)) dB_renumber_19 ⟨Nat.zero_le _, Nat.zero_le _⟩) (fun r2 u3 H locs hw4 hP hD hS => ?_)
        subst hw4
        have hP : va_P (dC, dI) rg_cl (gw_W ad fo fa ur cI cL cF cA rec fp sp an nn cnt pt2 un2 uc pr lc) H := hP
        have hD : va_D A (gw_W ad fo fa ur cI cL cF cA rec fp sp an nn cnt pt2 un2 uc pr lc) := hD
        refine rg_top (show (.int (rg_nx nn (nI (T bb))) : Value) = .int (nI (rg_rk K (T bb))) by rw [hnT]) ?_
        refine rg_iast hx hb hK hP hD hS 8 0 rfl rfl (by decide) (by omega) dB_renumber_22 (fun H locs hP hD hS => ?_)
        have hP : va_P (dC, dI) rg_cl (gw_W ad fo fa ur cI cL cF cA rec fp sp an nn cnt (upd pt2 bb (nI (rg_rk K (T bb)))) un2 uc pr lc) H := hP
        have hD : va_D A (gw_W ad fo fa ur cI cL cF cA rec fp sp an nn cnt (upd pt2 bb (nI (rg_rk K (T bb)))) un2 uc pr lc) := hD
        refine lv_iconst (v := nI 0) hx hb dB_renumber_23 (by decide) ?_
        refine lv_istore_n (lv' := [(3, .int (nI 0)), (0, .ref ((ad 2))), (1, .ref ((ad 1))), (2, .int (nI bb))]) hx hb dB_renumber_24 rfl hl (by decide) rfl (fun ls hl => ?_)
        have lp25 : ∀ (fuel : Nat) (k : Nat) (un3 : Nat → Nat → Int32) (H : Heap) (locs : List Loc) (ls : Array Slot), (U bb).length - k < fuel → k ≤ (U bb).length → gw_RU U K bb k un3 → va_P (dC, dI) rg_cl (gw_W ad fo fa ur cI cL cF cA rec fp sp an nn cnt (upd pt2 bb (nI (rg_rk K (T bb)))) un3 uc pr lc) H → va_D A (gw_W ad fo fa ur cI cL cF cA rec fp sp an nn cnt (upd pt2 bb (nI (rg_rk K (T bb)))) un3 uc pr lc) → va_S A s.heap H locs → lv_has ls 4 [(0, .ref ((ad 2))), (1, .ref ((ad 1))), (2, .int (nI bb)), (3, .int (nI k))] → W p l e R s m args below meth c H locs 0 0 Q (F0 m 25 ls []) := by
          intro fuel
          induction fuel with
          | zero => intro k un3 H locs ls hf; exact absurd hf (Nat.not_lt_zero _)
          | succ fuel ih25 =>
            intro k un3 H locs ls hfu25 hk9 hRU2 hP hD hS hl
            refine lv_iload_n hx hb dB_renumber_25 rfl (lv_at hl 3 rfl) ?_
            refine lv_aload_n hx hb dB_renumber_26 rfl (lv_at hl 0 rfl) ?_
            refine va_get (D := (dC, dI)) (ci := 3) (C := "RevisionGrove$Branches") (T := TB) (N := 4) hx hb hts inB hown hK hP 2 rfl rfl 2 (by decide) (hts _ tw_73) (fun _ h9 => h9) rfl dB_renumber_27 ?_
            refine lv_iload_n hx hb dB_renumber_30 rfl (lv_at hl 2 rfl) ?_
            refine rg_iald hx hb hK hP 10 0 rfl rfl (by decide) (by omega) dB_renumber_31 ?_
            refine rg_top (show (.int (uc bb) : Value) = .int (nI ((U bb).length)) by rw [hu9]) ?_
            refine rg_icmp_ge (tgt := 61) hx hb dB_renumber_32 (by decide) (by omega) (by omega) (fun h5 => ?_) (fun h5 => ?_)
            · refine lv_iinc (k := 2) (v := nI (bb + 1)) (lv' := [(2, .int (nI (bb + 1))), (0, .ref ((ad 2))), (1, .ref ((ad 1))), (3, .int (nI k))]) hx hb dB_renumber_61 hl rfl (nI_1 _) (by decide) rfl (fun ls hl => ?_)
              refine lv_goto (tgt := 2) hx hb dB_renumber_64 (by decide) ?_
              exact ih2 (bb + 1) (upd pt2 bb (nI (rg_rk K (T bb)))) un3 _ _ _ (by omega) (by omega) (rm_RT_s hRT) (gw_RU_n hRU2 (by omega)) hP hD hS (lv_sub hl [1, 2, 0] rfl)
            · have hub : un3 bb k = nI ((U bb).getD k 0) := by rw [hRU2 bb k (by omega) (by omega), if_neg (by omega)]
              have hgn := hKU bb (by omega) _ (rg_getD_mem (show k < (U bb).length by omega))
              have hnU : rg_nx nn (nI ((U bb).getD k 0)) = nI (rg_rk K ((U bb).getD k 0)) := (rg_nx_n nn (by omega)).trans (hnn _ hgn.1 hgn.2)
              refine lv_aload_n hx hb dB_renumber_35 rfl (lv_at hl 0 rfl) ?_
              refine va_get (D := (dC, dI)) (ci := 3) (C := "RevisionGrove$Branches") (T := TB) (N := 4) hx hb hts inB hown hK hP 2 rfl rfl 1 (by decide) (hts _ tw_72) (fun _ h9 => h9) rfl dB_renumber_36 ?_
              refine lv_iload_n hx hb dB_renumber_39 rfl (lv_at hl 2 rfl) ?_
              refine gw_undo hx hb hK hP (by omega) dB_renumber_40 ?_
              refine lv_iload_n hx hb dB_renumber_41 rfl (lv_at hl 3 rfl) ?_
              refine lv_aload_n hx hb dB_renumber_42 rfl (lv_at hl 1 rfl) ?_
              refine lv_aload_n hx hb dB_renumber_43 rfl (lv_at hl 0 rfl) ?_
              refine va_get (D := (dC, dI)) (ci := 3) (C := "RevisionGrove$Branches") (T := TB) (N := 4) hx hb hts inB hown hK hP 2 rfl rfl 1 (by decide) (hts _ tw_72) (fun _ h9 => h9) rfl dB_renumber_44 ?_
              refine lv_iload_n hx hb dB_renumber_47 rfl (lv_at hl 2 rfl) ?_
              refine gw_undo hx hb hK hP (by omega) dB_renumber_48 ?_
              refine lv_iload_n hx hb dB_renumber_49 rfl (lv_at hl 3 rfl) ?_
              refine gw_rald hx hb hK hP (by omega) (by omega) dB_renumber_50 ?_
              refine rg_top (show (.int (un3 bb k) : Value) = .int (nI ((U bb).getD k 0)) by rw [hub]) ?_
              refine rg_calli hD hS hA (va_runV (As := [.int (nI ((U bb).getD k 0))]) (rest := [.int (nI k), .ref ((ur bb))]) ⟨hx, hb, hml, hown, hts⟩ (c_R_newNumber (nI ((U bb).getD k 0)) (Or.inr ⟨_, by omega, rfl⟩) _) (cwV 1 hts (rg_gV tw_149 tw_134 tw_135 tw_2 tw_136) rfl rfl rfl (by decide +kernel) ⟨by rw [hR]; exact Nat.le_of_ble_eq_true rfl, by rw [hR]; exact Nat.le_of_ble_eq_true rfl⟩) (rg_preV rfl hK hP hD (ci := 2) (q0 := 1) rfl rfl) rfl rfl hl.1 rfl (lv_room (Nat.le_of_ble_eq_true rfl)) dB_renumber_51 ⟨Nat.zero_le _, Nat.zero_le _⟩) (fun r6 u7 H locs hw8 hP hD hS => ?_)
              subst hw8
              have hP : va_P (dC, dI) rg_cl (gw_W ad fo fa ur cI cL cF cA rec fp sp an nn cnt (upd pt2 bb (nI (rg_rk K (T bb)))) un3 uc pr lc) H := hP
              have hD : va_D A (gw_W ad fo fa ur cI cL cF cA rec fp sp an nn cnt (upd pt2 bb (nI (rg_rk K (T bb)))) un3 uc pr lc) := hD
              refine rg_top (show (.int (rg_nx nn (nI ((U bb).getD k 0))) : Value) = .int (nI (rg_rk K ((U bb).getD k 0))) by rw [hnU]) ?_
              refine gw_rast hx hb hK hP hD hS (by omega) (by omega) dB_renumber_54 (fun H locs hP hD hS => ?_)
              have hP : va_P (dC, dI) rg_cl (gw_W ad fo fa ur cI cL cF cA rec fp sp an nn cnt (upd pt2 bb (nI (rg_rk K (T bb)))) (va_up un3 bb (upd (un3 bb) k (nI (rg_rk K ((U bb).getD k 0))))) uc pr lc) H := hP
              have hD : va_D A (gw_W ad fo fa ur cI cL cF cA rec fp sp an nn cnt (upd pt2 bb (nI (rg_rk K (T bb)))) (va_up un3 bb (upd (un3 bb) k (nI (rg_rk K ((U bb).getD k 0))))) uc pr lc) := hD
              refine lv_iinc (k := 3) (v := nI (k + 1)) (lv' := [(3, .int (nI (k + 1))), (0, .ref ((ad 2))), (1, .ref ((ad 1))), (2, .int (nI bb))]) hx hb dB_renumber_55 hl rfl (nI_1 _) (by decide) rfl (fun ls hl => ?_)
              refine lv_goto (tgt := 25) hx hb dB_renumber_58 (by decide) ?_
              exact ih25 (k + 1) (va_up un3 bb (upd (un3 bb) k (nI (rg_rk K ((U bb).getD k 0))))) _ _ _ (by omega) (by omega) (gw_RU_s hRU2) hP hD hS (lv_sub hl [1, 2, 3, 0] rfl)
        exact lp25 _ 0 un2 _ _ _ (Nat.lt_succ_self _) (Nat.zero_le _) hRU hP hD hS (lv_sub hl [1, 2, 3, 0] rfl)
  exact lp2 _ 0 pt un _ _ _ (Nat.lt_succ_self _) (by omega) hT0 hU0 hP hD hS (lv_sub hl [1, 2, 0] rfl)
set_option maxHeartbeats 4000000 in
set_option maxRecDepth 100000 in
theorem c_R_keepOnly {l : Launch} {dC : Nat → ClassId} {dI : Nat → Nat → Nat} {ad fo fa ur : Nat → Nat} {cI cL cF cA : ClassId} {rec : Nat → Nat → Int64} {fp : Nat → Int32} {sp : Nat → Int32} {an : Nat → Int64} {nn : Nat → Int32} {pt : Nat → Int32} {un : Nat → Nat → Int32} {uc : Nat → Int32} {lc : Int32} (n b : Nat) (Rr : Nat → rg_R) (P1 P2 : Nat → Int32) (T : Nat → Nat) (U : Nat → List Nat) (z : Int64) (K : Nat → Bool) (hKz : rg_has z = K) (hcl : ∀ r p, K r = true → p < r → (P1 r = nI p ∨ P2 r = nI p) → K p = true) (hrep : gw_Rep rec fp sp an (nI n) pt un uc (nI b) lc (n, Rr, P1, P2, T, U, b, lc)) : rg_M l yR_keepOnly (Cond.code yR_keepOnly prog_6_method_11_code 5 none :: rg_tbl) { frames := 2, cells := 0, slots := 0, locals := 51 } (dC, dI) rg_cl (gw_tys cI cL cF cA) (gw_W ad fo fa ur cI cL cF cA rec fp sp an nn (nI n) pt un uc (nI b) lc) [.ref ((ad 1)), .long z] (rg_QV (dC, dI) rg_cl (gw_tys cI cL cF cA) (S := (Nat → Nat → Int64) × (Nat → Int32) × (Nat → Int32) × (Nat → Int64) × (Nat → Int32)) (fun v9 => gw_PI (n, Rr, P1, P2, T, U, b, lc) K n v9.1 v9.2.1 v9.2.2.1 v9.2.2.2.1 v9.2.2.2.2) (fun v9 => gw_W ad fo fa ur cI cL cF cA v9.1 v9.2.1 v9.2.2.1 v9.2.2.2.1 v9.2.2.2.2 (nI (rg_rk K n)) pt un uc (nI b) lc)) 0 0 := by
  refine rg_of prog_6_method_11_code 5 none (by decide) rfl (Nat.le_of_ble_eq_true rfl) ?_
  intro p e R s m args below meth c Q A H locs ls hR hQ hx hb hml hr hts hown hlk hnm hP hK hD hA hS hl
  have hl : lv_has ls 5 [(0, .ref ((ad 1))), (1, .long z)] := hl
  have hts : ∀ w ∈ rg_tbl, w.before args s = true := fun w h => hts w (List.mem_cons_of_mem _ h)
  have hok := hrep.1
  have hn1 : 1 ≤ n := hok.1
  have hn60 : n ≤ 60 := hok.2.1
  have hb4 : b < 4 := hok.2.2.2.2.2.2.2.1
  have hTb : T b < n := (hok.2.2.2.2.2.2.1 b hb4).1
  have hpt : pt b = nI (T b) := (hrep.2.2.2.2.2.2 b hb4).1
  have hyc : rg_CR (rec (T b)) (Rr (T b)) := hrep.2.2.2.2.1 (T b) hTb
  have hpr0 : rg_Pr n P1 P2 := rg_Ok_Pr hok
  refine lv_iconst (v := nI 0) hx hb dR_keepOnly_0 (by decide) ?_
  refine lv_istore_n (lv' := [(3, .int (nI 0)), (0, .ref ((ad 1))), (1, .long z)]) hx hb dR_keepOnly_1 rfl hl (by decide) rfl (fun ls hl => ?_)
  refine lv_iconst (v := nI 0) hx hb dR_keepOnly_2 (by decide) ?_
  refine lv_istore (lv' := [(4, .int (nI 0)), (3, .int (nI 0)), (0, .ref ((ad 1))), (1, .long z)]) hx hb dR_keepOnly_3 hl (by decide) rfl (fun ls hl => ?_)
  have lp5 : ∀ (fuel : Nat) (r : Nat) (rec1 : Nat → Nat → Int64) (fp1 : Nat → Int32) (sp1 : Nat → Int32) (an1 : Nat → Int64) (nn1 : Nat → Int32) (H : Heap) (locs : List Loc) (ls : Array Slot), n - r < fuel → r ≤ n → gw_PI (n, Rr, P1, P2, T, U, b, lc) K r rec1 fp1 sp1 an1 nn1 → va_P (dC, dI) rg_cl (gw_W ad fo fa ur cI cL cF cA rec1 fp1 sp1 an1 nn1 (nI n) pt un uc (nI b) lc) H → va_D A (gw_W ad fo fa ur cI cL cF cA rec1 fp1 sp1 an1 nn1 (nI n) pt un uc (nI b) lc) → va_S A s.heap H locs → lv_has ls 5 [(0, .ref ((ad 1))), (1, .long z), (3, .int (nI (rg_rk K r))), (4, .int (nI r))] → W p l e R s m args below meth c H locs 0 0 Q (F0 m 5 ls []) := by
    intro fuel
    induction fuel with
    | zero => intro r rec1 fp1 sp1 an1 nn1 H locs ls hf; exact absurd hf (Nat.not_lt_zero _)
    | succ fuel ih5 =>
      intro r rec1 fp1 sp1 an1 nn1 H locs ls hfu5 hrn9 hPI hP hD hS hl
      refine lv_iload hx hb dR_keepOnly_5 (lv_at hl 3 rfl) ?_
      refine lv_aload_n hx hb dR_keepOnly_7 rfl (lv_at hl 0 rfl) ?_
      refine va_get (D := (dC, dI)) (ci := 2) (C := "RevisionGrove$Revisions") (T := TR) (N := 6) hx hb hts inR hown hK hP 1 rfl rfl 5 (by decide) (hts _ tw_49) (fun _ h9 => h9) rfl dR_keepOnly_8 ?_
      refine rg_icmp_ge (tgt := 83) hx hb dR_keepOnly_11 (by decide) (by omega) (by omega) (fun h1 => ?_) (fun h1 => ?_)
      · have hrn : r = n := by omega
        rw [hrn] at hl hPI
        refine lv_aload_n hx hb dR_keepOnly_83 rfl (lv_at hl 0 rfl) ?_
        refine lv_iload_n hx hb dR_keepOnly_84 rfl (lv_at hl 2 rfl) ?_
        refine va_put (D := (dC, dI)) (ci := 2) (v := .int (nI (rg_rk K n))) (ty := .int) (C := "RevisionGrove$Revisions") (T := TR) (N := 6) hx hb hts inR tyR tyR_ok nmR hown hK hP hD hS 1 rfl rfl 5 (by decide) (hts _ tw_49) (fun _ h9 => h9) rfl (by decide +kernel) rfl rfl (Nat.le_of_ble_eq_true rfl) dR_keepOnly_85 (fun H locs hP hD hS => ?_)
        have hP : va_P (dC, dI) rg_cl (gw_W ad fo fa ur cI cL cF cA rec1 fp1 sp1 an1 nn1 (nI (rg_rk K n)) pt un uc (nI b) lc) H := hP
        have hD : va_D A (gw_W ad fo fa ur cI cL cF cA rec1 fp1 sp1 an1 nn1 (nI (rg_rk K n)) pt un uc (nI b) lc) := hD
        rw [hQ]
        exact rg_vret hx hb hr hlk hK hP hD hS dR_keepOnly_88 (rec1, fp1, sp1, an1, nn1) rfl (hPI)
      · refine lv_lload_n hx hb dR_keepOnly_14 rfl (lv_at hl 1 rfl) ?_
        refine lv_iload hx hb dR_keepOnly_15 (lv_at hl 3 rfl) ?_
        refine rg_calli hD hS hA (va_runS (As := [.long z, .int (nI r)]) (rest := []) ⟨hx, hb, hml, hown, hts⟩ (c_R_holds z r (by omega) _) (va_cwS 2 hts (rg_gSx tw_123 tw_124 tw_2 tw_125) rfl rfl rfl (by decide +kernel) ⟨by rw [hR]; exact Nat.le_of_ble_eq_true rfl, by rw [hR]; exact Nat.le_of_ble_eq_true rfl⟩) (rg_preS rfl hK hP hD) rfl rfl hl.1 rfl (lv_room (Nat.le_of_ble_eq_true rfl)) dR_keepOnly_17 ⟨Nat.zero_le _, Nat.zero_le _⟩) (fun r2 u3 H locs hw4 hP hD hS => ?_)
        subst hw4
        have hP : va_P (dC, dI) rg_cl (gw_W ad fo fa ur cI cL cF cA rec1 fp1 sp1 an1 nn1 (nI n) pt un uc (nI b) lc) H := hP
        have hD : va_D A (gw_W ad fo fa ur cI cL cF cA rec1 fp1 sp1 an1 nn1 (nI n) pt un uc (nI b) lc) := hD
        refine rg_ifz_eq (tgt := 77) hx hb dR_keepOnly_20 (by decide) (fun h5 => ?_) (fun h5 => ?_)
        · have hKr : K r = false := by rw [← hKz]; exact h5
          rw [rg_rk_no hKr] at hl
          refine lv_iinc (k := 3) (v := nI (r + 1)) (lv' := [(4, .int (nI (r + 1))), (0, .ref ((ad 1))), (1, .long z), (3, .int (nI (rg_rk K (r + 1))))]) hx hb dR_keepOnly_77 hl rfl (nI_1 _) (by decide) rfl (fun ls hl => ?_)
          refine lv_goto (tgt := 5) hx hb dR_keepOnly_80 (by decide) ?_
          exact ih5 (r + 1) rec1 fp1 sp1 an1 nn1 _ _ _ (by omega) (by omega) (gw_PI_no hPI hKr) hP hD hS (lv_sub hl [1, 2, 3, 0] rfl)
        · have hKr : K r = true := by rw [← hKz]; exact h5
          have hrk := rg_rk_le K r
          have hPr9 := hPI.2.1 r (Nat.le_refl r) (show r < n by omega)
          have hX9 : P1 r = -1 ∨ ∃ p, p < r ∧ K p = true ∧ P1 r = nI p := by rcases rg_Pr_f hpr0 (show r < n by omega) with q9 | ⟨q8, q7, q9⟩; exact Or.inl q9; exact Or.inr ⟨q8, q7, hcl r q8 hKr q7 (Or.inl q9), q9⟩
          have hY9 : P2 r = -1 ∨ ∃ p, p < r ∧ K p = true ∧ P2 r = nI p := by rcases hpr0.2.2 r (show r < n by omega) with q9 | ⟨q8, q7, q9⟩; exact Or.inl q9; exact Or.inr ⟨q8, q7, hcl r q8 hKr q7 (Or.inr q9), q9⟩
          have x19 := gw_nx_rx (v := nI (rg_rk K r)) (by omega) hPI.2.2 hX9
          have y19 := gw_nx_rx (v := nI (rg_rk K r)) (by omega) hPI.2.2 hY9
          have ef : fp1 r = P1 r := hPr9.2.1
          have es : sp1 r = P2 r := hPr9.2.2
          have hx60 : fp1 r = -1 ∨ ∃ r9, r9 < 60 ∧ fp1 r = nI r9 := by rw [ef]; rcases hX9 with q9 | ⟨q8, q7, q6, q9⟩; exact Or.inl q9; exact Or.inr ⟨q8, by omega, q9⟩
          have hy60 : sp1 r = -1 ∨ ∃ r9, r9 < 60 ∧ sp1 r = nI r9 := by rw [es]; rcases hY9 with q9 | ⟨q8, q7, q6, q9⟩; exact Or.inl q9; exact Or.inr ⟨q8, by omega, q9⟩
          have hnx : rg_nx (upd nn1 r (nI (rg_rk K r))) (fp1 r) = -1 ∨ ∃ r9, r9 < 60 ∧ rg_nx (upd nn1 r (nI (rg_rk K r))) (fp1 r) = nI r9 := by rw [ef, x19.1]; rcases x19.2 with q9 | ⟨q8, q7, q9⟩; exact Or.inl q9; exact Or.inr ⟨q8, by omega, q9⟩
          have hny : rg_nx (upd nn1 r (nI (rg_rk K r))) (sp1 r) = -1 ∨ ∃ r9, r9 < 60 ∧ rg_nx (upd nn1 r (nI (rg_rk K r))) (sp1 r) = nI r9 := by rw [es, y19.1]; rcases y19.2 with q9 | ⟨q8, q7, q9⟩; exact Or.inl q9; exact Or.inr ⟨q8, by omega, q9⟩
          refine lv_aload_n hx hb dR_keepOnly_23 rfl (lv_at hl 0 rfl) ?_
          refine va_get (D := (dC, dI)) (ci := 2) (C := "RevisionGrove$Revisions") (T := TR) (N := 6) hx hb hts inR hown hK hP 1 rfl rfl 4 (by decide) (hts _ tw_48) (fun _ h9 => h9) rfl dR_keepOnly_24 ?_
          refine lv_iload hx hb dR_keepOnly_27 (lv_at hl 3 rfl) ?_
          refine lv_iload_n hx hb dR_keepOnly_29 rfl (lv_at hl 2 rfl) ?_
          refine rg_iast hx hb hK hP hD hS 7 0 rfl rfl (by decide) (by omega) dR_keepOnly_30 (fun H locs hP hD hS => ?_)
          have hP : va_P (dC, dI) rg_cl (gw_W ad fo fa ur cI cL cF cA rec1 fp1 sp1 an1 (upd nn1 r (nI (rg_rk K r))) (nI n) pt un uc (nI b) lc) H := hP
          have hD : va_D A (gw_W ad fo fa ur cI cL cF cA rec1 fp1 sp1 an1 (upd nn1 r (nI (rg_rk K r))) (nI n) pt un uc (nI b) lc) := hD
          refine lv_aload_n hx hb dR_keepOnly_31 rfl (lv_at hl 0 rfl) ?_
          refine va_get (D := (dC, dI)) (ci := 2) (C := "RevisionGrove$Revisions") (T := TR) (N := 6) hx hb hts inR hown hK hP 1 rfl rfl 0 (by decide) (hts _ tw_44) (fun _ h9 => h9) rfl dR_keepOnly_32 ?_
          refine lv_iload_n hx hb dR_keepOnly_35 rfl (lv_at hl 2 rfl) ?_
          refine gw_recs hx hb hK hP (by omega) dR_keepOnly_36 ?_
          refine lv_aload_n hx hb dR_keepOnly_37 rfl (lv_at hl 0 rfl) ?_
          refine va_get (D := (dC, dI)) (ci := 2) (C := "RevisionGrove$Revisions") (T := TR) (N := 6) hx hb hts inR hown hK hP 1 rfl rfl 0 (by decide) (hts _ tw_44) (fun _ h9 => h9) rfl dR_keepOnly_38 ?_
          refine lv_iload hx hb dR_keepOnly_41 (lv_at hl 3 rfl) ?_
          refine gw_recs hx hb hK hP (by omega) dR_keepOnly_43 ?_
          refine rg_callv hD hS hA (va_runV (As := [.ref ((fo r))]) (rest := []) ⟨hx, hb, hml, hown, hts⟩ (c_F_takeAll ((rg_rk K r)) r (by omega) (by omega) _) (cwV 1 hts (rg_gV tw_126 tw_127 tw_128 tw_3 tw_129) rfl rfl rfl (by decide +kernel) ⟨by rw [hR]; exact Nat.le_of_ble_eq_true rfl, by rw [hR]; exact Nat.le_of_ble_eq_true rfl⟩) (rg_preV rfl hK hP hD (ci := 4) (q0 := (11 + (4 + (rg_rk K r)))) rfl (gw_obj (by omega))) rfl rfl hl.1 rfl (lv_room (Nat.le_of_ble_eq_true rfl)) dR_keepOnly_44 ⟨Nat.zero_le _, Nat.zero_le _⟩) (fun u7 H locs hw8 hP hD hS => ?_)
          have hP : va_P (dC, dI) rg_cl (gw_W ad fo fa ur cI cL cF cA (va_up rec1 ((rg_rk K r)) (va_cpy (rec1 r) (rec1 ((rg_rk K r))) 0 0 24)) fp1 sp1 an1 (upd nn1 r (nI (rg_rk K r))) (nI n) pt un uc (nI b) lc) H := hP
          have hD : va_D A (gw_W ad fo fa ur cI cL cF cA (va_up rec1 ((rg_rk K r)) (va_cpy (rec1 r) (rec1 ((rg_rk K r))) 0 0 24)) fp1 sp1 an1 (upd nn1 r (nI (rg_rk K r))) (nI n) pt un uc (nI b) lc) := hD
          refine lv_aload_n hx hb dR_keepOnly_47 rfl (lv_at hl 0 rfl) ?_
          refine lv_iload_n hx hb dR_keepOnly_48 rfl (lv_at hl 2 rfl) ?_
          refine lv_aload_n hx hb dR_keepOnly_49 rfl (lv_at hl 0 rfl) ?_
          refine lv_aload_n hx hb dR_keepOnly_50 rfl (lv_at hl 0 rfl) ?_
          refine va_get (D := (dC, dI)) (ci := 2) (C := "RevisionGrove$Revisions") (T := TR) (N := 6) hx hb hts inR hown hK hP 1 rfl rfl 1 (by decide) (hts _ tw_45) (fun _ h9 => h9) rfl dR_keepOnly_51 ?_
          refine lv_iload hx hb dR_keepOnly_54 (lv_at hl 3 rfl) ?_
          refine rg_iald hx hb hK hP 4 0 rfl rfl (by decide) (by omega) dR_keepOnly_56 ?_
          refine rg_calli hD hS hA (va_runV (As := [.int (fp1 r)]) (rest := [.int (nI (rg_rk K r)), .ref ((ad 1))]) ⟨hx, hb, hml, hown, hts⟩ (c_R_newNumber (fp1 r) hx60 _) (cwV 1 hts (rg_gV tw_133 tw_134 tw_135 tw_2 tw_136) rfl rfl rfl (by decide +kernel) ⟨by rw [hR]; exact Nat.le_of_ble_eq_true rfl, by rw [hR]; exact Nat.le_of_ble_eq_true rfl⟩) (rg_preV rfl hK hP hD (ci := 2) (q0 := 1) rfl rfl) rfl rfl hl.1 rfl (lv_room (Nat.le_of_ble_eq_true rfl)) dR_keepOnly_57 ⟨Nat.zero_le _, Nat.zero_le _⟩) (fun r9 u10 H locs hw11 hP hD hS => ?_)
          subst hw11
          have hP : va_P (dC, dI) rg_cl (gw_W ad fo fa ur cI cL cF cA (va_up rec1 ((rg_rk K r)) (va_cpy (rec1 r) (rec1 ((rg_rk K r))) 0 0 24)) fp1 sp1 an1 (upd nn1 r (nI (rg_rk K r))) (nI n) pt un uc (nI b) lc) H := hP
          have hD : va_D A (gw_W ad fo fa ur cI cL cF cA (va_up rec1 ((rg_rk K r)) (va_cpy (rec1 r) (rec1 ((rg_rk K r))) 0 0 24)) fp1 sp1 an1 (upd nn1 r (nI (rg_rk K r))) (nI n) pt un uc (nI b) lc) := hD
          refine lv_aload_n hx hb dR_keepOnly_60 rfl (lv_at hl 0 rfl) ?_
          refine lv_aload_n hx hb dR_keepOnly_61 rfl (lv_at hl 0 rfl) ?_
          refine va_get (D := (dC, dI)) (ci := 2) (C := "RevisionGrove$Revisions") (T := TR) (N := 6) hx hb hts inR hown hK hP 1 rfl rfl 2 (by decide) (hts _ tw_46) (fun _ h9 => h9) rfl dR_keepOnly_62 ?_
          refine lv_iload hx hb dR_keepOnly_65 (lv_at hl 3 rfl) ?_
          refine rg_iald hx hb hK hP 5 0 rfl rfl (by decide) (by omega) dR_keepOnly_67 ?_
          refine rg_calli hD hS hA (va_runV (As := [.int (sp1 r)]) (rest := [.int (rg_nx (upd nn1 r (nI (rg_rk K r))) (fp1 r)), .int (nI (rg_rk K r)), .ref ((ad 1))]) ⟨hx, hb, hml, hown, hts⟩ (c_R_newNumber (sp1 r) hy60 _) (cwV 1 hts (rg_gV tw_133 tw_134 tw_135 tw_2 tw_136) rfl rfl rfl (by decide +kernel) ⟨by rw [hR]; exact Nat.le_of_ble_eq_true rfl, by rw [hR]; exact Nat.le_of_ble_eq_true rfl⟩) (rg_preV rfl hK hP hD (ci := 2) (q0 := 1) rfl rfl) rfl rfl hl.1 rfl (lv_room (Nat.le_of_ble_eq_true rfl)) dR_keepOnly_68 ⟨Nat.zero_le _, Nat.zero_le _⟩) (fun r12 u13 H locs hw14 hP hD hS => ?_)
          subst hw14
          have hP : va_P (dC, dI) rg_cl (gw_W ad fo fa ur cI cL cF cA (va_up rec1 ((rg_rk K r)) (va_cpy (rec1 r) (rec1 ((rg_rk K r))) 0 0 24)) fp1 sp1 an1 (upd nn1 r (nI (rg_rk K r))) (nI n) pt un uc (nI b) lc) H := hP
          have hD : va_D A (gw_W ad fo fa ur cI cL cF cA (va_up rec1 ((rg_rk K r)) (va_cpy (rec1 r) (rec1 ((rg_rk K r))) 0 0 24)) fp1 sp1 an1 (upd nn1 r (nI (rg_rk K r))) (nI n) pt un uc (nI b) lc) := hD
          refine rg_callv hD hS hA (va_runV (As := [.int (nI (rg_rk K r)), .int (rg_nx (upd nn1 r (nI (rg_rk K r))) (fp1 r)), .int (rg_nx (upd nn1 r (nI (rg_rk K r))) (sp1 r))]) (rest := []) ⟨hx, hb, hml, hown, hts⟩ (c_R_link (rg_rk K r) (by omega) (rg_nx (upd nn1 r (nI (rg_rk K r))) (fp1 r)) (rg_nx (upd nn1 r (nI (rg_rk K r))) (sp1 r)) hnx hny _) (cwV 3 hts (rg_gV tw_137 tw_139 ts_R_link tw_2 tw_140) rfl rfl rfl (by decide +kernel) ⟨by rw [hR]; exact Nat.le_of_ble_eq_true rfl, by rw [hR]; exact Nat.le_of_ble_eq_true rfl⟩) (rg_preV rfl hK hP hD (ci := 2) (q0 := 1) rfl rfl) rfl rfl hl.1 rfl (lv_room (Nat.le_of_ble_eq_true rfl)) dR_keepOnly_71 ⟨Nat.zero_le _, Nat.zero_le _⟩) (fun u16 H locs hw17 hP hD hS => ?_)
          have hP : va_P (dC, dI) rg_cl (gw_W ad fo fa ur cI cL cF cA (va_up rec1 ((rg_rk K r)) (va_cpy (rec1 r) (rec1 ((rg_rk K r))) 0 0 24)) (upd fp1 (rg_rk K r) (rg_nx (upd nn1 r (nI (rg_rk K r))) (fp1 r))) (upd sp1 (rg_rk K r) (rg_nx (upd nn1 r (nI (rg_rk K r))) (sp1 r))) (vp_updL an1 (rg_rk K r) ((((1 : Int64) <<< ((nI (rg_rk K r)).toInt64 &&& 63)) ||| (rg_ax an1 (rg_nx (upd nn1 r (nI (rg_rk K r))) (fp1 r)))) ||| (rg_ax an1 (rg_nx (upd nn1 r (nI (rg_rk K r))) (sp1 r))))) (upd nn1 r (nI (rg_rk K r))) (nI n) pt un uc (nI b) lc) H := hP
          have hD : va_D A (gw_W ad fo fa ur cI cL cF cA (va_up rec1 ((rg_rk K r)) (va_cpy (rec1 r) (rec1 ((rg_rk K r))) 0 0 24)) (upd fp1 (rg_rk K r) (rg_nx (upd nn1 r (nI (rg_rk K r))) (fp1 r))) (upd sp1 (rg_rk K r) (rg_nx (upd nn1 r (nI (rg_rk K r))) (sp1 r))) (vp_updL an1 (rg_rk K r) ((((1 : Int64) <<< ((nI (rg_rk K r)).toInt64 &&& 63)) ||| (rg_ax an1 (rg_nx (upd nn1 r (nI (rg_rk K r))) (fp1 r)))) ||| (rg_ax an1 (rg_nx (upd nn1 r (nI (rg_rk K r))) (sp1 r))))) (upd nn1 r (nI (rg_rk K r))) (nI n) pt un uc (nI b) lc) := hD
          refine lv_iinc (k := 2) (v := nI (rg_rk K r + 1)) (lv' := [(3, .int (nI (rg_rk K r + 1))), (0, .ref ((ad 1))), (1, .long z), (4, .int (nI r))]) hx hb dR_keepOnly_74 hl rfl (nI_1 _) (by decide) rfl (fun ls hl => ?_)
          rw [rg_rk_yes hKr] at hl
          refine lv_iinc (k := 3) (v := nI (r + 1)) (lv' := [(4, .int (nI (r + 1))), (3, .int (nI (rg_rk K (r + 1)))), (0, .ref ((ad 1))), (1, .long z)]) hx hb dR_keepOnly_77 hl rfl (nI_1 _) (by decide) rfl (fun ls hl => ?_)
          refine lv_goto (tgt := 5) hx hb dR_keepOnly_80 (by decide) ?_
          exact ih5 (r + 1) (va_up rec1 ((rg_rk K r)) (va_cpy (rec1 r) (rec1 ((rg_rk K r))) 0 0 24)) (upd fp1 (rg_rk K r) (rg_nx (upd nn1 r (nI (rg_rk K r))) (fp1 r))) (upd sp1 (rg_rk K r) (rg_nx (upd nn1 r (nI (rg_rk K r))) (sp1 r))) (vp_updL an1 (rg_rk K r) ((((1 : Int64) <<< ((nI (rg_rk K r)).toInt64 &&& 63)) ||| (rg_ax an1 (rg_nx (upd nn1 r (nI (rg_rk K r))) (fp1 r)))) ||| (rg_ax an1 (rg_nx (upd nn1 r (nI (rg_rk K r))) (sp1 r))))) (upd nn1 r (nI (rg_rk K r))) _ _ _ (by omega) (by omega) (gw_PI_yes hPI hKr (show r < n by omega) hn60 hX9 hY9) hP hD hS (lv_sub hl [2, 3, 1, 0] rfl)
  exact lp5 _ 0 rec fp sp an nn _ _ _ (Nat.lt_succ_self _) (Nat.zero_le _) (gw_PI_0 hrep) hP hD hS (lv_sub hl [2, 3, 1, 0] rfl)
set_option maxHeartbeats 4000000 in
set_option maxRecDepth 100000 in
theorem c_G_prune {l : Launch} {dC : Nat → ClassId} {dI : Nat → Nat → Nat} {ad fo fa ur : Nat → Nat} {cI cL cF cA : ClassId} {rec : Nat → Nat → Int64} {fp : Nat → Int32} {sp : Nat → Int32} {an : Nat → Int64} {nn : Nat → Int32} {pt : Nat → Int32} {un : Nat → Nat → Int32} {uc : Nat → Int32} {lc : Int32} (n b : Nat) (Rr : Nat → rg_R) (P1 P2 : Nat → Int32) (T : Nat → Nat) (U : Nat → List Nat)  (hrep : gw_Rep rec fp sp an (nI n) pt un uc (nI b) lc (n, Rr, P1, P2, T, U, b, lc)) : rg_M l yG_prune (Cond.code yG_prune prog_1_method_18_code 2 (some .int) :: rg_tbl) { frames := 3, cells := 0, slots := 0, locals := 75 } (dC, dI) rg_cl (gw_tys cI cL cF cA) (gw_W ad fo fa ur cI cL cF cA rec fp sp an nn (nI n) pt un uc (nI b) lc) [.ref ((ad 0))] (rg_QI (dC, dI) rg_cl (gw_tys cI cL cF cA) (S := gw_S) (gw_Po (rg_oPrune (n, Rr, P1, P2, T, U, b, lc))) (fun u => gw_Wu ad fo fa ur cI cL cF cA u)) 0 0 := by
  refine rg_of prog_1_method_18_code 2 (some .int) (by decide) rfl (Nat.le_of_ble_eq_true rfl) ?_
  intro p e R s m args below meth c Q A H locs ls hR hQ hx hb hml hr hts hown hlk hnm hP hK hD hA hS hl
  have hl : lv_has ls 2 [(0, .ref ((ad 0)))] := hl
  have hts : ∀ w ∈ rg_tbl, w.before args s = true := fun w h => hts w (List.mem_cons_of_mem _ h)
  have hok := hrep.1
  have hn1 : 1 ≤ n := hok.1
  have hn60 : n ≤ 60 := hok.2.1
  have hb4 : b < 4 := hok.2.2.2.2.2.2.2.1
  have hTb : T b < n := (hok.2.2.2.2.2.2.1 b hb4).1
  have hpt : pt b = nI (T b) := (hrep.2.2.2.2.2.2 b hb4).1
  have hyc : rg_CR (rec (T b)) (Rr (T b)) := hrep.2.2.2.2.1 (T b) hTb
  refine lv_aload_n hx hb dG_prune_0 rfl (lv_at hl 0 rfl) ?_
  refine va_get (D := (dC, dI)) (ci := 1) (C := "RevisionGrove") (T := TG) (N := 4) hx hb hts inG hown hK hP 0 rfl rfl 0 (by decide) (hts _ tw_86) (fun _ h9 => h9) rfl dG_prune_1 ?_
  refine rg_calli hD hS hA (va_runV (As := []) (rest := []) ⟨hx, hb, hml, hown, hts⟩ (c_R_count _) (cwV 0 hts (rg_gV tw_107 tw_108 tw_109 tw_2 tw_110) rfl rfl rfl (by decide +kernel) ⟨by rw [hR]; exact Nat.le_of_ble_eq_true rfl, by rw [hR]; exact Nat.le_of_ble_eq_true rfl⟩) (rg_preV rfl hK hP hD (ci := 2) (q0 := 1) rfl rfl) rfl rfl hl.1 rfl (lv_room (Nat.le_of_ble_eq_true rfl)) dG_prune_4 ⟨Nat.zero_le _, Nat.zero_le _⟩) (fun r1 u2 H locs hw3 hP hD hS => ?_)
  subst hw3
  have hP : va_P (dC, dI) rg_cl (gw_W ad fo fa ur cI cL cF cA rec fp sp an nn (nI n) pt un uc (nI b) lc) H := hP
  have hD : va_D A (gw_W ad fo fa ur cI cL cF cA rec fp sp an nn (nI n) pt un uc (nI b) lc) := hD
  refine lv_istore_n (lv' := [(1, .int (nI n)), (0, .ref ((ad 0)))]) hx hb dG_prune_7 rfl hl (by decide) rfl (fun ls hl => ?_)
  refine lv_aload_n hx hb dG_prune_8 rfl (lv_at hl 1 rfl) ?_
  refine va_get (D := (dC, dI)) (ci := 1) (C := "RevisionGrove") (T := TG) (N := 4) hx hb hts inG hown hK hP 0 rfl rfl 0 (by decide) (hts _ tw_86) (fun _ h9 => h9) rfl dG_prune_9 ?_
  refine lv_aload_n hx hb dG_prune_12 rfl (lv_at hl 1 rfl) ?_
  refine va_get (D := (dC, dI)) (ci := 1) (C := "RevisionGrove") (T := TG) (N := 4) hx hb hts inG hown hK hP 0 rfl rfl 1 (by decide) (hts _ tw_87) (fun _ h9 => h9) rfl dG_prune_13 ?_
  refine lv_aload_n hx hb dG_prune_16 rfl (lv_at hl 1 rfl) ?_
  refine va_get (D := (dC, dI)) (ci := 1) (C := "RevisionGrove") (T := TG) (N := 4) hx hb hts inG hown hK hP 0 rfl rfl 0 (by decide) (hts _ tw_86) (fun _ h9 => h9) rfl dG_prune_17 ?_
  refine rg_calll hD hS hA (va_runV (As := [.ref ((ad 1))]) (rest := [.ref ((ad 1))]) ⟨hx, hb, hml, hown, hts⟩ (c_B_needed n b Rr P1 P2 T U hrep _) (cwV 1 hts (rg_gV tw_111 tw_112 tw_113 tw_4 tw_114) rfl rfl rfl (by decide +kernel) ⟨by rw [hR]; exact Nat.le_of_ble_eq_true rfl, by rw [hR]; exact Nat.le_of_ble_eq_true rfl⟩) (rg_preV rfl hK hP hD (ci := 3) (q0 := 2) rfl rfl) rfl rfl hl.1 rfl (lv_room (Nat.le_of_ble_eq_true rfl)) dG_prune_20 ⟨Nat.zero_le _, Nat.zero_le _⟩) (fun r4 u5 H locs hw6 hP hD hS => ?_)
  have hP : va_P (dC, dI) rg_cl (gw_W ad fo fa ur cI cL cF cA rec fp sp an nn (nI n) pt un uc (nI b) lc) H := hP
  have hD : va_D A (gw_W ad fo fa ur cI cL cF cA rec fp sp an nn (nI n) pt un uc (nI b) lc) := hD
  obtain ⟨K, hKe⟩ : ∃ K, K = rg_kp (n, Rr, P1, P2, T, U, b, lc) := ⟨_, rfl⟩
  have hKz : rg_has r4 = K := hw6.trans hKe.symm
  have hcl : ∀ r p, K r = true → p < r → (P1 r = nI p ∨ P2 r = nI p) → K p = true := fun r p h1 h2 h3 => by rw [hKe] at h1 ⊢; exact rg_kp_par h1 h2 h3
  refine rg_callv hD hS hA (va_runV (As := [.long r4]) (rest := []) ⟨hx, hb, hml, hown, hts⟩ (c_R_keepOnly n b Rr P1 P2 T U r4 K hKz (fun r p => hcl r p) hrep _) (cwV 1 hts (rg_gV tw_119 tw_120 tw_121 tw_2 tw_122) rfl rfl rfl (by decide +kernel) ⟨by rw [hR]; exact Nat.le_of_ble_eq_true rfl, by rw [hR]; exact Nat.le_of_ble_eq_true rfl⟩) (rg_preV rfl hK hP hD (ci := 2) (q0 := 1) rfl rfl) rfl rfl hl.1 rfl (lv_room (Nat.le_of_ble_eq_true rfl)) dG_prune_23 ⟨Nat.zero_le _, Nat.zero_le _⟩) (fun u8 H locs hw9 hP hD hS => ?_)
  obtain ⟨rec9, fp9, sp9, an9, nn9⟩ := u8
  have hPI : gw_PI (n, Rr, P1, P2, T, U, b, lc) K n rec9 fp9 sp9 an9 nn9 := hw9
  have hP : va_P (dC, dI) rg_cl (gw_W ad fo fa ur cI cL cF cA rec9 fp9 sp9 an9 nn9 (nI (rg_rk K n)) pt un uc (nI b) lc) H := hP
  have hD : va_D A (gw_W ad fo fa ur cI cL cF cA rec9 fp9 sp9 an9 nn9 (nI (rg_rk K n)) pt un uc (nI b) lc) := hD
  refine lv_aload_n hx hb dG_prune_26 rfl (lv_at hl 1 rfl) ?_
  refine va_get (D := (dC, dI)) (ci := 1) (C := "RevisionGrove") (T := TG) (N := 4) hx hb hts inG hown hK hP 0 rfl rfl 1 (by decide) (hts _ tw_87) (fun _ h9 => h9) rfl dG_prune_27 ?_
  refine lv_aload_n hx hb dG_prune_30 rfl (lv_at hl 1 rfl) ?_
  refine va_get (D := (dC, dI)) (ci := 1) (C := "RevisionGrove") (T := TG) (N := 4) hx hb hts inG hown hK hP 0 rfl rfl 0 (by decide) (hts _ tw_86) (fun _ h9 => h9) rfl dG_prune_31 ?_
  have hrk9 := rg_rk_le K n
  have hRT0 : rm_RT T K 0 pt := fun c9 h9 => by rw [if_neg (Nat.not_lt_zero c9)]; exact (hrep.2.2.2.2.2.2 c9 h9).1
  have hRU0 : gw_RU U K 0 0 un := fun c9 i9 h9 h8 => by rw [if_neg (by omega)]; exact (hrep.2.2.2.2.2.2 c9 h9).2.2 i9 h8
  have hKT : ∀ b, b < 4 → T b < n ∧ K (T b) = true := fun b9 h9 => ⟨(hok.2.2.2.2.2.2.1 b9 h9).1, by rw [hKe]; exact rg_kp_nd ⟨b9, h9, Or.inl rfl⟩⟩
  have hKU : ∀ b, b < 4 → ∀ u, u ∈ U b → u < n ∧ K u = true := fun b9 h9 u h8 => ⟨(hok.2.2.2.2.2.2.1 b9 h9).2.1 u h8, by rw [hKe]; exact rg_kp_nd ⟨b9, h9, Or.inr h8⟩⟩
  refine rg_callv hD hS hA (va_runV (As := [.ref ((ad 1))]) (rest := []) ⟨hx, hb, hml, hown, hts⟩ (c_B_renumber n (by omega) T U K hRT0 hRU0 (fun b9 h9 => (hrep.2.2.2.2.2.2 b9 h9).2.1) (gw_ulen hrep) hPI.2.2 hKT hKU _) (cwV 1 hts (rg_gV tw_145 tw_146 tw_147 tw_4 tw_148) rfl rfl rfl (by decide +kernel) ⟨by rw [hR]; exact Nat.le_of_ble_eq_true rfl, by rw [hR]; exact Nat.le_of_ble_eq_true rfl⟩) (rg_preV rfl hK hP hD (ci := 3) (q0 := 2) rfl rfl) rfl rfl hl.1 rfl (lv_room (Nat.le_of_ble_eq_true rfl)) dG_prune_34 ⟨Nat.zero_le _, Nat.zero_le _⟩) (fun u11 H locs hw12 hP hD hS => ?_)
  obtain ⟨pt9, un9⟩ := u11
  obtain ⟨hRT, hRU⟩ := hw12
  have hP : va_P (dC, dI) rg_cl (gw_W ad fo fa ur cI cL cF cA rec9 fp9 sp9 an9 nn9 (nI (rg_rk K n)) pt9 un9 uc (nI b) lc) H := hP
  have hD : va_D A (gw_W ad fo fa ur cI cL cF cA rec9 fp9 sp9 an9 nn9 (nI (rg_rk K n)) pt9 un9 uc (nI b) lc) := hD
  refine lv_iload_n hx hb dG_prune_37 rfl (lv_at hl 0 rfl) ?_
  refine lv_aload_n hx hb dG_prune_38 rfl (lv_at hl 1 rfl) ?_
  refine va_get (D := (dC, dI)) (ci := 1) (C := "RevisionGrove") (T := TG) (N := 4) hx hb hts inG hown hK hP 0 rfl rfl 0 (by decide) (hts _ tw_86) (fun _ h9 => h9) rfl dG_prune_39 ?_
  refine rg_calli hD hS hA (va_runV (As := []) (rest := [.int (nI n)]) ⟨hx, hb, hml, hown, hts⟩ (c_R_count _) (cwV 0 hts (rg_gV tw_107 tw_108 tw_109 tw_2 tw_110) rfl rfl rfl (by decide +kernel) ⟨by rw [hR]; exact Nat.le_of_ble_eq_true rfl, by rw [hR]; exact Nat.le_of_ble_eq_true rfl⟩) (rg_preV rfl hK hP hD (ci := 2) (q0 := 1) rfl rfl) rfl rfl hl.1 rfl (lv_room (Nat.le_of_ble_eq_true rfl)) dG_prune_42 ⟨Nat.zero_le _, Nat.zero_le _⟩) (fun r13 u14 H locs hw15 hP hD hS => ?_)
  subst hw15
  have hP : va_P (dC, dI) rg_cl (gw_W ad fo fa ur cI cL cF cA rec9 fp9 sp9 an9 nn9 (nI (rg_rk K n)) pt9 un9 uc (nI b) lc) H := hP
  have hD : va_D A (gw_W ad fo fa ur cI cL cF cA rec9 fp9 sp9 an9 nn9 (nI (rg_rk K n)) pt9 un9 uc (nI b) lc) := hD
  refine rg_isub hx hb dG_prune_45 (by omega) ?_
  rw [hQ]
  exact rg_iret hx hb hr hlk hK hP hD hS dG_prune_46 (rec9, fp9, sp9, an9, nn9, nI (rg_rk K n), pt9, un9, uc, nI b, lc) rfl (⟨gw_Rep_prune (g := (n, Rr, P1, P2, T, U, b, lc)) hKe hrep hPI hRT hRU, rfl, by rw [hKe]; rfl⟩)
