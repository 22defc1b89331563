theorem rg_rot {α : Type} {a t : List α} {x : α} : List.Perm ((a ++ t) ++ [x]) ((a ++ [x]) ++ t) := by
  rw [List.append_assoc, List.append_assoc]
  exact List.Perm.append_left a List.perm_append_comm
theorem gw_pm1 {α : Type} (L A B : List α) (x y : α) : List.Perm ([x, y] ++ (L ++ (A ++ B))) (L ++ ((A ++ [x]) ++ (B ++ [y]))) := by
  classical
  rw [List.perm_iff_count]
  intro z
  simp only [List.count_append, List.count_cons, List.count_nil]
  omega
def gw_rf (fo : Nat → Nat) (k : Nat) : Nat → Option Nat := fun i => if i < k then some (fo i) else none
theorem gw_rf_0 {fo : Nat → Nat} : gw_rf fo 0 = fun _ => none := by
  funext i
  simp [gw_rf]
theorem gw_rf_s {fo : Nat → Nat} {k q : Nat} : va_up (gw_rf fo k) k (some q) = gw_rf (va_up fo k q) (k + 1) := by
  funext i
  by_cases e : i = k
  · rw [e, rg_ups]; simp [gw_rf, rg_ups]
  · rw [rg_upn _ _ e]
    unfold gw_rf
    rw [rg_upn _ _ e]
    by_cases h : i < k
    · rw [if_pos h, if_pos (by omega)]
    · rw [if_neg h, if_neg (by omega)]
def gw_fl (fo fa : Nat → Nat) (cL : ClassId) (k : Nat) : va_W := (List.range k).map (fun i => (fo i, .inr (4, [.ref (fa i)]))) ++ (List.range k).map (fun i => (fa i, .inl (cL, 24, .inr (.inl (fun _ => 0)))))
theorem gw_fl_s {fo fa : Nat → Nat} {cL : ClassId} {k q q2 : Nat} {L : va_W} : List.Perm ([(q, .inr (4, [.ref q2])), (q2, .inl (cL, 24, .inr (.inl (fun _ => 0))))] ++ (L ++ gw_fl fo fa cL k)) (L ++ gw_fl (va_up fo k q) (va_up fa k q2) cL (k + 1)) := by
  have e1 : (List.range (k + 1)).map (fun i => ((va_up fo k q i, .inr (4, [.ref (va_up fa k q2 i)])) : Nat × va_E)) = (List.range k).map (fun i => (fo i, .inr (4, [.ref (fa i)]))) ++ [(q, .inr (4, [.ref q2]))] := by
    rw [List.range_succ, List.map_append]
    congr 1
    · refine List.map_congr_left (fun i hi => ?_)
      have := List.mem_range.mp hi
      rw [rg_upn _ _ (by omega), rg_upn _ _ (by omega)]
    · simp only [List.map_cons, List.map_nil, rg_ups]
  have e2 : (List.range (k + 1)).map (fun i => ((va_up fa k q2 i, .inl (cL, 24, .inr (.inl (fun _ => 0)))) : Nat × va_E)) = (List.range k).map (fun i => (fa i, .inl (cL, 24, .inr (.inl (fun _ => 0))))) ++ [(q2, .inl (cL, 24, .inr (.inl (fun _ => 0))))] := by
    rw [List.range_succ, List.map_append]
    congr 1
    · refine List.map_congr_left (fun i hi => ?_)
      have := List.mem_range.mp hi
      rw [rg_upn _ _ (by omega)]
    · simp only [List.map_cons, List.map_nil, rg_ups]
  unfold gw_fl
  rw [e1, e2]
  generalize (List.range k).map (fun i => ((fo i, .inr (4, [.ref (fa i)])) : Nat × va_E)) = A
  generalize (List.range k).map (fun i => ((fa i, .inl (cL, 24, .inr (.inl (fun _ => 0)))) : Nat × va_E)) = B
  generalize ((q, .inr (4, [.ref q2])) : Nat × va_E) = x
  generalize ((q2, .inl (cL, 24, .inr (.inl (fun _ => 0)))) : Nat × va_E) = y
  exact gw_pm1 L A B x y
def gw_BW (a9 : Nat) (cI cA : ClassId) (v : Nat × Nat × Nat × (Nat → Nat)) : va_W := [(a9, .inr (3, [.ref (v.1), .ref (v.2.1), .ref (v.2.2.1), .int 0])), (v.1, .inl (cI, 4, .inl (fun _ => 0))), (v.2.1, .inl (cA, 4, .inr (.inr (.inr (.inr (fun i => if i < 4 then some (v.2.2.2 i) else none)))))), (v.2.2.1, .inl (cI, 4, .inl (fun _ => 0)))] ++ gw_rows v.2.2.2 cI (fun _ _ => 0)
set_option maxHeartbeats 4000000 in
set_option maxRecDepth 100000 in
theorem c_B_init {l : Launch} {dC : Nat → ClassId} {dI : Nat → Nat → Nat} {cI cL cF cA : ClassId} {a9 : Nat} : rk_M l yB_init (Cond.code yB_init prog_2_method_1_code 1 none :: rg_tbl) { frames := 1, cells := 7, slots := 252, locals := 30 } (dC, dI) rg_cl (gw_tys cI cL cF cA) ([(a9, .inr (3, [.null, .null, .null, .int 0]))]) [.ref a9] (rg_QV (dC, dI) rg_cl (gw_tys cI cL cF cA) (S := (Nat × Nat × Nat × (Nat → Nat))) (fun _ => True) (fun v => gw_BW a9 cI cA v)) 7 252 := by
  refine rk_of prog_2_method_1_code 1 none (by decide) rfl (Nat.le_of_ble_eq_true rfl) ?_
  intro p e R s m args below meth c Q A H locs ls hR hQ hx hb hml hr hts hown hlk hnm hao hP hK hD hA hS hl
  have hl : lv_has ls 1 [(0, .ref a9)] := hl
  have hts : ∀ w ∈ rg_tbl, w.before args s = true := fun w h => hts w (List.mem_cons_of_mem _ h)
  refine lv_aload_n hx hb dB_init_0 rfl (lv_at hl 0 rfl) ?_
  refine W.objInit hx hb hown (hts _ tw_68) (hts _ tw_23) (hts _ tw_24) rfl (by rw [hml]; exact hl.1) rfl dB_init_1 (by rw [hR]; exact Nat.le_of_ble_eq_true rfl) (by rw [hR]; exact Nat.le_of_ble_eq_true rfl) ?_
  refine W.eq (g2 := F0 m 4 ls []) rfl ?_
  refine lv_aload_n hx hb dB_init_4 rfl (lv_at hl 0 rfl) ?_
  refine lv_iconst (v := nI 4) hx hb dB_init_5 (by decide) ?_
  refine rg_newa (atype := .int) (ty := .int) (a0 := (4, .inl (fun _ => 0))) hx hb (hts _ tw_42) rfl 0 rfl hK hP hD hS hA (fun _ => rfl) (by decide) (by decide) (by decide) (by rw [hR]; exact Nat.le_of_ble_eq_true rfl) (by rw [hR]; exact Nat.le_of_ble_eq_true rfl) dB_init_6 (fun q1 H hP hD hS => ?_)
  have hP : va_P (dC, dI) rg_cl ([(a9, .inr (3, [.null, .null, .null, .int 0])), (q1, .inl (cI, 4, .inl (fun _ => 0)))]) H := hP
  have hD : va_D A ([(a9, .inr (3, [.null, .null, .null, .int 0])), (q1, .inl (cI, 4, .inl (fun _ => 0)))]) := hD
  refine va_putF (D := (dC, dI)) (ci := 3) (v := .ref q1) (ty := tyB 0) (C := "RevisionGrove$Branches") (T := TB) (N := 4) hx hb hts inB tyB tyB_ok nmB hown hK hP hD hS 0 rfl rfl 0 (by decide) (hts _ tw_71) (fun _ h9 => h9) rfl hnm rfl (tyB_ok 0 (by decide)) rfl rfl (Nat.le_of_ble_eq_true rfl) dB_init_8 (fun H locs hP hD hS => ?_)
  have hP : va_P (dC, dI) rg_cl ([(a9, .inr (3, [.ref q1, .null, .null, .int 0])), (q1, .inl (cI, 4, .inl (fun _ => 0)))]) H := hP
  have hD : va_D A ([(a9, .inr (3, [.ref q1, .null, .null, .int 0])), (q1, .inl (cI, 4, .inl (fun _ => 0)))]) := hD
  refine lv_aload_n hx hb dB_init_11 rfl (lv_at hl 0 rfl) ?_
  refine lv_iconst (v := nI 4) hx hb dB_init_12 (by decide) ?_
  refine lv_bipush (v := nI 60) hx hb dB_init_13 (by decide) ?_
  refine rg_mna (X := [(a9, .inr (3, [.ref q1, .null, .null, .int 0])), (q1, .inl (cI, 4, .inl (fun _ => 0)))]) hx hb hown (hts _ tw_69) hao.2.1 (hts _ tw_42) 3 0 rfl rfl hK hP hD hS hA (by rw [hR]; exact Nat.le_of_ble_eq_true rfl) (by rw [hR]; exact Nat.le_of_ble_eq_true rfl) dB_init_15 (fun q9 r9 H hP hD hS => ?_)
  have hP : va_P (dC, dI) rg_cl ([(a9, .inr (3, [.ref q1, .null, .null, .int 0])), (q1, .inl (cI, 4, .inl (fun _ => 0))), (q9, .inl (cA, 4, .inr (.inr (.inr (.inr (fun i => if i < 4 then some (r9 i) else none))))))] ++ (gw_rows r9 cI (fun _ _ => 0))) H := hP
  have hD : va_D A ([(a9, .inr (3, [.ref q1, .null, .null, .int 0])), (q1, .inl (cI, 4, .inl (fun _ => 0))), (q9, .inl (cA, 4, .inr (.inr (.inr (.inr (fun i => if i < 4 then some (r9 i) else none))))))] ++ (gw_rows r9 cI (fun _ _ => 0))) := hD
  refine va_putF (D := (dC, dI)) (ci := 3) (v := .ref q9) (ty := tyB 1) (C := "RevisionGrove$Branches") (T := TB) (N := 4) hx hb hts inB tyB tyB_ok nmB hown hK hP hD hS 0 rfl rfl 1 (by decide) (hts _ tw_72) (fun _ h9 => h9) rfl hnm rfl (tyB_ok 1 (by decide)) rfl rfl (Nat.le_of_ble_eq_true rfl) dB_init_19 (fun H locs hP hD hS => ?_)
  have hP : va_P (dC, dI) rg_cl ([(a9, .inr (3, [.ref q1, .ref q9, .null, .int 0])), (q1, .inl (cI, 4, .inl (fun _ => 0))), (q9, .inl (cA, 4, .inr (.inr (.inr (.inr (fun i => if i < 4 then some (r9 i) else none))))))] ++ (gw_rows r9 cI (fun _ _ => 0))) H := hP
  have hD : va_D A ([(a9, .inr (3, [.ref q1, .ref q9, .null, .int 0])), (q1, .inl (cI, 4, .inl (fun _ => 0))), (q9, .inl (cA, 4, .inr (.inr (.inr (.inr (fun i => if i < 4 then some (r9 i) else none))))))] ++ (gw_rows r9 cI (fun _ _ => 0))) := hD
  refine lv_aload_n hx hb dB_init_22 rfl (lv_at hl 0 rfl) ?_
  refine lv_iconst (v := nI 4) hx hb dB_init_23 (by decide) ?_
  refine rg_newa (atype := .int) (ty := .int) (a0 := (4, .inl (fun _ => 0))) hx hb (hts _ tw_42) rfl 0 rfl hK hP hD hS hA (fun _ => rfl) (by decide) (by decide) (by decide) (by rw [hR]; exact Nat.le_of_ble_eq_true rfl) (by rw [hR]; exact Nat.le_of_ble_eq_true rfl) dB_init_24 (fun q8 H hP hD hS => ?_)
  have hP := rg_P_perm rg_rot hP
  have hD := rg_D_perm rg_rot hD
  have hP : va_P (dC, dI) rg_cl ([(a9, .inr (3, [.ref q1, .ref q9, .null, .int 0])), (q1, .inl (cI, 4, .inl (fun _ => 0))), (q9, .inl (cA, 4, .inr (.inr (.inr (.inr (fun i => if i < 4 then some (r9 i) else none)))))), (q8, .inl (cI, 4, .inl (fun _ => 0)))] ++ (gw_rows r9 cI (fun _ _ => 0))) H := hP
  have hD : va_D A ([(a9, .inr (3, [.ref q1, .ref q9, .null, .int 0])), (q1, .inl (cI, 4, .inl (fun _ => 0))), (q9, .inl (cA, 4, .inr (.inr (.inr (.inr (fun i => if i < 4 then some (r9 i) else none)))))), (q8, .inl (cI, 4, .inl (fun _ => 0)))] ++ (gw_rows r9 cI (fun _ _ => 0))) := hD
  refine va_putF (D := (dC, dI)) (ci := 3) (v := .ref q8) (ty := tyB 2) (C := "RevisionGrove$Branches") (T := TB) (N := 4) hx hb hts inB tyB tyB_ok nmB hown hK hP hD hS 0 rfl rfl 2 (by decide) (hts _ tw_73) (fun _ h9 => h9) rfl hnm rfl (tyB_ok 2 (by decide)) rfl rfl (Nat.le_of_ble_eq_true rfl) dB_init_26 (fun H locs hP hD hS => ?_)
  have hP : va_P (dC, dI) rg_cl ([(a9, .inr (3, [.ref q1, .ref q9, .ref q8, .int 0])), (q1, .inl (cI, 4, .inl (fun _ => 0))), (q9, .inl (cA, 4, .inr (.inr (.inr (.inr (fun i => if i < 4 then some (r9 i) else none)))))), (q8, .inl (cI, 4, .inl (fun _ => 0)))] ++ (gw_rows r9 cI (fun _ _ => 0))) H := hP
  have hD : va_D A ([(a9, .inr (3, [.ref q1, .ref q9, .ref q8, .int 0])), (q1, .inl (cI, 4, .inl (fun _ => 0))), (q9, .inl (cA, 4, .inr (.inr (.inr (.inr (fun i => if i < 4 then some (r9 i) else none)))))), (q8, .inl (cI, 4, .inl (fun _ => 0)))] ++ (gw_rows r9 cI (fun _ _ => 0))) := hD
  rw [hQ]
  exact rg_vret hx hb hr hlk hK hP hD hS dB_init_29 (q1, q9, q8, r9) rfl trivial
def gw_RW (a9 : Nat) (cI cL cF : ClassId) (v : (Nat → Nat) × (Nat → Nat) × (Nat → Nat)) : va_W := [(a9, .inr (2, [.ref (v.1 3), .ref (v.1 4), .ref (v.1 5), .ref (v.1 6), .ref (v.1 7), .int (nI 1)])), (v.1 3, .inl (cF, 60, .inr (.inr (.inr (.inr (gw_rf v.2.1 60)))))), (v.1 4, .inl (cI, 60, .inl (upd (fun _ => 0) 0 (-1)))), (v.1 5, .inl (cI, 60, .inl (upd (fun _ => 0) 0 (-1)))), (v.1 6, .inl (cL, 60, .inr (.inl (vp_updL (fun _ => 0) 0 (1 : Int64))))), (v.1 7, .inl (cI, 60, .inl (fun _ => 0)))] ++ gw_fl v.2.1 v.2.2 cL 60
set_option maxHeartbeats 4000000 in
set_option maxRecDepth 100000 in
theorem c_R_init {l : Launch} {dC : Nat → ClassId} {dI : Nat → Nat → Nat} {cI cL cF cA : ClassId} {a9 : Nat} : rk_M l yR_init (Cond.code yR_init prog_6_method_1_code 2 none :: rg_tbl) { frames := 2, cells := 125, slots := 1800, locals := 60 } (dC, dI) rg_cl (gw_tys cI cL cF cA) ([(a9, .inr (2, [.null, .null, .null, .null, .null, .int 0]))]) [.ref a9] (rg_QV (dC, dI) rg_cl (gw_tys cI cL cF cA) (S := ((Nat → Nat) × (Nat → Nat) × (Nat → Nat))) (fun _ => True) (fun v => gw_RW a9 cI cL cF v)) 125 1800 := by
  refine rk_of prog_6_method_1_code 2 none (by decide) rfl (Nat.le_of_ble_eq_true rfl) ?_
  intro p e R s m args below meth c Q A H locs ls hR hQ hx hb hml hr hts hown hlk hnm hao hP hK hD hA hS hl
  have hl : lv_has ls 2 [(0, .ref a9)] := hl
  have hts : ∀ w ∈ rg_tbl, w.before args s = true := fun w h => hts w (List.mem_cons_of_mem _ h)
  refine lv_aload_n hx hb dR_init_0 rfl (lv_at hl 0 rfl) ?_
  refine W.objInit hx hb hown (hts _ tw_30) (hts _ tw_23) (hts _ tw_24) rfl (by rw [hml]; exact hl.1) rfl dR_init_1 (by rw [hR]; exact Nat.le_of_ble_eq_true rfl) (by rw [hR]; exact Nat.le_of_ble_eq_true rfl) ?_
  refine W.eq (g2 := F0 m 4 ls []) rfl ?_
  refine lv_aload_n hx hb dR_init_4 rfl (lv_at hl 0 rfl) ?_
  refine lv_bipush (v := nI 60) hx hb dR_init_5 (by decide) ?_
  refine rg_newq (N' := 60) (C := "RevisionGrove$Fields") hx hb hown (hts _ tw_31) hao.1 2 rfl hK hP hD hS hA (by decide) (by decide) (by decide) (by rw [hR]; exact Nat.le_of_ble_eq_true rfl) (by rw [hR]; exact Nat.le_of_ble_eq_true rfl) dR_init_7 (fun q9 H hP hD hS => ?_)
  have hP : va_P (dC, dI) rg_cl ([(a9, .inr (2, [.null, .null, .null, .null, .null, .int 0])), (q9, .inl (cF, 60, .inr (.inr (.inr (.inr (fun _ => none))))))]) H := hP
  have hD : va_D A ([(a9, .inr (2, [.null, .null, .null, .null, .null, .int 0])), (q9, .inl (cF, 60, .inr (.inr (.inr (.inr (fun _ => none))))))]) := hD
  refine va_putF (D := (dC, dI)) (ci := 2) (v := .ref q9) (ty := tyR 0) (C := "RevisionGrove$Revisions") (T := TR) (N := 6) hx hb hts inR tyR tyR_ok nmR hown hK hP hD hS 0 rfl rfl 0 (by decide) (hts _ tw_44) (fun _ h9 => h9) rfl hnm rfl (tyR_ok 0 (by decide)) rfl rfl (Nat.le_of_ble_eq_true rfl) dR_init_10 (fun H locs hP hD hS => ?_)
  have hP : va_P (dC, dI) rg_cl ([(a9, .inr (2, [.ref q9, .null, .null, .null, .null, .int 0])), (q9, .inl (cF, 60, .inr (.inr (.inr (.inr (fun _ => none))))))]) H := hP
  have hD : va_D A ([(a9, .inr (2, [.ref q9, .null, .null, .null, .null, .int 0])), (q9, .inl (cF, 60, .inr (.inr (.inr (.inr (fun _ => none))))))]) := hD
  refine lv_aload_n hx hb dR_init_13 rfl (lv_at hl 0 rfl) ?_
  refine lv_bipush (v := nI 60) hx hb dR_init_14 (by decide) ?_
  refine rg_newa (atype := .int) (ty := .int) (a0 := (60, .inl (fun _ => 0))) hx hb (hts _ tw_42) rfl 0 rfl hK hP hD hS hA (fun _ => rfl) (by decide) (by decide) (by decide) (by rw [hR]; exact Nat.le_of_ble_eq_true rfl) (by rw [hR]; exact Nat.le_of_ble_eq_true rfl) dR_init_16 (fun q1 H hP hD hS => ?_)
  have hP : va_P (dC, dI) rg_cl ([(a9, .inr (2, [.ref q9, .null, .null, .null, .null, .int 0])), (q9, .inl (cF, 60, .inr (.inr (.inr (.inr (fun _ => none)))))), (q1, .inl (cI, 60, .inl (fun _ => 0)))]) H := hP
  have hD : va_D A ([(a9, .inr (2, [.ref q9, .null, .null, .null, .null, .int 0])), (q9, .inl (cF, 60, .inr (.inr (.inr (.inr (fun _ => none)))))), (q1, .inl (cI, 60, .inl (fun _ => 0)))]) := hD
  refine va_putF (D := (dC, dI)) (ci := 2) (v := .ref q1) (ty := tyR 1) (C := "RevisionGrove$Revisions") (T := TR) (N := 6) hx hb hts inR tyR tyR_ok nmR hown hK hP hD hS 0 rfl rfl 1 (by decide) (hts _ tw_45) (fun _ h9 => h9) rfl hnm rfl (tyR_ok 1 (by decide)) rfl rfl (Nat.le_of_ble_eq_true rfl) dR_init_18 (fun H locs hP hD hS => ?_)
  have hP : va_P (dC, dI) rg_cl ([(a9, .inr (2, [.ref q9, .ref q1, .null, .null, .null, .int 0])), (q9, .inl (cF, 60, .inr (.inr (.inr (.inr (fun _ => none)))))), (q1, .inl (cI, 60, .inl (fun _ => 0)))]) H := hP
  have hD : va_D A ([(a9, .inr (2, [.ref q9, .ref q1, .null, .null, .null, .int 0])), (q9, .inl (cF, 60, .inr (.inr (.inr (.inr (fun _ => none)))))), (q1, .inl (cI, 60, .inl (fun _ => 0)))]) := hD
  refine lv_aload_n hx hb dR_init_21 rfl (lv_at hl 0 rfl) ?_
  refine lv_bipush (v := nI 60) hx hb dR_init_22 (by decide) ?_
  refine rg_newa (atype := .int) (ty := .int) (a0 := (60, .inl (fun _ => 0))) hx hb (hts _ tw_42) rfl 0 rfl hK hP hD hS hA (fun _ => rfl) (by decide) (by decide) (by decide) (by rw [hR]; exact Nat.le_of_ble_eq_true rfl) (by rw [hR]; exact Nat.le_of_ble_eq_true rfl) dR_init_24 (fun q2 H hP hD hS => ?_)
  have hP : va_P (dC, dI) rg_cl ([(a9, .inr (2, [.ref q9, .ref q1, .null, .null, .null, .int 0])), (q9, .inl (cF, 60, .inr (.inr (.inr (.inr (fun _ => none)))))), (q1, .inl (cI, 60, .inl (fun _ => 0))), (q2, .inl (cI, 60, .inl (fun _ => 0)))]) H := hP
  have hD : va_D A ([(a9, .inr (2, [.ref q9, .ref q1, .null, .null, .null, .int 0])), (q9, .inl (cF, 60, .inr (.inr (.inr (.inr (fun _ => none)))))), (q1, .inl (cI, 60, .inl (fun _ => 0))), (q2, .inl (cI, 60, .inl (fun _ => 0)))]) := hD
  refine va_putF (D := (dC, dI)) (ci := 2) (v := .ref q2) (ty := tyR 2) (C := "RevisionGrove$Revisions") (T := TR) (N := 6) hx hb hts inR tyR tyR_ok nmR hown hK hP hD hS 0 rfl rfl 2 (by decide) (hts _ tw_46) (fun _ h9 => h9) rfl hnm rfl (tyR_ok 2 (by decide)) rfl rfl (Nat.le_of_ble_eq_true rfl) dR_init_26 (fun H locs hP hD hS => ?_)
  have hP : va_P (dC, dI) rg_cl ([(a9, .inr (2, [.ref q9, .ref q1, .ref q2, .null, .null, .int 0])), (q9, .inl (cF, 60, .inr (.inr (.inr (.inr (fun _ => none)))))), (q1, .inl (cI, 60, .inl (fun _ => 0))), (q2, .inl (cI, 60, .inl (fun _ => 0)))]) H := hP
  have hD : va_D A ([(a9, .inr (2, [.ref q9, .ref q1, .ref q2, .null, .null, .int 0])), (q9, .inl (cF, 60, .inr (.inr (.inr (.inr (fun _ => none)))))), (q1, .inl (cI, 60, .inl (fun _ => 0))), (q2, .inl (cI, 60, .inl (fun _ => 0)))]) := hD
  refine lv_aload_n hx hb dR_init_29 rfl (lv_at hl 0 rfl) ?_
  refine lv_bipush (v := nI 60) hx hb dR_init_30 (by decide) ?_
  refine rg_newa (atype := .long) (ty := .long) (a0 := (60, .inr (.inl (fun _ => 0)))) hx hb (hts _ tw_43) rfl 1 rfl hK hP hD hS hA (fun _ => rfl) (by decide) (by decide) (by decide) (by rw [hR]; exact Nat.le_of_ble_eq_true rfl) (by rw [hR]; exact Nat.le_of_ble_eq_true rfl) dR_init_32 (fun q3 H hP hD hS => ?_)
  have hP : va_P (dC, dI) rg_cl ([(a9, .inr (2, [.ref q9, .ref q1, .ref q2, .null, .null, .int 0])), (q9, .inl (cF, 60, .inr (.inr (.inr (.inr (fun _ => none)))))), (q1, .inl (cI, 60, .inl (fun _ => 0))), (q2, .inl (cI, 60, .inl (fun _ => 0))), (q3, .inl (cL, 60, .inr (.inl (fun _ => 0))))]) H := hP
  have hD : va_D A ([(a9, .inr (2, [.ref q9, .ref q1, .ref q2, .null, .null, .int 0])), (q9, .inl (cF, 60, .inr (.inr (.inr (.inr (fun _ => none)))))), (q1, .inl (cI, 60, .inl (fun _ => 0))), (q2, .inl (cI, 60, .inl (fun _ => 0))), (q3, .inl (cL, 60, .inr (.inl (fun _ => 0))))]) := hD
  refine va_putF (D := (dC, dI)) (ci := 2) (v := .ref q3) (ty := tyR 3) (C := "RevisionGrove$Revisions") (T := TR) (N := 6) hx hb hts inR tyR tyR_ok nmR hown hK hP hD hS 0 rfl rfl 3 (by decide) (hts _ tw_47) (fun _ h9 => h9) rfl hnm rfl (tyR_ok 3 (by decide)) rfl rfl (Nat.le_of_ble_eq_true rfl) dR_init_34 (fun H locs hP hD hS => ?_)
  have hP : va_P (dC, dI) rg_cl ([(a9, .inr (2, [.ref q9, .ref q1, .ref q2, .ref q3, .null, .int 0])), (q9, .inl (cF, 60, .inr (.inr (.inr (.inr (fun _ => none)))))), (q1, .inl (cI, 60, .inl (fun _ => 0))), (q2, .inl (cI, 60, .inl (fun _ => 0))), (q3, .inl (cL, 60, .inr (.inl (fun _ => 0))))]) H := hP
  have hD : va_D A ([(a9, .inr (2, [.ref q9, .ref q1, .ref q2, .ref q3, .null, .int 0])), (q9, .inl (cF, 60, .inr (.inr (.inr (.inr (fun _ => none)))))), (q1, .inl (cI, 60, .inl (fun _ => 0))), (q2, .inl (cI, 60, .inl (fun _ => 0))), (q3, .inl (cL, 60, .inr (.inl (fun _ => 0))))]) := hD
  refine lv_aload_n hx hb dR_init_37 rfl (lv_at hl 0 rfl) ?_
  refine lv_bipush (v := nI 60) hx hb dR_init_38 (by decide) ?_
  refine rg_newa (atype := .int) (ty := .int) (a0 := (60, .inl (fun _ => 0))) hx hb (hts _ tw_42) rfl 0 rfl hK hP hD hS hA (fun _ => rfl) (by decide) (by decide) (by decide) (by rw [hR]; exact Nat.le_of_ble_eq_true rfl) (by rw [hR]; exact Nat.le_of_ble_eq_true rfl) dR_init_40 (fun q4 H hP hD hS => ?_)
  have hP : va_P (dC, dI) rg_cl ([(a9, .inr (2, [.ref q9, .ref q1, .ref q2, .ref q3, .null, .int 0])), (q9, .inl (cF, 60, .inr (.inr (.inr (.inr (fun _ => none)))))), (q1, .inl (cI, 60, .inl (fun _ => 0))), (q2, .inl (cI, 60, .inl (fun _ => 0))), (q3, .inl (cL, 60, .inr (.inl (fun _ => 0)))), (q4, .inl (cI, 60, .inl (fun _ => 0)))]) H := hP
  have hD : va_D A ([(a9, .inr (2, [.ref q9, .ref q1, .ref q2, .ref q3, .null, .int 0])), (q9, .inl (cF, 60, .inr (.inr (.inr (.inr (fun _ => none)))))), (q1, .inl (cI, 60, .inl (fun _ => 0))), (q2, .inl (cI, 60, .inl (fun _ => 0))), (q3, .inl (cL, 60, .inr (.inl (fun _ => 0)))), (q4, .inl (cI, 60, .inl (fun _ => 0)))]) := hD
  refine va_putF (D := (dC, dI)) (ci := 2) (v := .ref q4) (ty := tyR 4) (C := "RevisionGrove$Revisions") (T := TR) (N := 6) hx hb hts inR tyR tyR_ok nmR hown hK hP hD hS 0 rfl rfl 4 (by decide) (hts _ tw_48) (fun _ h9 => h9) rfl hnm rfl (tyR_ok 4 (by decide)) rfl rfl (Nat.le_of_ble_eq_true rfl) dR_init_42 (fun H locs hP hD hS => ?_)
  have hP : va_P (dC, dI) rg_cl ([(a9, .inr (2, [.ref q9, .ref q1, .ref q2, .ref q3, .ref q4, .int 0])), (q9, .inl (cF, 60, .inr (.inr (.inr (.inr (fun _ => none)))))), (q1, .inl (cI, 60, .inl (fun _ => 0))), (q2, .inl (cI, 60, .inl (fun _ => 0))), (q3, .inl (cL, 60, .inr (.inl (fun _ => 0)))), (q4, .inl (cI, 60, .inl (fun _ => 0)))]) H := hP
  have hD : va_D A ([(a9, .inr (2, [.ref q9, .ref q1, .ref q2, .ref q3, .ref q4, .int 0])), (q9, .inl (cF, 60, .inr (.inr (.inr (.inr (fun _ => none)))))), (q1, .inl (cI, 60, .inl (fun _ => 0))), (q2, .inl (cI, 60, .inl (fun _ => 0))), (q3, .inl (cL, 60, .inr (.inl (fun _ => 0)))), (q4, .inl (cI, 60, .inl (fun _ => 0)))]) := hD
  refine lv_iconst (v := nI 0) hx hb dR_init_45 (by decide) ?_
  refine lv_istore_n (lv' := [(1, .int (nI 0)), (0, .ref a9)]) hx hb dR_init_46 rfl hl (by decide) rfl (fun ls hl => ?_)
  have lp47 : ∀ (fuel : Nat) (k : Nat) (cs : Nat) (sl : Nat) (fo : Nat → Nat) (fa : Nat → Nat) (H : Heap) (locs : List Loc) (ls : Array Slot), 60 - k < fuel → k ≤ 60 → cs = 5 + 2 * k → sl = 300 + 25 * k → va_P (dC, dI) rg_cl ([(a9, .inr (2, [.ref q9, .ref q1, .ref q2, .ref q3, .ref q4, .int 0])), (q9, .inl (cF, 60, .inr (.inr (.inr (.inr (gw_rf fo k)))))), (q1, .inl (cI, 60, .inl (fun _ => 0))), (q2, .inl (cI, 60, .inl (fun _ => 0))), (q3, .inl (cL, 60, .inr (.inl (fun _ => 0)))), (q4, .inl (cI, 60, .inl (fun _ => 0)))] ++ (gw_fl fo fa cL k)) H → va_D A ([(a9, .inr (2, [.ref q9, .ref q1, .ref q2, .ref q3, .ref q4, .int 0])), (q9, .inl (cF, 60, .inr (.inr (.inr (.inr (gw_rf fo k)))))), (q1, .inl (cI, 60, .inl (fun _ => 0))), (q2, .inl (cI, 60, .inl (fun _ => 0))), (q3, .inl (cL, 60, .inr (.inl (fun _ => 0)))), (q4, .inl (cI, 60, .inl (fun _ => 0)))] ++ (gw_fl fo fa cL k)) → va_S A s.heap H locs → lv_has ls 2 [(0, .ref a9), (1, .int (nI k))] → W p l e R s m args below meth c H locs cs sl Q (F0 m 47 ls []) := by
    intro fuel
    induction fuel with
    | zero => intro k cs sl fo fa H locs ls hf; exact absurd hf (Nat.not_lt_zero _)
    | succ fuel ih47 =>
      intro k cs sl fo fa H locs ls hfu47 hk9 hcs hsl hP hD hS hl
      refine lv_iload_n hx hb dR_init_47 rfl (lv_at hl 1 rfl) ?_
      refine lv_bipush (v := nI 60) hx hb dR_init_48 (by decide) ?_
      refine rg_icmp_ge (tgt := 72) hx hb dR_init_50 (by decide) (by omega) (by omega) (fun h5 => ?_) (fun h5 => ?_)
      · obtain rfl : k = 60 := by omega
        refine lv_aload_n hx hb dR_init_72 rfl (lv_at hl 0 rfl) ?_
        refine va_get (D := (dC, dI)) (ci := 2) (C := "RevisionGrove$Revisions") (T := TR) (N := 6) hx hb hts inR hown hK hP 0 rfl rfl 1 (by decide) (hts _ tw_45) (fun _ h9 => h9) rfl dR_init_73 ?_
        refine lv_iconst (v := nI 0) hx hb dR_init_76 (by decide) ?_
        refine lv_iconst (v := -1) hx hb dR_init_77 (by decide) ?_
        refine rg_iast hx hb hK hP hD hS 2 0 rfl rfl (by decide) (by omega) dR_init_78 (fun H locs hP hD hS => ?_)
        have hP : va_P (dC, dI) rg_cl ([(a9, .inr (2, [.ref q9, .ref q1, .ref q2, .ref q3, .ref q4, .int 0])), (q9, .inl (cF, 60, .inr (.inr (.inr (.inr (gw_rf fo 60)))))), (q1, .inl (cI, 60, .inl (upd (fun _ => 0) 0 ((-1))))), (q2, .inl (cI, 60, .inl (fun _ => 0))), (q3, .inl (cL, 60, .inr (.inl (fun _ => 0)))), (q4, .inl (cI, 60, .inl (fun _ => 0)))] ++ (gw_fl fo fa cL 60)) H := hP
        have hD : va_D A ([(a9, .inr (2, [.ref q9, .ref q1, .ref q2, .ref q3, .ref q4, .int 0])), (q9, .inl (cF, 60, .inr (.inr (.inr (.inr (gw_rf fo 60)))))), (q1, .inl (cI, 60, .inl (upd (fun _ => 0) 0 ((-1))))), (q2, .inl (cI, 60, .inl (fun _ => 0))), (q3, .inl (cL, 60, .inr (.inl (fun _ => 0)))), (q4, .inl (cI, 60, .inl (fun _ => 0)))] ++ (gw_fl fo fa cL 60)) := hD
        refine lv_aload_n hx hb dR_init_79 rfl (lv_at hl 0 rfl) ?_
        refine va_get (D := (dC, dI)) (ci := 2) (C := "RevisionGrove$Revisions") (T := TR) (N := 6) hx hb hts inR hown hK hP 0 rfl rfl 2 (by decide) (hts _ tw_46) (fun _ h9 => h9) rfl dR_init_80 ?_
        refine lv_iconst (v := nI 0) hx hb dR_init_83 (by decide) ?_
        refine lv_iconst (v := -1) hx hb dR_init_84 (by decide) ?_
        refine rg_iast hx hb hK hP hD hS 3 0 rfl rfl (by decide) (by omega) dR_init_85 (fun H locs hP hD hS => ?_)
        have hP : va_P (dC, dI) rg_cl ([(a9, .inr (2, [.ref q9, .ref q1, .ref q2, .ref q3, .ref q4, .int 0])), (q9, .inl (cF, 60, .inr (.inr (.inr (.inr (gw_rf fo 60)))))), (q1, .inl (cI, 60, .inl (upd (fun _ => 0) 0 ((-1))))), (q2, .inl (cI, 60, .inl (upd (fun _ => 0) 0 ((-1))))), (q3, .inl (cL, 60, .inr (.inl (fun _ => 0)))), (q4, .inl (cI, 60, .inl (fun _ => 0)))] ++ (gw_fl fo fa cL 60)) H := hP
        have hD : va_D A ([(a9, .inr (2, [.ref q9, .ref q1, .ref q2, .ref q3, .ref q4, .int 0])), (q9, .inl (cF, 60, .inr (.inr (.inr (.inr (gw_rf fo 60)))))), (q1, .inl (cI, 60, .inl (upd (fun _ => 0) 0 ((-1))))), (q2, .inl (cI, 60, .inl (upd (fun _ => 0) 0 ((-1))))), (q3, .inl (cL, 60, .inr (.inl (fun _ => 0)))), (q4, .inl (cI, 60, .inl (fun _ => 0)))] ++ (gw_fl fo fa cL 60)) := hD
        refine lv_aload_n hx hb dR_init_86 rfl (lv_at hl 0 rfl) ?_
        refine va_get (D := (dC, dI)) (ci := 2) (C := "RevisionGrove$Revisions") (T := TR) (N := 6) hx hb hts inR hown hK hP 0 rfl rfl 3 (by decide) (hts _ tw_47) (fun _ h9 => h9) rfl dR_init_87 ?_
        refine lv_iconst (v := nI 0) hx hb dR_init_90 (by decide) ?_
        refine lv_lconst (v := 1) hx hb dR_init_91 (by decide) ?_
        refine rg_last hx hb hK hP hD hS 4 1 rfl rfl (by decide) (by omega) dR_init_92 (fun H locs hP hD hS => ?_)
        have hP : va_P (dC, dI) rg_cl ([(a9, .inr (2, [.ref q9, .ref q1, .ref q2, .ref q3, .ref q4, .int 0])), (q9, .inl (cF, 60, .inr (.inr (.inr (.inr (gw_rf fo 60)))))), (q1, .inl (cI, 60, .inl (upd (fun _ => 0) 0 ((-1))))), (q2, .inl (cI, 60, .inl (upd (fun _ => 0) 0 ((-1))))), (q3, .inl (cL, 60, .inr (.inl (vp_updL (fun _ => 0) 0 (1 : Int64))))), (q4, .inl (cI, 60, .inl (fun _ => 0)))] ++ (gw_fl fo fa cL 60)) H := hP
        have hD : va_D A ([(a9, .inr (2, [.ref q9, .ref q1, .ref q2, .ref q3, .ref q4, .int 0])), (q9, .inl (cF, 60, .inr (.inr (.inr (.inr (gw_rf fo 60)))))), (q1, .inl (cI, 60, .inl (upd (fun _ => 0) 0 ((-1))))), (q2, .inl (cI, 60, .inl (upd (fun _ => 0) 0 ((-1))))), (q3, .inl (cL, 60, .inr (.inl (vp_updL (fun _ => 0) 0 (1 : Int64))))), (q4, .inl (cI, 60, .inl (fun _ => 0)))] ++ (gw_fl fo fa cL 60)) := hD
        refine lv_aload_n hx hb dR_init_93 rfl (lv_at hl 0 rfl) ?_
        refine lv_iconst (v := nI 1) hx hb dR_init_94 (by decide) ?_
        refine va_put (D := (dC, dI)) (ci := 2) (v := .int (nI 1)) (ty := .int) (C := "RevisionGrove$Revisions") (T := TR) (N := 6) hx hb hts inR tyR tyR_ok nmR hown hK hP hD hS 0 rfl rfl 5 (by decide) (hts _ tw_49) (fun _ h9 => h9) rfl (by decide +kernel) rfl rfl (Nat.le_of_ble_eq_true rfl) dR_init_95 (fun H locs hP hD hS => ?_)
        have hP : va_P (dC, dI) rg_cl ([(a9, .inr (2, [.ref q9, .ref q1, .ref q2, .ref q3, .ref q4, .int (nI 1)])), (q9, .inl (cF, 60, .inr (.inr (.inr (.inr (gw_rf fo 60)))))), (q1, .inl (cI, 60, .inl (upd (fun _ => 0) 0 ((-1))))), (q2, .inl (cI, 60, .inl (upd (fun _ => 0) 0 ((-1))))), (q3, .inl (cL, 60, .inr (.inl (vp_updL (fun _ => 0) 0 (1 : Int64))))), (q4, .inl (cI, 60, .inl (fun _ => 0)))] ++ (gw_fl fo fa cL 60)) H := hP
        have hD : va_D A ([(a9, .inr (2, [.ref q9, .ref q1, .ref q2, .ref q3, .ref q4, .int (nI 1)])), (q9, .inl (cF, 60, .inr (.inr (.inr (.inr (gw_rf fo 60)))))), (q1, .inl (cI, 60, .inl (upd (fun _ => 0) 0 ((-1))))), (q2, .inl (cI, 60, .inl (upd (fun _ => 0) 0 ((-1))))), (q3, .inl (cL, 60, .inr (.inl (vp_updL (fun _ => 0) 0 (1 : Int64))))), (q4, .inl (cI, 60, .inl (fun _ => 0)))] ++ (gw_fl fo fa cL 60)) := hD
        subst hcs hsl
        rw [hQ]
        exact rg_vret hx hb hr hlk hK hP hD hS dR_init_98 ((fun k => [0, 0, 0, q9, q1, q2, q3, q4].getD k 0), fo, fa) rfl trivial
      · refine lv_aload_n hx hb dR_init_53 rfl (lv_at hl 0 rfl) ?_
        refine va_get (D := (dC, dI)) (ci := 2) (C := "RevisionGrove$Revisions") (T := TR) (N := 6) hx hb hts inR hown hK hP 0 rfl rfl 0 (by decide) (hts _ tw_44) (fun _ h9 => h9) rfl dR_init_54 ?_
        refine lv_iload_n hx hb dR_init_57 rfl (lv_at hl 1 rfl) ?_
        refine va_new (ci := 4) (fs := [.null]) (C := "RevisionGrove$Fields") (T := TF) (N := 1) hx hb hts inF tyF tyF_ok hown (hts _ tw_31) (hts _ tw_33) (hts _ tw_3) hK hP hD hS hA rfl (fun j hj => by rcases (show j = 0 by omega) with rfl <;> rfl) (by rw [hR]; show cs + 1 ≤ 125; omega) (by rw [hR]; show sl + 1 ≤ 1800; omega) dR_init_58 (fun q7 H hP hD hS => ?_)
        refine lv_dup hx hb dR_init_61 rfl ?_
        have hP := rg_P_comm hP
        have hD := rg_D_comm hD
        refine rg_callv hD hS hA (va_runIN (As := []) (rest := [.ref q7, .int (nI k), .ref q9]) ⟨hx, hb, hml, hown, hts⟩ (rg_fV ([(a9, .inr (2, [.ref q9, .ref q1, .ref q2, .ref q3, .ref q4, .int 0])), (q9, .inl (cF, 60, .inr (.inr (.inr (.inr (gw_rf fo k)))))), (q1, .inl (cI, 60, .inl (fun _ => 0))), (q2, .inl (cI, 60, .inl (fun _ => 0))), (q3, .inl (cL, 60, .inr (.inl (fun _ => 0)))), (q4, .inl (cI, 60, .inl (fun _ => 0)))] ++ (gw_fl fo fa cL k)) (c_F_init (cI := cI) (cL := cL) (cF := cF) (cA := cA)) _) ⟨va_cnB (ret := none) 0 hts (rg_gI tw_36) rfl rfl rfl hao.2.2.1 (hts _ tw_3) (by decide +kernel) ⟨(by rw [hR]; exact Nat.le_of_ble_eq_true rfl), (by rw [hR]; exact Nat.le_of_ble_eq_true rfl)⟩, rfl, hts _ tw_35⟩ (rg_preS rfl hK hP hD) rfl rfl hl.1 rfl (lv_room (Nat.le_of_ble_eq_true rfl)) dR_init_62 ⟨by rw [hR]; show cs + 1 + 1 ≤ 125; omega, by rw [hR]; show sl + 1 + 24 ≤ 1800; omega⟩) (fun q6 H locs _ hP hD hS => ?_)
        refine va_astq (r := ("RevisionGrove$Fields", TF, 1)) hx hb hK hP hD hS 3 2 0 4 rfl rfl rfl rfl (vp_in_nI (show k < 60 by omega) (by decide)) dR_init_65 (fun H locs hP hD hS => ?_)
        rw [nI_clamp (by omega), gw_rf_s] at hP hD
        have hP := rg_P_perm (gw_fl_s (L := [(a9, .inr (2, [.ref q9, .ref q1, .ref q2, .ref q3, .ref q4, .int 0])), (q9, .inl (cF, 60, .inr (.inr (.inr (.inr (gw_rf (va_up fo k q7) (k + 1))))))), (q1, .inl (cI, 60, .inl (fun _ => 0))), (q2, .inl (cI, 60, .inl (fun _ => 0))), (q3, .inl (cL, 60, .inr (.inl (fun _ => 0)))), (q4, .inl (cI, 60, .inl (fun _ => 0)))])) hP
        have hD := rg_D_perm (gw_fl_s (L := [(a9, .inr (2, [.ref q9, .ref q1, .ref q2, .ref q3, .ref q4, .int 0])), (q9, .inl (cF, 60, .inr (.inr (.inr (.inr (gw_rf (va_up fo k q7) (k + 1))))))), (q1, .inl (cI, 60, .inl (fun _ => 0))), (q2, .inl (cI, 60, .inl (fun _ => 0))), (q3, .inl (cL, 60, .inr (.inl (fun _ => 0)))), (q4, .inl (cI, 60, .inl (fun _ => 0)))])) hD
        have hP : va_P (dC, dI) rg_cl ([(a9, .inr (2, [.ref q9, .ref q1, .ref q2, .ref q3, .ref q4, .int 0])), (q9, .inl (cF, 60, .inr (.inr (.inr (.inr (gw_rf (va_up fo k q7) (k + 1))))))), (q1, .inl (cI, 60, .inl (fun _ => 0))), (q2, .inl (cI, 60, .inl (fun _ => 0))), (q3, .inl (cL, 60, .inr (.inl (fun _ => 0)))), (q4, .inl (cI, 60, .inl (fun _ => 0)))] ++ (gw_fl (va_up fo k q7) (va_up fa k q6) cL (k + 1))) H := hP
        have hD : va_D A ([(a9, .inr (2, [.ref q9, .ref q1, .ref q2, .ref q3, .ref q4, .int 0])), (q9, .inl (cF, 60, .inr (.inr (.inr (.inr (gw_rf (va_up fo k q7) (k + 1))))))), (q1, .inl (cI, 60, .inl (fun _ => 0))), (q2, .inl (cI, 60, .inl (fun _ => 0))), (q3, .inl (cL, 60, .inr (.inl (fun _ => 0)))), (q4, .inl (cI, 60, .inl (fun _ => 0)))] ++ (gw_fl (va_up fo k q7) (va_up fa k q6) cL (k + 1))) := hD
        refine lv_iinc (k := 1) (v := nI (k + 1)) (lv' := [(1, .int (nI (k + 1))), (0, .ref a9)]) hx hb dR_init_66 hl rfl (nI_1 _) (by decide) rfl (fun ls hl => ?_)
        refine lv_goto (tgt := 47) hx hb dR_init_69 (by decide) ?_
        exact ih47 (k + 1) (cs + 1 + 1) (sl + 1 + 24) (va_up fo k q7) (va_up fa k q6) _ _ _ (by omega) (by omega) (by omega) (by omega) hP hD hS (lv_sub hl [1, 0] rfl)
  exact lp47 _ 0 _ _ ((fun _ => 0)) ((fun _ => 0)) _ _ _ (Nat.lt_succ_self _) (by omega) (by rfl) (by rfl) (by rw [gw_rf_0]; exact hP) (by rw [gw_rf_0]; exact hD) hS (lv_sub hl [1, 0] rfl)
