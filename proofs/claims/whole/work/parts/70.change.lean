theorem rg_seta {ws wr : va_W} {k : Nat} {x : Nat × va_E} : (ws ++ wr).set (ws.length + k) x = ws ++ wr.set k x := gw_sapp rfl
set_option maxRecDepth 100000 in
theorem c_C_growth {l : Launch} {dC : Nat → ClassId} {dI : Nat → Nat → Nat} {tys : List (ClassId × FieldType)} {ws : va_W} {q0 a : Nat} {v : Value} {x y z : Int32} (hq : ws[q0]? = some (a, .inr (5, [v, .int x, .int y, .int z]))) : rg_M l yC_growth (Cond.code yC_growth prog_3_method_2_code 1 (some .int) :: rg_tbl) { frames := 0, cells := 0, slots := 0, locals := 0 } (dC, dI) rg_cl tys ws [.ref a] (rg_QI (dC, dI) rg_cl tys (S := Unit) (fun r _ => r = z - y) (fun _ => ws)) 0 0 := by
  refine rg_of prog_3_method_2_code 1 (some .int) (by decide) rfl (Nat.le_of_ble_eq_true rfl) ?_
  intro p e R s m args below meth c Q A H locs ls hR hQ hx hb hml hr hts hown hlk hnm hP hK hD hA hS hl
  have hl : lv_has ls 1 [(0, .ref a)] := hl
  have hts : ∀ w ∈ rg_tbl, w.before args s = true := fun w h => hts w (List.mem_cons_of_mem _ h)
  refine lv_aload_n hx hb dC_growth_0 rfl (lv_at hl 0 rfl) ?_
  refine va_get (D := (dC, dI)) (ci := 5) (C := "RevisionGrove$Change") (T := TC) (N := 4) hx hb hts inC hown hK hP q0 hq rfl 3 (by decide) (hts _ tw_522) (fun _ h9 => h9) rfl dC_growth_1 ?_
  refine lv_aload_n hx hb dC_growth_4 rfl (lv_at hl 0 rfl) ?_
  refine va_get (D := (dC, dI)) (ci := 5) (C := "RevisionGrove$Change") (T := TC) (N := 4) hx hb hts inC hown hK hP q0 hq rfl 2 (by decide) (hts _ tw_520) (fun _ h9 => h9) rfl dC_growth_5 ?_
  refine lv_isub hx hb dC_growth_8 ?_
  rw [hQ]
  exact rg_iret hx hb hr hlk hK hP hD hS dC_growth_9 () rfl rfl
set_option maxHeartbeats 4000000 in
set_option maxRecDepth 100000 in
theorem c_C_init {l : Launch} {dC : Nat → ClassId} {dI : Nat → Nat → Nat} {ad fo fa ur : Nat → Nat} {cI cL cF cA : ClassId} {rec : Nat → Nat → Int64} {fp : Nat → Int32} {sp : Nat → Int32} {an : Nat → Int64} {nn : Nat → Int32} {cnt : Int32} {pt : Nat → Int32} {un : Nat → Nat → Int32} {uc : Nat → Int32} {pr : Int32} {lc : Int32} (a9 i j k : Nat) (hi : i < 61) (hj : j < 61) (hk : k < 2) (f0 f1 f2 f3 : Value) (lx ly : List Int32) (hx8 : lx.length ≤ 8) (hlx : rg_LC (rec i) k lx) (hy8 : ly.length ≤ 8) (hly : rg_LC (rec j) k ly) : rg_M l yC_init (Cond.code yC_init prog_3_method_1_code 6 none :: rg_tbl) { frames := 2, cells := 0, slots := 0, locals := 57 } (dC, dI) rg_cl (gw_tys cI cL cF cA) (gw_W ad fo fa ur cI cL cF cA rec fp sp an nn cnt pt un uc pr lc ++ [(a9, .inr (5, [f0, f1, f2, f3]))]) [.ref a9, .ref ((fo i)), .ref ((fo j)), .int (nI (k + 6))] (rg_QV (dC, dI) rg_cl (gw_tys cI cL cF cA) (S := Unit) (fun _ => True) (fun _ => gw_W ad fo fa ur cI cL cF cA rec fp sp an nn cnt pt un uc pr lc ++ [(a9, .inr (5, [.ref (fo j), .int (nI (rg_hd lx ly)), .int (nI (lx.length - rg_tl lx ly)), .int (nI (ly.length - rg_tl lx ly))]))])) 0 0 := by
  refine rg_of prog_3_method_1_code 6 none (by decide) rfl (Nat.le_of_ble_eq_true rfl) ?_
  intro p e R s m args below meth c Q A H locs ls hR hQ hx hb hml hr hts hown hlk hnm hP hK hD hA hS hl
  have hl : lv_has ls 6 [(0, .ref a9), (1, .ref ((fo i))), (2, .ref ((fo j))), (3, .int (nI (k + 6)))] := hl
  have hts : ∀ w ∈ rg_tbl, w.before args s = true := fun w h => hts w (List.mem_cons_of_mem _ h)
  have ql1 := hlx.1
  have ql2 := hly.1
  have htl := rg_tl_le lx ly
  refine lv_aload_n hx hb dC_init_0 rfl (lv_at hl 0 rfl) ?_
  refine W.objInit hx hb hown (hts _ tw_505) (hts _ tw_23) (hts _ tw_24) rfl (by rw [hml]; exact hl.1) rfl dC_init_1 (by rw [hR]; exact Nat.le_of_ble_eq_true rfl) (by rw [hR]; exact Nat.le_of_ble_eq_true rfl) ?_
  refine W.eq (g2 := F0 m 4 ls []) rfl ?_
  refine lv_aload_n hx hb dC_init_4 rfl (lv_at hl 1 rfl) ?_
  refine lv_aload_n hx hb dC_init_5 rfl (lv_at hl 2 rfl) ?_
  refine lv_iload_n hx hb dC_init_6 rfl (lv_at hl 3 rfl) ?_
  refine rg_calli hD hS hA (va_runV (As := [.ref ((fo j)), .int (nI (k + 6))]) (rest := []) ⟨hx, hb, hml, hown, hts⟩ (rg_fI [(a9, .inr (5, [f0, f1, f2, f3]))] (c_F_sameAtBeginning i j k (by omega) (by omega) (by omega) lx ly hx8 hlx hy8 hly) _) (cwV 2 hts (rg_gV tw_506 tw_507 tw_508 tw_3 tw_509) rfl rfl rfl (by decide +kernel) ⟨by rw [hR]; exact Nat.le_of_ble_eq_true rfl, by rw [hR]; exact Nat.le_of_ble_eq_true rfl⟩) (rg_preV rfl hK hP hD (ci := 4) (q0 := (11 + (4 + i))) rfl (rg_apl (gw_obj (by omega)))) rfl rfl hl.1 rfl (lv_room (Nat.le_of_ble_eq_true rfl)) dC_init_7 ⟨Nat.zero_le _, Nat.zero_le _⟩) (fun r1 u2 H locs hw3 hP hD hS => ?_)
  subst hw3
  have hP : va_P (dC, dI) rg_cl (gw_W ad fo fa ur cI cL cF cA rec fp sp an nn cnt pt un uc pr lc ++ [(a9, .inr (5, [f0, f1, f2, f3]))]) H := hP
  have hD : va_D A (gw_W ad fo fa ur cI cL cF cA rec fp sp an nn cnt pt un uc pr lc ++ [(a9, .inr (5, [f0, f1, f2, f3]))]) := hD
  refine lv_istore (lv' := [(4, .int (nI (rg_hd lx ly))), (0, .ref a9), (1, .ref ((fo i))), (2, .ref ((fo j))), (3, .int (nI (k + 6)))]) hx hb dC_init_10 hl (by decide) rfl (fun ls hl => ?_)
  refine lv_aload_n hx hb dC_init_12 rfl (lv_at hl 2 rfl) ?_
  refine lv_aload_n hx hb dC_init_13 rfl (lv_at hl 3 rfl) ?_
  refine lv_iload_n hx hb dC_init_14 rfl (lv_at hl 4 rfl) ?_
  refine lv_iload hx hb dC_init_15 (lv_at hl 0 rfl) ?_
  refine rg_calli hD hS hA (va_runV (As := [.ref ((fo j)), .int (nI (k + 6)), .int (nI (rg_hd lx ly))]) (rest := []) ⟨hx, hb, hml, hown, hts⟩ (rg_fI [(a9, .inr (5, [f0, f1, f2, f3]))] (c_F_sameAtEnd i j k (by omega) (by omega) (by omega) lx ly hx8 hlx hy8 hly) _) (cwV 3 hts (rg_gV tw_511 tw_512 tw_513 tw_3 tw_514) rfl rfl rfl (by decide +kernel) ⟨by rw [hR]; exact Nat.le_of_ble_eq_true rfl, by rw [hR]; exact Nat.le_of_ble_eq_true rfl⟩) (rg_preV rfl hK hP hD (ci := 4) (q0 := (11 + (4 + i))) rfl (rg_apl (gw_obj (by omega)))) rfl rfl hl.1 rfl (lv_room (Nat.le_of_ble_eq_true rfl)) dC_init_17 ⟨Nat.zero_le _, Nat.zero_le _⟩) (fun r4 u5 H locs hw6 hP hD hS => ?_)
  subst hw6
  have hP : va_P (dC, dI) rg_cl (gw_W ad fo fa ur cI cL cF cA rec fp sp an nn cnt pt un uc pr lc ++ [(a9, .inr (5, [f0, f1, f2, f3]))]) H := hP
  have hD : va_D A (gw_W ad fo fa ur cI cL cF cA rec fp sp an nn cnt pt un uc pr lc ++ [(a9, .inr (5, [f0, f1, f2, f3]))]) := hD
  refine lv_istore (lv' := [(5, .int (nI (rg_tl lx ly))), (4, .int (nI (rg_hd lx ly))), (0, .ref a9), (1, .ref ((fo i))), (2, .ref ((fo j))), (3, .int (nI (k + 6)))]) hx hb dC_init_20 hl (by decide) rfl (fun ls hl => ?_)
  refine lv_aload_n hx hb dC_init_22 rfl (lv_at hl 2 rfl) ?_
  refine lv_aload_n hx hb dC_init_23 rfl (lv_at hl 4 rfl) ?_
  refine va_putF (D := (dC, dI)) (ci := 5) (v := .ref ((fo j))) (ty := tyC 0) (C := "RevisionGrove$Change") (T := TC) (N := 4) hx hb hts inC tyC tyC_ok nmC hown hK hP hD hS _ (rg_apr (k := 0) rfl) rfl 0 (by decide) (hts _ tw_516) (fun _ h9 => h9) rfl hnm rfl (tyC_ok 0 (by decide)) rfl rfl (Nat.le_of_ble_eq_true rfl) dC_init_24 (fun H locs hP hD hS => ?_)
  rw [rg_seta] at hP hD
  have hP : va_P (dC, dI) rg_cl (gw_W ad fo fa ur cI cL cF cA rec fp sp an nn cnt pt un uc pr lc ++ [(a9, .inr (5, [.ref ((fo j)), f1, f2, f3]))]) H := hP
  have hD : va_D A (gw_W ad fo fa ur cI cL cF cA rec fp sp an nn cnt pt un uc pr lc ++ [(a9, .inr (5, [.ref ((fo j)), f1, f2, f3]))]) := hD
  refine lv_aload_n hx hb dC_init_27 rfl (lv_at hl 2 rfl) ?_
  refine lv_iload hx hb dC_init_28 (lv_at hl 1 rfl) ?_
  refine va_putF (D := (dC, dI)) (ci := 5) (v := .int (nI (rg_hd lx ly))) (ty := tyC 1) (C := "RevisionGrove$Change") (T := TC) (N := 4) hx hb hts inC tyC tyC_ok nmC hown hK hP hD hS _ (rg_apr (k := 0) rfl) rfl 1 (by decide) (hts _ tw_518) (fun _ h9 => h9) rfl hnm rfl (tyC_ok 1 (by decide)) rfl rfl (Nat.le_of_ble_eq_true rfl) dC_init_30 (fun H locs hP hD hS => ?_)
  rw [rg_seta] at hP hD
  have hP : va_P (dC, dI) rg_cl (gw_W ad fo fa ur cI cL cF cA rec fp sp an nn cnt pt un uc pr lc ++ [(a9, .inr (5, [.ref ((fo j)), .int (nI (rg_hd lx ly)), f2, f3]))]) H := hP
  have hD : va_D A (gw_W ad fo fa ur cI cL cF cA rec fp sp an nn cnt pt un uc pr lc ++ [(a9, .inr (5, [.ref ((fo j)), .int (nI (rg_hd lx ly)), f2, f3]))]) := hD
  refine lv_aload_n hx hb dC_init_33 rfl (lv_at hl 2 rfl) ?_
  refine lv_aload_n hx hb dC_init_34 rfl (lv_at hl 3 rfl) ?_
  refine lv_iload_n hx hb dC_init_35 rfl (lv_at hl 5 rfl) ?_
  refine rg_calli hD hS hA (va_runV (As := [.int (nI (k + 6))]) (rest := [.ref a9]) ⟨hx, hb, hml, hown, hts⟩ (rg_fI [(a9, .inr (5, [.ref ((fo j)), .int (nI (rg_hd lx ly)), f2, f3]))] (c_F_length i (k + 6) (by omega) (by omega)) _) (cwV 1 hts (rg_gV tw_515 tw_324 tw_325 tw_3 tw_326) rfl rfl rfl (by decide +kernel) ⟨by rw [hR]; exact Nat.le_of_ble_eq_true rfl, by rw [hR]; exact Nat.le_of_ble_eq_true rfl⟩) (rg_preV rfl hK hP hD (ci := 4) (q0 := (11 + (4 + i))) rfl (rg_apl (gw_obj (by omega)))) rfl rfl hl.1 rfl (lv_room (Nat.le_of_ble_eq_true rfl)) dC_init_36 ⟨Nat.zero_le _, Nat.zero_le _⟩) (fun r7 u8 H locs hw9 hP hD hS => ?_)
  subst hw9
  have hP : va_P (dC, dI) rg_cl (gw_W ad fo fa ur cI cL cF cA rec fp sp an nn cnt pt un uc pr lc ++ [(a9, .inr (5, [.ref ((fo j)), .int (nI (rg_hd lx ly)), f2, f3]))]) H := hP
  have hD : va_D A (gw_W ad fo fa ur cI cL cF cA rec fp sp an nn cnt pt un uc pr lc ++ [(a9, .inr (5, [.ref ((fo j)), .int (nI (rg_hd lx ly)), f2, f3]))]) := hD
  refine rg_top (show (.int ((rec i (k + 6)).toInt32) : Value) = .int (nI lx.length) by rw [ql1, lN_i]) ?_
  refine lv_iload hx hb dC_init_39 (lv_at hl 0 rfl) ?_
  refine rg_isub hx hb dC_init_41 (by omega) ?_
  refine va_putF (D := (dC, dI)) (ci := 5) (v := .int (nI (lx.length - rg_tl lx ly))) (ty := tyC 2) (C := "RevisionGrove$Change") (T := TC) (N := 4) hx hb hts inC tyC tyC_ok nmC hown hK hP hD hS _ (rg_apr (k := 0) rfl) rfl 2 (by decide) (hts _ tw_520) (fun _ h9 => h9) rfl hnm rfl (tyC_ok 2 (by decide)) rfl rfl (Nat.le_of_ble_eq_true rfl) dC_init_42 (fun H locs hP hD hS => ?_)
  rw [rg_seta] at hP hD
  have hP : va_P (dC, dI) rg_cl (gw_W ad fo fa ur cI cL cF cA rec fp sp an nn cnt pt un uc pr lc ++ [(a9, .inr (5, [.ref ((fo j)), .int (nI (rg_hd lx ly)), .int (nI (lx.length - rg_tl lx ly)), f3]))]) H := hP
  have hD : va_D A (gw_W ad fo fa ur cI cL cF cA rec fp sp an nn cnt pt un uc pr lc ++ [(a9, .inr (5, [.ref ((fo j)), .int (nI (rg_hd lx ly)), .int (nI (lx.length - rg_tl lx ly)), f3]))]) := hD
  refine lv_aload_n hx hb dC_init_45 rfl (lv_at hl 2 rfl) ?_
  refine lv_aload_n hx hb dC_init_46 rfl (lv_at hl 4 rfl) ?_
  refine lv_iload_n hx hb dC_init_47 rfl (lv_at hl 5 rfl) ?_
  refine rg_calli hD hS hA (va_runV (As := [.int (nI (k + 6))]) (rest := [.ref a9]) ⟨hx, hb, hml, hown, hts⟩ (rg_fI [(a9, .inr (5, [.ref ((fo j)), .int (nI (rg_hd lx ly)), .int (nI (lx.length - rg_tl lx ly)), f3]))] (c_F_length j (k + 6) (by omega) (by omega)) _) (cwV 1 hts (rg_gV tw_515 tw_324 tw_325 tw_3 tw_326) rfl rfl rfl (by decide +kernel) ⟨by rw [hR]; exact Nat.le_of_ble_eq_true rfl, by rw [hR]; exact Nat.le_of_ble_eq_true rfl⟩) (rg_preV rfl hK hP hD (ci := 4) (q0 := (11 + (4 + j))) rfl (rg_apl (gw_obj (by omega)))) rfl rfl hl.1 rfl (lv_room (Nat.le_of_ble_eq_true rfl)) dC_init_48 ⟨Nat.zero_le _, Nat.zero_le _⟩) (fun r10 u11 H locs hw12 hP hD hS => ?_)
  subst hw12
  have hP : va_P (dC, dI) rg_cl (gw_W ad fo fa ur cI cL cF cA rec fp sp an nn cnt pt un uc pr lc ++ [(a9, .inr (5, [.ref ((fo j)), .int (nI (rg_hd lx ly)), .int (nI (lx.length - rg_tl lx ly)), f3]))]) H := hP
  have hD : va_D A (gw_W ad fo fa ur cI cL cF cA rec fp sp an nn cnt pt un uc pr lc ++ [(a9, .inr (5, [.ref ((fo j)), .int (nI (rg_hd lx ly)), .int (nI (lx.length - rg_tl lx ly)), f3]))]) := hD
  refine rg_top (show (.int ((rec j (k + 6)).toInt32) : Value) = .int (nI ly.length) by rw [ql2, lN_i]) ?_
  refine lv_iload hx hb dC_init_51 (lv_at hl 0 rfl) ?_
  refine rg_isub hx hb dC_init_53 (by omega) ?_
  refine va_putF (D := (dC, dI)) (ci := 5) (v := .int (nI (ly.length - rg_tl lx ly))) (ty := tyC 3) (C := "RevisionGrove$Change") (T := TC) (N := 4) hx hb hts inC tyC tyC_ok nmC hown hK hP hD hS _ (rg_apr (k := 0) rfl) rfl 3 (by decide) (hts _ tw_522) (fun _ h9 => h9) rfl hnm rfl (tyC_ok 3 (by decide)) rfl rfl (Nat.le_of_ble_eq_true rfl) dC_init_54 (fun H locs hP hD hS => ?_)
  rw [rg_seta] at hP hD
  have hP : va_P (dC, dI) rg_cl (gw_W ad fo fa ur cI cL cF cA rec fp sp an nn cnt pt un uc pr lc ++ [(a9, .inr (5, [.ref ((fo j)), .int (nI (rg_hd lx ly)), .int (nI (lx.length - rg_tl lx ly)), .int (nI (ly.length - rg_tl lx ly))]))]) H := hP
  have hD : va_D A (gw_W ad fo fa ur cI cL cF cA rec fp sp an nn cnt pt un uc pr lc ++ [(a9, .inr (5, [.ref ((fo j)), .int (nI (rg_hd lx ly)), .int (nI (lx.length - rg_tl lx ly)), .int (nI (ly.length - rg_tl lx ly))]))]) := hD
  rw [hQ]
  exact rg_vret hx hb hr hlk hK hP hD hS dC_init_57 () rfl (trivial)
