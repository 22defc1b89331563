set_option maxHeartbeats 4000000 in
set_option maxRecDepth 100000 in
theorem c_G_comeToChanged_s {l : Launch} {dC : Nat → ClassId} {dI : Nat → Nat → Nat} {ad fo fa ur : Nat → Nat} {cI cL cF cA : ClassId} {rec : Nat → Nat → Int64} {fp : Nat → Int32} {sp : Nat → Int32} {an : Nat → Int64} {nn : Nat → Int32} {pt : Nat → Int32} {un : Nat → Nat → Int32} {uc : Nat → Int32} {lc : Int32} (n b t f : Nat) (hn6 : n ≤ 60) (hb4 : b < 4) (htn : t < n) (hf8 : f < 8) (hpt : pt b = nI t) (X Y : rg_R) (hX : rg_CR (rec 60) X) (hY : rg_CR (rec t) Y) (hs : rg_sf X Y f = true) : rg_M l yG_comeToChanged (Cond.code yG_comeToChanged prog_1_method_25_code 3 (some .int) :: rg_tbl) { frames := 4, cells := 0, slots := 0, locals := 96 } (dC, dI) rg_cl (gw_tys cI cL cF cA) (gw_W ad fo fa ur cI cL cF cA rec fp sp an nn (nI n) pt un uc (nI b) lc) [.ref ((ad 0)), .int (nI f)] (rg_QI (dC, dI) rg_cl (gw_tys cI cL cF cA) (S := Unit) (fun z _ => z = nI t) (fun _ => gw_W ad fo fa ur cI cL cF cA rec fp sp an nn (nI n) pt un uc (nI b) lc)) 0 0 := by
  refine rg_of prog_1_method_25_code 3 (some .int) (by decide) rfl (Nat.le_of_ble_eq_true rfl) ?_
  intro p e R s m args below meth c Q A H locs ls hR hQ hx hb hml hr hts hown hlk hnm hP hK hD hA hS hl
  have hl : lv_has ls 3 [(0, .ref ((ad 0))), (1, .int (nI f))] := hl
  have hts : ∀ w ∈ rg_tbl, w.before args s = true := fun w h => hts w (List.mem_cons_of_mem _ h)
  refine lv_aload_n hx hb dG_comeToChanged_0 rfl (lv_at hl 0 rfl) ?_
  refine va_get (D := (dC, dI)) (ci := 1) (C := "RevisionGrove") (T := TG) (N := 4) hx hb hts inG hown hK hP 0 rfl rfl 1 (by decide) (hts _ tw_87) (fun _ h9 => h9) rfl dG_comeToChanged_1 ?_
  refine rg_calli hD hS hA (va_runV (As := []) (rest := []) ⟨hx, hb, hml, hown, hts⟩ (c_B_presentRevision b (by omega) _) (cwV 0 hts (rg_gV tw_235 tw_236 tw_237 tw_4 tw_238) rfl rfl rfl (by decide +kernel) ⟨by rw [hR]; exact Nat.le_of_ble_eq_true rfl, by rw [hR]; exact Nat.le_of_ble_eq_true rfl⟩) (rg_preV rfl hK hP hD (ci := 3) (q0 := 2) rfl rfl) rfl rfl hl.1 rfl (lv_room (Nat.le_of_ble_eq_true rfl)) dG_comeToChanged_4 ⟨Nat.zero_le _, Nat.zero_le _⟩) (fun r1 u2 H locs hw3 hP hD hS => ?_)
  subst hw3
  have hP : va_P (dC, dI) rg_cl (gw_W ad fo fa ur cI cL cF cA rec fp sp an nn (nI n) pt un uc (nI b) lc) H := hP
  have hD : va_D A (gw_W ad fo fa ur cI cL cF cA rec fp sp an nn (nI n) pt un uc (nI b) lc) := hD
  refine rg_top (show (.int (pt b) : Value) = .int (nI t) by rw [hpt]) ?_
  refine lv_istore_n (lv' := [(2, .int (nI t)), (0, .ref ((ad 0))), (1, .int (nI f))]) hx hb dG_comeToChanged_7 rfl hl (by decide) rfl (fun ls hl => ?_)
  refine lv_aload_n hx hb dG_comeToChanged_8 rfl (lv_at hl 1 rfl) ?_
  refine va_get (D := (dC, dI)) (ci := 1) (C := "RevisionGrove") (T := TG) (N := 4) hx hb hts inG hown hK hP 0 rfl rfl 2 (by decide) (hts _ tw_88) (fun _ h9 => h9) rfl dG_comeToChanged_9 ?_
  refine lv_aload_n hx hb dG_comeToChanged_12 rfl (lv_at hl 1 rfl) ?_
  refine va_get (D := (dC, dI)) (ci := 1) (C := "RevisionGrove") (T := TG) (N := 4) hx hb hts inG hown hK hP 0 rfl rfl 0 (by decide) (hts _ tw_86) (fun _ h9 => h9) rfl dG_comeToChanged_13 ?_
  refine lv_iload_n hx hb dG_comeToChanged_16 rfl (lv_at hl 0 rfl) ?_
  refine rg_calla hD hS hA (va_runV (As := [.int (nI t)]) (rest := [.ref ((fo 60))]) ⟨hx, hb, hml, hown, hts⟩ (c_R_fields t (by omega) _) (cwV 1 hts (rg_gV tw_239 tw_240 tw_241 tw_2 tw_242) rfl rfl rfl (by decide +kernel) ⟨by rw [hR]; exact Nat.le_of_ble_eq_true rfl, by rw [hR]; exact Nat.le_of_ble_eq_true rfl⟩) (rg_preV rfl hK hP hD (ci := 2) (q0 := 1) rfl rfl) rfl rfl hl.1 rfl (lv_room (Nat.le_of_ble_eq_true rfl)) dG_comeToChanged_17 ⟨Nat.zero_le _, Nat.zero_le _⟩) (fun H locs hP hD hS => ?_)
  have hP : va_P (dC, dI) rg_cl (gw_W ad fo fa ur cI cL cF cA rec fp sp an nn (nI n) pt un uc (nI b) lc) H := hP
  have hD : va_D A (gw_W ad fo fa ur cI cL cF cA rec fp sp an nn (nI n) pt un uc (nI b) lc) := hD
  refine lv_iload_n hx hb dG_comeToChanged_20 rfl (lv_at hl 2 rfl) ?_
  refine rg_calli hD hS hA (va_runV (As := [.ref ((fo t)), .int (nI f)]) (rest := []) ⟨hx, hb, hml, hown, hts⟩ (c_F_isSame 60 t f (by omega) (by omega) (by omega) X Y hX hY _) (cwV 2 hts (rg_gV tw_252 tw_253 tw_254 tw_3 tw_255) rfl rfl rfl (by decide +kernel) ⟨by rw [hR]; exact Nat.le_of_ble_eq_true rfl, by rw [hR]; exact Nat.le_of_ble_eq_true rfl⟩) (rg_preV rfl hK hP hD (ci := 4) (q0 := (11 + (4 + 60))) rfl (gw_obj (by omega))) rfl rfl hl.1 rfl (lv_room (Nat.le_of_ble_eq_true rfl)) dG_comeToChanged_21 ⟨Nat.zero_le _, Nat.zero_le _⟩) (fun r7 u8 H locs hw9 hP hD hS => ?_)
  subst hw9
  have hP : va_P (dC, dI) rg_cl (gw_W ad fo fa ur cI cL cF cA rec fp sp an nn (nI n) pt un uc (nI b) lc) H := hP
  have hD : va_D A (gw_W ad fo fa ur cI cL cF cA rec fp sp an nn (nI n) pt un uc (nI b) lc) := hD
  refine rg_ifz_eq (tgt := 29) hx hb dG_comeToChanged_24 (by decide) (fun h10 => absurd (hs.symm.trans h10) (by decide)) (fun h10 => ?_)
  refine lv_iload_n hx hb dG_comeToChanged_27 rfl (lv_at hl 0 rfl) ?_
  rw [hQ]
  exact rg_iret hx hb hr hlk hK hP hD hS dG_comeToChanged_28 () rfl (rfl)
set_option maxHeartbeats 4000000 in
set_option maxRecDepth 100000 in
theorem c_G_comeToChanged_n {l : Launch} {dC : Nat → ClassId} {dI : Nat → Nat → Nat} {ad fo fa ur : Nat → Nat} {cI cL cF cA : ClassId} {rec : Nat → Nat → Int64} {fp : Nat → Int32} {sp : Nat → Int32} {an : Nat → Int64} {nn : Nat → Int32} {pt : Nat → Int32} {un : Nat → Nat → Int32} {uc : Nat → Int32} {lc : Int32} (n b t f : Nat) (hn6 : n ≤ 60) (hb4 : b < 4) (htn : t < n) (hf8 : f < 8) (hpt : pt b = nI t) (X Y : rg_R) (hX : rg_CR (rec 60) X) (hY : rg_CR (rec t) Y) (hs : rg_sf X Y f = false) (hn9 : n < 60) : rg_M l yG_comeToChanged (Cond.code yG_comeToChanged prog_1_method_25_code 3 (some .int) :: rg_tbl) { frames := 4, cells := 0, slots := 0, locals := 96 } (dC, dI) rg_cl (gw_tys cI cL cF cA) (gw_W ad fo fa ur cI cL cF cA rec fp sp an nn (nI n) pt un uc (nI b) lc) [.ref ((ad 0)), .int (nI f)] (rg_QI (dC, dI) rg_cl (gw_tys cI cL cF cA) (S := Unit) (fun z _ => z = nI n) (fun _ => gw_W ad fo fa ur cI cL cF cA (va_up rec n (va_cpy (rec 60) (rec n) 0 0 24)) (upd fp n (nI t)) (upd sp n (-1)) (vp_updL an n ((((1 : Int64) <<< ((nI n).toInt64 &&& 63)) ||| (rg_ax an (nI t))) ||| (rg_ax an (-1)))) nn (nI (n + 1)) (upd pt b (nI n)) un (upd uc b (nI 0)) (nI b) lc)) 0 0 := by
  refine rg_of prog_1_method_25_code 3 (some .int) (by decide) rfl (Nat.le_of_ble_eq_true rfl) ?_
  intro p e R s m args below meth c Q A H locs ls hR hQ hx hb hml hr hts hown hlk hnm hP hK hD hA hS hl
  have hl : lv_has ls 3 [(0, .ref ((ad 0))), (1, .int (nI f))] := hl
  have hts : ∀ w ∈ rg_tbl, w.before args s = true := fun w h => hts w (List.mem_cons_of_mem _ h)
  refine lv_aload_n hx hb dG_comeToChanged_0 rfl (lv_at hl 0 rfl) ?_
  refine va_get (D := (dC, dI)) (ci := 1) (C := "RevisionGrove") (T := TG) (N := 4) hx hb hts inG hown hK hP 0 rfl rfl 1 (by decide) (hts _ tw_87) (fun _ h9 => h9) rfl dG_comeToChanged_1 ?_
  refine rg_calli hD hS hA (va_runV (As := []) (rest := []) ⟨hx, hb, hml, hown, hts⟩ (c_B_presentRevision b (by omega) _) (cwV 0 hts (rg_gV tw_235 tw_236 tw_237 tw_4 tw_238) rfl rfl rfl (by decide +kernel) ⟨by rw [hR]; exact Nat.le_of_ble_eq_true rfl, by rw [hR]; exact Nat.le_of_ble_eq_true rfl⟩) (rg_preV rfl hK hP hD (ci := 3) (q0 := 2) rfl rfl) rfl rfl hl.1 rfl (lv_room (Nat.le_of_ble_eq_true rfl)) dG_comeToChanged_4 ⟨Nat.zero_le _, Nat.zero_le _⟩) (fun r1 u2 H locs hw3 hP hD hS => ?_)
  subst hw3
  have hP : va_P (dC, dI) rg_cl (gw_W ad fo fa ur cI cL cF cA rec fp sp an nn (nI n) pt un uc (nI b) lc) H := hP
  have hD : va_D A (gw_W ad fo fa ur cI cL cF cA rec fp sp an nn (nI n) pt un uc (nI b) lc) := hD
  refine rg_top (show (.int (pt b) : Value) = .int (nI t) by rw [hpt]) ?_
  refine lv_istore_n (lv' := [(2, .int (nI t)), (0, .ref ((ad 0))), (1, .int (nI f))]) hx hb dG_comeToChanged_7 rfl hl (by decide) rfl (fun ls hl => ?_)
  refine lv_aload_n hx hb dG_comeToChanged_8 rfl (lv_at hl 1 rfl) ?_
  refine va_get (D := (dC, dI)) (ci := 1) (C := "RevisionGrove") (T := TG) (N := 4) hx hb hts inG hown hK hP 0 rfl rfl 2 (by decide) (hts _ tw_88) (fun _ h9 => h9) rfl dG_comeToChanged_9 ?_
  refine lv_aload_n hx hb dG_comeToChanged_12 rfl (lv_at hl 1 rfl) ?_
  refine va_get (D := (dC, dI)) (ci := 1) (C := "RevisionGrove") (T := TG) (N := 4) hx hb hts inG hown hK hP 0 rfl rfl 0 (by decide) (hts _ tw_86) (fun _ h9 => h9) rfl dG_comeToChanged_13 ?_
  refine lv_iload_n hx hb dG_comeToChanged_16 rfl (lv_at hl 0 rfl) ?_
  refine rg_calla hD hS hA (va_runV (As := [.int (nI t)]) (rest := [.ref ((fo 60))]) ⟨hx, hb, hml, hown, hts⟩ (c_R_fields t (by omega) _) (cwV 1 hts (rg_gV tw_239 tw_240 tw_241 tw_2 tw_242) rfl rfl rfl (by decide +kernel) ⟨by rw [hR]; exact Nat.le_of_ble_eq_true rfl, by rw [hR]; exact Nat.le_of_ble_eq_true rfl⟩) (rg_preV rfl hK hP hD (ci := 2) (q0 := 1) rfl rfl) rfl rfl hl.1 rfl (lv_room (Nat.le_of_ble_eq_true rfl)) dG_comeToChanged_17 ⟨Nat.zero_le _, Nat.zero_le _⟩) (fun H locs hP hD hS => ?_)
  have hP : va_P (dC, dI) rg_cl (gw_W ad fo fa ur cI cL cF cA rec fp sp an nn (nI n) pt un uc (nI b) lc) H := hP
  have hD : va_D A (gw_W ad fo fa ur cI cL cF cA rec fp sp an nn (nI n) pt un uc (nI b) lc) := hD
  refine lv_iload_n hx hb dG_comeToChanged_20 rfl (lv_at hl 2 rfl) ?_
  refine rg_calli hD hS hA (va_runV (As := [.ref ((fo t)), .int (nI f)]) (rest := []) ⟨hx, hb, hml, hown, hts⟩ (c_F_isSame 60 t f (by omega) (by omega) (by omega) X Y hX hY _) (cwV 2 hts (rg_gV tw_252 tw_253 tw_254 tw_3 tw_255) rfl rfl rfl (by decide +kernel) ⟨by rw [hR]; exact Nat.le_of_ble_eq_true rfl, by rw [hR]; exact Nat.le_of_ble_eq_true rfl⟩) (rg_preV rfl hK hP hD (ci := 4) (q0 := (11 + (4 + 60))) rfl (gw_obj (by omega))) rfl rfl hl.1 rfl (lv_room (Nat.le_of_ble_eq_true rfl)) dG_comeToChanged_21 ⟨Nat.zero_le _, Nat.zero_le _⟩) (fun r7 u8 H locs hw9 hP hD hS => ?_)
  subst hw9
  have hP : va_P (dC, dI) rg_cl (gw_W ad fo fa ur cI cL cF cA rec fp sp an nn (nI n) pt un uc (nI b) lc) H := hP
  have hD : va_D A (gw_W ad fo fa ur cI cL cF cA rec fp sp an nn (nI n) pt un uc (nI b) lc) := hD
  refine rg_ifz_eq (tgt := 29) hx hb dG_comeToChanged_24 (by decide) (fun h10 => ?_) (fun h10 => absurd (hs.symm.trans h10) (by decide))
  refine lv_aload_n hx hb dG_comeToChanged_29 rfl (lv_at hl 1 rfl) ?_
  refine lv_iconst (v := -1) hx hb dG_comeToChanged_30 (by decide) ?_
  refine rg_callv hD hS hA (va_runV (As := [.int ((-1))]) (rest := []) ⟨hx, hb, hml, hown, hts⟩ (c_G_comeToDraft n b t (by omega) (by omega) (by omega) hpt ((-1)) (Or.inl rfl) _) (cwV 1 hts (rg_gV tw_263 tw_265 ts_G_comeToDraft tw_1 tw_266) rfl rfl rfl (by decide +kernel) ⟨by rw [hR]; exact Nat.le_of_ble_eq_true rfl, by rw [hR]; exact Nat.le_of_ble_eq_true rfl⟩) (rg_preV rfl hK hP hD (ci := 1) (q0 := 0) rfl rfl) rfl rfl hl.1 rfl (lv_room (Nat.le_of_ble_eq_true rfl)) dG_comeToChanged_31 ⟨Nat.zero_le _, Nat.zero_le _⟩) (fun u12 H locs hw13 hP hD hS => ?_)
  have hP : va_P (dC, dI) rg_cl (gw_W ad fo fa ur cI cL cF cA (va_up rec n (va_cpy (rec 60) (rec n) 0 0 24)) (upd fp n (nI t)) (upd sp n ((-1))) (vp_updL an n ((((1 : Int64) <<< ((nI n).toInt64 &&& 63)) ||| (rg_ax an (nI t))) ||| (rg_ax an ((-1))))) nn (nI (n + 1)) (upd pt b (nI n)) un (upd uc b (nI 0)) (nI b) lc) H := hP
  have hD : va_D A (gw_W ad fo fa ur cI cL cF cA (va_up rec n (va_cpy (rec 60) (rec n) 0 0 24)) (upd fp n (nI t)) (upd sp n ((-1))) (vp_updL an n ((((1 : Int64) <<< ((nI n).toInt64 &&& 63)) ||| (rg_ax an (nI t))) ||| (rg_ax an ((-1))))) nn (nI (n + 1)) (upd pt b (nI n)) un (upd uc b (nI 0)) (nI b) lc) := hD
  refine lv_aload_n hx hb dG_comeToChanged_34 rfl (lv_at hl 1 rfl) ?_
  refine va_get (D := (dC, dI)) (ci := 1) (C := "RevisionGrove") (T := TG) (N := 4) hx hb hts inG hown hK hP 0 rfl rfl 1 (by decide) (hts _ tw_87) (fun _ h9 => h9) rfl dG_comeToChanged_35 ?_
  refine rg_calli hD hS hA (va_runV (As := []) (rest := []) ⟨hx, hb, hml, hown, hts⟩ (c_B_presentRevision b (by omega) _) (cwV 0 hts (rg_gV tw_235 tw_236 tw_237 tw_4 tw_238) rfl rfl rfl (by decide +kernel) ⟨by rw [hR]; exact Nat.le_of_ble_eq_true rfl, by rw [hR]; exact Nat.le_of_ble_eq_true rfl⟩) (rg_preV rfl hK hP hD (ci := 3) (q0 := 2) rfl rfl) rfl rfl hl.1 rfl (lv_room (Nat.le_of_ble_eq_true rfl)) dG_comeToChanged_38 ⟨Nat.zero_le _, Nat.zero_le _⟩) (fun r14 u15 H locs hw16 hP hD hS => ?_)
  subst hw16
  have hP : va_P (dC, dI) rg_cl (gw_W ad fo fa ur cI cL cF cA (va_up rec n (va_cpy (rec 60) (rec n) 0 0 24)) (upd fp n (nI t)) (upd sp n ((-1))) (vp_updL an n ((((1 : Int64) <<< ((nI n).toInt64 &&& 63)) ||| (rg_ax an (nI t))) ||| (rg_ax an ((-1))))) nn (nI (n + 1)) (upd pt b (nI n)) un (upd uc b (nI 0)) (nI b) lc) H := hP
  have hD : va_D A (gw_W ad fo fa ur cI cL cF cA (va_up rec n (va_cpy (rec 60) (rec n) 0 0 24)) (upd fp n (nI t)) (upd sp n ((-1))) (vp_updL an n ((((1 : Int64) <<< ((nI n).toInt64 &&& 63)) ||| (rg_ax an (nI t))) ||| (rg_ax an ((-1))))) nn (nI (n + 1)) (upd pt b (nI n)) un (upd uc b (nI 0)) (nI b) lc) := hD
  refine rg_top (show (.int ((upd pt b (nI n)) b) : Value) = .int (nI n) by rw [pk_us]) ?_
  rw [hQ]
  exact rg_iret hx hb hr hlk hK hP hD hS dG_comeToChanged_41 () rfl (rfl)
set_option maxHeartbeats 4000000 in
set_option maxRecDepth 100000 in
theorem c_G_comeToChanged_x {l : Launch} {dC : Nat → ClassId} {dI : Nat → Nat → Nat} {ad fo fa ur : Nat → Nat} {cI cL cF cA : ClassId} {rec : Nat → Nat → Int64} {fp : Nat → Int32} {sp : Nat → Int32} {an : Nat → Int64} {nn : Nat → Int32} {pt : Nat → Int32} {un : Nat → Nat → Int32} {uc : Nat → Int32} {lc : Int32} (hlt : l.stackTraces = false) (b t f : Nat) (hb4 : b < 4) (htn : t < 60) (hf8 : f < 8) (hpt : pt b = nI t) (X Y : rg_R) (hX : rg_CR (rec 60) X) (hY : rg_CR (rec t) Y) (hs : rg_sf X Y f = false) : rx_M l yG_comeToChanged (Cond.code yG_comeToChanged prog_1_method_25_code 3 (some .int) :: rg_tbl) { frames := 7, cells := 1, slots := 6, locals := 111 } (dC, dI) rg_cl (gw_tys cI cL cF cA) (gw_W ad fo fa ur cI cL cF cA rec fp sp an nn (nI 60) pt un uc (nI b) lc) [.ref ((ad 0)), .int (nI f)] (rg_QI (dC, dI) rg_cl (gw_tys cI cL cF cA) (S := Unit) (fun _ _ => False) (fun _ => gw_W ad fo fa ur cI cL cF cA rec fp sp an nn (nI 60) pt un uc (nI b) lc)) (rx_X (dC, dI) rg_cl (gw_tys cI cL cF cA) (S := Unit) (fun E _ => E = "java/lang/IllegalStateException") (fun _ => gw_W ad fo fa ur cI cL cF cA rec fp sp an nn (nI 60) pt un uc (nI b) lc)) 1 6 := by
  refine rx_of prog_1_method_25_code 3 (some .int) (by decide) rfl (Nat.le_of_ble_eq_true rfl) ?_
  intro p e R s m args below meth c Q A H locs ls hR hQ hx hb hml hr hts hown hlk hnm hno hT hP hK hD hA hS hl
  have hl : lv_has ls 3 [(0, .ref ((ad 0))), (1, .int (nI f))] := hl
  have hts : ∀ w ∈ rg_tbl, w.before args s = true := fun w h => hts w (List.mem_cons_of_mem _ h)
  refine lv_aload_n hx hb dG_comeToChanged_0 rfl (lv_at hl 0 rfl) ?_
  refine va_get (D := (dC, dI)) (ci := 1) (C := "RevisionGrove") (T := TG) (N := 4) hx hb hts inG hown hK hP 0 rfl rfl 1 (by decide) (hts _ tw_87) (fun _ h9 => h9) rfl dG_comeToChanged_1 ?_
  refine rg_calli hD hS hA (va_runV (As := []) (rest := []) ⟨hx, hb, hml, hown, hts⟩ (c_B_presentRevision b (by omega) _) (cwV 0 hts (rg_gV tw_235 tw_236 tw_237 tw_4 tw_238) rfl rfl rfl (by decide +kernel) ⟨by rw [hR]; exact Nat.le_of_ble_eq_true rfl, by rw [hR]; exact Nat.le_of_ble_eq_true rfl⟩) (rg_preV rfl hK hP hD (ci := 3) (q0 := 2) rfl rfl) rfl rfl hl.1 rfl (lv_room (Nat.le_of_ble_eq_true rfl)) dG_comeToChanged_4 ⟨Nat.zero_le _, Nat.zero_le _⟩) (fun r1 u2 H locs hw3 hP hD hS => ?_)
  subst hw3
  have hP : va_P (dC, dI) rg_cl (gw_W ad fo fa ur cI cL cF cA rec fp sp an nn (nI 60) pt un uc (nI b) lc) H := hP
  have hD : va_D A (gw_W ad fo fa ur cI cL cF cA rec fp sp an nn (nI 60) pt un uc (nI b) lc) := hD
  refine rg_top (show (.int (pt b) : Value) = .int (nI t) by rw [hpt]) ?_
  refine lv_istore_n (lv' := [(2, .int (nI t)), (0, .ref ((ad 0))), (1, .int (nI f))]) hx hb dG_comeToChanged_7 rfl hl (by decide) rfl (fun ls hl => ?_)
  refine lv_aload_n hx hb dG_comeToChanged_8 rfl (lv_at hl 1 rfl) ?_
  refine va_get (D := (dC, dI)) (ci := 1) (C := "RevisionGrove") (T := TG) (N := 4) hx hb hts inG hown hK hP 0 rfl rfl 2 (by decide) (hts _ tw_88) (fun _ h9 => h9) rfl dG_comeToChanged_9 ?_
  refine lv_aload_n hx hb dG_comeToChanged_12 rfl (lv_at hl 1 rfl) ?_
  refine va_get (D := (dC, dI)) (ci := 1) (C := "RevisionGrove") (T := TG) (N := 4) hx hb hts inG hown hK hP 0 rfl rfl 0 (by decide) (hts _ tw_86) (fun _ h9 => h9) rfl dG_comeToChanged_13 ?_
  refine lv_iload_n hx hb dG_comeToChanged_16 rfl (lv_at hl 0 rfl) ?_
  refine rg_calla hD hS hA (va_runV (As := [.int (nI t)]) (rest := [.ref ((fo 60))]) ⟨hx, hb, hml, hown, hts⟩ (c_R_fields t (by omega) _) (cwV 1 hts (rg_gV tw_239 tw_240 tw_241 tw_2 tw_242) rfl rfl rfl (by decide +kernel) ⟨by rw [hR]; exact Nat.le_of_ble_eq_true rfl, by rw [hR]; exact Nat.le_of_ble_eq_true rfl⟩) (rg_preV rfl hK hP hD (ci := 2) (q0 := 1) rfl rfl) rfl rfl hl.1 rfl (lv_room (Nat.le_of_ble_eq_true rfl)) dG_comeToChanged_17 ⟨Nat.zero_le _, Nat.zero_le _⟩) (fun H locs hP hD hS => ?_)
  have hP : va_P (dC, dI) rg_cl (gw_W ad fo fa ur cI cL cF cA rec fp sp an nn (nI 60) pt un uc (nI b) lc) H := hP
  have hD : va_D A (gw_W ad fo fa ur cI cL cF cA rec fp sp an nn (nI 60) pt un uc (nI b) lc) := hD
  refine lv_iload_n hx hb dG_comeToChanged_20 rfl (lv_at hl 2 rfl) ?_
  refine rg_calli hD hS hA (va_runV (As := [.ref ((fo t)), .int (nI f)]) (rest := []) ⟨hx, hb, hml, hown, hts⟩ (c_F_isSame 60 t f (by omega) (by omega) (by omega) X Y hX hY _) (cwV 2 hts (rg_gV tw_252 tw_253 tw_254 tw_3 tw_255) rfl rfl rfl (by decide +kernel) ⟨by rw [hR]; exact Nat.le_of_ble_eq_true rfl, by rw [hR]; exact Nat.le_of_ble_eq_true rfl⟩) (rg_preV rfl hK hP hD (ci := 4) (q0 := (11 + (4 + 60))) rfl (gw_obj (by omega))) rfl rfl hl.1 rfl (lv_room (Nat.le_of_ble_eq_true rfl)) dG_comeToChanged_21 ⟨Nat.zero_le _, Nat.zero_le _⟩) (fun r7 u8 H locs hw9 hP hD hS => ?_)
  subst hw9
  have hP : va_P (dC, dI) rg_cl (gw_W ad fo fa ur cI cL cF cA rec fp sp an nn (nI 60) pt un uc (nI b) lc) H := hP
  have hD : va_D A (gw_W ad fo fa ur cI cL cF cA rec fp sp an nn (nI 60) pt un uc (nI b) lc) := hD
  refine rg_ifz_eq (tgt := 29) hx hb dG_comeToChanged_24 (by decide) (fun h10 => ?_) (fun h10 => absurd (hs.symm.trans h10) (by decide))
  refine lv_aload_n hx hb dG_comeToChanged_29 rfl (lv_at hl 1 rfl) ?_
  refine lv_iconst (v := -1) hx hb dG_comeToChanged_30 (by decide) ?_
  exact rx_callv hQ (fun E u h => ⟨(), h, rfl⟩) hno hlk hD hS hA (Nat.le_of_ble_eq_true rfl) (Nat.le_of_ble_eq_true rfl) (vx_runV (As := [.int ((-1))]) (rest := []) ⟨hx, hb, hml, hown, hts⟩ (c_G_comeToDraft_x hlt ((-1)) _) (cwV 1 hts (rg_gV tw_263 tw_265 ts_G_comeToDraft tw_1 tw_266) rfl rfl rfl (by decide +kernel) ⟨(by rw [hR]; exact Nat.le_of_ble_eq_true rfl), (by rw [hR]; exact Nat.le_of_ble_eq_true rfl)⟩) (rx_preV rfl hT hS hA hK hP hD (ci := 1) (q0 := 0) rfl rfl) rfl rfl hl.1 rfl (lv_room (Nat.le_of_ble_eq_true rfl)) dG_comeToChanged_31 ⟨(by rw [hR]; exact Nat.le_of_ble_eq_true rfl), (by rw [hR]; exact Nat.le_of_ble_eq_true rfl)⟩) (fun _ _ _ h9 => h9.elim)
set_option maxHeartbeats 4000000 in
set_option maxRecDepth 100000 in
theorem c_G_put_s {l : Launch} {dC : Nat → ClassId} {dI : Nat → Nat → Nat} {ad fo fa ur : Nat → Nat} {cI cL cF cA : ClassId} {rec : Nat → Nat → Int64} {fp : Nat → Int32} {sp : Nat → Int32} {an : Nat → Int64} {nn : Nat → Int32} {pt : Nat → Int32} {un : Nat → Nat → Int32} {uc : Nat → Int32} {lc : Int32} (n b : Nat) (Rr : Nat → rg_R) (P1 P2 : Nat → Int32) (T : Nat → Nat) (U : Nat → List Nat) (k : Nat) (hk2 : k < 2) (v : Int32) (hs : rg_sf (rg_setN (Rr (T b)) k v) (Rr (T b)) (k) = true) (hrep : gw_Rep rec fp sp an (nI n) pt un uc (nI b) lc (n, Rr, P1, P2, T, U, b, lc)) : rg_M l yG_put (Cond.code yG_put prog_1_method_2_code 3 (some .int) :: rg_tbl) { frames := 5, cells := 0, slots := 0, locals := 118 } (dC, dI) rg_cl (gw_tys cI cL cF cA) (gw_W ad fo fa ur cI cL cF cA rec fp sp an nn (nI n) pt un uc (nI b) lc) [.ref ((ad 0)), .int (nI k), .int v] (rg_QI (dC, dI) rg_cl (gw_tys cI cL cF cA) (S := gw_S) (gw_Po (rg_chg 2 (n, Rr, P1, P2, T, U, b, lc) (rg_setN (Rr (T b)) k v))) (fun u => gw_Wu ad fo fa ur cI cL cF cA u)) 0 0 := by
  refine rg_of prog_1_method_2_code 3 (some .int) (by decide) rfl (Nat.le_of_ble_eq_true rfl) ?_
  intro p e R s m args below meth c Q A H locs ls hR hQ hx hb hml hr hts hown hlk hnm hP hK hD hA hS hl
  have hl : lv_has ls 3 [(0, .ref ((ad 0))), (1, .int (nI k)), (2, .int v)] := hl
  have hts : ∀ w ∈ rg_tbl, w.before args s = true := fun w h => hts w (List.mem_cons_of_mem _ h)
  have hok := hrep.1
  have hn1 : 1 ≤ n := hok.1
  have hn60 : n ≤ 60 := hok.2.1
  have hb4 : b < 4 := hok.2.2.2.2.2.2.2.1
  have hTb : T b < n := (hok.2.2.2.2.2.2.1 b hb4).1
  have hpt : pt b = nI (T b) := (hrep.2.2.2.2.2.2 b hb4).1
  have hyc : rg_CR (rec (T b)) (Rr (T b)) := hrep.2.2.2.2.1 (T b) hTb
  refine lv_iload_n hx hb dG_put_0 rfl (lv_at hl 1 rfl) ?_
  refine lv_iconst (v := nI 0) hx hb dG_put_1 (by decide) ?_
  refine rg_callv hD hS hA (va_runS (As := [.int (nI k), .int (nI 0)]) (rest := []) ⟨hx, hb, hml, hown, hts⟩ (c_G_requireKind k 0 (by omega) (by omega) _) (va_cwS 2 hts (rg_gSx tw_159 tw_160 tw_1 tw_161) rfl rfl rfl (by decide +kernel) ⟨by rw [hR]; exact Nat.le_of_ble_eq_true rfl, by rw [hR]; exact Nat.le_of_ble_eq_true rfl⟩) (rg_preS rfl hK hP hD) rfl rfl hl.1 rfl (lv_room (Nat.le_of_ble_eq_true rfl)) dG_put_2 ⟨Nat.zero_le _, Nat.zero_le _⟩) (fun u2 H locs hw3 hP hD hS => ?_)
  have hP : va_P (dC, dI) rg_cl (gw_W ad fo fa ur cI cL cF cA rec fp sp an nn (nI n) pt un uc (nI b) lc) H := hP
  have hD : va_D A (gw_W ad fo fa ur cI cL cF cA rec fp sp an nn (nI n) pt un uc (nI b) lc) := hD
  refine lv_aload_n hx hb dG_put_5 rfl (lv_at hl 0 rfl) ?_
  refine rg_callv hD hS hA (va_runV (As := []) (rest := []) ⟨hx, hb, hml, hown, hts⟩ (c_G_draftPresent b (T b) (by omega) (by omega) hpt _) (cwV 0 hts (rg_gV tw_231 tw_233 ts_G_draftPresent tw_1 tw_234) rfl rfl rfl (by decide +kernel) ⟨by rw [hR]; exact Nat.le_of_ble_eq_true rfl, by rw [hR]; exact Nat.le_of_ble_eq_true rfl⟩) (rg_preV rfl hK hP hD (ci := 1) (q0 := 0) rfl rfl) rfl rfl hl.1 rfl (lv_room (Nat.le_of_ble_eq_true rfl)) dG_put_6 ⟨Nat.zero_le _, Nat.zero_le _⟩) (fun u5 H locs hw6 hP hD hS => ?_)
  have hP : va_P (dC, dI) rg_cl (gw_W ad fo fa ur cI cL cF cA (va_up rec 60 (va_cpy (rec (T b)) (rec 60) 0 0 24)) fp sp an nn (nI n) pt un uc (nI b) lc) H := hP
  have hD : va_D A (gw_W ad fo fa ur cI cL cF cA (va_up rec 60 (va_cpy (rec (T b)) (rec 60) 0 0 24)) fp sp an nn (nI n) pt un uc (nI b) lc) := hD
  refine lv_aload_n hx hb dG_put_9 rfl (lv_at hl 0 rfl) ?_
  refine va_get (D := (dC, dI)) (ci := 1) (C := "RevisionGrove") (T := TG) (N := 4) hx hb hts inG hown hK hP 0 rfl rfl 2 (by decide) (hts _ tw_88) (fun _ h9 => h9) rfl dG_put_10 ?_
  refine lv_iload_n hx hb dG_put_13 rfl (lv_at hl 1 rfl) ?_
  refine lv_iload_n hx hb dG_put_14 rfl (lv_at hl 2 rfl) ?_
  refine lv_i2l (v := v.toInt64) hx hb dG_put_15 rfl ?_
  refine rg_callv hD hS hA (va_runV (As := [.int (nI k), .long v.toInt64]) (rest := []) ⟨hx, hb, hml, hown, hts⟩ (c_F_setCell 60 k (by omega) (by omega) v.toInt64 _) (cwV 2 hts (rg_gV tw_244 tw_245 tw_246 tw_3 tw_247) rfl rfl rfl (by decide +kernel) ⟨by rw [hR]; exact Nat.le_of_ble_eq_true rfl, by rw [hR]; exact Nat.le_of_ble_eq_true rfl⟩) (rg_preV rfl hK hP hD (ci := 4) (q0 := (11 + (4 + 60))) rfl (gw_obj (by omega))) rfl rfl hl.1 rfl (lv_room (Nat.le_of_ble_eq_true rfl)) dG_put_16 ⟨Nat.zero_le _, Nat.zero_le _⟩) (fun u8 H locs hw9 hP hD hS => ?_)
  have hP : va_P (dC, dI) rg_cl (gw_W ad fo fa ur cI cL cF cA (va_up (va_up rec 60 (va_cpy (rec (T b)) (rec 60) 0 0 24)) 60 (vp_updL ((va_up rec 60 (va_cpy (rec (T b)) (rec 60) 0 0 24)) 60) k v.toInt64)) fp sp an nn (nI n) pt un uc (nI b) lc) H := hP
  have hD : va_D A (gw_W ad fo fa ur cI cL cF cA (va_up (va_up rec 60 (va_cpy (rec (T b)) (rec 60) 0 0 24)) 60 (vp_updL ((va_up rec 60 (va_cpy (rec (T b)) (rec 60) 0 0 24)) 60) k v.toInt64)) fp sp an nn (nI n) pt un uc (nI b) lc) := hD
  obtain ⟨d9, hd9⟩ : ∃ d9, d9 = (va_up (va_up rec 60 (va_cpy (rec (T b)) (rec 60) 0 0 24)) 60 (vp_updL ((va_up rec 60 (va_cpy (rec (T b)) (rec 60) 0 0 24)) 60) k v.toInt64)) 60 := ⟨_, rfl⟩
  have hrc9 : va_up (va_up rec 60 (va_cpy (rec (T b)) (rec 60) 0 0 24)) 60 (vp_updL ((va_up rec 60 (va_cpy (rec (T b)) (rec 60) 0 0 24)) 60) k v.toInt64) = va_up rec 60 d9 := by rw [hd9]; simp only [rg_upup, rg_ups]
  rw [hrc9] at hP hD
  simp only [rg_ups] at hd9
  have hP : va_P (dC, dI) rg_cl (gw_W ad fo fa ur cI cL cF cA (va_up rec 60 d9) fp sp an nn (nI n) pt un uc (nI b) lc) H := hP
  have hD : va_D A (gw_W ad fo fa ur cI cL cF cA (va_up rec 60 d9) fp sp an nn (nI n) pt un uc (nI b) lc) := hD
  have hX9 : rg_CR d9 (rg_setN (Rr (T b)) k v) := by rw [hd9]; exact rg_CR_setN (rg_CR_cpy hyc) hk2
  have hXc : rg_CR ((va_up rec 60 d9) 60) (rg_setN (Rr (T b)) k v) := by rw [rg_ups]; exact hX9
  have hYc : rg_CR ((va_up rec 60 d9) (T b)) (Rr (T b)) := by rw [rg_upn _ _ (by omega)]; exact hyc
  have hr9 : gw_Rep (va_up rec 60 d9) fp sp an (nI n) pt un uc (nI b) lc (n, Rr, P1, P2, T, U, b, lc) := gw_Rep_rec hrep (fun r9 h9 => rg_upn _ _ (by have h9 : r9 < n := h9; omega))
  refine lv_aload_n hx hb dG_put_19 rfl (lv_at hl 0 rfl) ?_
  refine lv_iload_n hx hb dG_put_20 rfl (lv_at hl 1 rfl) ?_
  refine rg_calli hD hS hA (va_runV (As := [.int (nI k)]) (rest := []) ⟨hx, hb, hml, hown, hts⟩ (c_G_comeToChanged_s n b (T b) k (by omega) (by omega) (by omega) (by omega) hpt (rg_setN (Rr (T b)) k v) (Rr (T b)) hXc hYc hs _) (cwV 1 hts (rg_gV tw_248 tw_250 ts_G_comeToChanged tw_1 tw_251) rfl rfl rfl (by decide +kernel) ⟨by rw [hR]; exact Nat.le_of_ble_eq_true rfl, by rw [hR]; exact Nat.le_of_ble_eq_true rfl⟩) (rg_preV rfl hK hP hD (ci := 1) (q0 := 0) rfl rfl) rfl rfl hl.1 rfl (lv_room (Nat.le_of_ble_eq_true rfl)) dG_put_21 ⟨Nat.zero_le _, Nat.zero_le _⟩) (fun r10 u11 H locs hw12 hP hD hS => ?_)
  subst hw12
  have hP : va_P (dC, dI) rg_cl (gw_W ad fo fa ur cI cL cF cA (va_up rec 60 d9) fp sp an nn (nI n) pt un uc (nI b) lc) H := hP
  have hD : va_D A (gw_W ad fo fa ur cI cL cF cA (va_up rec 60 d9) fp sp an nn (nI n) pt un uc (nI b) lc) := hD
  rw [hQ]
  exact rg_iret hx hb hr hlk hK hP hD hS dG_put_24 (va_up rec 60 d9, fp, sp, an, nn, nI n, pt, un, uc, nI b, lc) rfl (by rw [rg_chg_same (g := (n, Rr, P1, P2, T, U, b, lc)) ((rg_one_diff (f := k) (by omega) (rg_sf_setN hk2)).mpr hs)]; exact ⟨hr9, rfl, rfl⟩)
set_option maxHeartbeats 4000000 in
set_option maxRecDepth 100000 in
theorem c_G_put_n {l : Launch} {dC : Nat → ClassId} {dI : Nat → Nat → Nat} {ad fo fa ur : Nat → Nat} {cI cL cF cA : ClassId} {rec : Nat → Nat → Int64} {fp : Nat → Int32} {sp : Nat → Int32} {an : Nat → Int64} {nn : Nat → Int32} {pt : Nat → Int32} {un : Nat → Nat → Int32} {uc : Nat → Int32} {lc : Int32} (n b : Nat) (Rr : Nat → rg_R) (P1 P2 : Nat → Int32) (T : Nat → Nat) (U : Nat → List Nat) (k : Nat) (hk2 : k < 2) (v : Int32) (hs : rg_sf (rg_setN (Rr (T b)) k v) (Rr (T b)) (k) = false) (hn9 : n < 60) (hrep : gw_Rep rec fp sp an (nI n) pt un uc (nI b) lc (n, Rr, P1, P2, T, U, b, lc)) : rg_M l yG_put (Cond.code yG_put prog_1_method_2_code 3 (some .int) :: rg_tbl) { frames := 5, cells := 0, slots := 0, locals := 118 } (dC, dI) rg_cl (gw_tys cI cL cF cA) (gw_W ad fo fa ur cI cL cF cA rec fp sp an nn (nI n) pt un uc (nI b) lc) [.ref ((ad 0)), .int (nI k), .int v] (rg_QI (dC, dI) rg_cl (gw_tys cI cL cF cA) (S := gw_S) (gw_Po (rg_chg 2 (n, Rr, P1, P2, T, U, b, lc) (rg_setN (Rr (T b)) k v))) (fun u => gw_Wu ad fo fa ur cI cL cF cA u)) 0 0 := by
  refine rg_of prog_1_method_2_code 3 (some .int) (by decide) rfl (Nat.le_of_ble_eq_true rfl) ?_
  intro p e R s m args below meth c Q A H locs ls hR hQ hx hb hml hr hts hown hlk hnm hP hK hD hA hS hl
  have hl : lv_has ls 3 [(0, .ref ((ad 0))), (1, .int (nI k)), (2, .int v)] := hl
  have hts : ∀ w ∈ rg_tbl, w.before args s = true := fun w h => hts w (List.mem_cons_of_mem _ h)
  have hok := hrep.1
  have hn1 : 1 ≤ n := hok.1
  have hn60 : n ≤ 60 := hok.2.1
  have hb4 : b < 4 := hok.2.2.2.2.2.2.2.1
  have hTb : T b < n := (hok.2.2.2.2.2.2.1 b hb4).1
  have hpt : pt b = nI (T b) := (hrep.2.2.2.2.2.2 b hb4).1
  have hyc : rg_CR (rec (T b)) (Rr (T b)) := hrep.2.2.2.2.1 (T b) hTb
  refine lv_iload_n hx hb dG_put_0 rfl (lv_at hl 1 rfl) ?_
  refine lv_iconst (v := nI 0) hx hb dG_put_1 (by decide) ?_
  refine rg_callv hD hS hA (va_runS (As := [.int (nI k), .int (nI 0)]) (rest := []) ⟨hx, hb, hml, hown, hts⟩ (c_G_requireKind k 0 (by omega) (by omega) _) (va_cwS 2 hts (rg_gSx tw_159 tw_160 tw_1 tw_161) rfl rfl rfl (by decide +kernel) ⟨by rw [hR]; exact Nat.le_of_ble_eq_true rfl, by rw [hR]; exact Nat.le_of_ble_eq_true rfl⟩) (rg_preS rfl hK hP hD) rfl rfl hl.1 rfl (lv_room (Nat.le_of_ble_eq_true rfl)) dG_put_2 ⟨Nat.zero_le _, Nat.zero_le _⟩) (fun u2 H locs hw3 hP hD hS => ?_)
  have hP : va_P (dC, dI) rg_cl (gw_W ad fo fa ur cI cL cF cA rec fp sp an nn (nI n) pt un uc (nI b) lc) H := hP
  have hD : va_D A (gw_W ad fo fa ur cI cL cF cA rec fp sp an nn (nI n) pt un uc (nI b) lc) := hD
  refine lv_aload_n hx hb dG_put_5 rfl (lv_at hl 0 rfl) ?_
  refine rg_callv hD hS hA (va_runV (As := []) (rest := []) ⟨hx, hb, hml, hown, hts⟩ (c_G_draftPresent b (T b) (by omega) (by omega) hpt _) (cwV 0 hts (rg_gV tw_231 tw_233 ts_G_draftPresent tw_1 tw_234) rfl rfl rfl (by decide +kernel) ⟨by rw [hR]; exact Nat.le_of_ble_eq_true rfl, by rw [hR]; exact Nat.le_of_ble_eq_true rfl⟩) (rg_preV rfl hK hP hD (ci := 1) (q0 := 0) rfl rfl) rfl rfl hl.1 rfl (lv_room (Nat.le_of_ble_eq_true rfl)) dG_put_6 ⟨Nat.zero_le _, Nat.zero_le _⟩) (fun u5 H locs hw6 hP hD hS => ?_)
  have hP : va_P (dC, dI) rg_cl (gw_W ad fo fa ur cI cL cF cA (va_up rec 60 (va_cpy (rec (T b)) (rec 60) 0 0 24)) fp sp an nn (nI n) pt un uc (nI b) lc) H := hP
  have hD : va_D A (gw_W ad fo fa ur cI cL cF cA (va_up rec 60 (va_cpy (rec (T b)) (rec 60) 0 0 24)) fp sp an nn (nI n) pt un uc (nI b) lc) := hD
  refine lv_aload_n hx hb dG_put_9 rfl (lv_at hl 0 rfl) ?_
  refine va_get (D := (dC, dI)) (ci := 1) (C := "RevisionGrove") (T := TG) (N := 4) hx hb hts inG hown hK hP 0 rfl rfl 2 (by decide) (hts _ tw_88) (fun _ h9 => h9) rfl dG_put_10 ?_
  refine lv_iload_n hx hb dG_put_13 rfl (lv_at hl 1 rfl) ?_
  refine lv_iload_n hx hb dG_put_14 rfl (lv_at hl 2 rfl) ?_
  refine lv_i2l (v := v.toInt64) hx hb dG_put_15 rfl ?_
  refine rg_callv hD hS hA (va_runV (As := [.int (nI k), .long v.toInt64]) (rest := []) ⟨hx, hb, hml, hown, hts⟩ (c_F_setCell 60 k (by omega) (by omega) v.toInt64 _) (cwV 2 hts (rg_gV tw_244 tw_245 tw_246 tw_3 tw_247) rfl rfl rfl (by decide +kernel) ⟨by rw [hR]; exact Nat.le_of_ble_eq_true rfl, by rw [hR]; exact Nat.le_of_ble_eq_true rfl⟩) (rg_preV rfl hK hP hD (ci := 4) (q0 := (11 + (4 + 60))) rfl (gw_obj (by omega))) rfl rfl hl.1 rfl (lv_room (Nat.le_of_ble_eq_true rfl)) dG_put_16 ⟨Nat.zero_le _, Nat.zero_le _⟩) (fun u8 H locs hw9 hP hD hS => ?_)
  have hP : va_P (dC, dI) rg_cl (gw_W ad fo fa ur cI cL cF cA (va_up (va_up rec 60 (va_cpy (rec (T b)) (rec 60) 0 0 24)) 60 (vp_updL ((va_up rec 60 (va_cpy (rec (T b)) (rec 60) 0 0 24)) 60) k v.toInt64)) fp sp an nn (nI n) pt un uc (nI b) lc) H := hP
  have hD : va_D A (gw_W ad fo fa ur cI cL cF cA (va_up (va_up rec 60 (va_cpy (rec (T b)) (rec 60) 0 0 24)) 60 (vp_updL ((va_up rec 60 (va_cpy (rec (T b)) (rec 60) 0 0 24)) 60) k v.toInt64)) fp sp an nn (nI n) pt un uc (nI b) lc) := hD
  obtain ⟨d9, hd9⟩ : ∃ d9, d9 = (va_up (va_up rec 60 (va_cpy (rec (T b)) (rec 60) 0 0 24)) 60 (vp_updL ((va_up rec 60 (va_cpy (rec (T b)) (rec 60) 0 0 24)) 60) k v.toInt64)) 60 := ⟨_, rfl⟩
  have hrc9 : va_up (va_up rec 60 (va_cpy (rec (T b)) (rec 60) 0 0 24)) 60 (vp_updL ((va_up rec 60 (va_cpy (rec (T b)) (rec 60) 0 0 24)) 60) k v.toInt64) = va_up rec 60 d9 := by rw [hd9]; simp only [rg_upup, rg_ups]
  rw [hrc9] at hP hD
  simp only [rg_ups] at hd9
  have hP : va_P (dC, dI) rg_cl (gw_W ad fo fa ur cI cL cF cA (va_up rec 60 d9) fp sp an nn (nI n) pt un uc (nI b) lc) H := hP
  have hD : va_D A (gw_W ad fo fa ur cI cL cF cA (va_up rec 60 d9) fp sp an nn (nI n) pt un uc (nI b) lc) := hD
  have hX9 : rg_CR d9 (rg_setN (Rr (T b)) k v) := by rw [hd9]; exact rg_CR_setN (rg_CR_cpy hyc) hk2
  have hXc : rg_CR ((va_up rec 60 d9) 60) (rg_setN (Rr (T b)) k v) := by rw [rg_ups]; exact hX9
  have hYc : rg_CR ((va_up rec 60 d9) (T b)) (Rr (T b)) := by rw [rg_upn _ _ (by omega)]; exact hyc
  have hr9 : gw_Rep (va_up rec 60 d9) fp sp an (nI n) pt un uc (nI b) lc (n, Rr, P1, P2, T, U, b, lc) := gw_Rep_rec hrep (fun r9 h9 => rg_upn _ _ (by have h9 : r9 < n := h9; omega))
  refine lv_aload_n hx hb dG_put_19 rfl (lv_at hl 0 rfl) ?_
  refine lv_iload_n hx hb dG_put_20 rfl (lv_at hl 1 rfl) ?_
  refine rg_calli hD hS hA (va_runV (As := [.int (nI k)]) (rest := []) ⟨hx, hb, hml, hown, hts⟩ (c_G_comeToChanged_n n b (T b) k (by omega) (by omega) (by omega) (by omega) hpt (rg_setN (Rr (T b)) k v) (Rr (T b)) hXc hYc hs hn9 _) (cwV 1 hts (rg_gV tw_248 tw_250 ts_G_comeToChanged tw_1 tw_251) rfl rfl rfl (by decide +kernel) ⟨by rw [hR]; exact Nat.le_of_ble_eq_true rfl, by rw [hR]; exact Nat.le_of_ble_eq_true rfl⟩) (rg_preV rfl hK hP hD (ci := 1) (q0 := 0) rfl rfl) rfl rfl hl.1 rfl (lv_room (Nat.le_of_ble_eq_true rfl)) dG_put_21 ⟨Nat.zero_le _, Nat.zero_le _⟩) (fun r10 u11 H locs hw12 hP hD hS => ?_)
  subst hw12
  have hP : va_P (dC, dI) rg_cl (gw_W ad fo fa ur cI cL cF cA (va_up (va_up rec 60 d9) n (va_cpy ((va_up rec 60 d9) 60) ((va_up rec 60 d9) n) 0 0 24)) (upd fp n (nI (T b))) (upd sp n (-1)) (vp_updL an n ((((1 : Int64) <<< ((nI n).toInt64 &&& 63)) ||| (rg_ax an (nI (T b)))) ||| (rg_ax an (-1)))) nn (nI (n + 1)) (upd pt b (nI n)) un (upd uc b (nI 0)) (nI b) lc) H := hP
  have hD : va_D A (gw_W ad fo fa ur cI cL cF cA (va_up (va_up rec 60 d9) n (va_cpy ((va_up rec 60 d9) 60) ((va_up rec 60 d9) n) 0 0 24)) (upd fp n (nI (T b))) (upd sp n (-1)) (vp_updL an n ((((1 : Int64) <<< ((nI n).toInt64 &&& 63)) ||| (rg_ax an (nI (T b)))) ||| (rg_ax an (-1)))) nn (nI (n + 1)) (upd pt b (nI n)) un (upd uc b (nI 0)) (nI b) lc) := hD
  rw [hQ]
  exact rg_iret hx hb hr hlk hK hP hD hS dG_put_24 (va_up (va_up rec 60 d9) n (va_cpy ((va_up rec 60 d9) 60) ((va_up rec 60 d9) n) 0 0 24), upd fp n (nI (T b)), upd sp n (-1), vp_updL an n ((((1 : Int64) <<< ((nI n).toInt64 &&& 63)) ||| (rg_ax an (nI (T b)))) ||| (rg_ax an (-1))), nn, nI (n + 1), upd pt b (nI n), un, upd uc b (nI 0), nI b, lc) rfl (by rw [rg_chg_new (g := (n, Rr, P1, P2, T, U, b, lc)) (fun q => by rw [(rg_one_diff (f := k) (by omega) (rg_sf_setN hk2)).mp q] at hs; cases hs) (by show ¬ n = 60; omega)]; exact ⟨gw_Rep_new (g := (n, Rr, P1, P2, T, U, b, lc)) hr9 hXc hn9 (Or.inl rfl), rfl, rfl⟩)
set_option maxHeartbeats 4000000 in
set_option maxRecDepth 100000 in
theorem c_G_put_x {l : Launch} {dC : Nat → ClassId} {dI : Nat → Nat → Nat} {ad fo fa ur : Nat → Nat} {cI cL cF cA : ClassId} {rec : Nat → Nat → Int64} {fp : Nat → Int32} {sp : Nat → Int32} {an : Nat → Int64} {nn : Nat → Int32} {pt : Nat → Int32} {un : Nat → Nat → Int32} {uc : Nat → Int32} {lc : Int32} (hlt : l.stackTraces = false) (b : Nat) (Rr : Nat → rg_R) (P1 P2 : Nat → Int32) (T : Nat → Nat) (U : Nat → List Nat) (k : Nat) (hk2 : k < 2) (v : Int32) (hs : rg_sf (rg_setN (Rr (T b)) k v) (Rr (T b)) (k) = false) (hrep : gw_Rep rec fp sp an (nI 60) pt un uc (nI b) lc (60, Rr, P1, P2, T, U, b, lc)) : rx_M l yG_put (Cond.code yG_put prog_1_method_2_code 3 (some .int) :: rg_tbl) { frames := 8, cells := 1, slots := 6, locals := 133 } (dC, dI) rg_cl (gw_tys cI cL cF cA) (gw_W ad fo fa ur cI cL cF cA rec fp sp an nn (nI 60) pt un uc (nI b) lc) [.ref ((ad 0)), .int (nI k), .int v] (rg_QI (dC, dI) rg_cl (gw_tys cI cL cF cA) (S := Unit) (fun _ _ => False) (fun _ => gw_W ad fo fa ur cI cL cF cA rec fp sp an nn (nI 60) pt un uc (nI b) lc)) (rx_X (dC, dI) rg_cl (gw_tys cI cL cF cA) (S := gw_S) (gw_Px "java/lang/IllegalStateException" (60, Rr, P1, P2, T, U, b, lc)) (fun u => gw_Wu ad fo fa ur cI cL cF cA u)) 1 6 := by
  refine rx_of prog_1_method_2_code 3 (some .int) (by decide) rfl (Nat.le_of_ble_eq_true rfl) ?_
  intro p e R s m args below meth c Q A H locs ls hR hQ hx hb hml hr hts hown hlk hnm hno hT hP hK hD hA hS hl
  have hl : lv_has ls 3 [(0, .ref ((ad 0))), (1, .int (nI k)), (2, .int v)] := hl
  have hts : ∀ w ∈ rg_tbl, w.before args s = true := fun w h => hts w (List.mem_cons_of_mem _ h)
  have hok := hrep.1
  have hb4 : b < 4 := hok.2.2.2.2.2.2.2.1
  have hTb : T b < 60 := (hok.2.2.2.2.2.2.1 b hb4).1
  have hpt : pt b = nI (T b) := (hrep.2.2.2.2.2.2 b hb4).1
  have hyc : rg_CR (rec (T b)) (Rr (T b)) := hrep.2.2.2.2.1 (T b) hTb
  refine lv_iload_n hx hb dG_put_0 rfl (lv_at hl 1 rfl) ?_
  refine lv_iconst (v := nI 0) hx hb dG_put_1 (by decide) ?_
  refine rg_callv hD hS hA (va_runS (As := [.int (nI k), .int (nI 0)]) (rest := []) ⟨hx, hb, hml, hown, hts⟩ (c_G_requireKind k 0 (by omega) (by omega) _) (va_cwS 2 hts (rg_gSx tw_159 tw_160 tw_1 tw_161) rfl rfl rfl (by decide +kernel) ⟨by rw [hR]; exact Nat.le_of_ble_eq_true rfl, by rw [hR]; exact Nat.le_of_ble_eq_true rfl⟩) (rg_preS rfl hK hP hD) rfl rfl hl.1 rfl (lv_room (Nat.le_of_ble_eq_true rfl)) dG_put_2 ⟨Nat.zero_le _, Nat.zero_le _⟩) (fun u2 H locs hw3 hP hD hS => ?_)
  have hP : va_P (dC, dI) rg_cl (gw_W ad fo fa ur cI cL cF cA rec fp sp an nn (nI 60) pt un uc (nI b) lc) H := hP
  have hD : va_D A (gw_W ad fo fa ur cI cL cF cA rec fp sp an nn (nI 60) pt un uc (nI b) lc) := hD
  refine lv_aload_n hx hb dG_put_5 rfl (lv_at hl 0 rfl) ?_
  refine rg_callv hD hS hA (va_runV (As := []) (rest := []) ⟨hx, hb, hml, hown, hts⟩ (c_G_draftPresent b (T b) (by omega) (by omega) hpt _) (cwV 0 hts (rg_gV tw_231 tw_233 ts_G_draftPresent tw_1 tw_234) rfl rfl rfl (by decide +kernel) ⟨by rw [hR]; exact Nat.le_of_ble_eq_true rfl, by rw [hR]; exact Nat.le_of_ble_eq_true rfl⟩) (rg_preV rfl hK hP hD (ci := 1) (q0 := 0) rfl rfl) rfl rfl hl.1 rfl (lv_room (Nat.le_of_ble_eq_true rfl)) dG_put_6 ⟨Nat.zero_le _, Nat.zero_le _⟩) (fun u5 H locs hw6 hP hD hS => ?_)
  have hP : va_P (dC, dI) rg_cl (gw_W ad fo fa ur cI cL cF cA (va_up rec 60 (va_cpy (rec (T b)) (rec 60) 0 0 24)) fp sp an nn (nI 60) pt un uc (nI b) lc) H := hP
  have hD : va_D A (gw_W ad fo fa ur cI cL cF cA (va_up rec 60 (va_cpy (rec (T b)) (rec 60) 0 0 24)) fp sp an nn (nI 60) pt un uc (nI b) lc) := hD
  refine lv_aload_n hx hb dG_put_9 rfl (lv_at hl 0 rfl) ?_
  refine va_get (D := (dC, dI)) (ci := 1) (C := "RevisionGrove") (T := TG) (N := 4) hx hb hts inG hown hK hP 0 rfl rfl 2 (by decide) (hts _ tw_88) (fun _ h9 => h9) rfl dG_put_10 ?_
  refine lv_iload_n hx hb dG_put_13 rfl (lv_at hl 1 rfl) ?_
  refine lv_iload_n hx hb dG_put_14 rfl (lv_at hl 2 rfl) ?_
  refine lv_i2l (v := v.toInt64) hx hb dG_put_15 rfl ?_
  refine rg_callv hD hS hA (va_runV (As := [.int (nI k), .long v.toInt64]) (rest := []) ⟨hx, hb, hml, hown, hts⟩ (c_F_setCell 60 k (by omega) (by omega) v.toInt64 _) (cwV 2 hts (rg_gV tw_244 tw_245 tw_246 tw_3 tw_247) rfl rfl rfl (by decide +kernel) ⟨by rw [hR]; exact Nat.le_of_ble_eq_true rfl, by rw [hR]; exact Nat.le_of_ble_eq_true rfl⟩) (rg_preV rfl hK hP hD (ci := 4) (q0 := (11 + (4 + 60))) rfl (gw_obj (by omega))) rfl rfl hl.1 rfl (lv_room (Nat.le_of_ble_eq_true rfl)) dG_put_16 ⟨Nat.zero_le _, Nat.zero_le _⟩) (fun u8 H locs hw9 hP hD hS => ?_)
  have hP : va_P (dC, dI) rg_cl (gw_W ad fo fa ur cI cL cF cA (va_up (va_up rec 60 (va_cpy (rec (T b)) (rec 60) 0 0 24)) 60 (vp_updL ((va_up rec 60 (va_cpy (rec (T b)) (rec 60) 0 0 24)) 60) k v.toInt64)) fp sp an nn (nI 60) pt un uc (nI b) lc) H := hP
  have hD : va_D A (gw_W ad fo fa ur cI cL cF cA (va_up (va_up rec 60 (va_cpy (rec (T b)) (rec 60) 0 0 24)) 60 (vp_updL ((va_up rec 60 (va_cpy (rec (T b)) (rec 60) 0 0 24)) 60) k v.toInt64)) fp sp an nn (nI 60) pt un uc (nI b) lc) := hD
  obtain ⟨d9, hd9⟩ : ∃ d9, d9 = (va_up (va_up rec 60 (va_cpy (rec (T b)) (rec 60) 0 0 24)) 60 (vp_updL ((va_up rec 60 (va_cpy (rec (T b)) (rec 60) 0 0 24)) 60) k v.toInt64)) 60 := ⟨_, rfl⟩
  have hrc9 : va_up (va_up rec 60 (va_cpy (rec (T b)) (rec 60) 0 0 24)) 60 (vp_updL ((va_up rec 60 (va_cpy (rec (T b)) (rec 60) 0 0 24)) 60) k v.toInt64) = va_up rec 60 d9 := by rw [hd9]; simp only [rg_upup, rg_ups]
  rw [hrc9] at hP hD
  simp only [rg_ups] at hd9
  have hP : va_P (dC, dI) rg_cl (gw_W ad fo fa ur cI cL cF cA (va_up rec 60 d9) fp sp an nn (nI 60) pt un uc (nI b) lc) H := hP
  have hD : va_D A (gw_W ad fo fa ur cI cL cF cA (va_up rec 60 d9) fp sp an nn (nI 60) pt un uc (nI b) lc) := hD
  have hX9 : rg_CR d9 (rg_setN (Rr (T b)) k v) := by rw [hd9]; exact rg_CR_setN (rg_CR_cpy hyc) hk2
  have hXc : rg_CR ((va_up rec 60 d9) 60) (rg_setN (Rr (T b)) k v) := by rw [rg_ups]; exact hX9
  have hYc : rg_CR ((va_up rec 60 d9) (T b)) (Rr (T b)) := by rw [rg_upn _ _ (by omega)]; exact hyc
  have hr9 : gw_Rep (va_up rec 60 d9) fp sp an (nI 60) pt un uc (nI b) lc (60, Rr, P1, P2, T, U, b, lc) := gw_Rep_rec hrep (fun r9 h9 => rg_upn _ _ (by have h9 : r9 < 60 := h9; omega))
  refine lv_aload_n hx hb dG_put_19 rfl (lv_at hl 0 rfl) ?_
  refine lv_iload_n hx hb dG_put_20 rfl (lv_at hl 1 rfl) ?_
  exact rx_calli hQ (fun E u h => ⟨(va_up rec 60 d9, fp, sp, an, nn, nI 60, pt, un, uc, nI b, lc), ⟨h, hr9⟩, rfl⟩) hno hlk hD hS hA (Nat.le_of_ble_eq_true rfl) (Nat.le_of_ble_eq_true rfl) (vx_runV (As := [.int (nI k)]) (rest := []) ⟨hx, hb, hml, hown, hts⟩ (c_G_comeToChanged_x hlt b (T b) k (by omega) (by omega) (by omega) hpt (rg_setN (Rr (T b)) k v) (Rr (T b)) hXc hYc hs _) (cwV 1 hts (rg_gV tw_248 tw_250 ts_G_comeToChanged tw_1 tw_251) rfl rfl rfl (by decide +kernel) ⟨(by rw [hR]; exact Nat.le_of_ble_eq_true rfl), (by rw [hR]; exact Nat.le_of_ble_eq_true rfl)⟩) (rx_preV rfl hT hS hA hK hP hD (ci := 1) (q0 := 0) rfl rfl) rfl rfl hl.1 rfl (lv_room (Nat.le_of_ble_eq_true rfl)) dG_put_21 ⟨(by rw [hR]; exact Nat.le_of_ble_eq_true rfl), (by rw [hR]; exact Nat.le_of_ble_eq_true rfl)⟩) (fun _ _ _ _ h9 => h9.elim)
set_option maxHeartbeats 4000000 in
set_option maxRecDepth 100000 in
theorem c_G_put_xf {l : Launch} {dC : Nat → ClassId} {dI : Nat → Nat → Nat} {ad fo fa ur : Nat → Nat} {cI cL cF cA : ClassId} {rec : Nat → Nat → Int64} {fp : Nat → Int32} {sp : Nat → Int32} {an : Nat → Int64} {nn : Nat → Int32} {pt : Nat → Int32} {un : Nat → Nat → Int32} {uc : Nat → Int32} {lc : Int32} (hlt : l.stackTraces = false) (n b : Nat) (Rr : Nat → rg_R) (P1 P2 : Nat → Int32) (T : Nat → Nat) (U : Nat → List Nat) (f v : Int32) (hk0 : ¬ f = 0) (hk1 : ¬ f = 1) (hrep : gw_Rep rec fp sp an (nI n) pt un uc (nI b) lc (n, Rr, P1, P2, T, U, b, lc)) : rx_M l yG_put (Cond.code yG_put prog_1_method_2_code 3 (some .int) :: rg_tbl) { frames := 8, cells := 1, slots := 6, locals := 133 } (dC, dI) rg_cl (gw_tys cI cL cF cA) (gw_W ad fo fa ur cI cL cF cA rec fp sp an nn (nI n) pt un uc (nI b) lc) [.ref ((ad 0)), .int f, .int v] (rg_QI (dC, dI) rg_cl (gw_tys cI cL cF cA) (S := Unit) (fun _ _ => False) (fun _ => gw_W ad fo fa ur cI cL cF cA rec fp sp an nn (nI n) pt un uc (nI b) lc)) (rx_X (dC, dI) rg_cl (gw_tys cI cL cF cA) (S := gw_S) (gw_Px "java/lang/IllegalArgumentException" (n, Rr, P1, P2, T, U, b, lc)) (fun u => gw_Wu ad fo fa ur cI cL cF cA u)) 1 6 := by
  refine rx_of prog_1_method_2_code 3 (some .int) (by decide) rfl (Nat.le_of_ble_eq_true rfl) ?_
  intro p e R s m args below meth c Q A H locs ls hR hQ hx hb hml hr hts hown hlk hnm hno hT hP hK hD hA hS hl
  have hl : lv_has ls 3 [(0, .ref ((ad 0))), (1, .int f), (2, .int v)] := hl
  have hts : ∀ w ∈ rg_tbl, w.before args s = true := fun w h => hts w (List.mem_cons_of_mem _ h)
  refine lv_iload_n hx hb dG_put_0 rfl (lv_at hl 1 rfl) ?_
  refine lv_iconst (v := nI 0) hx hb dG_put_1 (by decide) ?_
  exact rx_callv hQ (fun E u h => ⟨(rec, fp, sp, an, nn, nI n, pt, un, uc, nI b, lc), ⟨h, hrep⟩, rfl⟩) hno hlk hD hS hA (Nat.le_of_ble_eq_true rfl) (Nat.le_of_ble_eq_true rfl) (vx_runS (As := [.int f, .int (nI 0)]) (rest := []) ⟨hx, hb, hml, hown, hts⟩ (c_G_requireKind_x hlt f 0 hk0 hk1 _) (va_cwS 2 hts (rg_gSx tw_159 tw_160 tw_1 tw_161) rfl rfl rfl (by decide +kernel) ⟨(by rw [hR]; exact Nat.le_of_ble_eq_true rfl), (by rw [hR]; exact Nat.le_of_ble_eq_true rfl)⟩) (rx_preS rfl hT hS hA hK hP hD) rfl rfl hl.1 rfl (lv_room (Nat.le_of_ble_eq_true rfl)) dG_put_2 ⟨(by rw [hR]; exact Nat.le_of_ble_eq_true rfl), (by rw [hR]; exact Nat.le_of_ble_eq_true rfl)⟩) (fun _ _ _ h9 => h9.elim)
