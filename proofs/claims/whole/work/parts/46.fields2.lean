set_option maxHeartbeats 4000000 in
set_option maxRecDepth 100000 in
theorem c_F_hasPlace {l : Launch} {dC : Nat → ClassId} {dI : Nat → Nat → Nat} {ad fo fa ur : Nat → Nat} {cI cL cF cA : ClassId} {rec : Nat → Nat → Int64} {fp : Nat → Int32} {sp : Nat → Int32} {an : Nat → Int64} {nn : Nat → Int32} {cnt : Int32} {pt : Nat → Int32} {un : Nat → Nat → Int32} {uc : Nat → Int32} {pr : Int32} {lc : Int32} (i k n : Nat) (hi : i < 61) (hk : k < 2) (hlen : rec i (k + 6) = lN n) (x : Int32) : rg_M l yF_hasPlace (Cond.code yF_hasPlace prog_4_method_5_code 3 (some .boolean) :: rg_tbl) { frames := 1, cells := 0, slots := 0, locals := 21 } (dC, dI) rg_cl (gw_tys cI cL cF cA) (gw_W ad fo fa ur cI cL cF cA rec fp sp an nn cnt pt un uc pr lc) [.ref ((fo i)), .int (nI (k + 6)), .int x] (rg_QI (dC, dI) rg_cl (gw_tys cI cL cF cA) (S := Unit) (fun z _ => z = bif rg_isR n x then 1 else 0) (fun _ => gw_W ad fo fa ur cI cL cF cA rec fp sp an nn cnt pt un uc pr lc)) 0 0 := by
  refine rg_of prog_4_method_5_code 3 (some .boolean) (by decide) rfl (Nat.le_of_ble_eq_true rfl) ?_
  intro p e R s m args below meth c Q A H locs ls hR hQ hx hb hml hr hts hown hlk hnm hP hK hD hA hS hl
  have hl : lv_has ls 3 [(0, .ref ((fo i))), (1, .int (nI (k + 6))), (2, .int x)] := hl
  have hts : ∀ w ∈ rg_tbl, w.before args s = true := fun w h => hts w (List.mem_cons_of_mem _ h)
  refine lv_iload_n hx hb dF_hasPlace_0 rfl (lv_at hl 2 rfl) ?_
  refine lv_if_lt (tgt := 17) hx hb dF_hasPlace_1 (by decide) (fun h1 => ?_) (fun h1 => ?_)
  · refine lv_iconst (v := nI 0) hx hb dF_hasPlace_17 (by decide) ?_
    rw [hQ]
    exact rg_zret hx hb hr hlk hK hP hD hS (by first | exact rg_b01 _ | exact Or.inl rfl | exact Or.inr rfl) dF_hasPlace_18 () rfl (by rw [show rg_isR n x = false from by unfold rg_isR; rw [decide_eq_true h1]; rfl]; rfl)
  · refine lv_iload_n hx hb dF_hasPlace_4 rfl (lv_at hl 2 rfl) ?_
    refine lv_aload_n hx hb dF_hasPlace_5 rfl (lv_at hl 0 rfl) ?_
    refine lv_iload_n hx hb dF_hasPlace_6 rfl (lv_at hl 1 rfl) ?_
    refine rg_calli hD hS hA (va_runV (As := [.int (nI (k + 6))]) (rest := [.int x]) ⟨hx, hb, hml, hown, hts⟩ (c_F_length i (k + 6) (by omega) (by omega) _) (cwV 1 hts (rg_gV tw_348 tw_324 tw_325 tw_3 tw_326) rfl rfl rfl (by decide +kernel) ⟨by rw [hR]; exact Nat.le_of_ble_eq_true rfl, by rw [hR]; exact Nat.le_of_ble_eq_true rfl⟩) (rg_preV rfl hK hP hD (ci := 4) (q0 := (11 + (4 + i))) rfl (gw_obj (by omega))) rfl rfl hl.1 rfl (lv_room (Nat.le_of_ble_eq_true rfl)) dF_hasPlace_7 ⟨Nat.zero_le _, Nat.zero_le _⟩) (fun r2 u3 H locs hw4 hP hD hS => ?_)
    subst hw4
    have hP : va_P (dC, dI) rg_cl (gw_W ad fo fa ur cI cL cF cA rec fp sp an nn cnt pt un uc pr lc) H := hP
    have hD : va_D A (gw_W ad fo fa ur cI cL cF cA rec fp sp an nn cnt pt un uc pr lc) := hD
    refine rg_top (show (.int ((rec i (k + 6)).toInt32) : Value) = .int (nI n) by rw [hlen, lN_i]) ?_
    refine lv_icmp_ge (tgt := 17) hx hb dF_hasPlace_10 (by decide) (fun h5 => ?_) (fun h5 => ?_)
    · refine lv_iconst (v := nI 0) hx hb dF_hasPlace_17 (by decide) ?_
      rw [hQ]
      exact rg_zret hx hb hr hlk hK hP hD hS (by first | exact rg_b01 _ | exact Or.inl rfl | exact Or.inr rfl) dF_hasPlace_18 () rfl (by rw [show rg_isR n x = false from by unfold rg_isR; rw [decide_eq_false h1, decide_eq_true h5]; rfl]; rfl)
    · refine lv_iconst (v := nI 1) hx hb dF_hasPlace_13 (by decide) ?_
      refine lv_goto (tgt := 18) hx hb dF_hasPlace_14 (by decide) ?_
      rw [hQ]
      exact rg_zret hx hb hr hlk hK hP hD hS (by first | exact rg_b01 _ | exact Or.inl rfl | exact Or.inr rfl) dF_hasPlace_18 () rfl (by rw [show rg_isR n x = true from by unfold rg_isR; rw [decide_eq_false h1, decide_eq_false h5]; rfl]; rfl)
set_option maxHeartbeats 4000000 in
set_option maxRecDepth 100000 in
theorem c_F_hasSamePlaces {l : Launch} {dC : Nat → ClassId} {dI : Nat → Nat → Nat} {ad fo fa ur : Nat → Nat} {cI cL cF cA : ClassId} {rec : Nat → Nat → Int64} {fp : Nat → Int32} {sp : Nat → Int32} {an : Nat → Int64} {nn : Nat → Int32} {cnt : Int32} {pt : Nat → Int32} {un : Nat → Nat → Int32} {uc : Nat → Int32} {pr : Int32} {lc : Int32} (i j f : Nat) (hi : i < 61) (hj : j < 61) (hf : f < 17) : rg_M l yF_hasSamePlaces (Cond.code yF_hasSamePlaces prog_4_method_16_code 4 (some .boolean) :: rg_tbl) { frames := 0, cells := 0, slots := 0, locals := 0 } (dC, dI) rg_cl (gw_tys cI cL cF cA) (gw_W ad fo fa ur cI cL cF cA rec fp sp an nn cnt pt un uc pr lc) [.ref ((fo i)), .ref ((fo j)), .int (nI f)] (rg_QI (dC, dI) rg_cl (gw_tys cI cL cF cA) (S := Bool) (fun z u => z = (bif u then 1 else 0) ∧ (u = true ↔ ∀ q, q < 8 → rec i (f + q) = rec j (f + q))) (fun _ => gw_W ad fo fa ur cI cL cF cA rec fp sp an nn cnt pt un uc pr lc)) 0 0 := by
  refine rg_of prog_4_method_16_code 4 (some .boolean) (by decide) rfl (Nat.le_of_ble_eq_true rfl) ?_
  intro p e R s m args below meth c Q A H locs ls hR hQ hx hb hml hr hts hown hlk hnm hP hK hD hA hS hl
  have hl : lv_has ls 4 [(0, .ref ((fo i))), (1, .ref ((fo j))), (2, .int (nI f))] := hl
  have hts : ∀ w ∈ rg_tbl, w.before args s = true := fun w h => hts w (List.mem_cons_of_mem _ h)
  refine lv_iload_n hx hb dF_hasSamePlaces_0 rfl (lv_at hl 2 rfl) ?_
  refine lv_istore_n (lv' := [(3, .int (nI f)), (0, .ref ((fo i))), (1, .ref ((fo j))), (2, .int (nI f))]) hx hb dF_hasSamePlaces_1 rfl hl (by decide) rfl (fun ls hl => ?_)
  have lp2 : ∀ (fuel : Nat) (n : Nat) (H : Heap) (locs : List Loc) (ls : Array Slot), 8 - n < fuel → n ≤ 8 → (∀ q, q < n → rec i (f + q) = rec j (f + q)) → va_P (dC, dI) rg_cl (gw_W ad fo fa ur cI cL cF cA rec fp sp an nn cnt pt un uc pr lc) H → va_D A (gw_W ad fo fa ur cI cL cF cA rec fp sp an nn cnt pt un uc pr lc) → va_S A s.heap H locs → lv_has ls 4 [(0, .ref ((fo i))), (1, .ref ((fo j))), (2, .int (nI f)), (3, .int (nI (f + n)))] → W p l e R s m args below meth c H locs 0 0 Q (F0 m 2 ls []) := by
    intro fuel
    induction fuel with
    | zero => intro n H locs ls hf; exact absurd hf (Nat.not_lt_zero _)
    | succ fuel ih2 =>
      intro n H locs ls hfu2 hn8 hall hP hD hS hl
      refine lv_iload_n hx hb dF_hasSamePlaces_2 rfl (lv_at hl 3 rfl) ?_
      refine lv_iload_n hx hb dF_hasSamePlaces_3 rfl (lv_at hl 2 rfl) ?_
      refine lv_bipush (v := nI 8) hx hb dF_hasSamePlaces_4 (by decide) ?_
      refine rg_iadd hx hb dF_hasSamePlaces_6 ?_
      refine rg_icmp_ge (tgt := 34) hx hb dF_hasSamePlaces_7 (by decide) (by omega) (by omega) (fun h1 => ?_) (fun h1 => ?_)
      · refine lv_iconst (v := nI 1) hx hb dF_hasSamePlaces_34 (by decide) ?_
        rw [hQ]
        exact rg_zret hx hb hr hlk hK hP hD hS (by first | exact Or.inl rfl | exact Or.inr rfl) dF_hasSamePlaces_35 true rfl (⟨rfl, fun _ q hq => hall q (by omega), fun _ => rfl⟩)
      · refine lv_aload_n hx hb dF_hasSamePlaces_10 rfl (lv_at hl 0 rfl) ?_
        refine va_get (D := (dC, dI)) (ci := 4) (C := "RevisionGrove$Fields") (T := TF) (N := 1) hx hb hts inF hown hK hP (11 + (4 + i)) (gw_obj (by omega)) rfl 0 (by decide) (hts _ tw_38) (fun _ h9 => h9) rfl dF_hasSamePlaces_11 ?_
        refine lv_iload_n hx hb dF_hasSamePlaces_14 rfl (lv_at hl 3 rfl) ?_
        refine gw_lald hx hb hK hP (by omega) (by omega) dF_hasSamePlaces_15 ?_
        refine lv_aload_n hx hb dF_hasSamePlaces_16 rfl (lv_at hl 1 rfl) ?_
        refine va_get (D := (dC, dI)) (ci := 4) (C := "RevisionGrove$Fields") (T := TF) (N := 1) hx hb hts inF hown hK hP (11 + (4 + j)) (gw_obj (by omega)) rfl 0 (by decide) (hts _ tw_38) (fun _ h9 => h9) rfl dF_hasSamePlaces_17 ?_
        refine lv_iload_n hx hb dF_hasSamePlaces_20 rfl (lv_at hl 3 rfl) ?_
        refine gw_lald hx hb hK hP (by omega) (by omega) dF_hasSamePlaces_21 ?_
        refine W.lcmp hx hb dF_hasSamePlaces_22 ?_
        refine lv_if_eq (tgt := 28) hx hb dF_hasSamePlaces_23 (by decide) (fun h2 => ?_) (fun h2 => ?_)
        · have heq := (rg_cmp0 _ _).mp h2
          refine lv_iinc (k := 3) (v := nI (f + n + 1)) (lv' := [(3, .int (nI (f + n + 1))), (0, .ref ((fo i))), (1, .ref ((fo j))), (2, .int (nI f))]) hx hb dF_hasSamePlaces_28 hl rfl (nI_1 _) (by decide) rfl (fun ls hl => ?_)
          refine lv_goto (tgt := 2) hx hb dF_hasSamePlaces_31 (by decide) ?_
          exact ih2 (n + 1) _ _ _ (by omega) (by omega) (lt_s hall heq) hP hD hS (lv_sub hl [1, 2, 3, 0] rfl)
        · refine lv_iconst (v := nI 0) hx hb dF_hasSamePlaces_26 (by decide) ?_
          rw [hQ]
          exact rg_zret hx hb hr hlk hK hP hD hS (by first | exact Or.inl rfl | exact Or.inr rfl) dF_hasSamePlaces_27 false rfl (⟨rfl, fun q => (by cases q), fun q => absurd ((rg_cmp0 _ _).mpr (q n (by omega))) h2⟩)
  exact lp2 _ 0 _ _ _ (Nat.lt_succ_self _) (Nat.zero_le _) (fun q hq => absurd hq (Nat.not_lt_zero q)) hP hD hS (lv_sub hl [1, 2, 3, 0] rfl)
set_option maxHeartbeats 4000000 in
set_option maxRecDepth 100000 in
theorem c_F_isSame_lo {l : Launch} {dC : Nat → ClassId} {dI : Nat → Nat → Nat} {ad fo fa ur : Nat → Nat} {cI cL cF cA : ClassId} {rec : Nat → Nat → Int64} {fp : Nat → Int32} {sp : Nat → Int32} {an : Nat → Int64} {nn : Nat → Int32} {cnt : Int32} {pt : Nat → Int32} {un : Nat → Nat → Int32} {uc : Nat → Int32} {pr : Int32} {lc : Int32} (i j f : Nat) (hi : i < 61) (hj : j < 61) (hf6 : f < 6) (X Y : rg_R) (hX : rg_CR (rec i) X) (hY : rg_CR (rec j) Y) : rg_M l yF_isSame (Cond.code yF_isSame prog_4_method_11_code 3 (some .boolean) :: rg_tbl) { frames := 1, cells := 0, slots := 0, locals := 23 } (dC, dI) rg_cl (gw_tys cI cL cF cA) (gw_W ad fo fa ur cI cL cF cA rec fp sp an nn cnt pt un uc pr lc) [.ref ((fo i)), .ref ((fo j)), .int (nI f)] (rg_QI (dC, dI) rg_cl (gw_tys cI cL cF cA) (S := Unit) (fun z _ => z = bif rg_sf X Y f then 1 else 0) (fun _ => gw_W ad fo fa ur cI cL cF cA rec fp sp an nn cnt pt un uc pr lc)) 0 0 := by
  refine rg_of prog_4_method_11_code 3 (some .boolean) (by decide) rfl (Nat.le_of_ble_eq_true rfl) ?_
  intro p e R s m args below meth c Q A H locs ls hR hQ hx hb hml hr hts hown hlk hnm hP hK hD hA hS hl
  have hl : lv_has ls 3 [(0, .ref ((fo i))), (1, .ref ((fo j))), (2, .int (nI f))] := hl
  have hts : ∀ w ∈ rg_tbl, w.before args s = true := fun w h => hts w (List.mem_cons_of_mem _ h)
  refine lv_aload_n hx hb dF_isSame_0 rfl (lv_at hl 0 rfl) ?_
  refine va_get (D := (dC, dI)) (ci := 4) (C := "RevisionGrove$Fields") (T := TF) (N := 1) hx hb hts inF hown hK hP (11 + (4 + i)) (gw_obj (by omega)) rfl 0 (by decide) (hts _ tw_38) (fun _ h9 => h9) rfl dF_isSame_1 ?_
  refine lv_iload_n hx hb dF_isSame_4 rfl (lv_at hl 2 rfl) ?_
  refine gw_lald hx hb hK hP (by omega) (by omega) dF_isSame_5 ?_
  refine lv_aload_n hx hb dF_isSame_6 rfl (lv_at hl 1 rfl) ?_
  refine va_get (D := (dC, dI)) (ci := 4) (C := "RevisionGrove$Fields") (T := TF) (N := 1) hx hb hts inF hown hK hP (11 + (4 + j)) (gw_obj (by omega)) rfl 0 (by decide) (hts _ tw_38) (fun _ h9 => h9) rfl dF_isSame_7 ?_
  refine lv_iload_n hx hb dF_isSame_10 rfl (lv_at hl 2 rfl) ?_
  refine gw_lald hx hb hK hP (by omega) (by omega) dF_isSame_11 ?_
  refine W.lcmp hx hb dF_isSame_12 ?_
  refine lv_if_eq (tgt := 18) hx hb dF_isSame_13 (by decide) (fun h1 => ?_) (fun h1 => ?_)
  · refine lv_iload_n hx hb dF_isSame_18 rfl (lv_at hl 2 rfl) ?_
    refine lv_bipush (v := nI 6) hx hb dF_isSame_19 (by decide) ?_
    refine rg_icmp_lt (tgt := 36) hx hb dF_isSame_21 (by decide) (by omega) (by omega) (fun h2 => ?_) (fun h2 => by exfalso; omega)
    refine lv_iconst (v := nI 1) hx hb dF_isSame_36 (by decide) ?_
    refine lv_goto (tgt := 41) hx hb dF_isSame_37 (by decide) ?_
    rw [hQ]
    exact rg_zret hx hb hr hlk hK hP hD hS (by first | exact rg_b01 _ | exact Or.inl rfl | exact Or.inr rfl) dF_isSame_41 () rfl (by rw [rg_sf_lo hX hY hf6, decide_eq_true ((rg_cmp0 _ _).mp h1)]; rfl)
  · refine lv_iconst (v := nI 0) hx hb dF_isSame_16 (by decide) ?_
    rw [hQ]
    exact rg_zret hx hb hr hlk hK hP hD hS (by first | exact rg_b01 _ | exact Or.inl rfl | exact Or.inr rfl) dF_isSame_17 () rfl (by rw [rg_sf_lo hX hY hf6, decide_eq_false (fun q => h1 ((rg_cmp0 _ _).mpr q))]; rfl)
set_option maxHeartbeats 4000000 in
set_option maxRecDepth 100000 in
theorem c_F_isSame_hi {l : Launch} {dC : Nat → ClassId} {dI : Nat → Nat → Nat} {ad fo fa ur : Nat → Nat} {cI cL cF cA : ClassId} {rec : Nat → Nat → Int64} {fp : Nat → Int32} {sp : Nat → Int32} {an : Nat → Int64} {nn : Nat → Int32} {cnt : Int32} {pt : Nat → Int32} {un : Nat → Nat → Int32} {uc : Nat → Int32} {pr : Int32} {lc : Int32} (i j k : Nat) (hi : i < 61) (hj : j < 61) (hk : k < 2) (X Y : rg_R) (hX : rg_CR (rec i) X) (hY : rg_CR (rec j) Y) : rg_M l yF_isSame (Cond.code yF_isSame prog_4_method_11_code 3 (some .boolean) :: rg_tbl) { frames := 1, cells := 0, slots := 0, locals := 23 } (dC, dI) rg_cl (gw_tys cI cL cF cA) (gw_W ad fo fa ur cI cL cF cA rec fp sp an nn cnt pt un uc pr lc) [.ref ((fo i)), .ref ((fo j)), .int (nI (k + 6))] (rg_QI (dC, dI) rg_cl (gw_tys cI cL cF cA) (S := Unit) (fun z _ => z = bif rg_sf X Y (k + 6) then 1 else 0) (fun _ => gw_W ad fo fa ur cI cL cF cA rec fp sp an nn cnt pt un uc pr lc)) 0 0 := by
  refine rg_of prog_4_method_11_code 3 (some .boolean) (by decide) rfl (Nat.le_of_ble_eq_true rfl) ?_
  intro p e R s m args below meth c Q A H locs ls hR hQ hx hb hml hr hts hown hlk hnm hP hK hD hA hS hl
  have hl : lv_has ls 3 [(0, .ref ((fo i))), (1, .ref ((fo j))), (2, .int (nI (k + 6)))] := hl
  have hts : ∀ w ∈ rg_tbl, w.before args s = true := fun w h => hts w (List.mem_cons_of_mem _ h)
  refine lv_aload_n hx hb dF_isSame_0 rfl (lv_at hl 0 rfl) ?_
  refine va_get (D := (dC, dI)) (ci := 4) (C := "RevisionGrove$Fields") (T := TF) (N := 1) hx hb hts inF hown hK hP (11 + (4 + i)) (gw_obj (by omega)) rfl 0 (by decide) (hts _ tw_38) (fun _ h9 => h9) rfl dF_isSame_1 ?_
  refine lv_iload_n hx hb dF_isSame_4 rfl (lv_at hl 2 rfl) ?_
  refine gw_lald hx hb hK hP (by omega) (by omega) dF_isSame_5 ?_
  refine lv_aload_n hx hb dF_isSame_6 rfl (lv_at hl 1 rfl) ?_
  refine va_get (D := (dC, dI)) (ci := 4) (C := "RevisionGrove$Fields") (T := TF) (N := 1) hx hb hts inF hown hK hP (11 + (4 + j)) (gw_obj (by omega)) rfl 0 (by decide) (hts _ tw_38) (fun _ h9 => h9) rfl dF_isSame_7 ?_
  refine lv_iload_n hx hb dF_isSame_10 rfl (lv_at hl 2 rfl) ?_
  refine gw_lald hx hb hK hP (by omega) (by omega) dF_isSame_11 ?_
  refine W.lcmp hx hb dF_isSame_12 ?_
  refine lv_if_eq (tgt := 18) hx hb dF_isSame_13 (by decide) (fun h1 => ?_) (fun h1 => ?_)
  · refine lv_iload_n hx hb dF_isSame_18 rfl (lv_at hl 2 rfl) ?_
    refine lv_bipush (v := nI 6) hx hb dF_isSame_19 (by decide) ?_
    refine rg_icmp_lt (tgt := 36) hx hb dF_isSame_21 (by decide) (by omega) (by omega) (fun h2 => by exfalso; omega) (fun h2 => ?_)
    refine lv_aload_n hx hb dF_isSame_24 rfl (lv_at hl 0 rfl) ?_
    refine lv_aload_n hx hb dF_isSame_25 rfl (lv_at hl 1 rfl) ?_
    refine lv_iload_n hx hb dF_isSame_26 rfl (lv_at hl 2 rfl) ?_
    refine rg_calli hD hS hA (va_runS (As := [.int (nI (k + 6))]) (rest := [.ref ((fo j)), .ref ((fo i))]) ⟨hx, hb, hml, hown, hts⟩ (c_F_firstPlace k _) (va_cwS 1 hts (rg_gSx tw_256 tw_257 tw_3 tw_258) rfl rfl rfl (by decide +kernel) ⟨by rw [hR]; exact Nat.le_of_ble_eq_true rfl, by rw [hR]; exact Nat.le_of_ble_eq_true rfl⟩) (rg_preS rfl hK hP hD) rfl rfl hl.1 rfl (lv_room (Nat.le_of_ble_eq_true rfl)) dF_isSame_27 ⟨Nat.zero_le _, Nat.zero_le _⟩) (fun r3 u4 H locs hw5 hP hD hS => ?_)
    subst hw5
    have hP : va_P (dC, dI) rg_cl (gw_W ad fo fa ur cI cL cF cA rec fp sp an nn cnt pt un uc pr lc) H := hP
    have hD : va_D A (gw_W ad fo fa ur cI cL cF cA rec fp sp an nn cnt pt un uc pr lc) := hD
    refine rg_calli hD hS hA (va_runV (As := [.ref ((fo j)), .int (nI (8 + k * 8))]) (rest := []) ⟨hx, hb, hml, hown, hts⟩ (c_F_hasSamePlaces i j (8 + k * 8) (by omega) (by omega) (by omega) _) (cwV 2 hts (rg_gV tw_259 tw_261 ts_F_hasSamePlaces tw_3 tw_262) rfl rfl rfl (by decide +kernel) ⟨by rw [hR]; exact Nat.le_of_ble_eq_true rfl, by rw [hR]; exact Nat.le_of_ble_eq_true rfl⟩) (rg_preV rfl hK hP hD (ci := 4) (q0 := (11 + (4 + i))) rfl (gw_obj (by omega))) rfl rfl hl.1 rfl (lv_room (Nat.le_of_ble_eq_true rfl)) dF_isSame_30 ⟨Nat.zero_le _, Nat.zero_le _⟩) (fun r6 u7 H locs hw8 hP hD hS => ?_)
    obtain ⟨rfl, hu7⟩ := hw8
    have hP : va_P (dC, dI) rg_cl (gw_W ad fo fa ur cI cL cF cA rec fp sp an nn cnt pt un uc pr lc) H := hP
    have hD : va_D A (gw_W ad fo fa ur cI cL cF cA rec fp sp an nn cnt pt un uc pr lc) := hD
    refine rg_ifz_eq (tgt := 40) hx hb dF_isSame_33 (by decide) (fun h9 => ?_) (fun h9 => ?_)
    · refine lv_iconst (v := nI 0) hx hb dF_isSame_40 (by decide) ?_
      rw [hQ]
      exact rg_zret hx hb hr hlk hK hP hD hS (by first | exact rg_b01 _ | exact Or.inl rfl | exact Or.inr rfl) dF_isSame_41 () rfl (by rw [rg_bF (b := rg_sf X Y (k + 6)) (fun q => by rw [hu7.mpr ((rg_sf_hi hX hY hk).mp q).2] at h9; cases h9)]; rfl)
    · refine lv_iconst (v := nI 1) hx hb dF_isSame_36 (by decide) ?_
      refine lv_goto (tgt := 41) hx hb dF_isSame_37 (by decide) ?_
      rw [hQ]
      exact rg_zret hx hb hr hlk hK hP hD hS (by first | exact rg_b01 _ | exact Or.inl rfl | exact Or.inr rfl) dF_isSame_41 () rfl (by rw [(rg_sf_hi hX hY hk).mpr ⟨(rg_cmp0 _ _).mp h1, hu7.mp h9⟩]; rfl)
  · refine lv_iconst (v := nI 0) hx hb dF_isSame_16 (by decide) ?_
    rw [hQ]
    exact rg_zret hx hb hr hlk hK hP hD hS (by first | exact rg_b01 _ | exact Or.inl rfl | exact Or.inr rfl) dF_isSame_17 () rfl (by rw [rg_bF (b := rg_sf X Y (k + 6)) (fun q => h1 ((rg_cmp0 _ _).mpr ((rg_sf_hi hX hY hk).mp q).1))]; rfl)
theorem c_F_isSame {l : Launch} {dC : Nat → ClassId} {dI : Nat → Nat → Nat} {ad fo fa ur : Nat → Nat} {cI cL cF cA : ClassId} {rec : Nat → Nat → Int64} {fp : Nat → Int32} {sp : Nat → Int32} {an : Nat → Int64} {nn : Nat → Int32} {cnt : Int32} {pt : Nat → Int32} {un : Nat → Nat → Int32} {uc : Nat → Int32} {pr : Int32} {lc : Int32} (i j f : Nat) (hi : i < 61) (hj : j < 61) (hf8 : f < 8) (X Y : rg_R) (hX : rg_CR (rec i) X) (hY : rg_CR (rec j) Y) : rg_M l yF_isSame (Cond.code yF_isSame prog_4_method_11_code 3 (some .boolean) :: rg_tbl) { frames := 1, cells := 0, slots := 0, locals := 23 } (dC, dI) rg_cl (gw_tys cI cL cF cA) (gw_W ad fo fa ur cI cL cF cA rec fp sp an nn cnt pt un uc pr lc) [.ref ((fo i)), .ref ((fo j)), .int (nI f)] (rg_QI (dC, dI) rg_cl (gw_tys cI cL cF cA) (S := Unit) (fun z _ => z = bif rg_sf X Y f then 1 else 0) (fun _ => gw_W ad fo fa ur cI cL cF cA rec fp sp an nn cnt pt un uc pr lc)) 0 0 := by
  by_cases h : f < 6
  · exact c_F_isSame_lo i j f hi hj h X Y hX hY
  · obtain ⟨k, rfl⟩ : ∃ k, f = k + 6 := ⟨f - 6, by omega⟩
    exact c_F_isSame_hi i j k hi hj (by omega) X Y hX hY
