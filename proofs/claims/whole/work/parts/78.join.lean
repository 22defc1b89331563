set_option maxHeartbeats 4000000 in
set_option maxRecDepth 100000 in
theorem c_J_join {l : Launch} {dC : Nat → ClassId} {dI : Nat → Nat → Nat} {ad fo fa ur : Nat → Nat} {cI cL cF cA : ClassId} {rec : Nat → Nat → Int64} {fp : Nat → Int32} {sp : Nat → Int32} {an : Nat → Int64} {nn : Nat → Int32} {cnt : Int32} {pt : Nat → Int32} {un : Nat → Nat → Int32} {uc : Nat → Int32} {pr : Int32} {lc : Int32} (i j q v s9 : Nat) (hi : i < 60) (hj : j < 60) (hq : q < 60) (hv : v < 60) (X Y Z : rg_R) (hX : rg_CR (rec i) X) (hY : rg_CR (rec j) Y) (hZ : rg_CR (rec q) Z) (hV : rg_CR (rec v) (if s9 = 2 then Z else Y)) : rx_M l yJ_join (Cond.code yJ_join prog_5_method_2_code 7 (some .int) :: rg_tbl) { frames := 4, cells := 16, slots := 64, locals := 107 } (dC, dI) rg_cl (gw_tys cI cL cF cA) (gw_W ad fo fa ur cI cL cF cA rec fp sp an nn cnt pt un uc pr lc) [.ref ((fo 60)), .ref ((fo i)), .ref ((fo j)), .ref ((fo q)), .ref ((fo v))] (rg_QI (dC, dI) rg_cl (gw_tys cI cL cF cA) (S := (Nat → Int64)) (fun z u => z = rg_mc X Y Z 2 ∧ rg_CR u (rg_mg X Y Z s9)) (fun u => gw_W ad fo fa ur cI cL cF cA (va_up rec 60 u) fp sp an nn cnt pt un uc pr lc)) (rx_X (dC, dI) rg_cl (gw_tys cI cL cF cA) (S := Unit) (fun _ _ => False) (fun _ => gw_W ad fo fa ur cI cL cF cA rec fp sp an nn cnt pt un uc pr lc)) 16 64 := by
  refine rx_of prog_5_method_2_code 7 (some .int) (by decide) rfl (Nat.le_of_ble_eq_true rfl) ?_
  intro p e R s m args below meth c Q A H locs ls hR hQ hx hb hml hr hts hown hlk hnm hno hT hP hK hD hA hS hl
  have hl : lv_has ls 7 [(0, .ref ((fo 60))), (1, .ref ((fo i))), (2, .ref ((fo j))), (3, .ref ((fo q))), (4, .ref ((fo v)))] := hl
  have hts : ∀ w ∈ rg_tbl, w.before args s = true := fun w h => hts w (List.mem_cons_of_mem _ h)
  refine lv_iconst (v := nI 0) hx hb dJ_join_0 (by decide) ?_
  refine lv_istore (lv' := [(5, .int (nI 0)), (0, .ref ((fo 60))), (1, .ref ((fo i))), (2, .ref ((fo j))), (3, .ref ((fo q))), (4, .ref ((fo v)))]) hx hb dJ_join_1 hl (by decide) rfl (fun ls hl => ?_)
  refine lv_iconst (v := nI 0) hx hb dJ_join_3 (by decide) ?_
  refine lv_istore (lv' := [(6, .int (nI 0)), (5, .int (nI 0)), (0, .ref ((fo 60))), (1, .ref ((fo i))), (2, .ref ((fo j))), (3, .ref ((fo q))), (4, .ref ((fo v)))]) hx hb dJ_join_4 hl (by decide) rfl (fun ls hl => ?_)
  have lp6 : ∀ (fuel : Nat) (f : Nat) (d : Nat → Int64) (H : Heap) (locs : List Loc) (ls : Array Slot), 8 - f < fuel → f ≤ 8 → (∀ g, g < f → gw_FV g d (rg_mg X Y Z s9)) → va_P (dC, dI) rg_cl (gw_W ad fo fa ur cI cL cF cA (va_up rec 60 d) fp sp an nn cnt pt un uc pr lc) H → va_D A (gw_W ad fo fa ur cI cL cF cA (va_up rec 60 d) fp sp an nn cnt pt un uc pr lc) → va_S A s.heap H locs → lv_has ls 7 [(0, .ref ((fo 60))), (1, .ref ((fo i))), (2, .ref ((fo j))), (3, .ref ((fo q))), (4, .ref ((fo v))), (5, .int (gw_jc X Y Z f)), (6, .int (nI f))] → W p l e R s m args below meth c H locs (2 * f) (8 * f) Q (F0 m 6 ls []) := by
    intro fuel
    induction fuel with
    | zero => intro f d H locs ls hf; exact absurd hf (Nat.not_lt_zero _)
    | succ fuel ih6 =>
      intro f d H locs ls hfu6 hf9 hJ hP hD hS hl
      refine lv_iload hx hb dJ_join_6 (lv_at hl 6 rfl) ?_
      refine lv_bipush (v := nI 8) hx hb dJ_join_8 (by decide) ?_
      refine rg_icmp_ge (tgt := 48) hx hb dJ_join_10 (by decide) (by omega) (by omega) (fun h1 => ?_) (fun h1 => ?_)
      · obtain rfl : f = 8 := by omega
        refine lv_iload hx hb dJ_join_48 (lv_at hl 5 rfl) ?_
        rw [hQ]
        exact rx_ret (by first | exact Nat.zero_le _ | omega) (by first | exact Nat.zero_le _ | omega) (rg_iret hx hb hr hlk hK hP hD hS dJ_join_50 d rfl (⟨gw_jc_eq X Y Z, gw_FV_all (fun k hk => rg_mL_len (hX k hk).2.2.2.1 (hY k hk).2.2.2.1 (hZ k hk).2.2.2.1) hJ⟩))
      · refine lv_aload_n hx hb dJ_join_13 rfl (lv_at hl 0 rfl) ?_
        refine lv_aload_n hx hb dJ_join_14 rfl (lv_at hl 1 rfl) ?_
        refine lv_aload_n hx hb dJ_join_15 rfl (lv_at hl 2 rfl) ?_
        refine lv_aload_n hx hb dJ_join_16 rfl (lv_at hl 3 rfl) ?_
        refine lv_iload hx hb dJ_join_17 (lv_at hl 6 rfl) ?_
        refine rx_calli hQ (fun _ _ h9 => h9.elim) hno hlk hD hS hA (show 2 * f + 2 ≤ 16 by omega) (show 8 * f + 8 ≤ 64 by omega) (vx_runS (As := [.ref (fo 60), .ref (fo i), .ref (fo j), .ref (fo q), .int (nI f)]) (rest := []) ⟨hx, hb, hml, hown, hts⟩ (c_J_joinField i j q f hi hj hq (by omega) X Y Z (by rw [rg_upn _ _ (by omega)]; exact hX) (by rw [rg_upn _ _ (by omega)]; exact hY) (by rw [rg_upn _ _ (by omega)]; exact hZ) _) (va_cwS 5 hts (rg_gSx tw_486 tw_487 tw_15 tw_488) rfl rfl rfl (by decide +kernel) ⟨(by rw [hR]; exact Nat.le_of_ble_eq_true rfl), (by rw [hR]; exact Nat.le_of_ble_eq_true rfl)⟩) (rx_preS rfl hT hS hA hK hP hD) rfl rfl hl.1 rfl (lv_room (Nat.le_of_ble_eq_true rfl)) dJ_join_19 ⟨by rw [hR]; show 2 * f + 2 ≤ 16; omega, by rw [hR]; show 8 * f + 8 ≤ 64; omega⟩) (fun r9 u9 H locs hw9 hP hD hS => ?_)
        rw [rg_upup] at hP hD
        obtain ⟨hz9, ho9, hv9⟩ := hw9
        rw [rg_ups] at ho9
        subst hz9
        have hP : va_P (dC, dI) rg_cl (gw_W ad fo fa ur cI cL cF cA (va_up rec 60 u9) fp sp an nn cnt pt un uc pr lc) H := hP
        have hD : va_D A (gw_W ad fo fa ur cI cL cF cA (va_up rec 60 u9) fp sp an nn cnt pt un uc pr lc) := hD
        refine rg_ifz_ne (tgt := 42) hx hb dJ_join_22 (by decide) (fun h2 => ?_) (fun h2 => ?_)
        · have hcf : gw_cf X Y Z f = false := by cases h9 : gw_cf X Y Z f with | false => rfl | true => rw [h9] at h2; exact absurd h2 (by decide)
          have hJ2 : ∀ g, g < f + 1 → gw_FV g u9 (rg_mg X Y Z s9) := fun g hg => by rcases Nat.lt_or_ge g f with q9 | q9; exact gw_FV_o (by omega) (by omega) (by omega) ho9 (hJ g q9); rw [show g = f by omega]; exact hv9 hcf s9
          rw [show gw_jc X Y Z f = gw_jc X Y Z (f + 1) by show _ = (bif gw_cf X Y Z f then _ else _); rw [hcf]; rfl] at hl
          refine lv_iinc (k := 6) (v := nI (f + 1)) (lv' := [(6, .int (nI (f + 1))), (0, .ref ((fo 60))), (1, .ref ((fo i))), (2, .ref ((fo j))), (3, .ref ((fo q))), (4, .ref ((fo v))), (5, .int (gw_jc X Y Z (f + 1)))]) hx hb dJ_join_42 hl rfl (nI_1 _) (by decide) rfl (fun ls hl => ?_)
          refine lv_goto (tgt := 6) hx hb dJ_join_45 (by decide) ?_
          exact ih6 (f + 1) u9 _ _ _ (by omega) (by omega) hJ2 hP hD hS (lv_sub hl [1, 2, 3, 4, 5, 6, 0] rfl)
        · refine lv_aload_n hx hb dJ_join_25 rfl (lv_at hl 0 rfl) ?_
          refine lv_aload hx hb dJ_join_26 (lv_at hl 4 rfl) ?_
          refine lv_iload hx hb dJ_join_28 (lv_at hl 6 rfl) ?_
          refine rg_callv hD hS hA (va_runV (As := [.ref ((fo v)), .int (nI f)]) (rest := []) ⟨hx, hb, hml, hown, hts⟩ (c_F_take 60 v f (by omega) (by omega) (by omega) (by omega) (if s9 = 2 then Z else Y) (by rw [rg_upn _ _ (by omega)]; exact hV) _) (cwV 2 hts (rg_gV tw_496 tw_497 tw_498 tw_3 tw_499) rfl rfl rfl (by decide +kernel) ⟨by rw [hR]; exact Nat.le_of_ble_eq_true rfl, by rw [hR]; exact Nat.le_of_ble_eq_true rfl⟩) (rg_preV rfl hK hP hD (ci := 4) (q0 := (11 + (4 + 60))) rfl (gw_obj (by omega))) rfl rfl hl.1 rfl (lv_room (Nat.le_of_ble_eq_true rfl)) dJ_join_30 ⟨by rw [hR]; show 2 * f + 2 + 0 ≤ 16; omega, by rw [hR]; show 8 * f + 8 + 0 ≤ 64; omega⟩) (fun u4 H locs hw5 hP hD hS => ?_)
          have hP : va_P (dC, dI) rg_cl (gw_W ad fo fa ur cI cL cF cA (va_up (va_up rec 60 u9) 60 u4) fp sp an nn cnt pt un uc pr lc) H := hP
          have hD : va_D A (gw_W ad fo fa ur cI cL cF cA (va_up (va_up rec 60 u9) 60 u4) fp sp an nn cnt pt un uc pr lc) := hD
          rw [rg_upup] at hP hD
          have hP : va_P (dC, dI) rg_cl (gw_W ad fo fa ur cI cL cF cA (va_up rec 60 u4) fp sp an nn cnt pt un uc pr lc) H := hP
          have hD : va_D A (gw_W ad fo fa ur cI cL cF cA (va_up rec 60 u4) fp sp an nn cnt pt un uc pr lc) := hD
          obtain ⟨ho8, hv8⟩ := hw5
          rw [rg_ups] at ho8
          refine lv_iload hx hb dJ_join_33 (lv_at hl 5 rfl) ?_
          refine lv_iconst (v := nI 1) hx hb dJ_join_35 (by decide) ?_
          refine lv_iload hx hb dJ_join_36 (lv_at hl 6 rfl) ?_
          refine lv_ishl hx hb dJ_join_38 ?_
          refine lv_ior hx hb dJ_join_39 ?_
          refine lv_istore (lv' := [(5, .int ((gw_jc X Y Z f) ||| ((nI 1) <<< ((nI f) &&& 31)))), (0, .ref ((fo 60))), (1, .ref ((fo i))), (2, .ref ((fo j))), (3, .ref ((fo q))), (4, .ref ((fo v))), (6, .int (nI f))]) hx hb dJ_join_40 hl (by decide) rfl (fun ls hl => ?_)
          have hcf : gw_cf X Y Z f = true := by cases h9 : gw_cf X Y Z f with | true => rfl | false => rw [h9] at h2; exact absurd h2 (by decide)
          have hJ2 : ∀ g, g < f + 1 → gw_FV g u4 (rg_mg X Y Z s9) := fun g hg => by rcases Nat.lt_or_ge g f with q9 | q9; exact gw_FV_o (by omega) (by omega) (by omega) (gw_FO_t ho8 ho9) (hJ g q9); rw [show g = f by omega]; exact gw_FV_pref (by omega) rfl hcf hv8
          rw [show (gw_jc X Y Z f ||| (nI 1 <<< (nI f &&& 31))) = gw_jc X Y Z (f + 1) by show _ = (bif gw_cf X Y Z f then _ else _); rw [hcf]; rfl] at hl
          refine lv_iinc (k := 6) (v := nI (f + 1)) (lv' := [(6, .int (nI (f + 1))), (5, .int (gw_jc X Y Z (f + 1))), (0, .ref ((fo 60))), (1, .ref ((fo i))), (2, .ref ((fo j))), (3, .ref ((fo q))), (4, .ref ((fo v)))]) hx hb dJ_join_42 hl rfl (nI_1 _) (by decide) rfl (fun ls hl => ?_)
          refine lv_goto (tgt := 6) hx hb dJ_join_45 (by decide) ?_
          exact ih6 (f + 1) u4 _ _ _ (by omega) (by omega) hJ2 hP hD hS (lv_sub hl [2, 3, 4, 5, 6, 1, 0] rfl)
  exact lp6 _ 0 (rec 60) _ _ _ (Nat.lt_succ_self _) (by omega) (fun g hg => absurd hg (Nat.not_lt_zero g)) (by rw [rg_upself]; exact hP) (by rw [rg_upself]; exact hD) hS (lv_sub hl [2, 3, 4, 5, 6, 1, 0] rfl)
