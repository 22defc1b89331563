theorem rg_gI {y : MethodName} {c : ByteArray} {maxL : Nat} {ret : Option FieldType} (h5 : Cond.code y c maxL ret ∈ rg_tbl) : GoodIn rg_tbl (Cond.code y c maxL ret :: rg_tbl) := by
  intro w hw
  have h9 : w ∈ rg_tbl := by
    rcases List.mem_cons.mp hw with rfl | h
    · exact h5
    · exact h
  exact ⟨h9, rg_good h9⟩
set_option maxHeartbeats 4000000 in
set_option maxRecDepth 100000 in
theorem c_J_joinField_l3 {l : Launch} {dC : Nat → ClassId} {dI : Nat → Nat → Nat} {ad fo fa ur : Nat → Nat} {cI cL cF cA : ClassId} {rec : Nat → Nat → Int64} {fp : Nat → Int32} {sp : Nat → Int32} {an : Nat → Int64} {nn : Nat → Int32} {cnt : Int32} {pt : Nat → Int32} {un : Nat → Nat → Int32} {uc : Nat → Int32} {pr : Int32} {lc : Int32} (i j q k : Nat) (hi : i < 60) (hj : j < 60) (hq : q < 60) (hk : k < 2) (lx ly lz : List Int32) (hx8 : lx.length ≤ 8) (hlx : rg_LC (rec i) k lx) (hy8 : ly.length ≤ 8) (hly : rg_LC (rec j) k ly) (hz8 : lz.length ≤ 8) (hlz : rg_LC (rec q) k lz) (X Y Z : rg_R) (hX : rg_CR (rec i) X) (hY : rg_CR (rec j) Y) (hZ : rg_CR (rec q) Z) (ka : rg_sf Y X (k + 6) = false) (kb : rg_sf Z X (k + 6) = false) (kc : rg_sf Z Y (k + 6) = false) : rx_M l yJ_joinField (Cond.code yJ_joinField prog_5_method_3_code 5 (some .boolean) :: rg_tbl) { frames := 3, cells := 2, slots := 8, locals := 83 } (dC, dI) rg_cl (gw_tys cI cL cF cA) (gw_W ad fo fa ur cI cL cF cA rec fp sp an nn cnt pt un uc pr lc) [.ref ((fo 60)), .ref ((fo i)), .ref ((fo j)), .ref ((fo q)), .int (nI (k + 6))] (rg_QI (dC, dI) rg_cl (gw_tys cI cL cF cA) (S := (Nat → Int64)) (gw_PJ (rec 60) k lx ly lz) (fun u => gw_W ad fo fa ur cI cL cF cA (va_up rec 60 u) fp sp an nn cnt pt un uc pr lc)) (rx_X (dC, dI) rg_cl (gw_tys cI cL cF cA) (S := Unit) (fun _ _ => False) (fun _ => gw_W ad fo fa ur cI cL cF cA rec fp sp an nn cnt pt un uc pr lc)) 2 8 := by
  refine rx_of prog_5_method_3_code 5 (some .boolean) (by decide) rfl (Nat.le_of_ble_eq_true rfl) ?_
  intro p e R s m args below meth c Q A H locs ls hR hQ hx hb hml hr hts hown hlk hnm hno hT hP hK hD hA hS hl
  have hl : lv_has ls 5 [(0, .ref ((fo 60))), (1, .ref ((fo i))), (2, .ref ((fo j))), (3, .ref ((fo q))), (4, .int (nI (k + 6)))] := hl
  have hts : ∀ w ∈ rg_tbl, w.before args s = true := fun w h => hts w (List.mem_cons_of_mem _ h)
  refine lv_iload hx hb dJ_joinField_0 (lv_at hl 4 rfl) ?_
  refine lv_iconst (v := nI 2) hx hb dJ_joinField_2 (by decide) ?_
  refine rg_icmp_lt (tgt := 40) hx hb dJ_joinField_3 (by decide) (by omega) (by omega) (fun h1 => by exfalso; omega) (fun h1 => ?_)
  refine lv_iload hx hb dJ_joinField_6 (lv_at hl 4 rfl) ?_
  refine lv_iconst (v := nI 4) hx hb dJ_joinField_8 (by decide) ?_
  refine rg_icmp_ge (tgt := 40) hx hb dJ_joinField_9 (by decide) (by omega) (by omega) (fun h2 => ?_) (fun h2 => by exfalso; omega)
  refine lv_iload hx hb dJ_joinField_40 (lv_at hl 4 rfl) ?_
  refine lv_iconst (v := nI 4) hx hb dJ_joinField_42 (by decide) ?_
  refine rg_icmp_lt (tgt := 82) hx hb dJ_joinField_43 (by decide) (by omega) (by omega) (fun h3 => by exfalso; omega) (fun h3 => ?_)
  refine lv_iload hx hb dJ_joinField_46 (lv_at hl 4 rfl) ?_
  refine lv_bipush (v := nI 6) hx hb dJ_joinField_48 (by decide) ?_
  refine rg_icmp_ge (tgt := 82) hx hb dJ_joinField_50 (by decide) (by omega) (by omega) (fun h4 => ?_) (fun h4 => by exfalso; omega)
  refine lv_aload_n hx hb dJ_joinField_82 rfl (lv_at hl 2 rfl) ?_
  refine lv_aload_n hx hb dJ_joinField_83 rfl (lv_at hl 1 rfl) ?_
  refine lv_iload hx hb dJ_joinField_84 (lv_at hl 4 rfl) ?_
  refine rg_calli hD hS hA (va_runV (As := [.ref ((fo i)), .int (nI (k + 6))]) (rest := []) ⟨hx, hb, hml, hown, hts⟩ (c_F_isSame j i (k + 6) (by omega) (by omega) (by omega) Y X hY hX _) (cwV 2 hts (rg_gV tw_495 tw_253 tw_254 tw_3 tw_255) rfl rfl rfl (by decide +kernel) ⟨by rw [hR]; exact Nat.le_of_ble_eq_true rfl, by rw [hR]; exact Nat.le_of_ble_eq_true rfl⟩) (rg_preV rfl hK hP hD (ci := 4) (q0 := (11 + (4 + j))) rfl (gw_obj (by omega))) rfl rfl hl.1 rfl (lv_room (Nat.le_of_ble_eq_true rfl)) dJ_joinField_86 ⟨Nat.zero_le _, Nat.zero_le _⟩) (fun r5 u6 H locs hw7 hP hD hS => ?_)
  subst hw7
  have hP : va_P (dC, dI) rg_cl (gw_W ad fo fa ur cI cL cF cA rec fp sp an nn cnt pt un uc pr lc) H := hP
  have hD : va_D A (gw_W ad fo fa ur cI cL cF cA rec fp sp an nn cnt pt un uc pr lc) := hD
  refine rg_ifz_eq (tgt := 101) hx hb dJ_joinField_89 (by decide) (fun h8 => ?_) (fun h8 => absurd (ka.symm.trans h8) (by decide))
  refine lv_aload_n hx hb dJ_joinField_101 rfl (lv_at hl 3 rfl) ?_
  refine lv_aload_n hx hb dJ_joinField_102 rfl (lv_at hl 1 rfl) ?_
  refine lv_iload hx hb dJ_joinField_103 (lv_at hl 4 rfl) ?_
  refine rg_calli hD hS hA (va_runV (As := [.ref ((fo i)), .int (nI (k + 6))]) (rest := []) ⟨hx, hb, hml, hown, hts⟩ (c_F_isSame q i (k + 6) (by omega) (by omega) (by omega) Z X hZ hX _) (cwV 2 hts (rg_gV tw_495 tw_253 tw_254 tw_3 tw_255) rfl rfl rfl (by decide +kernel) ⟨by rw [hR]; exact Nat.le_of_ble_eq_true rfl, by rw [hR]; exact Nat.le_of_ble_eq_true rfl⟩) (rg_preV rfl hK hP hD (ci := 4) (q0 := (11 + (4 + q))) rfl (gw_obj (by omega))) rfl rfl hl.1 rfl (lv_room (Nat.le_of_ble_eq_true rfl)) dJ_joinField_105 ⟨Nat.zero_le _, Nat.zero_le _⟩) (fun r9 u10 H locs hw11 hP hD hS => ?_)
  subst hw11
  have hP : va_P (dC, dI) rg_cl (gw_W ad fo fa ur cI cL cF cA rec fp sp an nn cnt pt un uc pr lc) H := hP
  have hD : va_D A (gw_W ad fo fa ur cI cL cF cA rec fp sp an nn cnt pt un uc pr lc) := hD
  refine rg_ifz_ne (tgt := 121) hx hb dJ_joinField_108 (by decide) (fun h12 => absurd (kb.symm.trans h12) (by decide)) (fun h12 => ?_)
  refine lv_aload_n hx hb dJ_joinField_111 rfl (lv_at hl 3 rfl) ?_
  refine lv_aload_n hx hb dJ_joinField_112 rfl (lv_at hl 2 rfl) ?_
  refine lv_iload hx hb dJ_joinField_113 (lv_at hl 4 rfl) ?_
  refine rg_calli hD hS hA (va_runV (As := [.ref ((fo j)), .int (nI (k + 6))]) (rest := []) ⟨hx, hb, hml, hown, hts⟩ (c_F_isSame q j (k + 6) (by omega) (by omega) (by omega) Z Y hZ hY _) (cwV 2 hts (rg_gV tw_495 tw_253 tw_254 tw_3 tw_255) rfl rfl rfl (by decide +kernel) ⟨by rw [hR]; exact Nat.le_of_ble_eq_true rfl, by rw [hR]; exact Nat.le_of_ble_eq_true rfl⟩) (rg_preV rfl hK hP hD (ci := 4) (q0 := (11 + (4 + q))) rfl (gw_obj (by omega))) rfl rfl hl.1 rfl (lv_room (Nat.le_of_ble_eq_true rfl)) dJ_joinField_115 ⟨Nat.zero_le _, Nat.zero_le _⟩) (fun r13 u14 H locs hw15 hP hD hS => ?_)
  subst hw15
  have hP : va_P (dC, dI) rg_cl (gw_W ad fo fa ur cI cL cF cA rec fp sp an nn cnt pt un uc pr lc) H := hP
  have hD : va_D A (gw_W ad fo fa ur cI cL cF cA rec fp sp an nn cnt pt un uc pr lc) := hD
  refine rg_ifz_eq (tgt := 130) hx hb dJ_joinField_118 (by decide) (fun h16 => ?_) (fun h16 => absurd (kc.symm.trans h16) (by decide))
  refine lv_iload hx hb dJ_joinField_130 (lv_at hl 4 rfl) ?_
  refine lv_bipush (v := nI 6) hx hb dJ_joinField_132 (by decide) ?_
  refine rg_icmp_lt (tgt := 173) hx hb dJ_joinField_134 (by decide) (by omega) (by omega) (fun h17 => by exfalso; omega) (fun h17 => ?_)
  refine lv_aload_n hx hb dJ_joinField_137 rfl (lv_at hl 0 rfl) ?_
  refine lv_aload_n hx hb dJ_joinField_138 rfl (lv_at hl 1 rfl) ?_
  refine va_new (ci := 5) (fs := [.null, .int 0, .int 0, .int 0]) (C := "RevisionGrove$Change") (T := TC) (N := 4) hx hb hts inC tyC tyC_ok hown (hts _ tw_500) (hts _ tw_501) (hts _ tw_16) hK hP hD hS hA rfl (fun j hj => by rcases (show j = 0 ∨ j = 1 ∨ j = 2 ∨ j = 3 by omega) with rfl | rfl | rfl | rfl <;> rfl) (by rw [hR]; exact Nat.le_of_ble_eq_true rfl) (by rw [hR]; exact Nat.le_of_ble_eq_true rfl) dJ_joinField_139 (fun a1 H hP hD hS => ?_)
  refine lv_dup hx hb dJ_joinField_142 rfl ?_
  refine lv_aload_n hx hb dJ_joinField_143 rfl (lv_at hl 1 rfl) ?_
  refine lv_aload_n hx hb dJ_joinField_144 rfl (lv_at hl 2 rfl) ?_
  refine lv_iload hx hb dJ_joinField_145 (lv_at hl 4 rfl) ?_
  refine rg_callv hD hS hA (va_runI (As := [.ref (fo i), .ref (fo j), .int (nI (k + 6))]) (rest := [.ref a1, .ref (fo i), .ref (fo 60)]) ⟨hx, hb, hml, hown, hts⟩ (c_C_init a1 i j k (by omega) (by omega) hk .null (.int 0) (.int 0) (.int 0) lx ly hx8 hlx hy8 hly _) (cwI 3 hts (rg_gI tw_504) rfl rfl rfl (hts _ tw_16) (hts _ tw_502) (hts _ tw_503) rfl (by decide +kernel) ⟨(by rw [hR]; exact Nat.le_of_ble_eq_true rfl), (by rw [hR]; exact Nat.le_of_ble_eq_true rfl)⟩) (rg_preS rfl hK hP hD) rfl rfl hl.1 rfl (lv_room (Nat.le_of_ble_eq_true rfl)) dJ_joinField_147 ⟨(by rw [hR]; exact Nat.le_of_ble_eq_true rfl), (by rw [hR]; exact Nat.le_of_ble_eq_true rfl)⟩) (fun _ H locs _ hP hD hS => ?_)
  have hP : va_P (dC, dI) rg_cl (gw_W ad fo fa ur cI cL cF cA rec fp sp an nn cnt pt un uc pr lc ++ [(a1, .inr (5, [.ref (fo j), .int (nI (rg_hd lx ly)), .int (nI (lx.length - rg_tl lx ly)), .int (nI (ly.length - rg_tl lx ly))]))]) H := hP
  have hD : va_D A (gw_W ad fo fa ur cI cL cF cA rec fp sp an nn cnt pt un uc pr lc ++ [(a1, .inr (5, [.ref (fo j), .int (nI (rg_hd lx ly)), .int (nI (lx.length - rg_tl lx ly)), .int (nI (ly.length - rg_tl lx ly))]))]) := hD
  refine va_new (ci := 5) (fs := [.null, .int 0, .int 0, .int 0]) (C := "RevisionGrove$Change") (T := TC) (N := 4) hx hb hts inC tyC tyC_ok hown (hts _ tw_500) (hts _ tw_501) (hts _ tw_16) hK hP hD hS hA rfl (fun j hj => by rcases (show j = 0 ∨ j = 1 ∨ j = 2 ∨ j = 3 by omega) with rfl | rfl | rfl | rfl <;> rfl) (by rw [hR]; exact Nat.le_of_ble_eq_true rfl) (by rw [hR]; exact Nat.le_of_ble_eq_true rfl) dJ_joinField_150 (fun a2 H hP hD hS => ?_)
  refine lv_dup hx hb dJ_joinField_153 rfl ?_
  refine lv_aload_n hx hb dJ_joinField_154 rfl (lv_at hl 1 rfl) ?_
  refine lv_aload_n hx hb dJ_joinField_155 rfl (lv_at hl 3 rfl) ?_
  refine lv_iload hx hb dJ_joinField_156 (lv_at hl 4 rfl) ?_
  have hP := rg_P_app (rg_P_app (rg_P_l (rg_P_l hP)) (rg_P_r hP)) (rg_P_r (rg_P_l hP))
  have hD := va_D.swap hD
  refine rg_callv hD hS hA (va_runI (As := [.ref (fo i), .ref (fo q), .int (nI (k + 6))]) (rest := [.ref a2, .ref a1, .ref (fo i), .ref (fo 60)]) ⟨hx, hb, hml, hown, hts⟩ (rg_fV [(a1, .inr (5, [.ref (fo j), .int (nI (rg_hd lx ly)), .int (nI (lx.length - rg_tl lx ly)), .int (nI (ly.length - rg_tl lx ly))]))] (c_C_init a2 i q k (by omega) (by omega) hk .null (.int 0) (.int 0) (.int 0) lx lz hx8 hlx hz8 hlz) _) (cwI 3 hts (rg_gI tw_504) rfl rfl rfl (hts _ tw_16) (hts _ tw_502) (hts _ tw_503) rfl (by decide +kernel) ⟨(by rw [hR]; exact Nat.le_of_ble_eq_true rfl), (by rw [hR]; exact Nat.le_of_ble_eq_true rfl)⟩) (rg_preS rfl hK hP hD) rfl rfl hl.1 rfl (lv_room (Nat.le_of_ble_eq_true rfl)) dJ_joinField_158 ⟨(by rw [hR]; exact Nat.le_of_ble_eq_true rfl), (by rw [hR]; exact Nat.le_of_ble_eq_true rfl)⟩) (fun _ H locs _ hP hD hS => ?_)
  have hP : va_P (dC, dI) rg_cl ((gw_W ad fo fa ur cI cL cF cA rec fp sp an nn cnt pt un uc pr lc ++ [(a2, .inr (5, [.ref (fo q), .int (nI (rg_hd lx lz)), .int (nI (lx.length - rg_tl lx lz)), .int (nI (lz.length - rg_tl lx lz))]))]) ++ [(a1, .inr (5, [.ref (fo j), .int (nI (rg_hd lx ly)), .int (nI (lx.length - rg_tl lx ly)), .int (nI (ly.length - rg_tl lx ly))]))]) H := hP
  have hD : va_D A ((gw_W ad fo fa ur cI cL cF cA rec fp sp an nn cnt pt un uc pr lc ++ [(a2, .inr (5, [.ref (fo q), .int (nI (rg_hd lx lz)), .int (nI (lx.length - rg_tl lx lz)), .int (nI (lz.length - rg_tl lx lz))]))]) ++ [(a1, .inr (5, [.ref (fo j), .int (nI (rg_hd lx ly)), .int (nI (lx.length - rg_tl lx ly)), .int (nI (ly.length - rg_tl lx ly))]))]) := hD
  have hP := rg_P_app (rg_P_l (rg_P_l hP)) (rg_P_app (rg_P_r hP) (rg_P_r (rg_P_l hP)))
  have hD := va_D.swap hD
  rw [List.append_assoc] at hD
  have hP : va_P (dC, dI) rg_cl (gw_W ad fo fa ur cI cL cF cA rec fp sp an nn cnt pt un uc pr lc ++ [(a1, .inr (5, [.ref (fo j), .int (nI (rg_hd lx ly)), .int (nI (lx.length - rg_tl lx ly)), .int (nI (ly.length - rg_tl lx ly))])), (a2, .inr (5, [.ref (fo q), .int (nI (rg_hd lx lz)), .int (nI (lx.length - rg_tl lx lz)), .int (nI (lz.length - rg_tl lx lz))]))]) H := hP
  have hD : va_D A (gw_W ad fo fa ur cI cL cF cA rec fp sp an nn cnt pt un uc pr lc ++ [(a1, .inr (5, [.ref (fo j), .int (nI (rg_hd lx ly)), .int (nI (lx.length - rg_tl lx ly)), .int (nI (ly.length - rg_tl lx ly))])), (a2, .inr (5, [.ref (fo q), .int (nI (rg_hd lx lz)), .int (nI (lx.length - rg_tl lx lz)), .int (nI (lz.length - rg_tl lx lz))]))]) := hD
  refine lv_iload hx hb dJ_joinField_161 (lv_at hl 4 rfl) ?_
  refine rx_calli hQ (fun _ _ h9 => h9.elim) hno hlk hD hS hA (Nat.le_of_ble_eq_true rfl) (Nat.le_of_ble_eq_true rfl) (vx_runS (As := [.ref (fo 60), .ref (fo i), .ref a1, .ref a2, .int (nI (k + 6))]) (rest := []) ⟨hx, hb, hml, hown, hts⟩ (c_J_joinList a1 a2 i j q k hi hj hq hk lx ly lz hx8 hlx hy8 hly hz8 hlz _) (va_cwS 5 hts (rg_gSx tw_533 tw_534 tw_15 tw_535) rfl rfl rfl (by decide +kernel) ⟨(by rw [hR]; exact Nat.le_of_ble_eq_true rfl), (by rw [hR]; exact Nat.le_of_ble_eq_true rfl)⟩) (rx_preS rfl hT hS hA hK hP hD) rfl rfl hl.1 rfl (lv_room (Nat.le_of_ble_eq_true rfl)) dJ_joinField_163 ⟨(by rw [hR]; exact Nat.le_of_ble_eq_true rfl), (by rw [hR]; exact Nat.le_of_ble_eq_true rfl)⟩) (fun r9 u9 H locs hw9 hP hD hS => ?_)
  obtain ⟨hz9, hj1, hj2⟩ := hw9
  subst hz9
  have hP := rg_P_l hP
  have hD := rg_D_l hD
  refine rg_ifz_eq (tgt := 173) hx hb dJ_joinField_166 (by decide) (fun h9 => ?_) (fun h9 => ?_)
  · refine lv_iconst (v := nI 0) hx hb dJ_joinField_173 (by decide) ?_
    rw [hQ]
    exact rx_ret (Nat.le_of_ble_eq_true rfl) (Nat.le_of_ble_eq_true rfl) (rg_zret hx hb hr hlk hK hP hD hS (by first | exact Or.inl rfl | exact Or.inr rfl) dJ_joinField_174 u9 rfl ⟨by rw [h9]; rfl, hj1, hj2⟩)
  · refine lv_iconst (v := nI 1) hx hb dJ_joinField_169 (by decide) ?_
    refine lv_goto (tgt := 174) hx hb dJ_joinField_170 (by decide) ?_
    rw [hQ]
    exact rx_ret (Nat.le_of_ble_eq_true rfl) (Nat.le_of_ble_eq_true rfl) (rg_zret hx hb hr hlk hK hP hD hS (by first | exact Or.inl rfl | exact Or.inr rfl) dJ_joinField_174 u9 rfl ⟨by rw [h9]; rfl, hj1, hj2⟩)
