set_option maxHeartbeats 4000000 in
set_option maxRecDepth 100000 in
theorem c_rm_put_ok {l : Launch} {dC : Nat → ClassId} {dI : Nat → Nat → Nat} {h : Nat} {a : Nat → Nat} {cI cL : ClassId} {cod : Int32} {cof : Int32} {mad : Int32} {nu : Nat → Int32} {co : Nat → Int64} {se : Nat → Int32} {li : Nat → Int32} {le : Nat → Int32} {fi : Nat → Int32} {sc : Nat → Int32} {ti : Nat → Int32} {un : Nat → Int32} {ma : Nat → Int32} {dr : Nat → Int32} {fr : Nat → Int32} {to : Nat → Int32} {en : Nat → Int32} (n b : Nat) (Rr : Nat → rg_R) (P1 P2 : Nat → Int32) (T : Nat → Nat) (U : Nat → List Nat) (k : Nat) (hk2 : k < 2) (v : Int32) (hrep : rm_Rep (nI n) (nI b) cof nu co se li le fi sc ti un ma (n, Rr, P1, P2, T, U, b, cof)) : rg_M l yM_put (Cond.code yM_put prog_8_method_10_code 3 (some .int) :: rg_tbl) { frames := 3, cells := 0, slots := 0, locals := 69 } (dC, dI) rg_cl [(cI, .int), (cL, .long)] (rm_W h a cI cL cod (nI n) (nI b) cof mad nu co se li le fi sc ti un ma dr fr to en) [.ref h, .int (nI k), .int v] (rg_QI (dC, dI) rg_cl [(cI, .int), (cL, .long)] (S := rm_S) (rm_Po (rg_chg 2 (n, Rr, P1, P2, T, U, b, cof) (rg_setN (Rr (T b)) k v))) (fun u => rm_Wu h a cI cL u)) 0 0 := by
  refine rg_of prog_8_method_10_code 3 (some .int) (by decide) rfl (Nat.le_of_ble_eq_true rfl) ?_
  intro p e R s m args below meth c Q A H locs ls hR hQ hx hb hml hr hts hown hlk hnm hP hK hD hA hS hl
  have hl : lv_has ls 3 [(0, .ref h), (1, .int (nI k)), (2, .int v)] := hl
  have hts : ∀ w ∈ rg_tbl, w.before args s = true := fun w h => hts w (List.mem_cons_of_mem _ h)
  have hok := hrep.1
  have hn1 : 1 ≤ n := hok.1
  have hn60 : n ≤ 60 := hok.2.1
  have hb4 : b < 4 := hok.2.2.2.2.2.2.2.1
  have hTb : T b < n := (hok.2.2.2.2.2.2.1 b hb4).1
  have hti : ti b = nI (T b) := (hrep.2.2.2.2.2.2 b hb4).1
  have hma : ma b = nI (U b).length := (hrep.2.2.2.2.2.2 b hb4).2.1
  refine lv_aload_n hx hb dM_put_0 rfl (lv_at hl 0 rfl) ?_
  refine lv_iload_n hx hb dM_put_1 rfl (lv_at hl 1 rfl) ?_
  have J2 : ∀ v9 : Nat, v9 = 0 → W p l e R s m args below meth c H locs 0 0 Q (F0 m 15 ls [.int (nI v9), .ref h]) := by
    intro v9 hv9
    subst hv9
    refine va_put (D := (dC, dI)) (ci := 0) (v := .int (nI 0)) (ty := .int) (C := "RevisionGroveModel") (T := TM) (N := 19) hx hb hts inM tyM tyM_ok nmM hown hK hP hD hS 0 rfl rfl 0 (by decide) (hts _ tw_601) (fun _ h9 => h9) rfl (by decide +kernel) rfl rfl (Nat.le_of_ble_eq_true rfl) dM_put_15 (fun H locs hP hD hS => ?_)
    have hP : va_P (dC, dI) rg_cl (rm_W h a cI cL (nI 0) (nI n) (nI b) cof mad nu co se li le fi sc ti un ma dr fr to en) H := hP
    have hD : va_D A (rm_W h a cI cL (nI 0) (nI n) (nI b) cof mad nu co se li le fi sc ti un ma dr fr to en) := hD
    refine lv_aload_n hx hb dM_put_18 rfl (lv_at hl 0 rfl) ?_
    refine va_get (D := (dC, dI)) (ci := 0) (C := "RevisionGroveModel") (T := TM) (N := 19) hx hb hts inM hown hK hP 0 rfl rfl 0 (by decide) (hts _ tw_601) (fun _ h9 => h9) rfl dM_put_19 ?_
    refine rg_ifN_le (tgt := 27) hx hb dM_put_22 (by decide) (by decide) (fun h1 => ?_) (fun h1 => by exfalso; omega)
    refine lv_aload_n hx hb dM_put_27 rfl (lv_at hl 0 rfl) ?_
    refine lv_aload_n hx hb dM_put_28 rfl (lv_at hl 0 rfl) ?_
    refine rg_calli hD hS hA (va_runV (As := []) (rest := [.ref h]) ⟨hx, hb, hml, hown, hts⟩ (c_rm_here b (by omega) _) (cwV 0 hts (rg_gV tw_667 tw_669 ts_M_here tw_5 tw_670) rfl rfl rfl (by decide +kernel) ⟨by rw [hR]; exact Nat.le_of_ble_eq_true rfl, by rw [hR]; exact Nat.le_of_ble_eq_true rfl⟩) (rg_preV rfl hK hP hD (ci := 0) (q0 := 0) rfl rfl) rfl rfl hl.1 rfl (lv_room (Nat.le_of_ble_eq_true rfl)) dM_put_29 ⟨Nat.zero_le _, Nat.zero_le _⟩) (fun r2 u3 H locs hw4 hP hD hS => ?_)
    subst hw4
    have hP : va_P (dC, dI) rg_cl (rm_W h a cI cL (nI 0) (nI n) (nI b) cof mad nu co se li le fi sc ti un ma dr fr to en) H := hP
    have hD : va_D A (rm_W h a cI cL (nI 0) (nI n) (nI b) cof mad nu co se li le fi sc ti un ma dr fr to en) := hD
    refine rg_top (show (.int (ti b) : Value) = .int (nI (T b)) by rw [hti]) ?_
    refine lv_aload_n hx hb dM_put_32 rfl (lv_at hl 0 rfl) ?_
    refine va_get (D := (dC, dI)) (ci := 0) (C := "RevisionGroveModel") (T := TM) (N := 19) hx hb hts inM hown hK hP 0 rfl rfl 1 (by decide) (hts _ tw_602) (fun _ h9 => h9) rfl dM_put_33 ?_
    refine rg_callv hD hS hA (va_runV (As := [.int (nI (T b)), .int (nI n)]) (rest := []) ⟨hx, hb, hml, hown, hts⟩ (c_rm_copy (T b) n (by omega) (by omega) _) (cwV 2 hts (rg_gV tw_671 tw_673 ts_M_copy tw_5 tw_674) rfl rfl rfl (by decide +kernel) ⟨by rw [hR]; exact Nat.le_of_ble_eq_true rfl, by rw [hR]; exact Nat.le_of_ble_eq_true rfl⟩) (rg_preV rfl hK hP hD (ci := 0) (q0 := 0) rfl rfl) rfl rfl hl.1 rfl (lv_room (Nat.le_of_ble_eq_true rfl)) dM_put_36 ⟨Nat.zero_le _, Nat.zero_le _⟩) (fun u6 H locs hw7 hP hD hS => ?_)
    have hP : va_P (dC, dI) rg_cl (rm_W h a cI cL (nI 0) (nI n) (nI b) cof mad (va_cpy nu nu (2 * (T b)) (2 * n) 2) (va_cpy co co (2 * (T b)) (2 * n) 2) (va_cpy se se (2 * (T b)) (2 * n) 2) (va_cpy li li (16 * (T b)) (16 * n) 16) (va_cpy le le (2 * (T b)) (2 * n) 2) (upd fi n (fi (T b))) (upd sc n (sc (T b))) ti un ma dr fr to en) H := hP
    have hD : va_D A (rm_W h a cI cL (nI 0) (nI n) (nI b) cof mad (va_cpy nu nu (2 * (T b)) (2 * n) 2) (va_cpy co co (2 * (T b)) (2 * n) 2) (va_cpy se se (2 * (T b)) (2 * n) 2) (va_cpy li li (16 * (T b)) (16 * n) 16) (va_cpy le le (2 * (T b)) (2 * n) 2) (upd fi n (fi (T b))) (upd sc n (sc (T b))) ti un ma dr fr to en) := hD
    have hX0 : rg_MR (va_cpy nu nu (2 * (T b)) (2 * n) 2) (va_cpy co co (2 * (T b)) (2 * n) 2) (va_cpy se se (2 * (T b)) (2 * n) 2) (va_cpy le le (2 * (T b)) (2 * n) 2) (va_cpy li li (16 * (T b)) (16 * n) 16) n (Rr (T b)) := rg_MR_copy (hrep.2.2.2.2.1 (T b) hTb)
    refine lv_aload_n hx hb dM_put_39 rfl (lv_at hl 0 rfl) ?_
    refine va_get (D := (dC, dI)) (ci := 0) (C := "RevisionGroveModel") (T := TM) (N := 19) hx hb hts inM hown hK hP 0 rfl rfl 2 (by decide) (hts _ tw_603) (fun _ h9 => h9) rfl dM_put_40 ?_
    refine lv_iconst (v := nI 2) hx hb dM_put_43 (by decide) ?_
    refine lv_aload_n hx hb dM_put_44 rfl (lv_at hl 0 rfl) ?_
    refine va_get (D := (dC, dI)) (ci := 0) (C := "RevisionGroveModel") (T := TM) (N := 19) hx hb hts inM hown hK hP 0 rfl rfl 1 (by decide) (hts _ tw_602) (fun _ h9 => h9) rfl dM_put_45 ?_
    refine rg_imul hx hb dM_put_48 ?_
    refine lv_iload_n hx hb dM_put_49 rfl (lv_at hl 1 rfl) ?_
    refine rg_iadd hx hb dM_put_50 ?_
    refine lv_iload_n hx hb dM_put_51 rfl (lv_at hl 2 rfl) ?_
    refine rg_iast hx hb hK hP hD hS 1 0 rfl rfl (by decide) (by omega) dM_put_52 (fun H locs hP hD hS => ?_)
    have hP : va_P (dC, dI) rg_cl (rm_W h a cI cL (nI 0) (nI n) (nI b) cof mad (upd (va_cpy nu nu (2 * (T b)) (2 * n) 2) (2 * n + k) v) (va_cpy co co (2 * (T b)) (2 * n) 2) (va_cpy se se (2 * (T b)) (2 * n) 2) (va_cpy li li (16 * (T b)) (16 * n) 16) (va_cpy le le (2 * (T b)) (2 * n) 2) (upd fi n (fi (T b))) (upd sc n (sc (T b))) ti un ma dr fr to en) H := hP
    have hD : va_D A (rm_W h a cI cL (nI 0) (nI n) (nI b) cof mad (upd (va_cpy nu nu (2 * (T b)) (2 * n) 2) (2 * n + k) v) (va_cpy co co (2 * (T b)) (2 * n) 2) (va_cpy se se (2 * (T b)) (2 * n) 2) (va_cpy li li (16 * (T b)) (16 * n) 16) (va_cpy le le (2 * (T b)) (2 * n) 2) (upd fi n (fi (T b))) (upd sc n (sc (T b))) ti un ma dr fr to en) := hD
    have hrep1 : rm_Rep (nI n) (nI b) cof (upd (va_cpy nu nu (2 * (T b)) (2 * n) 2) (2 * n + k) v) (va_cpy co co (2 * (T b)) (2 * n) 2) (va_cpy se se (2 * (T b)) (2 * n) 2) (va_cpy li li (16 * (T b)) (16 * n) 16) (va_cpy le le (2 * (T b)) (2 * n) 2) (upd fi n (fi (T b))) (upd sc n (sc (T b))) ti un ma (n, Rr, P1, P2, T, U, b, cof) := rm_Rep_junk hrep (fun j hj => by have hj : j < 2 * n := hj; rw [pk_un (by omega), pk_cpy_out (by omega)]) (fun j hj => by have hj : j < 2 * n := hj; rw [pk_cpy_out (by omega)]) (fun j hj => by have hj : j < 2 * n := hj; rw [pk_cpy_out (by omega)]) (fun j hj => by have hj : j < 2 * n := hj; rw [pk_cpy_out (by omega)]) (fun j hj => by have hj : j < 16 * n := hj; rw [pk_cpy_out (by omega)]) (fun j hj => by have hj : j < n := hj; rw [pk_un (by omega)]) (fun j hj => by have hj : j < n := hj; rw [pk_un (by omega)])
    have hX1 : rg_MR (upd (va_cpy nu nu (2 * (T b)) (2 * n) 2) (2 * n + k) v) (va_cpy co co (2 * (T b)) (2 * n) 2) (va_cpy se se (2 * (T b)) (2 * n) 2) (va_cpy le le (2 * (T b)) (2 * n) 2) (va_cpy li li (16 * (T b)) (16 * n) 16) n (rg_setN (Rr (T b)) k v) := rg_MR_setN hX0
    refine lv_aload_n hx hb dM_put_53 rfl (lv_at hl 0 rfl) ?_
    refine rg_calli hD hS hA (va_runV (As := []) (rest := []) ⟨hx, hb, hml, hown, hts⟩ (c_rm_change n b Rr P1 P2 T U (rg_setN (Rr (T b)) k v) hrep1 hX1 _) (cwV 0 hts (rg_gV tw_675 tw_677 ts_M_change tw_5 tw_678) rfl rfl rfl (by decide +kernel) ⟨by rw [hR]; exact Nat.le_of_ble_eq_true rfl, by rw [hR]; exact Nat.le_of_ble_eq_true rfl⟩) (rg_preV rfl hK hP hD (ci := 0) (q0 := 0) rfl rfl) rfl rfl hl.1 rfl (lv_room (Nat.le_of_ble_eq_true rfl)) dM_put_54 ⟨Nat.zero_le _, Nat.zero_le _⟩) (fun r8 u9 H locs hw10 hP hD hS => ?_)
    obtain ⟨cod1, cnt1, bra1, cof1, mad1, nu1, co1, se1, li1, le1, fi1, sc1, ti1, un1, ma1, dr1, fr1, to1, en1⟩ := u9
    have hP : va_P (dC, dI) rg_cl (rm_W h a cI cL cod1 cnt1 bra1 cof1 mad1 nu1 co1 se1 li1 le1 fi1 sc1 ti1 un1 ma1 dr1 fr1 to1 en1) H := hP
    have hD : va_D A (rm_W h a cI cL cod1 cnt1 bra1 cof1 mad1 nu1 co1 se1 li1 le1 fi1 sc1 ti1 un1 ma1 dr1 fr1 to1 en1) := hD
    rw [hQ]
    exact rg_iret hx hb hr hlk hK hP hD hS dM_put_57 (cod1, cnt1, bra1, cof1, mad1, nu1, co1, se1, li1, le1, fi1, sc1, ti1, un1, ma1, dr1, fr1, to1, en1) rfl (hw10)
  refine rg_ifN_eq (tgt := 10) hx hb dM_put_2 (by decide) (by omega) (fun h11 => ?_) (fun h11 => ?_)
  · refine lv_iconst (v := nI 0) hx hb dM_put_10 (by decide) ?_
    refine lv_goto (tgt := 15) hx hb dM_put_11 (by decide) ?_
    exact J2 0 rfl
  · refine lv_iload_n hx hb dM_put_5 rfl (lv_at hl 1 rfl) ?_
    refine lv_iconst (v := nI 1) hx hb dM_put_6 (by decide) ?_
    refine rg_icmp_ne (tgt := 14) hx hb dM_put_7 (by decide) (by omega) (by omega) (fun h12 => by exfalso; omega) (fun h12 => ?_)
    refine lv_iconst (v := nI 0) hx hb dM_put_10 (by decide) ?_
    refine lv_goto (tgt := 15) hx hb dM_put_11 (by decide) ?_
    exact J2 0 rfl
set_option maxHeartbeats 4000000 in
set_option maxRecDepth 100000 in
theorem c_rm_put_bad {l : Launch} {dC : Nat → ClassId} {dI : Nat → Nat → Nat} {h : Nat} {a : Nat → Nat} {cI cL : ClassId} {cod : Int32} {cof : Int32} {mad : Int32} {nu : Nat → Int32} {co : Nat → Int64} {se : Nat → Int32} {li : Nat → Int32} {le : Nat → Int32} {fi : Nat → Int32} {sc : Nat → Int32} {ti : Nat → Int32} {un : Nat → Int32} {ma : Nat → Int32} {dr : Nat → Int32} {fr : Nat → Int32} {to : Nat → Int32} {en : Nat → Int32} (n b : Nat) (Rr : Nat → rg_R) (P1 P2 : Nat → Int32) (T : Nat → Nat) (U : Nat → List Nat) (f v : Int32) (hf0 : ¬ f = 0) (hf1 : ¬ f = 1) (hrep : rm_Rep (nI n) (nI b) cof nu co se li le fi sc ti un ma (n, Rr, P1, P2, T, U, b, cof)) : rg_M l yM_put (Cond.code yM_put prog_8_method_10_code 3 (some .int) :: rg_tbl) { frames := 3, cells := 0, slots := 0, locals := 69 } (dC, dI) rg_cl [(cI, .int), (cL, .long)] (rm_W h a cI cL cod (nI n) (nI b) cof mad nu co se li le fi sc ti un ma dr fr to en) [.ref h, .int f, .int v] (rg_QI (dC, dI) rg_cl [(cI, .int), (cL, .long)] (S := rm_S) (rm_Po (1, 0, (n, Rr, P1, P2, T, U, b, cof))) (fun u => rm_Wu h a cI cL u)) 0 0 := by
  refine rg_of prog_8_method_10_code 3 (some .int) (by decide) rfl (Nat.le_of_ble_eq_true rfl) ?_
  intro p e R s m args below meth c Q A H locs ls hR hQ hx hb hml hr hts hown hlk hnm hP hK hD hA hS hl
  have hl : lv_has ls 3 [(0, .ref h), (1, .int f), (2, .int v)] := hl
  have hts : ∀ w ∈ rg_tbl, w.before args s = true := fun w h => hts w (List.mem_cons_of_mem _ h)
  have hok := hrep.1
  have hn1 : 1 ≤ n := hok.1
  have hn60 : n ≤ 60 := hok.2.1
  have hb4 : b < 4 := hok.2.2.2.2.2.2.2.1
  have hTb : T b < n := (hok.2.2.2.2.2.2.1 b hb4).1
  have hti : ti b = nI (T b) := (hrep.2.2.2.2.2.2 b hb4).1
  have hma : ma b = nI (U b).length := (hrep.2.2.2.2.2.2 b hb4).2.1
  refine lv_aload_n hx hb dM_put_0 rfl (lv_at hl 0 rfl) ?_
  refine lv_iload_n hx hb dM_put_1 rfl (lv_at hl 1 rfl) ?_
  refine lv_if_eq (tgt := 10) hx hb dM_put_2 (by decide) (fun h1 => absurd h1 hf0) (fun h1 => ?_)
  refine lv_iload_n hx hb dM_put_5 rfl (lv_at hl 1 rfl) ?_
  refine lv_iconst (v := nI 1) hx hb dM_put_6 (by decide) ?_
  refine lv_icmp_ne (tgt := 14) hx hb dM_put_7 (by decide) (fun h2 => ?_) (fun h2 => absurd h2 hf1)
  refine lv_iconst (v := nI 1) hx hb dM_put_14 (by decide) ?_
  refine va_put (D := (dC, dI)) (ci := 0) (v := .int (nI 1)) (ty := .int) (C := "RevisionGroveModel") (T := TM) (N := 19) hx hb hts inM tyM tyM_ok nmM hown hK hP hD hS 0 rfl rfl 0 (by decide) (hts _ tw_601) (fun _ h9 => h9) rfl (by decide +kernel) rfl rfl (Nat.le_of_ble_eq_true rfl) dM_put_15 (fun H locs hP hD hS => ?_)
  have hP : va_P (dC, dI) rg_cl (rm_W h a cI cL (nI 1) (nI n) (nI b) cof mad nu co se li le fi sc ti un ma dr fr to en) H := hP
  have hD : va_D A (rm_W h a cI cL (nI 1) (nI n) (nI b) cof mad nu co se li le fi sc ti un ma dr fr to en) := hD
  refine lv_aload_n hx hb dM_put_18 rfl (lv_at hl 0 rfl) ?_
  refine va_get (D := (dC, dI)) (ci := 0) (C := "RevisionGroveModel") (T := TM) (N := 19) hx hb hts inM hown hK hP 0 rfl rfl 0 (by decide) (hts _ tw_601) (fun _ h9 => h9) rfl dM_put_19 ?_
  refine rg_ifN_le (tgt := 27) hx hb dM_put_22 (by decide) (by decide) (fun h3 => by exfalso; omega) (fun h3 => ?_)
  refine lv_iconst (v := nI 0) hx hb dM_put_25 (by decide) ?_
  rw [hQ]
  exact rg_iret hx hb hr hlk hK hP hD hS dM_put_26 (nI 1, nI n, nI b, cof, mad, nu, co, se, li, le, fi, sc, ti, un, ma, dr, fr, to, en) rfl (⟨hrep, rfl, rfl⟩)
set_option maxHeartbeats 4000000 in
set_option maxRecDepth 100000 in
theorem c_rm_add_ok {l : Launch} {dC : Nat → ClassId} {dI : Nat → Nat → Nat} {h : Nat} {a : Nat → Nat} {cI cL : ClassId} {cod : Int32} {cof : Int32} {mad : Int32} {nu : Nat → Int32} {co : Nat → Int64} {se : Nat → Int32} {li : Nat → Int32} {le : Nat → Int32} {fi : Nat → Int32} {sc : Nat → Int32} {ti : Nat → Int32} {un : Nat → Int32} {ma : Nat → Int32} {dr : Nat → Int32} {fr : Nat → Int32} {to : Nat → Int32} {en : Nat → Int32} (n b : Nat) (Rr : Nat → rg_R) (P1 P2 : Nat → Int32) (T : Nat → Nat) (U : Nat → List Nat) (k : Nat) (hk2 : k < 2) (v : Int32) (hrep : rm_Rep (nI n) (nI b) cof nu co se li le fi sc ti un ma (n, Rr, P1, P2, T, U, b, cof)) : rg_M l yM_add (Cond.code yM_add prog_8_method_11_code 3 (some .int) :: rg_tbl) { frames := 3, cells := 0, slots := 0, locals := 69 } (dC, dI) rg_cl [(cI, .int), (cL, .long)] (rm_W h a cI cL cod (nI n) (nI b) cof mad nu co se li le fi sc ti un ma dr fr to en) [.ref h, .int (nI (k + 2)), .int v] (rg_QI (dC, dI) rg_cl [(cI, .int), (cL, .long)] (S := rm_S) (rm_Po (rg_chg 2 (n, Rr, P1, P2, T, U, b, cof) (rg_setK (Rr (T b)) k ((Rr (T b)).2.1 k + v.toInt64)))) (fun u => rm_Wu h a cI cL u)) 0 0 := by
  refine rg_of prog_8_method_11_code 3 (some .int) (by decide) rfl (Nat.le_of_ble_eq_true rfl) ?_
  intro p e R s m args below meth c Q A H locs ls hR hQ hx hb hml hr hts hown hlk hnm hP hK hD hA hS hl
  have hl : lv_has ls 3 [(0, .ref h), (1, .int (nI (k + 2))), (2, .int v)] := hl
  have hts : ∀ w ∈ rg_tbl, w.before args s = true := fun w h => hts w (List.mem_cons_of_mem _ h)
  have hok := hrep.1
  have hn1 : 1 ≤ n := hok.1
  have hn60 : n ≤ 60 := hok.2.1
  have hb4 : b < 4 := hok.2.2.2.2.2.2.2.1
  have hTb : T b < n := (hok.2.2.2.2.2.2.1 b hb4).1
  have hti : ti b = nI (T b) := (hrep.2.2.2.2.2.2 b hb4).1
  have hma : ma b = nI (U b).length := (hrep.2.2.2.2.2.2 b hb4).2.1
  refine lv_aload_n hx hb dM_add_0 rfl (lv_at hl 0 rfl) ?_
  refine lv_iload_n hx hb dM_add_1 rfl (lv_at hl 1 rfl) ?_
  refine lv_iconst (v := nI 2) hx hb dM_add_2 (by decide) ?_
  have J3 : ∀ v9 : Nat, v9 = 0 → W p l e R s m args below meth c H locs 0 0 Q (F0 m 16 ls [.int (nI v9), .ref h]) := by
    intro v9 hv9
    subst hv9
    refine va_put (D := (dC, dI)) (ci := 0) (v := .int (nI 0)) (ty := .int) (C := "RevisionGroveModel") (T := TM) (N := 19) hx hb hts inM tyM tyM_ok nmM hown hK hP hD hS 0 rfl rfl 0 (by decide) (hts _ tw_601) (fun _ h9 => h9) rfl (by decide +kernel) rfl rfl (Nat.le_of_ble_eq_true rfl) dM_add_16 (fun H locs hP hD hS => ?_)
    have hP : va_P (dC, dI) rg_cl (rm_W h a cI cL (nI 0) (nI n) (nI b) cof mad nu co se li le fi sc ti un ma dr fr to en) H := hP
    have hD : va_D A (rm_W h a cI cL (nI 0) (nI n) (nI b) cof mad nu co se li le fi sc ti un ma dr fr to en) := hD
    refine lv_aload_n hx hb dM_add_19 rfl (lv_at hl 0 rfl) ?_
    refine va_get (D := (dC, dI)) (ci := 0) (C := "RevisionGroveModel") (T := TM) (N := 19) hx hb hts inM hown hK hP 0 rfl rfl 0 (by decide) (hts _ tw_601) (fun _ h9 => h9) rfl dM_add_20 ?_
    refine rg_ifN_le (tgt := 28) hx hb dM_add_23 (by decide) (by decide) (fun h1 => ?_) (fun h1 => by exfalso; omega)
    refine lv_aload_n hx hb dM_add_28 rfl (lv_at hl 0 rfl) ?_
    refine lv_aload_n hx hb dM_add_29 rfl (lv_at hl 0 rfl) ?_
    refine rg_calli hD hS hA (va_runV (As := []) (rest := [.ref h]) ⟨hx, hb, hml, hown, hts⟩ (c_rm_here b (by omega) _) (cwV 0 hts (rg_gV tw_667 tw_669 ts_M_here tw_5 tw_670) rfl rfl rfl (by decide +kernel) ⟨by rw [hR]; exact Nat.le_of_ble_eq_true rfl, by rw [hR]; exact Nat.le_of_ble_eq_true rfl⟩) (rg_preV rfl hK hP hD (ci := 0) (q0 := 0) rfl rfl) rfl rfl hl.1 rfl (lv_room (Nat.le_of_ble_eq_true rfl)) dM_add_30 ⟨Nat.zero_le _, Nat.zero_le _⟩) (fun r2 u3 H locs hw4 hP hD hS => ?_)
    subst hw4
    have hP : va_P (dC, dI) rg_cl (rm_W h a cI cL (nI 0) (nI n) (nI b) cof mad nu co se li le fi sc ti un ma dr fr to en) H := hP
    have hD : va_D A (rm_W h a cI cL (nI 0) (nI n) (nI b) cof mad nu co se li le fi sc ti un ma dr fr to en) := hD
    refine rg_top (show (.int (ti b) : Value) = .int (nI (T b)) by rw [hti]) ?_
    refine lv_aload_n hx hb dM_add_33 rfl (lv_at hl 0 rfl) ?_
    refine va_get (D := (dC, dI)) (ci := 0) (C := "RevisionGroveModel") (T := TM) (N := 19) hx hb hts inM hown hK hP 0 rfl rfl 1 (by decide) (hts _ tw_602) (fun _ h9 => h9) rfl dM_add_34 ?_
    refine rg_callv hD hS hA (va_runV (As := [.int (nI (T b)), .int (nI n)]) (rest := []) ⟨hx, hb, hml, hown, hts⟩ (c_rm_copy (T b) n (by omega) (by omega) _) (cwV 2 hts (rg_gV tw_671 tw_673 ts_M_copy tw_5 tw_674) rfl rfl rfl (by decide +kernel) ⟨by rw [hR]; exact Nat.le_of_ble_eq_true rfl, by rw [hR]; exact Nat.le_of_ble_eq_true rfl⟩) (rg_preV rfl hK hP hD (ci := 0) (q0 := 0) rfl rfl) rfl rfl hl.1 rfl (lv_room (Nat.le_of_ble_eq_true rfl)) dM_add_37 ⟨Nat.zero_le _, Nat.zero_le _⟩) (fun u6 H locs hw7 hP hD hS => ?_)
    have hP : va_P (dC, dI) rg_cl (rm_W h a cI cL (nI 0) (nI n) (nI b) cof mad (va_cpy nu nu (2 * (T b)) (2 * n) 2) (va_cpy co co (2 * (T b)) (2 * n) 2) (va_cpy se se (2 * (T b)) (2 * n) 2) (va_cpy li li (16 * (T b)) (16 * n) 16) (va_cpy le le (2 * (T b)) (2 * n) 2) (upd fi n (fi (T b))) (upd sc n (sc (T b))) ti un ma dr fr to en) H := hP
    have hD : va_D A (rm_W h a cI cL (nI 0) (nI n) (nI b) cof mad (va_cpy nu nu (2 * (T b)) (2 * n) 2) (va_cpy co co (2 * (T b)) (2 * n) 2) (va_cpy se se (2 * (T b)) (2 * n) 2) (va_cpy li li (16 * (T b)) (16 * n) 16) (va_cpy le le (2 * (T b)) (2 * n) 2) (upd fi n (fi (T b))) (upd sc n (sc (T b))) ti un ma dr fr to en) := hD
    have hX0 : rg_MR (va_cpy nu nu (2 * (T b)) (2 * n) 2) (va_cpy co co (2 * (T b)) (2 * n) 2) (va_cpy se se (2 * (T b)) (2 * n) 2) (va_cpy le le (2 * (T b)) (2 * n) 2) (va_cpy li li (16 * (T b)) (16 * n) 16) n (Rr (T b)) := rg_MR_copy (hrep.2.2.2.2.1 (T b) hTb)
    have q2 := (hX0 k (by omega)).2.1
    refine lv_aload_n hx hb dM_add_40 rfl (lv_at hl 0 rfl) ?_
    refine va_get (D := (dC, dI)) (ci := 0) (C := "RevisionGroveModel") (T := TM) (N := 19) hx hb hts inM hown hK hP 0 rfl rfl 3 (by decide) (hts _ tw_604) (fun _ h9 => h9) rfl dM_add_41 ?_
    refine lv_iconst (v := nI 2) hx hb dM_add_44 (by decide) ?_
    refine lv_aload_n hx hb dM_add_45 rfl (lv_at hl 0 rfl) ?_
    refine va_get (D := (dC, dI)) (ci := 0) (C := "RevisionGroveModel") (T := TM) (N := 19) hx hb hts inM hown hK hP 0 rfl rfl 1 (by decide) (hts _ tw_602) (fun _ h9 => h9) rfl dM_add_46 ?_
    refine rg_imul hx hb dM_add_49 ?_
    refine lv_iload_n hx hb dM_add_50 rfl (lv_at hl 1 rfl) ?_
    refine rg_iadd hx hb dM_add_51 ?_
    refine lv_iconst (v := nI 2) hx hb dM_add_52 (by decide) ?_
    refine rg_isub hx hb dM_add_53 (by omega) ?_
    refine rg_top (show (.int (nI (2 * n + (k + 2) - 2)) : Value) = .int (nI (2 * n + k)) by rw [show 2 * n + (k + 2) - 2 = 2 * n + k by omega]) ?_
    refine lv_dup2_11 hx hb dM_add_54 rfl rfl ?_
    refine rg_lald hx hb hK hP 2 1 rfl rfl (by decide) (by omega) dM_add_55 ?_
    refine rg_top (show (.long ((va_cpy co co (2 * (T b)) (2 * n) 2) (2 * n + k)) : Value) = .long ((Rr (T b)).2.1 k) by rw [q2]) ?_
    refine lv_iload_n hx hb dM_add_56 rfl (lv_at hl 2 rfl) ?_
    refine lv_i2l (v := v.toInt64) hx hb dM_add_57 rfl ?_
    refine lv_ladd hx hb dM_add_58 ?_
    refine rg_last hx hb hK hP hD hS 2 1 rfl rfl (by decide) (by omega) dM_add_59 (fun H locs hP hD hS => ?_)
    have hP : va_P (dC, dI) rg_cl (rm_W h a cI cL (nI 0) (nI n) (nI b) cof mad (va_cpy nu nu (2 * (T b)) (2 * n) 2) (vp_updL (va_cpy co co (2 * (T b)) (2 * n) 2) (2 * n + k) (((Rr (T b)).2.1 k) + v.toInt64)) (va_cpy se se (2 * (T b)) (2 * n) 2) (va_cpy li li (16 * (T b)) (16 * n) 16) (va_cpy le le (2 * (T b)) (2 * n) 2) (upd fi n (fi (T b))) (upd sc n (sc (T b))) ti un ma dr fr to en) H := hP
    have hD : va_D A (rm_W h a cI cL (nI 0) (nI n) (nI b) cof mad (va_cpy nu nu (2 * (T b)) (2 * n) 2) (vp_updL (va_cpy co co (2 * (T b)) (2 * n) 2) (2 * n + k) (((Rr (T b)).2.1 k) + v.toInt64)) (va_cpy se se (2 * (T b)) (2 * n) 2) (va_cpy li li (16 * (T b)) (16 * n) 16) (va_cpy le le (2 * (T b)) (2 * n) 2) (upd fi n (fi (T b))) (upd sc n (sc (T b))) ti un ma dr fr to en) := hD
    have hrep1 : rm_Rep (nI n) (nI b) cof (va_cpy nu nu (2 * (T b)) (2 * n) 2) (vp_updL (va_cpy co co (2 * (T b)) (2 * n) 2) (2 * n + k) (((Rr (T b)).2.1 k) + v.toInt64)) (va_cpy se se (2 * (T b)) (2 * n) 2) (va_cpy li li (16 * (T b)) (16 * n) 16) (va_cpy le le (2 * (T b)) (2 * n) 2) (upd fi n (fi (T b))) (upd sc n (sc (T b))) ti un ma (n, Rr, P1, P2, T, U, b, cof) := rm_Rep_junk hrep (fun j hj => by have hj : j < 2 * n := hj; rw [pk_cpy_out (by omega)]) (fun j hj => by have hj : j < 2 * n := hj; rw [pk_uLn (by omega), pk_cpy_out (by omega)]) (fun j hj => by have hj : j < 2 * n := hj; rw [pk_cpy_out (by omega)]) (fun j hj => by have hj : j < 2 * n := hj; rw [pk_cpy_out (by omega)]) (fun j hj => by have hj : j < 16 * n := hj; rw [pk_cpy_out (by omega)]) (fun j hj => by have hj : j < n := hj; rw [pk_un (by omega)]) (fun j hj => by have hj : j < n := hj; rw [pk_un (by omega)])
    have hX1 : rg_MR (va_cpy nu nu (2 * (T b)) (2 * n) 2) (vp_updL (va_cpy co co (2 * (T b)) (2 * n) 2) (2 * n + k) (((Rr (T b)).2.1 k) + v.toInt64)) (va_cpy se se (2 * (T b)) (2 * n) 2) (va_cpy le le (2 * (T b)) (2 * n) 2) (va_cpy li li (16 * (T b)) (16 * n) 16) n (rg_setK (Rr (T b)) k ((Rr (T b)).2.1 k + v.toInt64)) := rg_MR_setK hX0
    refine lv_aload_n hx hb dM_add_60 rfl (lv_at hl 0 rfl) ?_
    refine rg_calli hD hS hA (va_runV (As := []) (rest := []) ⟨hx, hb, hml, hown, hts⟩ (c_rm_change n b Rr P1 P2 T U (rg_setK (Rr (T b)) k ((Rr (T b)).2.1 k + v.toInt64)) hrep1 hX1 _) (cwV 0 hts (rg_gV tw_675 tw_677 ts_M_change tw_5 tw_678) rfl rfl rfl (by decide +kernel) ⟨by rw [hR]; exact Nat.le_of_ble_eq_true rfl, by rw [hR]; exact Nat.le_of_ble_eq_true rfl⟩) (rg_preV rfl hK hP hD (ci := 0) (q0 := 0) rfl rfl) rfl rfl hl.1 rfl (lv_room (Nat.le_of_ble_eq_true rfl)) dM_add_61 ⟨Nat.zero_le _, Nat.zero_le _⟩) (fun r8 u9 H locs hw10 hP hD hS => ?_)
    obtain ⟨cod2, cnt2, bra2, cof2, mad2, nu2, co2, se2, li2, le2, fi2, sc2, ti2, un2, ma2, dr2, fr2, to2, en2⟩ := u9
    have hP : va_P (dC, dI) rg_cl (rm_W h a cI cL cod2 cnt2 bra2 cof2 mad2 nu2 co2 se2 li2 le2 fi2 sc2 ti2 un2 ma2 dr2 fr2 to2 en2) H := hP
    have hD : va_D A (rm_W h a cI cL cod2 cnt2 bra2 cof2 mad2 nu2 co2 se2 li2 le2 fi2 sc2 ti2 un2 ma2 dr2 fr2 to2 en2) := hD
    rw [hQ]
    exact rg_iret hx hb hr hlk hK hP hD hS dM_add_64 (cod2, cnt2, bra2, cof2, mad2, nu2, co2, se2, li2, le2, fi2, sc2, ti2, un2, ma2, dr2, fr2, to2, en2) rfl (hw10)
  refine rg_icmp_eq (tgt := 11) hx hb dM_add_3 (by decide) (by omega) (by omega) (fun h11 => ?_) (fun h11 => ?_)
  · refine lv_iconst (v := nI 0) hx hb dM_add_11 (by decide) ?_
    refine lv_goto (tgt := 16) hx hb dM_add_12 (by decide) ?_
    exact J3 0 rfl
  · refine lv_iload_n hx hb dM_add_6 rfl (lv_at hl 1 rfl) ?_
    refine lv_iconst (v := nI 3) hx hb dM_add_7 (by decide) ?_
    refine rg_icmp_ne (tgt := 15) hx hb dM_add_8 (by decide) (by omega) (by omega) (fun h12 => by exfalso; omega) (fun h12 => ?_)
    refine lv_iconst (v := nI 0) hx hb dM_add_11 (by decide) ?_
    refine lv_goto (tgt := 16) hx hb dM_add_12 (by decide) ?_
    exact J3 0 rfl
set_option maxHeartbeats 4000000 in
set_option maxRecDepth 100000 in
theorem c_rm_add_bad {l : Launch} {dC : Nat → ClassId} {dI : Nat → Nat → Nat} {h : Nat} {a : Nat → Nat} {cI cL : ClassId} {cod : Int32} {cof : Int32} {mad : Int32} {nu : Nat → Int32} {co : Nat → Int64} {se : Nat → Int32} {li : Nat → Int32} {le : Nat → Int32} {fi : Nat → Int32} {sc : Nat → Int32} {ti : Nat → Int32} {un : Nat → Int32} {ma : Nat → Int32} {dr : Nat → Int32} {fr : Nat → Int32} {to : Nat → Int32} {en : Nat → Int32} (n b : Nat) (Rr : Nat → rg_R) (P1 P2 : Nat → Int32) (T : Nat → Nat) (U : Nat → List Nat) (f v : Int32) (hf0 : ¬ f = 2) (hf1 : ¬ f = 3) (hrep : rm_Rep (nI n) (nI b) cof nu co se li le fi sc ti un ma (n, Rr, P1, P2, T, U, b, cof)) : rg_M l yM_add (Cond.code yM_add prog_8_method_11_code 3 (some .int) :: rg_tbl) { frames := 3, cells := 0, slots := 0, locals := 69 } (dC, dI) rg_cl [(cI, .int), (cL, .long)] (rm_W h a cI cL cod (nI n) (nI b) cof mad nu co se li le fi sc ti un ma dr fr to en) [.ref h, .int f, .int v] (rg_QI (dC, dI) rg_cl [(cI, .int), (cL, .long)] (S := rm_S) (rm_Po (1, 0, (n, Rr, P1, P2, T, U, b, cof))) (fun u => rm_Wu h a cI cL u)) 0 0 := by
  refine rg_of prog_8_method_11_code 3 (some .int) (by decide) rfl (Nat.le_of_ble_eq_true rfl) ?_
  intro p e R s m args below meth c Q A H locs ls hR hQ hx hb hml hr hts hown hlk hnm hP hK hD hA hS hl
  have hl : lv_has ls 3 [(0, .ref h), (1, .int f), (2, .int v)] := hl
  have hts : ∀ w ∈ rg_tbl, w.before args s = true := fun w h => hts w (List.mem_cons_of_mem _ h)
  have hok := hrep.1
  have hn1 : 1 ≤ n := hok.1
  have hn60 : n ≤ 60 := hok.2.1
  have hb4 : b < 4 := hok.2.2.2.2.2.2.2.1
  have hTb : T b < n := (hok.2.2.2.2.2.2.1 b hb4).1
  have hti : ti b = nI (T b) := (hrep.2.2.2.2.2.2 b hb4).1
  have hma : ma b = nI (U b).length := (hrep.2.2.2.2.2.2 b hb4).2.1
  refine lv_aload_n hx hb dM_add_0 rfl (lv_at hl 0 rfl) ?_
  refine lv_iload_n hx hb dM_add_1 rfl (lv_at hl 1 rfl) ?_
  refine lv_iconst (v := nI 2) hx hb dM_add_2 (by decide) ?_
  refine lv_icmp_eq (tgt := 11) hx hb dM_add_3 (by decide) (fun h1 => absurd h1 hf0) (fun h1 => ?_)
  refine lv_iload_n hx hb dM_add_6 rfl (lv_at hl 1 rfl) ?_
  refine lv_iconst (v := nI 3) hx hb dM_add_7 (by decide) ?_
  refine lv_icmp_ne (tgt := 15) hx hb dM_add_8 (by decide) (fun h2 => ?_) (fun h2 => absurd h2 hf1)
  refine lv_iconst (v := nI 1) hx hb dM_add_15 (by decide) ?_
  refine va_put (D := (dC, dI)) (ci := 0) (v := .int (nI 1)) (ty := .int) (C := "RevisionGroveModel") (T := TM) (N := 19) hx hb hts inM tyM tyM_ok nmM hown hK hP hD hS 0 rfl rfl 0 (by decide) (hts _ tw_601) (fun _ h9 => h9) rfl (by decide +kernel) rfl rfl (Nat.le_of_ble_eq_true rfl) dM_add_16 (fun H locs hP hD hS => ?_)
  have hP : va_P (dC, dI) rg_cl (rm_W h a cI cL (nI 1) (nI n) (nI b) cof mad nu co se li le fi sc ti un ma dr fr to en) H := hP
  have hD : va_D A (rm_W h a cI cL (nI 1) (nI n) (nI b) cof mad nu co se li le fi sc ti un ma dr fr to en) := hD
  refine lv_aload_n hx hb dM_add_19 rfl (lv_at hl 0 rfl) ?_
  refine va_get (D := (dC, dI)) (ci := 0) (C := "RevisionGroveModel") (T := TM) (N := 19) hx hb hts inM hown hK hP 0 rfl rfl 0 (by decide) (hts _ tw_601) (fun _ h9 => h9) rfl dM_add_20 ?_
  refine rg_ifN_le (tgt := 28) hx hb dM_add_23 (by decide) (by decide) (fun h3 => by exfalso; omega) (fun h3 => ?_)
  refine lv_iconst (v := nI 0) hx hb dM_add_26 (by decide) ?_
  rw [hQ]
  exact rg_iret hx hb hr hlk hK hP hD hS dM_add_27 (nI 1, nI n, nI b, cof, mad, nu, co, se, li, le, fi, sc, ti, un, ma, dr, fr, to, en) rfl (⟨hrep, rfl, rfl⟩)
set_option maxHeartbeats 4000000 in
set_option maxRecDepth 100000 in
theorem c_rm_mark_ok {l : Launch} {dC : Nat → ClassId} {dI : Nat → Nat → Nat} {h : Nat} {a : Nat → Nat} {cI cL : ClassId} {cod : Int32} {cof : Int32} {mad : Int32} {nu : Nat → Int32} {co : Nat → Int64} {se : Nat → Int32} {li : Nat → Int32} {le : Nat → Int32} {fi : Nat → Int32} {sc : Nat → Int32} {ti : Nat → Int32} {un : Nat → Int32} {ma : Nat → Int32} {dr : Nat → Int32} {fr : Nat → Int32} {to : Nat → Int32} {en : Nat → Int32} (n b : Nat) (Rr : Nat → rg_R) (P1 P2 : Nat → Int32) (T : Nat → Nat) (U : Nat → List Nat) (k x : Nat) (hk2 : k < 2) (hx32 : x < 32) (w : Bool) (hrep : rm_Rep (nI n) (nI b) cof nu co se li le fi sc ti un ma (n, Rr, P1, P2, T, U, b, cof)) : rg_M l yM_mark (Cond.code yM_mark prog_8_method_12_code 5 (some .int) :: rg_tbl) { frames := 3, cells := 0, slots := 0, locals := 69 } (dC, dI) rg_cl [(cI, .int), (cL, .long)] (rm_W h a cI cL cod (nI n) (nI b) cof mad nu co se li le fi sc ti un ma dr fr to en) [.ref h, .int (nI (k + 4)), .int (nI x), .int (bif w then 1 else 0)] (rg_QI (dC, dI) rg_cl [(cI, .int), (cL, .long)] (S := rm_S) (rm_Po (rg_chg 2 (n, Rr, P1, P2, T, U, b, cof) (rg_setE (Rr (T b)) k (rg_mk ((Rr (T b)).2.2.1 k) x w)))) (fun u => rm_Wu h a cI cL u)) 0 0 := by
  refine rg_of prog_8_method_12_code 5 (some .int) (by decide) rfl (Nat.le_of_ble_eq_true rfl) ?_
  intro p e R s m args below meth c Q A H locs ls hR hQ hx hb hml hr hts hown hlk hnm hP hK hD hA hS hl
  have hl : lv_has ls 5 [(0, .ref h), (1, .int (nI (k + 4))), (2, .int (nI x)), (3, .int (bif w then 1 else 0))] := hl
  have hts : ∀ w ∈ rg_tbl, w.before args s = true := fun w h => hts w (List.mem_cons_of_mem _ h)
  have hok := hrep.1
  have hn1 : 1 ≤ n := hok.1
  have hn60 : n ≤ 60 := hok.2.1
  have hb4 : b < 4 := hok.2.2.2.2.2.2.2.1
  have hTb : T b < n := (hok.2.2.2.2.2.2.1 b hb4).1
  have hti : ti b = nI (T b) := (hrep.2.2.2.2.2.2 b hb4).1
  have hma : ma b = nI (U b).length := (hrep.2.2.2.2.2.2 b hb4).2.1
  refine lv_aload_n hx hb dM_mark_0 rfl (lv_at hl 0 rfl) ?_
  refine lv_iload_n hx hb dM_mark_1 rfl (lv_at hl 1 rfl) ?_
  refine lv_iconst (v := nI 4) hx hb dM_mark_2 (by decide) ?_
  have J3 : ∀ v9 : Nat, v9 = 0 → W p l e R s m args below meth c H locs 0 0 Q (F0 m 26 ls [.int (nI v9), .ref h]) := by
    intro v9 hv9
    subst hv9
    refine va_put (D := (dC, dI)) (ci := 0) (v := .int (nI 0)) (ty := .int) (C := "RevisionGroveModel") (T := TM) (N := 19) hx hb hts inM tyM tyM_ok nmM hown hK hP hD hS 0 rfl rfl 0 (by decide) (hts _ tw_601) (fun _ h9 => h9) rfl (by decide +kernel) rfl rfl (Nat.le_of_ble_eq_true rfl) dM_mark_26 (fun H locs hP hD hS => ?_)
    have hP : va_P (dC, dI) rg_cl (rm_W h a cI cL (nI 0) (nI n) (nI b) cof mad nu co se li le fi sc ti un ma dr fr to en) H := hP
    have hD : va_D A (rm_W h a cI cL (nI 0) (nI n) (nI b) cof mad nu co se li le fi sc ti un ma dr fr to en) := hD
    refine lv_aload_n hx hb dM_mark_29 rfl (lv_at hl 0 rfl) ?_
    refine va_get (D := (dC, dI)) (ci := 0) (C := "RevisionGroveModel") (T := TM) (N := 19) hx hb hts inM hown hK hP 0 rfl rfl 0 (by decide) (hts _ tw_601) (fun _ h9 => h9) rfl dM_mark_30 ?_
    refine rg_ifN_le (tgt := 38) hx hb dM_mark_33 (by decide) (by decide) (fun h1 => ?_) (fun h1 => by exfalso; omega)
    refine lv_aload_n hx hb dM_mark_38 rfl (lv_at hl 0 rfl) ?_
    refine lv_aload_n hx hb dM_mark_39 rfl (lv_at hl 0 rfl) ?_
    refine rg_calli hD hS hA (va_runV (As := []) (rest := [.ref h]) ⟨hx, hb, hml, hown, hts⟩ (c_rm_here b (by omega) _) (cwV 0 hts (rg_gV tw_667 tw_669 ts_M_here tw_5 tw_670) rfl rfl rfl (by decide +kernel) ⟨by rw [hR]; exact Nat.le_of_ble_eq_true rfl, by rw [hR]; exact Nat.le_of_ble_eq_true rfl⟩) (rg_preV rfl hK hP hD (ci := 0) (q0 := 0) rfl rfl) rfl rfl hl.1 rfl (lv_room (Nat.le_of_ble_eq_true rfl)) dM_mark_40 ⟨Nat.zero_le _, Nat.zero_le _⟩) (fun r2 u3 H locs hw4 hP hD hS => ?_)
    subst hw4
    have hP : va_P (dC, dI) rg_cl (rm_W h a cI cL (nI 0) (nI n) (nI b) cof mad nu co se li le fi sc ti un ma dr fr to en) H := hP
    have hD : va_D A (rm_W h a cI cL (nI 0) (nI n) (nI b) cof mad nu co se li le fi sc ti un ma dr fr to en) := hD
    refine rg_top (show (.int (ti b) : Value) = .int (nI (T b)) by rw [hti]) ?_
    refine lv_aload_n hx hb dM_mark_43 rfl (lv_at hl 0 rfl) ?_
    refine va_get (D := (dC, dI)) (ci := 0) (C := "RevisionGroveModel") (T := TM) (N := 19) hx hb hts inM hown hK hP 0 rfl rfl 1 (by decide) (hts _ tw_602) (fun _ h9 => h9) rfl dM_mark_44 ?_
    refine rg_callv hD hS hA (va_runV (As := [.int (nI (T b)), .int (nI n)]) (rest := []) ⟨hx, hb, hml, hown, hts⟩ (c_rm_copy (T b) n (by omega) (by omega) _) (cwV 2 hts (rg_gV tw_671 tw_673 ts_M_copy tw_5 tw_674) rfl rfl rfl (by decide +kernel) ⟨by rw [hR]; exact Nat.le_of_ble_eq_true rfl, by rw [hR]; exact Nat.le_of_ble_eq_true rfl⟩) (rg_preV rfl hK hP hD (ci := 0) (q0 := 0) rfl rfl) rfl rfl hl.1 rfl (lv_room (Nat.le_of_ble_eq_true rfl)) dM_mark_47 ⟨Nat.zero_le _, Nat.zero_le _⟩) (fun u6 H locs hw7 hP hD hS => ?_)
    have hP : va_P (dC, dI) rg_cl (rm_W h a cI cL (nI 0) (nI n) (nI b) cof mad (va_cpy nu nu (2 * (T b)) (2 * n) 2) (va_cpy co co (2 * (T b)) (2 * n) 2) (va_cpy se se (2 * (T b)) (2 * n) 2) (va_cpy li li (16 * (T b)) (16 * n) 16) (va_cpy le le (2 * (T b)) (2 * n) 2) (upd fi n (fi (T b))) (upd sc n (sc (T b))) ti un ma dr fr to en) H := hP
    have hD : va_D A (rm_W h a cI cL (nI 0) (nI n) (nI b) cof mad (va_cpy nu nu (2 * (T b)) (2 * n) 2) (va_cpy co co (2 * (T b)) (2 * n) 2) (va_cpy se se (2 * (T b)) (2 * n) 2) (va_cpy li li (16 * (T b)) (16 * n) 16) (va_cpy le le (2 * (T b)) (2 * n) 2) (upd fi n (fi (T b))) (upd sc n (sc (T b))) ti un ma dr fr to en) := hD
    have hX0 : rg_MR (va_cpy nu nu (2 * (T b)) (2 * n) 2) (va_cpy co co (2 * (T b)) (2 * n) 2) (va_cpy se se (2 * (T b)) (2 * n) 2) (va_cpy le le (2 * (T b)) (2 * n) 2) (va_cpy li li (16 * (T b)) (16 * n) 16) n (Rr (T b)) := rg_MR_copy (hrep.2.2.2.2.1 (T b) hTb)
    have q2 := (hX0 k (by omega)).2.2.1
    refine lv_aload_n hx hb dM_mark_50 rfl (lv_at hl 0 rfl) ?_
    refine va_get (D := (dC, dI)) (ci := 0) (C := "RevisionGroveModel") (T := TM) (N := 19) hx hb hts inM hown hK hP 0 rfl rfl 4 (by decide) (hts _ tw_605) (fun _ h9 => h9) rfl dM_mark_51 ?_
    refine lv_iconst (v := nI 2) hx hb dM_mark_54 (by decide) ?_
    refine lv_aload_n hx hb dM_mark_55 rfl (lv_at hl 0 rfl) ?_
    refine va_get (D := (dC, dI)) (ci := 0) (C := "RevisionGroveModel") (T := TM) (N := 19) hx hb hts inM hown hK hP 0 rfl rfl 1 (by decide) (hts _ tw_602) (fun _ h9 => h9) rfl dM_mark_56 ?_
    refine rg_imul hx hb dM_mark_59 ?_
    refine lv_iload_n hx hb dM_mark_60 rfl (lv_at hl 1 rfl) ?_
    refine rg_iadd hx hb dM_mark_61 ?_
    refine lv_iconst (v := nI 4) hx hb dM_mark_62 (by decide) ?_
    refine rg_isub hx hb dM_mark_63 (by omega) ?_
    refine rg_top (show (.int (nI (2 * n + (k + 4) - 4)) : Value) = .int (nI (2 * n + k)) by rw [show 2 * n + (k + 4) - 4 = 2 * n + k by omega]) ?_
    refine rg_iald hx hb hK hP 3 0 rfl rfl (by decide) (by omega) dM_mark_64 ?_
    refine rg_top (show (.int ((va_cpy se se (2 * (T b)) (2 * n) 2) (2 * n + k)) : Value) = .int ((Rr (T b)).2.2.1 k) by rw [q2]) ?_
    refine lv_istore (lv' := [(4, .int ((Rr (T b)).2.2.1 k)), (0, .ref h), (1, .int (nI (k + 4))), (2, .int (nI x)), (3, .int (bif w then 1 else 0))]) hx hb dM_mark_65 hl (by decide) rfl (fun ls hl => ?_)
    refine lv_aload_n hx hb dM_mark_67 rfl (lv_at hl 1 rfl) ?_
    refine va_get (D := (dC, dI)) (ci := 0) (C := "RevisionGroveModel") (T := TM) (N := 19) hx hb hts inM hown hK hP 0 rfl rfl 4 (by decide) (hts _ tw_605) (fun _ h9 => h9) rfl dM_mark_68 ?_
    refine lv_iconst (v := nI 2) hx hb dM_mark_71 (by decide) ?_
    refine lv_aload_n hx hb dM_mark_72 rfl (lv_at hl 1 rfl) ?_
    refine va_get (D := (dC, dI)) (ci := 0) (C := "RevisionGroveModel") (T := TM) (N := 19) hx hb hts inM hown hK hP 0 rfl rfl 1 (by decide) (hts _ tw_602) (fun _ h9 => h9) rfl dM_mark_73 ?_
    refine rg_imul hx hb dM_mark_76 ?_
    refine lv_iload_n hx hb dM_mark_77 rfl (lv_at hl 2 rfl) ?_
    refine rg_iadd hx hb dM_mark_78 ?_
    refine lv_iconst (v := nI 4) hx hb dM_mark_79 (by decide) ?_
    refine rg_isub hx hb dM_mark_80 (by omega) ?_
    refine rg_top (show (.int (nI (2 * n + (k + 4) - 4)) : Value) = .int (nI (2 * n + k)) by rw [show 2 * n + (k + 4) - 4 = 2 * n + k by omega]) ?_
    refine lv_iload_n hx hb dM_mark_81 rfl (lv_at hl 4 rfl) ?_
    have J82 : ∀ v9 : Int32, v9 = (rg_mk ((Rr (T b)).2.2.1 k) x w) → W p l e R s m args below meth c H locs 0 0 Q (F0 m 102 ls [.int v9, .int (nI (2 * n + k)), .ref ((a 3))]) := by
      intro v9 hv9
      subst hv9
      refine rg_iast hx hb hK hP hD hS 3 0 rfl rfl (by decide) (by omega) dM_mark_102 (fun H locs hP hD hS => ?_)
      have hP : va_P (dC, dI) rg_cl (rm_W h a cI cL (nI 0) (nI n) (nI b) cof mad (va_cpy nu nu (2 * (T b)) (2 * n) 2) (va_cpy co co (2 * (T b)) (2 * n) 2) (upd (va_cpy se se (2 * (T b)) (2 * n) 2) (2 * n + k) (rg_mk ((Rr (T b)).2.2.1 k) x w)) (va_cpy li li (16 * (T b)) (16 * n) 16) (va_cpy le le (2 * (T b)) (2 * n) 2) (upd fi n (fi (T b))) (upd sc n (sc (T b))) ti un ma dr fr to en) H := hP
      have hD : va_D A (rm_W h a cI cL (nI 0) (nI n) (nI b) cof mad (va_cpy nu nu (2 * (T b)) (2 * n) 2) (va_cpy co co (2 * (T b)) (2 * n) 2) (upd (va_cpy se se (2 * (T b)) (2 * n) 2) (2 * n + k) (rg_mk ((Rr (T b)).2.2.1 k) x w)) (va_cpy li li (16 * (T b)) (16 * n) 16) (va_cpy le le (2 * (T b)) (2 * n) 2) (upd fi n (fi (T b))) (upd sc n (sc (T b))) ti un ma dr fr to en) := hD
      have hrep1 : rm_Rep (nI n) (nI b) cof (va_cpy nu nu (2 * (T b)) (2 * n) 2) (va_cpy co co (2 * (T b)) (2 * n) 2) (upd (va_cpy se se (2 * (T b)) (2 * n) 2) (2 * n + k) (rg_mk ((Rr (T b)).2.2.1 k) x w)) (va_cpy li li (16 * (T b)) (16 * n) 16) (va_cpy le le (2 * (T b)) (2 * n) 2) (upd fi n (fi (T b))) (upd sc n (sc (T b))) ti un ma (n, Rr, P1, P2, T, U, b, cof) := rm_Rep_junk hrep (fun j hj => by have hj : j < 2 * n := hj; rw [pk_cpy_out (by omega)]) (fun j hj => by have hj : j < 2 * n := hj; rw [pk_cpy_out (by omega)]) (fun j hj => by have hj : j < 2 * n := hj; rw [pk_un (by omega), pk_cpy_out (by omega)]) (fun j hj => by have hj : j < 2 * n := hj; rw [pk_cpy_out (by omega)]) (fun j hj => by have hj : j < 16 * n := hj; rw [pk_cpy_out (by omega)]) (fun j hj => by have hj : j < n := hj; rw [pk_un (by omega)]) (fun j hj => by have hj : j < n := hj; rw [pk_un (by omega)])
      have hX1 : rg_MR (va_cpy nu nu (2 * (T b)) (2 * n) 2) (va_cpy co co (2 * (T b)) (2 * n) 2) (upd (va_cpy se se (2 * (T b)) (2 * n) 2) (2 * n + k) (rg_mk ((Rr (T b)).2.2.1 k) x w)) (va_cpy le le (2 * (T b)) (2 * n) 2) (va_cpy li li (16 * (T b)) (16 * n) 16) n (rg_setE (Rr (T b)) k (rg_mk ((Rr (T b)).2.2.1 k) x w)) := rg_MR_setE hX0
      refine lv_aload_n hx hb dM_mark_103 rfl (lv_at hl 1 rfl) ?_
      refine rg_calli hD hS hA (va_runV (As := []) (rest := []) ⟨hx, hb, hml, hown, hts⟩ (c_rm_change n b Rr P1 P2 T U (rg_setE (Rr (T b)) k (rg_mk ((Rr (T b)).2.2.1 k) x w)) hrep1 hX1 _) (cwV 0 hts (rg_gV tw_675 tw_677 ts_M_change tw_5 tw_678) rfl rfl rfl (by decide +kernel) ⟨by rw [hR]; exact Nat.le_of_ble_eq_true rfl, by rw [hR]; exact Nat.le_of_ble_eq_true rfl⟩) (rg_preV rfl hK hP hD (ci := 0) (q0 := 0) rfl rfl) rfl rfl hl.1 rfl (lv_room (Nat.le_of_ble_eq_true rfl)) dM_mark_104 ⟨Nat.zero_le _, Nat.zero_le _⟩) (fun r8 u9 H locs hw10 hP hD hS => ?_)
      obtain ⟨cod3, cnt3, bra3, cof3, mad3, nu3, co3, se3, li3, le3, fi3, sc3, ti3, un3, ma3, dr3, fr3, to3, en3⟩ := u9
      have hP : va_P (dC, dI) rg_cl (rm_W h a cI cL cod3 cnt3 bra3 cof3 mad3 nu3 co3 se3 li3 le3 fi3 sc3 ti3 un3 ma3 dr3 fr3 to3 en3) H := hP
      have hD : va_D A (rm_W h a cI cL cod3 cnt3 bra3 cof3 mad3 nu3 co3 se3 li3 le3 fi3 sc3 ti3 un3 ma3 dr3 fr3 to3 en3) := hD
      rw [hQ]
      exact rg_iret hx hb hr hlk hK hP hD hS dM_mark_107 (cod3, cnt3, bra3, cof3, mad3, nu3, co3, se3, li3, le3, fi3, sc3, ti3, un3, ma3, dr3, fr3, to3, en3) rfl (hw10)
    refine rg_ifz_eq (tgt := 94) hx hb dM_mark_82 (by decide) (fun h11 => ?_) (fun h11 => ?_)
    · refine lv_iload hx hb dM_mark_94 (lv_at hl 0 rfl) ?_
      refine lv_iconst (v := nI 1) hx hb dM_mark_96 (by decide) ?_
      refine lv_iload_n hx hb dM_mark_97 rfl (lv_at hl 3 rfl) ?_
      refine lv_ishl hx hb dM_mark_98 ?_
      refine lv_iconst (v := -1) hx hb dM_mark_99 (by decide) ?_
      refine lv_ixor hx hb dM_mark_100 ?_
      refine lv_iand hx hb dM_mark_101 ?_
      exact J82 _ (by rw [h11]; rfl)
    · refine lv_iload hx hb dM_mark_85 (lv_at hl 0 rfl) ?_
      refine lv_iconst (v := nI 1) hx hb dM_mark_87 (by decide) ?_
      refine lv_iload_n hx hb dM_mark_88 rfl (lv_at hl 3 rfl) ?_
      refine lv_ishl hx hb dM_mark_89 ?_
      refine lv_ior hx hb dM_mark_90 ?_
      refine lv_goto (tgt := 102) hx hb dM_mark_91 (by decide) ?_
      exact J82 _ (by rw [h11]; rfl)
  refine rg_icmp_eq (tgt := 11) hx hb dM_mark_3 (by decide) (by omega) (by omega) (fun h12 => ?_) (fun h12 => ?_)
  · refine lv_iload_n hx hb dM_mark_11 rfl (lv_at hl 2 rfl) ?_
    refine rg_ifN_lt (tgt := 25) hx hb dM_mark_12 (by decide) (by omega) (fun h13 => h13.elim) (fun h13 => ?_)
    refine lv_iload_n hx hb dM_mark_15 rfl (lv_at hl 2 rfl) ?_
    refine lv_bipush (v := nI 31) hx hb dM_mark_16 (by decide) ?_
    refine rg_icmp_gt (tgt := 25) hx hb dM_mark_18 (by decide) (by omega) (by omega) (fun h14 => by exfalso; omega) (fun h14 => ?_)
    refine lv_iconst (v := nI 0) hx hb dM_mark_21 (by decide) ?_
    refine lv_goto (tgt := 26) hx hb dM_mark_22 (by decide) ?_
    exact J3 0 rfl
  · refine lv_iload_n hx hb dM_mark_6 rfl (lv_at hl 1 rfl) ?_
    refine lv_iconst (v := nI 5) hx hb dM_mark_7 (by decide) ?_
    refine rg_icmp_ne (tgt := 25) hx hb dM_mark_8 (by decide) (by omega) (by omega) (fun h15 => by exfalso; omega) (fun h15 => ?_)
    refine lv_iload_n hx hb dM_mark_11 rfl (lv_at hl 2 rfl) ?_
    refine rg_ifN_lt (tgt := 25) hx hb dM_mark_12 (by decide) (by omega) (fun h16 => h16.elim) (fun h16 => ?_)
    refine lv_iload_n hx hb dM_mark_15 rfl (lv_at hl 2 rfl) ?_
    refine lv_bipush (v := nI 31) hx hb dM_mark_16 (by decide) ?_
    refine rg_icmp_gt (tgt := 25) hx hb dM_mark_18 (by decide) (by omega) (by omega) (fun h17 => by exfalso; omega) (fun h17 => ?_)
    refine lv_iconst (v := nI 0) hx hb dM_mark_21 (by decide) ?_
    refine lv_goto (tgt := 26) hx hb dM_mark_22 (by decide) ?_
    exact J3 0 rfl
set_option maxHeartbeats 4000000 in
set_option maxRecDepth 100000 in
theorem c_rm_mark_badf {l : Launch} {dC : Nat → ClassId} {dI : Nat → Nat → Nat} {h : Nat} {a : Nat → Nat} {cI cL : ClassId} {cod : Int32} {cof : Int32} {mad : Int32} {nu : Nat → Int32} {co : Nat → Int64} {se : Nat → Int32} {li : Nat → Int32} {le : Nat → Int32} {fi : Nat → Int32} {sc : Nat → Int32} {ti : Nat → Int32} {un : Nat → Int32} {ma : Nat → Int32} {dr : Nat → Int32} {fr : Nat → Int32} {to : Nat → Int32} {en : Nat → Int32} (n b : Nat) (Rr : Nat → rg_R) (P1 P2 : Nat → Int32) (T : Nat → Nat) (U : Nat → List Nat) (f x : Int32) (w : Bool) (hf0 : ¬ f = 4) (hf1 : ¬ f = 5) (hrep : rm_Rep (nI n) (nI b) cof nu co se li le fi sc ti un ma (n, Rr, P1, P2, T, U, b, cof)) : rg_M l yM_mark (Cond.code yM_mark prog_8_method_12_code 5 (some .int) :: rg_tbl) { frames := 3, cells := 0, slots := 0, locals := 69 } (dC, dI) rg_cl [(cI, .int), (cL, .long)] (rm_W h a cI cL cod (nI n) (nI b) cof mad nu co se li le fi sc ti un ma dr fr to en) [.ref h, .int f, .int x, .int (bif w then 1 else 0)] (rg_QI (dC, dI) rg_cl [(cI, .int), (cL, .long)] (S := rm_S) (rm_Po (1, 0, (n, Rr, P1, P2, T, U, b, cof))) (fun u => rm_Wu h a cI cL u)) 0 0 := by
  refine rg_of prog_8_method_12_code 5 (some .int) (by decide) rfl (Nat.le_of_ble_eq_true rfl) ?_
  intro p e R s m args below meth c Q A H locs ls hR hQ hx hb hml hr hts hown hlk hnm hP hK hD hA hS hl
  have hl : lv_has ls 5 [(0, .ref h), (1, .int f), (2, .int x), (3, .int (bif w then 1 else 0))] := hl
  have hts : ∀ w ∈ rg_tbl, w.before args s = true := fun w h => hts w (List.mem_cons_of_mem _ h)
  have hok := hrep.1
  have hn1 : 1 ≤ n := hok.1
  have hn60 : n ≤ 60 := hok.2.1
  have hb4 : b < 4 := hok.2.2.2.2.2.2.2.1
  have hTb : T b < n := (hok.2.2.2.2.2.2.1 b hb4).1
  have hti : ti b = nI (T b) := (hrep.2.2.2.2.2.2 b hb4).1
  have hma : ma b = nI (U b).length := (hrep.2.2.2.2.2.2 b hb4).2.1
  refine lv_aload_n hx hb dM_mark_0 rfl (lv_at hl 0 rfl) ?_
  refine lv_iload_n hx hb dM_mark_1 rfl (lv_at hl 1 rfl) ?_
  refine lv_iconst (v := nI 4) hx hb dM_mark_2 (by decide) ?_
  refine lv_icmp_eq (tgt := 11) hx hb dM_mark_3 (by decide) (fun h1 => absurd h1 hf0) (fun h1 => ?_)
  refine lv_iload_n hx hb dM_mark_6 rfl (lv_at hl 1 rfl) ?_
  refine lv_iconst (v := nI 5) hx hb dM_mark_7 (by decide) ?_
  refine lv_icmp_ne (tgt := 25) hx hb dM_mark_8 (by decide) (fun h2 => ?_) (fun h2 => absurd h2 hf1)
  refine lv_iconst (v := nI 1) hx hb dM_mark_25 (by decide) ?_
  refine va_put (D := (dC, dI)) (ci := 0) (v := .int (nI 1)) (ty := .int) (C := "RevisionGroveModel") (T := TM) (N := 19) hx hb hts inM tyM tyM_ok nmM hown hK hP hD hS 0 rfl rfl 0 (by decide) (hts _ tw_601) (fun _ h9 => h9) rfl (by decide +kernel) rfl rfl (Nat.le_of_ble_eq_true rfl) dM_mark_26 (fun H locs hP hD hS => ?_)
  have hP : va_P (dC, dI) rg_cl (rm_W h a cI cL (nI 1) (nI n) (nI b) cof mad nu co se li le fi sc ti un ma dr fr to en) H := hP
  have hD : va_D A (rm_W h a cI cL (nI 1) (nI n) (nI b) cof mad nu co se li le fi sc ti un ma dr fr to en) := hD
  refine lv_aload_n hx hb dM_mark_29 rfl (lv_at hl 0 rfl) ?_
  refine va_get (D := (dC, dI)) (ci := 0) (C := "RevisionGroveModel") (T := TM) (N := 19) hx hb hts inM hown hK hP 0 rfl rfl 0 (by decide) (hts _ tw_601) (fun _ h9 => h9) rfl dM_mark_30 ?_
  refine rg_ifN_le (tgt := 38) hx hb dM_mark_33 (by decide) (by decide) (fun h3 => by exfalso; omega) (fun h3 => ?_)
  refine lv_iconst (v := nI 0) hx hb dM_mark_36 (by decide) ?_
  rw [hQ]
  exact rg_iret hx hb hr hlk hK hP hD hS dM_mark_37 (nI 1, nI n, nI b, cof, mad, nu, co, se, li, le, fi, sc, ti, un, ma, dr, fr, to, en) rfl (⟨hrep, rfl, rfl⟩)
set_option maxHeartbeats 4000000 in
set_option maxRecDepth 100000 in
theorem c_rm_mark_badx {l : Launch} {dC : Nat → ClassId} {dI : Nat → Nat → Nat} {h : Nat} {a : Nat → Nat} {cI cL : ClassId} {cod : Int32} {cof : Int32} {mad : Int32} {nu : Nat → Int32} {co : Nat → Int64} {se : Nat → Int32} {li : Nat → Int32} {le : Nat → Int32} {fi : Nat → Int32} {sc : Nat → Int32} {ti : Nat → Int32} {un : Nat → Int32} {ma : Nat → Int32} {dr : Nat → Int32} {fr : Nat → Int32} {to : Nat → Int32} {en : Nat → Int32} (n b : Nat) (Rr : Nat → rg_R) (P1 P2 : Nat → Int32) (T : Nat → Nat) (U : Nat → List Nat) (k : Nat) (hk2 : k < 2) (x : Int32) (w : Bool) (hx0 : x < 0 ∨ 31 < x) (hrep : rm_Rep (nI n) (nI b) cof nu co se li le fi sc ti un ma (n, Rr, P1, P2, T, U, b, cof)) : rg_M l yM_mark (Cond.code yM_mark prog_8_method_12_code 5 (some .int) :: rg_tbl) { frames := 3, cells := 0, slots := 0, locals := 69 } (dC, dI) rg_cl [(cI, .int), (cL, .long)] (rm_W h a cI cL cod (nI n) (nI b) cof mad nu co se li le fi sc ti un ma dr fr to en) [.ref h, .int (nI (k + 4)), .int x, .int (bif w then 1 else 0)] (rg_QI (dC, dI) rg_cl [(cI, .int), (cL, .long)] (S := rm_S) (rm_Po (1, 0, (n, Rr, P1, P2, T, U, b, cof))) (fun u => rm_Wu h a cI cL u)) 0 0 := by
  refine rg_of prog_8_method_12_code 5 (some .int) (by decide) rfl (Nat.le_of_ble_eq_true rfl) ?_
  intro p e R s m args below meth c Q A H locs ls hR hQ hx hb hml hr hts hown hlk hnm hP hK hD hA hS hl
  have hl : lv_has ls 5 [(0, .ref h), (1, .int (nI (k + 4))), (2, .int x), (3, .int (bif w then 1 else 0))] := hl
  have hts : ∀ w ∈ rg_tbl, w.before args s = true := fun w h => hts w (List.mem_cons_of_mem _ h)
  have hok := hrep.1
  have hn1 : 1 ≤ n := hok.1
  have hn60 : n ≤ 60 := hok.2.1
  have hb4 : b < 4 := hok.2.2.2.2.2.2.2.1
  have hTb : T b < n := (hok.2.2.2.2.2.2.1 b hb4).1
  have hti : ti b = nI (T b) := (hrep.2.2.2.2.2.2 b hb4).1
  have hma : ma b = nI (U b).length := (hrep.2.2.2.2.2.2 b hb4).2.1
  refine lv_aload_n hx hb dM_mark_0 rfl (lv_at hl 0 rfl) ?_
  refine lv_iload_n hx hb dM_mark_1 rfl (lv_at hl 1 rfl) ?_
  refine lv_iconst (v := nI 4) hx hb dM_mark_2 (by decide) ?_
  refine rg_icmp_eq (tgt := 11) hx hb dM_mark_3 (by decide) (by omega) (by omega) (fun h1 => ?_) (fun h1 => ?_)
  · refine lv_iload_n hx hb dM_mark_11 rfl (lv_at hl 2 rfl) ?_
    refine lv_if_lt (tgt := 25) hx hb dM_mark_12 (by decide) (fun h2 => ?_) (fun h2 => ?_)
    · refine lv_iconst (v := nI 1) hx hb dM_mark_25 (by decide) ?_
      refine va_put (D := (dC, dI)) (ci := 0) (v := .int (nI 1)) (ty := .int) (C := "RevisionGroveModel") (T := TM) (N := 19) hx hb hts inM tyM tyM_ok nmM hown hK hP hD hS 0 rfl rfl 0 (by decide) (hts _ tw_601) (fun _ h9 => h9) rfl (by decide +kernel) rfl rfl (Nat.le_of_ble_eq_true rfl) dM_mark_26 (fun H locs hP hD hS => ?_)
      have hP : va_P (dC, dI) rg_cl (rm_W h a cI cL (nI 1) (nI n) (nI b) cof mad nu co se li le fi sc ti un ma dr fr to en) H := hP
      have hD : va_D A (rm_W h a cI cL (nI 1) (nI n) (nI b) cof mad nu co se li le fi sc ti un ma dr fr to en) := hD
      refine lv_aload_n hx hb dM_mark_29 rfl (lv_at hl 0 rfl) ?_
      refine va_get (D := (dC, dI)) (ci := 0) (C := "RevisionGroveModel") (T := TM) (N := 19) hx hb hts inM hown hK hP 0 rfl rfl 0 (by decide) (hts _ tw_601) (fun _ h9 => h9) rfl dM_mark_30 ?_
      refine rg_ifN_le (tgt := 38) hx hb dM_mark_33 (by decide) (by decide) (fun h3 => by exfalso; omega) (fun h3 => ?_)
      refine lv_iconst (v := nI 0) hx hb dM_mark_36 (by decide) ?_
      rw [hQ]
      exact rg_iret hx hb hr hlk hK hP hD hS dM_mark_37 (nI 1, nI n, nI b, cof, mad, nu, co, se, li, le, fi, sc, ti, un, ma, dr, fr, to, en) rfl (⟨hrep, rfl, rfl⟩)
    · refine lv_iload_n hx hb dM_mark_15 rfl (lv_at hl 2 rfl) ?_
      refine lv_bipush (v := nI 31) hx hb dM_mark_16 (by decide) ?_
      refine lv_icmp_gt (tgt := 25) hx hb dM_mark_18 (by decide) (fun h4 => ?_) (fun h4 => absurd hx0 (fun q => q.elim h2 h4))
      refine lv_iconst (v := nI 1) hx hb dM_mark_25 (by decide) ?_
      refine va_put (D := (dC, dI)) (ci := 0) (v := .int (nI 1)) (ty := .int) (C := "RevisionGroveModel") (T := TM) (N := 19) hx hb hts inM tyM tyM_ok nmM hown hK hP hD hS 0 rfl rfl 0 (by decide) (hts _ tw_601) (fun _ h9 => h9) rfl (by decide +kernel) rfl rfl (Nat.le_of_ble_eq_true rfl) dM_mark_26 (fun H locs hP hD hS => ?_)
      have hP : va_P (dC, dI) rg_cl (rm_W h a cI cL (nI 1) (nI n) (nI b) cof mad nu co se li le fi sc ti un ma dr fr to en) H := hP
      have hD : va_D A (rm_W h a cI cL (nI 1) (nI n) (nI b) cof mad nu co se li le fi sc ti un ma dr fr to en) := hD
      refine lv_aload_n hx hb dM_mark_29 rfl (lv_at hl 0 rfl) ?_
      refine va_get (D := (dC, dI)) (ci := 0) (C := "RevisionGroveModel") (T := TM) (N := 19) hx hb hts inM hown hK hP 0 rfl rfl 0 (by decide) (hts _ tw_601) (fun _ h9 => h9) rfl dM_mark_30 ?_
      refine rg_ifN_le (tgt := 38) hx hb dM_mark_33 (by decide) (by decide) (fun h5 => by exfalso; omega) (fun h5 => ?_)
      refine lv_iconst (v := nI 0) hx hb dM_mark_36 (by decide) ?_
      rw [hQ]
      exact rg_iret hx hb hr hlk hK hP hD hS dM_mark_37 (nI 1, nI n, nI b, cof, mad, nu, co, se, li, le, fi, sc, ti, un, ma, dr, fr, to, en) rfl (⟨hrep, rfl, rfl⟩)
  · refine lv_iload_n hx hb dM_mark_6 rfl (lv_at hl 1 rfl) ?_
    refine lv_iconst (v := nI 5) hx hb dM_mark_7 (by decide) ?_
    refine rg_icmp_ne (tgt := 25) hx hb dM_mark_8 (by decide) (by omega) (by omega) (fun h6 => by exfalso; omega) (fun h6 => ?_)
    refine lv_iload_n hx hb dM_mark_11 rfl (lv_at hl 2 rfl) ?_
    refine lv_if_lt (tgt := 25) hx hb dM_mark_12 (by decide) (fun h7 => ?_) (fun h7 => ?_)
    · refine lv_iconst (v := nI 1) hx hb dM_mark_25 (by decide) ?_
      refine va_put (D := (dC, dI)) (ci := 0) (v := .int (nI 1)) (ty := .int) (C := "RevisionGroveModel") (T := TM) (N := 19) hx hb hts inM tyM tyM_ok nmM hown hK hP hD hS 0 rfl rfl 0 (by decide) (hts _ tw_601) (fun _ h9 => h9) rfl (by decide +kernel) rfl rfl (Nat.le_of_ble_eq_true rfl) dM_mark_26 (fun H locs hP hD hS => ?_)
      have hP : va_P (dC, dI) rg_cl (rm_W h a cI cL (nI 1) (nI n) (nI b) cof mad nu co se li le fi sc ti un ma dr fr to en) H := hP
      have hD : va_D A (rm_W h a cI cL (nI 1) (nI n) (nI b) cof mad nu co se li le fi sc ti un ma dr fr to en) := hD
      refine lv_aload_n hx hb dM_mark_29 rfl (lv_at hl 0 rfl) ?_
      refine va_get (D := (dC, dI)) (ci := 0) (C := "RevisionGroveModel") (T := TM) (N := 19) hx hb hts inM hown hK hP 0 rfl rfl 0 (by decide) (hts _ tw_601) (fun _ h9 => h9) rfl dM_mark_30 ?_
      refine rg_ifN_le (tgt := 38) hx hb dM_mark_33 (by decide) (by decide) (fun h8 => by exfalso; omega) (fun h8 => ?_)
      refine lv_iconst (v := nI 0) hx hb dM_mark_36 (by decide) ?_
      rw [hQ]
      exact rg_iret hx hb hr hlk hK hP hD hS dM_mark_37 (nI 1, nI n, nI b, cof, mad, nu, co, se, li, le, fi, sc, ti, un, ma, dr, fr, to, en) rfl (⟨hrep, rfl, rfl⟩)
    · refine lv_iload_n hx hb dM_mark_15 rfl (lv_at hl 2 rfl) ?_
      refine lv_bipush (v := nI 31) hx hb dM_mark_16 (by decide) ?_
      refine lv_icmp_gt (tgt := 25) hx hb dM_mark_18 (by decide) (fun h9 => ?_) (fun h9 => absurd hx0 (fun q => q.elim h7 h9))
      refine lv_iconst (v := nI 1) hx hb dM_mark_25 (by decide) ?_
      refine va_put (D := (dC, dI)) (ci := 0) (v := .int (nI 1)) (ty := .int) (C := "RevisionGroveModel") (T := TM) (N := 19) hx hb hts inM tyM tyM_ok nmM hown hK hP hD hS 0 rfl rfl 0 (by decide) (hts _ tw_601) (fun _ h9 => h9) rfl (by decide +kernel) rfl rfl (Nat.le_of_ble_eq_true rfl) dM_mark_26 (fun H locs hP hD hS => ?_)
      have hP : va_P (dC, dI) rg_cl (rm_W h a cI cL (nI 1) (nI n) (nI b) cof mad nu co se li le fi sc ti un ma dr fr to en) H := hP
      have hD : va_D A (rm_W h a cI cL (nI 1) (nI n) (nI b) cof mad nu co se li le fi sc ti un ma dr fr to en) := hD
      refine lv_aload_n hx hb dM_mark_29 rfl (lv_at hl 0 rfl) ?_
      refine va_get (D := (dC, dI)) (ci := 0) (C := "RevisionGroveModel") (T := TM) (N := 19) hx hb hts inM hown hK hP 0 rfl rfl 0 (by decide) (hts _ tw_601) (fun _ h9 => h9) rfl dM_mark_30 ?_
      refine rg_ifN_le (tgt := 38) hx hb dM_mark_33 (by decide) (by decide) (fun h10 => by exfalso; omega) (fun h10 => ?_)
      refine lv_iconst (v := nI 0) hx hb dM_mark_36 (by decide) ?_
      rw [hQ]
      exact rg_iret hx hb hr hlk hK hP hD hS dM_mark_37 (nI 1, nI n, nI b, cof, mad, nu, co, se, li, le, fi, sc, ti, un, ma, dr, fr, to, en) rfl (⟨hrep, rfl, rfl⟩)
theorem c_rm_put {l : Launch} {dC : Nat → ClassId} {dI : Nat → Nat → Nat} {h : Nat} {a : Nat → Nat} {cI cL : ClassId} {cod : Int32} {cof : Int32} {mad : Int32} {nu : Nat → Int32} {co : Nat → Int64} {se : Nat → Int32} {li : Nat → Int32} {le : Nat → Int32} {fi : Nat → Int32} {sc : Nat → Int32} {ti : Nat → Int32} {un : Nat → Int32} {ma : Nat → Int32} {dr : Nat → Int32} {fr : Nat → Int32} {to : Nat → Int32} {en : Nat → Int32} (n b : Nat) (Rr : Nat → rg_R) (P1 P2 : Nat → Int32) (T : Nat → Nat) (U : Nat → List Nat) (f v : Int32) (hrep : rm_Rep (nI n) (nI b) cof nu co se li le fi sc ti un ma (n, Rr, P1, P2, T, U, b, cof)) : rg_M l yM_put (Cond.code yM_put prog_8_method_10_code 3 (some .int) :: rg_tbl) { frames := 3, cells := 0, slots := 0, locals := 69 } (dC, dI) rg_cl [(cI, .int), (cL, .long)] (rm_W h a cI cL cod (nI n) (nI b) cof mad nu co se li le fi sc ti un ma dr fr to en) [.ref h, .int f, .int v] (rg_QI (dC, dI) rg_cl [(cI, .int), (cL, .long)] (S := rm_S) (rm_Po (rg_oPut (n, Rr, P1, P2, T, U, b, cof) f v)) (fun u => rm_Wu h a cI cL u)) 0 0 := by
  unfold rg_oPut
  by_cases h0 : f = 0
  · subst h0; rw [if_pos rfl]; exact c_rm_put_ok n b Rr P1 P2 T U 0 (by decide) v hrep
  · rw [if_neg h0]
    by_cases h1 : f = 1
    · subst h1; rw [if_pos rfl]; exact c_rm_put_ok n b Rr P1 P2 T U 1 (by decide) v hrep
    · rw [if_neg h1]; exact c_rm_put_bad n b Rr P1 P2 T U f v h0 h1 hrep
theorem c_rm_add {l : Launch} {dC : Nat → ClassId} {dI : Nat → Nat → Nat} {h : Nat} {a : Nat → Nat} {cI cL : ClassId} {cod : Int32} {cof : Int32} {mad : Int32} {nu : Nat → Int32} {co : Nat → Int64} {se : Nat → Int32} {li : Nat → Int32} {le : Nat → Int32} {fi : Nat → Int32} {sc : Nat → Int32} {ti : Nat → Int32} {un : Nat → Int32} {ma : Nat → Int32} {dr : Nat → Int32} {fr : Nat → Int32} {to : Nat → Int32} {en : Nat → Int32} (n b : Nat) (Rr : Nat → rg_R) (P1 P2 : Nat → Int32) (T : Nat → Nat) (U : Nat → List Nat) (f v : Int32) (hrep : rm_Rep (nI n) (nI b) cof nu co se li le fi sc ti un ma (n, Rr, P1, P2, T, U, b, cof)) : rg_M l yM_add (Cond.code yM_add prog_8_method_11_code 3 (some .int) :: rg_tbl) { frames := 3, cells := 0, slots := 0, locals := 69 } (dC, dI) rg_cl [(cI, .int), (cL, .long)] (rm_W h a cI cL cod (nI n) (nI b) cof mad nu co se li le fi sc ti un ma dr fr to en) [.ref h, .int f, .int v] (rg_QI (dC, dI) rg_cl [(cI, .int), (cL, .long)] (S := rm_S) (rm_Po (rg_oAdd (n, Rr, P1, P2, T, U, b, cof) f v)) (fun u => rm_Wu h a cI cL u)) 0 0 := by
  unfold rg_oAdd
  by_cases h0 : f = 2
  · subst h0; rw [if_pos rfl]; exact c_rm_add_ok n b Rr P1 P2 T U 0 (by decide) v hrep
  · rw [if_neg h0]
    by_cases h1 : f = 3
    · subst h1; rw [if_pos rfl]; exact c_rm_add_ok n b Rr P1 P2 T U 1 (by decide) v hrep
    · rw [if_neg h1]; exact c_rm_add_bad n b Rr P1 P2 T U f v h0 h1 hrep
theorem c_rm_mark {l : Launch} {dC : Nat → ClassId} {dI : Nat → Nat → Nat} {h : Nat} {a : Nat → Nat} {cI cL : ClassId} {cod : Int32} {cof : Int32} {mad : Int32} {nu : Nat → Int32} {co : Nat → Int64} {se : Nat → Int32} {li : Nat → Int32} {le : Nat → Int32} {fi : Nat → Int32} {sc : Nat → Int32} {ti : Nat → Int32} {un : Nat → Int32} {ma : Nat → Int32} {dr : Nat → Int32} {fr : Nat → Int32} {to : Nat → Int32} {en : Nat → Int32} (n b : Nat) (Rr : Nat → rg_R) (P1 P2 : Nat → Int32) (T : Nat → Nat) (U : Nat → List Nat) (f x : Int32) (w : Bool) (hrep : rm_Rep (nI n) (nI b) cof nu co se li le fi sc ti un ma (n, Rr, P1, P2, T, U, b, cof)) : rg_M l yM_mark (Cond.code yM_mark prog_8_method_12_code 5 (some .int) :: rg_tbl) { frames := 3, cells := 0, slots := 0, locals := 69 } (dC, dI) rg_cl [(cI, .int), (cL, .long)] (rm_W h a cI cL cod (nI n) (nI b) cof mad nu co se li le fi sc ti un ma dr fr to en) [.ref h, .int f, .int x, .int (bif w then 1 else 0)] (rg_QI (dC, dI) rg_cl [(cI, .int), (cL, .long)] (S := rm_S) (rm_Po (rg_oMark (n, Rr, P1, P2, T, U, b, cof) f x w)) (fun u => rm_Wu h a cI cL u)) 0 0 := by
  unfold rg_oMark
  by_cases hx0 : x < 0 ∨ 31 < x
  · rw [if_pos hx0]
    by_cases h0 : f = 4
    · subst h0; exact c_rm_mark_badx n b Rr P1 P2 T U 0 (by decide) x w hx0 hrep
    · by_cases h1 : f = 5
      · subst h1; exact c_rm_mark_badx n b Rr P1 P2 T U 1 (by decide) x w hx0 hrep
      · exact c_rm_mark_badf n b Rr P1 P2 T U f x w h0 h1 hrep
  · rw [if_neg hx0]
    obtain ⟨j, hj, rfl⟩ := nI_of2 (M := 31) (n := 31) (by decide) (fun q => hx0 (Or.inl q)) (Int32.not_lt.mp (fun q => hx0 (Or.inr q)))
    rw [nI_clamp (by omega)]
    by_cases h0 : f = 4
    · subst h0; rw [if_pos rfl]; exact c_rm_mark_ok n b Rr P1 P2 T U 0 j (by decide) (by omega) w hrep
    · rw [if_neg h0]
      by_cases h1 : f = 5
      · subst h1; rw [if_pos rfl]; exact c_rm_mark_ok n b Rr P1 P2 T U 1 j (by decide) (by omega) w hrep
      · rw [if_neg h1]; exact c_rm_mark_badf n b Rr P1 P2 T U f (nI j) w h0 h1 hrep
