set_option maxHeartbeats 4000000 in
set_option maxRecDepth 100000 in
theorem c_rm_insert_badf {l : Launch} {dC : Nat → ClassId} {dI : Nat → Nat → Nat} {h : Nat} {a : Nat → Nat} {cI cL : ClassId} {cod : Int32} {cof : Int32} {mad : Int32} {nu : Nat → Int32} {co : Nat → Int64} {se : Nat → Int32} {li : Nat → Int32} {le : Nat → Int32} {fi : Nat → Int32} {sc : Nat → Int32} {ti : Nat → Int32} {un : Nat → Int32} {ma : Nat → Int32} {dr : Nat → Int32} {fr : Nat → Int32} {to : Nat → Int32} {en : Nat → Int32} (n b : Nat) (Rr : Nat → rg_R) (P1 P2 : Nat → Int32) (T : Nat → Nat) (U : Nat → List Nat) (f x v : Int32) (hf0 : ¬ f = 6) (hf1 : ¬ f = 7) (hrep : rm_Rep (nI n) (nI b) cof nu co se li le fi sc ti un ma (n, Rr, P1, P2, T, U, b, cof)) : rg_M l yM_insert (Cond.code yM_insert prog_8_method_13_code 7 (some .int) :: rg_tbl) { frames := 3, cells := 0, slots := 0, locals := 69 } (dC, dI) rg_cl [(cI, .int), (cL, .long)] (rm_W h a cI cL cod (nI n) (nI b) cof mad nu co se li le fi sc ti un ma dr fr to en) [.ref h, .int f, .int x, .int v] (rg_QI (dC, dI) rg_cl [(cI, .int), (cL, .long)] (S := rm_S) (rm_Po (1, 0, (n, Rr, P1, P2, T, U, b, cof))) (fun u => rm_Wu h a cI cL u)) 0 0 := by
  refine rg_of prog_8_method_13_code 7 (some .int) (by decide) rfl (Nat.le_of_ble_eq_true rfl) ?_
  intro p e R s m args below meth c Q A H locs ls hR hQ hx hb hml hr hts hown hlk hnm hP hK hD hA hS hl
  have hl : lv_has ls 7 [(0, .ref h), (1, .int f), (2, .int x), (3, .int v)] := hl
  have hts : ∀ w ∈ rg_tbl, w.before args s = true := fun w h => hts w (List.mem_cons_of_mem _ h)
  have hok := hrep.1
  have hn1 : 1 ≤ n := hok.1
  have hn60 : n ≤ 60 := hok.2.1
  have hb4 : b < 4 := hok.2.2.2.2.2.2.2.1
  have hTb : T b < n := (hok.2.2.2.2.2.2.1 b hb4).1
  have hti : ti b = nI (T b) := (hrep.2.2.2.2.2.2 b hb4).1
  have hma : ma b = nI (U b).length := (hrep.2.2.2.2.2.2 b hb4).2.1
  refine lv_aload_n hx hb dM_insert_0 rfl (lv_at hl 0 rfl) ?_
  refine lv_iload_n hx hb dM_insert_1 rfl (lv_at hl 1 rfl) ?_
  refine lv_bipush (v := nI 6) hx hb dM_insert_2 (by decide) ?_
  refine lv_icmp_eq (tgt := 13) hx hb dM_insert_4 (by decide) (fun h1 => absurd h1 hf0) (fun h1 => ?_)
  refine lv_iload_n hx hb dM_insert_7 rfl (lv_at hl 1 rfl) ?_
  refine lv_bipush (v := nI 7) hx hb dM_insert_8 (by decide) ?_
  refine lv_icmp_ne (tgt := 17) hx hb dM_insert_10 (by decide) (fun h2 => ?_) (fun h2 => absurd h2 hf1)
  refine lv_iconst (v := nI 1) hx hb dM_insert_17 (by decide) ?_
  refine va_put (D := (dC, dI)) (ci := 0) (v := .int (nI 1)) (ty := .int) (C := "RevisionGroveModel") (T := TM) (N := 19) hx hb hts inM tyM tyM_ok nmM hown hK hP hD hS 0 rfl rfl 0 (by decide) (hts _ tw_601) (fun _ h9 => h9) rfl (by decide +kernel) rfl rfl (Nat.le_of_ble_eq_true rfl) dM_insert_18 (fun H locs hP hD hS => ?_)
  have hP : va_P (dC, dI) rg_cl (rm_W h a cI cL (nI 1) (nI n) (nI b) cof mad nu co se li le fi sc ti un ma dr fr to en) H := hP
  have hD : va_D A (rm_W h a cI cL (nI 1) (nI n) (nI b) cof mad nu co se li le fi sc ti un ma dr fr to en) := hD
  refine lv_aload_n hx hb dM_insert_21 rfl (lv_at hl 0 rfl) ?_
  refine va_get (D := (dC, dI)) (ci := 0) (C := "RevisionGroveModel") (T := TM) (N := 19) hx hb hts inM hown hK hP 0 rfl rfl 0 (by decide) (hts _ tw_601) (fun _ h9 => h9) rfl dM_insert_22 ?_
  refine rg_ifN_le (tgt := 30) hx hb dM_insert_25 (by decide) (by decide) (fun h3 => by exfalso; omega) (fun h3 => ?_)
  refine lv_iconst (v := nI 0) hx hb dM_insert_28 (by decide) ?_
  rw [hQ]
  exact rg_iret hx hb hr hlk hK hP hD hS dM_insert_29 (nI 1, nI n, nI b, cof, mad, nu, co, se, li, le, fi, sc, ti, un, ma, dr, fr, to, en) rfl (⟨hrep, rfl, rfl⟩)
set_option maxHeartbeats 4000000 in
set_option maxRecDepth 100000 in
theorem c_rm_insert_badx {l : Launch} {dC : Nat → ClassId} {dI : Nat → Nat → Nat} {h : Nat} {a : Nat → Nat} {cI cL : ClassId} {cod : Int32} {cof : Int32} {mad : Int32} {nu : Nat → Int32} {co : Nat → Int64} {se : Nat → Int32} {li : Nat → Int32} {le : Nat → Int32} {fi : Nat → Int32} {sc : Nat → Int32} {ti : Nat → Int32} {un : Nat → Int32} {ma : Nat → Int32} {dr : Nat → Int32} {fr : Nat → Int32} {to : Nat → Int32} {en : Nat → Int32} (n b : Nat) (Rr : Nat → rg_R) (P1 P2 : Nat → Int32) (T : Nat → Nat) (U : Nat → List Nat) (k : Nat) (hk2 : k < 2) (l9 : List Int32) (hl9 : (Rr (T b)).2.2.2 k = l9) (x v : Int32) (hx0 : x < 0 ∨ nI l9.length < x) (hrep : rm_Rep (nI n) (nI b) cof nu co se li le fi sc ti un ma (n, Rr, P1, P2, T, U, b, cof)) : rg_M l yM_insert (Cond.code yM_insert prog_8_method_13_code 7 (some .int) :: rg_tbl) { frames := 3, cells := 0, slots := 0, locals := 69 } (dC, dI) rg_cl [(cI, .int), (cL, .long)] (rm_W h a cI cL cod (nI n) (nI b) cof mad nu co se li le fi sc ti un ma dr fr to en) [.ref h, .int (nI (k + 6)), .int x, .int v] (rg_QI (dC, dI) rg_cl [(cI, .int), (cL, .long)] (S := rm_S) (rm_Po (2, 0, (n, Rr, P1, P2, T, U, b, cof))) (fun u => rm_Wu h a cI cL u)) 0 0 := by
  refine rg_of prog_8_method_13_code 7 (some .int) (by decide) rfl (Nat.le_of_ble_eq_true rfl) ?_
  intro p e R s m args below meth c Q A H locs ls hR hQ hx hb hml hr hts hown hlk hnm hP hK hD hA hS hl
  have hl : lv_has ls 7 [(0, .ref h), (1, .int (nI (k + 6))), (2, .int x), (3, .int v)] := hl
  have hts : ∀ w ∈ rg_tbl, w.before args s = true := fun w h => hts w (List.mem_cons_of_mem _ h)
  have hok := hrep.1
  have hn1 : 1 ≤ n := hok.1
  have hn60 : n ≤ 60 := hok.2.1
  have hb4 : b < 4 := hok.2.2.2.2.2.2.2.1
  have hTb : T b < n := (hok.2.2.2.2.2.2.1 b hb4).1
  have hti : ti b = nI (T b) := (hrep.2.2.2.2.2.2 b hb4).1
  have hma : ma b = nI (U b).length := (hrep.2.2.2.2.2.2 b hb4).2.1
  refine lv_aload_n hx hb dM_insert_0 rfl (lv_at hl 0 rfl) ?_
  refine lv_iload_n hx hb dM_insert_1 rfl (lv_at hl 1 rfl) ?_
  refine lv_bipush (v := nI 6) hx hb dM_insert_2 (by decide) ?_
  have J4 : ∀ v9 : Nat, v9 = 0 → W p l e R s m args below meth c H locs 0 0 Q (F0 m 18 ls [.int (nI v9), .ref h]) := by
    intro v9 hv9
    subst hv9
    refine va_put (D := (dC, dI)) (ci := 0) (v := .int (nI 0)) (ty := .int) (C := "RevisionGroveModel") (T := TM) (N := 19) hx hb hts inM tyM tyM_ok nmM hown hK hP hD hS 0 rfl rfl 0 (by decide) (hts _ tw_601) (fun _ h9 => h9) rfl (by decide +kernel) rfl rfl (Nat.le_of_ble_eq_true rfl) dM_insert_18 (fun H locs hP hD hS => ?_)
    have hP : va_P (dC, dI) rg_cl (rm_W h a cI cL (nI 0) (nI n) (nI b) cof mad nu co se li le fi sc ti un ma dr fr to en) H := hP
    have hD : va_D A (rm_W h a cI cL (nI 0) (nI n) (nI b) cof mad nu co se li le fi sc ti un ma dr fr to en) := hD
    refine lv_aload_n hx hb dM_insert_21 rfl (lv_at hl 0 rfl) ?_
    refine va_get (D := (dC, dI)) (ci := 0) (C := "RevisionGroveModel") (T := TM) (N := 19) hx hb hts inM hown hK hP 0 rfl rfl 0 (by decide) (hts _ tw_601) (fun _ h9 => h9) rfl dM_insert_22 ?_
    refine rg_ifN_le (tgt := 30) hx hb dM_insert_25 (by decide) (by decide) (fun h1 => ?_) (fun h1 => by exfalso; omega)
    refine lv_aload_n hx hb dM_insert_30 rfl (lv_at hl 0 rfl) ?_
    refine lv_aload_n hx hb dM_insert_31 rfl (lv_at hl 0 rfl) ?_
    refine rg_calli hD hS hA (va_runV (As := []) (rest := [.ref h]) ⟨hx, hb, hml, hown, hts⟩ (c_rm_here b (by omega) _) (cwV 0 hts (rg_gV tw_667 tw_669 ts_M_here tw_5 tw_670) rfl rfl rfl (by decide +kernel) ⟨by rw [hR]; exact Nat.le_of_ble_eq_true rfl, by rw [hR]; exact Nat.le_of_ble_eq_true rfl⟩) (rg_preV rfl hK hP hD (ci := 0) (q0 := 0) rfl rfl) rfl rfl hl.1 rfl (lv_room (Nat.le_of_ble_eq_true rfl)) dM_insert_32 ⟨Nat.zero_le _, Nat.zero_le _⟩) (fun r2 u3 H locs hw4 hP hD hS => ?_)
    subst hw4
    have hP : va_P (dC, dI) rg_cl (rm_W h a cI cL (nI 0) (nI n) (nI b) cof mad nu co se li le fi sc ti un ma dr fr to en) H := hP
    have hD : va_D A (rm_W h a cI cL (nI 0) (nI n) (nI b) cof mad nu co se li le fi sc ti un ma dr fr to en) := hD
    refine rg_top (show (.int (ti b) : Value) = .int (nI (T b)) by rw [hti]) ?_
    refine lv_aload_n hx hb dM_insert_35 rfl (lv_at hl 0 rfl) ?_
    refine va_get (D := (dC, dI)) (ci := 0) (C := "RevisionGroveModel") (T := TM) (N := 19) hx hb hts inM hown hK hP 0 rfl rfl 1 (by decide) (hts _ tw_602) (fun _ h9 => h9) rfl dM_insert_36 ?_
    refine rg_callv hD hS hA (va_runV (As := [.int (nI (T b)), .int (nI n)]) (rest := []) ⟨hx, hb, hml, hown, hts⟩ (c_rm_copy (T b) n (by omega) (by omega) _) (cwV 2 hts (rg_gV tw_671 tw_673 ts_M_copy tw_5 tw_674) rfl rfl rfl (by decide +kernel) ⟨by rw [hR]; exact Nat.le_of_ble_eq_true rfl, by rw [hR]; exact Nat.le_of_ble_eq_true rfl⟩) (rg_preV rfl hK hP hD (ci := 0) (q0 := 0) rfl rfl) rfl rfl hl.1 rfl (lv_room (Nat.le_of_ble_eq_true rfl)) dM_insert_39 ⟨Nat.zero_le _, Nat.zero_le _⟩) (fun u6 H locs hw7 hP hD hS => ?_)
    have hP : va_P (dC, dI) rg_cl (rm_W h a cI cL (nI 0) (nI n) (nI b) cof mad (va_cpy nu nu (2 * (T b)) (2 * n) 2) (va_cpy co co (2 * (T b)) (2 * n) 2) (va_cpy se se (2 * (T b)) (2 * n) 2) (va_cpy li li (16 * (T b)) (16 * n) 16) (va_cpy le le (2 * (T b)) (2 * n) 2) (upd fi n (fi (T b))) (upd sc n (sc (T b))) ti un ma dr fr to en) H := hP
    have hD : va_D A (rm_W h a cI cL (nI 0) (nI n) (nI b) cof mad (va_cpy nu nu (2 * (T b)) (2 * n) 2) (va_cpy co co (2 * (T b)) (2 * n) 2) (va_cpy se se (2 * (T b)) (2 * n) 2) (va_cpy li li (16 * (T b)) (16 * n) 16) (va_cpy le le (2 * (T b)) (2 * n) 2) (upd fi n (fi (T b))) (upd sc n (sc (T b))) ti un ma dr fr to en) := hD
    have hX0 : rg_MR (va_cpy nu nu (2 * (T b)) (2 * n) 2) (va_cpy co co (2 * (T b)) (2 * n) 2) (va_cpy se se (2 * (T b)) (2 * n) 2) (va_cpy le le (2 * (T b)) (2 * n) 2) (va_cpy li li (16 * (T b)) (16 * n) 16) n (Rr (T b)) := rg_MR_copy (hrep.2.2.2.2.1 (T b) hTb)
    have q5 := (hX0 k (by omega)).2.2.2.2.1
    have q4 := (hX0 k (by omega)).2.2.2.1
    have q6 := (hX0 k (by omega)).2.2.2.2.2
    rw [hl9] at q4 q5 q6
    refine lv_aload_n hx hb dM_insert_42 rfl (lv_at hl 0 rfl) ?_
    refine va_get (D := (dC, dI)) (ci := 0) (C := "RevisionGroveModel") (T := TM) (N := 19) hx hb hts inM hown hK hP 0 rfl rfl 6 (by decide) (hts _ tw_607) (fun _ h9 => h9) rfl dM_insert_43 ?_
    refine lv_iconst (v := nI 2) hx hb dM_insert_46 (by decide) ?_
    refine lv_aload_n hx hb dM_insert_47 rfl (lv_at hl 0 rfl) ?_
    refine va_get (D := (dC, dI)) (ci := 0) (C := "RevisionGroveModel") (T := TM) (N := 19) hx hb hts inM hown hK hP 0 rfl rfl 1 (by decide) (hts _ tw_602) (fun _ h9 => h9) rfl dM_insert_48 ?_
    refine rg_imul hx hb dM_insert_51 ?_
    refine lv_iload_n hx hb dM_insert_52 rfl (lv_at hl 1 rfl) ?_
    refine rg_iadd hx hb dM_insert_53 ?_
    refine lv_bipush (v := nI 6) hx hb dM_insert_54 (by decide) ?_
    refine rg_isub hx hb dM_insert_56 (by omega) ?_
    refine rg_top (show (.int (nI (2 * n + (k + 6) - 6)) : Value) = .int (nI (2 * n + k)) by rw [show 2 * n + (k + 6) - 6 = 2 * n + k by omega]) ?_
    refine rg_iald hx hb hK hP 5 0 rfl rfl (by decide) (by omega) dM_insert_57 ?_
    refine rg_top (show (.int ((va_cpy le le (2 * (T b)) (2 * n) 2) (2 * n + k)) : Value) = .int (nI l9.length) by rw [q5]) ?_
    refine lv_istore (lv' := [(4, .int (nI l9.length)), (0, .ref h), (1, .int (nI (k + 6))), (2, .int x), (3, .int v)]) hx hb dM_insert_58 hl (by decide) rfl (fun ls hl => ?_)
    refine lv_aload_n hx hb dM_insert_60 rfl (lv_at hl 1 rfl) ?_
    refine lv_iload_n hx hb dM_insert_61 rfl (lv_at hl 3 rfl) ?_
    refine lv_if_lt (tgt := 71) hx hb dM_insert_62 (by decide) (fun h8 => ?_) (fun h8 => ?_)
    · refine lv_iconst (v := nI 2) hx hb dM_insert_71 (by decide) ?_
      refine lv_goto (tgt := 96) hx hb dM_insert_72 (by decide) ?_
      refine va_put (D := (dC, dI)) (ci := 0) (v := .int (nI 2)) (ty := .int) (C := "RevisionGroveModel") (T := TM) (N := 19) hx hb hts inM tyM tyM_ok nmM hown hK hP hD hS 0 rfl rfl 0 (by decide) (hts _ tw_601) (fun _ h9 => h9) rfl (by decide +kernel) rfl rfl (Nat.le_of_ble_eq_true rfl) dM_insert_96 (fun H locs hP hD hS => ?_)
      have hP : va_P (dC, dI) rg_cl (rm_W h a cI cL (nI 2) (nI n) (nI b) cof mad (va_cpy nu nu (2 * (T b)) (2 * n) 2) (va_cpy co co (2 * (T b)) (2 * n) 2) (va_cpy se se (2 * (T b)) (2 * n) 2) (va_cpy li li (16 * (T b)) (16 * n) 16) (va_cpy le le (2 * (T b)) (2 * n) 2) (upd fi n (fi (T b))) (upd sc n (sc (T b))) ti un ma dr fr to en) H := hP
      have hD : va_D A (rm_W h a cI cL (nI 2) (nI n) (nI b) cof mad (va_cpy nu nu (2 * (T b)) (2 * n) 2) (va_cpy co co (2 * (T b)) (2 * n) 2) (va_cpy se se (2 * (T b)) (2 * n) 2) (va_cpy li li (16 * (T b)) (16 * n) 16) (va_cpy le le (2 * (T b)) (2 * n) 2) (upd fi n (fi (T b))) (upd sc n (sc (T b))) ti un ma dr fr to en) := hD
      refine lv_aload_n hx hb dM_insert_99 rfl (lv_at hl 1 rfl) ?_
      refine va_get (D := (dC, dI)) (ci := 0) (C := "RevisionGroveModel") (T := TM) (N := 19) hx hb hts inM hown hK hP 0 rfl rfl 0 (by decide) (hts _ tw_601) (fun _ h9 => h9) rfl dM_insert_100 ?_
      refine rg_ifN_le (tgt := 108) hx hb dM_insert_103 (by decide) (by decide) (fun h9 => by exfalso; omega) (fun h9 => ?_)
      refine lv_iconst (v := nI 0) hx hb dM_insert_106 (by decide) ?_
      rw [hQ]
      exact rg_iret hx hb hr hlk hK hP hD hS dM_insert_107 (nI 2, nI n, nI b, cof, mad, va_cpy nu nu (2 * (T b)) (2 * n) 2, va_cpy co co (2 * (T b)) (2 * n) 2, va_cpy se se (2 * (T b)) (2 * n) 2, va_cpy li li (16 * (T b)) (16 * n) 16, va_cpy le le (2 * (T b)) (2 * n) 2, upd fi n (fi (T b)), upd sc n (sc (T b)), ti, un, ma, dr, fr, to, en) rfl (⟨rm_Rep_junk hrep (fun j hj => by have hj : j < 2 * n := hj; rw [pk_cpy_out (by omega)]) (fun j hj => by have hj : j < 2 * n := hj; rw [pk_cpy_out (by omega)]) (fun j hj => by have hj : j < 2 * n := hj; rw [pk_cpy_out (by omega)]) (fun j hj => by have hj : j < 2 * n := hj; rw [pk_cpy_out (by omega)]) (fun j hj => by have hj : j < 16 * n := hj; rw [pk_cpy_out (by omega)]) (fun j hj => by have hj : j < n := hj; rw [pk_un (by omega)]) (fun j hj => by have hj : j < n := hj; rw [pk_un (by omega)]), rfl, rfl⟩)
    · refine lv_iload_n hx hb dM_insert_65 rfl (lv_at hl 3 rfl) ?_
      refine lv_iload hx hb dM_insert_66 (lv_at hl 0 rfl) ?_
      refine lv_icmp_le (tgt := 75) hx hb dM_insert_68 (by decide) (fun h10 => absurd hx0 (fun q => q.elim h8 (fun q => Int32.not_lt.mpr h10 q))) (fun h10 => ?_)
      refine lv_iconst (v := nI 2) hx hb dM_insert_71 (by decide) ?_
      refine lv_goto (tgt := 96) hx hb dM_insert_72 (by decide) ?_
      refine va_put (D := (dC, dI)) (ci := 0) (v := .int (nI 2)) (ty := .int) (C := "RevisionGroveModel") (T := TM) (N := 19) hx hb hts inM tyM tyM_ok nmM hown hK hP hD hS 0 rfl rfl 0 (by decide) (hts _ tw_601) (fun _ h9 => h9) rfl (by decide +kernel) rfl rfl (Nat.le_of_ble_eq_true rfl) dM_insert_96 (fun H locs hP hD hS => ?_)
      have hP : va_P (dC, dI) rg_cl (rm_W h a cI cL (nI 2) (nI n) (nI b) cof mad (va_cpy nu nu (2 * (T b)) (2 * n) 2) (va_cpy co co (2 * (T b)) (2 * n) 2) (va_cpy se se (2 * (T b)) (2 * n) 2) (va_cpy li li (16 * (T b)) (16 * n) 16) (va_cpy le le (2 * (T b)) (2 * n) 2) (upd fi n (fi (T b))) (upd sc n (sc (T b))) ti un ma dr fr to en) H := hP
      have hD : va_D A (rm_W h a cI cL (nI 2) (nI n) (nI b) cof mad (va_cpy nu nu (2 * (T b)) (2 * n) 2) (va_cpy co co (2 * (T b)) (2 * n) 2) (va_cpy se se (2 * (T b)) (2 * n) 2) (va_cpy li li (16 * (T b)) (16 * n) 16) (va_cpy le le (2 * (T b)) (2 * n) 2) (upd fi n (fi (T b))) (upd sc n (sc (T b))) ti un ma dr fr to en) := hD
      refine lv_aload_n hx hb dM_insert_99 rfl (lv_at hl 1 rfl) ?_
      refine va_get (D := (dC, dI)) (ci := 0) (C := "RevisionGroveModel") (T := TM) (N := 19) hx hb hts inM hown hK hP 0 rfl rfl 0 (by decide) (hts _ tw_601) (fun _ h9 => h9) rfl dM_insert_100 ?_
      refine rg_ifN_le (tgt := 108) hx hb dM_insert_103 (by decide) (by decide) (fun h11 => by exfalso; omega) (fun h11 => ?_)
      refine lv_iconst (v := nI 0) hx hb dM_insert_106 (by decide) ?_
      rw [hQ]
      exact rg_iret hx hb hr hlk hK hP hD hS dM_insert_107 (nI 2, nI n, nI b, cof, mad, va_cpy nu nu (2 * (T b)) (2 * n) 2, va_cpy co co (2 * (T b)) (2 * n) 2, va_cpy se se (2 * (T b)) (2 * n) 2, va_cpy li li (16 * (T b)) (16 * n) 16, va_cpy le le (2 * (T b)) (2 * n) 2, upd fi n (fi (T b)), upd sc n (sc (T b)), ti, un, ma, dr, fr, to, en) rfl (⟨rm_Rep_junk hrep (fun j hj => by have hj : j < 2 * n := hj; rw [pk_cpy_out (by omega)]) (fun j hj => by have hj : j < 2 * n := hj; rw [pk_cpy_out (by omega)]) (fun j hj => by have hj : j < 2 * n := hj; rw [pk_cpy_out (by omega)]) (fun j hj => by have hj : j < 2 * n := hj; rw [pk_cpy_out (by omega)]) (fun j hj => by have hj : j < 16 * n := hj; rw [pk_cpy_out (by omega)]) (fun j hj => by have hj : j < n := hj; rw [pk_un (by omega)]) (fun j hj => by have hj : j < n := hj; rw [pk_un (by omega)]), rfl, rfl⟩)
  refine rg_icmp_eq (tgt := 13) hx hb dM_insert_4 (by decide) (by omega) (by omega) (fun h12 => ?_) (fun h12 => ?_)
  · refine lv_iconst (v := nI 0) hx hb dM_insert_13 (by decide) ?_
    refine lv_goto (tgt := 18) hx hb dM_insert_14 (by decide) ?_
    exact J4 0 rfl
  · refine lv_iload_n hx hb dM_insert_7 rfl (lv_at hl 1 rfl) ?_
    refine lv_bipush (v := nI 7) hx hb dM_insert_8 (by decide) ?_
    refine rg_icmp_ne (tgt := 17) hx hb dM_insert_10 (by decide) (by omega) (by omega) (fun h13 => by exfalso; omega) (fun h13 => ?_)
    refine lv_iconst (v := nI 0) hx hb dM_insert_13 (by decide) ?_
    refine lv_goto (tgt := 18) hx hb dM_insert_14 (by decide) ?_
    exact J4 0 rfl
set_option maxHeartbeats 4000000 in
set_option maxRecDepth 100000 in
theorem c_rm_insert_full {l : Launch} {dC : Nat → ClassId} {dI : Nat → Nat → Nat} {h : Nat} {a : Nat → Nat} {cI cL : ClassId} {cod : Int32} {cof : Int32} {mad : Int32} {nu : Nat → Int32} {co : Nat → Int64} {se : Nat → Int32} {li : Nat → Int32} {le : Nat → Int32} {fi : Nat → Int32} {sc : Nat → Int32} {ti : Nat → Int32} {un : Nat → Int32} {ma : Nat → Int32} {dr : Nat → Int32} {fr : Nat → Int32} {to : Nat → Int32} {en : Nat → Int32} (n b : Nat) (Rr : Nat → rg_R) (P1 P2 : Nat → Int32) (T : Nat → Nat) (U : Nat → List Nat) (k : Nat) (hk2 : k < 2) (l9 : List Int32) (hl9 : (Rr (T b)).2.2.2 k = l9) (x : Nat) (v : Int32) (hxl : x ≤ l9.length) (hfull : l9.length = 8 ∨ n = 60) (hrep : rm_Rep (nI n) (nI b) cof nu co se li le fi sc ti un ma (n, Rr, P1, P2, T, U, b, cof)) : rg_M l yM_insert (Cond.code yM_insert prog_8_method_13_code 7 (some .int) :: rg_tbl) { frames := 3, cells := 0, slots := 0, locals := 69 } (dC, dI) rg_cl [(cI, .int), (cL, .long)] (rm_W h a cI cL cod (nI n) (nI b) cof mad nu co se li le fi sc ti un ma dr fr to en) [.ref h, .int (nI (k + 6)), .int (nI x), .int v] (rg_QI (dC, dI) rg_cl [(cI, .int), (cL, .long)] (S := rm_S) (rm_Po (3, 0, (n, Rr, P1, P2, T, U, b, cof))) (fun u => rm_Wu h a cI cL u)) 0 0 := by
  refine rg_of prog_8_method_13_code 7 (some .int) (by decide) rfl (Nat.le_of_ble_eq_true rfl) ?_
  intro p e R s m args below meth c Q A H locs ls hR hQ hx hb hml hr hts hown hlk hnm hP hK hD hA hS hl
  have hl : lv_has ls 7 [(0, .ref h), (1, .int (nI (k + 6))), (2, .int (nI x)), (3, .int v)] := hl
  have hts : ∀ w ∈ rg_tbl, w.before args s = true := fun w h => hts w (List.mem_cons_of_mem _ h)
  have hok := hrep.1
  have hn1 : 1 ≤ n := hok.1
  have hn60 : n ≤ 60 := hok.2.1
  have hb4 : b < 4 := hok.2.2.2.2.2.2.2.1
  have hTb : T b < n := (hok.2.2.2.2.2.2.1 b hb4).1
  have hti : ti b = nI (T b) := (hrep.2.2.2.2.2.2 b hb4).1
  have hma : ma b = nI (U b).length := (hrep.2.2.2.2.2.2 b hb4).2.1
  refine lv_aload_n hx hb dM_insert_0 rfl (lv_at hl 0 rfl) ?_
  refine lv_iload_n hx hb dM_insert_1 rfl (lv_at hl 1 rfl) ?_
  refine lv_bipush (v := nI 6) hx hb dM_insert_2 (by decide) ?_
  have J4 : ∀ v9 : Nat, v9 = 0 → W p l e R s m args below meth c H locs 0 0 Q (F0 m 18 ls [.int (nI v9), .ref h]) := by
    intro v9 hv9
    subst hv9
    refine va_put (D := (dC, dI)) (ci := 0) (v := .int (nI 0)) (ty := .int) (C := "RevisionGroveModel") (T := TM) (N := 19) hx hb hts inM tyM tyM_ok nmM hown hK hP hD hS 0 rfl rfl 0 (by decide) (hts _ tw_601) (fun _ h9 => h9) rfl (by decide +kernel) rfl rfl (Nat.le_of_ble_eq_true rfl) dM_insert_18 (fun H locs hP hD hS => ?_)
    have hP : va_P (dC, dI) rg_cl (rm_W h a cI cL (nI 0) (nI n) (nI b) cof mad nu co se li le fi sc ti un ma dr fr to en) H := hP
    have hD : va_D A (rm_W h a cI cL (nI 0) (nI n) (nI b) cof mad nu co se li le fi sc ti un ma dr fr to en) := hD
    refine lv_aload_n hx hb dM_insert_21 rfl (lv_at hl 0 rfl) ?_
    refine va_get (D := (dC, dI)) (ci := 0) (C := "RevisionGroveModel") (T := TM) (N := 19) hx hb hts inM hown hK hP 0 rfl rfl 0 (by decide) (hts _ tw_601) (fun _ h9 => h9) rfl dM_insert_22 ?_
    refine rg_ifN_le (tgt := 30) hx hb dM_insert_25 (by decide) (by decide) (fun h1 => ?_) (fun h1 => by exfalso; omega)
    refine lv_aload_n hx hb dM_insert_30 rfl (lv_at hl 0 rfl) ?_
    refine lv_aload_n hx hb dM_insert_31 rfl (lv_at hl 0 rfl) ?_
    refine rg_calli hD hS hA (va_runV (As := []) (rest := [.ref h]) ⟨hx, hb, hml, hown, hts⟩ (c_rm_here b (by omega) _) (cwV 0 hts (rg_gV tw_667 tw_669 ts_M_here tw_5 tw_670) rfl rfl rfl (by decide +kernel) ⟨by rw [hR]; exact Nat.le_of_ble_eq_true rfl, by rw [hR]; exact Nat.le_of_ble_eq_true rfl⟩) (rg_preV rfl hK hP hD (ci := 0) (q0 := 0) rfl rfl) rfl rfl hl.1 rfl (lv_room (Nat.le_of_ble_eq_true rfl)) dM_insert_32 ⟨Nat.zero_le _, Nat.zero_le _⟩) (fun r2 u3 H locs hw4 hP hD hS => ?_)
    subst hw4
    have hP : va_P (dC, dI) rg_cl (rm_W h a cI cL (nI 0) (nI n) (nI b) cof mad nu co se li le fi sc ti un ma dr fr to en) H := hP
    have hD : va_D A (rm_W h a cI cL (nI 0) (nI n) (nI b) cof mad nu co se li le fi sc ti un ma dr fr to en) := hD
    refine rg_top (show (.int (ti b) : Value) = .int (nI (T b)) by rw [hti]) ?_
    refine lv_aload_n hx hb dM_insert_35 rfl (lv_at hl 0 rfl) ?_
    refine va_get (D := (dC, dI)) (ci := 0) (C := "RevisionGroveModel") (T := TM) (N := 19) hx hb hts inM hown hK hP 0 rfl rfl 1 (by decide) (hts _ tw_602) (fun _ h9 => h9) rfl dM_insert_36 ?_
    refine rg_callv hD hS hA (va_runV (As := [.int (nI (T b)), .int (nI n)]) (rest := []) ⟨hx, hb, hml, hown, hts⟩ (c_rm_copy (T b) n (by omega) (by omega) _) (cwV 2 hts (rg_gV tw_671 tw_673 ts_M_copy tw_5 tw_674) rfl rfl rfl (by decide +kernel) ⟨by rw [hR]; exact Nat.le_of_ble_eq_true rfl, by rw [hR]; exact Nat.le_of_ble_eq_true rfl⟩) (rg_preV rfl hK hP hD (ci := 0) (q0 := 0) rfl rfl) rfl rfl hl.1 rfl (lv_room (Nat.le_of_ble_eq_true rfl)) dM_insert_39 ⟨Nat.zero_le _, Nat.zero_le _⟩) (fun u6 H locs hw7 hP hD hS => ?_)
    have hP : va_P (dC, dI) rg_cl (rm_W h a cI cL (nI 0) (nI n) (nI b) cof mad (va_cpy nu nu (2 * (T b)) (2 * n) 2) (va_cpy co co (2 * (T b)) (2 * n) 2) (va_cpy se se (2 * (T b)) (2 * n) 2) (va_cpy li li (16 * (T b)) (16 * n) 16) (va_cpy le le (2 * (T b)) (2 * n) 2) (upd fi n (fi (T b))) (upd sc n (sc (T b))) ti un ma dr fr to en) H := hP
    have hD : va_D A (rm_W h a cI cL (nI 0) (nI n) (nI b) cof mad (va_cpy nu nu (2 * (T b)) (2 * n) 2) (va_cpy co co (2 * (T b)) (2 * n) 2) (va_cpy se se (2 * (T b)) (2 * n) 2) (va_cpy li li (16 * (T b)) (16 * n) 16) (va_cpy le le (2 * (T b)) (2 * n) 2) (upd fi n (fi (T b))) (upd sc n (sc (T b))) ti un ma dr fr to en) := hD
    have hX0 : rg_MR (va_cpy nu nu (2 * (T b)) (2 * n) 2) (va_cpy co co (2 * (T b)) (2 * n) 2) (va_cpy se se (2 * (T b)) (2 * n) 2) (va_cpy le le (2 * (T b)) (2 * n) 2) (va_cpy li li (16 * (T b)) (16 * n) 16) n (Rr (T b)) := rg_MR_copy (hrep.2.2.2.2.1 (T b) hTb)
    have q5 := (hX0 k (by omega)).2.2.2.2.1
    have q4 := (hX0 k (by omega)).2.2.2.1
    have q6 := (hX0 k (by omega)).2.2.2.2.2
    rw [hl9] at q4 q5 q6
    refine lv_aload_n hx hb dM_insert_42 rfl (lv_at hl 0 rfl) ?_
    refine va_get (D := (dC, dI)) (ci := 0) (C := "RevisionGroveModel") (T := TM) (N := 19) hx hb hts inM hown hK hP 0 rfl rfl 6 (by decide) (hts _ tw_607) (fun _ h9 => h9) rfl dM_insert_43 ?_
    refine lv_iconst (v := nI 2) hx hb dM_insert_46 (by decide) ?_
    refine lv_aload_n hx hb dM_insert_47 rfl (lv_at hl 0 rfl) ?_
    refine va_get (D := (dC, dI)) (ci := 0) (C := "RevisionGroveModel") (T := TM) (N := 19) hx hb hts inM hown hK hP 0 rfl rfl 1 (by decide) (hts _ tw_602) (fun _ h9 => h9) rfl dM_insert_48 ?_
    refine rg_imul hx hb dM_insert_51 ?_
    refine lv_iload_n hx hb dM_insert_52 rfl (lv_at hl 1 rfl) ?_
    refine rg_iadd hx hb dM_insert_53 ?_
    refine lv_bipush (v := nI 6) hx hb dM_insert_54 (by decide) ?_
    refine rg_isub hx hb dM_insert_56 (by omega) ?_
    refine rg_top (show (.int (nI (2 * n + (k + 6) - 6)) : Value) = .int (nI (2 * n + k)) by rw [show 2 * n + (k + 6) - 6 = 2 * n + k by omega]) ?_
    refine rg_iald hx hb hK hP 5 0 rfl rfl (by decide) (by omega) dM_insert_57 ?_
    refine rg_top (show (.int ((va_cpy le le (2 * (T b)) (2 * n) 2) (2 * n + k)) : Value) = .int (nI l9.length) by rw [q5]) ?_
    refine lv_istore (lv' := [(4, .int (nI l9.length)), (0, .ref h), (1, .int (nI (k + 6))), (2, .int (nI x)), (3, .int v)]) hx hb dM_insert_58 hl (by decide) rfl (fun ls hl => ?_)
    refine lv_aload_n hx hb dM_insert_60 rfl (lv_at hl 1 rfl) ?_
    refine lv_iload_n hx hb dM_insert_61 rfl (lv_at hl 3 rfl) ?_
    refine rg_ifN_lt (tgt := 71) hx hb dM_insert_62 (by decide) (by omega) (fun h8 => h8.elim) (fun h8 => ?_)
    refine lv_iload_n hx hb dM_insert_65 rfl (lv_at hl 3 rfl) ?_
    refine lv_iload hx hb dM_insert_66 (lv_at hl 0 rfl) ?_
    refine rg_icmp_le (tgt := 75) hx hb dM_insert_68 (by decide) (by omega) (by omega) (fun h9 => ?_) (fun h9 => by exfalso; omega)
    refine lv_iload hx hb dM_insert_75 (lv_at hl 0 rfl) ?_
    refine lv_bipush (v := nI 8) hx hb dM_insert_77 (by decide) ?_
    refine rg_icmp_eq (tgt := 91) hx hb dM_insert_79 (by decide) (by omega) (by omega) (fun h10 => ?_) (fun h10 => ?_)
    · refine lv_iconst (v := nI 3) hx hb dM_insert_91 (by decide) ?_
      refine lv_goto (tgt := 96) hx hb dM_insert_92 (by decide) ?_
      refine va_put (D := (dC, dI)) (ci := 0) (v := .int (nI 3)) (ty := .int) (C := "RevisionGroveModel") (T := TM) (N := 19) hx hb hts inM tyM tyM_ok nmM hown hK hP hD hS 0 rfl rfl 0 (by decide) (hts _ tw_601) (fun _ h9 => h9) rfl (by decide +kernel) rfl rfl (Nat.le_of_ble_eq_true rfl) dM_insert_96 (fun H locs hP hD hS => ?_)
      have hP : va_P (dC, dI) rg_cl (rm_W h a cI cL (nI 3) (nI n) (nI b) cof mad (va_cpy nu nu (2 * (T b)) (2 * n) 2) (va_cpy co co (2 * (T b)) (2 * n) 2) (va_cpy se se (2 * (T b)) (2 * n) 2) (va_cpy li li (16 * (T b)) (16 * n) 16) (va_cpy le le (2 * (T b)) (2 * n) 2) (upd fi n (fi (T b))) (upd sc n (sc (T b))) ti un ma dr fr to en) H := hP
      have hD : va_D A (rm_W h a cI cL (nI 3) (nI n) (nI b) cof mad (va_cpy nu nu (2 * (T b)) (2 * n) 2) (va_cpy co co (2 * (T b)) (2 * n) 2) (va_cpy se se (2 * (T b)) (2 * n) 2) (va_cpy li li (16 * (T b)) (16 * n) 16) (va_cpy le le (2 * (T b)) (2 * n) 2) (upd fi n (fi (T b))) (upd sc n (sc (T b))) ti un ma dr fr to en) := hD
      refine lv_aload_n hx hb dM_insert_99 rfl (lv_at hl 1 rfl) ?_
      refine va_get (D := (dC, dI)) (ci := 0) (C := "RevisionGroveModel") (T := TM) (N := 19) hx hb hts inM hown hK hP 0 rfl rfl 0 (by decide) (hts _ tw_601) (fun _ h9 => h9) rfl dM_insert_100 ?_
      refine rg_ifN_le (tgt := 108) hx hb dM_insert_103 (by decide) (by decide) (fun h11 => by exfalso; omega) (fun h11 => ?_)
      refine lv_iconst (v := nI 0) hx hb dM_insert_106 (by decide) ?_
      rw [hQ]
      exact rg_iret hx hb hr hlk hK hP hD hS dM_insert_107 (nI 3, nI n, nI b, cof, mad, va_cpy nu nu (2 * (T b)) (2 * n) 2, va_cpy co co (2 * (T b)) (2 * n) 2, va_cpy se se (2 * (T b)) (2 * n) 2, va_cpy li li (16 * (T b)) (16 * n) 16, va_cpy le le (2 * (T b)) (2 * n) 2, upd fi n (fi (T b)), upd sc n (sc (T b)), ti, un, ma, dr, fr, to, en) rfl (⟨rm_Rep_junk hrep (fun j hj => by have hj : j < 2 * n := hj; rw [pk_cpy_out (by omega)]) (fun j hj => by have hj : j < 2 * n := hj; rw [pk_cpy_out (by omega)]) (fun j hj => by have hj : j < 2 * n := hj; rw [pk_cpy_out (by omega)]) (fun j hj => by have hj : j < 2 * n := hj; rw [pk_cpy_out (by omega)]) (fun j hj => by have hj : j < 16 * n := hj; rw [pk_cpy_out (by omega)]) (fun j hj => by have hj : j < n := hj; rw [pk_un (by omega)]) (fun j hj => by have hj : j < n := hj; rw [pk_un (by omega)]), rfl, rfl⟩)
    · refine lv_aload_n hx hb dM_insert_82 rfl (lv_at hl 1 rfl) ?_
      refine va_get (D := (dC, dI)) (ci := 0) (C := "RevisionGroveModel") (T := TM) (N := 19) hx hb hts inM hown hK hP 0 rfl rfl 1 (by decide) (hts _ tw_602) (fun _ h9 => h9) rfl dM_insert_83 ?_
      refine lv_bipush (v := nI 60) hx hb dM_insert_86 (by decide) ?_
      refine rg_icmp_ne (tgt := 95) hx hb dM_insert_88 (by decide) (by omega) (by omega) (fun h12 => by exfalso; omega) (fun h12 => ?_)
      refine lv_iconst (v := nI 3) hx hb dM_insert_91 (by decide) ?_
      refine lv_goto (tgt := 96) hx hb dM_insert_92 (by decide) ?_
      refine va_put (D := (dC, dI)) (ci := 0) (v := .int (nI 3)) (ty := .int) (C := "RevisionGroveModel") (T := TM) (N := 19) hx hb hts inM tyM tyM_ok nmM hown hK hP hD hS 0 rfl rfl 0 (by decide) (hts _ tw_601) (fun _ h9 => h9) rfl (by decide +kernel) rfl rfl (Nat.le_of_ble_eq_true rfl) dM_insert_96 (fun H locs hP hD hS => ?_)
      have hP : va_P (dC, dI) rg_cl (rm_W h a cI cL (nI 3) (nI n) (nI b) cof mad (va_cpy nu nu (2 * (T b)) (2 * n) 2) (va_cpy co co (2 * (T b)) (2 * n) 2) (va_cpy se se (2 * (T b)) (2 * n) 2) (va_cpy li li (16 * (T b)) (16 * n) 16) (va_cpy le le (2 * (T b)) (2 * n) 2) (upd fi n (fi (T b))) (upd sc n (sc (T b))) ti un ma dr fr to en) H := hP
      have hD : va_D A (rm_W h a cI cL (nI 3) (nI n) (nI b) cof mad (va_cpy nu nu (2 * (T b)) (2 * n) 2) (va_cpy co co (2 * (T b)) (2 * n) 2) (va_cpy se se (2 * (T b)) (2 * n) 2) (va_cpy li li (16 * (T b)) (16 * n) 16) (va_cpy le le (2 * (T b)) (2 * n) 2) (upd fi n (fi (T b))) (upd sc n (sc (T b))) ti un ma dr fr to en) := hD
      refine lv_aload_n hx hb dM_insert_99 rfl (lv_at hl 1 rfl) ?_
      refine va_get (D := (dC, dI)) (ci := 0) (C := "RevisionGroveModel") (T := TM) (N := 19) hx hb hts inM hown hK hP 0 rfl rfl 0 (by decide) (hts _ tw_601) (fun _ h9 => h9) rfl dM_insert_100 ?_
      refine rg_ifN_le (tgt := 108) hx hb dM_insert_103 (by decide) (by decide) (fun h13 => by exfalso; omega) (fun h13 => ?_)
      refine lv_iconst (v := nI 0) hx hb dM_insert_106 (by decide) ?_
      rw [hQ]
      exact rg_iret hx hb hr hlk hK hP hD hS dM_insert_107 (nI 3, nI n, nI b, cof, mad, va_cpy nu nu (2 * (T b)) (2 * n) 2, va_cpy co co (2 * (T b)) (2 * n) 2, va_cpy se se (2 * (T b)) (2 * n) 2, va_cpy li li (16 * (T b)) (16 * n) 16, va_cpy le le (2 * (T b)) (2 * n) 2, upd fi n (fi (T b)), upd sc n (sc (T b)), ti, un, ma, dr, fr, to, en) rfl (⟨rm_Rep_junk hrep (fun j hj => by have hj : j < 2 * n := hj; rw [pk_cpy_out (by omega)]) (fun j hj => by have hj : j < 2 * n := hj; rw [pk_cpy_out (by omega)]) (fun j hj => by have hj : j < 2 * n := hj; rw [pk_cpy_out (by omega)]) (fun j hj => by have hj : j < 2 * n := hj; rw [pk_cpy_out (by omega)]) (fun j hj => by have hj : j < 16 * n := hj; rw [pk_cpy_out (by omega)]) (fun j hj => by have hj : j < n := hj; rw [pk_un (by omega)]) (fun j hj => by have hj : j < n := hj; rw [pk_un (by omega)]), rfl, rfl⟩)
  refine rg_icmp_eq (tgt := 13) hx hb dM_insert_4 (by decide) (by omega) (by omega) (fun h14 => ?_) (fun h14 => ?_)
  · refine lv_iconst (v := nI 0) hx hb dM_insert_13 (by decide) ?_
    refine lv_goto (tgt := 18) hx hb dM_insert_14 (by decide) ?_
    exact J4 0 rfl
  · refine lv_iload_n hx hb dM_insert_7 rfl (lv_at hl 1 rfl) ?_
    refine lv_bipush (v := nI 7) hx hb dM_insert_8 (by decide) ?_
    refine rg_icmp_ne (tgt := 17) hx hb dM_insert_10 (by decide) (by omega) (by omega) (fun h15 => by exfalso; omega) (fun h15 => ?_)
    refine lv_iconst (v := nI 0) hx hb dM_insert_13 (by decide) ?_
    refine lv_goto (tgt := 18) hx hb dM_insert_14 (by decide) ?_
    exact J4 0 rfl
set_option maxHeartbeats 4000000 in
set_option maxRecDepth 100000 in
theorem c_rm_insert_ok {l : Launch} {dC : Nat → ClassId} {dI : Nat → Nat → Nat} {h : Nat} {a : Nat → Nat} {cI cL : ClassId} {cod : Int32} {cof : Int32} {mad : Int32} {nu : Nat → Int32} {co : Nat → Int64} {se : Nat → Int32} {li : Nat → Int32} {le : Nat → Int32} {fi : Nat → Int32} {sc : Nat → Int32} {ti : Nat → Int32} {un : Nat → Int32} {ma : Nat → Int32} {dr : Nat → Int32} {fr : Nat → Int32} {to : Nat → Int32} {en : Nat → Int32} (n b : Nat) (Rr : Nat → rg_R) (P1 P2 : Nat → Int32) (T : Nat → Nat) (U : Nat → List Nat) (k : Nat) (hk2 : k < 2) (l9 : List Int32) (hl9 : (Rr (T b)).2.2.2 k = l9) (x : Nat) (v : Int32) (hxl : x ≤ l9.length) (hl8 : ¬ l9.length = 8) (hn6 : ¬ n = 60) (hrep : rm_Rep (nI n) (nI b) cof nu co se li le fi sc ti un ma (n, Rr, P1, P2, T, U, b, cof)) : rg_M l yM_insert (Cond.code yM_insert prog_8_method_13_code 7 (some .int) :: rg_tbl) { frames := 3, cells := 0, slots := 0, locals := 69 } (dC, dI) rg_cl [(cI, .int), (cL, .long)] (rm_W h a cI cL cod (nI n) (nI b) cof mad nu co se li le fi sc ti un ma dr fr to en) [.ref h, .int (nI (k + 6)), .int (nI x), .int v] (rg_QI (dC, dI) rg_cl [(cI, .int), (cL, .long)] (S := rm_S) (rm_Po (rg_chg 2 (n, Rr, P1, P2, T, U, b, cof) (rg_setL (Rr (T b)) k (rg_insL l9 x v)))) (fun u => rm_Wu h a cI cL u)) 0 0 := by
  refine rg_of prog_8_method_13_code 7 (some .int) (by decide) rfl (Nat.le_of_ble_eq_true rfl) ?_
  intro p e R s m args below meth c Q A H locs ls hR hQ hx hb hml hr hts hown hlk hnm hP hK hD hA hS hl
  have hl : lv_has ls 7 [(0, .ref h), (1, .int (nI (k + 6))), (2, .int (nI x)), (3, .int v)] := hl
  have hts : ∀ w ∈ rg_tbl, w.before args s = true := fun w h => hts w (List.mem_cons_of_mem _ h)
  have hok := hrep.1
  have hn1 : 1 ≤ n := hok.1
  have hn60 : n ≤ 60 := hok.2.1
  have hb4 : b < 4 := hok.2.2.2.2.2.2.2.1
  have hTb : T b < n := (hok.2.2.2.2.2.2.1 b hb4).1
  have hti : ti b = nI (T b) := (hrep.2.2.2.2.2.2 b hb4).1
  have hma : ma b = nI (U b).length := (hrep.2.2.2.2.2.2 b hb4).2.1
  refine lv_aload_n hx hb dM_insert_0 rfl (lv_at hl 0 rfl) ?_
  refine lv_iload_n hx hb dM_insert_1 rfl (lv_at hl 1 rfl) ?_
  refine lv_bipush (v := nI 6) hx hb dM_insert_2 (by decide) ?_
  have J4 : ∀ v9 : Nat, v9 = 0 → W p l e R s m args below meth c H locs 0 0 Q (F0 m 18 ls [.int (nI v9), .ref h]) := by
    intro v9 hv9
    subst hv9
    refine va_put (D := (dC, dI)) (ci := 0) (v := .int (nI 0)) (ty := .int) (C := "RevisionGroveModel") (T := TM) (N := 19) hx hb hts inM tyM tyM_ok nmM hown hK hP hD hS 0 rfl rfl 0 (by decide) (hts _ tw_601) (fun _ h9 => h9) rfl (by decide +kernel) rfl rfl (Nat.le_of_ble_eq_true rfl) dM_insert_18 (fun H locs hP hD hS => ?_)
    have hP : va_P (dC, dI) rg_cl (rm_W h a cI cL (nI 0) (nI n) (nI b) cof mad nu co se li le fi sc ti un ma dr fr to en) H := hP
    have hD : va_D A (rm_W h a cI cL (nI 0) (nI n) (nI b) cof mad nu co se li le fi sc ti un ma dr fr to en) := hD
    refine lv_aload_n hx hb dM_insert_21 rfl (lv_at hl 0 rfl) ?_
    refine va_get (D := (dC, dI)) (ci := 0) (C := "RevisionGroveModel") (T := TM) (N := 19) hx hb hts inM hown hK hP 0 rfl rfl 0 (by decide) (hts _ tw_601) (fun _ h9 => h9) rfl dM_insert_22 ?_
    refine rg_ifN_le (tgt := 30) hx hb dM_insert_25 (by decide) (by decide) (fun h1 => ?_) (fun h1 => by exfalso; omega)
    refine lv_aload_n hx hb dM_insert_30 rfl (lv_at hl 0 rfl) ?_
    refine lv_aload_n hx hb dM_insert_31 rfl (lv_at hl 0 rfl) ?_
    refine rg_calli hD hS hA (va_runV (As := []) (rest := [.ref h]) ⟨hx, hb, hml, hown, hts⟩ (c_rm_here b (by omega) _) (cwV 0 hts (rg_gV tw_667 tw_669 ts_M_here tw_5 tw_670) rfl rfl rfl (by decide +kernel) ⟨by rw [hR]; exact Nat.le_of_ble_eq_true rfl, by rw [hR]; exact Nat.le_of_ble_eq_true rfl⟩) (rg_preV rfl hK hP hD (ci := 0) (q0 := 0) rfl rfl) rfl rfl hl.1 rfl (lv_room (Nat.le_of_ble_eq_true rfl)) dM_insert_32 ⟨Nat.zero_le _, Nat.zero_le _⟩) (fun r2 u3 H locs hw4 hP hD hS => ?_)
    subst hw4
    have hP : va_P (dC, dI) rg_cl (rm_W h a cI cL (nI 0) (nI n) (nI b) cof mad nu co se li le fi sc ti un ma dr fr to en) H := hP
    have hD : va_D A (rm_W h a cI cL (nI 0) (nI n) (nI b) cof mad nu co se li le fi sc ti un ma dr fr to en) := hD
    refine rg_top (show (.int (ti b) : Value) = .int (nI (T b)) by rw [hti]) ?_
    refine lv_aload_n hx hb dM_insert_35 rfl (lv_at hl 0 rfl) ?_
    refine va_get (D := (dC, dI)) (ci := 0) (C := "RevisionGroveModel") (T := TM) (N := 19) hx hb hts inM hown hK hP 0 rfl rfl 1 (by decide) (hts _ tw_602) (fun _ h9 => h9) rfl dM_insert_36 ?_
    refine rg_callv hD hS hA (va_runV (As := [.int (nI (T b)), .int (nI n)]) (rest := []) ⟨hx, hb, hml, hown, hts⟩ (c_rm_copy (T b) n (by omega) (by omega) _) (cwV 2 hts (rg_gV tw_671 tw_673 ts_M_copy tw_5 tw_674) rfl rfl rfl (by decide +kernel) ⟨by rw [hR]; exact Nat.le_of_ble_eq_true rfl, by rw [hR]; exact Nat.le_of_ble_eq_true rfl⟩) (rg_preV rfl hK hP hD (ci := 0) (q0 := 0) rfl rfl) rfl rfl hl.1 rfl (lv_room (Nat.le_of_ble_eq_true rfl)) dM_insert_39 ⟨Nat.zero_le _, Nat.zero_le _⟩) (fun u6 H locs hw7 hP hD hS => ?_)
    have hP : va_P (dC, dI) rg_cl (rm_W h a cI cL (nI 0) (nI n) (nI b) cof mad (va_cpy nu nu (2 * (T b)) (2 * n) 2) (va_cpy co co (2 * (T b)) (2 * n) 2) (va_cpy se se (2 * (T b)) (2 * n) 2) (va_cpy li li (16 * (T b)) (16 * n) 16) (va_cpy le le (2 * (T b)) (2 * n) 2) (upd fi n (fi (T b))) (upd sc n (sc (T b))) ti un ma dr fr to en) H := hP
    have hD : va_D A (rm_W h a cI cL (nI 0) (nI n) (nI b) cof mad (va_cpy nu nu (2 * (T b)) (2 * n) 2) (va_cpy co co (2 * (T b)) (2 * n) 2) (va_cpy se se (2 * (T b)) (2 * n) 2) (va_cpy li li (16 * (T b)) (16 * n) 16) (va_cpy le le (2 * (T b)) (2 * n) 2) (upd fi n (fi (T b))) (upd sc n (sc (T b))) ti un ma dr fr to en) := hD
    have hX0 : rg_MR (va_cpy nu nu (2 * (T b)) (2 * n) 2) (va_cpy co co (2 * (T b)) (2 * n) 2) (va_cpy se se (2 * (T b)) (2 * n) 2) (va_cpy le le (2 * (T b)) (2 * n) 2) (va_cpy li li (16 * (T b)) (16 * n) 16) n (Rr (T b)) := rg_MR_copy (hrep.2.2.2.2.1 (T b) hTb)
    have q5 := (hX0 k (by omega)).2.2.2.2.1
    have q4 := (hX0 k (by omega)).2.2.2.1
    have q6 := (hX0 k (by omega)).2.2.2.2.2
    rw [hl9] at q4 q5 q6
    refine lv_aload_n hx hb dM_insert_42 rfl (lv_at hl 0 rfl) ?_
    refine va_get (D := (dC, dI)) (ci := 0) (C := "RevisionGroveModel") (T := TM) (N := 19) hx hb hts inM hown hK hP 0 rfl rfl 6 (by decide) (hts _ tw_607) (fun _ h9 => h9) rfl dM_insert_43 ?_
    refine lv_iconst (v := nI 2) hx hb dM_insert_46 (by decide) ?_
    refine lv_aload_n hx hb dM_insert_47 rfl (lv_at hl 0 rfl) ?_
    refine va_get (D := (dC, dI)) (ci := 0) (C := "RevisionGroveModel") (T := TM) (N := 19) hx hb hts inM hown hK hP 0 rfl rfl 1 (by decide) (hts _ tw_602) (fun _ h9 => h9) rfl dM_insert_48 ?_
    refine rg_imul hx hb dM_insert_51 ?_
    refine lv_iload_n hx hb dM_insert_52 rfl (lv_at hl 1 rfl) ?_
    refine rg_iadd hx hb dM_insert_53 ?_
    refine lv_bipush (v := nI 6) hx hb dM_insert_54 (by decide) ?_
    refine rg_isub hx hb dM_insert_56 (by omega) ?_
    refine rg_top (show (.int (nI (2 * n + (k + 6) - 6)) : Value) = .int (nI (2 * n + k)) by rw [show 2 * n + (k + 6) - 6 = 2 * n + k by omega]) ?_
    refine rg_iald hx hb hK hP 5 0 rfl rfl (by decide) (by omega) dM_insert_57 ?_
    refine rg_top (show (.int ((va_cpy le le (2 * (T b)) (2 * n) 2) (2 * n + k)) : Value) = .int (nI l9.length) by rw [q5]) ?_
    refine lv_istore (lv' := [(4, .int (nI l9.length)), (0, .ref h), (1, .int (nI (k + 6))), (2, .int (nI x)), (3, .int v)]) hx hb dM_insert_58 hl (by decide) rfl (fun ls hl => ?_)
    refine lv_aload_n hx hb dM_insert_60 rfl (lv_at hl 1 rfl) ?_
    refine lv_iload_n hx hb dM_insert_61 rfl (lv_at hl 3 rfl) ?_
    refine rg_ifN_lt (tgt := 71) hx hb dM_insert_62 (by decide) (by omega) (fun h8 => h8.elim) (fun h8 => ?_)
    refine lv_iload_n hx hb dM_insert_65 rfl (lv_at hl 3 rfl) ?_
    refine lv_iload hx hb dM_insert_66 (lv_at hl 0 rfl) ?_
    refine rg_icmp_le (tgt := 75) hx hb dM_insert_68 (by decide) (by omega) (by omega) (fun h9 => ?_) (fun h9 => by exfalso; omega)
    refine lv_iload hx hb dM_insert_75 (lv_at hl 0 rfl) ?_
    refine lv_bipush (v := nI 8) hx hb dM_insert_77 (by decide) ?_
    refine rg_icmp_eq (tgt := 91) hx hb dM_insert_79 (by decide) (by omega) (by omega) (fun h10 => by exfalso; omega) (fun h10 => ?_)
    refine lv_aload_n hx hb dM_insert_82 rfl (lv_at hl 1 rfl) ?_
    refine va_get (D := (dC, dI)) (ci := 0) (C := "RevisionGroveModel") (T := TM) (N := 19) hx hb hts inM hown hK hP 0 rfl rfl 1 (by decide) (hts _ tw_602) (fun _ h9 => h9) rfl dM_insert_83 ?_
    refine lv_bipush (v := nI 60) hx hb dM_insert_86 (by decide) ?_
    refine rg_icmp_ne (tgt := 95) hx hb dM_insert_88 (by decide) (by omega) (by omega) (fun h11 => ?_) (fun h11 => by exfalso; omega)
    refine lv_iconst (v := nI 0) hx hb dM_insert_95 (by decide) ?_
    refine va_put (D := (dC, dI)) (ci := 0) (v := .int (nI 0)) (ty := .int) (C := "RevisionGroveModel") (T := TM) (N := 19) hx hb hts inM tyM tyM_ok nmM hown hK hP hD hS 0 rfl rfl 0 (by decide) (hts _ tw_601) (fun _ h9 => h9) rfl (by decide +kernel) rfl rfl (Nat.le_of_ble_eq_true rfl) dM_insert_96 (fun H locs hP hD hS => ?_)
    have hP : va_P (dC, dI) rg_cl (rm_W h a cI cL (nI 0) (nI n) (nI b) cof mad (va_cpy nu nu (2 * (T b)) (2 * n) 2) (va_cpy co co (2 * (T b)) (2 * n) 2) (va_cpy se se (2 * (T b)) (2 * n) 2) (va_cpy li li (16 * (T b)) (16 * n) 16) (va_cpy le le (2 * (T b)) (2 * n) 2) (upd fi n (fi (T b))) (upd sc n (sc (T b))) ti un ma dr fr to en) H := hP
    have hD : va_D A (rm_W h a cI cL (nI 0) (nI n) (nI b) cof mad (va_cpy nu nu (2 * (T b)) (2 * n) 2) (va_cpy co co (2 * (T b)) (2 * n) 2) (va_cpy se se (2 * (T b)) (2 * n) 2) (va_cpy li li (16 * (T b)) (16 * n) 16) (va_cpy le le (2 * (T b)) (2 * n) 2) (upd fi n (fi (T b))) (upd sc n (sc (T b))) ti un ma dr fr to en) := hD
    refine lv_aload_n hx hb dM_insert_99 rfl (lv_at hl 1 rfl) ?_
    refine va_get (D := (dC, dI)) (ci := 0) (C := "RevisionGroveModel") (T := TM) (N := 19) hx hb hts inM hown hK hP 0 rfl rfl 0 (by decide) (hts _ tw_601) (fun _ h9 => h9) rfl dM_insert_100 ?_
    refine rg_ifN_le (tgt := 108) hx hb dM_insert_103 (by decide) (by decide) (fun h12 => ?_) (fun h12 => by exfalso; omega)
    refine lv_bipush (v := nI 16) hx hb dM_insert_108 (by decide) ?_
    refine lv_aload_n hx hb dM_insert_110 rfl (lv_at hl 1 rfl) ?_
    refine va_get (D := (dC, dI)) (ci := 0) (C := "RevisionGroveModel") (T := TM) (N := 19) hx hb hts inM hown hK hP 0 rfl rfl 1 (by decide) (hts _ tw_602) (fun _ h9 => h9) rfl dM_insert_111 ?_
    refine rg_imul hx hb dM_insert_114 ?_
    refine lv_bipush (v := nI 8) hx hb dM_insert_115 (by decide) ?_
    refine lv_iload_n hx hb dM_insert_117 rfl (lv_at hl 2 rfl) ?_
    refine lv_bipush (v := nI 6) hx hb dM_insert_118 (by decide) ?_
    refine rg_isub hx hb dM_insert_120 (by omega) ?_
    refine rg_top (show (.int (nI (k + 6 - 6)) : Value) = .int (nI k) by rw [show k + 6 - 6 = k by omega]) ?_
    refine rg_imul hx hb dM_insert_121 ?_
    refine rg_iadd hx hb dM_insert_122 ?_
    refine lv_istore (lv' := [(5, .int (nI (16 * n + 8 * k))), (4, .int (nI l9.length)), (0, .ref h), (1, .int (nI (k + 6))), (2, .int (nI x)), (3, .int v)]) hx hb dM_insert_123 hl (by decide) rfl (fun ls hl => ?_)
    refine lv_iload hx hb dM_insert_125 (lv_at hl 1 rfl) ?_
    refine lv_istore (lv' := [(6, .int (nI l9.length)), (5, .int (nI (16 * n + 8 * k))), (4, .int (nI l9.length)), (0, .ref h), (1, .int (nI (k + 6))), (2, .int (nI x)), (3, .int v)]) hx hb dM_insert_127 hl (by decide) rfl (fun ls hl => ?_)
    have lp129 : ∀ (fuel : Nat) (kk : Nat) (H : Heap) (locs : List Loc) (ls : Array Slot), kk < fuel → x ≤ kk → kk ≤ l9.length → va_P (dC, dI) rg_cl (rm_W h a cI cL (nI 0) (nI n) (nI b) cof mad (va_cpy nu nu (2 * (T b)) (2 * n) 2) (va_cpy co co (2 * (T b)) (2 * n) 2) (va_cpy se se (2 * (T b)) (2 * n) 2) (va_cpy (va_cpy li li (16 * (T b)) (16 * n) 16) (va_cpy li li (16 * (T b)) (16 * n) 16) (16 * n + 8 * k + kk) (16 * n + 8 * k + kk + 1) (l9.length - kk)) (va_cpy le le (2 * (T b)) (2 * n) 2) (upd fi n (fi (T b))) (upd sc n (sc (T b))) ti un ma dr fr to en) H → va_D A (rm_W h a cI cL (nI 0) (nI n) (nI b) cof mad (va_cpy nu nu (2 * (T b)) (2 * n) 2) (va_cpy co co (2 * (T b)) (2 * n) 2) (va_cpy se se (2 * (T b)) (2 * n) 2) (va_cpy (va_cpy li li (16 * (T b)) (16 * n) 16) (va_cpy li li (16 * (T b)) (16 * n) 16) (16 * n + 8 * k + kk) (16 * n + 8 * k + kk + 1) (l9.length - kk)) (va_cpy le le (2 * (T b)) (2 * n) 2) (upd fi n (fi (T b))) (upd sc n (sc (T b))) ti un ma dr fr to en) → va_S A s.heap H locs → lv_has ls 7 [(0, .ref h), (1, .int (nI (k + 6))), (2, .int (nI x)), (3, .int v), (4, .int (nI l9.length)), (5, .int (nI (16 * n + 8 * k))), (6, .int (nI kk))] → W p l e R s m args below meth c H locs 0 0 Q (F0 m 129 ls []) := by
      intro fuel
      induction fuel with
      | zero => intro kk H locs ls hf; exact absurd hf (Nat.not_lt_zero _)
      | succ fuel ih129 =>
        intro kk H locs ls hfu129 hk1 hk9 hP hD hS hl
        refine lv_iload hx hb dM_insert_129 (lv_at hl 6 rfl) ?_
        refine lv_iload_n hx hb dM_insert_131 rfl (lv_at hl 2 rfl) ?_
        refine rg_icmp_le (tgt := 163) hx hb dM_insert_132 (by decide) (by omega) (by omega) (fun h13 => ?_) (fun h13 => ?_)
        · have hkx : kk = x := by omega
          rw [hkx] at hP hD
          have hP : va_P (dC, dI) rg_cl (rm_W h a cI cL (nI 0) (nI n) (nI b) cof mad (va_cpy nu nu (2 * (T b)) (2 * n) 2) (va_cpy co co (2 * (T b)) (2 * n) 2) (va_cpy se se (2 * (T b)) (2 * n) 2) (va_cpy (va_cpy li li (16 * (T b)) (16 * n) 16) (va_cpy li li (16 * (T b)) (16 * n) 16) (16 * n + 8 * k + x) (16 * n + 8 * k + x + 1) (l9.length - x)) (va_cpy le le (2 * (T b)) (2 * n) 2) (upd fi n (fi (T b))) (upd sc n (sc (T b))) ti un ma dr fr to en) H := hP
          have hD : va_D A (rm_W h a cI cL (nI 0) (nI n) (nI b) cof mad (va_cpy nu nu (2 * (T b)) (2 * n) 2) (va_cpy co co (2 * (T b)) (2 * n) 2) (va_cpy se se (2 * (T b)) (2 * n) 2) (va_cpy (va_cpy li li (16 * (T b)) (16 * n) 16) (va_cpy li li (16 * (T b)) (16 * n) 16) (16 * n + 8 * k + x) (16 * n + 8 * k + x + 1) (l9.length - x)) (va_cpy le le (2 * (T b)) (2 * n) 2) (upd fi n (fi (T b))) (upd sc n (sc (T b))) ti un ma dr fr to en) := hD
          refine lv_aload_n hx hb dM_insert_163 rfl (lv_at hl 0 rfl) ?_
          refine va_get (D := (dC, dI)) (ci := 0) (C := "RevisionGroveModel") (T := TM) (N := 19) hx hb hts inM hown hK hP 0 rfl rfl 5 (by decide) (hts _ tw_606) (fun _ h9 => h9) rfl dM_insert_164 ?_
          refine lv_iload hx hb dM_insert_167 (lv_at hl 5 rfl) ?_
          refine lv_iload_n hx hb dM_insert_169 rfl (lv_at hl 2 rfl) ?_
          refine rg_iadd hx hb dM_insert_170 ?_
          refine lv_iload_n hx hb dM_insert_171 rfl (lv_at hl 3 rfl) ?_
          refine rg_iast hx hb hK hP hD hS 4 0 rfl rfl (by decide) (by omega) dM_insert_172 (fun H locs hP hD hS => ?_)
          have hP : va_P (dC, dI) rg_cl (rm_W h a cI cL (nI 0) (nI n) (nI b) cof mad (va_cpy nu nu (2 * (T b)) (2 * n) 2) (va_cpy co co (2 * (T b)) (2 * n) 2) (va_cpy se se (2 * (T b)) (2 * n) 2) (upd (va_cpy (va_cpy li li (16 * (T b)) (16 * n) 16) (va_cpy li li (16 * (T b)) (16 * n) 16) (16 * n + 8 * k + x) (16 * n + 8 * k + x + 1) (l9.length - x)) (16 * n + 8 * k + x) v) (va_cpy le le (2 * (T b)) (2 * n) 2) (upd fi n (fi (T b))) (upd sc n (sc (T b))) ti un ma dr fr to en) H := hP
          have hD : va_D A (rm_W h a cI cL (nI 0) (nI n) (nI b) cof mad (va_cpy nu nu (2 * (T b)) (2 * n) 2) (va_cpy co co (2 * (T b)) (2 * n) 2) (va_cpy se se (2 * (T b)) (2 * n) 2) (upd (va_cpy (va_cpy li li (16 * (T b)) (16 * n) 16) (va_cpy li li (16 * (T b)) (16 * n) 16) (16 * n + 8 * k + x) (16 * n + 8 * k + x + 1) (l9.length - x)) (16 * n + 8 * k + x) v) (va_cpy le le (2 * (T b)) (2 * n) 2) (upd fi n (fi (T b))) (upd sc n (sc (T b))) ti un ma dr fr to en) := hD
          refine lv_aload_n hx hb dM_insert_173 rfl (lv_at hl 0 rfl) ?_
          refine va_get (D := (dC, dI)) (ci := 0) (C := "RevisionGroveModel") (T := TM) (N := 19) hx hb hts inM hown hK hP 0 rfl rfl 6 (by decide) (hts _ tw_607) (fun _ h9 => h9) rfl dM_insert_174 ?_
          refine lv_iconst (v := nI 2) hx hb dM_insert_177 (by decide) ?_
          refine lv_aload_n hx hb dM_insert_178 rfl (lv_at hl 0 rfl) ?_
          refine va_get (D := (dC, dI)) (ci := 0) (C := "RevisionGroveModel") (T := TM) (N := 19) hx hb hts inM hown hK hP 0 rfl rfl 1 (by decide) (hts _ tw_602) (fun _ h9 => h9) rfl dM_insert_179 ?_
          refine rg_imul hx hb dM_insert_182 ?_
          refine lv_iload_n hx hb dM_insert_183 rfl (lv_at hl 1 rfl) ?_
          refine rg_iadd hx hb dM_insert_184 ?_
          refine lv_bipush (v := nI 6) hx hb dM_insert_185 (by decide) ?_
          refine rg_isub hx hb dM_insert_187 (by omega) ?_
          refine rg_top (show (.int (nI (2 * n + (k + 6) - 6)) : Value) = .int (nI (2 * n + k)) by rw [show 2 * n + (k + 6) - 6 = 2 * n + k by omega]) ?_
          refine lv_dup2_11 hx hb dM_insert_188 rfl rfl ?_
          refine rg_iald hx hb hK hP 5 0 rfl rfl (by decide) (by omega) dM_insert_189 ?_
          refine rg_top (show (.int ((va_cpy le le (2 * (T b)) (2 * n) 2) (2 * n + k)) : Value) = .int (nI l9.length) by rw [q5]) ?_
          refine lv_iconst (v := nI 1) hx hb dM_insert_190 (by decide) ?_
          refine rg_iadd hx hb dM_insert_191 ?_
          refine rg_iast hx hb hK hP hD hS 5 0 rfl rfl (by decide) (by omega) dM_insert_192 (fun H locs hP hD hS => ?_)
          have hP : va_P (dC, dI) rg_cl (rm_W h a cI cL (nI 0) (nI n) (nI b) cof mad (va_cpy nu nu (2 * (T b)) (2 * n) 2) (va_cpy co co (2 * (T b)) (2 * n) 2) (va_cpy se se (2 * (T b)) (2 * n) 2) (upd (va_cpy (va_cpy li li (16 * (T b)) (16 * n) 16) (va_cpy li li (16 * (T b)) (16 * n) 16) (16 * n + 8 * k + x) (16 * n + 8 * k + x + 1) (l9.length - x)) (16 * n + 8 * k + x) v) (upd (va_cpy le le (2 * (T b)) (2 * n) 2) (2 * n + k) (nI (l9.length + 1))) (upd fi n (fi (T b))) (upd sc n (sc (T b))) ti un ma dr fr to en) H := hP
          have hD : va_D A (rm_W h a cI cL (nI 0) (nI n) (nI b) cof mad (va_cpy nu nu (2 * (T b)) (2 * n) 2) (va_cpy co co (2 * (T b)) (2 * n) 2) (va_cpy se se (2 * (T b)) (2 * n) 2) (upd (va_cpy (va_cpy li li (16 * (T b)) (16 * n) 16) (va_cpy li li (16 * (T b)) (16 * n) 16) (16 * n + 8 * k + x) (16 * n + 8 * k + x + 1) (l9.length - x)) (16 * n + 8 * k + x) v) (upd (va_cpy le le (2 * (T b)) (2 * n) 2) (2 * n + k) (nI (l9.length + 1))) (upd fi n (fi (T b))) (upd sc n (sc (T b))) ti un ma dr fr to en) := hD
          have hrep1 : rm_Rep (nI n) (nI b) cof (va_cpy nu nu (2 * (T b)) (2 * n) 2) (va_cpy co co (2 * (T b)) (2 * n) 2) (va_cpy se se (2 * (T b)) (2 * n) 2) (upd (va_cpy (va_cpy li li (16 * (T b)) (16 * n) 16) (va_cpy li li (16 * (T b)) (16 * n) 16) (16 * n + 8 * k + x) (16 * n + 8 * k + x + 1) (l9.length - x)) (16 * n + 8 * k + x) v) (upd (va_cpy le le (2 * (T b)) (2 * n) 2) (2 * n + k) (nI (l9.length + 1))) (upd fi n (fi (T b))) (upd sc n (sc (T b))) ti un ma (n, Rr, P1, P2, T, U, b, cof) := rm_Rep_junk hrep (fun j hj => by have hj : j < 2 * n := hj; rw [pk_cpy_out (by omega)]) (fun j hj => by have hj : j < 2 * n := hj; rw [pk_cpy_out (by omega)]) (fun j hj => by have hj : j < 2 * n := hj; rw [pk_cpy_out (by omega)]) (fun j hj => by have hj : j < 2 * n := hj; rw [pk_un (by omega), pk_cpy_out (by omega)]) (fun j hj => by have hj : j < 16 * n := hj; rw [pk_un (by omega), pk_cpy_out (by omega), pk_cpy_out (by omega)]) (fun j hj => by have hj : j < n := hj; rw [pk_un (by omega)]) (fun j hj => by have hj : j < n := hj; rw [pk_un (by omega)])
          have hX1 : rg_MR (va_cpy nu nu (2 * (T b)) (2 * n) 2) (va_cpy co co (2 * (T b)) (2 * n) 2) (va_cpy se se (2 * (T b)) (2 * n) 2) (upd (va_cpy le le (2 * (T b)) (2 * n) 2) (2 * n + k) (nI (l9.length + 1))) (upd (va_cpy (va_cpy li li (16 * (T b)) (16 * n) 16) (va_cpy li li (16 * (T b)) (16 * n) 16) (16 * n + 8 * k + x) (16 * n + 8 * k + x + 1) (l9.length - x)) (16 * n + 8 * k + x) v) n (rg_setL (Rr (T b)) k (rg_insL l9 x v)) := rg_MR_setL hX0 hk2 (by rw [rg_insL_len hxl]; omega) (by rw [pk_us, rg_insL_len hxl]) (fun j hj => pk_un hj) (fun i hi => rg_ins_cells q6 hxl (by rw [rg_insL_len hxl] at hi; exact hi)) (fun j hj => by rw [pk_un (by omega), pk_cpy_out (by omega)])
          refine lv_aload_n hx hb dM_insert_193 rfl (lv_at hl 0 rfl) ?_
          refine rg_calli hD hS hA (va_runV (As := []) (rest := []) ⟨hx, hb, hml, hown, hts⟩ (c_rm_change n b Rr P1 P2 T U (rg_setL (Rr (T b)) k (rg_insL l9 x v)) hrep1 hX1 _) (cwV 0 hts (rg_gV tw_675 tw_677 ts_M_change tw_5 tw_678) rfl rfl rfl (by decide +kernel) ⟨by rw [hR]; exact Nat.le_of_ble_eq_true rfl, by rw [hR]; exact Nat.le_of_ble_eq_true rfl⟩) (rg_preV rfl hK hP hD (ci := 0) (q0 := 0) rfl rfl) rfl rfl hl.1 rfl (lv_room (Nat.le_of_ble_eq_true rfl)) dM_insert_194 ⟨Nat.zero_le _, Nat.zero_le _⟩) (fun r14 u15 H locs hw16 hP hD hS => ?_)
          obtain ⟨cod4, cnt4, bra4, cof4, mad4, nu4, co4, se4, li4, le4, fi4, sc4, ti4, un4, ma4, dr4, fr4, to4, en4⟩ := u15
          have hP : va_P (dC, dI) rg_cl (rm_W h a cI cL cod4 cnt4 bra4 cof4 mad4 nu4 co4 se4 li4 le4 fi4 sc4 ti4 un4 ma4 dr4 fr4 to4 en4) H := hP
          have hD : va_D A (rm_W h a cI cL cod4 cnt4 bra4 cof4 mad4 nu4 co4 se4 li4 le4 fi4 sc4 ti4 un4 ma4 dr4 fr4 to4 en4) := hD
          rw [hQ]
          exact rg_iret hx hb hr hlk hK hP hD hS dM_insert_197 (cod4, cnt4, bra4, cof4, mad4, nu4, co4, se4, li4, le4, fi4, sc4, ti4, un4, ma4, dr4, fr4, to4, en4) rfl (hw16)
        · refine lv_aload_n hx hb dM_insert_135 rfl (lv_at hl 0 rfl) ?_
          refine va_get (D := (dC, dI)) (ci := 0) (C := "RevisionGroveModel") (T := TM) (N := 19) hx hb hts inM hown hK hP 0 rfl rfl 5 (by decide) (hts _ tw_606) (fun _ h9 => h9) rfl dM_insert_136 ?_
          refine lv_iload hx hb dM_insert_139 (lv_at hl 5 rfl) ?_
          refine lv_iload hx hb dM_insert_141 (lv_at hl 6 rfl) ?_
          refine rg_iadd hx hb dM_insert_143 ?_
          refine lv_aload_n hx hb dM_insert_144 rfl (lv_at hl 0 rfl) ?_
          refine va_get (D := (dC, dI)) (ci := 0) (C := "RevisionGroveModel") (T := TM) (N := 19) hx hb hts inM hown hK hP 0 rfl rfl 5 (by decide) (hts _ tw_606) (fun _ h9 => h9) rfl dM_insert_145 ?_
          refine lv_iload hx hb dM_insert_148 (lv_at hl 5 rfl) ?_
          refine lv_iload hx hb dM_insert_150 (lv_at hl 6 rfl) ?_
          refine rg_iadd hx hb dM_insert_152 ?_
          refine lv_iconst (v := nI 1) hx hb dM_insert_153 (by decide) ?_
          refine rg_isub hx hb dM_insert_154 (by omega) ?_
          refine rg_iald hx hb hK hP 4 0 rfl rfl (by decide) (by omega) dM_insert_155 ?_
          refine rg_iast hx hb hK hP hD hS 4 0 rfl rfl (by decide) (by omega) dM_insert_156 (fun H locs hP hD hS => ?_)
          have hP : va_P (dC, dI) rg_cl (rm_W h a cI cL (nI 0) (nI n) (nI b) cof mad (va_cpy nu nu (2 * (T b)) (2 * n) 2) (va_cpy co co (2 * (T b)) (2 * n) 2) (va_cpy se se (2 * (T b)) (2 * n) 2) (upd (va_cpy (va_cpy li li (16 * (T b)) (16 * n) 16) (va_cpy li li (16 * (T b)) (16 * n) 16) (16 * n + 8 * k + kk) (16 * n + 8 * k + kk + 1) (l9.length - kk)) (16 * n + 8 * k + kk) ((va_cpy (va_cpy li li (16 * (T b)) (16 * n) 16) (va_cpy li li (16 * (T b)) (16 * n) 16) (16 * n + 8 * k + kk) (16 * n + 8 * k + kk + 1) (l9.length - kk)) (16 * n + 8 * k + kk - 1))) (va_cpy le le (2 * (T b)) (2 * n) 2) (upd fi n (fi (T b))) (upd sc n (sc (T b))) ti un ma dr fr to en) H := hP
          have hD : va_D A (rm_W h a cI cL (nI 0) (nI n) (nI b) cof mad (va_cpy nu nu (2 * (T b)) (2 * n) 2) (va_cpy co co (2 * (T b)) (2 * n) 2) (va_cpy se se (2 * (T b)) (2 * n) 2) (upd (va_cpy (va_cpy li li (16 * (T b)) (16 * n) 16) (va_cpy li li (16 * (T b)) (16 * n) 16) (16 * n + 8 * k + kk) (16 * n + 8 * k + kk + 1) (l9.length - kk)) (16 * n + 8 * k + kk) ((va_cpy (va_cpy li li (16 * (T b)) (16 * n) 16) (va_cpy li li (16 * (T b)) (16 * n) 16) (16 * n + 8 * k + kk) (16 * n + 8 * k + kk + 1) (l9.length - kk)) (16 * n + 8 * k + kk - 1))) (va_cpy le le (2 * (T b)) (2 * n) 2) (upd fi n (fi (T b))) (upd sc n (sc (T b))) ti un ma dr fr to en) := hD
          refine lv_iinc (k := 6) (v := nI (kk - 1)) (lv' := [(6, .int (nI (kk - 1))), (0, .ref h), (1, .int (nI (k + 6))), (2, .int (nI x)), (3, .int v), (4, .int (nI l9.length)), (5, .int (nI (16 * n + 8 * k)))]) hx hb dM_insert_157 hl rfl (rg_dec (by omega)) (by decide) rfl (fun ls hl => ?_)
          refine lv_goto (tgt := 129) hx hb dM_insert_160 (by decide) ?_
          exact ih129 (kk - 1) _ _ _ (by omega) (by omega) (by omega) (by rw [← rg_cpyD2 (va_cpy li li (16 * (T b)) (16 * n) 16) (16 * n + 8 * k) kk l9.length (by omega) (by omega)]; exact hP) (by rw [← rg_cpyD2 (va_cpy li li (16 * (T b)) (16 * n) 16) (16 * n + 8 * k) kk l9.length (by omega) (by omega)]; exact hD) hS (lv_sub hl [1, 2, 3, 4, 5, 6, 0] rfl)
    exact lp129 _ l9.length _ _ _ (Nat.lt_succ_self _) hxl (Nat.le_refl _) (by rw [Nat.sub_self, rg_cpy0]; exact hP) (by rw [Nat.sub_self, rg_cpy0]; exact hD) hS (lv_sub hl [3, 4, 5, 6, 2, 1, 0] rfl)
  refine rg_icmp_eq (tgt := 13) hx hb dM_insert_4 (by decide) (by omega) (by omega) (fun h17 => ?_) (fun h17 => ?_)
  · refine lv_iconst (v := nI 0) hx hb dM_insert_13 (by decide) ?_
    refine lv_goto (tgt := 18) hx hb dM_insert_14 (by decide) ?_
    exact J4 0 rfl
  · refine lv_iload_n hx hb dM_insert_7 rfl (lv_at hl 1 rfl) ?_
    refine lv_bipush (v := nI 7) hx hb dM_insert_8 (by decide) ?_
    refine rg_icmp_ne (tgt := 17) hx hb dM_insert_10 (by decide) (by omega) (by omega) (fun h18 => by exfalso; omega) (fun h18 => ?_)
    refine lv_iconst (v := nI 0) hx hb dM_insert_13 (by decide) ?_
    refine lv_goto (tgt := 18) hx hb dM_insert_14 (by decide) ?_
    exact J4 0 rfl
theorem c_rm_insert {l : Launch} {dC : Nat → ClassId} {dI : Nat → Nat → Nat} {h : Nat} {a : Nat → Nat} {cI cL : ClassId} {cod : Int32} {cof : Int32} {mad : Int32} {nu : Nat → Int32} {co : Nat → Int64} {se : Nat → Int32} {li : Nat → Int32} {le : Nat → Int32} {fi : Nat → Int32} {sc : Nat → Int32} {ti : Nat → Int32} {un : Nat → Int32} {ma : Nat → Int32} {dr : Nat → Int32} {fr : Nat → Int32} {to : Nat → Int32} {en : Nat → Int32} (n b : Nat) (Rr : Nat → rg_R) (P1 P2 : Nat → Int32) (T : Nat → Nat) (U : Nat → List Nat) (f x v : Int32) (hrep : rm_Rep (nI n) (nI b) cof nu co se li le fi sc ti un ma (n, Rr, P1, P2, T, U, b, cof)) : rg_M l yM_insert (Cond.code yM_insert prog_8_method_13_code 7 (some .int) :: rg_tbl) { frames := 3, cells := 0, slots := 0, locals := 69 } (dC, dI) rg_cl [(cI, .int), (cL, .long)] (rm_W h a cI cL cod (nI n) (nI b) cof mad nu co se li le fi sc ti un ma dr fr to en) [.ref h, .int f, .int x, .int v] (rg_QI (dC, dI) rg_cl [(cI, .int), (cL, .long)] (S := rm_S) (rm_Po (rg_oIns (n, Rr, P1, P2, T, U, b, cof) f x v)) (fun u => rm_Wu h a cI cL u)) 0 0 := by
  have key : ∀ k, k < 2 → rg_M l yM_insert (Cond.code yM_insert prog_8_method_13_code 7 (some .int) :: rg_tbl) { frames := 3, cells := 0, slots := 0, locals := 69 } (dC, dI) rg_cl [(cI, .int), (cL, .long)] (rm_W h a cI cL cod (nI n) (nI b) cof mad nu co se li le fi sc ti un ma dr fr to en) [.ref h, .int (nI (k + 6)), .int x, .int v] (rg_QI (dC, dI) rg_cl [(cI, .int), (cL, .long)] (S := rm_S) (rm_Po (rg_insK (n, Rr, P1, P2, T, U, b, cof) k x v)) (fun u => rm_Wu h a cI cL u)) 0 0 := by
    intro k hk
    unfold rg_insK
    by_cases hx0 : x < 0 ∨ nI ((Rr (T b)).2.2.2 k).length < x
    · rw [if_pos hx0]; exact c_rm_insert_badx n b Rr P1 P2 T U k hk _ rfl x v hx0 hrep
    · rw [if_neg hx0]
      obtain ⟨j, hj, rfl⟩ := nI_of (fun q => hx0 (Or.inl q))
      have hl8 : ((Rr (T b)).2.2.2 k).length ≤ 8 := hrep.1.2.2.2.2.2.2.2.2 (T b) (hrep.1.2.2.2.2.2.2.1 b hrep.1.2.2.2.2.2.2.2.1).1 k hk
      have hjl : j ≤ ((Rr (T b)).2.2.2 k).length := Nat.le_of_not_lt fun q => hx0 (Or.inr (nI_lt q hj))
      rw [nI_clamp hj]
      by_cases hf : ((Rr (T b)).2.2.2 k).length = 8 ∨ n = 60
      · rw [if_pos hf]; exact c_rm_insert_full n b Rr P1 P2 T U k hk _ rfl j v hjl hf hrep
      · rw [if_neg hf]; exact c_rm_insert_ok n b Rr P1 P2 T U k hk _ rfl j v hjl (fun q => hf (Or.inl q)) (fun q => hf (Or.inr q)) hrep
  unfold rg_oIns
  by_cases h0 : f = 6
  · subst h0; rw [if_pos rfl]; exact key 0 (by decide)
  · rw [if_neg h0]
    by_cases h1 : f = 7
    · subst h1; rw [if_pos rfl]; exact key 1 (by decide)
    · rw [if_neg h1]; exact c_rm_insert_badf n b Rr P1 P2 T U f x v h0 h1 hrep
set_option maxHeartbeats 4000000 in
set_option maxRecDepth 100000 in
theorem c_rm_remove_badf {l : Launch} {dC : Nat → ClassId} {dI : Nat → Nat → Nat} {h : Nat} {a : Nat → Nat} {cI cL : ClassId} {cod : Int32} {cof : Int32} {mad : Int32} {nu : Nat → Int32} {co : Nat → Int64} {se : Nat → Int32} {li : Nat → Int32} {le : Nat → Int32} {fi : Nat → Int32} {sc : Nat → Int32} {ti : Nat → Int32} {un : Nat → Int32} {ma : Nat → Int32} {dr : Nat → Int32} {fr : Nat → Int32} {to : Nat → Int32} {en : Nat → Int32} (n b : Nat) (Rr : Nat → rg_R) (P1 P2 : Nat → Int32) (T : Nat → Nat) (U : Nat → List Nat) (f x : Int32) (hf0 : ¬ f = 6) (hf1 : ¬ f = 7) (hrep : rm_Rep (nI n) (nI b) cof nu co se li le fi sc ti un ma (n, Rr, P1, P2, T, U, b, cof)) : rg_M l yM_remove (Cond.code yM_remove prog_8_method_14_code 6 (some .int) :: rg_tbl) { frames := 3, cells := 0, slots := 0, locals := 69 } (dC, dI) rg_cl [(cI, .int), (cL, .long)] (rm_W h a cI cL cod (nI n) (nI b) cof mad nu co se li le fi sc ti un ma dr fr to en) [.ref h, .int f, .int x] (rg_QI (dC, dI) rg_cl [(cI, .int), (cL, .long)] (S := rm_S) (rm_Po (1, 0, (n, Rr, P1, P2, T, U, b, cof))) (fun u => rm_Wu h a cI cL u)) 0 0 := by
  refine rg_of prog_8_method_14_code 6 (some .int) (by decide) rfl (Nat.le_of_ble_eq_true rfl) ?_
  intro p e R s m args below meth c Q A H locs ls hR hQ hx hb hml hr hts hown hlk hnm hP hK hD hA hS hl
  have hl : lv_has ls 6 [(0, .ref h), (1, .int f), (2, .int x)] := hl
  have hts : ∀ w ∈ rg_tbl, w.before args s = true := fun w h => hts w (List.mem_cons_of_mem _ h)
  have hok := hrep.1
  have hn1 : 1 ≤ n := hok.1
  have hn60 : n ≤ 60 := hok.2.1
  have hb4 : b < 4 := hok.2.2.2.2.2.2.2.1
  have hTb : T b < n := (hok.2.2.2.2.2.2.1 b hb4).1
  have hti : ti b = nI (T b) := (hrep.2.2.2.2.2.2 b hb4).1
  have hma : ma b = nI (U b).length := (hrep.2.2.2.2.2.2 b hb4).2.1
  refine lv_aload_n hx hb dM_remove_0 rfl (lv_at hl 0 rfl) ?_
  refine lv_iload_n hx hb dM_remove_1 rfl (lv_at hl 1 rfl) ?_
  refine lv_bipush (v := nI 6) hx hb dM_remove_2 (by decide) ?_
  refine lv_icmp_eq (tgt := 13) hx hb dM_remove_4 (by decide) (fun h1 => absurd h1 hf0) (fun h1 => ?_)
  refine lv_iload_n hx hb dM_remove_7 rfl (lv_at hl 1 rfl) ?_
  refine lv_bipush (v := nI 7) hx hb dM_remove_8 (by decide) ?_
  refine lv_icmp_ne (tgt := 17) hx hb dM_remove_10 (by decide) (fun h2 => ?_) (fun h2 => absurd h2 hf1)
  refine lv_iconst (v := nI 1) hx hb dM_remove_17 (by decide) ?_
  refine va_put (D := (dC, dI)) (ci := 0) (v := .int (nI 1)) (ty := .int) (C := "RevisionGroveModel") (T := TM) (N := 19) hx hb hts inM tyM tyM_ok nmM hown hK hP hD hS 0 rfl rfl 0 (by decide) (hts _ tw_601) (fun _ h9 => h9) rfl (by decide +kernel) rfl rfl (Nat.le_of_ble_eq_true rfl) dM_remove_18 (fun H locs hP hD hS => ?_)
  have hP : va_P (dC, dI) rg_cl (rm_W h a cI cL (nI 1) (nI n) (nI b) cof mad nu co se li le fi sc ti un ma dr fr to en) H := hP
  have hD : va_D A (rm_W h a cI cL (nI 1) (nI n) (nI b) cof mad nu co se li le fi sc ti un ma dr fr to en) := hD
  refine lv_aload_n hx hb dM_remove_21 rfl (lv_at hl 0 rfl) ?_
  refine va_get (D := (dC, dI)) (ci := 0) (C := "RevisionGroveModel") (T := TM) (N := 19) hx hb hts inM hown hK hP 0 rfl rfl 0 (by decide) (hts _ tw_601) (fun _ h9 => h9) rfl dM_remove_22 ?_
  refine rg_ifN_le (tgt := 30) hx hb dM_remove_25 (by decide) (by decide) (fun h3 => by exfalso; omega) (fun h3 => ?_)
  refine lv_iconst (v := nI 0) hx hb dM_remove_28 (by decide) ?_
  rw [hQ]
  exact rg_iret hx hb hr hlk hK hP hD hS dM_remove_29 (nI 1, nI n, nI b, cof, mad, nu, co, se, li, le, fi, sc, ti, un, ma, dr, fr, to, en) rfl (⟨hrep, rfl, rfl⟩)
set_option maxHeartbeats 4000000 in
set_option maxRecDepth 100000 in
theorem c_rm_remove_badx {l : Launch} {dC : Nat → ClassId} {dI : Nat → Nat → Nat} {h : Nat} {a : Nat → Nat} {cI cL : ClassId} {cod : Int32} {cof : Int32} {mad : Int32} {nu : Nat → Int32} {co : Nat → Int64} {se : Nat → Int32} {li : Nat → Int32} {le : Nat → Int32} {fi : Nat → Int32} {sc : Nat → Int32} {ti : Nat → Int32} {un : Nat → Int32} {ma : Nat → Int32} {dr : Nat → Int32} {fr : Nat → Int32} {to : Nat → Int32} {en : Nat → Int32} (n b : Nat) (Rr : Nat → rg_R) (P1 P2 : Nat → Int32) (T : Nat → Nat) (U : Nat → List Nat) (k : Nat) (hk2 : k < 2) (l9 : List Int32) (hl9 : (Rr (T b)).2.2.2 k = l9) (x : Int32) (hx0 : x < 0 ∨ nI l9.length ≤ x) (hrep : rm_Rep (nI n) (nI b) cof nu co se li le fi sc ti un ma (n, Rr, P1, P2, T, U, b, cof)) : rg_M l yM_remove (Cond.code yM_remove prog_8_method_14_code 6 (some .int) :: rg_tbl) { frames := 3, cells := 0, slots := 0, locals := 69 } (dC, dI) rg_cl [(cI, .int), (cL, .long)] (rm_W h a cI cL cod (nI n) (nI b) cof mad nu co se li le fi sc ti un ma dr fr to en) [.ref h, .int (nI (k + 6)), .int x] (rg_QI (dC, dI) rg_cl [(cI, .int), (cL, .long)] (S := rm_S) (rm_Po (2, 0, (n, Rr, P1, P2, T, U, b, cof))) (fun u => rm_Wu h a cI cL u)) 0 0 := by
  refine rg_of prog_8_method_14_code 6 (some .int) (by decide) rfl (Nat.le_of_ble_eq_true rfl) ?_
  intro p e R s m args below meth c Q A H locs ls hR hQ hx hb hml hr hts hown hlk hnm hP hK hD hA hS hl
  have hl : lv_has ls 6 [(0, .ref h), (1, .int (nI (k + 6))), (2, .int x)] := hl
  have hts : ∀ w ∈ rg_tbl, w.before args s = true := fun w h => hts w (List.mem_cons_of_mem _ h)
  have hok := hrep.1
  have hn1 : 1 ≤ n := hok.1
  have hn60 : n ≤ 60 := hok.2.1
  have hb4 : b < 4 := hok.2.2.2.2.2.2.2.1
  have hTb : T b < n := (hok.2.2.2.2.2.2.1 b hb4).1
  have hti : ti b = nI (T b) := (hrep.2.2.2.2.2.2 b hb4).1
  have hma : ma b = nI (U b).length := (hrep.2.2.2.2.2.2 b hb4).2.1
  refine lv_aload_n hx hb dM_remove_0 rfl (lv_at hl 0 rfl) ?_
  refine lv_iload_n hx hb dM_remove_1 rfl (lv_at hl 1 rfl) ?_
  refine lv_bipush (v := nI 6) hx hb dM_remove_2 (by decide) ?_
  have J4 : ∀ v9 : Nat, v9 = 0 → W p l e R s m args below meth c H locs 0 0 Q (F0 m 18 ls [.int (nI v9), .ref h]) := by
    intro v9 hv9
    subst hv9
    refine va_put (D := (dC, dI)) (ci := 0) (v := .int (nI 0)) (ty := .int) (C := "RevisionGroveModel") (T := TM) (N := 19) hx hb hts inM tyM tyM_ok nmM hown hK hP hD hS 0 rfl rfl 0 (by decide) (hts _ tw_601) (fun _ h9 => h9) rfl (by decide +kernel) rfl rfl (Nat.le_of_ble_eq_true rfl) dM_remove_18 (fun H locs hP hD hS => ?_)
    have hP : va_P (dC, dI) rg_cl (rm_W h a cI cL (nI 0) (nI n) (nI b) cof mad nu co se li le fi sc ti un ma dr fr to en) H := hP
    have hD : va_D A (rm_W h a cI cL (nI 0) (nI n) (nI b) cof mad nu co se li le fi sc ti un ma dr fr to en) := hD
    refine lv_aload_n hx hb dM_remove_21 rfl (lv_at hl 0 rfl) ?_
    refine va_get (D := (dC, dI)) (ci := 0) (C := "RevisionGroveModel") (T := TM) (N := 19) hx hb hts inM hown hK hP 0 rfl rfl 0 (by decide) (hts _ tw_601) (fun _ h9 => h9) rfl dM_remove_22 ?_
    refine rg_ifN_le (tgt := 30) hx hb dM_remove_25 (by decide) (by decide) (fun h1 => ?_) (fun h1 => by exfalso; omega)
    refine lv_aload_n hx hb dM_remove_30 rfl (lv_at hl 0 rfl) ?_
    refine lv_aload_n hx hb dM_remove_31 rfl (lv_at hl 0 rfl) ?_
    refine rg_calli hD hS hA (va_runV (As := []) (rest := [.ref h]) ⟨hx, hb, hml, hown, hts⟩ (c_rm_here b (by omega) _) (cwV 0 hts (rg_gV tw_667 tw_669 ts_M_here tw_5 tw_670) rfl rfl rfl (by decide +kernel) ⟨by rw [hR]; exact Nat.le_of_ble_eq_true rfl, by rw [hR]; exact Nat.le_of_ble_eq_true rfl⟩) (rg_preV rfl hK hP hD (ci := 0) (q0 := 0) rfl rfl) rfl rfl hl.1 rfl (lv_room (Nat.le_of_ble_eq_true rfl)) dM_remove_32 ⟨Nat.zero_le _, Nat.zero_le _⟩) (fun r2 u3 H locs hw4 hP hD hS => ?_)
    subst hw4
    have hP : va_P (dC, dI) rg_cl (rm_W h a cI cL (nI 0) (nI n) (nI b) cof mad nu co se li le fi sc ti un ma dr fr to en) H := hP
    have hD : va_D A (rm_W h a cI cL (nI 0) (nI n) (nI b) cof mad nu co se li le fi sc ti un ma dr fr to en) := hD
    refine rg_top (show (.int (ti b) : Value) = .int (nI (T b)) by rw [hti]) ?_
    refine lv_aload_n hx hb dM_remove_35 rfl (lv_at hl 0 rfl) ?_
    refine va_get (D := (dC, dI)) (ci := 0) (C := "RevisionGroveModel") (T := TM) (N := 19) hx hb hts inM hown hK hP 0 rfl rfl 1 (by decide) (hts _ tw_602) (fun _ h9 => h9) rfl dM_remove_36 ?_
    refine rg_callv hD hS hA (va_runV (As := [.int (nI (T b)), .int (nI n)]) (rest := []) ⟨hx, hb, hml, hown, hts⟩ (c_rm_copy (T b) n (by omega) (by omega) _) (cwV 2 hts (rg_gV tw_671 tw_673 ts_M_copy tw_5 tw_674) rfl rfl rfl (by decide +kernel) ⟨by rw [hR]; exact Nat.le_of_ble_eq_true rfl, by rw [hR]; exact Nat.le_of_ble_eq_true rfl⟩) (rg_preV rfl hK hP hD (ci := 0) (q0 := 0) rfl rfl) rfl rfl hl.1 rfl (lv_room (Nat.le_of_ble_eq_true rfl)) dM_remove_39 ⟨Nat.zero_le _, Nat.zero_le _⟩) (fun u6 H locs hw7 hP hD hS => ?_)
    have hP : va_P (dC, dI) rg_cl (rm_W h a cI cL (nI 0) (nI n) (nI b) cof mad (va_cpy nu nu (2 * (T b)) (2 * n) 2) (va_cpy co co (2 * (T b)) (2 * n) 2) (va_cpy se se (2 * (T b)) (2 * n) 2) (va_cpy li li (16 * (T b)) (16 * n) 16) (va_cpy le le (2 * (T b)) (2 * n) 2) (upd fi n (fi (T b))) (upd sc n (sc (T b))) ti un ma dr fr to en) H := hP
    have hD : va_D A (rm_W h a cI cL (nI 0) (nI n) (nI b) cof mad (va_cpy nu nu (2 * (T b)) (2 * n) 2) (va_cpy co co (2 * (T b)) (2 * n) 2) (va_cpy se se (2 * (T b)) (2 * n) 2) (va_cpy li li (16 * (T b)) (16 * n) 16) (va_cpy le le (2 * (T b)) (2 * n) 2) (upd fi n (fi (T b))) (upd sc n (sc (T b))) ti un ma dr fr to en) := hD
    have hX0 : rg_MR (va_cpy nu nu (2 * (T b)) (2 * n) 2) (va_cpy co co (2 * (T b)) (2 * n) 2) (va_cpy se se (2 * (T b)) (2 * n) 2) (va_cpy le le (2 * (T b)) (2 * n) 2) (va_cpy li li (16 * (T b)) (16 * n) 16) n (Rr (T b)) := rg_MR_copy (hrep.2.2.2.2.1 (T b) hTb)
    have q5 := (hX0 k (by omega)).2.2.2.2.1
    have q4 := (hX0 k (by omega)).2.2.2.1
    have q6 := (hX0 k (by omega)).2.2.2.2.2
    rw [hl9] at q4 q5 q6
    refine lv_aload_n hx hb dM_remove_42 rfl (lv_at hl 0 rfl) ?_
    refine va_get (D := (dC, dI)) (ci := 0) (C := "RevisionGroveModel") (T := TM) (N := 19) hx hb hts inM hown hK hP 0 rfl rfl 6 (by decide) (hts _ tw_607) (fun _ h9 => h9) rfl dM_remove_43 ?_
    refine lv_iconst (v := nI 2) hx hb dM_remove_46 (by decide) ?_
    refine lv_aload_n hx hb dM_remove_47 rfl (lv_at hl 0 rfl) ?_
    refine va_get (D := (dC, dI)) (ci := 0) (C := "RevisionGroveModel") (T := TM) (N := 19) hx hb hts inM hown hK hP 0 rfl rfl 1 (by decide) (hts _ tw_602) (fun _ h9 => h9) rfl dM_remove_48 ?_
    refine rg_imul hx hb dM_remove_51 ?_
    refine lv_iload_n hx hb dM_remove_52 rfl (lv_at hl 1 rfl) ?_
    refine rg_iadd hx hb dM_remove_53 ?_
    refine lv_bipush (v := nI 6) hx hb dM_remove_54 (by decide) ?_
    refine rg_isub hx hb dM_remove_56 (by omega) ?_
    refine rg_top (show (.int (nI (2 * n + (k + 6) - 6)) : Value) = .int (nI (2 * n + k)) by rw [show 2 * n + (k + 6) - 6 = 2 * n + k by omega]) ?_
    refine rg_iald hx hb hK hP 5 0 rfl rfl (by decide) (by omega) dM_remove_57 ?_
    refine rg_top (show (.int ((va_cpy le le (2 * (T b)) (2 * n) 2) (2 * n + k)) : Value) = .int (nI l9.length) by rw [q5]) ?_
    refine lv_istore_n (lv' := [(3, .int (nI l9.length)), (0, .ref h), (1, .int (nI (k + 6))), (2, .int x)]) hx hb dM_remove_58 rfl hl (by decide) rfl (fun ls hl => ?_)
    refine lv_aload_n hx hb dM_remove_59 rfl (lv_at hl 1 rfl) ?_
    refine lv_iload_n hx hb dM_remove_60 rfl (lv_at hl 3 rfl) ?_
    refine lv_if_lt (tgt := 69) hx hb dM_remove_61 (by decide) (fun h8 => ?_) (fun h8 => ?_)
    · refine lv_iconst (v := nI 2) hx hb dM_remove_69 (by decide) ?_
      refine lv_goto (tgt := 87) hx hb dM_remove_70 (by decide) ?_
      refine va_put (D := (dC, dI)) (ci := 0) (v := .int (nI 2)) (ty := .int) (C := "RevisionGroveModel") (T := TM) (N := 19) hx hb hts inM tyM tyM_ok nmM hown hK hP hD hS 0 rfl rfl 0 (by decide) (hts _ tw_601) (fun _ h9 => h9) rfl (by decide +kernel) rfl rfl (Nat.le_of_ble_eq_true rfl) dM_remove_87 (fun H locs hP hD hS => ?_)
      have hP : va_P (dC, dI) rg_cl (rm_W h a cI cL (nI 2) (nI n) (nI b) cof mad (va_cpy nu nu (2 * (T b)) (2 * n) 2) (va_cpy co co (2 * (T b)) (2 * n) 2) (va_cpy se se (2 * (T b)) (2 * n) 2) (va_cpy li li (16 * (T b)) (16 * n) 16) (va_cpy le le (2 * (T b)) (2 * n) 2) (upd fi n (fi (T b))) (upd sc n (sc (T b))) ti un ma dr fr to en) H := hP
      have hD : va_D A (rm_W h a cI cL (nI 2) (nI n) (nI b) cof mad (va_cpy nu nu (2 * (T b)) (2 * n) 2) (va_cpy co co (2 * (T b)) (2 * n) 2) (va_cpy se se (2 * (T b)) (2 * n) 2) (va_cpy li li (16 * (T b)) (16 * n) 16) (va_cpy le le (2 * (T b)) (2 * n) 2) (upd fi n (fi (T b))) (upd sc n (sc (T b))) ti un ma dr fr to en) := hD
      refine lv_aload_n hx hb dM_remove_90 rfl (lv_at hl 1 rfl) ?_
      refine va_get (D := (dC, dI)) (ci := 0) (C := "RevisionGroveModel") (T := TM) (N := 19) hx hb hts inM hown hK hP 0 rfl rfl 0 (by decide) (hts _ tw_601) (fun _ h9 => h9) rfl dM_remove_91 ?_
      refine rg_ifN_le (tgt := 99) hx hb dM_remove_94 (by decide) (by decide) (fun h9 => by exfalso; omega) (fun h9 => ?_)
      refine lv_iconst (v := nI 0) hx hb dM_remove_97 (by decide) ?_
      rw [hQ]
      exact rg_iret hx hb hr hlk hK hP hD hS dM_remove_98 (nI 2, nI n, nI b, cof, mad, va_cpy nu nu (2 * (T b)) (2 * n) 2, va_cpy co co (2 * (T b)) (2 * n) 2, va_cpy se se (2 * (T b)) (2 * n) 2, va_cpy li li (16 * (T b)) (16 * n) 16, va_cpy le le (2 * (T b)) (2 * n) 2, upd fi n (fi (T b)), upd sc n (sc (T b)), ti, un, ma, dr, fr, to, en) rfl (⟨rm_Rep_junk hrep (fun j hj => by have hj : j < 2 * n := hj; rw [pk_cpy_out (by omega)]) (fun j hj => by have hj : j < 2 * n := hj; rw [pk_cpy_out (by omega)]) (fun j hj => by have hj : j < 2 * n := hj; rw [pk_cpy_out (by omega)]) (fun j hj => by have hj : j < 2 * n := hj; rw [pk_cpy_out (by omega)]) (fun j hj => by have hj : j < 16 * n := hj; rw [pk_cpy_out (by omega)]) (fun j hj => by have hj : j < n := hj; rw [pk_un (by omega)]) (fun j hj => by have hj : j < n := hj; rw [pk_un (by omega)]), rfl, rfl⟩)
    · refine lv_iload_n hx hb dM_remove_64 rfl (lv_at hl 3 rfl) ?_
      refine lv_iload_n hx hb dM_remove_65 rfl (lv_at hl 0 rfl) ?_
      refine lv_icmp_lt (tgt := 73) hx hb dM_remove_66 (by decide) (fun h10 => absurd hx0 (fun q => q.elim h8 (fun q => Int32.not_lt.mpr q h10))) (fun h10 => ?_)
      refine lv_iconst (v := nI 2) hx hb dM_remove_69 (by decide) ?_
      refine lv_goto (tgt := 87) hx hb dM_remove_70 (by decide) ?_
      refine va_put (D := (dC, dI)) (ci := 0) (v := .int (nI 2)) (ty := .int) (C := "RevisionGroveModel") (T := TM) (N := 19) hx hb hts inM tyM tyM_ok nmM hown hK hP hD hS 0 rfl rfl 0 (by decide) (hts _ tw_601) (fun _ h9 => h9) rfl (by decide +kernel) rfl rfl (Nat.le_of_ble_eq_true rfl) dM_remove_87 (fun H locs hP hD hS => ?_)
      have hP : va_P (dC, dI) rg_cl (rm_W h a cI cL (nI 2) (nI n) (nI b) cof mad (va_cpy nu nu (2 * (T b)) (2 * n) 2) (va_cpy co co (2 * (T b)) (2 * n) 2) (va_cpy se se (2 * (T b)) (2 * n) 2) (va_cpy li li (16 * (T b)) (16 * n) 16) (va_cpy le le (2 * (T b)) (2 * n) 2) (upd fi n (fi (T b))) (upd sc n (sc (T b))) ti un ma dr fr to en) H := hP
      have hD : va_D A (rm_W h a cI cL (nI 2) (nI n) (nI b) cof mad (va_cpy nu nu (2 * (T b)) (2 * n) 2) (va_cpy co co (2 * (T b)) (2 * n) 2) (va_cpy se se (2 * (T b)) (2 * n) 2) (va_cpy li li (16 * (T b)) (16 * n) 16) (va_cpy le le (2 * (T b)) (2 * n) 2) (upd fi n (fi (T b))) (upd sc n (sc (T b))) ti un ma dr fr to en) := hD
      refine lv_aload_n hx hb dM_remove_90 rfl (lv_at hl 1 rfl) ?_
      refine va_get (D := (dC, dI)) (ci := 0) (C := "RevisionGroveModel") (T := TM) (N := 19) hx hb hts inM hown hK hP 0 rfl rfl 0 (by decide) (hts _ tw_601) (fun _ h9 => h9) rfl dM_remove_91 ?_
      refine rg_ifN_le (tgt := 99) hx hb dM_remove_94 (by decide) (by decide) (fun h11 => by exfalso; omega) (fun h11 => ?_)
      refine lv_iconst (v := nI 0) hx hb dM_remove_97 (by decide) ?_
      rw [hQ]
      exact rg_iret hx hb hr hlk hK hP hD hS dM_remove_98 (nI 2, nI n, nI b, cof, mad, va_cpy nu nu (2 * (T b)) (2 * n) 2, va_cpy co co (2 * (T b)) (2 * n) 2, va_cpy se se (2 * (T b)) (2 * n) 2, va_cpy li li (16 * (T b)) (16 * n) 16, va_cpy le le (2 * (T b)) (2 * n) 2, upd fi n (fi (T b)), upd sc n (sc (T b)), ti, un, ma, dr, fr, to, en) rfl (⟨rm_Rep_junk hrep (fun j hj => by have hj : j < 2 * n := hj; rw [pk_cpy_out (by omega)]) (fun j hj => by have hj : j < 2 * n := hj; rw [pk_cpy_out (by omega)]) (fun j hj => by have hj : j < 2 * n := hj; rw [pk_cpy_out (by omega)]) (fun j hj => by have hj : j < 2 * n := hj; rw [pk_cpy_out (by omega)]) (fun j hj => by have hj : j < 16 * n := hj; rw [pk_cpy_out (by omega)]) (fun j hj => by have hj : j < n := hj; rw [pk_un (by omega)]) (fun j hj => by have hj : j < n := hj; rw [pk_un (by omega)]), rfl, rfl⟩)
  refine rg_icmp_eq (tgt := 13) hx hb dM_remove_4 (by decide) (by omega) (by omega) (fun h12 => ?_) (fun h12 => ?_)
  · refine lv_iconst (v := nI 0) hx hb dM_remove_13 (by decide) ?_
    refine lv_goto (tgt := 18) hx hb dM_remove_14 (by decide) ?_
    exact J4 0 rfl
  · refine lv_iload_n hx hb dM_remove_7 rfl (lv_at hl 1 rfl) ?_
    refine lv_bipush (v := nI 7) hx hb dM_remove_8 (by decide) ?_
    refine rg_icmp_ne (tgt := 17) hx hb dM_remove_10 (by decide) (by omega) (by omega) (fun h13 => by exfalso; omega) (fun h13 => ?_)
    refine lv_iconst (v := nI 0) hx hb dM_remove_13 (by decide) ?_
    refine lv_goto (tgt := 18) hx hb dM_remove_14 (by decide) ?_
    exact J4 0 rfl
set_option maxHeartbeats 4000000 in
set_option maxRecDepth 100000 in
theorem c_rm_remove_full {l : Launch} {dC : Nat → ClassId} {dI : Nat → Nat → Nat} {h : Nat} {a : Nat → Nat} {cI cL : ClassId} {cod : Int32} {cof : Int32} {mad : Int32} {nu : Nat → Int32} {co : Nat → Int64} {se : Nat → Int32} {li : Nat → Int32} {le : Nat → Int32} {fi : Nat → Int32} {sc : Nat → Int32} {ti : Nat → Int32} {un : Nat → Int32} {ma : Nat → Int32} {dr : Nat → Int32} {fr : Nat → Int32} {to : Nat → Int32} {en : Nat → Int32} (n b : Nat) (Rr : Nat → rg_R) (P1 P2 : Nat → Int32) (T : Nat → Nat) (U : Nat → List Nat) (k : Nat) (hk2 : k < 2) (l9 : List Int32) (hl9 : (Rr (T b)).2.2.2 k = l9) (x : Nat) (hxl : x < l9.length) (hfull : n = 60) (hrep : rm_Rep (nI n) (nI b) cof nu co se li le fi sc ti un ma (n, Rr, P1, P2, T, U, b, cof)) : rg_M l yM_remove (Cond.code yM_remove prog_8_method_14_code 6 (some .int) :: rg_tbl) { frames := 3, cells := 0, slots := 0, locals := 69 } (dC, dI) rg_cl [(cI, .int), (cL, .long)] (rm_W h a cI cL cod (nI n) (nI b) cof mad nu co se li le fi sc ti un ma dr fr to en) [.ref h, .int (nI (k + 6)), .int (nI x)] (rg_QI (dC, dI) rg_cl [(cI, .int), (cL, .long)] (S := rm_S) (rm_Po (3, 0, (n, Rr, P1, P2, T, U, b, cof))) (fun u => rm_Wu h a cI cL u)) 0 0 := by
  refine rg_of prog_8_method_14_code 6 (some .int) (by decide) rfl (Nat.le_of_ble_eq_true rfl) ?_
  intro p e R s m args below meth c Q A H locs ls hR hQ hx hb hml hr hts hown hlk hnm hP hK hD hA hS hl
  have hl : lv_has ls 6 [(0, .ref h), (1, .int (nI (k + 6))), (2, .int (nI x))] := hl
  have hts : ∀ w ∈ rg_tbl, w.before args s = true := fun w h => hts w (List.mem_cons_of_mem _ h)
  have hok := hrep.1
  have hn1 : 1 ≤ n := hok.1
  have hn60 : n ≤ 60 := hok.2.1
  have hb4 : b < 4 := hok.2.2.2.2.2.2.2.1
  have hTb : T b < n := (hok.2.2.2.2.2.2.1 b hb4).1
  have hti : ti b = nI (T b) := (hrep.2.2.2.2.2.2 b hb4).1
  have hma : ma b = nI (U b).length := (hrep.2.2.2.2.2.2 b hb4).2.1
  refine lv_aload_n hx hb dM_remove_0 rfl (lv_at hl 0 rfl) ?_
  refine lv_iload_n hx hb dM_remove_1 rfl (lv_at hl 1 rfl) ?_
  refine lv_bipush (v := nI 6) hx hb dM_remove_2 (by decide) ?_
  have J4 : ∀ v9 : Nat, v9 = 0 → W p l e R s m args below meth c H locs 0 0 Q (F0 m 18 ls [.int (nI v9), .ref h]) := by
    intro v9 hv9
    subst hv9
    refine va_put (D := (dC, dI)) (ci := 0) (v := .int (nI 0)) (ty := .int) (C := "RevisionGroveModel") (T := TM) (N := 19) hx hb hts inM tyM tyM_ok nmM hown hK hP hD hS 0 rfl rfl 0 (by decide) (hts _ tw_601) (fun _ h9 => h9) rfl (by decide +kernel) rfl rfl (Nat.le_of_ble_eq_true rfl) dM_remove_18 (fun H locs hP hD hS => ?_)
    have hP : va_P (dC, dI) rg_cl (rm_W h a cI cL (nI 0) (nI n) (nI b) cof mad nu co se li le fi sc ti un ma dr fr to en) H := hP
    have hD : va_D A (rm_W h a cI cL (nI 0) (nI n) (nI b) cof mad nu co se li le fi sc ti un ma dr fr to en) := hD
    refine lv_aload_n hx hb dM_remove_21 rfl (lv_at hl 0 rfl) ?_
    refine va_get (D := (dC, dI)) (ci := 0) (C := "RevisionGroveModel") (T := TM) (N := 19) hx hb hts inM hown hK hP 0 rfl rfl 0 (by decide) (hts _ tw_601) (fun _ h9 => h9) rfl dM_remove_22 ?_
    refine rg_ifN_le (tgt := 30) hx hb dM_remove_25 (by decide) (by decide) (fun h1 => ?_) (fun h1 => by exfalso; omega)
    refine lv_aload_n hx hb dM_remove_30 rfl (lv_at hl 0 rfl) ?_
    refine lv_aload_n hx hb dM_remove_31 rfl (lv_at hl 0 rfl) ?_
    refine rg_calli hD hS hA (va_runV (As := []) (rest := [.ref h]) ⟨hx, hb, hml, hown, hts⟩ (c_rm_here b (by omega) _) (cwV 0 hts (rg_gV tw_667 tw_669 ts_M_here tw_5 tw_670) rfl rfl rfl (by decide +kernel) ⟨by rw [hR]; exact Nat.le_of_ble_eq_true rfl, by rw [hR]; exact Nat.le_of_ble_eq_true rfl⟩) (rg_preV rfl hK hP hD (ci := 0) (q0 := 0) rfl rfl) rfl rfl hl.1 rfl (lv_room (Nat.le_of_ble_eq_true rfl)) dM_remove_32 ⟨Nat.zero_le _, Nat.zero_le _⟩) (fun r2 u3 H locs hw4 hP hD hS => ?_)
    subst hw4
    have hP : va_P (dC, dI) rg_cl (rm_W h a cI cL (nI 0) (nI n) (nI b) cof mad nu co se li le fi sc ti un ma dr fr to en) H := hP
    have hD : va_D A (rm_W h a cI cL (nI 0) (nI n) (nI b) cof mad nu co se li le fi sc ti un ma dr fr to en) := hD
    refine rg_top (show (.int (ti b) : Value) = .int (nI (T b)) by rw [hti]) ?_
    refine lv_aload_n hx hb dM_remove_35 rfl (lv_at hl 0 rfl) ?_
    refine va_get (D := (dC, dI)) (ci := 0) (C := "RevisionGroveModel") (T := TM) (N := 19) hx hb hts inM hown hK hP 0 rfl rfl 1 (by decide) (hts _ tw_602) (fun _ h9 => h9) rfl dM_remove_36 ?_
    refine rg_callv hD hS hA (va_runV (As := [.int (nI (T b)), .int (nI n)]) (rest := []) ⟨hx, hb, hml, hown, hts⟩ (c_rm_copy (T b) n (by omega) (by omega) _) (cwV 2 hts (rg_gV tw_671 tw_673 ts_M_copy tw_5 tw_674) rfl rfl rfl (by decide +kernel) ⟨by rw [hR]; exact Nat.le_of_ble_eq_true rfl, by rw [hR]; exact Nat.le_of_ble_eq_true rfl⟩) (rg_preV rfl hK hP hD (ci := 0) (q0 := 0) rfl rfl) rfl rfl hl.1 rfl (lv_room (Nat.le_of_ble_eq_true rfl)) dM_remove_39 ⟨Nat.zero_le _, Nat.zero_le _⟩) (fun u6 H locs hw7 hP hD hS => ?_)
    have hP : va_P (dC, dI) rg_cl (rm_W h a cI cL (nI 0) (nI n) (nI b) cof mad (va_cpy nu nu (2 * (T b)) (2 * n) 2) (va_cpy co co (2 * (T b)) (2 * n) 2) (va_cpy se se (2 * (T b)) (2 * n) 2) (va_cpy li li (16 * (T b)) (16 * n) 16) (va_cpy le le (2 * (T b)) (2 * n) 2) (upd fi n (fi (T b))) (upd sc n (sc (T b))) ti un ma dr fr to en) H := hP
    have hD : va_D A (rm_W h a cI cL (nI 0) (nI n) (nI b) cof mad (va_cpy nu nu (2 * (T b)) (2 * n) 2) (va_cpy co co (2 * (T b)) (2 * n) 2) (va_cpy se se (2 * (T b)) (2 * n) 2) (va_cpy li li (16 * (T b)) (16 * n) 16) (va_cpy le le (2 * (T b)) (2 * n) 2) (upd fi n (fi (T b))) (upd sc n (sc (T b))) ti un ma dr fr to en) := hD
    have hX0 : rg_MR (va_cpy nu nu (2 * (T b)) (2 * n) 2) (va_cpy co co (2 * (T b)) (2 * n) 2) (va_cpy se se (2 * (T b)) (2 * n) 2) (va_cpy le le (2 * (T b)) (2 * n) 2) (va_cpy li li (16 * (T b)) (16 * n) 16) n (Rr (T b)) := rg_MR_copy (hrep.2.2.2.2.1 (T b) hTb)
    have q5 := (hX0 k (by omega)).2.2.2.2.1
    have q4 := (hX0 k (by omega)).2.2.2.1
    have q6 := (hX0 k (by omega)).2.2.2.2.2
    rw [hl9] at q4 q5 q6
    refine lv_aload_n hx hb dM_remove_42 rfl (lv_at hl 0 rfl) ?_
    refine va_get (D := (dC, dI)) (ci := 0) (C := "RevisionGroveModel") (T := TM) (N := 19) hx hb hts inM hown hK hP 0 rfl rfl 6 (by decide) (hts _ tw_607) (fun _ h9 => h9) rfl dM_remove_43 ?_
    refine lv_iconst (v := nI 2) hx hb dM_remove_46 (by decide) ?_
    refine lv_aload_n hx hb dM_remove_47 rfl (lv_at hl 0 rfl) ?_
    refine va_get (D := (dC, dI)) (ci := 0) (C := "RevisionGroveModel") (T := TM) (N := 19) hx hb hts inM hown hK hP 0 rfl rfl 1 (by decide) (hts _ tw_602) (fun _ h9 => h9) rfl dM_remove_48 ?_
    refine rg_imul hx hb dM_remove_51 ?_
    refine lv_iload_n hx hb dM_remove_52 rfl (lv_at hl 1 rfl) ?_
    refine rg_iadd hx hb dM_remove_53 ?_
    refine lv_bipush (v := nI 6) hx hb dM_remove_54 (by decide) ?_
    refine rg_isub hx hb dM_remove_56 (by omega) ?_
    refine rg_top (show (.int (nI (2 * n + (k + 6) - 6)) : Value) = .int (nI (2 * n + k)) by rw [show 2 * n + (k + 6) - 6 = 2 * n + k by omega]) ?_
    refine rg_iald hx hb hK hP 5 0 rfl rfl (by decide) (by omega) dM_remove_57 ?_
    refine rg_top (show (.int ((va_cpy le le (2 * (T b)) (2 * n) 2) (2 * n + k)) : Value) = .int (nI l9.length) by rw [q5]) ?_
    refine lv_istore_n (lv' := [(3, .int (nI l9.length)), (0, .ref h), (1, .int (nI (k + 6))), (2, .int (nI x))]) hx hb dM_remove_58 rfl hl (by decide) rfl (fun ls hl => ?_)
    refine lv_aload_n hx hb dM_remove_59 rfl (lv_at hl 1 rfl) ?_
    refine lv_iload_n hx hb dM_remove_60 rfl (lv_at hl 3 rfl) ?_
    refine rg_ifN_lt (tgt := 69) hx hb dM_remove_61 (by decide) (by omega) (fun h8 => h8.elim) (fun h8 => ?_)
    refine lv_iload_n hx hb dM_remove_64 rfl (lv_at hl 3 rfl) ?_
    refine lv_iload_n hx hb dM_remove_65 rfl (lv_at hl 0 rfl) ?_
    refine rg_icmp_lt (tgt := 73) hx hb dM_remove_66 (by decide) (by omega) (by omega) (fun h9 => ?_) (fun h9 => by exfalso; omega)
    refine lv_aload_n hx hb dM_remove_73 rfl (lv_at hl 1 rfl) ?_
    refine va_get (D := (dC, dI)) (ci := 0) (C := "RevisionGroveModel") (T := TM) (N := 19) hx hb hts inM hown hK hP 0 rfl rfl 1 (by decide) (hts _ tw_602) (fun _ h9 => h9) rfl dM_remove_74 ?_
    refine lv_bipush (v := nI 60) hx hb dM_remove_77 (by decide) ?_
    refine rg_icmp_ne (tgt := 86) hx hb dM_remove_79 (by decide) (by omega) (by omega) (fun h10 => by exfalso; omega) (fun h10 => ?_)
    refine lv_iconst (v := nI 3) hx hb dM_remove_82 (by decide) ?_
    refine lv_goto (tgt := 87) hx hb dM_remove_83 (by decide) ?_
    refine va_put (D := (dC, dI)) (ci := 0) (v := .int (nI 3)) (ty := .int) (C := "RevisionGroveModel") (T := TM) (N := 19) hx hb hts inM tyM tyM_ok nmM hown hK hP hD hS 0 rfl rfl 0 (by decide) (hts _ tw_601) (fun _ h9 => h9) rfl (by decide +kernel) rfl rfl (Nat.le_of_ble_eq_true rfl) dM_remove_87 (fun H locs hP hD hS => ?_)
    have hP : va_P (dC, dI) rg_cl (rm_W h a cI cL (nI 3) (nI n) (nI b) cof mad (va_cpy nu nu (2 * (T b)) (2 * n) 2) (va_cpy co co (2 * (T b)) (2 * n) 2) (va_cpy se se (2 * (T b)) (2 * n) 2) (va_cpy li li (16 * (T b)) (16 * n) 16) (va_cpy le le (2 * (T b)) (2 * n) 2) (upd fi n (fi (T b))) (upd sc n (sc (T b))) ti un ma dr fr to en) H := hP
    have hD : va_D A (rm_W h a cI cL (nI 3) (nI n) (nI b) cof mad (va_cpy nu nu (2 * (T b)) (2 * n) 2) (va_cpy co co (2 * (T b)) (2 * n) 2) (va_cpy se se (2 * (T b)) (2 * n) 2) (va_cpy li li (16 * (T b)) (16 * n) 16) (va_cpy le le (2 * (T b)) (2 * n) 2) (upd fi n (fi (T b))) (upd sc n (sc (T b))) ti un ma dr fr to en) := hD
    refine lv_aload_n hx hb dM_remove_90 rfl (lv_at hl 1 rfl) ?_
    refine va_get (D := (dC, dI)) (ci := 0) (C := "RevisionGroveModel") (T := TM) (N := 19) hx hb hts inM hown hK hP 0 rfl rfl 0 (by decide) (hts _ tw_601) (fun _ h9 => h9) rfl dM_remove_91 ?_
    refine rg_ifN_le (tgt := 99) hx hb dM_remove_94 (by decide) (by decide) (fun h11 => by exfalso; omega) (fun h11 => ?_)
    refine lv_iconst (v := nI 0) hx hb dM_remove_97 (by decide) ?_
    rw [hQ]
    exact rg_iret hx hb hr hlk hK hP hD hS dM_remove_98 (nI 3, nI n, nI b, cof, mad, va_cpy nu nu (2 * (T b)) (2 * n) 2, va_cpy co co (2 * (T b)) (2 * n) 2, va_cpy se se (2 * (T b)) (2 * n) 2, va_cpy li li (16 * (T b)) (16 * n) 16, va_cpy le le (2 * (T b)) (2 * n) 2, upd fi n (fi (T b)), upd sc n (sc (T b)), ti, un, ma, dr, fr, to, en) rfl (⟨rm_Rep_junk hrep (fun j hj => by have hj : j < 2 * n := hj; rw [pk_cpy_out (by omega)]) (fun j hj => by have hj : j < 2 * n := hj; rw [pk_cpy_out (by omega)]) (fun j hj => by have hj : j < 2 * n := hj; rw [pk_cpy_out (by omega)]) (fun j hj => by have hj : j < 2 * n := hj; rw [pk_cpy_out (by omega)]) (fun j hj => by have hj : j < 16 * n := hj; rw [pk_cpy_out (by omega)]) (fun j hj => by have hj : j < n := hj; rw [pk_un (by omega)]) (fun j hj => by have hj : j < n := hj; rw [pk_un (by omega)]), rfl, rfl⟩)
  refine rg_icmp_eq (tgt := 13) hx hb dM_remove_4 (by decide) (by omega) (by omega) (fun h12 => ?_) (fun h12 => ?_)
  · refine lv_iconst (v := nI 0) hx hb dM_remove_13 (by decide) ?_
    refine lv_goto (tgt := 18) hx hb dM_remove_14 (by decide) ?_
    exact J4 0 rfl
  · refine lv_iload_n hx hb dM_remove_7 rfl (lv_at hl 1 rfl) ?_
    refine lv_bipush (v := nI 7) hx hb dM_remove_8 (by decide) ?_
    refine rg_icmp_ne (tgt := 17) hx hb dM_remove_10 (by decide) (by omega) (by omega) (fun h13 => by exfalso; omega) (fun h13 => ?_)
    refine lv_iconst (v := nI 0) hx hb dM_remove_13 (by decide) ?_
    refine lv_goto (tgt := 18) hx hb dM_remove_14 (by decide) ?_
    exact J4 0 rfl
set_option maxHeartbeats 4000000 in
set_option maxRecDepth 100000 in
theorem c_rm_remove_ok {l : Launch} {dC : Nat → ClassId} {dI : Nat → Nat → Nat} {h : Nat} {a : Nat → Nat} {cI cL : ClassId} {cod : Int32} {cof : Int32} {mad : Int32} {nu : Nat → Int32} {co : Nat → Int64} {se : Nat → Int32} {li : Nat → Int32} {le : Nat → Int32} {fi : Nat → Int32} {sc : Nat → Int32} {ti : Nat → Int32} {un : Nat → Int32} {ma : Nat → Int32} {dr : Nat → Int32} {fr : Nat → Int32} {to : Nat → Int32} {en : Nat → Int32} (n b : Nat) (Rr : Nat → rg_R) (P1 P2 : Nat → Int32) (T : Nat → Nat) (U : Nat → List Nat) (k : Nat) (hk2 : k < 2) (l9 : List Int32) (hl9 : (Rr (T b)).2.2.2 k = l9) (x : Nat) (hxl : x < l9.length) (hn6 : ¬ n = 60) (hrep : rm_Rep (nI n) (nI b) cof nu co se li le fi sc ti un ma (n, Rr, P1, P2, T, U, b, cof)) : rg_M l yM_remove (Cond.code yM_remove prog_8_method_14_code 6 (some .int) :: rg_tbl) { frames := 3, cells := 0, slots := 0, locals := 69 } (dC, dI) rg_cl [(cI, .int), (cL, .long)] (rm_W h a cI cL cod (nI n) (nI b) cof mad nu co se li le fi sc ti un ma dr fr to en) [.ref h, .int (nI (k + 6)), .int (nI x)] (rg_QI (dC, dI) rg_cl [(cI, .int), (cL, .long)] (S := rm_S) (rm_Po (rg_chg 2 (n, Rr, P1, P2, T, U, b, cof) (rg_setL (Rr (T b)) k (rg_remL l9 x)))) (fun u => rm_Wu h a cI cL u)) 0 0 := by
  refine rg_of prog_8_method_14_code 6 (some .int) (by decide) rfl (Nat.le_of_ble_eq_true rfl) ?_
  intro p e R s m args below meth c Q A H locs ls hR hQ hx hb hml hr hts hown hlk hnm hP hK hD hA hS hl
  have hl : lv_has ls 6 [(0, .ref h), (1, .int (nI (k + 6))), (2, .int (nI x))] := hl
  have hts : ∀ w ∈ rg_tbl, w.before args s = true := fun w h => hts w (List.mem_cons_of_mem _ h)
  have hok := hrep.1
  have hn1 : 1 ≤ n := hok.1
  have hn60 : n ≤ 60 := hok.2.1
  have hb4 : b < 4 := hok.2.2.2.2.2.2.2.1
  have hTb : T b < n := (hok.2.2.2.2.2.2.1 b hb4).1
  have hti : ti b = nI (T b) := (hrep.2.2.2.2.2.2 b hb4).1
  have hma : ma b = nI (U b).length := (hrep.2.2.2.2.2.2 b hb4).2.1
  refine lv_aload_n hx hb dM_remove_0 rfl (lv_at hl 0 rfl) ?_
  refine lv_iload_n hx hb dM_remove_1 rfl (lv_at hl 1 rfl) ?_
  refine lv_bipush (v := nI 6) hx hb dM_remove_2 (by decide) ?_
  have J4 : ∀ v9 : Nat, v9 = 0 → W p l e R s m args below meth c H locs 0 0 Q (F0 m 18 ls [.int (nI v9), .ref h]) := by
    intro v9 hv9
    subst hv9
    refine va_put (D := (dC, dI)) (ci := 0) (v := .int (nI 0)) (ty := .int) (C := "RevisionGroveModel") (T := TM) (N := 19) hx hb hts inM tyM tyM_ok nmM hown hK hP hD hS 0 rfl rfl 0 (by decide) (hts _ tw_601) (fun _ h9 => h9) rfl (by decide +kernel) rfl rfl (Nat.le_of_ble_eq_true rfl) dM_remove_18 (fun H locs hP hD hS => ?_)
    have hP : va_P (dC, dI) rg_cl (rm_W h a cI cL (nI 0) (nI n) (nI b) cof mad nu co se li le fi sc ti un ma dr fr to en) H := hP
    have hD : va_D A (rm_W h a cI cL (nI 0) (nI n) (nI b) cof mad nu co se li le fi sc ti un ma dr fr to en) := hD
    refine lv_aload_n hx hb dM_remove_21 rfl (lv_at hl 0 rfl) ?_
    refine va_get (D := (dC, dI)) (ci := 0) (C := "RevisionGroveModel") (T := TM) (N := 19) hx hb hts inM hown hK hP 0 rfl rfl 0 (by decide) (hts _ tw_601) (fun _ h9 => h9) rfl dM_remove_22 ?_
    refine rg_ifN_le (tgt := 30) hx hb dM_remove_25 (by decide) (by decide) (fun h1 => ?_) (fun h1 => by exfalso; omega)
    refine lv_aload_n hx hb dM_remove_30 rfl (lv_at hl 0 rfl) ?_
    refine lv_aload_n hx hb dM_remove_31 rfl (lv_at hl 0 rfl) ?_
    refine rg_calli hD hS hA (va_runV (As := []) (rest := [.ref h]) ⟨hx, hb, hml, hown, hts⟩ (c_rm_here b (by omega) _) (cwV 0 hts (rg_gV tw_667 tw_669 ts_M_here tw_5 tw_670) rfl rfl rfl (by decide +kernel) ⟨by rw [hR]; exact Nat.le_of_ble_eq_true rfl, by rw [hR]; exact Nat.le_of_ble_eq_true rfl⟩) (rg_preV rfl hK hP hD (ci := 0) (q0 := 0) rfl rfl) rfl rfl hl.1 rfl (lv_room (Nat.le_of_ble_eq_true rfl)) dM_remove_32 ⟨Nat.zero_le _, Nat.zero_le _⟩) (fun r2 u3 H locs hw4 hP hD hS => ?_)
    subst hw4
    have hP : va_P (dC, dI) rg_cl (rm_W h a cI cL (nI 0) (nI n) (nI b) cof mad nu co se li le fi sc ti un ma dr fr to en) H := hP
    have hD : va_D A (rm_W h a cI cL (nI 0) (nI n) (nI b) cof mad nu co se li le fi sc ti un ma dr fr to en) := hD
    refine rg_top (show (.int (ti b) : Value) = .int (nI (T b)) by rw [hti]) ?_
    refine lv_aload_n hx hb dM_remove_35 rfl (lv_at hl 0 rfl) ?_
    refine va_get (D := (dC, dI)) (ci := 0) (C := "RevisionGroveModel") (T := TM) (N := 19) hx hb hts inM hown hK hP 0 rfl rfl 1 (by decide) (hts _ tw_602) (fun _ h9 => h9) rfl dM_remove_36 ?_
    refine rg_callv hD hS hA (va_runV (As := [.int (nI (T b)), .int (nI n)]) (rest := []) ⟨hx, hb, hml, hown, hts⟩ (c_rm_copy (T b) n (by omega) (by omega) _) (cwV 2 hts (rg_gV tw_671 tw_673 ts_M_copy tw_5 tw_674) rfl rfl rfl (by decide +kernel) ⟨by rw [hR]; exact Nat.le_of_ble_eq_true rfl, by rw [hR]; exact Nat.le_of_ble_eq_true rfl⟩) (rg_preV rfl hK hP hD (ci := 0) (q0 := 0) rfl rfl) rfl rfl hl.1 rfl (lv_room (Nat.le_of_ble_eq_true rfl)) dM_remove_39 ⟨Nat.zero_le _, Nat.zero_le _⟩) (fun u6 H locs hw7 hP hD hS => ?_)
    have hP : va_P (dC, dI) rg_cl (rm_W h a cI cL (nI 0) (nI n) (nI b) cof mad (va_cpy nu nu (2 * (T b)) (2 * n) 2) (va_cpy co co (2 * (T b)) (2 * n) 2) (va_cpy se se (2 * (T b)) (2 * n) 2) (va_cpy li li (16 * (T b)) (16 * n) 16) (va_cpy le le (2 * (T b)) (2 * n) 2) (upd fi n (fi (T b))) (upd sc n (sc (T b))) ti un ma dr fr to en) H := hP
    have hD : va_D A (rm_W h a cI cL (nI 0) (nI n) (nI b) cof mad (va_cpy nu nu (2 * (T b)) (2 * n) 2) (va_cpy co co (2 * (T b)) (2 * n) 2) (va_cpy se se (2 * (T b)) (2 * n) 2) (va_cpy li li (16 * (T b)) (16 * n) 16) (va_cpy le le (2 * (T b)) (2 * n) 2) (upd fi n (fi (T b))) (upd sc n (sc (T b))) ti un ma dr fr to en) := hD
    have hX0 : rg_MR (va_cpy nu nu (2 * (T b)) (2 * n) 2) (va_cpy co co (2 * (T b)) (2 * n) 2) (va_cpy se se (2 * (T b)) (2 * n) 2) (va_cpy le le (2 * (T b)) (2 * n) 2) (va_cpy li li (16 * (T b)) (16 * n) 16) n (Rr (T b)) := rg_MR_copy (hrep.2.2.2.2.1 (T b) hTb)
    have q5 := (hX0 k (by omega)).2.2.2.2.1
    have q4 := (hX0 k (by omega)).2.2.2.1
    have q6 := (hX0 k (by omega)).2.2.2.2.2
    rw [hl9] at q4 q5 q6
    refine lv_aload_n hx hb dM_remove_42 rfl (lv_at hl 0 rfl) ?_
    refine va_get (D := (dC, dI)) (ci := 0) (C := "RevisionGroveModel") (T := TM) (N := 19) hx hb hts inM hown hK hP 0 rfl rfl 6 (by decide) (hts _ tw_607) (fun _ h9 => h9) rfl dM_remove_43 ?_
    refine lv_iconst (v := nI 2) hx hb dM_remove_46 (by decide) ?_
    refine lv_aload_n hx hb dM_remove_47 rfl (lv_at hl 0 rfl) ?_
    refine va_get (D := (dC, dI)) (ci := 0) (C := "RevisionGroveModel") (T := TM) (N := 19) hx hb hts inM hown hK hP 0 rfl rfl 1 (by decide) (hts _ tw_602) (fun _ h9 => h9) rfl dM_remove_48 ?_
    refine rg_imul hx hb dM_remove_51 ?_
    refine lv_iload_n hx hb dM_remove_52 rfl (lv_at hl 1 rfl) ?_
    refine rg_iadd hx hb dM_remove_53 ?_
    refine lv_bipush (v := nI 6) hx hb dM_remove_54 (by decide) ?_
    refine rg_isub hx hb dM_remove_56 (by omega) ?_
    refine rg_top (show (.int (nI (2 * n + (k + 6) - 6)) : Value) = .int (nI (2 * n + k)) by rw [show 2 * n + (k + 6) - 6 = 2 * n + k by omega]) ?_
    refine rg_iald hx hb hK hP 5 0 rfl rfl (by decide) (by omega) dM_remove_57 ?_
    refine rg_top (show (.int ((va_cpy le le (2 * (T b)) (2 * n) 2) (2 * n + k)) : Value) = .int (nI l9.length) by rw [q5]) ?_
    refine lv_istore_n (lv' := [(3, .int (nI l9.length)), (0, .ref h), (1, .int (nI (k + 6))), (2, .int (nI x))]) hx hb dM_remove_58 rfl hl (by decide) rfl (fun ls hl => ?_)
    refine lv_aload_n hx hb dM_remove_59 rfl (lv_at hl 1 rfl) ?_
    refine lv_iload_n hx hb dM_remove_60 rfl (lv_at hl 3 rfl) ?_
    refine rg_ifN_lt (tgt := 69) hx hb dM_remove_61 (by decide) (by omega) (fun h8 => h8.elim) (fun h8 => ?_)
    refine lv_iload_n hx hb dM_remove_64 rfl (lv_at hl 3 rfl) ?_
    refine lv_iload_n hx hb dM_remove_65 rfl (lv_at hl 0 rfl) ?_
    refine rg_icmp_lt (tgt := 73) hx hb dM_remove_66 (by decide) (by omega) (by omega) (fun h9 => ?_) (fun h9 => by exfalso; omega)
    refine lv_aload_n hx hb dM_remove_73 rfl (lv_at hl 1 rfl) ?_
    refine va_get (D := (dC, dI)) (ci := 0) (C := "RevisionGroveModel") (T := TM) (N := 19) hx hb hts inM hown hK hP 0 rfl rfl 1 (by decide) (hts _ tw_602) (fun _ h9 => h9) rfl dM_remove_74 ?_
    refine lv_bipush (v := nI 60) hx hb dM_remove_77 (by decide) ?_
    refine rg_icmp_ne (tgt := 86) hx hb dM_remove_79 (by decide) (by omega) (by omega) (fun h10 => ?_) (fun h10 => by exfalso; omega)
    refine lv_iconst (v := nI 0) hx hb dM_remove_86 (by decide) ?_
    refine va_put (D := (dC, dI)) (ci := 0) (v := .int (nI 0)) (ty := .int) (C := "RevisionGroveModel") (T := TM) (N := 19) hx hb hts inM tyM tyM_ok nmM hown hK hP hD hS 0 rfl rfl 0 (by decide) (hts _ tw_601) (fun _ h9 => h9) rfl (by decide +kernel) rfl rfl (Nat.le_of_ble_eq_true rfl) dM_remove_87 (fun H locs hP hD hS => ?_)
    have hP : va_P (dC, dI) rg_cl (rm_W h a cI cL (nI 0) (nI n) (nI b) cof mad (va_cpy nu nu (2 * (T b)) (2 * n) 2) (va_cpy co co (2 * (T b)) (2 * n) 2) (va_cpy se se (2 * (T b)) (2 * n) 2) (va_cpy li li (16 * (T b)) (16 * n) 16) (va_cpy le le (2 * (T b)) (2 * n) 2) (upd fi n (fi (T b))) (upd sc n (sc (T b))) ti un ma dr fr to en) H := hP
    have hD : va_D A (rm_W h a cI cL (nI 0) (nI n) (nI b) cof mad (va_cpy nu nu (2 * (T b)) (2 * n) 2) (va_cpy co co (2 * (T b)) (2 * n) 2) (va_cpy se se (2 * (T b)) (2 * n) 2) (va_cpy li li (16 * (T b)) (16 * n) 16) (va_cpy le le (2 * (T b)) (2 * n) 2) (upd fi n (fi (T b))) (upd sc n (sc (T b))) ti un ma dr fr to en) := hD
    refine lv_aload_n hx hb dM_remove_90 rfl (lv_at hl 1 rfl) ?_
    refine va_get (D := (dC, dI)) (ci := 0) (C := "RevisionGroveModel") (T := TM) (N := 19) hx hb hts inM hown hK hP 0 rfl rfl 0 (by decide) (hts _ tw_601) (fun _ h9 => h9) rfl dM_remove_91 ?_
    refine rg_ifN_le (tgt := 99) hx hb dM_remove_94 (by decide) (by decide) (fun h11 => ?_) (fun h11 => by exfalso; omega)
    refine lv_bipush (v := nI 16) hx hb dM_remove_99 (by decide) ?_
    refine lv_aload_n hx hb dM_remove_101 rfl (lv_at hl 1 rfl) ?_
    refine va_get (D := (dC, dI)) (ci := 0) (C := "RevisionGroveModel") (T := TM) (N := 19) hx hb hts inM hown hK hP 0 rfl rfl 1 (by decide) (hts _ tw_602) (fun _ h9 => h9) rfl dM_remove_102 ?_
    refine rg_imul hx hb dM_remove_105 ?_
    refine lv_bipush (v := nI 8) hx hb dM_remove_106 (by decide) ?_
    refine lv_iload_n hx hb dM_remove_108 rfl (lv_at hl 2 rfl) ?_
    refine lv_bipush (v := nI 6) hx hb dM_remove_109 (by decide) ?_
    refine rg_isub hx hb dM_remove_111 (by omega) ?_
    refine rg_top (show (.int (nI (k + 6 - 6)) : Value) = .int (nI k) by rw [show k + 6 - 6 = k by omega]) ?_
    refine rg_imul hx hb dM_remove_112 ?_
    refine rg_iadd hx hb dM_remove_113 ?_
    refine lv_istore (lv' := [(4, .int (nI (16 * n + 8 * k))), (3, .int (nI l9.length)), (0, .ref h), (1, .int (nI (k + 6))), (2, .int (nI x))]) hx hb dM_remove_114 hl (by decide) rfl (fun ls hl => ?_)
    refine lv_iload_n hx hb dM_remove_116 rfl (lv_at hl 4 rfl) ?_
    refine lv_istore (lv' := [(5, .int (nI x)), (4, .int (nI (16 * n + 8 * k))), (3, .int (nI l9.length)), (0, .ref h), (1, .int (nI (k + 6))), (2, .int (nI x))]) hx hb dM_remove_117 hl (by decide) rfl (fun ls hl => ?_)
    have lp119 : ∀ (fuel : Nat) (kk : Nat) (H : Heap) (locs : List Loc) (ls : Array Slot), l9.length - kk < fuel → x ≤ kk → kk ≤ l9.length - 1 → va_P (dC, dI) rg_cl (rm_W h a cI cL (nI 0) (nI n) (nI b) cof mad (va_cpy nu nu (2 * (T b)) (2 * n) 2) (va_cpy co co (2 * (T b)) (2 * n) 2) (va_cpy se se (2 * (T b)) (2 * n) 2) (va_cpy (va_cpy li li (16 * (T b)) (16 * n) 16) (va_cpy li li (16 * (T b)) (16 * n) 16) (16 * n + 8 * k + x + 1) (16 * n + 8 * k + x) (kk - x)) (va_cpy le le (2 * (T b)) (2 * n) 2) (upd fi n (fi (T b))) (upd sc n (sc (T b))) ti un ma dr fr to en) H → va_D A (rm_W h a cI cL (nI 0) (nI n) (nI b) cof mad (va_cpy nu nu (2 * (T b)) (2 * n) 2) (va_cpy co co (2 * (T b)) (2 * n) 2) (va_cpy se se (2 * (T b)) (2 * n) 2) (va_cpy (va_cpy li li (16 * (T b)) (16 * n) 16) (va_cpy li li (16 * (T b)) (16 * n) 16) (16 * n + 8 * k + x + 1) (16 * n + 8 * k + x) (kk - x)) (va_cpy le le (2 * (T b)) (2 * n) 2) (upd fi n (fi (T b))) (upd sc n (sc (T b))) ti un ma dr fr to en) → va_S A s.heap H locs → lv_has ls 6 [(0, .ref h), (1, .int (nI (k + 6))), (2, .int (nI x)), (3, .int (nI l9.length)), (4, .int (nI (16 * n + 8 * k))), (5, .int (nI kk))] → W p l e R s m args below meth c H locs 0 0 Q (F0 m 119 ls []) := by
      intro fuel
      induction fuel with
      | zero => intro kk H locs ls hf; exact absurd hf (Nat.not_lt_zero _)
      | succ fuel ih119 =>
        intro kk H locs ls hfu119 hk1 hk9 hP hD hS hl
        refine lv_iload hx hb dM_remove_119 (lv_at hl 5 rfl) ?_
        refine lv_iload_n hx hb dM_remove_121 rfl (lv_at hl 3 rfl) ?_
        refine lv_iconst (v := nI 1) hx hb dM_remove_122 (by decide) ?_
        refine rg_isub hx hb dM_remove_123 (by omega) ?_
        refine rg_icmp_ge (tgt := 155) hx hb dM_remove_124 (by decide) (by omega) (by omega) (fun h12 => ?_) (fun h12 => ?_)
        · have hkx : kk = l9.length - 1 := by omega
          rw [hkx] at hP hD
          have hP : va_P (dC, dI) rg_cl (rm_W h a cI cL (nI 0) (nI n) (nI b) cof mad (va_cpy nu nu (2 * (T b)) (2 * n) 2) (va_cpy co co (2 * (T b)) (2 * n) 2) (va_cpy se se (2 * (T b)) (2 * n) 2) (va_cpy (va_cpy li li (16 * (T b)) (16 * n) 16) (va_cpy li li (16 * (T b)) (16 * n) 16) (16 * n + 8 * k + x + 1) (16 * n + 8 * k + x) (l9.length - 1 - x)) (va_cpy le le (2 * (T b)) (2 * n) 2) (upd fi n (fi (T b))) (upd sc n (sc (T b))) ti un ma dr fr to en) H := hP
          have hD : va_D A (rm_W h a cI cL (nI 0) (nI n) (nI b) cof mad (va_cpy nu nu (2 * (T b)) (2 * n) 2) (va_cpy co co (2 * (T b)) (2 * n) 2) (va_cpy se se (2 * (T b)) (2 * n) 2) (va_cpy (va_cpy li li (16 * (T b)) (16 * n) 16) (va_cpy li li (16 * (T b)) (16 * n) 16) (16 * n + 8 * k + x + 1) (16 * n + 8 * k + x) (l9.length - 1 - x)) (va_cpy le le (2 * (T b)) (2 * n) 2) (upd fi n (fi (T b))) (upd sc n (sc (T b))) ti un ma dr fr to en) := hD
          refine lv_aload_n hx hb dM_remove_155 rfl (lv_at hl 0 rfl) ?_
          refine va_get (D := (dC, dI)) (ci := 0) (C := "RevisionGroveModel") (T := TM) (N := 19) hx hb hts inM hown hK hP 0 rfl rfl 6 (by decide) (hts _ tw_607) (fun _ h9 => h9) rfl dM_remove_156 ?_
          refine lv_iconst (v := nI 2) hx hb dM_remove_159 (by decide) ?_
          refine lv_aload_n hx hb dM_remove_160 rfl (lv_at hl 0 rfl) ?_
          refine va_get (D := (dC, dI)) (ci := 0) (C := "RevisionGroveModel") (T := TM) (N := 19) hx hb hts inM hown hK hP 0 rfl rfl 1 (by decide) (hts _ tw_602) (fun _ h9 => h9) rfl dM_remove_161 ?_
          refine rg_imul hx hb dM_remove_164 ?_
          refine lv_iload_n hx hb dM_remove_165 rfl (lv_at hl 1 rfl) ?_
          refine rg_iadd hx hb dM_remove_166 ?_
          refine lv_bipush (v := nI 6) hx hb dM_remove_167 (by decide) ?_
          refine rg_isub hx hb dM_remove_169 (by omega) ?_
          refine rg_top (show (.int (nI (2 * n + (k + 6) - 6)) : Value) = .int (nI (2 * n + k)) by rw [show 2 * n + (k + 6) - 6 = 2 * n + k by omega]) ?_
          refine lv_dup2_11 hx hb dM_remove_170 rfl rfl ?_
          refine rg_iald hx hb hK hP 5 0 rfl rfl (by decide) (by omega) dM_remove_171 ?_
          refine rg_top (show (.int ((va_cpy le le (2 * (T b)) (2 * n) 2) (2 * n + k)) : Value) = .int (nI l9.length) by rw [q5]) ?_
          refine lv_iconst (v := nI 1) hx hb dM_remove_172 (by decide) ?_
          refine rg_isub hx hb dM_remove_173 (by omega) ?_
          refine rg_iast hx hb hK hP hD hS 5 0 rfl rfl (by decide) (by omega) dM_remove_174 (fun H locs hP hD hS => ?_)
          have hP : va_P (dC, dI) rg_cl (rm_W h a cI cL (nI 0) (nI n) (nI b) cof mad (va_cpy nu nu (2 * (T b)) (2 * n) 2) (va_cpy co co (2 * (T b)) (2 * n) 2) (va_cpy se se (2 * (T b)) (2 * n) 2) (va_cpy (va_cpy li li (16 * (T b)) (16 * n) 16) (va_cpy li li (16 * (T b)) (16 * n) 16) (16 * n + 8 * k + x + 1) (16 * n + 8 * k + x) (l9.length - 1 - x)) (upd (va_cpy le le (2 * (T b)) (2 * n) 2) (2 * n + k) (nI (l9.length - 1))) (upd fi n (fi (T b))) (upd sc n (sc (T b))) ti un ma dr fr to en) H := hP
          have hD : va_D A (rm_W h a cI cL (nI 0) (nI n) (nI b) cof mad (va_cpy nu nu (2 * (T b)) (2 * n) 2) (va_cpy co co (2 * (T b)) (2 * n) 2) (va_cpy se se (2 * (T b)) (2 * n) 2) (va_cpy (va_cpy li li (16 * (T b)) (16 * n) 16) (va_cpy li li (16 * (T b)) (16 * n) 16) (16 * n + 8 * k + x + 1) (16 * n + 8 * k + x) (l9.length - 1 - x)) (upd (va_cpy le le (2 * (T b)) (2 * n) 2) (2 * n + k) (nI (l9.length - 1))) (upd fi n (fi (T b))) (upd sc n (sc (T b))) ti un ma dr fr to en) := hD
          have hrep1 : rm_Rep (nI n) (nI b) cof (va_cpy nu nu (2 * (T b)) (2 * n) 2) (va_cpy co co (2 * (T b)) (2 * n) 2) (va_cpy se se (2 * (T b)) (2 * n) 2) (va_cpy (va_cpy li li (16 * (T b)) (16 * n) 16) (va_cpy li li (16 * (T b)) (16 * n) 16) (16 * n + 8 * k + x + 1) (16 * n + 8 * k + x) (l9.length - 1 - x)) (upd (va_cpy le le (2 * (T b)) (2 * n) 2) (2 * n + k) (nI (l9.length - 1))) (upd fi n (fi (T b))) (upd sc n (sc (T b))) ti un ma (n, Rr, P1, P2, T, U, b, cof) := rm_Rep_junk hrep (fun j hj => by have hj : j < 2 * n := hj; rw [pk_cpy_out (by omega)]) (fun j hj => by have hj : j < 2 * n := hj; rw [pk_cpy_out (by omega)]) (fun j hj => by have hj : j < 2 * n := hj; rw [pk_cpy_out (by omega)]) (fun j hj => by have hj : j < 2 * n := hj; rw [pk_un (by omega), pk_cpy_out (by omega)]) (fun j hj => by have hj : j < 16 * n := hj; rw [pk_cpy_out (by omega), pk_cpy_out (by omega)]) (fun j hj => by have hj : j < n := hj; rw [pk_un (by omega)]) (fun j hj => by have hj : j < n := hj; rw [pk_un (by omega)])
          have hX1 : rg_MR (va_cpy nu nu (2 * (T b)) (2 * n) 2) (va_cpy co co (2 * (T b)) (2 * n) 2) (va_cpy se se (2 * (T b)) (2 * n) 2) (upd (va_cpy le le (2 * (T b)) (2 * n) 2) (2 * n + k) (nI (l9.length - 1))) (va_cpy (va_cpy li li (16 * (T b)) (16 * n) 16) (va_cpy li li (16 * (T b)) (16 * n) 16) (16 * n + 8 * k + x + 1) (16 * n + 8 * k + x) (l9.length - 1 - x)) n (rg_setL (Rr (T b)) k (rg_remL l9 x)) := rg_MR_setL hX0 hk2 (by rw [rg_remL_len hxl]; omega) (by rw [pk_us, rg_remL_len hxl]) (fun j hj => pk_un hj) (fun i hi => rg_rem_cells q6 hxl (by rw [rg_remL_len hxl] at hi; exact hi)) (fun j hj => by rw [pk_cpy_out (by omega)])
          refine lv_aload_n hx hb dM_remove_175 rfl (lv_at hl 0 rfl) ?_
          refine rg_calli hD hS hA (va_runV (As := []) (rest := []) ⟨hx, hb, hml, hown, hts⟩ (c_rm_change n b Rr P1 P2 T U (rg_setL (Rr (T b)) k (rg_remL l9 x)) hrep1 hX1 _) (cwV 0 hts (rg_gV tw_675 tw_677 ts_M_change tw_5 tw_678) rfl rfl rfl (by decide +kernel) ⟨by rw [hR]; exact Nat.le_of_ble_eq_true rfl, by rw [hR]; exact Nat.le_of_ble_eq_true rfl⟩) (rg_preV rfl hK hP hD (ci := 0) (q0 := 0) rfl rfl) rfl rfl hl.1 rfl (lv_room (Nat.le_of_ble_eq_true rfl)) dM_remove_176 ⟨Nat.zero_le _, Nat.zero_le _⟩) (fun r13 u14 H locs hw15 hP hD hS => ?_)
          obtain ⟨cod5, cnt5, bra5, cof5, mad5, nu5, co5, se5, li5, le5, fi5, sc5, ti5, un5, ma5, dr5, fr5, to5, en5⟩ := u14
          have hP : va_P (dC, dI) rg_cl (rm_W h a cI cL cod5 cnt5 bra5 cof5 mad5 nu5 co5 se5 li5 le5 fi5 sc5 ti5 un5 ma5 dr5 fr5 to5 en5) H := hP
          have hD : va_D A (rm_W h a cI cL cod5 cnt5 bra5 cof5 mad5 nu5 co5 se5 li5 le5 fi5 sc5 ti5 un5 ma5 dr5 fr5 to5 en5) := hD
          rw [hQ]
          exact rg_iret hx hb hr hlk hK hP hD hS dM_remove_179 (cod5, cnt5, bra5, cof5, mad5, nu5, co5, se5, li5, le5, fi5, sc5, ti5, un5, ma5, dr5, fr5, to5, en5) rfl (hw15)
        · refine lv_aload_n hx hb dM_remove_127 rfl (lv_at hl 0 rfl) ?_
          refine va_get (D := (dC, dI)) (ci := 0) (C := "RevisionGroveModel") (T := TM) (N := 19) hx hb hts inM hown hK hP 0 rfl rfl 5 (by decide) (hts _ tw_606) (fun _ h9 => h9) rfl dM_remove_128 ?_
          refine lv_iload hx hb dM_remove_131 (lv_at hl 4 rfl) ?_
          refine lv_iload hx hb dM_remove_133 (lv_at hl 5 rfl) ?_
          refine rg_iadd hx hb dM_remove_135 ?_
          refine lv_aload_n hx hb dM_remove_136 rfl (lv_at hl 0 rfl) ?_
          refine va_get (D := (dC, dI)) (ci := 0) (C := "RevisionGroveModel") (T := TM) (N := 19) hx hb hts inM hown hK hP 0 rfl rfl 5 (by decide) (hts _ tw_606) (fun _ h9 => h9) rfl dM_remove_137 ?_
          refine lv_iload hx hb dM_remove_140 (lv_at hl 4 rfl) ?_
          refine lv_iload hx hb dM_remove_142 (lv_at hl 5 rfl) ?_
          refine rg_iadd hx hb dM_remove_144 ?_
          refine lv_iconst (v := nI 1) hx hb dM_remove_145 (by decide) ?_
          refine rg_iadd hx hb dM_remove_146 ?_
          refine rg_iald hx hb hK hP 4 0 rfl rfl (by decide) (by omega) dM_remove_147 ?_
          refine rg_iast hx hb hK hP hD hS 4 0 rfl rfl (by decide) (by omega) dM_remove_148 (fun H locs hP hD hS => ?_)
          have hP : va_P (dC, dI) rg_cl (rm_W h a cI cL (nI 0) (nI n) (nI b) cof mad (va_cpy nu nu (2 * (T b)) (2 * n) 2) (va_cpy co co (2 * (T b)) (2 * n) 2) (va_cpy se se (2 * (T b)) (2 * n) 2) (upd (va_cpy (va_cpy li li (16 * (T b)) (16 * n) 16) (va_cpy li li (16 * (T b)) (16 * n) 16) (16 * n + 8 * k + x + 1) (16 * n + 8 * k + x) (kk - x)) (16 * n + 8 * k + kk) ((va_cpy (va_cpy li li (16 * (T b)) (16 * n) 16) (va_cpy li li (16 * (T b)) (16 * n) 16) (16 * n + 8 * k + x + 1) (16 * n + 8 * k + x) (kk - x)) (16 * n + 8 * k + kk + 1))) (va_cpy le le (2 * (T b)) (2 * n) 2) (upd fi n (fi (T b))) (upd sc n (sc (T b))) ti un ma dr fr to en) H := hP
          have hD : va_D A (rm_W h a cI cL (nI 0) (nI n) (nI b) cof mad (va_cpy nu nu (2 * (T b)) (2 * n) 2) (va_cpy co co (2 * (T b)) (2 * n) 2) (va_cpy se se (2 * (T b)) (2 * n) 2) (upd (va_cpy (va_cpy li li (16 * (T b)) (16 * n) 16) (va_cpy li li (16 * (T b)) (16 * n) 16) (16 * n + 8 * k + x + 1) (16 * n + 8 * k + x) (kk - x)) (16 * n + 8 * k + kk) ((va_cpy (va_cpy li li (16 * (T b)) (16 * n) 16) (va_cpy li li (16 * (T b)) (16 * n) 16) (16 * n + 8 * k + x + 1) (16 * n + 8 * k + x) (kk - x)) (16 * n + 8 * k + kk + 1))) (va_cpy le le (2 * (T b)) (2 * n) 2) (upd fi n (fi (T b))) (upd sc n (sc (T b))) ti un ma dr fr to en) := hD
          refine lv_iinc (k := 5) (v := nI (kk + 1)) (lv' := [(5, .int (nI (kk + 1))), (0, .ref h), (1, .int (nI (k + 6))), (2, .int (nI x)), (3, .int (nI l9.length)), (4, .int (nI (16 * n + 8 * k)))]) hx hb dM_remove_149 hl rfl (nI_1 _) (by decide) rfl (fun ls hl => ?_)
          refine lv_goto (tgt := 119) hx hb dM_remove_152 (by decide) ?_
          exact ih119 (kk + 1) _ _ _ (by omega) (by omega) (by omega) (by rw [← rg_cpyU (va_cpy li li (16 * (T b)) (16 * n) 16) (16 * n + 8 * k) x kk (by omega)]; exact hP) (by rw [← rg_cpyU (va_cpy li li (16 * (T b)) (16 * n) 16) (16 * n + 8 * k) x kk (by omega)]; exact hD) hS (lv_sub hl [1, 2, 3, 4, 5, 0] rfl)
    exact lp119 _ x _ _ _ (Nat.lt_succ_self _) (Nat.le_refl _) (by omega) (by rw [Nat.sub_self, rg_cpy0]; exact hP) (by rw [Nat.sub_self, rg_cpy0]; exact hD) hS (lv_sub hl [3, 4, 5, 2, 1, 0] rfl)
  refine rg_icmp_eq (tgt := 13) hx hb dM_remove_4 (by decide) (by omega) (by omega) (fun h16 => ?_) (fun h16 => ?_)
  · refine lv_iconst (v := nI 0) hx hb dM_remove_13 (by decide) ?_
    refine lv_goto (tgt := 18) hx hb dM_remove_14 (by decide) ?_
    exact J4 0 rfl
  · refine lv_iload_n hx hb dM_remove_7 rfl (lv_at hl 1 rfl) ?_
    refine lv_bipush (v := nI 7) hx hb dM_remove_8 (by decide) ?_
    refine rg_icmp_ne (tgt := 17) hx hb dM_remove_10 (by decide) (by omega) (by omega) (fun h17 => by exfalso; omega) (fun h17 => ?_)
    refine lv_iconst (v := nI 0) hx hb dM_remove_13 (by decide) ?_
    refine lv_goto (tgt := 18) hx hb dM_remove_14 (by decide) ?_
    exact J4 0 rfl
theorem c_rm_remove {l : Launch} {dC : Nat → ClassId} {dI : Nat → Nat → Nat} {h : Nat} {a : Nat → Nat} {cI cL : ClassId} {cod : Int32} {cof : Int32} {mad : Int32} {nu : Nat → Int32} {co : Nat → Int64} {se : Nat → Int32} {li : Nat → Int32} {le : Nat → Int32} {fi : Nat → Int32} {sc : Nat → Int32} {ti : Nat → Int32} {un : Nat → Int32} {ma : Nat → Int32} {dr : Nat → Int32} {fr : Nat → Int32} {to : Nat → Int32} {en : Nat → Int32} (n b : Nat) (Rr : Nat → rg_R) (P1 P2 : Nat → Int32) (T : Nat → Nat) (U : Nat → List Nat) (f x : Int32) (hrep : rm_Rep (nI n) (nI b) cof nu co se li le fi sc ti un ma (n, Rr, P1, P2, T, U, b, cof)) : rg_M l yM_remove (Cond.code yM_remove prog_8_method_14_code 6 (some .int) :: rg_tbl) { frames := 3, cells := 0, slots := 0, locals := 69 } (dC, dI) rg_cl [(cI, .int), (cL, .long)] (rm_W h a cI cL cod (nI n) (nI b) cof mad nu co se li le fi sc ti un ma dr fr to en) [.ref h, .int f, .int x] (rg_QI (dC, dI) rg_cl [(cI, .int), (cL, .long)] (S := rm_S) (rm_Po (rg_oRem (n, Rr, P1, P2, T, U, b, cof) f x)) (fun u => rm_Wu h a cI cL u)) 0 0 := by
  have key : ∀ k, k < 2 → rg_M l yM_remove (Cond.code yM_remove prog_8_method_14_code 6 (some .int) :: rg_tbl) { frames := 3, cells := 0, slots := 0, locals := 69 } (dC, dI) rg_cl [(cI, .int), (cL, .long)] (rm_W h a cI cL cod (nI n) (nI b) cof mad nu co se li le fi sc ti un ma dr fr to en) [.ref h, .int (nI (k + 6)), .int x] (rg_QI (dC, dI) rg_cl [(cI, .int), (cL, .long)] (S := rm_S) (rm_Po (rg_remK (n, Rr, P1, P2, T, U, b, cof) k x)) (fun u => rm_Wu h a cI cL u)) 0 0 := by
    intro k hk
    unfold rg_remK
    by_cases hx0 : x < 0 ∨ nI ((Rr (T b)).2.2.2 k).length ≤ x
    · rw [if_pos hx0]; exact c_rm_remove_badx n b Rr P1 P2 T U k hk _ rfl x hx0 hrep
    · rw [if_neg hx0]
      obtain ⟨j, hj, rfl⟩ := nI_of (fun q => hx0 (Or.inl q))
      have hjl : j < ((Rr (T b)).2.2.2 k).length := Nat.lt_of_not_le fun q => hx0 (Or.inr (nI_le q hj))
      rw [nI_clamp hj]
      by_cases hf : n = 60
      · rw [if_pos hf]; exact c_rm_remove_full n b Rr P1 P2 T U k hk _ rfl j hjl hf hrep
      · rw [if_neg hf]; exact c_rm_remove_ok n b Rr P1 P2 T U k hk _ rfl j hjl hf hrep
  unfold rg_oRem
  by_cases h0 : f = 6
  · subst h0; rw [if_pos rfl]; exact key 0 (by decide)
  · rw [if_neg h0]
    by_cases h1 : f = 7
    · subst h1; rw [if_pos rfl]; exact key 1 (by decide)
    · rw [if_neg h1]; exact c_rm_remove_badf n b Rr P1 P2 T U f x h0 h1 hrep
