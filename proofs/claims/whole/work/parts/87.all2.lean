set_option maxRecDepth 100000 in
theorem cg_point {l : Launch} {dC : Nat → ClassId} {dI : Nat → Nat → Nat} {ad fo fa ur : Nat → Nat} {cI cL cF cA : ClassId} (hlt : l.stackTraces = false) {u : gw_S} {g : rg_A} (hu : gw_Ru u g) (x : Int32) : cg_V l yG_point (Cond.code yG_point prog_1_method_7_code 2 none) (dC, dI) (gw_tys cI cL cF cA) (fun u => gw_Wu ad fo fa ur cI cL cF cA u) gw_eA (gw_Wu ad fo fa ur cI cL cF cA u) [.ref (ad 0), .int x] (rg_oPoint g x) := by
  obtain ⟨rc, fp, sp, an, nn, cnt, pt, un, uc, pr, lc⟩ := u
  obtain ⟨n, Rr, P1, P2, T, U, b, c9⟩ := g
  obtain ⟨rfl, rfl, rfl⟩ : cnt = nI n ∧ pr = nI b ∧ lc = c9 := ⟨hu.2.1, hu.2.2.1, hu.2.2.2.1⟩
  have hrep : gw_Rep rc fp sp an (nI n) pt un uc (nI b) lc (n, Rr, P1, P2, T, U, b, lc) := hu
  have hok := hrep.1
  have hn60 : n ≤ 60 := hok.2.1
  have hb4 : b < 4 := hok.2.2.2.2.2.2.2.1
  cases hB : rg_isB x with
  | true =>
    obtain ⟨j, hj, rfl⟩ := rg_isB_of hB
    have hj9 : (nI j).toNatClampNeg = j := nI_clamp (by omega)
    rw [show rg_oPoint (n, Rr, P1, P2, T, U, b, lc) (nI j) = (0, 0, rg_point (n, Rr, P1, P2, T, U, b, lc) j) by rw [rg_oPoint]; show (bif _ then _ else _) = _; rw [hB, hj9]; rfl]
    by_cases hjb : j = b
    · subst hjb
      exact cg_ov (c_G_point_s n j Rr P1 P2 T U hrep) (Nat.le_of_ble_eq_true rfl) (Nat.le_of_ble_eq_true rfl) (Nat.le_of_ble_eq_true rfl) (Nat.le_of_ble_eq_true rfl)
    · exact cg_ov (c_G_point_o n b Rr P1 P2 T U j hj hjb hrep) (Nat.le_of_ble_eq_true rfl) (Nat.le_of_ble_eq_true rfl) (Nat.le_of_ble_eq_true rfl) (Nat.le_of_ble_eq_true rfl)
  | false =>
    rw [show rg_oPoint (n, Rr, P1, P2, T, U, b, lc) x = (1, 0, (n, Rr, P1, P2, T, U, b, lc)) by rw [rg_oPoint]; show (bif rg_isB x then _ else _) = _; rw [hB]; rfl]
    exact cg_xv (c_G_point_x hlt n b Rr P1 P2 T U x hB hrep) (Nat.le_of_ble_eq_true rfl) (Nat.le_of_ble_eq_true rfl) (Nat.le_of_ble_eq_true rfl) (Nat.le_of_ble_eq_true rfl) (Nat.le_of_ble_eq_true rfl) (Nat.le_of_ble_eq_true rfl) (show ((1 : Int32), _) ∈ gw_eA by simp [gw_eA]) rfl
set_option maxRecDepth 100000 in
theorem cg_turn {l : Launch} {dC : Nat → ClassId} {dI : Nat → Nat → Nat} {ad fo fa ur : Nat → Nat} {cI cL cF cA : ClassId} (hlt : l.stackTraces = false) {u : gw_S} {g : rg_A} (hu : gw_Ru u g) (x : Int32) : cg_I l yG_turn (Cond.code yG_turn prog_1_method_8_code 2 (some .int)) (dC, dI) (gw_tys cI cL cF cA) (fun u => gw_Wu ad fo fa ur cI cL cF cA u) gw_eA (gw_Wu ad fo fa ur cI cL cF cA u) [.ref (ad 0), .int x] (rg_oTurn g x) := by
  obtain ⟨rc, fp, sp, an, nn, cnt, pt, un, uc, pr, lc⟩ := u
  obtain ⟨n, Rr, P1, P2, T, U, b, c9⟩ := g
  obtain ⟨rfl, rfl, rfl⟩ : cnt = nI n ∧ pr = nI b ∧ lc = c9 := ⟨hu.2.1, hu.2.2.1, hu.2.2.2.1⟩
  have hrep : gw_Rep rc fp sp an (nI n) pt un uc (nI b) lc (n, Rr, P1, P2, T, U, b, lc) := hu
  have hok := hrep.1
  have hn60 : n ≤ 60 := hok.2.1
  have hb4 : b < 4 := hok.2.2.2.2.2.2.2.1
  cases hB : rg_isB x with
  | true =>
    obtain ⟨j, hj, rfl⟩ := rg_isB_of hB
    have hj9 : (nI j).toNatClampNeg = j := nI_clamp (by omega)
    rw [show rg_oTurn (n, Rr, P1, P2, T, U, b, lc) (nI j) = (0, nI (T j), rg_turn (n, Rr, P1, P2, T, U, b, lc) j) by rw [rg_oTurn]; show (bif _ then _ else _) = _; rw [hB, hj9]; rfl]
    exact cg_o (c_G_turn_o n b Rr P1 P2 T U j hj hrep) (Nat.le_of_ble_eq_true rfl) (Nat.le_of_ble_eq_true rfl) (Nat.le_of_ble_eq_true rfl) (Nat.le_of_ble_eq_true rfl)
  | false =>
    rw [show rg_oTurn (n, Rr, P1, P2, T, U, b, lc) x = (1, 0, (n, Rr, P1, P2, T, U, b, lc)) by rw [rg_oTurn]; show (bif rg_isB x then _ else _) = _; rw [hB]; rfl]
    exact cg_x (c_G_turn_x hlt n b Rr P1 P2 T U x hB hrep) (Nat.le_of_ble_eq_true rfl) (Nat.le_of_ble_eq_true rfl) (Nat.le_of_ble_eq_true rfl) (Nat.le_of_ble_eq_true rfl) (Nat.le_of_ble_eq_true rfl) (Nat.le_of_ble_eq_true rfl) (show ((1 : Int32), _) ∈ gw_eA by simp [gw_eA]) rfl
set_option maxRecDepth 100000 in
theorem cg_base {l : Launch} {dC : Nat → ClassId} {dI : Nat → Nat → Nat} {ad fo fa ur : Nat → Nat} {cI cL cF cA : ClassId} (hlt : l.stackTraces = false) {u : gw_S} {g : rg_A} (hu : gw_Ru u g) (x : Int32) : cg_I l yG_base (Cond.code yG_base prog_1_method_14_code 2 (some .int)) (dC, dI) (gw_tys cI cL cF cA) (fun u => gw_Wu ad fo fa ur cI cL cF cA u) gw_eA (gw_Wu ad fo fa ur cI cL cF cA u) [.ref (ad 0), .int x] (rg_oBase g x) := by
  obtain ⟨rc, fp, sp, an, nn, cnt, pt, un, uc, pr, lc⟩ := u
  obtain ⟨n, Rr, P1, P2, T, U, b, c9⟩ := g
  obtain ⟨rfl, rfl, rfl⟩ : cnt = nI n ∧ pr = nI b ∧ lc = c9 := ⟨hu.2.1, hu.2.2.1, hu.2.2.2.1⟩
  have hrep : gw_Rep rc fp sp an (nI n) pt un uc (nI b) lc (n, Rr, P1, P2, T, U, b, lc) := hu
  have hok := hrep.1
  have hn60 : n ≤ 60 := hok.2.1
  have hb4 : b < 4 := hok.2.2.2.2.2.2.2.1
  cases hB : rg_isB x with
  | true =>
    obtain ⟨j, hj, rfl⟩ := rg_isB_of hB
    have hj9 : (nI j).toNatClampNeg = j := nI_clamp (by omega)
    rw [show rg_oBase (n, Rr, P1, P2, T, U, b, lc) (nI j) = (0, nI (rg_base P1 P2 (T b) (T j)), (n, Rr, P1, P2, T, U, b, lc)) by rw [rg_oBase]; show (bif _ then _ else _) = _; rw [hB, hj9]; rfl]
    exact cg_o (c_G_base_o n b Rr P1 P2 T U j hj hrep) (Nat.le_of_ble_eq_true rfl) (Nat.le_of_ble_eq_true rfl) (Nat.le_of_ble_eq_true rfl) (Nat.le_of_ble_eq_true rfl)
  | false =>
    rw [show rg_oBase (n, Rr, P1, P2, T, U, b, lc) x = (1, 0, (n, Rr, P1, P2, T, U, b, lc)) by rw [rg_oBase]; show (bif rg_isB x then _ else _) = _; rw [hB]; rfl]
    exact cg_x (c_G_base_x hlt n b Rr P1 P2 T U x hB hrep) (Nat.le_of_ble_eq_true rfl) (Nat.le_of_ble_eq_true rfl) (Nat.le_of_ble_eq_true rfl) (Nat.le_of_ble_eq_true rfl) (Nat.le_of_ble_eq_true rfl) (Nat.le_of_ble_eq_true rfl) (show ((1 : Int32), _) ∈ gw_eA by simp [gw_eA]) rfl
set_option maxRecDepth 100000 in
theorem cg_go {l : Launch} {dC : Nat → ClassId} {dI : Nat → Nat → Nat} {ad fo fa ur : Nat → Nat} {cI cL cF cA : ClassId} (hlt : l.stackTraces = false) {u : gw_S} {g : rg_A} (hu : gw_Ru u g) (x : Int32) : cg_V l yG_go (Cond.code yG_go prog_1_method_9_code 2 none) (dC, dI) (gw_tys cI cL cF cA) (fun u => gw_Wu ad fo fa ur cI cL cF cA u) gw_eA (gw_Wu ad fo fa ur cI cL cF cA u) [.ref (ad 0), .int x] (rg_oGo g x) := by
  obtain ⟨rc, fp, sp, an, nn, cnt, pt, un, uc, pr, lc⟩ := u
  obtain ⟨n, Rr, P1, P2, T, U, b, c9⟩ := g
  obtain ⟨rfl, rfl, rfl⟩ : cnt = nI n ∧ pr = nI b ∧ lc = c9 := ⟨hu.2.1, hu.2.2.1, hu.2.2.2.1⟩
  have hrep : gw_Rep rc fp sp an (nI n) pt un uc (nI b) lc (n, Rr, P1, P2, T, U, b, lc) := hu
  have hok := hrep.1
  have hn60 : n ≤ 60 := hok.2.1
  have hb4 : b < 4 := hok.2.2.2.2.2.2.2.1
  cases hB : rg_isR n x with
  | true =>
    obtain ⟨j, hj, rfl⟩ := rg_isR_of hB
    have hj9 : (nI j).toNatClampNeg = j := nI_clamp (by omega)
    rw [show rg_oGo (n, Rr, P1, P2, T, U, b, lc) (nI j) = (0, 0, rg_come (n, Rr, P1, P2, T, U, b, lc) j) by rw [rg_oGo]; show (bif _ then _ else _) = _; rw [hB, hj9]; rfl]
    exact cg_ov (c_G_go_o n b Rr P1 P2 T U j hj hrep) (Nat.le_of_ble_eq_true rfl) (Nat.le_of_ble_eq_true rfl) (Nat.le_of_ble_eq_true rfl) (Nat.le_of_ble_eq_true rfl)
  | false =>
    rw [show rg_oGo (n, Rr, P1, P2, T, U, b, lc) x = (1, 0, (n, Rr, P1, P2, T, U, b, lc)) by rw [rg_oGo]; show (bif rg_isR n x then _ else _) = _; rw [hB]; rfl]
    exact cg_xv (c_G_go_x hlt n b Rr P1 P2 T U x hB hrep) (Nat.le_of_ble_eq_true rfl) (Nat.le_of_ble_eq_true rfl) (Nat.le_of_ble_eq_true rfl) (Nat.le_of_ble_eq_true rfl) (Nat.le_of_ble_eq_true rfl) (Nat.le_of_ble_eq_true rfl) (show ((1 : Int32), _) ∈ gw_eA by simp [gw_eA]) rfl
set_option maxRecDepth 100000 in
theorem cg_parent {l : Launch} {dC : Nat → ClassId} {dI : Nat → Nat → Nat} {ad fo fa ur : Nat → Nat} {cI cL cF cA : ClassId} (hlt : l.stackTraces = false) {u : gw_S} {g : rg_A} (hu : gw_Ru u g) (x : Int32) (w : Bool) : cg_I l yG_parent (Cond.code yG_parent prog_1_method_17_code 3 (some .int)) (dC, dI) (gw_tys cI cL cF cA) (fun u => gw_Wu ad fo fa ur cI cL cF cA u) gw_eA (gw_Wu ad fo fa ur cI cL cF cA u) [.ref (ad 0), .int x, .int (bif w then 1 else 0)] (rg_oPar g x w) := by
  obtain ⟨rc, fp, sp, an, nn, cnt, pt, un, uc, pr, lc⟩ := u
  obtain ⟨n, Rr, P1, P2, T, U, b, c9⟩ := g
  obtain ⟨rfl, rfl, rfl⟩ : cnt = nI n ∧ pr = nI b ∧ lc = c9 := ⟨hu.2.1, hu.2.2.1, hu.2.2.2.1⟩
  have hrep : gw_Rep rc fp sp an (nI n) pt un uc (nI b) lc (n, Rr, P1, P2, T, U, b, lc) := hu
  have hok := hrep.1
  have hn60 : n ≤ 60 := hok.2.1
  have hb4 : b < 4 := hok.2.2.2.2.2.2.2.1
  cases hB : rg_isR n x with
  | true =>
    obtain ⟨j, hj, rfl⟩ := rg_isR_of hB
    have hj9 : (nI j).toNatClampNeg = j := nI_clamp (by omega)
    rw [show rg_oPar (n, Rr, P1, P2, T, U, b, lc) (nI j) w = (0, bif w then P2 j else P1 j, (n, Rr, P1, P2, T, U, b, lc)) by rw [rg_oPar]; show (bif _ then _ else _) = _; rw [hB, hj9]; rfl]
    exact cg_o (c_G_parent_o n b Rr P1 P2 T U j w hj hrep) (Nat.le_of_ble_eq_true rfl) (Nat.le_of_ble_eq_true rfl) (Nat.le_of_ble_eq_true rfl) (Nat.le_of_ble_eq_true rfl)
  | false =>
    rw [show rg_oPar (n, Rr, P1, P2, T, U, b, lc) x w = (1, 0, (n, Rr, P1, P2, T, U, b, lc)) by rw [rg_oPar]; show (bif rg_isR n x then _ else _) = _; rw [hB]; rfl]
    exact cg_x (c_G_parent_x hlt n b Rr P1 P2 T U x w hB hrep) (Nat.le_of_ble_eq_true rfl) (Nat.le_of_ble_eq_true rfl) (Nat.le_of_ble_eq_true rfl) (Nat.le_of_ble_eq_true rfl) (Nat.le_of_ble_eq_true rfl) (Nat.le_of_ble_eq_true rfl) (show ((1 : Int32), _) ∈ gw_eA by simp [gw_eA]) rfl
set_option maxRecDepth 100000 in
theorem cg_differ {l : Launch} {dC : Nat → ClassId} {dI : Nat → Nat → Nat} {ad fo fa ur : Nat → Nat} {cI cL cF cA : ClassId} (hlt : l.stackTraces = false) {u : gw_S} {g : rg_A} (hu : gw_Ru u g) (x y : Int32) : cg_I l yG_differ (Cond.code yG_differ prog_1_method_16_code 7 (some .int)) (dC, dI) (gw_tys cI cL cF cA) (fun u => gw_Wu ad fo fa ur cI cL cF cA u) gw_eA (gw_Wu ad fo fa ur cI cL cF cA u) [.ref (ad 0), .int x, .int y] (rg_oDif g x y) := by
  obtain ⟨rc, fp, sp, an, nn, cnt, pt, un, uc, pr, lc⟩ := u
  obtain ⟨n, Rr, P1, P2, T, U, b, c9⟩ := g
  obtain ⟨rfl, rfl, rfl⟩ : cnt = nI n ∧ pr = nI b ∧ lc = c9 := ⟨hu.2.1, hu.2.2.1, hu.2.2.2.1⟩
  have hrep : gw_Rep rc fp sp an (nI n) pt un uc (nI b) lc (n, Rr, P1, P2, T, U, b, lc) := hu
  have hok := hrep.1
  have hn60 : n ≤ 60 := hok.2.1
  have hb4 : b < 4 := hok.2.2.2.2.2.2.2.1
  cases hB : rg_isR n x with
  | true =>
    obtain ⟨i, hi, rfl⟩ := rg_isR_of hB
    cases hC : rg_isR n y with
    | true =>
      obtain ⟨j, hj, rfl⟩ := rg_isR_of hC
      rw [show rg_oDif (n, Rr, P1, P2, T, U, b, lc) (nI i) (nI j) = (0, rg_dif (Rr i) (Rr j), (n, Rr, P1, P2, T, U, b, lc)) by rw [rg_oDif]; show (bif rg_isR n (nI i) && rg_isR n (nI j) then _ else _) = _; rw [hB, hC, nI_clamp (by omega), nI_clamp (by omega)]; rfl]
      exact cg_o (c_G_differ_o n b Rr P1 P2 T U i j hi hj hrep) (Nat.le_of_ble_eq_true rfl) (Nat.le_of_ble_eq_true rfl) (Nat.le_of_ble_eq_true rfl) (Nat.le_of_ble_eq_true rfl)
    | false =>
      rw [show rg_oDif (n, Rr, P1, P2, T, U, b, lc) (nI i) y = (1, 0, (n, Rr, P1, P2, T, U, b, lc)) by rw [rg_oDif]; show (bif rg_isR n (nI i) && rg_isR n y then _ else _) = _; rw [hB, hC]; rfl]
      exact cg_x (c_G_differ_x2 hlt n b Rr P1 P2 T U i y hi hC hrep) (Nat.le_of_ble_eq_true rfl) (Nat.le_of_ble_eq_true rfl) (Nat.le_of_ble_eq_true rfl) (Nat.le_of_ble_eq_true rfl) (Nat.le_of_ble_eq_true rfl) (Nat.le_of_ble_eq_true rfl) (show ((1 : Int32), _) ∈ gw_eA by simp [gw_eA]) rfl
  | false =>
    rw [show rg_oDif (n, Rr, P1, P2, T, U, b, lc) x y = (1, 0, (n, Rr, P1, P2, T, U, b, lc)) by rw [rg_oDif]; show (bif rg_isR n x && rg_isR n y then _ else _) = _; rw [hB]; rfl]
    exact cg_x (c_G_differ_x1 hlt n b Rr P1 P2 T U x y hB hrep) (Nat.le_of_ble_eq_true rfl) (Nat.le_of_ble_eq_true rfl) (Nat.le_of_ble_eq_true rfl) (Nat.le_of_ble_eq_true rfl) (Nat.le_of_ble_eq_true rfl) (Nat.le_of_ble_eq_true rfl) (show ((1 : Int32), _) ∈ gw_eA by simp [gw_eA]) rfl
set_option maxRecDepth 100000 in
theorem cg_undo {l : Launch} {dC : Nat → ClassId} {dI : Nat → Nat → Nat} {ad fo fa ur : Nat → Nat} {cI cL cF cA : ClassId} (hlt : l.stackTraces = false) {u : gw_S} {g : rg_A} (hu : gw_Ru u g)  : cg_I l yG_undo (Cond.code yG_undo prog_1_method_10_code 2 (some .int)) (dC, dI) (gw_tys cI cL cF cA) (fun u => gw_Wu ad fo fa ur cI cL cF cA u) gw_eN (gw_Wu ad fo fa ur cI cL cF cA u) [.ref (ad 0)] (rg_oUndo g) := by
  obtain ⟨rc, fp, sp, an, nn, cnt, pt, un, uc, pr, lc⟩ := u
  obtain ⟨n, Rr, P1, P2, T, U, b, c9⟩ := g
  obtain ⟨rfl, rfl, rfl⟩ : cnt = nI n ∧ pr = nI b ∧ lc = c9 := ⟨hu.2.1, hu.2.2.1, hu.2.2.2.1⟩
  have hrep : gw_Rep rc fp sp an (nI n) pt un uc (nI b) lc (n, Rr, P1, P2, T, U, b, lc) := hu
  have hok := hrep.1
  have hn60 : n ≤ 60 := hok.2.1
  have hb4 : b < 4 := hok.2.2.2.2.2.2.2.1
  have hTb : T b < n := (hok.2.2.2.2.2.2.1 b hb4).1
  by_cases h0 : T b = 0
  · rw [show rg_oUndo (n, Rr, P1, P2, T, U, b, lc) = (1, 0, (n, Rr, P1, P2, T, U, b, lc)) by rw [rg_oUndo]; exact if_pos h0]
    exact cg_x (c_G_undo_x hlt n b Rr P1 P2 T U (by rw [h0]; exact hok.2.2.1) hrep) (Nat.le_of_ble_eq_true rfl) (Nat.le_of_ble_eq_true rfl) (Nat.le_of_ble_eq_true rfl) (Nat.le_of_ble_eq_true rfl) (Nat.le_of_ble_eq_true rfl) (Nat.le_of_ble_eq_true rfl) (show ((1 : Int32), _) ∈ gw_eN by simp [gw_eN]) rfl
  · obtain ⟨j, hj, hP1⟩ := hok.2.2.2.2.1 (T b) (by omega) hTb
    rw [show rg_oUndo (n, Rr, P1, P2, T, U, b, lc) = (0, P1 (T b), rg_undo (n, Rr, P1, P2, T, U, b, lc)) by rw [rg_oUndo]; exact if_neg h0]
    exact cg_o (c_G_undo_o n b Rr P1 P2 T U j hj hP1 hrep) (Nat.le_of_ble_eq_true rfl) (Nat.le_of_ble_eq_true rfl) (Nat.le_of_ble_eq_true rfl) (Nat.le_of_ble_eq_true rfl)
set_option maxRecDepth 100000 in
theorem cg_redo {l : Launch} {dC : Nat → ClassId} {dI : Nat → Nat → Nat} {ad fo fa ur : Nat → Nat} {cI cL cF cA : ClassId} (hlt : l.stackTraces = false) {u : gw_S} {g : rg_A} (hu : gw_Ru u g)  : cg_I l yG_redo (Cond.code yG_redo prog_1_method_11_code 1 (some .int)) (dC, dI) (gw_tys cI cL cF cA) (fun u => gw_Wu ad fo fa ur cI cL cF cA u) gw_eN (gw_Wu ad fo fa ur cI cL cF cA u) [.ref (ad 0)] (rg_oRedo g) := by
  obtain ⟨rc, fp, sp, an, nn, cnt, pt, un, uc, pr, lc⟩ := u
  obtain ⟨n, Rr, P1, P2, T, U, b, c9⟩ := g
  obtain ⟨rfl, rfl, rfl⟩ : cnt = nI n ∧ pr = nI b ∧ lc = c9 := ⟨hu.2.1, hu.2.2.1, hu.2.2.2.1⟩
  have hrep : gw_Rep rc fp sp an (nI n) pt un uc (nI b) lc (n, Rr, P1, P2, T, U, b, lc) := hu
  have hok := hrep.1
  have hn60 : n ≤ 60 := hok.2.1
  have hb4 : b < 4 := hok.2.2.2.2.2.2.2.1
  by_cases h0 : (U b).length = 0
  · rw [show rg_oRedo (n, Rr, P1, P2, T, U, b, lc) = (1, 0, (n, Rr, P1, P2, T, U, b, lc)) by rw [rg_oRedo]; exact if_pos h0]
    exact cg_x (c_G_redo_x hlt n b Rr P1 P2 T U (List.eq_nil_of_length_eq_zero h0) hrep) (Nat.le_of_ble_eq_true rfl) (Nat.le_of_ble_eq_true rfl) (Nat.le_of_ble_eq_true rfl) (Nat.le_of_ble_eq_true rfl) (Nat.le_of_ble_eq_true rfl) (Nat.le_of_ble_eq_true rfl) (show ((1 : Int32), _) ∈ gw_eN by simp [gw_eN]) rfl
  · rw [show rg_oRedo (n, Rr, P1, P2, T, U, b, lc) = (0, nI (ra_last (U b)), rg_redo (n, Rr, P1, P2, T, U, b, lc)) by rw [rg_oRedo]; exact if_neg h0]
    exact cg_o (c_G_redo_o n b Rr P1 P2 T U (Nat.pos_of_ne_zero h0) hrep) (Nat.le_of_ble_eq_true rfl) (Nat.le_of_ble_eq_true rfl) (Nat.le_of_ble_eq_true rfl) (Nat.le_of_ble_eq_true rfl)
set_option maxRecDepth 100000 in
theorem cg_figure {l : Launch} {dC : Nat → ClassId} {dI : Nat → Nat → Nat} {ad fo fa ur : Nat → Nat} {cI cL cF cA : ClassId} (hlt : l.stackTraces = false) {u : gw_S} {g : rg_A} (hu : gw_Ru u g) (x : Int32) : cg_I l yG_figure (Cond.code yG_figure prog_1_method_19_code 2 (some .int)) (dC, dI) (gw_tys cI cL cF cA) (fun u => gw_Wu ad fo fa ur cI cL cF cA u) gw_eA (gw_Wu ad fo fa ur cI cL cF cA u) [.ref (ad 0), .int x] (rg_oFig g x) := by
  obtain ⟨rc, fp, sp, an, nn, cnt, pt, un, uc, pr, lc⟩ := u
  obtain ⟨n, Rr, P1, P2, T, U, b, c9⟩ := g
  obtain ⟨rfl, rfl, rfl⟩ : cnt = nI n ∧ pr = nI b ∧ lc = c9 := ⟨hu.2.1, hu.2.2.1, hu.2.2.2.1⟩
  have hrep : gw_Rep rc fp sp an (nI n) pt un uc (nI b) lc (n, Rr, P1, P2, T, U, b, lc) := hu
  have hok := hrep.1
  have hn60 : n ≤ 60 := hok.2.1
  have hb4 : b < 4 := hok.2.2.2.2.2.2.2.1
  by_cases hx : x < 0 ∨ 7 < x
  · have hne : ∀ k, k < 8 → ¬ x = nI k := fun k hk e => by
      subst e
      rcases hx with h | h
      · exact nI_pos (by omega) h
      · exact absurd h (Int32.not_lt.mpr (nI_le (show k ≤ 7 by omega) (by decide)))
    rw [show rg_oFig (n, Rr, P1, P2, T, U, b, lc) x = (1, 0, (n, Rr, P1, P2, T, U, b, lc)) by rw [rg_oFig, if_neg (show ¬ x = 0 from hne 0 (by decide)), if_neg (show ¬ x = 1 from hne 1 (by decide)), if_neg (show ¬ x = 2 from hne 2 (by decide)), if_neg (show ¬ x = 3 from hne 3 (by decide)), if_neg (show ¬ x = 4 from hne 4 (by decide)), if_neg (show ¬ x = 5 from hne 5 (by decide)), if_neg (show ¬ x = 6 from hne 6 (by decide)), if_neg (show ¬ x = 7 from hne 7 (by decide))]]
    exact cg_x (c_G_figure_x hlt n b Rr P1 P2 T U x hx hrep) (Nat.le_of_ble_eq_true rfl) (Nat.le_of_ble_eq_true rfl) (Nat.le_of_ble_eq_true rfl) (Nat.le_of_ble_eq_true rfl) (Nat.le_of_ble_eq_true rfl) (Nat.le_of_ble_eq_true rfl) (show ((1 : Int32), _) ∈ gw_eA by simp [gw_eA]) rfl
  · obtain ⟨j, hj, rfl⟩ : ∃ j, j < 8 ∧ x = nI j := by
      obtain ⟨j, hj, e⟩ := nI_of2 (M := 7) (n := 7) (by decide) (fun h => hx (Or.inl h)) (Int32.not_lt.mp (fun h => hx (Or.inr h)))
      exact ⟨j, by omega, e⟩
    rcases (show j = 0 ∨ j = 1 ∨ j = 2 ∨ j = 3 ∨ j = 4 ∨ j = 5 ∨ j = 6 ∨ j = 7 by omega) with rfl | rfl | rfl | rfl | rfl | rfl | rfl | rfl
    · rw [show rg_oFig (n, Rr, P1, P2, T, U, b, lc) (nI 0) = (0, nI (T b), (n, Rr, P1, P2, T, U, b, lc)) by rw [rg_oFig, if_pos (by decide)]]
      exact cg_o (c_G_figure_0 n b Rr P1 P2 T U hrep) (Nat.le_of_ble_eq_true rfl) (Nat.le_of_ble_eq_true rfl) (Nat.le_of_ble_eq_true rfl) (Nat.le_of_ble_eq_true rfl)
    · rw [show rg_oFig (n, Rr, P1, P2, T, U, b, lc) (nI 1) = (0, nI n, (n, Rr, P1, P2, T, U, b, lc)) by rw [rg_oFig, if_neg (by decide), if_pos (by decide)]]
      exact cg_o (c_G_figure_1 n b Rr P1 P2 T U hrep) (Nat.le_of_ble_eq_true rfl) (Nat.le_of_ble_eq_true rfl) (Nat.le_of_ble_eq_true rfl) (Nat.le_of_ble_eq_true rfl)
    · rw [show rg_oFig (n, Rr, P1, P2, T, U, b, lc) (nI 2) = (0, nI b, (n, Rr, P1, P2, T, U, b, lc)) by rw [rg_oFig, if_neg (by decide), if_neg (by decide), if_pos (by decide)]]
      exact cg_o (c_G_figure_2 n b Rr P1 P2 T U hrep) (Nat.le_of_ble_eq_true rfl) (Nat.le_of_ble_eq_true rfl) (Nat.le_of_ble_eq_true rfl) (Nat.le_of_ble_eq_true rfl)
    · rw [show rg_oFig (n, Rr, P1, P2, T, U, b, lc) (nI 3) = (0, nI (U b).length, (n, Rr, P1, P2, T, U, b, lc)) by rw [rg_oFig, if_neg (by decide), if_neg (by decide), if_neg (by decide), if_pos (by decide)]]
      exact cg_o (c_G_figure_3 n b Rr P1 P2 T U hrep) (Nat.le_of_ble_eq_true rfl) (Nat.le_of_ble_eq_true rfl) (Nat.le_of_ble_eq_true rfl) (Nat.le_of_ble_eq_true rfl)
    · rw [show rg_oFig (n, Rr, P1, P2, T, U, b, lc) (nI 4) = (0, nI (T 0), (n, Rr, P1, P2, T, U, b, lc)) by rw [rg_oFig, if_neg (by decide), if_neg (by decide), if_neg (by decide), if_neg (by decide), if_pos (by decide)]]
      exact cg_o (c_G_figure_4 n b Rr P1 P2 T U hrep) (Nat.le_of_ble_eq_true rfl) (Nat.le_of_ble_eq_true rfl) (Nat.le_of_ble_eq_true rfl) (Nat.le_of_ble_eq_true rfl)
    · rw [show rg_oFig (n, Rr, P1, P2, T, U, b, lc) (nI 5) = (0, nI (T 1), (n, Rr, P1, P2, T, U, b, lc)) by rw [rg_oFig, if_neg (by decide), if_neg (by decide), if_neg (by decide), if_neg (by decide), if_neg (by decide), if_pos (by decide)]]
      exact cg_o (c_G_figure_5 n b Rr P1 P2 T U hrep) (Nat.le_of_ble_eq_true rfl) (Nat.le_of_ble_eq_true rfl) (Nat.le_of_ble_eq_true rfl) (Nat.le_of_ble_eq_true rfl)
    · rw [show rg_oFig (n, Rr, P1, P2, T, U, b, lc) (nI 6) = (0, nI (T 2), (n, Rr, P1, P2, T, U, b, lc)) by rw [rg_oFig, if_neg (by decide), if_neg (by decide), if_neg (by decide), if_neg (by decide), if_neg (by decide), if_neg (by decide), if_pos (by decide)]]
      exact cg_o (c_G_figure_6 n b Rr P1 P2 T U hrep) (Nat.le_of_ble_eq_true rfl) (Nat.le_of_ble_eq_true rfl) (Nat.le_of_ble_eq_true rfl) (Nat.le_of_ble_eq_true rfl)
    · rw [show rg_oFig (n, Rr, P1, P2, T, U, b, lc) (nI 7) = (0, nI (T 3), (n, Rr, P1, P2, T, U, b, lc)) by rw [rg_oFig, if_neg (by decide), if_neg (by decide), if_neg (by decide), if_neg (by decide), if_neg (by decide), if_neg (by decide), if_neg (by decide), if_pos (by decide)]]
      exact cg_o (c_G_figure_7 n b Rr P1 P2 T U hrep) (Nat.le_of_ble_eq_true rfl) (Nat.le_of_ble_eq_true rfl) (Nat.le_of_ble_eq_true rfl) (Nat.le_of_ble_eq_true rfl)
set_option maxRecDepth 100000 in
theorem cg_prune {l : Launch} {dC : Nat → ClassId} {dI : Nat → Nat → Nat} {ad fo fa ur : Nat → Nat} {cI cL cF cA : ClassId} (hlt : l.stackTraces = false) {u : gw_S} {g : rg_A} (hu : gw_Ru u g)  : cg_I l yG_prune (Cond.code yG_prune prog_1_method_18_code 2 (some .int)) (dC, dI) (gw_tys cI cL cF cA) (fun u => gw_Wu ad fo fa ur cI cL cF cA u) gw_eA (gw_Wu ad fo fa ur cI cL cF cA u) [.ref (ad 0)] (rg_oPrune g) := by
  obtain ⟨rc, fp, sp, an, nn, cnt, pt, un, uc, pr, lc⟩ := u
  obtain ⟨n, Rr, P1, P2, T, U, b, c9⟩ := g
  obtain ⟨rfl, rfl, rfl⟩ : cnt = nI n ∧ pr = nI b ∧ lc = c9 := ⟨hu.2.1, hu.2.2.1, hu.2.2.2.1⟩
  have hrep : gw_Rep rc fp sp an (nI n) pt un uc (nI b) lc (n, Rr, P1, P2, T, U, b, lc) := hu
  have hok := hrep.1
  have hn60 : n ≤ 60 := hok.2.1
  have hb4 : b < 4 := hok.2.2.2.2.2.2.2.1
  exact cg_o (c_G_prune n b Rr P1 P2 T U hrep) (Nat.le_of_ble_eq_true rfl) (Nat.le_of_ble_eq_true rfl) (Nat.le_of_ble_eq_true rfl) (Nat.le_of_ble_eq_true rfl)
set_option maxRecDepth 100000 in
theorem cg_conflicts {l : Launch} {dC : Nat → ClassId} {dI : Nat → Nat → Nat} {ad fo fa ur : Nat → Nat} {cI cL cF cA : ClassId} (hlt : l.stackTraces = false) {u : gw_S} {g : rg_A} (hu : gw_Ru u g)  : cg_I l yG_conflicts (Cond.code yG_conflicts prog_1_method_13_code 1 (some .int)) (dC, dI) (gw_tys cI cL cF cA) (fun u => gw_Wu ad fo fa ur cI cL cF cA u) gw_eA (gw_Wu ad fo fa ur cI cL cF cA u) [.ref (ad 0)] (0, ra_c g, g) := by
  obtain ⟨rc, fp, sp, an, nn, cnt, pt, un, uc, pr, lc⟩ := u
  obtain ⟨n, Rr, P1, P2, T, U, b, c9⟩ := g
  obtain ⟨rfl, rfl, rfl⟩ : cnt = nI n ∧ pr = nI b ∧ lc = c9 := ⟨hu.2.1, hu.2.2.1, hu.2.2.2.1⟩
  have hrep : gw_Rep rc fp sp an (nI n) pt un uc (nI b) lc (n, Rr, P1, P2, T, U, b, lc) := hu
  have hok := hrep.1
  have hn60 : n ≤ 60 := hok.2.1
  have hb4 : b < 4 := hok.2.2.2.2.2.2.2.1
  exact cg_o (c_G_conflicts n b Rr P1 P2 T U hrep) (Nat.le_of_ble_eq_true rfl) (Nat.le_of_ble_eq_true rfl) (Nat.le_of_ble_eq_true rfl) (Nat.le_of_ble_eq_true rfl)
set_option maxRecDepth 100000 in
theorem cg_merge {l : Launch} {dC : Nat → ClassId} {dI : Nat → Nat → Nat} {ad fo fa ur : Nat → Nat} {cI cL cF cA : ClassId} (hlt : l.stackTraces = false) {u : gw_S} {g : rg_A} (hu : gw_Ru u g) (x y : Int32) : cg_I l yG_merge (Cond.code yG_merge prog_1_method_12_code 5 (some .int)) (dC, dI) (gw_tys cI cL cF cA) (fun u => gw_Wu ad fo fa ur cI cL cF cA u) gw_eI (gw_Wu ad fo fa ur cI cL cF cA u) [.ref (ad 0), .int x, .int y] (rg_oMerge g x y) := by
  obtain ⟨rc, fp, sp, an, nn, cnt, pt, un, uc, pr, lc⟩ := u
  obtain ⟨n, Rr, P1, P2, T, U, b, c9⟩ := g
  obtain ⟨rfl, rfl, rfl⟩ : cnt = nI n ∧ pr = nI b ∧ lc = c9 := ⟨hu.2.1, hu.2.2.1, hu.2.2.2.1⟩
  have hrep : gw_Rep rc fp sp an (nI n) pt un uc (nI b) lc (n, Rr, P1, P2, T, U, b, lc) := hu
  have hok := hrep.1
  have hn60 : n ≤ 60 := hok.2.1
  have hb4 : b < 4 := hok.2.2.2.2.2.2.2.1
  cases hB : rg_isB x with
  | true =>
    obtain ⟨j, hj, rfl⟩ := rg_isB_of hB
    by_cases hy : y < 0 ∨ 2 < y
    · rw [show rg_oMerge (n, Rr, P1, P2, T, U, b, lc) (nI j) y = (1, 0, (n, Rr, P1, P2, T, U, b, 0)) by rw [rg_oMerge, if_neg (fun h => hy.elim h.2.1 h.2.2)]; rfl]
      exact cg_x (c_G_merge_xs hlt n b Rr P1 P2 T U j hj y hy hrep) (Nat.le_of_ble_eq_true rfl) (Nat.le_of_ble_eq_true rfl) (Nat.le_of_ble_eq_true rfl) (Nat.le_of_ble_eq_true rfl) (Nat.le_of_ble_eq_true rfl) (Nat.le_of_ble_eq_true rfl) (show ((1 : Int32), _) ∈ gw_eI by simp [gw_eI]) rfl
    · obtain ⟨q, hq, rfl⟩ : ∃ q, q < 3 ∧ y = nI q := by
        obtain ⟨q, hq, e⟩ := nI_of2 (M := 2) (n := 2) (by decide) (fun h => hy (Or.inl h)) (Int32.not_lt.mp (fun h => hy (Or.inr h)))
        exact ⟨q, by omega, e⟩
      rw [show rg_oMerge (n, Rr, P1, P2, T, U, b, lc) (nI j) (nI q) = rg_mergeK (n, Rr, P1, P2, T, U, b, lc) j q by rw [rg_oMerge, if_pos ⟨hB, fun h => hy (Or.inl h), fun h => hy (Or.inr h)⟩, nI_clamp (by omega), nI_clamp (by omega)]]
      by_cases hn : rg_An P1 P2 (T b) (T j)
      · rw [show rg_mergeK (n, Rr, P1, P2, T, U, b, lc) j q = (0, 0, (n, Rr, P1, P2, T, U, b, 0)) by rw [rg_mergeK]; exact if_pos hn]
        exact cg_o (c_G_merge_n n b Rr P1 P2 T U j q hj hq hn hrep) (Nat.le_of_ble_eq_true rfl) (Nat.le_of_ble_eq_true rfl) (Nat.le_of_ble_eq_true rfl) (Nat.le_of_ble_eq_true rfl)
      · by_cases hm : rg_An P1 P2 (T j) (T b)
        · rw [show rg_mergeK (n, Rr, P1, P2, T, U, b, lc) j q = (0, 1, rg_come (n, Rr, P1, P2, T, U, b, 0) (T j)) by rw [rg_mergeK]; exact (if_neg hn).trans (if_pos hm)]
          exact cg_o (c_G_merge_f n b Rr P1 P2 T U j q hj hq hn hm hrep) (Nat.le_of_ble_eq_true rfl) (Nat.le_of_ble_eq_true rfl) (Nat.le_of_ble_eq_true rfl) (Nat.le_of_ble_eq_true rfl)
        · rw [show rg_mergeK (n, Rr, P1, P2, T, U, b, lc) j q = rg_joinK (n, Rr, P1, P2, T, U, b, lc) j q by rw [rg_mergeK]; exact (if_neg hn).trans (if_neg hm)]
          by_cases hc9 : rg_mc (Rr (rg_base P1 P2 (T b) (T j))) (Rr (T b)) (Rr (T j)) 2 ≠ 0 ∧ q = 0
          · rw [show rg_joinK (n, Rr, P1, P2, T, U, b, lc) j q = (2, 0, (n, Rr, P1, P2, T, U, b, rg_mc (Rr (rg_base P1 P2 (T b) (T j))) (Rr (T b)) (Rr (T j)) 2)) by rw [rg_joinK]; exact if_pos (Or.inl hc9)]
            exact cg_x (c_G_merge_xc hlt n b Rr P1 P2 T U j q hj hq hn hm hc9.1 hc9.2 hrep) (Nat.le_of_ble_eq_true rfl) (Nat.le_of_ble_eq_true rfl) (Nat.le_of_ble_eq_true rfl) (Nat.le_of_ble_eq_true rfl) (Nat.le_of_ble_eq_true rfl) (Nat.le_of_ble_eq_true rfl) (show ((2 : Int32), _) ∈ gw_eI by simp [gw_eI]) rfl
          · by_cases hn9 : n < 60
            · rw [show rg_joinK (n, Rr, P1, P2, T, U, b, lc) j q = (0, 2, rg_new (n, Rr, P1, P2, T, U, b, rg_mc (Rr (rg_base P1 P2 (T b) (T j))) (Rr (T b)) (Rr (T j)) 2) (rg_mg (Rr (rg_base P1 P2 (T b) (T j))) (Rr (T b)) (Rr (T j)) q) (nI (T j))) by rw [rg_joinK]; exact if_neg (fun h => h.elim hc9 (fun h => absurd hn9 (by have h : n = 60 := h; omega)))]
              exact cg_r (c_G_merge_j n b Rr P1 P2 T U j q hj hq hn hm hn9 hc9 hrep) (Nat.le_of_ble_eq_true rfl) (Nat.le_of_ble_eq_true rfl) (Nat.le_of_ble_eq_true rfl) (Nat.le_of_ble_eq_true rfl) (Nat.le_of_ble_eq_true rfl) (Nat.le_of_ble_eq_true rfl)
            · obtain rfl : n = 60 := by omega
              rw [show rg_joinK (60, Rr, P1, P2, T, U, b, lc) j q = (2, 0, (60, Rr, P1, P2, T, U, b, rg_mc (Rr (rg_base P1 P2 (T b) (T j))) (Rr (T b)) (Rr (T j)) 2)) by rw [rg_joinK]; exact if_pos (Or.inr rfl)]
              exact cg_x (c_G_merge_xf hlt b Rr P1 P2 T U j q hj hq hn hm hc9 hrep) (Nat.le_of_ble_eq_true rfl) (Nat.le_of_ble_eq_true rfl) (Nat.le_of_ble_eq_true rfl) (Nat.le_of_ble_eq_true rfl) (Nat.le_of_ble_eq_true rfl) (Nat.le_of_ble_eq_true rfl) (show ((2 : Int32), _) ∈ gw_eI by simp [gw_eI]) rfl
  | false =>
    rw [show rg_oMerge (n, Rr, P1, P2, T, U, b, lc) x y = (1, 0, (n, Rr, P1, P2, T, U, b, 0)) by rw [rg_oMerge, if_neg (fun h => absurd (hB.symm.trans h.1) (by decide))]; rfl]
    exact cg_x (c_G_merge_xb hlt n b Rr P1 P2 T U x y hB hrep) (Nat.le_of_ble_eq_true rfl) (Nat.le_of_ble_eq_true rfl) (Nat.le_of_ble_eq_true rfl) (Nat.le_of_ble_eq_true rfl) (Nat.le_of_ble_eq_true rfl) (Nat.le_of_ble_eq_true rfl) (show ((1 : Int32), _) ∈ gw_eI by simp [gw_eI]) rfl
set_option maxRecDepth 100000 in
theorem cg_value {l : Launch} {dC : Nat → ClassId} {dI : Nat → Nat → Nat} {ad fo fa ur : Nat → Nat} {cI cL cF cA : ClassId} (hlt : l.stackTraces = false) {u : gw_S} {g : rg_A} (hu : gw_Ru u g) (x f i : Int32) : cg_L l yG_value (Cond.code yG_value prog_1_method_15_code 5 (some .long)) (dC, dI) (gw_tys cI cL cF cA) (fun u => gw_Wu ad fo fa ur cI cL cF cA u) gw_eV (gw_Wu ad fo fa ur cI cL cF cA u) [.ref (ad 0), .int x, .int f, .int i] (rg_oVal g x f i) g := by
  obtain ⟨rc, fp, sp, an, nn, cnt, pt, un, uc, pr, lc⟩ := u
  obtain ⟨n, Rr, P1, P2, T, U, b, c9⟩ := g
  obtain ⟨rfl, rfl, rfl⟩ : cnt = nI n ∧ pr = nI b ∧ lc = c9 := ⟨hu.2.1, hu.2.2.1, hu.2.2.2.1⟩
  have hrep : gw_Rep rc fp sp an (nI n) pt un uc (nI b) lc (n, Rr, P1, P2, T, U, b, lc) := hu
  have hok := hrep.1
  have hn60 : n ≤ 60 := hok.2.1
  have hb4 : b < 4 := hok.2.2.2.2.2.2.2.1
  cases hB : rg_isR n x with
  | false =>
    rw [show rg_oVal (n, Rr, P1, P2, T, U, b, lc) x f i = (1, 0) by rw [rg_oVal]; show (bif rg_isR n x then _ else _) = _; rw [hB]; rfl]
    exact cg_xl (c_G_value_x hlt n b Rr P1 P2 T U x f i hB hrep) (Nat.le_of_ble_eq_true rfl) (Nat.le_of_ble_eq_true rfl) (Nat.le_of_ble_eq_true rfl) (Nat.le_of_ble_eq_true rfl) (Nat.le_of_ble_eq_true rfl) (Nat.le_of_ble_eq_true rfl) (show ((1 : Int32), _) ∈ gw_eV by simp [gw_eV])
  | true =>
    obtain ⟨j, hj, rfl⟩ := rg_isR_of hB
    have hcr : rg_CR (rc j) (Rr j) := hrep.2.2.2.2.1 j hj
    rw [show rg_oVal (n, Rr, P1, P2, T, U, b, lc) (nI j) f i = rg_val (Rr j) f i by rw [rg_oVal]; show (bif rg_isR n (nI j) then _ else _) = _; rw [hB, nI_clamp (by omega)]; rfl]
    by_cases hf : f < 0 ∨ 7 < f
    · have hne : ∀ k, k < 8 → ¬ f = nI k := fun k hk e => by
        subst e
        rcases hf with h | h
        · exact nI_pos (by omega) h
        · exact absurd h (Int32.not_lt.mpr (nI_le (show k ≤ 7 by omega) (by decide)))
      rw [show rg_val (Rr j) f i = (1, 0) by rw [rg_val, if_neg (show ¬ f = 0 from hne 0 (by decide)), if_neg (show ¬ f = 1 from hne 1 (by decide)), if_neg (show ¬ f = 2 from hne 2 (by decide)), if_neg (show ¬ f = 3 from hne 3 (by decide)), if_neg (show ¬ f = 4 from hne 4 (by decide)), if_neg (show ¬ f = 5 from hne 5 (by decide)), if_neg (show ¬ f = 6 from hne 6 (by decide)), if_neg (show ¬ f = 7 from hne 7 (by decide))]]
      exact cg_xl (c_G_value_xf hlt n b Rr P1 P2 T U j hj f i hf hrep) (Nat.le_of_ble_eq_true rfl) (Nat.le_of_ble_eq_true rfl) (Nat.le_of_ble_eq_true rfl) (Nat.le_of_ble_eq_true rfl) (Nat.le_of_ble_eq_true rfl) (Nat.le_of_ble_eq_true rfl) (show ((1 : Int32), _) ∈ gw_eV by simp [gw_eV])
    · obtain ⟨k, hk, rfl⟩ : ∃ k, k < 8 ∧ f = nI k := by
        obtain ⟨k, hk, e⟩ := nI_of2 (M := 7) (n := 7) (by decide) (fun h => hf (Or.inl h)) (Int32.not_lt.mp (fun h => hf (Or.inr h)))
        exact ⟨k, by omega, e⟩
      by_cases hk6 : k < 6
      · rw [show rg_val (Rr j) (nI k) i = (0, rc j k) by
          rcases (show k = 0 ∨ k = 1 ∨ k = 2 ∨ k = 3 ∨ k = 4 ∨ k = 5 by omega) with rfl | rfl | rfl | rfl | rfl | rfl
          · rw [rg_val, if_pos (by decide), (hcr 0 (by decide)).1]
          · rw [rg_val, if_neg (by decide), if_pos (by decide), (hcr 1 (by decide)).1]
          · rw [rg_val, if_neg (by decide), if_neg (by decide), if_pos (by decide)]; exact congrArg _ (hcr 0 (by decide)).2.1.symm
          · rw [rg_val, if_neg (by decide), if_neg (by decide), if_neg (by decide), if_pos (by decide)]; exact congrArg _ (hcr 1 (by decide)).2.1.symm
          · rw [rg_val, if_neg (by decide), if_neg (by decide), if_neg (by decide), if_neg (by decide), if_pos (by decide)]; exact congrArg _ (hcr 0 (by decide)).2.2.1.symm
          · rw [rg_val, if_neg (by decide), if_neg (by decide), if_neg (by decide), if_neg (by decide), if_neg (by decide), if_pos (by decide)]; exact congrArg _ (hcr 1 (by decide)).2.2.1.symm]
        exact cg_ol (c_G_value_c n b Rr P1 P2 T U j k hj hk6 i hrep) (Nat.le_of_ble_eq_true rfl) (Nat.le_of_ble_eq_true rfl) (Nat.le_of_ble_eq_true rfl) (Nat.le_of_ble_eq_true rfl)
      · obtain ⟨q, hq, rfl⟩ : ∃ q, q < 2 ∧ k = q + 6 := ⟨k - 6, by omega, by omega⟩
        rw [show rg_val (Rr j) (nI (q + 6)) i = rg_vL ((Rr j).2.2.2 q) i by
          rcases (show q = 0 ∨ q = 1 by omega) with rfl | rfl
          · rw [rg_val, if_neg (by decide), if_neg (by decide), if_neg (by decide), if_neg (by decide), if_neg (by decide), if_neg (by decide), if_pos (by decide)]
          · rw [rg_val, if_neg (by decide), if_neg (by decide), if_neg (by decide), if_neg (by decide), if_neg (by decide), if_neg (by decide), if_neg (by decide), if_pos (by decide)]]
        by_cases hm : i = -1
        · subst hm
          rw [rg_vL, if_pos rfl]
          exact cg_ol (c_G_value_m n b Rr P1 P2 T U j q hj hq _ rfl hrep) (Nat.le_of_ble_eq_true rfl) (Nat.le_of_ble_eq_true rfl) (Nat.le_of_ble_eq_true rfl) (Nat.le_of_ble_eq_true rfl)
        · by_cases hx : i < 0 ∨ nI ((Rr j).2.2.2 q).length ≤ i
          · rw [rg_vL, if_neg hm, if_pos hx]
            exact cg_xl (c_G_value_xi hlt n b Rr P1 P2 T U j q hj hq _ rfl i hm hx hrep) (Nat.le_of_ble_eq_true rfl) (Nat.le_of_ble_eq_true rfl) (Nat.le_of_ble_eq_true rfl) (Nat.le_of_ble_eq_true rfl) (Nat.le_of_ble_eq_true rfl) (Nat.le_of_ble_eq_true rfl) (show ((2 : Int32), _) ∈ gw_eV by simp [gw_eV])
          · obtain ⟨z, hz, rfl⟩ : ∃ z, z < ((Rr j).2.2.2 q).length ∧ i = nI z := by
              obtain ⟨z, hz, e⟩ := nI_of (x := i) (fun h => hx (Or.inl h))
              subst e
              exact ⟨z, Nat.lt_of_not_le (fun q9 => hx (Or.inr (nI_le q9 hz))), rfl⟩
            have hl8 : ((Rr j).2.2.2 q).length ≤ 8 := (hcr q hq).2.2.2.1
            rw [rg_vL, if_neg hm, if_neg hx, nI_clamp (by omega)]
            exact cg_ol (c_G_value_i n b Rr P1 P2 T U j q hj hq _ rfl z hz hrep) (Nat.le_of_ble_eq_true rfl) (Nat.le_of_ble_eq_true rfl) (Nat.le_of_ble_eq_true rfl) (Nat.le_of_ble_eq_true rfl)
