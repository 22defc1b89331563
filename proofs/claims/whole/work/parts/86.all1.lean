/-! Every method of the class, whatever its arguments. -/
abbrev gw_RM : Room := { frames := 8, cells := 17, slots := 70, locals := 160 }
def gw_eI : List (Int32 × String) := [(1, "java/lang/IllegalArgumentException"), (2, "java/lang/IllegalStateException")]
def gw_eL : List (Int32 × String) := [(1, "java/lang/IllegalArgumentException"), (2, "java/lang/IndexOutOfBoundsException"), (3, "java/lang/IllegalStateException")]
def gw_eV : List (Int32 × String) := [(1, "java/lang/IllegalArgumentException"), (2, "java/lang/IndexOutOfBoundsException")]
def gw_eA : List (Int32 × String) := [(1, "java/lang/IllegalArgumentException")]
def gw_eN : List (Int32 × String) := [(1, "java/util/NoSuchElementException")]
def gw_PX (es : List (Int32 × String)) (c : Int32) (g : rg_A) (E : String) (u : gw_S) : Prop := gw_Ru u g ∧ (c, E) ∈ es
section CGS
variable {l : Launch} {y : MethodName} {cb : Cond} {rm : Room} {D : va_G} {tys : List (ClassId × FieldType)} {wu : gw_S → va_W} {es : List (Int32 × String)} {ws : va_W} {av : List Value} {mc ms : Nat} {E : String} {g : rg_A}
def cg_I (l : Launch) (y : MethodName) (cb : Cond) (D : va_G) (tys : List (ClassId × FieldType)) (wu : gw_S → va_W) (es : List (Int32 × String)) (ws : va_W) (av : List Value) (o : Int32 × Int32 × rg_A) : Prop := rx_M l y (cb :: rg_tbl) gw_RM D rg_cl tys ws av (rg_QI D rg_cl tys (S := gw_S) (gw_Po o) wu) (rx_X D rg_cl tys (S := gw_S) (gw_PX es o.1 o.2.2) wu) 17 70
def cg_V (l : Launch) (y : MethodName) (cb : Cond) (D : va_G) (tys : List (ClassId × FieldType)) (wu : gw_S → va_W) (es : List (Int32 × String)) (ws : va_W) (av : List Value) (o : Int32 × Int32 × rg_A) : Prop := rx_M l y (cb :: rg_tbl) gw_RM D rg_cl tys ws av (rg_QV D rg_cl tys (S := gw_S) (gw_Pv o) wu) (rx_X D rg_cl tys (S := gw_S) (gw_PX es o.1 o.2.2) wu) 17 70
def cg_L (l : Launch) (y : MethodName) (cb : Cond) (D : va_G) (tys : List (ClassId × FieldType)) (wu : gw_S → va_W) (es : List (Int32 × String)) (ws : va_W) (av : List Value) (o : Int32 × Int64) (g : rg_A) : Prop := rx_M l y (cb :: rg_tbl) gw_RM D rg_cl tys ws av (rg_QL D rg_cl tys (S := gw_S) (gw_Pl o g) wu) (rx_X D rg_cl tys (S := gw_S) (gw_PX es o.1 g) wu) 17 70
theorem cg_o {o : Int32 × Int32 × rg_A} (h : rg_M l y (cb :: rg_tbl) rm D rg_cl tys ws av (rg_QI D rg_cl tys (S := gw_S) (gw_Po o) wu) 0 0) (h1 : rm.frames ≤ 8) (h2 : rm.cells ≤ 17) (h3 : rm.slots ≤ 70) (h4 : rm.locals ≤ 160) : cg_I l y cb D tys wu es ws av o := fun sz => rx_wide (rx_up h sz) h1 h2 h3 h4 (Nat.zero_le _) (Nat.zero_le _)
theorem cg_ov {o : Int32 × Int32 × rg_A} (h : rg_M l y (cb :: rg_tbl) rm D rg_cl tys ws av (rg_QV D rg_cl tys (S := gw_S) (gw_Pv o) wu) 0 0) (h1 : rm.frames ≤ 8) (h2 : rm.cells ≤ 17) (h3 : rm.slots ≤ 70) (h4 : rm.locals ≤ 160) : cg_V l y cb D tys wu es ws av o := fun sz => rx_wide (rx_up h sz) h1 h2 h3 h4 (Nat.zero_le _) (Nat.zero_le _)
theorem cg_ol {o : Int32 × Int64} (h : rg_M l y (cb :: rg_tbl) rm D rg_cl tys ws av (rg_QL D rg_cl tys (S := gw_S) (gw_Pl o g) wu) 0 0) (h1 : rm.frames ≤ 8) (h2 : rm.cells ≤ 17) (h3 : rm.slots ≤ 70) (h4 : rm.locals ≤ 160) : cg_L l y cb D tys wu es ws av o g := fun sz => rx_wide (rx_up h sz) h1 h2 h3 h4 (Nat.zero_le _) (Nat.zero_le _)
theorem cg_x {o : Int32 × Int32 × rg_A} {w9 : Unit → va_W} (h : rx_M l y (cb :: rg_tbl) rm D rg_cl tys ws av (rg_QI D rg_cl tys (S := Unit) (fun _ _ => False) w9) (rx_X D rg_cl tys (S := gw_S) (gw_Px E g) wu) mc ms) (h1 : rm.frames ≤ 8) (h2 : rm.cells ≤ 17) (h3 : rm.slots ≤ 70) (h4 : rm.locals ≤ 160) (h5 : mc ≤ 17) (h6 : ms ≤ 70) (ho : (o.1, E) ∈ es) (hg : o.2.2 = g) : cg_I l y cb D tys wu es ws av o := by
  intro sz
  refine rx_mono (rx_wide (h sz) h1 h2 h3 h4 h5 h6) (fun _ _ h => h) ?_ ?_ (fun _ h => h)
  · rintro a s o9 t - ⟨⟨r, u, e, hF, hB⟩, _⟩
    exact hF.elim
  · rintro a s E9 t - ⟨u, ⟨hE9, hu⟩, hB, hF⟩
    exact ⟨u, ⟨by rw [hg]; exact hu, by rw [hE9]; exact ho⟩, hB, hF⟩
theorem cg_xv {o : Int32 × Int32 × rg_A} {w9 : Unit → va_W} (h : rx_M l y (cb :: rg_tbl) rm D rg_cl tys ws av (rg_QV D rg_cl tys (S := Unit) (fun _ => False) w9) (rx_X D rg_cl tys (S := gw_S) (gw_Px E g) wu) mc ms) (h1 : rm.frames ≤ 8) (h2 : rm.cells ≤ 17) (h3 : rm.slots ≤ 70) (h4 : rm.locals ≤ 160) (h5 : mc ≤ 17) (h6 : ms ≤ 70) (ho : (o.1, E) ∈ es) (hg : o.2.2 = g) : cg_V l y cb D tys wu es ws av o := by
  intro sz
  refine rx_mono (rx_wide (h sz) h1 h2 h3 h4 h5 h6) (fun _ _ h => h) ?_ ?_ (fun _ h => h)
  · rintro a s o9 t - ⟨⟨u, e, hF, hB⟩, _⟩
    exact hF.elim
  · rintro a s E9 t - ⟨u, ⟨hE9, hu⟩, hB, hF⟩
    exact ⟨u, ⟨by rw [hg]; exact hu, by rw [hE9]; exact ho⟩, hB, hF⟩
theorem cg_xl {o : Int32 × Int64} {w9 : Unit → va_W} (h : rx_M l y (cb :: rg_tbl) rm D rg_cl tys ws av (rg_QL D rg_cl tys (S := Unit) (fun _ _ => False) w9) (rx_X D rg_cl tys (S := gw_S) (gw_Px E g) wu) mc ms) (h1 : rm.frames ≤ 8) (h2 : rm.cells ≤ 17) (h3 : rm.slots ≤ 70) (h4 : rm.locals ≤ 160) (h5 : mc ≤ 17) (h6 : ms ≤ 70) (ho : (o.1, E) ∈ es) : cg_L l y cb D tys wu es ws av o g := by
  intro sz
  refine rx_mono (rx_wide (h sz) h1 h2 h3 h4 h5 h6) (fun _ _ h => h) ?_ ?_ (fun _ h => h)
  · rintro a s o9 t - ⟨⟨r, u, e, hF, hB⟩, _⟩
    exact hF.elim
  · rintro a s E9 t - ⟨u, ⟨hE9, hu⟩, hB, hF⟩
    exact ⟨u, ⟨hu, by rw [hE9]; exact ho⟩, hB, hF⟩
theorem cg_r {o : Int32 × Int32 × rg_A} {w9 : Unit → va_W} (h : rx_M l y (cb :: rg_tbl) rm D rg_cl tys ws av (rg_QI D rg_cl tys (S := gw_S) (gw_Po o) wu) (rx_X D rg_cl tys (S := Unit) (fun _ _ => False) w9) mc ms) (h1 : rm.frames ≤ 8) (h2 : rm.cells ≤ 17) (h3 : rm.slots ≤ 70) (h4 : rm.locals ≤ 160) (h5 : mc ≤ 17) (h6 : ms ≤ 70) : cg_I l y cb D tys wu es ws av o := by
  intro sz
  refine rx_mono (rx_wide (h sz) h1 h2 h3 h4 h5 h6) (fun _ _ h => h) (fun _ _ _ _ _ h => h) ?_ (fun _ h => h)
  rintro a s E9 t - ⟨u, hF, _⟩
  exact hF.elim
end CGS
set_option maxRecDepth 100000 in
theorem cg_put {l : Launch} {dC : Nat → ClassId} {dI : Nat → Nat → Nat} {ad fo fa ur : Nat → Nat} {cI cL cF cA : ClassId} (hlt : l.stackTraces = false) {u : gw_S} {g : rg_A} (hu : gw_Ru u g) (f v : Int32) : cg_I l yG_put (Cond.code yG_put prog_1_method_2_code 3 (some .int)) (dC, dI) (gw_tys cI cL cF cA) (fun u => gw_Wu ad fo fa ur cI cL cF cA u) gw_eI (gw_Wu ad fo fa ur cI cL cF cA u) [.ref (ad 0), .int f, .int v] (rg_oPut g f v) := by
  obtain ⟨rc, fp, sp, an, nn, cnt, pt, un, uc, pr, lc⟩ := u
  obtain ⟨n, Rr, P1, P2, T, U, b, c9⟩ := g
  obtain ⟨rfl, rfl, rfl⟩ : cnt = nI n ∧ pr = nI b ∧ lc = c9 := ⟨hu.2.1, hu.2.2.1, hu.2.2.2.1⟩
  have hrep : gw_Rep rc fp sp an (nI n) pt un uc (nI b) lc (n, Rr, P1, P2, T, U, b, lc) := hu
  have hok := hrep.1
  have hn60 : n ≤ 60 := hok.2.1
  have hb4 : b < 4 := hok.2.2.2.2.2.2.2.1
  by_cases hf : f = 0 ∨ f = 1
  · obtain ⟨k, hk2, rfl⟩ : ∃ k, k < 2 ∧ f = nI (k + 0) := by
      rcases hf with rfl | rfl
      · exact ⟨0, by decide, by decide⟩
      · exact ⟨1, by decide, by decide⟩
    rw [show rg_oPut (n, Rr, P1, P2, T, U, b, lc) (nI (k + 0)) v = rg_chg 2 (n, Rr, P1, P2, T, U, b, lc) (rg_setN (Rr (T b)) k v) by
      rcases (show k = 0 ∨ k = 1 by omega) with rfl | rfl
      · rw [rg_oPut, if_pos (by decide)]
      · rw [rg_oPut, if_neg (by decide), if_pos (by decide)]]
    cases hs : rg_sf (rg_setN (Rr (T b)) k v) (Rr (T b)) (k) with
    | true => exact cg_o (c_G_put_s n b Rr P1 P2 T U k hk2 v hs hrep) (Nat.le_of_ble_eq_true rfl) (Nat.le_of_ble_eq_true rfl) (Nat.le_of_ble_eq_true rfl) (Nat.le_of_ble_eq_true rfl)
    | false =>
      by_cases hn9 : n < 60
      · exact cg_o (c_G_put_n n b Rr P1 P2 T U k hk2 v hs hn9 hrep) (Nat.le_of_ble_eq_true rfl) (Nat.le_of_ble_eq_true rfl) (Nat.le_of_ble_eq_true rfl) (Nat.le_of_ble_eq_true rfl)
      · obtain rfl : n = 60 := by omega
        rw [rg_chg_full (g := (60, Rr, P1, P2, T, U, b, lc)) (X := rg_setN (Rr (T b)) k v) (fun h9 => absurd (hs.symm.trans ((rg_one_diff (by omega) (rg_sf_setN hk2)).mp h9)) (by decide)) rfl]
        exact cg_x (c_G_put_x hlt b Rr P1 P2 T U k hk2 v hs hrep) (Nat.le_of_ble_eq_true rfl) (Nat.le_of_ble_eq_true rfl) (Nat.le_of_ble_eq_true rfl) (Nat.le_of_ble_eq_true rfl) (Nat.le_of_ble_eq_true rfl) (Nat.le_of_ble_eq_true rfl) (show ((2 : Int32), _) ∈ gw_eI by simp [gw_eI]) rfl
  · rw [show rg_oPut (n, Rr, P1, P2, T, U, b, lc) f v = (1, 0, (n, Rr, P1, P2, T, U, b, lc)) by rw [rg_oPut, if_neg (fun h => hf (Or.inl h)), if_neg (fun h => hf (Or.inr h))]]
    exact cg_x (c_G_put_xf hlt n b Rr P1 P2 T U f v (fun h => hf (Or.inl h)) (fun h => hf (Or.inr h)) hrep) (Nat.le_of_ble_eq_true rfl) (Nat.le_of_ble_eq_true rfl) (Nat.le_of_ble_eq_true rfl) (Nat.le_of_ble_eq_true rfl) (Nat.le_of_ble_eq_true rfl) (Nat.le_of_ble_eq_true rfl) (show ((1 : Int32), _) ∈ gw_eI by simp [gw_eI]) rfl
set_option maxRecDepth 100000 in
theorem cg_add {l : Launch} {dC : Nat → ClassId} {dI : Nat → Nat → Nat} {ad fo fa ur : Nat → Nat} {cI cL cF cA : ClassId} (hlt : l.stackTraces = false) {u : gw_S} {g : rg_A} (hu : gw_Ru u g) (f v : Int32) : cg_I l yG_add (Cond.code yG_add prog_1_method_3_code 3 (some .int)) (dC, dI) (gw_tys cI cL cF cA) (fun u => gw_Wu ad fo fa ur cI cL cF cA u) gw_eI (gw_Wu ad fo fa ur cI cL cF cA u) [.ref (ad 0), .int f, .int v] (rg_oAdd g f v) := by
  obtain ⟨rc, fp, sp, an, nn, cnt, pt, un, uc, pr, lc⟩ := u
  obtain ⟨n, Rr, P1, P2, T, U, b, c9⟩ := g
  obtain ⟨rfl, rfl, rfl⟩ : cnt = nI n ∧ pr = nI b ∧ lc = c9 := ⟨hu.2.1, hu.2.2.1, hu.2.2.2.1⟩
  have hrep : gw_Rep rc fp sp an (nI n) pt un uc (nI b) lc (n, Rr, P1, P2, T, U, b, lc) := hu
  have hok := hrep.1
  have hn60 : n ≤ 60 := hok.2.1
  have hb4 : b < 4 := hok.2.2.2.2.2.2.2.1
  by_cases hf : f = 2 ∨ f = 3
  · obtain ⟨k, hk2, rfl⟩ : ∃ k, k < 2 ∧ f = nI (k + 2) := by
      rcases hf with rfl | rfl
      · exact ⟨0, by decide, by decide⟩
      · exact ⟨1, by decide, by decide⟩
    rw [show rg_oAdd (n, Rr, P1, P2, T, U, b, lc) (nI (k + 2)) v = rg_chg 2 (n, Rr, P1, P2, T, U, b, lc) (rg_setK (Rr (T b)) k ((Rr (T b)).2.1 k + v.toInt64)) by
      rcases (show k = 0 ∨ k = 1 by omega) with rfl | rfl
      · rw [rg_oAdd, if_pos (by decide)]
      · rw [rg_oAdd, if_neg (by decide), if_pos (by decide)]]
    cases hs : rg_sf (rg_setK (Rr (T b)) k ((Rr (T b)).2.1 k + v.toInt64)) (Rr (T b)) (k + 2) with
    | true => exact cg_o (c_G_add_s n b Rr P1 P2 T U k hk2 v hs hrep) (Nat.le_of_ble_eq_true rfl) (Nat.le_of_ble_eq_true rfl) (Nat.le_of_ble_eq_true rfl) (Nat.le_of_ble_eq_true rfl)
    | false =>
      by_cases hn9 : n < 60
      · exact cg_o (c_G_add_n n b Rr P1 P2 T U k hk2 v hs hn9 hrep) (Nat.le_of_ble_eq_true rfl) (Nat.le_of_ble_eq_true rfl) (Nat.le_of_ble_eq_true rfl) (Nat.le_of_ble_eq_true rfl)
      · obtain rfl : n = 60 := by omega
        rw [rg_chg_full (g := (60, Rr, P1, P2, T, U, b, lc)) (X := rg_setK (Rr (T b)) k ((Rr (T b)).2.1 k + v.toInt64)) (fun h9 => absurd (hs.symm.trans ((rg_one_diff (by omega) (rg_sf_setK hk2)).mp h9)) (by decide)) rfl]
        exact cg_x (c_G_add_x hlt b Rr P1 P2 T U k hk2 v hs hrep) (Nat.le_of_ble_eq_true rfl) (Nat.le_of_ble_eq_true rfl) (Nat.le_of_ble_eq_true rfl) (Nat.le_of_ble_eq_true rfl) (Nat.le_of_ble_eq_true rfl) (Nat.le_of_ble_eq_true rfl) (show ((2 : Int32), _) ∈ gw_eI by simp [gw_eI]) rfl
  · rw [show rg_oAdd (n, Rr, P1, P2, T, U, b, lc) f v = (1, 0, (n, Rr, P1, P2, T, U, b, lc)) by rw [rg_oAdd, if_neg (fun h => hf (Or.inl h)), if_neg (fun h => hf (Or.inr h))]]
    exact cg_x (c_G_add_xf hlt n b Rr P1 P2 T U f v (fun h => hf (Or.inl h)) (fun h => hf (Or.inr h)) hrep) (Nat.le_of_ble_eq_true rfl) (Nat.le_of_ble_eq_true rfl) (Nat.le_of_ble_eq_true rfl) (Nat.le_of_ble_eq_true rfl) (Nat.le_of_ble_eq_true rfl) (Nat.le_of_ble_eq_true rfl) (show ((1 : Int32), _) ∈ gw_eI by simp [gw_eI]) rfl
set_option maxRecDepth 100000 in
theorem cg_mark {l : Launch} {dC : Nat → ClassId} {dI : Nat → Nat → Nat} {ad fo fa ur : Nat → Nat} {cI cL cF cA : ClassId} (hlt : l.stackTraces = false) {u : gw_S} {g : rg_A} (hu : gw_Ru u g) (f x : Int32) (w : Bool) : cg_I l yG_mark (Cond.code yG_mark prog_1_method_4_code 6 (some .int)) (dC, dI) (gw_tys cI cL cF cA) (fun u => gw_Wu ad fo fa ur cI cL cF cA u) gw_eI (gw_Wu ad fo fa ur cI cL cF cA u) [.ref (ad 0), .int f, .int x, .int (bif w then 1 else 0)] (rg_oMark g f x w) := by
  obtain ⟨rc, fp, sp, an, nn, cnt, pt, un, uc, pr, lc⟩ := u
  obtain ⟨n, Rr, P1, P2, T, U, b, c9⟩ := g
  obtain ⟨rfl, rfl, rfl⟩ : cnt = nI n ∧ pr = nI b ∧ lc = c9 := ⟨hu.2.1, hu.2.2.1, hu.2.2.2.1⟩
  have hrep : gw_Rep rc fp sp an (nI n) pt un uc (nI b) lc (n, Rr, P1, P2, T, U, b, lc) := hu
  have hok := hrep.1
  have hn60 : n ≤ 60 := hok.2.1
  have hb4 : b < 4 := hok.2.2.2.2.2.2.2.1
  by_cases hf : f = 4 ∨ f = 5
  · obtain ⟨k, hk2, rfl⟩ : ∃ k, k < 2 ∧ f = nI (k + 4) := by
      rcases hf with rfl | rfl
      · exact ⟨0, by decide, by decide⟩
      · exact ⟨1, by decide, by decide⟩
    by_cases hx : x < 0 ∨ 31 < x
    · rw [show rg_oMark (n, Rr, P1, P2, T, U, b, lc) (nI (k + 4)) x w = (1, 0, (n, Rr, P1, P2, T, U, b, lc)) by rw [rg_oMark, if_pos hx]]
      exact cg_x (c_G_mark_xx hlt n b Rr P1 P2 T U k hk2 x w hx hrep) (Nat.le_of_ble_eq_true rfl) (Nat.le_of_ble_eq_true rfl) (Nat.le_of_ble_eq_true rfl) (Nat.le_of_ble_eq_true rfl) (Nat.le_of_ble_eq_true rfl) (Nat.le_of_ble_eq_true rfl) (show ((1 : Int32), _) ∈ gw_eI by simp [gw_eI]) rfl
    · obtain ⟨j, hj, rfl⟩ : ∃ j, j < 32 ∧ x = nI j := by
        obtain ⟨j, hj, e⟩ := nI_of2 (M := 31) (n := 31) (by decide) (fun h => hx (Or.inl h)) (Int32.not_lt.mp (fun h => hx (Or.inr h)))
        exact ⟨j, by omega, e⟩
      rw [show rg_oMark (n, Rr, P1, P2, T, U, b, lc) (nI (k + 4)) (nI j) w = rg_chg 2 (n, Rr, P1, P2, T, U, b, lc) (rg_setE (Rr (T b)) k (rg_mk ((Rr (T b)).2.2.1 k) j w)) by
        rw [rg_oMark, if_neg hx, nI_clamp (by omega)]
        rcases (show k = 0 ∨ k = 1 by omega) with rfl | rfl
        · rw [if_pos (by decide)]
        · rw [if_neg (by decide), if_pos (by decide)]]
      cases hs : rg_sf (rg_setE (Rr (T b)) k (rg_mk ((Rr (T b)).2.2.1 k) j w)) (Rr (T b)) (k + 4) with
      | true => exact cg_o (c_G_mark_s n b Rr P1 P2 T U k j hk2 hj w hs hrep) (Nat.le_of_ble_eq_true rfl) (Nat.le_of_ble_eq_true rfl) (Nat.le_of_ble_eq_true rfl) (Nat.le_of_ble_eq_true rfl)
      | false =>
        by_cases hn9 : n < 60
        · exact cg_o (c_G_mark_n n b Rr P1 P2 T U k j hk2 hj w hs hn9 hrep) (Nat.le_of_ble_eq_true rfl) (Nat.le_of_ble_eq_true rfl) (Nat.le_of_ble_eq_true rfl) (Nat.le_of_ble_eq_true rfl)
        · obtain rfl : n = 60 := by omega
          rw [rg_chg_full (g := (60, Rr, P1, P2, T, U, b, lc)) (X := rg_setE (Rr (T b)) k (rg_mk ((Rr (T b)).2.2.1 k) j w)) (fun h9 => absurd (hs.symm.trans ((rg_one_diff (by omega) (rg_sf_setE hk2)).mp h9)) (by decide)) rfl]
          exact cg_x (c_G_mark_x hlt b Rr P1 P2 T U k j hk2 hj w hs hrep) (Nat.le_of_ble_eq_true rfl) (Nat.le_of_ble_eq_true rfl) (Nat.le_of_ble_eq_true rfl) (Nat.le_of_ble_eq_true rfl) (Nat.le_of_ble_eq_true rfl) (Nat.le_of_ble_eq_true rfl) (show ((2 : Int32), _) ∈ gw_eI by simp [gw_eI]) rfl
  · rw [show rg_oMark (n, Rr, P1, P2, T, U, b, lc) f x w = (1, 0, (n, Rr, P1, P2, T, U, b, lc)) by
      rw [rg_oMark]
      split
      · rfl
      · rw [if_neg (fun h => hf (Or.inl h)), if_neg (fun h => hf (Or.inr h))]]
    exact cg_x (c_G_mark_xf hlt n b Rr P1 P2 T U f x w (fun h => hf (Or.inl h)) (fun h => hf (Or.inr h)) hrep) (Nat.le_of_ble_eq_true rfl) (Nat.le_of_ble_eq_true rfl) (Nat.le_of_ble_eq_true rfl) (Nat.le_of_ble_eq_true rfl) (Nat.le_of_ble_eq_true rfl) (Nat.le_of_ble_eq_true rfl) (show ((1 : Int32), _) ∈ gw_eI by simp [gw_eI]) rfl
set_option maxRecDepth 100000 in
theorem cg_insert {l : Launch} {dC : Nat → ClassId} {dI : Nat → Nat → Nat} {ad fo fa ur : Nat → Nat} {cI cL cF cA : ClassId} (hlt : l.stackTraces = false) {u : gw_S} {g : rg_A} (hu : gw_Ru u g) (f x v : Int32) : cg_I l yG_insert (Cond.code yG_insert prog_1_method_5_code 4 (some .int)) (dC, dI) (gw_tys cI cL cF cA) (fun u => gw_Wu ad fo fa ur cI cL cF cA u) gw_eL (gw_Wu ad fo fa ur cI cL cF cA u) [.ref (ad 0), .int f, .int x, .int v] (rg_oIns g f x v) := by
  obtain ⟨rc, fp, sp, an, nn, cnt, pt, un, uc, pr, lc⟩ := u
  obtain ⟨n, Rr, P1, P2, T, U, b, c9⟩ := g
  obtain ⟨rfl, rfl, rfl⟩ : cnt = nI n ∧ pr = nI b ∧ lc = c9 := ⟨hu.2.1, hu.2.2.1, hu.2.2.2.1⟩
  have hrep : gw_Rep rc fp sp an (nI n) pt un uc (nI b) lc (n, Rr, P1, P2, T, U, b, lc) := hu
  have hok := hrep.1
  have hn60 : n ≤ 60 := hok.2.1
  have hb4 : b < 4 := hok.2.2.2.2.2.2.2.1
  by_cases hf : f = 6 ∨ f = 7
  · obtain ⟨k, hk2, rfl⟩ : ∃ k, k < 2 ∧ f = nI (k + 6) := by
      rcases hf with rfl | rfl
      · exact ⟨0, by decide, by decide⟩
      · exact ⟨1, by decide, by decide⟩
    have hl8 : (((Rr (T b)).2.2.2 k)).length ≤ 8 := hok.2.2.2.2.2.2.2.2 (T b) (hok.2.2.2.2.2.2.1 b hb4).1 k hk2
    rw [show rg_oIns (n, Rr, P1, P2, T, U, b, lc) (nI (k + 6)) x v = rg_insK (n, Rr, P1, P2, T, U, b, lc) k x v by
      rcases (show k = 0 ∨ k = 1 by omega) with rfl | rfl
      · rw [rg_oIns, if_pos (by decide)]
      · rw [rg_oIns, if_neg (by decide), if_pos (by decide)]]
    by_cases hx : x < 0 ∨ nI (((Rr (T b)).2.2.2 k)).length < x
    · rw [show rg_insK (n, Rr, P1, P2, T, U, b, lc) k x v = (2, 0, (n, Rr, P1, P2, T, U, b, lc)) by rw [rg_insK, if_pos hx]]
      exact cg_x (c_G_insert_xp hlt n b Rr P1 P2 T U k hk2 _ rfl x v hx hrep) (Nat.le_of_ble_eq_true rfl) (Nat.le_of_ble_eq_true rfl) (Nat.le_of_ble_eq_true rfl) (Nat.le_of_ble_eq_true rfl) (Nat.le_of_ble_eq_true rfl) (Nat.le_of_ble_eq_true rfl) (show ((2 : Int32), _) ∈ gw_eL by simp [gw_eL]) rfl
    · obtain ⟨j, hj, rfl⟩ : ∃ j, j ≤ (((Rr (T b)).2.2.2 k)).length ∧ x = nI j := by
        obtain ⟨j, hj, e⟩ := nI_of (x := x) (fun h => hx (Or.inl h))
        subst e
        exact ⟨j, Nat.le_of_not_lt (fun q => hx (Or.inr (nI_lt q hj))), rfl⟩
      by_cases h8 : (((Rr (T b)).2.2.2 k)).length = 8
      · rw [show rg_insK (n, Rr, P1, P2, T, U, b, lc) k (nI j) v = (3, 0, (n, Rr, P1, P2, T, U, b, lc)) by rw [rg_insK, if_neg hx, if_pos (Or.inl h8)]]
        exact cg_x (c_G_insert_xl hlt n b Rr P1 P2 T U k hk2 _ rfl j v hj h8 hrep) (Nat.le_of_ble_eq_true rfl) (Nat.le_of_ble_eq_true rfl) (Nat.le_of_ble_eq_true rfl) (Nat.le_of_ble_eq_true rfl) (Nat.le_of_ble_eq_true rfl) (Nat.le_of_ble_eq_true rfl) (show ((3 : Int32), _) ∈ gw_eL by simp [gw_eL]) rfl
      · have hs : rg_sf (rg_setL (Rr (T b)) k (rg_insL ((Rr (T b)).2.2.2 k) j v)) (Rr (T b)) (k + 6) = false := by
          rw [rg_sfL]
          refine decide_eq_false (fun e => ?_)
          have e1 : (rg_setL (Rr (T b)) k (rg_insL ((Rr (T b)).2.2.2 k) j v)).2.2.2 k = rg_insL ((Rr (T b)).2.2.2 k) j v := rg_ups _ _ _
          have e2 := congrArg List.length (e1.symm.trans e)
          rw [rg_insL_len hj] at e2
          omega
        by_cases hn9 : n < 60
        · rw [show rg_insK (n, Rr, P1, P2, T, U, b, lc) k (nI j) v = rg_chg 2 (n, Rr, P1, P2, T, U, b, lc) (rg_setL (Rr (T b)) k (rg_insL ((Rr (T b)).2.2.2 k) j v)) by rw [rg_insK, if_neg hx, if_neg (fun h => h.elim h8 (fun h => absurd hn9 (by have h : n = 60 := h; omega))), nI_clamp (by omega)]]
          exact cg_o (c_G_insert_n n b Rr P1 P2 T U k hk2 _ rfl j v hj (by omega) hs hn9 hrep) (Nat.le_of_ble_eq_true rfl) (Nat.le_of_ble_eq_true rfl) (Nat.le_of_ble_eq_true rfl) (Nat.le_of_ble_eq_true rfl)
        · obtain rfl : n = 60 := by omega
          rw [show rg_insK (60, Rr, P1, P2, T, U, b, lc) k (nI j) v = (3, 0, (60, Rr, P1, P2, T, U, b, lc)) by rw [rg_insK, if_neg hx, if_pos (Or.inr rfl)]]
          exact cg_x (c_G_insert_x hlt b Rr P1 P2 T U k hk2 _ rfl j v hj (by omega) hs hrep) (Nat.le_of_ble_eq_true rfl) (Nat.le_of_ble_eq_true rfl) (Nat.le_of_ble_eq_true rfl) (Nat.le_of_ble_eq_true rfl) (Nat.le_of_ble_eq_true rfl) (Nat.le_of_ble_eq_true rfl) (show ((3 : Int32), _) ∈ gw_eL by simp [gw_eL]) rfl
  · rw [show rg_oIns (n, Rr, P1, P2, T, U, b, lc) f x v = (1, 0, (n, Rr, P1, P2, T, U, b, lc)) by rw [rg_oIns, if_neg (fun h => hf (Or.inl h)), if_neg (fun h => hf (Or.inr h))]]
    exact cg_x (c_G_insert_xf hlt n b Rr P1 P2 T U f x v (fun h => hf (Or.inl h)) (fun h => hf (Or.inr h)) hrep) (Nat.le_of_ble_eq_true rfl) (Nat.le_of_ble_eq_true rfl) (Nat.le_of_ble_eq_true rfl) (Nat.le_of_ble_eq_true rfl) (Nat.le_of_ble_eq_true rfl) (Nat.le_of_ble_eq_true rfl) (show ((1 : Int32), _) ∈ gw_eL by simp [gw_eL]) rfl
set_option maxRecDepth 100000 in
theorem cg_remove {l : Launch} {dC : Nat → ClassId} {dI : Nat → Nat → Nat} {ad fo fa ur : Nat → Nat} {cI cL cF cA : ClassId} (hlt : l.stackTraces = false) {u : gw_S} {g : rg_A} (hu : gw_Ru u g) (f x : Int32) : cg_I l yG_remove (Cond.code yG_remove prog_1_method_6_code 3 (some .int)) (dC, dI) (gw_tys cI cL cF cA) (fun u => gw_Wu ad fo fa ur cI cL cF cA u) gw_eL (gw_Wu ad fo fa ur cI cL cF cA u) [.ref (ad 0), .int f, .int x] (rg_oRem g f x) := by
  obtain ⟨rc, fp, sp, an, nn, cnt, pt, un, uc, pr, lc⟩ := u
  obtain ⟨n, Rr, P1, P2, T, U, b, c9⟩ := g
  obtain ⟨rfl, rfl, rfl⟩ : cnt = nI n ∧ pr = nI b ∧ lc = c9 := ⟨hu.2.1, hu.2.2.1, hu.2.2.2.1⟩
  have hrep : gw_Rep rc fp sp an (nI n) pt un uc (nI b) lc (n, Rr, P1, P2, T, U, b, lc) := hu
  have hok := hrep.1
  have hn60 : n ≤ 60 := hok.2.1
  have hb4 : b < 4 := hok.2.2.2.2.2.2.2.1
  by_cases hf : f = 6 ∨ f = 7
  · obtain ⟨k, hk2, rfl⟩ : ∃ k, k < 2 ∧ f = nI (k + 6) := by
      rcases hf with rfl | rfl
      · exact ⟨0, by decide, by decide⟩
      · exact ⟨1, by decide, by decide⟩
    have hl8 : (((Rr (T b)).2.2.2 k)).length ≤ 8 := hok.2.2.2.2.2.2.2.2 (T b) (hok.2.2.2.2.2.2.1 b hb4).1 k hk2
    rw [show rg_oRem (n, Rr, P1, P2, T, U, b, lc) (nI (k + 6)) x = rg_remK (n, Rr, P1, P2, T, U, b, lc) k x by
      rcases (show k = 0 ∨ k = 1 by omega) with rfl | rfl
      · rw [rg_oRem, if_pos (by decide)]
      · rw [rg_oRem, if_neg (by decide), if_pos (by decide)]]
    by_cases hx : x < 0 ∨ nI (((Rr (T b)).2.2.2 k)).length ≤ x
    · rw [show rg_remK (n, Rr, P1, P2, T, U, b, lc) k x = (2, 0, (n, Rr, P1, P2, T, U, b, lc)) by rw [rg_remK, if_pos hx]]
      exact cg_x (c_G_remove_xp hlt n b Rr P1 P2 T U k hk2 _ rfl x hx hrep) (Nat.le_of_ble_eq_true rfl) (Nat.le_of_ble_eq_true rfl) (Nat.le_of_ble_eq_true rfl) (Nat.le_of_ble_eq_true rfl) (Nat.le_of_ble_eq_true rfl) (Nat.le_of_ble_eq_true rfl) (show ((2 : Int32), _) ∈ gw_eL by simp [gw_eL]) rfl
    · obtain ⟨j, hj, rfl⟩ : ∃ j, j < (((Rr (T b)).2.2.2 k)).length ∧ x = nI j := by
        obtain ⟨j, hj, e⟩ := nI_of (x := x) (fun h => hx (Or.inl h))
        subst e
        exact ⟨j, Nat.lt_of_not_le (fun q => hx (Or.inr (nI_le q hj))), rfl⟩
      have hs : rg_sf (rg_setL (Rr (T b)) k (rg_remL ((Rr (T b)).2.2.2 k) j)) (Rr (T b)) (k + 6) = false := by
        rw [rg_sfL]
        refine decide_eq_false (fun e => ?_)
        have e1 : (rg_setL (Rr (T b)) k (rg_remL ((Rr (T b)).2.2.2 k) j)).2.2.2 k = rg_remL ((Rr (T b)).2.2.2 k) j := rg_ups _ _ _
        have e2 := congrArg List.length (e1.symm.trans e)
        rw [rg_remL_len hj] at e2
        omega
      by_cases hn9 : n < 60
      · rw [show rg_remK (n, Rr, P1, P2, T, U, b, lc) k (nI j) = rg_chg 2 (n, Rr, P1, P2, T, U, b, lc) (rg_setL (Rr (T b)) k (rg_remL ((Rr (T b)).2.2.2 k) j)) by rw [rg_remK, if_neg hx, if_neg (fun h => absurd hn9 (by have h : n = 60 := h; omega)), nI_clamp (by omega)]]
        exact cg_o (c_G_remove_n n b Rr P1 P2 T U k hk2 _ rfl j hj hs hn9 hrep) (Nat.le_of_ble_eq_true rfl) (Nat.le_of_ble_eq_true rfl) (Nat.le_of_ble_eq_true rfl) (Nat.le_of_ble_eq_true rfl)
      · obtain rfl : n = 60 := by omega
        rw [show rg_remK (60, Rr, P1, P2, T, U, b, lc) k (nI j) = (3, 0, (60, Rr, P1, P2, T, U, b, lc)) by rw [rg_remK, if_neg hx, if_pos rfl]]
        exact cg_x (c_G_remove_x hlt b Rr P1 P2 T U k hk2 _ rfl j hj hs hrep) (Nat.le_of_ble_eq_true rfl) (Nat.le_of_ble_eq_true rfl) (Nat.le_of_ble_eq_true rfl) (Nat.le_of_ble_eq_true rfl) (Nat.le_of_ble_eq_true rfl) (Nat.le_of_ble_eq_true rfl) (show ((3 : Int32), _) ∈ gw_eL by simp [gw_eL]) rfl
  · rw [show rg_oRem (n, Rr, P1, P2, T, U, b, lc) f x = (1, 0, (n, Rr, P1, P2, T, U, b, lc)) by rw [rg_oRem, if_neg (fun h => hf (Or.inl h)), if_neg (fun h => hf (Or.inr h))]]
    exact cg_x (c_G_remove_xf hlt n b Rr P1 P2 T U f x (fun h => hf (Or.inl h)) (fun h => hf (Or.inr h)) hrep) (Nat.le_of_ble_eq_true rfl) (Nat.le_of_ble_eq_true rfl) (Nat.le_of_ble_eq_true rfl) (Nat.le_of_ble_eq_true rfl) (Nat.le_of_ble_eq_true rfl) (Nat.le_of_ble_eq_true rfl) (show ((1 : Int32), _) ∈ gw_eL by simp [gw_eL]) rfl
