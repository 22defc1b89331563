/-! A contract in a wider room; joinField and take, whatever the field. -/
theorem rx_room {rm rm' : Room} {pl : Platform} {s : State} (h : s.hasRoom pl rm' = true) (h1 : rm.frames ≤ rm'.frames) (h2 : rm.cells ≤ rm'.cells) (h3 : rm.slots ≤ rm'.slots) (h4 : rm.locals ≤ rm'.locals) : s.hasRoom pl rm = true := by
  simp only [State.hasRoom, Bool.and_eq_true, decide_eq_true_iff] at h ⊢
  obtain ⟨⟨⟨⟨a1, a2, a3, a4, a5, a6⟩, a7⟩, a8⟩, a9⟩ := h
  exact ⟨⟨⟨⟨by omega, by omega, by omega, by omega, by omega, a6⟩, by omega⟩, by omega⟩, a9⟩
theorem rx_wide {l : Launch} {y : MethodName} {wd : List Cond} {rm rm' : Room} {mc ms mc' ms' : Nat} {P : Array Value → State → Prop} {Qc : Array Value → State → Outcome → State → Prop} {XC : String → State → State → Prop} {free : Addr → Prop} (h : vx_Met l y wd rm P Qc XC mc ms free) (h1 : rm.frames ≤ rm'.frames) (h2 : rm.cells ≤ rm'.cells) (h3 : rm.slots ≤ rm'.slots) (h4 : rm.locals ≤ rm'.locals) (hm : mc ≤ mc') (hs : ms ≤ ms') : vx_Met l y wd rm' P Qc XC mc' ms' free := by
  intro p e ha hc hk s m args below hf hs9 hp hK
  rw [Spec.appliesLoose_iff hf] at hs9
  obtain ⟨a1, a2, a3, a4, a5, a6, a7, a8⟩ := hs9
  obtain ⟨n, o, b1, b2, b3, b4⟩ := h p e ha hc hk s m args below hf ((Spec.appliesLoose_iff hf).mpr ⟨a1, a2, a3, a4, a5, a6, rx_room a7 h1 h2 h3 h4, a8⟩) hp hK
  refine ⟨n, o, b1, b2, b3, ?_⟩
  rcases b4 with ⟨q, L, hE, hL⟩ | ⟨q, ho, E, ce, L, c1, c2, c3, c4, c5, c6, c7⟩
  · exact Or.inl ⟨q, L, ⟨hE.1, hE.2.1, hE.2.2.mono hm hs⟩, hL⟩
  · exact Or.inr ⟨q, ho, E, ce, L, c1, c2, c3, c4, c5, c6.mono hm hs, c7⟩
theorem rg_upself {α : Type} (r : Nat → α) (i : Nat) : va_up r i (r i) = r := by
  funext b
  by_cases e : b = i
  · rw [e, rg_ups]
  · rw [rg_upn _ _ e]
def gw_FV (f : Nat) (d : Nat → Int64) (M : rg_R) : Prop :=
  if f < 2 then d f = (M.1 f).toInt64 else if f < 4 then d f = M.2.1 (f - 2) else if f < 6 then d f = rg_zx (M.2.2.1 (f - 4)) else rg_LC d (f - 6) (M.2.2.2 (f - 6))
def gw_FO (f : Nat) (d d0 : Nat → Int64) : Prop := ∀ x, x ≠ f → (f < 6 ∨ x < 8 + (f - 6) * 8 ∨ 8 + (f - 6) * 8 + 8 ≤ x) → d x = d0 x
theorem gw_FV_n {d : Nat → Int64} {M : rg_R} {k : Nat} (hk : k < 2) (h : d k = (M.1 k).toInt64) : gw_FV k d M := by unfold gw_FV; rw [if_pos hk]; exact h
theorem gw_FV_k {d : Nat → Int64} {M : rg_R} {k : Nat} (hk : k < 2) (h : d (k + 2) = M.2.1 k) : gw_FV (k + 2) d M := by unfold gw_FV; rw [if_neg (by omega), if_pos (by omega), Nat.add_sub_cancel]; exact h
theorem gw_FV_e {d : Nat → Int64} {M : rg_R} {k : Nat} (hk : k < 2) (h : d (k + 4) = rg_zx (M.2.2.1 k)) : gw_FV (k + 4) d M := by unfold gw_FV; rw [if_neg (by omega), if_neg (by omega), if_pos (by omega), Nat.add_sub_cancel]; exact h
theorem gw_FV_l {d : Nat → Int64} {M : rg_R} {k : Nat} (h : rg_LC d k (M.2.2.2 k)) : gw_FV (k + 6) d M := by unfold gw_FV; rw [if_neg (by omega), if_neg (by omega), if_neg (by omega), Nat.add_sub_cancel]; exact h
theorem gw_FO_u {f : Nat} {d : Nat → Int64} {v : Int64} : gw_FO f (vp_updL d f v) d := fun x h _ => pk_uLn h
theorem gw_FO_l {k : Nat} {d d0 : Nat → Int64} (h : rg_Ot k d d0) : gw_FO (k + 6) d d0 := fun x h1 h2 => by
  rw [Nat.add_sub_cancel] at h2
  exact h x h1 (by omega)
theorem gw_FO_r {f : Nat} {d : Nat → Int64} : gw_FO f d d := fun _ _ _ => rfl
theorem gw_FO_t {f : Nat} {a b c : Nat → Int64} (h : gw_FO f a b) (h' : gw_FO f b c) : gw_FO f a c := fun x h1 h2 => (h x h1 h2).trans (h' x h1 h2)
theorem gw_FV_o {f g : Nat} {u d : Nat → Int64} {M : rg_R} (hf : f < 8) (hg : g < 8) (hn : g ≠ f) (ho : gw_FO f u d) (h : gw_FV g d M) : gw_FV g u M := by
  unfold gw_FV at h ⊢
  by_cases h1 : g < 2
  · rw [if_pos h1] at h ⊢; rw [ho g hn (by omega)]; exact h
  · rw [if_neg h1] at h ⊢
    by_cases h2 : g < 4
    · rw [if_pos h2] at h ⊢; rw [ho g hn (by omega)]; exact h
    · rw [if_neg h2] at h ⊢
      by_cases h3 : g < 6
      · rw [if_pos h3] at h ⊢; rw [ho g hn (by omega)]; exact h
      · rw [if_neg h3] at h ⊢
        refine ⟨?_, fun q hq => ?_⟩
        · rw [ho _ (by omega) (by omega)]; exact h.1
        · rw [ho _ (by omega) (by omega)]; exact h.2 q hq
theorem gw_FV_all {d : Nat → Int64} {M : rg_R} (hl : ∀ k, k < 2 → (M.2.2.2 k).length ≤ 8) (h : ∀ g, g < 8 → gw_FV g d M) : rg_CR d M := by
  intro k hk
  have h1 := h k (by omega)
  have h2 := h (k + 2) (by omega)
  have h3 := h (k + 4) (by omega)
  have h4 := h (k + 6) (by omega)
  unfold gw_FV at h1 h2 h3 h4
  rw [if_pos hk] at h1
  rw [if_neg (by omega), if_pos (by omega), Nat.add_sub_cancel] at h2
  rw [if_neg (by omega), if_neg (by omega), if_pos (by omega), Nat.add_sub_cancel] at h3
  rw [if_neg (by omega), if_neg (by omega), if_neg (by omega), Nat.add_sub_cancel] at h4
  exact ⟨h1, h2, h3, hl k hk, h4.1, h4.2⟩
theorem gw_FV_CR {d : Nat → Int64} {M : rg_R} (h : rg_CR d M) {f : Nat} (hf : f < 8) : gw_FV f d M := by
  rcases (show f < 2 ∨ (2 ≤ f ∧ f < 4) ∨ (4 ≤ f ∧ f < 6) ∨ (6 ≤ f ∧ f < 8) by omega) with q | q | q | q
  · exact gw_FV_n q (h f q).1
  · obtain ⟨k, rfl⟩ : ∃ k, f = k + 2 := ⟨f - 2, by omega⟩; exact gw_FV_k (by omega) (h k (by omega)).2.1
  · obtain ⟨k, rfl⟩ : ∃ k, f = k + 4 := ⟨f - 4, by omega⟩; exact gw_FV_e (by omega) (h k (by omega)).2.2.1
  · obtain ⟨k, rfl⟩ : ∃ k, f = k + 6 := ⟨f - 6, by omega⟩; exact gw_FV_l (rg_CR_LC h (by omega))
theorem gw_FV_c {f : Nat} (hf : f < 8) {d e : Nat → Int64} {M M' : rg_R} (h : gw_FV f d M) (h1 : f < 2 → M'.1 f = M.1 f) (h2 : 2 ≤ f → f < 6 → False) (h3 : 6 ≤ f → M'.2.2.2 (f - 6) = M.2.2.2 (f - 6)) : gw_FV f d M' := by
  unfold gw_FV at h ⊢
  by_cases q1 : f < 2
  · rw [if_pos q1] at h ⊢; rw [h1 q1]; exact h
  · rw [if_neg q1] at h ⊢
    by_cases q2 : f < 6
    · exact (h2 (by omega) q2).elim
    · rw [if_neg (by omega), if_neg q2] at h ⊢; rw [h3 (by omega)]; exact h
def gw_JF (d0 : Nat → Int64) (X Y Z : rg_R) (f : Nat) (z : Int32) (u : Nat → Int64) : Prop := z = (bif !(gw_cf X Y Z f) then 1 else 0) ∧ gw_FO f u d0 ∧ (gw_cf X Y Z f = false → ∀ s, gw_FV f u (rg_mg X Y Z s))
theorem rg_pk1 {α : Type} [DecidableEq α] {s : Nat} {x y z : α} (h : y = x) : ¬ rg_ch (decide (x = y)) (decide (x = z)) (decide (y = z)) = 3 ∧ rg_pick (rg_ch (decide (x = y)) (decide (x = z)) (decide (y = z))) s x y z = z := by
  subst h
  by_cases e : y = z
  · subst e; simp [rg_ch, rg_pick]
  · simp [rg_ch, rg_pick, e]
theorem rg_pk2 {α : Type} [DecidableEq α] {s : Nat} {x y z : α} (h : ¬ y = x) (h2 : z = x ∨ z = y) : ¬ rg_ch (decide (x = y)) (decide (x = z)) (decide (y = z)) = 3 ∧ rg_pick (rg_ch (decide (x = y)) (decide (x = z)) (decide (y = z))) s x y z = y := by
  have h' : ¬ x = y := fun e => h e.symm
  rcases h2 with rfl | rfl
  · simp [rg_ch, rg_pick, h']
  · simp [rg_ch, rg_pick, h']
theorem rg_pk3 {α : Type} [DecidableEq α] {x y z : α} (h : ¬ y = x) (h2 : ¬ z = x) (h3 : ¬ z = y) : rg_ch (decide (x = y)) (decide (x = z)) (decide (y = z)) = 3 := by
  have h' : ¬ x = y := fun e => h e.symm
  have h2' : ¬ x = z := fun e => h2 e.symm
  have h3' : ¬ y = z := fun e => h3 e.symm
  simp [rg_ch, h', h2', h3']
theorem rg_sfN {X Y : rg_R} {k : Nat} (hk : k < 2) : rg_sf X Y k = decide (X.1 k = Y.1 k) := by unfold rg_sf; rw [if_pos hk]
theorem rg_sfL {X Y : rg_R} {k : Nat} : rg_sf X Y (k + 6) = decide (X.2.2.2 k = Y.2.2.2 k) := by unfold rg_sf; rw [if_neg (by omega), if_neg (by omega), if_neg (by omega), Nat.add_sub_cancel]
theorem gw_cf_n {X Y Z : rg_R} {k : Nat} (hk : k < 2) : gw_cf X Y Z k = decide (rg_wN X Y Z k = 3) := by unfold gw_cf; rw [if_pos hk]
theorem gw_cf_m {X Y Z : rg_R} {f : Nat} (h : 2 ≤ f) (h6 : f < 6) : gw_cf X Y Z f = false := by unfold gw_cf; rw [if_neg (by omega), if_pos h6]
theorem gw_cf_l {X Y Z : rg_R} {k : Nat} : gw_cf X Y Z (k + 6) = (decide (rg_wL X Y Z k = 3) && !(rg_jn (rg_wL X Y Z k) (X.2.2.2 k) (Y.2.2.2 k) (Z.2.2.2 k))) := by unfold gw_cf; rw [if_neg (by omega), if_neg (by omega), Nat.add_sub_cancel]
-- the preferred way's field, where there is a conflict
theorem gw_FV_pref {X Y Z V : rg_R} {s f : Nat} {d : Nat → Int64} (hf : f < 8) (hV : V = if s = 2 then Z else Y) (hc : gw_cf X Y Z f = true) (h : gw_FV f d V) : gw_FV f d (rg_mg X Y Z s) := by
  refine gw_FV_c (e := d) hf h (fun q => ?_) (fun q1 q2 => ?_) (fun q => ?_)
  · rw [gw_cf_n q, decide_eq_true_iff] at hc
    show rg_pick (rg_wN X Y Z f) s _ _ _ = _
    rw [hc, hV]; unfold rg_pick; rw [if_pos rfl]; split <;> rfl
  · rw [gw_cf_m q1 q2] at hc; cases hc
  · obtain ⟨k, rfl⟩ : ∃ k, f = k + 6 := ⟨f - 6, by omega⟩
    rw [gw_cf_l, Bool.and_eq_true, decide_eq_true_iff, Bool.not_eq_true'] at hc
    rw [Nat.add_sub_cancel]
    show rg_mL (rg_wL X Y Z k) s _ _ _ = _
    rw [rg_mL_f hc.2, hc.1, hV]; unfold rg_pick; rw [if_pos rfl]; split <;> rfl
theorem c_F_take {l : Launch} {dC : Nat → ClassId} {dI : Nat → Nat → Nat} {ad fo fa ur : Nat → Nat} {cI cL cF cA : ClassId} {rec : Nat → Nat → Int64} {fp : Nat → Int32} {sp : Nat → Int32} {an : Nat → Int64} {nn : Nat → Int32} {cnt : Int32} {pt : Nat → Int32} {un : Nat → Nat → Int32} {uc : Nat → Int32} {pr : Int32} {lc : Int32} (i j f : Nat) (hi : i < 61) (hj : j < 61) (hij : j ≠ i) (hf : f < 8) (V : rg_R) (hV : rg_CR (rec j) V) : rg_M l yF_take (Cond.code yF_take prog_4_method_14_code 3 none :: rg_tbl) { frames := 1, cells := 0, slots := 0, locals := 30 } (dC, dI) rg_cl (gw_tys cI cL cF cA) (gw_W ad fo fa ur cI cL cF cA rec fp sp an nn cnt pt un uc pr lc) [.ref ((fo i)), .ref ((fo j)), .int (nI f)] (rg_QV (dC, dI) rg_cl (gw_tys cI cL cF cA) (S := (Nat → Int64)) (fun u => gw_FO f u (rec i) ∧ gw_FV f u V) (fun u => gw_W ad fo fa ur cI cL cF cA (va_up rec i u) fp sp an nn cnt pt un uc pr lc)) 0 0 := by
  intro sz
  by_cases h6 : f < 6
  · refine rg_mono (c_F_take_lo i j f hi hj h6 sz) (fun _ _ h => h) ?_ (fun _ h => h)
    rintro a s o t - ⟨⟨u, e, -, hB⟩, hF⟩
    refine ⟨⟨vp_updL (rec i) f (rec j f), e, ⟨gw_FO_u, ?_⟩, hB⟩, hF⟩
    have h := gw_FV_CR hV hf
    unfold gw_FV at h ⊢
    by_cases q1 : f < 2
    · rw [if_pos q1] at h ⊢; rw [pk_uLs]; exact h
    · rw [if_neg q1] at h ⊢
      by_cases q2 : f < 4
      · rw [if_pos q2] at h ⊢; rw [pk_uLs]; exact h
      · rw [if_neg q2, if_pos h6] at h ⊢; rw [pk_uLs]; exact h
  · obtain ⟨k, rfl⟩ : ∃ k, f = k + 6 := ⟨f - 6, by omega⟩
    refine rg_mono (c_F_take_hi i j k hi hj hij (by omega) (V.2.2.2 k) (rg_CR_LC hV (by omega)) sz) (fun _ _ h => h) ?_ (fun _ h => h)
    rintro a s o t - ⟨⟨u, e, hu, hB⟩, hF⟩
    exact ⟨⟨u, e, ⟨gw_FO_l hu.2, gw_FV_l hu.1⟩, hB⟩, hF⟩
set_option maxRecDepth 100000 in
theorem c_J_joinField {l : Launch} {dC : Nat → ClassId} {dI : Nat → Nat → Nat} {ad fo fa ur : Nat → Nat} {cI cL cF cA : ClassId} {rec : Nat → Nat → Int64} {fp : Nat → Int32} {sp : Nat → Int32} {an : Nat → Int64} {nn : Nat → Int32} {cnt : Int32} {pt : Nat → Int32} {un : Nat → Nat → Int32} {uc : Nat → Int32} {pr : Int32} {lc : Int32} (i j q f : Nat) (hi : i < 60) (hj : j < 60) (hq : q < 60) (hf : f < 8) (X Y Z : rg_R) (hX : rg_CR (rec i) X) (hY : rg_CR (rec j) Y) (hZ : rg_CR (rec q) Z) : rx_M l yJ_joinField (Cond.code yJ_joinField prog_5_method_3_code 5 (some .boolean) :: rg_tbl) { frames := 3, cells := 2, slots := 8, locals := 83 } (dC, dI) rg_cl (gw_tys cI cL cF cA) (gw_W ad fo fa ur cI cL cF cA rec fp sp an nn cnt pt un uc pr lc) [.ref ((fo 60)), .ref ((fo i)), .ref ((fo j)), .ref ((fo q)), .int (nI f)] (rg_QI (dC, dI) rg_cl (gw_tys cI cL cF cA) (S := (Nat → Int64)) (gw_JF (rec 60) X Y Z f) (fun u => gw_W ad fo fa ur cI cL cF cA (va_up rec 60 u) fp sp an nn cnt pt un uc pr lc)) (rx_X (dC, dI) rg_cl (gw_tys cI cL cF cA) (S := Unit) (fun _ _ => False) (fun _ => gw_W ad fo fa ur cI cL cF cA rec fp sp an nn cnt pt un uc pr lc)) 2 8 := by
  intro sz
  rcases (show f < 2 ∨ (2 ≤ f ∧ f < 4) ∨ (4 ≤ f ∧ f < 6) ∨ (6 ≤ f ∧ f < 8) by omega) with q9 | q9 | q9 | q9
  · have hX1 := (hX f q9).1
    have hY1 := (hY f q9).1
    have hZ1 := (hZ f q9).1
    cases ka : rg_sf Y X f with
    | true =>
      have e1 : Y.1 f = X.1 f := by rw [rg_sfN q9] at ka; exact of_decide_eq_true ka
      have hc : gw_cf X Y Z f = false := by rw [gw_cf_n q9]; exact decide_eq_false (rg_pk1 (s := 0) e1).1
      refine rx_mono (rx_wide (rx_up (c_J_joinField_n1 i j q f hi hj hq q9 X Y Z hX hY hZ ka) sz) (Nat.le_of_ble_eq_true rfl) (Nat.le_of_ble_eq_true rfl) (Nat.le_of_ble_eq_true rfl) (Nat.le_of_ble_eq_true rfl) (Nat.le_of_ble_eq_true rfl) (Nat.le_of_ble_eq_true rfl)) (fun _ _ h => h) ?_ (fun _ _ _ _ _ h => h) (fun _ h => h)
      rintro a s o t - ⟨⟨r, u, e, hz, hB⟩, hF⟩
      exact ⟨⟨r, vp_updL (rec 60) f (rec q f), e, ⟨by rw [hc]; exact hz, gw_FO_u, fun _ s => gw_FV_n q9 (by rw [pk_uLs, hZ1]; exact congrArg _ (rg_pk1 e1).2.symm)⟩, hB⟩, hF⟩
    | false =>
      have e1 : ¬ Y.1 f = X.1 f := by rw [rg_sfN q9] at ka; exact of_decide_eq_false ka
      by_cases kb : rg_sf Z X f = true ∨ rg_sf Z Y f = true
      · have e2 : Z.1 f = X.1 f ∨ Z.1 f = Y.1 f := by rw [rg_sfN q9, rg_sfN q9] at kb; exact kb.imp of_decide_eq_true of_decide_eq_true
        have hc : gw_cf X Y Z f = false := by rw [gw_cf_n q9]; exact decide_eq_false (rg_pk2 (s := 0) e1 e2).1
        refine rx_mono (rx_wide (rx_up (c_J_joinField_n2 i j q f hi hj hq q9 X Y Z hX hY hZ ka kb) sz) (Nat.le_of_ble_eq_true rfl) (Nat.le_of_ble_eq_true rfl) (Nat.le_of_ble_eq_true rfl) (Nat.le_of_ble_eq_true rfl) (Nat.le_of_ble_eq_true rfl) (Nat.le_of_ble_eq_true rfl)) (fun _ _ h => h) ?_ (fun _ _ _ _ _ h => h) (fun _ h => h)
        rintro a s o t - ⟨⟨r, u, e, hz, hB⟩, hF⟩
        exact ⟨⟨r, vp_updL (rec 60) f (rec j f), e, ⟨by rw [hc]; exact hz, gw_FO_u, fun _ s => gw_FV_n q9 (by rw [pk_uLs, hY1]; exact congrArg _ (rg_pk2 e1 e2).2.symm)⟩, hB⟩, hF⟩
      · have kz : rg_sf Z X f = false := by cases h : rg_sf Z X f with | false => rfl | true => exact absurd (Or.inl h) kb
        have ky : rg_sf Z Y f = false := by cases h : rg_sf Z Y f with | false => rfl | true => exact absurd (Or.inr h) kb
        have hc : gw_cf X Y Z f = true := by rw [gw_cf_n q9]; rw [rg_sfN q9] at kz ky; exact decide_eq_true (rg_pk3 e1 (of_decide_eq_false kz) (of_decide_eq_false ky))
        refine rx_mono (rx_wide (rx_up (c_J_joinField_n3 i j q f hi hj hq q9 X Y Z hX hY hZ ka kz ky) sz) (Nat.le_of_ble_eq_true rfl) (Nat.le_of_ble_eq_true rfl) (Nat.le_of_ble_eq_true rfl) (Nat.le_of_ble_eq_true rfl) (Nat.le_of_ble_eq_true rfl) (Nat.le_of_ble_eq_true rfl)) (fun _ _ h => h) ?_ (fun _ _ _ _ _ h => h) (fun _ h => h)
        rintro a s o t - ⟨⟨r, u, e, hz, hB⟩, hF⟩
        refine ⟨⟨r, rec 60, e, ⟨by rw [hc]; exact hz, gw_FO_r, fun h => absurd (hc.symm.trans h) (by decide)⟩, ?_⟩, hF⟩
        unfold rg_B at hB ⊢
        simp only [rg_upself]
        exact hB
  · obtain ⟨k, rfl⟩ : ∃ k, f = k + 2 := ⟨f - 2, by omega⟩
    have hk : k < 2 := by omega
    have hc := gw_cf_m (X := X) (Y := Y) (Z := Z) q9.1 (by omega)
    refine rx_mono (rx_wide (rx_up (c_J_joinField_k i j q k hi hj hq (by omega)) sz) (Nat.le_of_ble_eq_true rfl) (Nat.le_of_ble_eq_true rfl) (Nat.le_of_ble_eq_true rfl) (Nat.le_of_ble_eq_true rfl) (Nat.le_of_ble_eq_true rfl) (Nat.le_of_ble_eq_true rfl)) (fun _ _ h => h) ?_ (fun _ _ _ _ _ h => h) (fun _ h => h)
    rintro a s o t - ⟨⟨r, u, e, hz, hB⟩, hF⟩
    exact ⟨⟨r, vp_updL (rec 60) (k + 2) (((rec j (k + 2)) + (rec q (k + 2))) - (rec i (k + 2))), e, ⟨by rw [hc]; exact hz, gw_FO_u, fun _ s => gw_FV_k hk (by rw [pk_uLs, (hX k hk).2.1, (hY k hk).2.1, (hZ k hk).2.1]; rfl)⟩, hB⟩, hF⟩
  · obtain ⟨k, rfl⟩ : ∃ k, f = k + 4 := ⟨f - 4, by omega⟩
    have hk : k < 2 := by omega
    have hc := gw_cf_m (X := X) (Y := Y) (Z := Z) (show 2 ≤ k + 4 by omega) (by omega)
    refine rx_mono (rx_wide (rx_up (c_J_joinField_e i j q k hi hj hq (by omega)) sz) (Nat.le_of_ble_eq_true rfl) (Nat.le_of_ble_eq_true rfl) (Nat.le_of_ble_eq_true rfl) (Nat.le_of_ble_eq_true rfl) (Nat.le_of_ble_eq_true rfl) (Nat.le_of_ble_eq_true rfl)) (fun _ _ h => h) ?_ (fun _ _ _ _ _ h => h) (fun _ h => h)
    rintro a s o t - ⟨⟨r, u, e, hz, hB⟩, hF⟩
    exact ⟨⟨r, vp_updL (rec 60) (k + 4) (((rec j (k + 4)) &&& (rec q (k + 4))) ||| (((rec j (k + 4)) ||| (rec q (k + 4))) &&& ((rec i (k + 4)) ^^^ (-1)))), e, ⟨by rw [hc]; exact hz, gw_FO_u, fun _ s => gw_FV_e hk (by rw [pk_uLs, (hX k hk).2.2.1, (hY k hk).2.2.1, (hZ k hk).2.2.1]; exact rg_zx_join)⟩, hB⟩, hF⟩
  · obtain ⟨k, rfl⟩ : ∃ k, f = k + 6 := ⟨f - 6, by omega⟩
    have hk : k < 2 := by omega
    cases ka : rg_sf Y X (k + 6) with
    | true =>
      have e1 : Y.2.2.2 k = X.2.2.2 k := by rw [rg_sfL] at ka; exact of_decide_eq_true ka
      have hw : ¬ rg_wL X Y Z k = 3 := (rg_pk1 (s := 0) e1).1
      have hc : gw_cf X Y Z (k + 6) = false := by rw [gw_cf_l, decide_eq_false hw]; rfl
      refine rx_mono (rx_wide (rx_up (c_J_joinField_l1 i j q k hi hj hq hk X Y Z hX hY hZ ka) sz) (Nat.le_of_ble_eq_true rfl) (Nat.le_of_ble_eq_true rfl) (Nat.le_of_ble_eq_true rfl) (Nat.le_of_ble_eq_true rfl) (Nat.le_of_ble_eq_true rfl) (Nat.le_of_ble_eq_true rfl)) (fun _ _ h => h) ?_ (fun _ _ _ _ _ h => h) (fun _ h => h)
      rintro a s o t - ⟨⟨r, u, e, hz, hB⟩, hF⟩
      exact ⟨⟨r, u, e, ⟨by rw [hc]; exact hz.1, gw_FO_l hz.2.2, fun _ s => gw_FV_l (by show rg_LC u k (rg_mL (rg_wL X Y Z k) s _ _ _); rw [rg_mL_f (rg_jn_n hw), show rg_pick (rg_wL X Y Z k) s (X.2.2.2 k) (Y.2.2.2 k) (Z.2.2.2 k) = Z.2.2.2 k from (rg_pk1 e1).2]; exact hz.2.1)⟩, hB⟩, hF⟩
    | false =>
      have e1 : ¬ Y.2.2.2 k = X.2.2.2 k := by rw [rg_sfL] at ka; exact of_decide_eq_false ka
      by_cases kb : rg_sf Z X (k + 6) = true ∨ rg_sf Z Y (k + 6) = true
      · have e2 : Z.2.2.2 k = X.2.2.2 k ∨ Z.2.2.2 k = Y.2.2.2 k := by rw [rg_sfL, rg_sfL] at kb; exact kb.imp of_decide_eq_true of_decide_eq_true
        have hw : ¬ rg_wL X Y Z k = 3 := (rg_pk2 (s := 0) e1 e2).1
        have hc : gw_cf X Y Z (k + 6) = false := by rw [gw_cf_l, decide_eq_false hw]; rfl
        refine rx_mono (rx_wide (rx_up (c_J_joinField_l2 i j q k hi hj hq hk X Y Z hX hY hZ ka kb) sz) (Nat.le_of_ble_eq_true rfl) (Nat.le_of_ble_eq_true rfl) (Nat.le_of_ble_eq_true rfl) (Nat.le_of_ble_eq_true rfl) (Nat.le_of_ble_eq_true rfl) (Nat.le_of_ble_eq_true rfl)) (fun _ _ h => h) ?_ (fun _ _ _ _ _ h => h) (fun _ h => h)
        rintro a s o t - ⟨⟨r, u, e, hz, hB⟩, hF⟩
        exact ⟨⟨r, u, e, ⟨by rw [hc]; exact hz.1, gw_FO_l hz.2.2, fun _ s => gw_FV_l (by show rg_LC u k (rg_mL (rg_wL X Y Z k) s _ _ _); rw [rg_mL_f (rg_jn_n hw), show rg_pick (rg_wL X Y Z k) s (X.2.2.2 k) (Y.2.2.2 k) (Z.2.2.2 k) = Y.2.2.2 k from (rg_pk2 e1 e2).2]; exact hz.2.1)⟩, hB⟩, hF⟩
      · have kz : rg_sf Z X (k + 6) = false := by cases h : rg_sf Z X (k + 6) with | false => rfl | true => exact absurd (Or.inl h) kb
        have ky : rg_sf Z Y (k + 6) = false := by cases h : rg_sf Z Y (k + 6) with | false => rfl | true => exact absurd (Or.inr h) kb
        have hw : rg_wL X Y Z k = 3 := by have kz := kz; have ky := ky; rw [rg_sfL] at kz ky; exact rg_pk3 e1 (of_decide_eq_false kz) (of_decide_eq_false ky)
        have hc : gw_cf X Y Z (k + 6) = !(rg_jok (X.2.2.2 k) (Y.2.2.2 k) (Z.2.2.2 k)) := by rw [gw_cf_l, decide_eq_true hw, rg_jn_3 hw]; rfl
        refine rx_mono (rx_wide (c_J_joinField_l3 i j q k hi hj hq hk (X.2.2.2 k) (Y.2.2.2 k) (Z.2.2.2 k) (hX k hk).2.2.2.1 (rg_CR_LC hX hk) (hY k hk).2.2.2.1 (rg_CR_LC hY hk) (hZ k hk).2.2.2.1 (rg_CR_LC hZ hk) X Y Z hX hY hZ ka kz ky sz) (Nat.le_of_ble_eq_true rfl) (Nat.le_of_ble_eq_true rfl) (Nat.le_of_ble_eq_true rfl) (Nat.le_of_ble_eq_true rfl) (Nat.le_of_ble_eq_true rfl) (Nat.le_of_ble_eq_true rfl)) (fun _ _ h => h) ?_ (fun _ _ _ _ _ h => h) (fun _ h => h)
        rintro a s o t - ⟨⟨r, u, e, hz, hB⟩, hF⟩
        refine ⟨⟨r, u, e, ⟨by rw [hc, Bool.not_not]; refine hz.1, ?_, fun h s => gw_FV_l ?_⟩, hB⟩, hF⟩
        · cases hj9 : rg_jok (X.2.2.2 k) (Y.2.2.2 k) (Z.2.2.2 k) with
          | false => rw [hz.2.2 hj9]; exact gw_FO_r
          | true => exact gw_FO_l (hz.2.1 hj9).2
        · have hj9 : rg_jok (X.2.2.2 k) (Y.2.2.2 k) (Z.2.2.2 k) = true := by rw [hc] at h; cases h9 : rg_jok (X.2.2.2 k) (Y.2.2.2 k) (Z.2.2.2 k) with | true => rfl | false => rw [h9] at h; cases h
          show rg_LC u k (rg_mL (rg_wL X Y Z k) s _ _ _)
          rw [rg_mL_t ((rg_jn_3 hw).trans hj9)]
          exact (hz.2.1 hj9).1
