theorem rg_D_fst {A : Nat → Prop} {ws ws' : va_W} (h : ws.map Prod.fst = ws'.map Prod.fst) (hD : va_D A ws) : va_D A ws' := by
  rw [rg_D_nd] at hD ⊢
  refine ⟨by rw [← h]; exact hD.1, fun q hq => ?_⟩
  have h1 : q.1 ∈ ws.map Prod.fst := by rw [h]; exact List.mem_map.mpr ⟨q, hq, rfl⟩
  obtain ⟨q', hq', e⟩ := List.mem_map.mp h1
  rw [← e]
  exact hD.2 q' hq'
theorem rg_arrV_c {cA : ClassId} {n : Nat} {f g : Nat → Value} (h : ∀ j, j < n → f j = g j) : arrV cA n f = arrV cA n g := by
  have e : (arrV cA n f).slots = (arrV cA n g).slots := by
    apply Array.ext
    · rw [arrV_size, arrV_size]
    · intro i hi hj
      have hn : i < n := by rw [arrV_size] at hi; exact hi
      have e1 := arrV_read cA f hn
      have e2 := arrV_read cA g hn
      rw [Array.getElem?_eq_getElem hi] at e1
      rw [Array.getElem?_eq_getElem hj] at e2
      rw [Option.some.inj e1, Option.some.inj e2, h i hn]
  have e9 : ∀ (f : Nat → Value), arrV cA n f = { cls := cA, slots := (arrV cA n f).slots, vm := .none } := fun _ => rfl
  rw [e9 f, e9 g, e]
theorem rg_P_q {D : va_G} {cl : List vw_C} {H : Heap} (xs : va_W) {ws : va_W} {a n : Nat} {cA : ClassId} {f g : Nat → Option Nat} (h : ∀ j, j < n → f j = g j) (hP : va_P D cl (xs ++ ([(a, .inl (cA, n, .inr (.inr (.inr (.inr f)))))] ++ ws)) H) : va_P D cl (xs ++ ([(a, .inl (cA, n, .inr (.inr (.inr (.inr g)))))] ++ ws)) H := by
  refine rg_P_app (rg_P_l hP) (rg_P_app (fun k q hq => ?_) (rg_P_r (rg_P_r hP)))
  have hz : k < 1 := (List.getElem?_eq_some_iff.mp hq).1
  rw [show k = 0 by omega] at hq
  cases hq
  have h1 : H[a]? = some (vp_cell cA (n, .inr (.inr (.inr (.inr f))))) := rg_P_l (rg_P_r hP) 0 _ rfl
  show H[a]? = some (vp_cell cA (n, .inr (.inr (.inr (.inr g)))))
  rw [h1, vp_cell_q, vp_cell_q, rg_arrV_c (f := fun j => va_rf (f j)) (g := fun j => va_rf (g j)) (fun j hj => by rw [h j hj])]
theorem gw_pm2 {α : Type} (a r0 b0 x y : α) (rs bs o r w : List α) : List.Perm ((([a] ++ ((r0 :: rs) ++ (o ++ r))) ++ ((b0 :: bs) ++ w)) ++ [x, y]) ((a :: r0 :: b0 :: (rs ++ bs)) ++ (w ++ ((o ++ [x]) ++ (r ++ [y])))) := by
  classical
  rw [List.perm_iff_count]
  intro z
  simp only [List.count_append, List.count_cons, List.count_nil]
  omega
-- a new grove
def rg_R0 : rg_R := (fun _ => 0, fun _ => 0, fun _ => 0, fun _ => [])
def rg_ini : rg_A := (1, fun _ => rg_R0, fun _ => -1, fun _ => -1, fun _ => 0, fun _ => [], 0, 0)
theorem rg_ini_Ok : rg_Ok rg_ini := by
  refine ⟨Nat.le_refl 1, by decide, rfl, rfl, fun r h1 h2 => ?_, fun r h => Or.inl rfl, fun b hb => ⟨Nat.lt_succ_self 0, (fun u hu => absurd hu List.not_mem_nil), List.pairwise_singleton _ _⟩, (show (0 : Nat) < 4 by decide), fun r hr f hf => Nat.zero_le 8⟩
  have h2 : r < 1 := h2
  omega
theorem rg_ini_m : rm_Rep (nI 1) 0 0 (fun _ => 0) (fun _ => 0) (fun _ => 0) (fun _ => 0) (fun _ => 0) (upd (fun _ => 0) 0 (-1)) (upd (fun _ => 0) 0 (-1)) (fun _ => 0) (fun _ => 0) (fun _ => 0) rg_ini := by
  refine ⟨rg_ini_Ok, rfl, rfl, rfl, fun r hr f hf => ⟨rfl, rfl, rfl, Nat.zero_le 8, rfl, fun k hk => ?_⟩, fun r hr => ?_, fun b hb => ⟨rfl, rfl, (fun k hk => absurd hk (Nat.not_lt_zero k))⟩⟩
  · first | rfl | (cases hk; done) | (exact absurd hk (Nat.not_lt_zero k))
  · have hr : r < 1 := hr
    rw [show r = 0 by omega]
    exact ⟨pk_us, pk_us⟩
theorem rg_ini_g : gw_Rep (fun _ _ => 0) (upd (fun _ => 0) 0 (-1)) (upd (fun _ => 0) 0 (-1)) (vp_updL (fun _ => 0) 0 (1 : Int64)) (nI 1) (fun _ => 0) (fun _ _ => 0) (fun _ => 0) 0 (nI 0) rg_ini := by
  refine ⟨rg_ini_Ok, rfl, rfl, rfl, fun r hr k hk => ⟨rfl, rfl, (show (0 : Int64) = rg_zx 0 by decide), Nat.zero_le 8, rfl, fun q hq => ?_⟩, fun r hr => ?_, fun b hb => ⟨rfl, rfl, (fun k hk => absurd hk (Nat.not_lt_zero k))⟩⟩
  · show (0 : Int64) = ((rg_R0.2.2.2 k).getD q 0).toInt64
    rfl
  · have hr : r < 1 := hr
    rw [show r = 0 by omega]
    refine ⟨pk_us, pk_us, fun j => ?_⟩
    rw [pk_uLs]
    constructor
    · intro h
      have e : j = 0 := by
        have h9 := rg_has_1 (r := 0) (by decide) j
        rw [show (1 : Int64) <<< ((nI 0).toInt64 &&& 63) = 1 by decide, h] at h9
        exact of_decide_eq_true h9.symm
      rw [e]
      exact rg_An_rf _ _ _
    · intro h
      have := rg_An_le h
      rw [show j = 0 by omega]
      decide
theorem gw_flw {fo fa : Nat → Nat} {cL : ClassId} {q3 q4 : Nat} : ((List.range 60).map (fun i => ((fo i, .inr (4, [.ref (fa i)])) : Nat × va_E)) ++ [(q3, .inr (4, [.ref q4]))]) ++ ((List.range 60).map (fun i => ((fa i, .inl (cL, 24, .inr (.inl (fun _ => 0)))) : Nat × va_E)) ++ [(q4, .inl (cL, 24, .inr (.inl (fun _ => 0))))]) = gw_objs (va_up fo 60 q3) (va_up fa 60 q4) ++ gw_arrs (va_up fa 60 q4) cL (fun _ _ => 0) := by
  have e1 : gw_objs (va_up fo 60 q3) (va_up fa 60 q4) = (List.range 60).map (fun i => (fo i, .inr (4, [.ref (fa i)]))) ++ [(q3, .inr (4, [.ref q4]))] := by
    unfold gw_objs
    rw [show (61 : Nat) = 60 + 1 from rfl, List.range_succ, List.map_append]
    congr 1
  have e2 : gw_arrs (va_up fa 60 q4) cL (fun _ _ => 0) = (List.range 60).map (fun i => (fa i, .inl (cL, 24, .inr (.inl (fun _ => 0))))) ++ [(q4, .inl (cL, 24, .inr (.inl (fun _ => 0))))] := by
    unfold gw_arrs
    rw [show (61 : Nat) = 60 + 1 from rfl, List.range_succ, List.map_append]
    congr 1
  rw [e1, e2]
abbrev gw_A4 : Type := (Nat → Nat) × (Nat → Nat) × (Nat → Nat) × (Nat → Nat)
def gw_W0 (cI cL cF cA : ClassId) (v : gw_A4) : va_W := gw_W v.1 v.2.1 v.2.2.1 v.2.2.2 cI cL cF cA (fun _ _ => 0) (upd (fun _ => 0) 0 (-1)) (upd (fun _ => 0) 0 (-1)) (vp_updL (fun _ => 0) 0 (1 : Int64)) (fun _ => 0) (nI 1) (fun _ => 0) (fun _ _ => 0) (fun _ => 0) 0 (nI 0)
set_option maxHeartbeats 4000000 in
set_option maxRecDepth 100000 in
theorem c_G_init {l : Launch} {dC : Nat → ClassId} {dI : Nat → Nat → Nat} {cI cL cF cA : ClassId} {a9 : Nat} : rk_M l yG_init (Cond.code yG_init prog_1_method_1_code 1 none :: rg_tbl) { frames := 3, cells := 136, slots := 2087, locals := 90 } (dC, dI) rg_cl (gw_tys cI cL cF cA) ([(a9, .inr (1, [.null, .null, .null, .int 0]))]) [.ref a9] (rg_QV (dC, dI) rg_cl (gw_tys cI cL cF cA) (S := gw_A4) (fun v => v.1 0 = a9) (fun v => gw_W0 cI cL cF cA v)) 136 2087 := by
  refine rk_of prog_1_method_1_code 1 none (by decide) rfl (Nat.le_of_ble_eq_true rfl) ?_
  intro p e R s m args below meth c Q A H locs ls hR hQ hx hb hml hr hts hown hlk hnm hao hP hK hD hA hS hl
  have hl : lv_has ls 1 [(0, .ref a9)] := hl
  have hts : ∀ w ∈ rg_tbl, w.before args s = true := fun w h => hts w (List.mem_cons_of_mem _ h)
  refine lv_aload_n hx hb dG_init_0 rfl (lv_at hl 0 rfl) ?_
  refine W.objInit hx hb hown (hts _ tw_22) (hts _ tw_23) (hts _ tw_24) rfl (by rw [hml]; exact hl.1) rfl dG_init_1 (by rw [hR]; exact Nat.le_of_ble_eq_true rfl) (by rw [hR]; exact Nat.le_of_ble_eq_true rfl) ?_
  refine W.eq (g2 := F0 m 4 ls []) rfl ?_
  refine lv_aload_n hx hb dG_init_4 rfl (lv_at hl 0 rfl) ?_
  refine va_new (ci := 2) (fs := [.null, .null, .null, .null, .null, .int 0]) (C := "RevisionGrove$Revisions") (T := TR) (N := 6) hx hb hts inR tyR tyR_ok hown (hts _ tw_25) (hts _ tw_26) (hts _ tw_2) hK hP hD hS hA rfl (fun j hj => by rcases (show j = 0 ∨ j = 1 ∨ j = 2 ∨ j = 3 ∨ j = 4 ∨ j = 5 by omega) with rfl | rfl | rfl | rfl | rfl | rfl <;> rfl) (by rw [hR]; exact Nat.le_of_ble_eq_true rfl) (by rw [hR]; exact Nat.le_of_ble_eq_true rfl) dG_init_5 (fun q1 H hP hD hS => ?_)
  refine lv_dup hx hb dG_init_8 rfl ?_
  have hP := rg_P_comm hP
  have hD := rg_D_comm hD
  refine rg_callv hD hS hA (va_runI (As := []) (rest := [.ref q1, .ref a9]) ⟨hx, hb, hml, hown, hts⟩ (rk_fV ([(a9, .inr (1, [.null, .null, .null, .int 0]))]) (c_R_init (cI := cI) (cL := cL) (cF := cF) (cA := cA)) _) (cwI 0 hts (rg_gI tw_29) rfl rfl rfl (hts _ tw_2) (hts _ tw_27) (hts _ tw_28) rfl (by decide +kernel) ⟨(by rw [hR]; exact Nat.le_of_ble_eq_true rfl), (by rw [hR]; exact Nat.le_of_ble_eq_true rfl)⟩) (rk_preS rfl hao hK hP hD) rfl rfl hl.1 rfl (lv_room (Nat.le_of_ble_eq_true rfl)) dG_init_9 ⟨(by rw [hR]; exact Nat.le_of_ble_eq_true rfl), (by rw [hR]; exact Nat.le_of_ble_eq_true rfl)⟩) (fun v1 H locs _ hP hD hS => ?_)
  have hP := rg_P_comm hP
  have hD := rg_D_comm hD
  have hP : va_P (dC, dI) rg_cl (([(a9, .inr (1, [.null, .null, .null, .int 0]))]) ++ (gw_RW q1 cI cL cF v1)) H := hP
  have hD : va_D A (([(a9, .inr (1, [.null, .null, .null, .int 0]))]) ++ (gw_RW q1 cI cL cF v1)) := hD
  refine va_putF (D := (dC, dI)) (ci := 1) (v := .ref q1) (ty := tyG 0) (C := "RevisionGrove") (T := TG) (N := 4) hx hb hts inG tyG tyG_ok nmG hown hK hP hD hS 0 rfl rfl 0 (by decide) (hts _ tw_86) (fun _ h9 => h9) rfl hnm rfl (tyG_ok 0 (by decide)) rfl rfl (Nat.le_of_ble_eq_true rfl) dG_init_12 (fun H locs hP hD hS => ?_)
  have hP : va_P (dC, dI) rg_cl (([(a9, .inr (1, [.ref q1, .null, .null, .int 0]))]) ++ (gw_RW q1 cI cL cF v1)) H := hP
  have hD : va_D A (([(a9, .inr (1, [.ref q1, .null, .null, .int 0]))]) ++ (gw_RW q1 cI cL cF v1)) := hD
  refine lv_aload_n hx hb dG_init_15 rfl (lv_at hl 0 rfl) ?_
  refine va_new (ci := 3) (fs := [.null, .null, .null, .int 0]) (C := "RevisionGrove$Branches") (T := TB) (N := 4) hx hb hts inB tyB tyB_ok hown (hts _ tw_63) (hts _ tw_64) (hts _ tw_4) hK hP hD hS hA rfl (fun j hj => by rcases (show j = 0 ∨ j = 1 ∨ j = 2 ∨ j = 3 by omega) with rfl | rfl | rfl | rfl <;> rfl) (by rw [hR]; exact Nat.le_of_ble_eq_true rfl) (by rw [hR]; exact Nat.le_of_ble_eq_true rfl) dG_init_16 (fun q2 H hP hD hS => ?_)
  refine lv_dup hx hb dG_init_19 rfl ?_
  have hP := rg_P_comm hP
  have hD := rg_D_comm hD
  refine rg_callv hD hS hA (va_runIN (As := []) (rest := [.ref q2, .ref a9]) ⟨hx, hb, hml, hown, hts⟩ (rk_fV (([(a9, .inr (1, [.ref q1, .null, .null, .int 0]))]) ++ (gw_RW q1 cI cL cF v1)) (c_B_init (cI := cI) (cL := cL) (cF := cF) (cA := cA)) _) ⟨va_cnB (ret := none) 0 hts (rg_gI tw_67) rfl rfl rfl hao.2.2.2.1 (hts _ tw_4) (by decide +kernel) ⟨(by rw [hR]; exact Nat.le_of_ble_eq_true rfl), (by rw [hR]; exact Nat.le_of_ble_eq_true rfl)⟩, rfl, hts _ tw_66⟩ (rk_preS rfl hao hK hP hD) rfl rfl hl.1 rfl (lv_room (Nat.le_of_ble_eq_true rfl)) dG_init_20 ⟨(by rw [hR]; exact Nat.le_of_ble_eq_true rfl), (by rw [hR]; exact Nat.le_of_ble_eq_true rfl)⟩) (fun v2 H locs _ hP hD hS => ?_)
  have hP := rg_P_comm hP
  have hD := rg_D_comm hD
  have hP : va_P (dC, dI) rg_cl ((([(a9, .inr (1, [.ref q1, .null, .null, .int 0]))]) ++ (gw_RW q1 cI cL cF v1)) ++ (gw_BW q2 cI cA v2)) H := hP
  have hD : va_D A ((([(a9, .inr (1, [.ref q1, .null, .null, .int 0]))]) ++ (gw_RW q1 cI cL cF v1)) ++ (gw_BW q2 cI cA v2)) := hD
  refine va_putF (D := (dC, dI)) (ci := 1) (v := .ref q2) (ty := tyG 1) (C := "RevisionGrove") (T := TG) (N := 4) hx hb hts inG tyG tyG_ok nmG hown hK hP hD hS 0 rfl rfl 1 (by decide) (hts _ tw_87) (fun _ h9 => h9) rfl hnm rfl (tyG_ok 1 (by decide)) rfl rfl (Nat.le_of_ble_eq_true rfl) dG_init_23 (fun H locs hP hD hS => ?_)
  have hP : va_P (dC, dI) rg_cl ((([(a9, .inr (1, [.ref q1, .ref q2, .null, .int 0]))]) ++ (gw_RW q1 cI cL cF v1)) ++ (gw_BW q2 cI cA v2)) H := hP
  have hD : va_D A ((([(a9, .inr (1, [.ref q1, .ref q2, .null, .int 0]))]) ++ (gw_RW q1 cI cL cF v1)) ++ (gw_BW q2 cI cA v2)) := hD
  refine lv_aload_n hx hb dG_init_26 rfl (lv_at hl 0 rfl) ?_
  refine va_new (ci := 4) (fs := [.null]) (C := "RevisionGrove$Fields") (T := TF) (N := 1) hx hb hts inF tyF tyF_ok hown (hts _ tw_84) (hts _ tw_33) (hts _ tw_3) hK hP hD hS hA rfl (fun j hj => by rcases (show j = 0 by omega) with rfl <;> rfl) (by rw [hR]; exact Nat.le_of_ble_eq_true rfl) (by rw [hR]; exact Nat.le_of_ble_eq_true rfl) dG_init_27 (fun q3 H hP hD hS => ?_)
  refine lv_dup hx hb dG_init_30 rfl ?_
  have hP := rg_P_comm hP
  have hD := rg_D_comm hD
  refine rg_callv hD hS hA (va_runIN (As := []) (rest := [.ref q3, .ref a9]) ⟨hx, hb, hml, hown, hts⟩ (rg_fV ((([(a9, .inr (1, [.ref q1, .ref q2, .null, .int 0]))]) ++ (gw_RW q1 cI cL cF v1)) ++ (gw_BW q2 cI cA v2)) (c_F_init (cI := cI) (cL := cL) (cF := cF) (cA := cA)) _) ⟨va_cnB (ret := none) 0 hts (rg_gI tw_36) rfl rfl rfl hao.2.2.2.2 (hts _ tw_3) (by decide +kernel) ⟨(by rw [hR]; exact Nat.le_of_ble_eq_true rfl), (by rw [hR]; exact Nat.le_of_ble_eq_true rfl)⟩, rfl, hts _ tw_35⟩ (rg_preS rfl hK hP hD) rfl rfl hl.1 rfl (lv_room (Nat.le_of_ble_eq_true rfl)) dG_init_31 ⟨(by rw [hR]; exact Nat.le_of_ble_eq_true rfl), (by rw [hR]; exact Nat.le_of_ble_eq_true rfl)⟩) (fun q4 H locs _ hP hD hS => ?_)
  have hP := rg_P_comm hP
  have hD := rg_D_comm hD
  have hP : va_P (dC, dI) rg_cl (((([(a9, .inr (1, [.ref q1, .ref q2, .null, .int 0]))]) ++ (gw_RW q1 cI cL cF v1)) ++ (gw_BW q2 cI cA v2)) ++ ([(q3, .inr (4, [.ref q4])), (q4, .inl (cL, 24, .inr (.inl (fun _ => 0))))])) H := hP
  have hD : va_D A (((([(a9, .inr (1, [.ref q1, .ref q2, .null, .int 0]))]) ++ (gw_RW q1 cI cL cF v1)) ++ (gw_BW q2 cI cA v2)) ++ ([(q3, .inr (4, [.ref q4])), (q4, .inl (cL, 24, .inr (.inl (fun _ => 0))))])) := hD
  refine va_putF (D := (dC, dI)) (ci := 1) (v := .ref q3) (ty := tyG 2) (C := "RevisionGrove") (T := TG) (N := 4) hx hb hts inG tyG tyG_ok nmG hown hK hP hD hS 0 rfl rfl 2 (by decide) (hts _ tw_88) (fun _ h9 => h9) rfl hnm rfl (tyG_ok 2 (by decide)) rfl rfl (Nat.le_of_ble_eq_true rfl) dG_init_34 (fun H locs hP hD hS => ?_)
  have hP : va_P (dC, dI) rg_cl (((([(a9, .inr (1, [.ref q1, .ref q2, .ref q3, .int 0]))]) ++ (gw_RW q1 cI cL cF v1)) ++ (gw_BW q2 cI cA v2)) ++ ([(q3, .inr (4, [.ref q4])), (q4, .inl (cL, 24, .inr (.inl (fun _ => 0))))])) H := hP
  have hD : va_D A (((([(a9, .inr (1, [.ref q1, .ref q2, .ref q3, .int 0]))]) ++ (gw_RW q1 cI cL cF v1)) ++ (gw_BW q2 cI cA v2)) ++ ([(q3, .inr (4, [.ref q4])), (q4, .inl (cL, 24, .inr (.inl (fun _ => 0))))])) := hD
  refine lv_aload_n hx hb dG_init_37 rfl (lv_at hl 0 rfl) ?_
  refine lv_iconst (v := nI 0) hx hb dG_init_38 (by decide) ?_
  refine va_put (D := (dC, dI)) (ci := 1) (v := .int (nI 0)) (ty := .int) (C := "RevisionGrove") (T := TG) (N := 4) hx hb hts inG tyG tyG_ok nmG hown hK hP hD hS 0 rfl rfl 3 (by decide) (hts _ tw_89) (fun _ h9 => h9) rfl (by decide +kernel) rfl rfl (Nat.le_of_ble_eq_true rfl) dG_init_39 (fun H locs hP hD hS => ?_)
  have hP : va_P (dC, dI) rg_cl (((([(a9, .inr (1, [.ref q1, .ref q2, .ref q3, .int (nI 0)]))]) ++ (gw_RW q1 cI cL cF v1)) ++ (gw_BW q2 cI cA v2)) ++ ([(q3, .inr (4, [.ref q4])), (q4, .inl (cL, 24, .inr (.inl (fun _ => 0))))])) H := hP
  have hD : va_D A (((([(a9, .inr (1, [.ref q1, .ref q2, .ref q3, .int (nI 0)]))]) ++ (gw_RW q1 cI cL cF v1)) ++ (gw_BW q2 cI cA v2)) ++ ([(q3, .inr (4, [.ref q4])), (q4, .inl (cL, 24, .inr (.inl (fun _ => 0))))])) := hD
  have hp := gw_pm2 ((a9, .inr (1, [.ref q1, .ref q2, .ref q3, .int (nI 0)])) : Nat × va_E) (q1, .inr (2, [.ref (v1.1 3), .ref (v1.1 4), .ref (v1.1 5), .ref (v1.1 6), .ref (v1.1 7), .int (nI 1)])) (q2, .inr (3, [.ref (v2.1), .ref (v2.2.1), .ref (v2.2.2.1), .int 0])) (q3, .inr (4, [.ref q4])) (q4, .inl (cL, 24, .inr (.inl (fun _ => 0)))) [(v1.1 3, .inl (cF, 60, .inr (.inr (.inr (.inr (gw_rf v1.2.1 60)))))), (v1.1 4, .inl (cI, 60, .inl (upd (fun _ => 0) 0 (-1)))), (v1.1 5, .inl (cI, 60, .inl (upd (fun _ => 0) 0 (-1)))), (v1.1 6, .inl (cL, 60, .inr (.inl (vp_updL (fun _ => 0) 0 (1 : Int64))))), (v1.1 7, .inl (cI, 60, .inl (fun _ => 0)))] [(v2.1, .inl (cI, 4, .inl (fun _ => 0))), (v2.2.1, .inl (cA, 4, .inr (.inr (.inr (.inr (fun i => if i < 4 then some (v2.2.2.2 i) else none)))))), (v2.2.2.1, .inl (cI, 4, .inl (fun _ => 0)))] ((List.range 60).map (fun i => ((v1.2.1 i, .inr (4, [.ref (v1.2.2 i)])) : Nat × va_E))) ((List.range 60).map (fun i => ((v1.2.2 i, .inl (cL, 24, .inr (.inl (fun _ => 0)))) : Nat × va_E))) (gw_rows v2.2.2.2 cI (fun _ _ => 0))
  rw [gw_flw] at hp
  have hP := rg_P_perm hp hP
  have hD := rg_D_perm hp hD
  have hP := rg_P_q (g := fun i => some ((va_up v1.2.1 60 q3) i)) [(a9, .inr (1, [.ref q1, .ref q2, .ref q3, .int (nI 0)])), (q1, .inr (2, [.ref (v1.1 3), .ref (v1.1 4), .ref (v1.1 5), .ref (v1.1 6), .ref (v1.1 7), .int (nI 1)])), (q2, .inr (3, [.ref (v2.1), .ref (v2.2.1), .ref (v2.2.2.1), .int 0]))] (fun j hj => by unfold gw_rf; rw [if_pos hj, rg_upn _ _ (by omega)]) hP
  have hP := rg_P_q (g := fun i => some (v2.2.2.2 i)) [(a9, .inr (1, [.ref q1, .ref q2, .ref q3, .int (nI 0)])), (q1, .inr (2, [.ref (v1.1 3), .ref (v1.1 4), .ref (v1.1 5), .ref (v1.1 6), .ref (v1.1 7), .int (nI 1)])), (q2, .inr (3, [.ref (v2.1), .ref (v2.2.1), .ref (v2.2.2.1), .int 0])), (v1.1 3, .inl (cF, 60, .inr (.inr (.inr (.inr (fun i => some ((va_up v1.2.1 60 q3) i))))))), (v1.1 4, .inl (cI, 60, .inl (upd (fun _ => 0) 0 (-1)))), (v1.1 5, .inl (cI, 60, .inl (upd (fun _ => 0) 0 (-1)))), (v1.1 6, .inl (cL, 60, .inr (.inl (vp_updL (fun _ => 0) 0 (1 : Int64))))), (v1.1 7, .inl (cI, 60, .inl (fun _ => 0))), (v2.1, .inl (cI, 4, .inl (fun _ => 0)))] (fun j hj => by rw [if_pos hj]) hP
  have e60 : va_up v1.2.1 60 q3 60 = q3 := rg_ups _ _ _
  have hP : va_P (dC, dI) rg_cl (gw_W (fun k => [a9, q1, q2, v1.1 3, v1.1 4, v1.1 5, v1.1 6, v1.1 7, v2.1, v2.2.1, v2.2.2.1].getD k 0) (va_up v1.2.1 60 q3) (va_up v1.2.2 60 q4) v2.2.2.2 cI cL cF cA (fun _ _ => 0) (upd (fun _ => 0) 0 (-1)) (upd (fun _ => 0) 0 (-1)) (vp_updL (fun _ => 0) 0 (1 : Int64)) (fun _ => 0) (nI 1) (fun _ => 0) (fun _ _ => 0) (fun _ => 0) 0 (nI 0)) H := by unfold gw_W gw_fix; rw [e60]; exact hP
  have hD : va_D A (gw_W (fun k => [a9, q1, q2, v1.1 3, v1.1 4, v1.1 5, v1.1 6, v1.1 7, v2.1, v2.2.1, v2.2.2.1].getD k 0) (va_up v1.2.1 60 q3) (va_up v1.2.2 60 q4) v2.2.2.2 cI cL cF cA (fun _ _ => 0) (upd (fun _ => 0) 0 (-1)) (upd (fun _ => 0) 0 (-1)) (vp_updL (fun _ => 0) 0 (1 : Int64)) (fun _ => 0) (nI 1) (fun _ => 0) (fun _ _ => 0) (fun _ => 0) 0 (nI 0)) := rg_D_fst (by unfold gw_W gw_fix; rfl) hD
  rw [hQ]
  exact rg_vret hx hb hr hlk hK hP hD hS dG_init_42 ((fun k => [a9, q1, q2, v1.1 3, v1.1 4, v1.1 5, v1.1 6, v1.1 7, v2.1, v2.2.1, v2.2.2.1].getD k 0), va_up v1.2.1 60 q3, va_up v1.2.2 60 q4, v2.2.2.2) rfl rfl
