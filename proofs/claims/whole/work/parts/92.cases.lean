/-! The law's cases. -/
abbrev rl_O (ao : Nat) (cL : ClassId) (ov : Nat → Int64) : va_W := [(ao, .inl (cL, 1, .inr (.inl ov)))]
def rl_At (p : Program) (s : State) (m : MethodId) (meth : Method) (c : Code) (b L : Nat) (xs : Nat → Int32) : Prop :=
  p.tables.exec = Jvm.exec ∧ c.code = code ∧ c.maxLocals = 8 ∧ s.vm.findClass "RevisionGroveLaw" = some m.cls ∧ (∀ w ∈ rg_tbl, w.before #[Value.ref b] s = true) ∧ va_X b L xs s s.heap ∧ b < s.heap.size
theorem cp_conflicts {l : Launch} {dC : Nat → ClassId} {dI : Nat → Nat → Nat} {ad fo fa ur : Nat → Nat} {cI cL cF cA : ClassId} {u : gw_S} {g : rg_A} (hu : gw_Ru u g) : rg_M l yG_conflicts (Cond.code yG_conflicts prog_1_method_13_code 1 (some .int) :: rg_tbl) { frames := 0, cells := 0, slots := 0, locals := 0 } (dC, dI) rg_cl (gw_tys cI cL cF cA) (gw_Wu ad fo fa ur cI cL cF cA u) [.ref (ad 0)] (rg_QI (dC, dI) rg_cl (gw_tys cI cL cF cA) (S := gw_S) (gw_Po (0, ra_c g, g)) (fun u => gw_Wu ad fo fa ur cI cL cF cA u)) 0 0 := by
  obtain ⟨rc, fp, sp, an, nn, cnt, pt, un, uc, pr, lc⟩ := u
  obtain ⟨n, Rr, P1, P2, T, U, b, c9⟩ := g
  obtain ⟨rfl, rfl, rfl⟩ : cnt = nI n ∧ pr = nI b ∧ lc = c9 := ⟨hu.2.1, hu.2.2.1, hu.2.2.2.1⟩
  exact c_G_conflicts n b Rr P1 P2 T U hu
theorem cp_prune {l : Launch} {dC : Nat → ClassId} {dI : Nat → Nat → Nat} {ad fo fa ur : Nat → Nat} {cI cL cF cA : ClassId} {u : gw_S} {g : rg_A} (hu : gw_Ru u g) : rg_M l yG_prune (Cond.code yG_prune prog_1_method_18_code 2 (some .int) :: rg_tbl) { frames := 3, cells := 0, slots := 0, locals := 75 } (dC, dI) rg_cl (gw_tys cI cL cF cA) (gw_Wu ad fo fa ur cI cL cF cA u) [.ref (ad 0)] (rg_QI (dC, dI) rg_cl (gw_tys cI cL cF cA) (S := gw_S) (gw_Po (rg_oPrune g)) (fun u => gw_Wu ad fo fa ur cI cL cF cA u)) 0 0 := by
  obtain ⟨rc, fp, sp, an, nn, cnt, pt, un, uc, pr, lc⟩ := u
  obtain ⟨n, Rr, P1, P2, T, U, b, c9⟩ := g
  obtain ⟨rfl, rfl, rfl⟩ : cnt = nI n ∧ pr = nI b ∧ lc = c9 := ⟨hu.2.1, hu.2.2.1, hu.2.2.2.1⟩
  exact c_G_prune n b Rr P1 P2 T U hu
set_option maxHeartbeats 4000000 in
set_option maxRecDepth 100000 in
theorem st_put {p : Program} {l : Launch} {e : Env} {s : State} {m : MethodId} {below : List Frame} {meth : Method} {c : Code} {b L : Nat} {xs : Nat → Int32} {Q : State → Prop} {H : Heap} {locs : List Loc} {cells slots : Nat} {ls : Array Slot} {dC : Nat → ClassId} {dI : Nat → Nat → Nat} {ad fo fa ur : Nat → Nat} {cI cL cF cA : ClassId} {ao h : Nat} {a : Nat → Nat} {u : gw_S} {ov : Nat → Int64} {w : rm_S} {g : rg_A} {j : Nat} (hlt : l.stackTraces = false) (C0 : rl_At p s m meth c b L xs) (hL : L ≤ 2048) (hT : rx_T (fun q => s.heap.size ≤ q) s s.heap) (hnc : gw_NC s) (hK : va_K (dC, dI) rg_cl (gw_tys cI cL cF cA) s) (hu : gw_Ru u g) (hw : rm_Ru w g) (hj : 4 * j + 4 ≤ L) (hc : cells + 17 ≤ 601024) (hs : slots + 70 ≤ 7293034) (hP : va_P (dC, dI) rg_cl ((gw_Wu ad fo fa ur cI cL cF cA u ++ rl_O ao cL ov) ++ rm_Wu h a cI cL w) H) (hD : va_D (fun q => s.heap.size ≤ q) ((gw_Wu ad fo fa ur cI cL cF cA u ++ rl_O ao cL ov) ++ rm_Wu h a cI cL w)) (hS : va_S (fun q => s.heap.size ≤ q) s.heap H locs) (hl : lv_has ls 8 [(0, .ref b), (1, .ref (ad 0)), (2, .ref h), (3, .ref ao), (4, .int (nI (4 * j)))])
    (kk : ∀ (u : gw_S) (ov : Nat → Int64) (w : rm_S) (g : rg_A) (H : Heap) (locs : List Loc) (ls : Array Slot), gw_Ru u g → rm_Ru w g → va_P (dC, dI) rg_cl ((gw_Wu ad fo fa ur cI cL cF cA u ++ rl_O ao cL ov) ++ rm_Wu h a cI cL w) H → va_D (fun q => s.heap.size ≤ q) ((gw_Wu ad fo fa ur cI cL cF cA u ++ rl_O ao cL ov) ++ rm_Wu h a cI cL w) → va_S (fun q => s.heap.size ≤ q) s.heap H locs → lv_has ls 8 [(0, .ref b), (1, .ref (ad 0)), (2, .ref h), (3, .ref ao), (4, .int (nI (4 * j)))] → W p l e room_1 s m #[Value.ref b] below meth c H locs (cells + 17) (slots + 70) Q (F0 m 1157 ls [])) : W p l e room_1 s m #[Value.ref b] below meth c H locs cells slots Q (F0 m 124 ls []) := by
  obtain ⟨hx, hb, hml, hown, hts, hX, hbl⟩ := C0
  have hbA : ¬ s.heap.size ≤ b := Nat.not_le.mpr hbl
  have hA : ∀ q : Nat, s.heap.size ≤ q → s.heap.size ≤ q := fun q h => h
  have hKm : va_K (dC, dI) rg_cl [(cI, .int), (cL, .long)] s := hK.sub [0, 1] rfl
  refine lv_aload_n hx hb dl_124 rfl (lv_at hl 1 rfl) ?_
  refine lv_aload_n hx hb dl_125 rfl (lv_at hl 0 rfl) ?_
  refine lv_iload hx hb dl_126 (lv_at hl 4 rfl) ?_
  refine lv_iconst (v := nI 1) hx hb dl_128 (by decide) ?_
  refine rg_iadd hx hb dl_129 ?_
  refine rl_sld hx hb hX hbl hbA hS hL (show 4 * j + 1 < L by omega) dl_130 ?_
  refine lv_aload_n hx hb dl_131 rfl (lv_at hl 0 rfl) ?_
  refine lv_iload hx hb dl_132 (lv_at hl 4 rfl) ?_
  refine lv_iconst (v := nI 2) hx hb dl_134 (by decide) ?_
  refine rg_iadd hx hb dl_135 ?_
  refine rl_sld hx hb hX hbl hbA hS hL (show 4 * j + 2 < L by omega) dl_136 ?_
  refine lv_aload_n hx hb dl_137 rfl (lv_at hl 3 rfl) ?_
  have hM := rw_fI (rm_Wu h a cI cL w) (cw_put (l := l) (dC := dC) (dI := dI) (ad := ad) (fo := fo) (fa := fa) (ur := ur) (cI := cI) (cL := cL) (cF := cF) (cA := cA) (ao := ao) (ov := ov) hlt hu (xs (4 * j + 1)) (xs (4 * j + 2))) H.size
  refine rg_calli hD hS hA (vx_runSW (As := [.ref (ad 0), .int (xs (4 * j + 1)), .int (xs (4 * j + 2)), .ref ao]) (rest := []) ⟨hx, hb, hml, hown, hts⟩ hM (vx_cwSW 4 hts (rg_gSw tw_150 tw_151 tw_0 tw_152) rfl rfl rfl (by decide +kernel) ⟨(Nat.le_of_ble_eq_true rfl), (Nat.le_of_ble_eq_true rfl)⟩) (rw_preS rfl hT hnc hS hA hK hP hD) rfl rfl hl.1 rfl (lv_room (Nat.le_of_ble_eq_true rfl)) dl_138 ⟨hc, hs⟩) (fun k9 v9 H locs hq hP hD hS => ?_)
  obtain ⟨u1, ov1⟩ := v9
  have hP : va_P (dC, dI) rg_cl ((gw_Wu ad fo fa ur cI cL cF cA u1 ++ rl_O ao cL ov1) ++ rm_Wu h a cI cL w) H := hP
  have hD : va_D (fun q => s.heap.size ≤ q) ((gw_Wu ad fo fa ur cI cL cF cA u1 ++ rl_O ao cL ov1) ++ rm_Wu h a cI cL w) := hD
  obtain ⟨hk9, hu, ho9⟩ := hq
  refine lv_istore (lv' := [(5, .int k9), (0, .ref b), (1, .ref (ad 0)), (2, .ref h), (3, .ref ao), (4, .int (nI (4 * j)))]) hx hb dl_141 hl (by decide) rfl (fun ls hl => ?_)
  refine lv_aload_n hx hb dl_143 rfl (lv_at hl 3 rfl) ?_
  refine lv_aload_n hx hb dl_144 rfl (lv_at hl 1 rfl) ?_
  refine lv_iload hx hb dl_145 (lv_at hl 5 rfl) ?_
  refine lv_iconst (v := nI 1) hx hb dl_147 (by decide) ?_
  refine rg_iadd hx hb dl_148 ?_
  refine rl_sld hx hb hX hbl hbA hS hL (show 4 * j + 1 < L by omega) dl_149 ?_
  refine lv_aload_n hx hb dl_150 rfl (lv_at hl 1 rfl) ?_
  refine lv_iload hx hb dl_151 (lv_at hl 5 rfl) ?_
  refine lv_iconst (v := nI 2) hx hb dl_153 (by decide) ?_
  refine rg_iadd hx hb dl_154 ?_
  refine rl_sld hx hb hX hbl hbA hS hL (show 4 * j + 2 < L by omega) dl_155 ?_
  have hP := rg_P_comm hP
  have hD := rg_D_comm hD
  have hP : va_P (dC, dI) rg_cl (rm_Wu h a cI cL w ++ (gw_Wu ad fo fa ur cI cL cF cA u1 ++ rl_O ao cL ov1)) H := hP
  have hD : va_D (fun q => s.heap.size ≤ q) (rm_Wu h a cI cL w ++ (gw_Wu ad fo fa ur cI cL cF cA u1 ++ rl_O ao cL ov1)) := hD
  obtain ⟨fs9, hq9⟩ := rl_qm (h := h) (a := a) (cI := cI) (cL := cL) w (gw_Wu ad fo fa ur cI cL cF cA u1 ++ rl_O ao cL ov1)
  have hM := rg_fI (gw_Wu ad fo fa ur cI cL cF cA u1 ++ rl_O ao cL ov1) (cm_put (l := l) (dC := dC) (dI := dI) (h := h) (a := a) (cI := cI) (cL := cL) hw (xs (4 * j + 1)) (xs (4 * j + 2))) H.size
  refine rg_calli hD hS hA (va_runV (As := [.int (xs (4 * j + 1)), .int (xs (4 * j + 2))]) (rest := []) ⟨hx, hb, hml, hown, hts⟩ hM (cwV 2 hts (rg_gV tw_663 tw_664 tw_665 tw_5 tw_666) rfl rfl rfl (by decide +kernel) ⟨(Nat.le_of_ble_eq_true rfl), (Nat.le_of_ble_eq_true rfl)⟩) (rg_preV rfl hKm hP hD (ci := 0) (q0 := 0) rfl hq9) rfl rfl hl.1 rfl (lv_room (Nat.le_of_ble_eq_true rfl)) dl_156 ⟨show cells + 17 + 0 ≤ 601024 by omega, show slots + 70 + 0 ≤ 7293034 by omega⟩) (fun z9 w1 H locs hr9 hP hD hS => ?_)
  have hP : va_P (dC, dI) rg_cl (rm_Wu h a cI cL w1 ++ (gw_Wu ad fo fa ur cI cL cF cA u1 ++ rl_O ao cL ov1)) H := hP
  have hD : va_D (fun q => s.heap.size ≤ q) (rm_Wu h a cI cL w1 ++ (gw_Wu ad fo fa ur cI cL cF cA u1 ++ rl_O ao cL ov1)) := hD
  obtain ⟨hw, hc9, hz9⟩ := hr9
  refine lv_istore (lv' := [(6, .int z9), (5, .int k9), (0, .ref b), (1, .ref (ad 0)), (2, .ref h), (3, .ref ao), (4, .int (nI (4 * j)))]) hx hb dl_159 hl (by decide) rfl (fun ls hl => ?_)
  refine lv_aload_n hx hb dl_161 rfl (lv_at hl 4 rfl) ?_
  have hP : va_P (dC, dI) rg_cl (rm_Wu h a cI cL w1 ++ (gw_Wu ad fo fa ur cI cL cF cA u1 ++ rl_O ao cL ov1)) H := hP
  have hD : va_D (fun q => s.heap.size ≤ q) (rm_Wu h a cI cL w1 ++ (gw_Wu ad fo fa ur cI cL cF cA u1 ++ rl_O ao cL ov1)) := hD
  obtain ⟨fs9, hq9⟩ := rl_qm (h := h) (a := a) (cI := cI) (cL := cL) w1 (gw_Wu ad fo fa ur cI cL cF cA u1 ++ rl_O ao cL ov1)
  have hM := rg_fI (gw_Wu ad fo fa ur cI cL cF cA u1 ++ rl_O ao cL ov1) (cm_thrown (l := l) (dC := dC) (dI := dI) (h := h) (a := a) (cI := cI) (cL := cL) (w := w1)) H.size
  refine rg_calli hD hS hA (va_runV (As := []) (rest := []) ⟨hx, hb, hml, hown, hts⟩ hM (cwV 0 hts (rg_gV tw_659 tw_660 tw_661 tw_5 tw_662) rfl rfl rfl (by decide +kernel) ⟨(Nat.le_of_ble_eq_true rfl), (Nat.le_of_ble_eq_true rfl)⟩) (rg_preV rfl hKm hP hD (ci := 0) (q0 := 0) rfl hq9) rfl rfl hl.1 rfl (lv_room (Nat.le_of_ble_eq_true rfl)) dl_162 ⟨show cells + 17 + 0 ≤ 601024 by omega, show slots + 70 + 0 ≤ 7293034 by omega⟩) (fun t9 _ H locs hr9 hP hD hS => ?_)
  have hP : va_P (dC, dI) rg_cl (rm_Wu h a cI cL w1 ++ (gw_Wu ad fo fa ur cI cL cF cA u1 ++ rl_O ao cL ov1)) H := hP
  have hD : va_D (fun q => s.heap.size ≤ q) (rm_Wu h a cI cL w1 ++ (gw_Wu ad fo fa ur cI cL cF cA u1 ++ rl_O ao cL ov1)) := hD
  subst hr9
  refine lv_iload hx hb dl_165 (lv_at hl 1 rfl) ?_
  refine lv_icmp_eq (tgt := 172) hx hb dl_167 (by decide) (fun _ => ?_) (fun h => absurd (hc9.trans hk9.symm) h)
  refine lv_iload hx hb dl_172 (lv_at hl 1 rfl) ?_
  refine lv_if_ne (tgt := 189) hx hb dl_174 (by decide) (fun _ => ?_) (fun h0 => ?_)
  · refine lv_goto (tgt := 1157) hx hb dl_189 (by decide) ?_
    have hP := rg_P_comm hP
    have hD := rg_D_comm hD
    exact kk u1 ov1 w1 _ _ _ _ hu hw hP hD hS (lv_sub hl [2, 3, 4, 5, 6] rfl)
  · have hP := rg_P_comm hP
    have hD := rg_D_comm hD
    refine lv_aload_n hx hb dl_177 rfl (lv_at hl 5 rfl) ?_
    refine lv_iconst (v := nI 0) hx hb dl_178 (by decide) ?_
    refine rg_lald hx hb hK hP _ 1 (rg_apl (rg_apr (k := 0) rfl)) rfl (by decide) (by decide) dl_179 ?_
    refine lv_iload hx hb dl_180 (lv_at hl 0 rfl) ?_
    refine lv_i2l (v := z9.toInt64) hx hb dl_182 rfl ?_
    refine W.lcmp hx hb dl_183 ?_
    refine lv_if_eq (tgt := 189) hx hb dl_184 (by decide) (fun _ => ?_) (fun h1 => absurd ((lg_cmp_eq _ _).mpr ((ho9 (hk9.symm.trans h0)).trans (congrArg Int32.toInt64 hz9.symm))) h1)
    refine lv_goto (tgt := 1157) hx hb dl_189 (by decide) ?_
    exact kk u1 ov1 w1 _ _ _ _ hu hw hP hD hS (lv_sub hl [2, 3, 4, 5, 6] rfl)
set_option maxHeartbeats 4000000 in
set_option maxRecDepth 100000 in
theorem st_add {p : Program} {l : Launch} {e : Env} {s : State} {m : MethodId} {below : List Frame} {meth : Method} {c : Code} {b L : Nat} {xs : Nat → Int32} {Q : State → Prop} {H : Heap} {locs : List Loc} {cells slots : Nat} {ls : Array Slot} {dC : Nat → ClassId} {dI : Nat → Nat → Nat} {ad fo fa ur : Nat → Nat} {cI cL cF cA : ClassId} {ao h : Nat} {a : Nat → Nat} {u : gw_S} {ov : Nat → Int64} {w : rm_S} {g : rg_A} {j : Nat} (hlt : l.stackTraces = false) (C0 : rl_At p s m meth c b L xs) (hL : L ≤ 2048) (hT : rx_T (fun q => s.heap.size ≤ q) s s.heap) (hnc : gw_NC s) (hK : va_K (dC, dI) rg_cl (gw_tys cI cL cF cA) s) (hu : gw_Ru u g) (hw : rm_Ru w g) (hj : 4 * j + 4 ≤ L) (hc : cells + 17 ≤ 601024) (hs : slots + 70 ≤ 7293034) (hP : va_P (dC, dI) rg_cl ((gw_Wu ad fo fa ur cI cL cF cA u ++ rl_O ao cL ov) ++ rm_Wu h a cI cL w) H) (hD : va_D (fun q => s.heap.size ≤ q) ((gw_Wu ad fo fa ur cI cL cF cA u ++ rl_O ao cL ov) ++ rm_Wu h a cI cL w)) (hS : va_S (fun q => s.heap.size ≤ q) s.heap H locs) (hl : lv_has ls 8 [(0, .ref b), (1, .ref (ad 0)), (2, .ref h), (3, .ref ao), (4, .int (nI (4 * j)))])
    (kk : ∀ (u : gw_S) (ov : Nat → Int64) (w : rm_S) (g : rg_A) (H : Heap) (locs : List Loc) (ls : Array Slot), gw_Ru u g → rm_Ru w g → va_P (dC, dI) rg_cl ((gw_Wu ad fo fa ur cI cL cF cA u ++ rl_O ao cL ov) ++ rm_Wu h a cI cL w) H → va_D (fun q => s.heap.size ≤ q) ((gw_Wu ad fo fa ur cI cL cF cA u ++ rl_O ao cL ov) ++ rm_Wu h a cI cL w) → va_S (fun q => s.heap.size ≤ q) s.heap H locs → lv_has ls 8 [(0, .ref b), (1, .ref (ad 0)), (2, .ref h), (3, .ref ao), (4, .int (nI (4 * j)))] → W p l e room_1 s m #[Value.ref b] below meth c H locs (cells + 17) (slots + 70) Q (F0 m 1157 ls [])) : W p l e room_1 s m #[Value.ref b] below meth c H locs cells slots Q (F0 m 192 ls []) := by
  obtain ⟨hx, hb, hml, hown, hts, hX, hbl⟩ := C0
  have hbA : ¬ s.heap.size ≤ b := Nat.not_le.mpr hbl
  have hA : ∀ q : Nat, s.heap.size ≤ q → s.heap.size ≤ q := fun q h => h
  have hKm : va_K (dC, dI) rg_cl [(cI, .int), (cL, .long)] s := hK.sub [0, 1] rfl
  refine lv_aload_n hx hb dl_192 rfl (lv_at hl 1 rfl) ?_
  refine lv_aload_n hx hb dl_193 rfl (lv_at hl 0 rfl) ?_
  refine lv_iload hx hb dl_194 (lv_at hl 4 rfl) ?_
  refine lv_iconst (v := nI 1) hx hb dl_196 (by decide) ?_
  refine rg_iadd hx hb dl_197 ?_
  refine rl_sld hx hb hX hbl hbA hS hL (show 4 * j + 1 < L by omega) dl_198 ?_
  refine lv_aload_n hx hb dl_199 rfl (lv_at hl 0 rfl) ?_
  refine lv_iload hx hb dl_200 (lv_at hl 4 rfl) ?_
  refine lv_iconst (v := nI 2) hx hb dl_202 (by decide) ?_
  refine rg_iadd hx hb dl_203 ?_
  refine rl_sld hx hb hX hbl hbA hS hL (show 4 * j + 2 < L by omega) dl_204 ?_
  refine lv_aload_n hx hb dl_205 rfl (lv_at hl 3 rfl) ?_
  have hM := rw_fI (rm_Wu h a cI cL w) (cw_add (l := l) (dC := dC) (dI := dI) (ad := ad) (fo := fo) (fa := fa) (ur := ur) (cI := cI) (cL := cL) (cF := cF) (cA := cA) (ao := ao) (ov := ov) hlt hu (xs (4 * j + 1)) (xs (4 * j + 2))) H.size
  refine rg_calli hD hS hA (vx_runSW (As := [.ref (ad 0), .int (xs (4 * j + 1)), .int (xs (4 * j + 2)), .ref ao]) (rest := []) ⟨hx, hb, hml, hown, hts⟩ hM (vx_cwSW 4 hts (rg_gSw tw_295 tw_296 tw_0 tw_297) rfl rfl rfl (by decide +kernel) ⟨(Nat.le_of_ble_eq_true rfl), (Nat.le_of_ble_eq_true rfl)⟩) (rw_preS rfl hT hnc hS hA hK hP hD) rfl rfl hl.1 rfl (lv_room (Nat.le_of_ble_eq_true rfl)) dl_206 ⟨hc, hs⟩) (fun k9 v9 H locs hq hP hD hS => ?_)
  obtain ⟨u1, ov1⟩ := v9
  have hP : va_P (dC, dI) rg_cl ((gw_Wu ad fo fa ur cI cL cF cA u1 ++ rl_O ao cL ov1) ++ rm_Wu h a cI cL w) H := hP
  have hD : va_D (fun q => s.heap.size ≤ q) ((gw_Wu ad fo fa ur cI cL cF cA u1 ++ rl_O ao cL ov1) ++ rm_Wu h a cI cL w) := hD
  obtain ⟨hk9, hu, ho9⟩ := hq
  refine lv_istore (lv' := [(5, .int k9), (0, .ref b), (1, .ref (ad 0)), (2, .ref h), (3, .ref ao), (4, .int (nI (4 * j)))]) hx hb dl_209 hl (by decide) rfl (fun ls hl => ?_)
  refine lv_aload_n hx hb dl_211 rfl (lv_at hl 3 rfl) ?_
  refine lv_aload_n hx hb dl_212 rfl (lv_at hl 1 rfl) ?_
  refine lv_iload hx hb dl_213 (lv_at hl 5 rfl) ?_
  refine lv_iconst (v := nI 1) hx hb dl_215 (by decide) ?_
  refine rg_iadd hx hb dl_216 ?_
  refine rl_sld hx hb hX hbl hbA hS hL (show 4 * j + 1 < L by omega) dl_217 ?_
  refine lv_aload_n hx hb dl_218 rfl (lv_at hl 1 rfl) ?_
  refine lv_iload hx hb dl_219 (lv_at hl 5 rfl) ?_
  refine lv_iconst (v := nI 2) hx hb dl_221 (by decide) ?_
  refine rg_iadd hx hb dl_222 ?_
  refine rl_sld hx hb hX hbl hbA hS hL (show 4 * j + 2 < L by omega) dl_223 ?_
  have hP := rg_P_comm hP
  have hD := rg_D_comm hD
  have hP : va_P (dC, dI) rg_cl (rm_Wu h a cI cL w ++ (gw_Wu ad fo fa ur cI cL cF cA u1 ++ rl_O ao cL ov1)) H := hP
  have hD : va_D (fun q => s.heap.size ≤ q) (rm_Wu h a cI cL w ++ (gw_Wu ad fo fa ur cI cL cF cA u1 ++ rl_O ao cL ov1)) := hD
  obtain ⟨fs9, hq9⟩ := rl_qm (h := h) (a := a) (cI := cI) (cL := cL) w (gw_Wu ad fo fa ur cI cL cF cA u1 ++ rl_O ao cL ov1)
  have hM := rg_fI (gw_Wu ad fo fa ur cI cL cF cA u1 ++ rl_O ao cL ov1) (cm_add (l := l) (dC := dC) (dI := dI) (h := h) (a := a) (cI := cI) (cL := cL) hw (xs (4 * j + 1)) (xs (4 * j + 2))) H.size
  refine rg_calli hD hS hA (va_runV (As := [.int (xs (4 * j + 1)), .int (xs (4 * j + 2))]) (rest := []) ⟨hx, hb, hml, hown, hts⟩ hM (cwV 2 hts (rg_gV tw_695 tw_696 tw_697 tw_5 tw_698) rfl rfl rfl (by decide +kernel) ⟨(Nat.le_of_ble_eq_true rfl), (Nat.le_of_ble_eq_true rfl)⟩) (rg_preV rfl hKm hP hD (ci := 0) (q0 := 0) rfl hq9) rfl rfl hl.1 rfl (lv_room (Nat.le_of_ble_eq_true rfl)) dl_224 ⟨show cells + 17 + 0 ≤ 601024 by omega, show slots + 70 + 0 ≤ 7293034 by omega⟩) (fun z9 w1 H locs hr9 hP hD hS => ?_)
  have hP : va_P (dC, dI) rg_cl (rm_Wu h a cI cL w1 ++ (gw_Wu ad fo fa ur cI cL cF cA u1 ++ rl_O ao cL ov1)) H := hP
  have hD : va_D (fun q => s.heap.size ≤ q) (rm_Wu h a cI cL w1 ++ (gw_Wu ad fo fa ur cI cL cF cA u1 ++ rl_O ao cL ov1)) := hD
  obtain ⟨hw, hc9, hz9⟩ := hr9
  refine lv_istore (lv' := [(6, .int z9), (5, .int k9), (0, .ref b), (1, .ref (ad 0)), (2, .ref h), (3, .ref ao), (4, .int (nI (4 * j)))]) hx hb dl_227 hl (by decide) rfl (fun ls hl => ?_)
  refine lv_aload_n hx hb dl_229 rfl (lv_at hl 4 rfl) ?_
  have hP : va_P (dC, dI) rg_cl (rm_Wu h a cI cL w1 ++ (gw_Wu ad fo fa ur cI cL cF cA u1 ++ rl_O ao cL ov1)) H := hP
  have hD : va_D (fun q => s.heap.size ≤ q) (rm_Wu h a cI cL w1 ++ (gw_Wu ad fo fa ur cI cL cF cA u1 ++ rl_O ao cL ov1)) := hD
  obtain ⟨fs9, hq9⟩ := rl_qm (h := h) (a := a) (cI := cI) (cL := cL) w1 (gw_Wu ad fo fa ur cI cL cF cA u1 ++ rl_O ao cL ov1)
  have hM := rg_fI (gw_Wu ad fo fa ur cI cL cF cA u1 ++ rl_O ao cL ov1) (cm_thrown (l := l) (dC := dC) (dI := dI) (h := h) (a := a) (cI := cI) (cL := cL) (w := w1)) H.size
  refine rg_calli hD hS hA (va_runV (As := []) (rest := []) ⟨hx, hb, hml, hown, hts⟩ hM (cwV 0 hts (rg_gV tw_659 tw_660 tw_661 tw_5 tw_662) rfl rfl rfl (by decide +kernel) ⟨(Nat.le_of_ble_eq_true rfl), (Nat.le_of_ble_eq_true rfl)⟩) (rg_preV rfl hKm hP hD (ci := 0) (q0 := 0) rfl hq9) rfl rfl hl.1 rfl (lv_room (Nat.le_of_ble_eq_true rfl)) dl_230 ⟨show cells + 17 + 0 ≤ 601024 by omega, show slots + 70 + 0 ≤ 7293034 by omega⟩) (fun t9 _ H locs hr9 hP hD hS => ?_)
  have hP : va_P (dC, dI) rg_cl (rm_Wu h a cI cL w1 ++ (gw_Wu ad fo fa ur cI cL cF cA u1 ++ rl_O ao cL ov1)) H := hP
  have hD : va_D (fun q => s.heap.size ≤ q) (rm_Wu h a cI cL w1 ++ (gw_Wu ad fo fa ur cI cL cF cA u1 ++ rl_O ao cL ov1)) := hD
  subst hr9
  refine lv_iload hx hb dl_233 (lv_at hl 1 rfl) ?_
  refine lv_icmp_eq (tgt := 240) hx hb dl_235 (by decide) (fun _ => ?_) (fun h => absurd (hc9.trans hk9.symm) h)
  refine lv_iload hx hb dl_240 (lv_at hl 1 rfl) ?_
  refine lv_if_ne (tgt := 257) hx hb dl_242 (by decide) (fun _ => ?_) (fun h0 => ?_)
  · refine lv_goto (tgt := 1157) hx hb dl_257 (by decide) ?_
    have hP := rg_P_comm hP
    have hD := rg_D_comm hD
    exact kk u1 ov1 w1 _ _ _ _ hu hw hP hD hS (lv_sub hl [2, 3, 4, 5, 6] rfl)
  · have hP := rg_P_comm hP
    have hD := rg_D_comm hD
    refine lv_aload_n hx hb dl_245 rfl (lv_at hl 5 rfl) ?_
    refine lv_iconst (v := nI 0) hx hb dl_246 (by decide) ?_
    refine rg_lald hx hb hK hP _ 1 (rg_apl (rg_apr (k := 0) rfl)) rfl (by decide) (by decide) dl_247 ?_
    refine lv_iload hx hb dl_248 (lv_at hl 0 rfl) ?_
    refine lv_i2l (v := z9.toInt64) hx hb dl_250 rfl ?_
    refine W.lcmp hx hb dl_251 ?_
    refine lv_if_eq (tgt := 257) hx hb dl_252 (by decide) (fun _ => ?_) (fun h1 => absurd ((lg_cmp_eq _ _).mpr ((ho9 (hk9.symm.trans h0)).trans (congrArg Int32.toInt64 hz9.symm))) h1)
    refine lv_goto (tgt := 1157) hx hb dl_257 (by decide) ?_
    exact kk u1 ov1 w1 _ _ _ _ hu hw hP hD hS (lv_sub hl [2, 3, 4, 5, 6] rfl)
set_option maxHeartbeats 4000000 in
set_option maxRecDepth 100000 in
theorem st_mark {p : Program} {l : Launch} {e : Env} {s : State} {m : MethodId} {below : List Frame} {meth : Method} {c : Code} {b L : Nat} {xs : Nat → Int32} {Q : State → Prop} {H : Heap} {locs : List Loc} {cells slots : Nat} {ls : Array Slot} {dC : Nat → ClassId} {dI : Nat → Nat → Nat} {ad fo fa ur : Nat → Nat} {cI cL cF cA : ClassId} {ao h : Nat} {a : Nat → Nat} {u : gw_S} {ov : Nat → Int64} {w : rm_S} {g : rg_A} {j : Nat} (hlt : l.stackTraces = false) (C0 : rl_At p s m meth c b L xs) (hL : L ≤ 2048) (hT : rx_T (fun q => s.heap.size ≤ q) s s.heap) (hnc : gw_NC s) (hK : va_K (dC, dI) rg_cl (gw_tys cI cL cF cA) s) (hu : gw_Ru u g) (hw : rm_Ru w g) (hj : 4 * j + 4 ≤ L) (hc : cells + 17 ≤ 601024) (hs : slots + 70 ≤ 7293034) (hP : va_P (dC, dI) rg_cl ((gw_Wu ad fo fa ur cI cL cF cA u ++ rl_O ao cL ov) ++ rm_Wu h a cI cL w) H) (hD : va_D (fun q => s.heap.size ≤ q) ((gw_Wu ad fo fa ur cI cL cF cA u ++ rl_O ao cL ov) ++ rm_Wu h a cI cL w)) (hS : va_S (fun q => s.heap.size ≤ q) s.heap H locs) (hl : lv_has ls 8 [(0, .ref b), (1, .ref (ad 0)), (2, .ref h), (3, .ref ao), (4, .int (nI (4 * j)))])
    (kk : ∀ (u : gw_S) (ov : Nat → Int64) (w : rm_S) (g : rg_A) (H : Heap) (locs : List Loc) (ls : Array Slot), gw_Ru u g → rm_Ru w g → va_P (dC, dI) rg_cl ((gw_Wu ad fo fa ur cI cL cF cA u ++ rl_O ao cL ov) ++ rm_Wu h a cI cL w) H → va_D (fun q => s.heap.size ≤ q) ((gw_Wu ad fo fa ur cI cL cF cA u ++ rl_O ao cL ov) ++ rm_Wu h a cI cL w) → va_S (fun q => s.heap.size ≤ q) s.heap H locs → lv_has ls 8 [(0, .ref b), (1, .ref (ad 0)), (2, .ref h), (3, .ref ao), (4, .int (nI (4 * j)))] → W p l e room_1 s m #[Value.ref b] below meth c H locs (cells + 17) (slots + 70) Q (F0 m 1157 ls [])) : W p l e room_1 s m #[Value.ref b] below meth c H locs cells slots Q (F0 m 260 ls []) := by
  obtain ⟨hx, hb, hml, hown, hts, hX, hbl⟩ := C0
  have hbA : ¬ s.heap.size ≤ b := Nat.not_le.mpr hbl
  have hA : ∀ q : Nat, s.heap.size ≤ q → s.heap.size ≤ q := fun q h => h
  have hKm : va_K (dC, dI) rg_cl [(cI, .int), (cL, .long)] s := hK.sub [0, 1] rfl
  refine lv_aload_n hx hb dl_260 rfl (lv_at hl 1 rfl) ?_
  refine lv_aload_n hx hb dl_261 rfl (lv_at hl 0 rfl) ?_
  refine lv_iload hx hb dl_262 (lv_at hl 4 rfl) ?_
  refine lv_iconst (v := nI 1) hx hb dl_264 (by decide) ?_
  refine rg_iadd hx hb dl_265 ?_
  refine rl_sld hx hb hX hbl hbA hS hL (show 4 * j + 1 < L by omega) dl_266 ?_
  refine lv_aload_n hx hb dl_267 rfl (lv_at hl 0 rfl) ?_
  refine lv_iload hx hb dl_268 (lv_at hl 4 rfl) ?_
  refine lv_iconst (v := nI 2) hx hb dl_270 (by decide) ?_
  refine rg_iadd hx hb dl_271 ?_
  refine rl_sld hx hb hX hbl hbA hS hL (show 4 * j + 2 < L by omega) dl_272 ?_
  refine lv_aload_n hx hb dl_273 rfl (lv_at hl 0 rfl) ?_
  refine lv_iload hx hb dl_274 (lv_at hl 4 rfl) ?_
  refine lv_iconst (v := nI 3) hx hb dl_276 (by decide) ?_
  refine rg_iadd hx hb dl_277 ?_
  refine rl_sld hx hb hX hbl hbA hS hL (show 4 * j + 3 < L by omega) dl_278 ?_
  refine rl_bool (t1 := 286) (t2 := 287) hx hb dl_279 (by decide) dl_282 dl_283 (by decide) dl_286 rfl ?_
  refine lv_aload_n hx hb dl_287 rfl (lv_at hl 3 rfl) ?_
  have hM := rw_fI (rm_Wu h a cI cL w) (cw_mark (l := l) (dC := dC) (dI := dI) (ad := ad) (fo := fo) (fa := fa) (ur := ur) (cI := cI) (cL := cL) (cF := cF) (cA := cA) (ao := ao) (ov := ov) hlt hu (xs (4 * j + 1)) (xs (4 * j + 2)) (!(decide (xs (4 * j + 3) = 0)))) H.size
  refine rg_calli hD hS hA (vx_runSW (As := [.ref (ad 0), .int (xs (4 * j + 1)), .int (xs (4 * j + 2)), .int (bif !(decide (xs (4 * j + 3) = 0)) then 1 else 0), .ref ao]) (rest := []) ⟨hx, hb, hml, hown, hts⟩ hM (vx_cwSW 5 hts (rg_gSw tw_306 tw_307 tw_0 tw_308) rfl rfl rfl (by decide +kernel) ⟨(Nat.le_of_ble_eq_true rfl), (Nat.le_of_ble_eq_true rfl)⟩) (rw_preS rfl hT hnc hS hA hK hP hD) rfl rfl hl.1 rfl (lv_room (Nat.le_of_ble_eq_true rfl)) dl_288 ⟨hc, hs⟩) (fun k9 v9 H locs hq hP hD hS => ?_)
  obtain ⟨u1, ov1⟩ := v9
  have hP : va_P (dC, dI) rg_cl ((gw_Wu ad fo fa ur cI cL cF cA u1 ++ rl_O ao cL ov1) ++ rm_Wu h a cI cL w) H := hP
  have hD : va_D (fun q => s.heap.size ≤ q) ((gw_Wu ad fo fa ur cI cL cF cA u1 ++ rl_O ao cL ov1) ++ rm_Wu h a cI cL w) := hD
  obtain ⟨hk9, hu, ho9⟩ := hq
  refine lv_istore (lv' := [(5, .int k9), (0, .ref b), (1, .ref (ad 0)), (2, .ref h), (3, .ref ao), (4, .int (nI (4 * j)))]) hx hb dl_291 hl (by decide) rfl (fun ls hl => ?_)
  refine lv_aload_n hx hb dl_293 rfl (lv_at hl 3 rfl) ?_
  refine lv_aload_n hx hb dl_294 rfl (lv_at hl 1 rfl) ?_
  refine lv_iload hx hb dl_295 (lv_at hl 5 rfl) ?_
  refine lv_iconst (v := nI 1) hx hb dl_297 (by decide) ?_
  refine rg_iadd hx hb dl_298 ?_
  refine rl_sld hx hb hX hbl hbA hS hL (show 4 * j + 1 < L by omega) dl_299 ?_
  refine lv_aload_n hx hb dl_300 rfl (lv_at hl 1 rfl) ?_
  refine lv_iload hx hb dl_301 (lv_at hl 5 rfl) ?_
  refine lv_iconst (v := nI 2) hx hb dl_303 (by decide) ?_
  refine rg_iadd hx hb dl_304 ?_
  refine rl_sld hx hb hX hbl hbA hS hL (show 4 * j + 2 < L by omega) dl_305 ?_
  refine lv_aload_n hx hb dl_306 rfl (lv_at hl 1 rfl) ?_
  refine lv_iload hx hb dl_307 (lv_at hl 5 rfl) ?_
  refine lv_iconst (v := nI 3) hx hb dl_309 (by decide) ?_
  refine rg_iadd hx hb dl_310 ?_
  refine rl_sld hx hb hX hbl hbA hS hL (show 4 * j + 3 < L by omega) dl_311 ?_
  refine rl_bool (t1 := 319) (t2 := 320) hx hb dl_312 (by decide) dl_315 dl_316 (by decide) dl_319 rfl ?_
  have hP := rg_P_comm hP
  have hD := rg_D_comm hD
  have hP : va_P (dC, dI) rg_cl (rm_Wu h a cI cL w ++ (gw_Wu ad fo fa ur cI cL cF cA u1 ++ rl_O ao cL ov1)) H := hP
  have hD : va_D (fun q => s.heap.size ≤ q) (rm_Wu h a cI cL w ++ (gw_Wu ad fo fa ur cI cL cF cA u1 ++ rl_O ao cL ov1)) := hD
  obtain ⟨fs9, hq9⟩ := rl_qm (h := h) (a := a) (cI := cI) (cL := cL) w (gw_Wu ad fo fa ur cI cL cF cA u1 ++ rl_O ao cL ov1)
  have hM := rg_fI (gw_Wu ad fo fa ur cI cL cF cA u1 ++ rl_O ao cL ov1) (cm_mark (l := l) (dC := dC) (dI := dI) (h := h) (a := a) (cI := cI) (cL := cL) hw (xs (4 * j + 1)) (xs (4 * j + 2)) (!(decide (xs (4 * j + 3) = 0)))) H.size
  refine rg_calli hD hS hA (va_runV (As := [.int (xs (4 * j + 1)), .int (xs (4 * j + 2)), .int (bif !(decide (xs (4 * j + 3) = 0)) then 1 else 0)]) (rest := []) ⟨hx, hb, hml, hown, hts⟩ hM (cwV 3 hts (rg_gV tw_699 tw_700 tw_701 tw_5 tw_702) rfl rfl rfl (by decide +kernel) ⟨(Nat.le_of_ble_eq_true rfl), (Nat.le_of_ble_eq_true rfl)⟩) (rg_preV rfl hKm hP hD (ci := 0) (q0 := 0) rfl hq9) rfl rfl hl.1 rfl (lv_room (Nat.le_of_ble_eq_true rfl)) dl_320 ⟨show cells + 17 + 0 ≤ 601024 by omega, show slots + 70 + 0 ≤ 7293034 by omega⟩) (fun z9 w1 H locs hr9 hP hD hS => ?_)
  have hP : va_P (dC, dI) rg_cl (rm_Wu h a cI cL w1 ++ (gw_Wu ad fo fa ur cI cL cF cA u1 ++ rl_O ao cL ov1)) H := hP
  have hD : va_D (fun q => s.heap.size ≤ q) (rm_Wu h a cI cL w1 ++ (gw_Wu ad fo fa ur cI cL cF cA u1 ++ rl_O ao cL ov1)) := hD
  obtain ⟨hw, hc9, hz9⟩ := hr9
  refine lv_istore (lv' := [(6, .int z9), (5, .int k9), (0, .ref b), (1, .ref (ad 0)), (2, .ref h), (3, .ref ao), (4, .int (nI (4 * j)))]) hx hb dl_323 hl (by decide) rfl (fun ls hl => ?_)
  refine lv_aload_n hx hb dl_325 rfl (lv_at hl 4 rfl) ?_
  have hP : va_P (dC, dI) rg_cl (rm_Wu h a cI cL w1 ++ (gw_Wu ad fo fa ur cI cL cF cA u1 ++ rl_O ao cL ov1)) H := hP
  have hD : va_D (fun q => s.heap.size ≤ q) (rm_Wu h a cI cL w1 ++ (gw_Wu ad fo fa ur cI cL cF cA u1 ++ rl_O ao cL ov1)) := hD
  obtain ⟨fs9, hq9⟩ := rl_qm (h := h) (a := a) (cI := cI) (cL := cL) w1 (gw_Wu ad fo fa ur cI cL cF cA u1 ++ rl_O ao cL ov1)
  have hM := rg_fI (gw_Wu ad fo fa ur cI cL cF cA u1 ++ rl_O ao cL ov1) (cm_thrown (l := l) (dC := dC) (dI := dI) (h := h) (a := a) (cI := cI) (cL := cL) (w := w1)) H.size
  refine rg_calli hD hS hA (va_runV (As := []) (rest := []) ⟨hx, hb, hml, hown, hts⟩ hM (cwV 0 hts (rg_gV tw_659 tw_660 tw_661 tw_5 tw_662) rfl rfl rfl (by decide +kernel) ⟨(Nat.le_of_ble_eq_true rfl), (Nat.le_of_ble_eq_true rfl)⟩) (rg_preV rfl hKm hP hD (ci := 0) (q0 := 0) rfl hq9) rfl rfl hl.1 rfl (lv_room (Nat.le_of_ble_eq_true rfl)) dl_326 ⟨show cells + 17 + 0 ≤ 601024 by omega, show slots + 70 + 0 ≤ 7293034 by omega⟩) (fun t9 _ H locs hr9 hP hD hS => ?_)
  have hP : va_P (dC, dI) rg_cl (rm_Wu h a cI cL w1 ++ (gw_Wu ad fo fa ur cI cL cF cA u1 ++ rl_O ao cL ov1)) H := hP
  have hD : va_D (fun q => s.heap.size ≤ q) (rm_Wu h a cI cL w1 ++ (gw_Wu ad fo fa ur cI cL cF cA u1 ++ rl_O ao cL ov1)) := hD
  subst hr9
  refine lv_iload hx hb dl_329 (lv_at hl 1 rfl) ?_
  refine lv_icmp_eq (tgt := 336) hx hb dl_331 (by decide) (fun _ => ?_) (fun h => absurd (hc9.trans hk9.symm) h)
  refine lv_iload hx hb dl_336 (lv_at hl 1 rfl) ?_
  refine lv_if_ne (tgt := 353) hx hb dl_338 (by decide) (fun _ => ?_) (fun h0 => ?_)
  · refine lv_goto (tgt := 1157) hx hb dl_353 (by decide) ?_
    have hP := rg_P_comm hP
    have hD := rg_D_comm hD
    exact kk u1 ov1 w1 _ _ _ _ hu hw hP hD hS (lv_sub hl [2, 3, 4, 5, 6] rfl)
  · have hP := rg_P_comm hP
    have hD := rg_D_comm hD
    refine lv_aload_n hx hb dl_341 rfl (lv_at hl 5 rfl) ?_
    refine lv_iconst (v := nI 0) hx hb dl_342 (by decide) ?_
    refine rg_lald hx hb hK hP _ 1 (rg_apl (rg_apr (k := 0) rfl)) rfl (by decide) (by decide) dl_343 ?_
    refine lv_iload hx hb dl_344 (lv_at hl 0 rfl) ?_
    refine lv_i2l (v := z9.toInt64) hx hb dl_346 rfl ?_
    refine W.lcmp hx hb dl_347 ?_
    refine lv_if_eq (tgt := 353) hx hb dl_348 (by decide) (fun _ => ?_) (fun h1 => absurd ((lg_cmp_eq _ _).mpr ((ho9 (hk9.symm.trans h0)).trans (congrArg Int32.toInt64 hz9.symm))) h1)
    refine lv_goto (tgt := 1157) hx hb dl_353 (by decide) ?_
    exact kk u1 ov1 w1 _ _ _ _ hu hw hP hD hS (lv_sub hl [2, 3, 4, 5, 6] rfl)
set_option maxHeartbeats 4000000 in
set_option maxRecDepth 100000 in
theorem st_insert {p : Program} {l : Launch} {e : Env} {s : State} {m : MethodId} {below : List Frame} {meth : Method} {c : Code} {b L : Nat} {xs : Nat → Int32} {Q : State → Prop} {H : Heap} {locs : List Loc} {cells slots : Nat} {ls : Array Slot} {dC : Nat → ClassId} {dI : Nat → Nat → Nat} {ad fo fa ur : Nat → Nat} {cI cL cF cA : ClassId} {ao h : Nat} {a : Nat → Nat} {u : gw_S} {ov : Nat → Int64} {w : rm_S} {g : rg_A} {j : Nat} (hlt : l.stackTraces = false) (C0 : rl_At p s m meth c b L xs) (hL : L ≤ 2048) (hT : rx_T (fun q => s.heap.size ≤ q) s s.heap) (hnc : gw_NC s) (hK : va_K (dC, dI) rg_cl (gw_tys cI cL cF cA) s) (hu : gw_Ru u g) (hw : rm_Ru w g) (hj : 4 * j + 4 ≤ L) (hc : cells + 17 ≤ 601024) (hs : slots + 70 ≤ 7293034) (hP : va_P (dC, dI) rg_cl ((gw_Wu ad fo fa ur cI cL cF cA u ++ rl_O ao cL ov) ++ rm_Wu h a cI cL w) H) (hD : va_D (fun q => s.heap.size ≤ q) ((gw_Wu ad fo fa ur cI cL cF cA u ++ rl_O ao cL ov) ++ rm_Wu h a cI cL w)) (hS : va_S (fun q => s.heap.size ≤ q) s.heap H locs) (hl : lv_has ls 8 [(0, .ref b), (1, .ref (ad 0)), (2, .ref h), (3, .ref ao), (4, .int (nI (4 * j)))])
    (kk : ∀ (u : gw_S) (ov : Nat → Int64) (w : rm_S) (g : rg_A) (H : Heap) (locs : List Loc) (ls : Array Slot), gw_Ru u g → rm_Ru w g → va_P (dC, dI) rg_cl ((gw_Wu ad fo fa ur cI cL cF cA u ++ rl_O ao cL ov) ++ rm_Wu h a cI cL w) H → va_D (fun q => s.heap.size ≤ q) ((gw_Wu ad fo fa ur cI cL cF cA u ++ rl_O ao cL ov) ++ rm_Wu h a cI cL w) → va_S (fun q => s.heap.size ≤ q) s.heap H locs → lv_has ls 8 [(0, .ref b), (1, .ref (ad 0)), (2, .ref h), (3, .ref ao), (4, .int (nI (4 * j)))] → W p l e room_1 s m #[Value.ref b] below meth c H locs (cells + 17) (slots + 70) Q (F0 m 1157 ls [])) : W p l e room_1 s m #[Value.ref b] below meth c H locs cells slots Q (F0 m 356 ls []) := by
  obtain ⟨hx, hb, hml, hown, hts, hX, hbl⟩ := C0
  have hbA : ¬ s.heap.size ≤ b := Nat.not_le.mpr hbl
  have hA : ∀ q : Nat, s.heap.size ≤ q → s.heap.size ≤ q := fun q h => h
  have hKm : va_K (dC, dI) rg_cl [(cI, .int), (cL, .long)] s := hK.sub [0, 1] rfl
  refine lv_aload_n hx hb dl_356 rfl (lv_at hl 1 rfl) ?_
  refine lv_aload_n hx hb dl_357 rfl (lv_at hl 0 rfl) ?_
  refine lv_iload hx hb dl_358 (lv_at hl 4 rfl) ?_
  refine lv_iconst (v := nI 1) hx hb dl_360 (by decide) ?_
  refine rg_iadd hx hb dl_361 ?_
  refine rl_sld hx hb hX hbl hbA hS hL (show 4 * j + 1 < L by omega) dl_362 ?_
  refine lv_aload_n hx hb dl_363 rfl (lv_at hl 0 rfl) ?_
  refine lv_iload hx hb dl_364 (lv_at hl 4 rfl) ?_
  refine lv_iconst (v := nI 2) hx hb dl_366 (by decide) ?_
  refine rg_iadd hx hb dl_367 ?_
  refine rl_sld hx hb hX hbl hbA hS hL (show 4 * j + 2 < L by omega) dl_368 ?_
  refine lv_aload_n hx hb dl_369 rfl (lv_at hl 0 rfl) ?_
  refine lv_iload hx hb dl_370 (lv_at hl 4 rfl) ?_
  refine lv_iconst (v := nI 3) hx hb dl_372 (by decide) ?_
  refine rg_iadd hx hb dl_373 ?_
  refine rl_sld hx hb hX hbl hbA hS hL (show 4 * j + 3 < L by omega) dl_374 ?_
  refine lv_aload_n hx hb dl_375 rfl (lv_at hl 3 rfl) ?_
  have hM := rw_fI (rm_Wu h a cI cL w) (cw_insert (l := l) (dC := dC) (dI := dI) (ad := ad) (fo := fo) (fa := fa) (ur := ur) (cI := cI) (cL := cL) (cF := cF) (cA := cA) (ao := ao) (ov := ov) hlt hu (xs (4 * j + 1)) (xs (4 * j + 2)) (xs (4 * j + 3))) H.size
  refine rg_calli hD hS hA (vx_runSW (As := [.ref (ad 0), .int (xs (4 * j + 1)), .int (xs (4 * j + 2)), .int (xs (4 * j + 3)), .ref ao]) (rest := []) ⟨hx, hb, hml, hown, hts⟩ hM (vx_cwSW 5 hts (rg_gSw tw_315 tw_316 tw_0 tw_317) rfl rfl rfl (by decide +kernel) ⟨(Nat.le_of_ble_eq_true rfl), (Nat.le_of_ble_eq_true rfl)⟩) (rw_preS rfl hT hnc hS hA hK hP hD) rfl rfl hl.1 rfl (lv_room (Nat.le_of_ble_eq_true rfl)) dl_376 ⟨hc, hs⟩) (fun k9 v9 H locs hq hP hD hS => ?_)
  obtain ⟨u1, ov1⟩ := v9
  have hP : va_P (dC, dI) rg_cl ((gw_Wu ad fo fa ur cI cL cF cA u1 ++ rl_O ao cL ov1) ++ rm_Wu h a cI cL w) H := hP
  have hD : va_D (fun q => s.heap.size ≤ q) ((gw_Wu ad fo fa ur cI cL cF cA u1 ++ rl_O ao cL ov1) ++ rm_Wu h a cI cL w) := hD
  obtain ⟨hk9, hu, ho9⟩ := hq
  refine lv_istore (lv' := [(5, .int k9), (0, .ref b), (1, .ref (ad 0)), (2, .ref h), (3, .ref ao), (4, .int (nI (4 * j)))]) hx hb dl_379 hl (by decide) rfl (fun ls hl => ?_)
  refine lv_aload_n hx hb dl_381 rfl (lv_at hl 3 rfl) ?_
  refine lv_aload_n hx hb dl_382 rfl (lv_at hl 1 rfl) ?_
  refine lv_iload hx hb dl_383 (lv_at hl 5 rfl) ?_
  refine lv_iconst (v := nI 1) hx hb dl_385 (by decide) ?_
  refine rg_iadd hx hb dl_386 ?_
  refine rl_sld hx hb hX hbl hbA hS hL (show 4 * j + 1 < L by omega) dl_387 ?_
  refine lv_aload_n hx hb dl_388 rfl (lv_at hl 1 rfl) ?_
  refine lv_iload hx hb dl_389 (lv_at hl 5 rfl) ?_
  refine lv_iconst (v := nI 2) hx hb dl_391 (by decide) ?_
  refine rg_iadd hx hb dl_392 ?_
  refine rl_sld hx hb hX hbl hbA hS hL (show 4 * j + 2 < L by omega) dl_393 ?_
  refine lv_aload_n hx hb dl_394 rfl (lv_at hl 1 rfl) ?_
  refine lv_iload hx hb dl_395 (lv_at hl 5 rfl) ?_
  refine lv_iconst (v := nI 3) hx hb dl_397 (by decide) ?_
  refine rg_iadd hx hb dl_398 ?_
  refine rl_sld hx hb hX hbl hbA hS hL (show 4 * j + 3 < L by omega) dl_399 ?_
  have hP := rg_P_comm hP
  have hD := rg_D_comm hD
  have hP : va_P (dC, dI) rg_cl (rm_Wu h a cI cL w ++ (gw_Wu ad fo fa ur cI cL cF cA u1 ++ rl_O ao cL ov1)) H := hP
  have hD : va_D (fun q => s.heap.size ≤ q) (rm_Wu h a cI cL w ++ (gw_Wu ad fo fa ur cI cL cF cA u1 ++ rl_O ao cL ov1)) := hD
  obtain ⟨fs9, hq9⟩ := rl_qm (h := h) (a := a) (cI := cI) (cL := cL) w (gw_Wu ad fo fa ur cI cL cF cA u1 ++ rl_O ao cL ov1)
  have hM := rg_fI (gw_Wu ad fo fa ur cI cL cF cA u1 ++ rl_O ao cL ov1) (cm_insert (l := l) (dC := dC) (dI := dI) (h := h) (a := a) (cI := cI) (cL := cL) hw (xs (4 * j + 1)) (xs (4 * j + 2)) (xs (4 * j + 3))) H.size
  refine rg_calli hD hS hA (va_runV (As := [.int (xs (4 * j + 1)), .int (xs (4 * j + 2)), .int (xs (4 * j + 3))]) (rest := []) ⟨hx, hb, hml, hown, hts⟩ hM (cwV 3 hts (rg_gV tw_703 tw_704 tw_705 tw_5 tw_706) rfl rfl rfl (by decide +kernel) ⟨(Nat.le_of_ble_eq_true rfl), (Nat.le_of_ble_eq_true rfl)⟩) (rg_preV rfl hKm hP hD (ci := 0) (q0 := 0) rfl hq9) rfl rfl hl.1 rfl (lv_room (Nat.le_of_ble_eq_true rfl)) dl_400 ⟨show cells + 17 + 0 ≤ 601024 by omega, show slots + 70 + 0 ≤ 7293034 by omega⟩) (fun z9 w1 H locs hr9 hP hD hS => ?_)
  have hP : va_P (dC, dI) rg_cl (rm_Wu h a cI cL w1 ++ (gw_Wu ad fo fa ur cI cL cF cA u1 ++ rl_O ao cL ov1)) H := hP
  have hD : va_D (fun q => s.heap.size ≤ q) (rm_Wu h a cI cL w1 ++ (gw_Wu ad fo fa ur cI cL cF cA u1 ++ rl_O ao cL ov1)) := hD
  obtain ⟨hw, hc9, hz9⟩ := hr9
  refine lv_istore (lv' := [(6, .int z9), (5, .int k9), (0, .ref b), (1, .ref (ad 0)), (2, .ref h), (3, .ref ao), (4, .int (nI (4 * j)))]) hx hb dl_403 hl (by decide) rfl (fun ls hl => ?_)
  refine lv_aload_n hx hb dl_405 rfl (lv_at hl 4 rfl) ?_
  have hP : va_P (dC, dI) rg_cl (rm_Wu h a cI cL w1 ++ (gw_Wu ad fo fa ur cI cL cF cA u1 ++ rl_O ao cL ov1)) H := hP
  have hD : va_D (fun q => s.heap.size ≤ q) (rm_Wu h a cI cL w1 ++ (gw_Wu ad fo fa ur cI cL cF cA u1 ++ rl_O ao cL ov1)) := hD
  obtain ⟨fs9, hq9⟩ := rl_qm (h := h) (a := a) (cI := cI) (cL := cL) w1 (gw_Wu ad fo fa ur cI cL cF cA u1 ++ rl_O ao cL ov1)
  have hM := rg_fI (gw_Wu ad fo fa ur cI cL cF cA u1 ++ rl_O ao cL ov1) (cm_thrown (l := l) (dC := dC) (dI := dI) (h := h) (a := a) (cI := cI) (cL := cL) (w := w1)) H.size
  refine rg_calli hD hS hA (va_runV (As := []) (rest := []) ⟨hx, hb, hml, hown, hts⟩ hM (cwV 0 hts (rg_gV tw_659 tw_660 tw_661 tw_5 tw_662) rfl rfl rfl (by decide +kernel) ⟨(Nat.le_of_ble_eq_true rfl), (Nat.le_of_ble_eq_true rfl)⟩) (rg_preV rfl hKm hP hD (ci := 0) (q0 := 0) rfl hq9) rfl rfl hl.1 rfl (lv_room (Nat.le_of_ble_eq_true rfl)) dl_406 ⟨show cells + 17 + 0 ≤ 601024 by omega, show slots + 70 + 0 ≤ 7293034 by omega⟩) (fun t9 _ H locs hr9 hP hD hS => ?_)
  have hP : va_P (dC, dI) rg_cl (rm_Wu h a cI cL w1 ++ (gw_Wu ad fo fa ur cI cL cF cA u1 ++ rl_O ao cL ov1)) H := hP
  have hD : va_D (fun q => s.heap.size ≤ q) (rm_Wu h a cI cL w1 ++ (gw_Wu ad fo fa ur cI cL cF cA u1 ++ rl_O ao cL ov1)) := hD
  subst hr9
  refine lv_iload hx hb dl_409 (lv_at hl 1 rfl) ?_
  refine lv_icmp_eq (tgt := 416) hx hb dl_411 (by decide) (fun _ => ?_) (fun h => absurd (hc9.trans hk9.symm) h)
  refine lv_iload hx hb dl_416 (lv_at hl 1 rfl) ?_
  refine lv_if_ne (tgt := 433) hx hb dl_418 (by decide) (fun _ => ?_) (fun h0 => ?_)
  · refine lv_goto (tgt := 1157) hx hb dl_433 (by decide) ?_
    have hP := rg_P_comm hP
    have hD := rg_D_comm hD
    exact kk u1 ov1 w1 _ _ _ _ hu hw hP hD hS (lv_sub hl [2, 3, 4, 5, 6] rfl)
  · have hP := rg_P_comm hP
    have hD := rg_D_comm hD
    refine lv_aload_n hx hb dl_421 rfl (lv_at hl 5 rfl) ?_
    refine lv_iconst (v := nI 0) hx hb dl_422 (by decide) ?_
    refine rg_lald hx hb hK hP _ 1 (rg_apl (rg_apr (k := 0) rfl)) rfl (by decide) (by decide) dl_423 ?_
    refine lv_iload hx hb dl_424 (lv_at hl 0 rfl) ?_
    refine lv_i2l (v := z9.toInt64) hx hb dl_426 rfl ?_
    refine W.lcmp hx hb dl_427 ?_
    refine lv_if_eq (tgt := 433) hx hb dl_428 (by decide) (fun _ => ?_) (fun h1 => absurd ((lg_cmp_eq _ _).mpr ((ho9 (hk9.symm.trans h0)).trans (congrArg Int32.toInt64 hz9.symm))) h1)
    refine lv_goto (tgt := 1157) hx hb dl_433 (by decide) ?_
    exact kk u1 ov1 w1 _ _ _ _ hu hw hP hD hS (lv_sub hl [2, 3, 4, 5, 6] rfl)
set_option maxHeartbeats 4000000 in
set_option maxRecDepth 100000 in
theorem st_remove {p : Program} {l : Launch} {e : Env} {s : State} {m : MethodId} {below : List Frame} {meth : Method} {c : Code} {b L : Nat} {xs : Nat → Int32} {Q : State → Prop} {H : Heap} {locs : List Loc} {cells slots : Nat} {ls : Array Slot} {dC : Nat → ClassId} {dI : Nat → Nat → Nat} {ad fo fa ur : Nat → Nat} {cI cL cF cA : ClassId} {ao h : Nat} {a : Nat → Nat} {u : gw_S} {ov : Nat → Int64} {w : rm_S} {g : rg_A} {j : Nat} (hlt : l.stackTraces = false) (C0 : rl_At p s m meth c b L xs) (hL : L ≤ 2048) (hT : rx_T (fun q => s.heap.size ≤ q) s s.heap) (hnc : gw_NC s) (hK : va_K (dC, dI) rg_cl (gw_tys cI cL cF cA) s) (hu : gw_Ru u g) (hw : rm_Ru w g) (hj : 4 * j + 4 ≤ L) (hc : cells + 17 ≤ 601024) (hs : slots + 70 ≤ 7293034) (hP : va_P (dC, dI) rg_cl ((gw_Wu ad fo fa ur cI cL cF cA u ++ rl_O ao cL ov) ++ rm_Wu h a cI cL w) H) (hD : va_D (fun q => s.heap.size ≤ q) ((gw_Wu ad fo fa ur cI cL cF cA u ++ rl_O ao cL ov) ++ rm_Wu h a cI cL w)) (hS : va_S (fun q => s.heap.size ≤ q) s.heap H locs) (hl : lv_has ls 8 [(0, .ref b), (1, .ref (ad 0)), (2, .ref h), (3, .ref ao), (4, .int (nI (4 * j)))])
    (kk : ∀ (u : gw_S) (ov : Nat → Int64) (w : rm_S) (g : rg_A) (H : Heap) (locs : List Loc) (ls : Array Slot), gw_Ru u g → rm_Ru w g → va_P (dC, dI) rg_cl ((gw_Wu ad fo fa ur cI cL cF cA u ++ rl_O ao cL ov) ++ rm_Wu h a cI cL w) H → va_D (fun q => s.heap.size ≤ q) ((gw_Wu ad fo fa ur cI cL cF cA u ++ rl_O ao cL ov) ++ rm_Wu h a cI cL w) → va_S (fun q => s.heap.size ≤ q) s.heap H locs → lv_has ls 8 [(0, .ref b), (1, .ref (ad 0)), (2, .ref h), (3, .ref ao), (4, .int (nI (4 * j)))] → W p l e room_1 s m #[Value.ref b] below meth c H locs (cells + 17) (slots + 70) Q (F0 m 1157 ls [])) : W p l e room_1 s m #[Value.ref b] below meth c H locs cells slots Q (F0 m 436 ls []) := by
  obtain ⟨hx, hb, hml, hown, hts, hX, hbl⟩ := C0
  have hbA : ¬ s.heap.size ≤ b := Nat.not_le.mpr hbl
  have hA : ∀ q : Nat, s.heap.size ≤ q → s.heap.size ≤ q := fun q h => h
  have hKm : va_K (dC, dI) rg_cl [(cI, .int), (cL, .long)] s := hK.sub [0, 1] rfl
  refine lv_aload_n hx hb dl_436 rfl (lv_at hl 1 rfl) ?_
  refine lv_aload_n hx hb dl_437 rfl (lv_at hl 0 rfl) ?_
  refine lv_iload hx hb dl_438 (lv_at hl 4 rfl) ?_
  refine lv_iconst (v := nI 1) hx hb dl_440 (by decide) ?_
  refine rg_iadd hx hb dl_441 ?_
  refine rl_sld hx hb hX hbl hbA hS hL (show 4 * j + 1 < L by omega) dl_442 ?_
  refine lv_aload_n hx hb dl_443 rfl (lv_at hl 0 rfl) ?_
  refine lv_iload hx hb dl_444 (lv_at hl 4 rfl) ?_
  refine lv_iconst (v := nI 2) hx hb dl_446 (by decide) ?_
  refine rg_iadd hx hb dl_447 ?_
  refine rl_sld hx hb hX hbl hbA hS hL (show 4 * j + 2 < L by omega) dl_448 ?_
  refine lv_aload_n hx hb dl_449 rfl (lv_at hl 3 rfl) ?_
  have hM := rw_fI (rm_Wu h a cI cL w) (cw_remove (l := l) (dC := dC) (dI := dI) (ad := ad) (fo := fo) (fa := fa) (ur := ur) (cI := cI) (cL := cL) (cF := cF) (cA := cA) (ao := ao) (ov := ov) hlt hu (xs (4 * j + 1)) (xs (4 * j + 2))) H.size
  refine rg_calli hD hS hA (vx_runSW (As := [.ref (ad 0), .int (xs (4 * j + 1)), .int (xs (4 * j + 2)), .ref ao]) (rest := []) ⟨hx, hb, hml, hown, hts⟩ hM (vx_cwSW 4 hts (rg_gSw tw_349 tw_350 tw_0 tw_351) rfl rfl rfl (by decide +kernel) ⟨(Nat.le_of_ble_eq_true rfl), (Nat.le_of_ble_eq_true rfl)⟩) (rw_preS rfl hT hnc hS hA hK hP hD) rfl rfl hl.1 rfl (lv_room (Nat.le_of_ble_eq_true rfl)) dl_450 ⟨hc, hs⟩) (fun k9 v9 H locs hq hP hD hS => ?_)
  obtain ⟨u1, ov1⟩ := v9
  have hP : va_P (dC, dI) rg_cl ((gw_Wu ad fo fa ur cI cL cF cA u1 ++ rl_O ao cL ov1) ++ rm_Wu h a cI cL w) H := hP
  have hD : va_D (fun q => s.heap.size ≤ q) ((gw_Wu ad fo fa ur cI cL cF cA u1 ++ rl_O ao cL ov1) ++ rm_Wu h a cI cL w) := hD
  obtain ⟨hk9, hu, ho9⟩ := hq
  refine lv_istore (lv' := [(5, .int k9), (0, .ref b), (1, .ref (ad 0)), (2, .ref h), (3, .ref ao), (4, .int (nI (4 * j)))]) hx hb dl_453 hl (by decide) rfl (fun ls hl => ?_)
  refine lv_aload_n hx hb dl_455 rfl (lv_at hl 3 rfl) ?_
  refine lv_aload_n hx hb dl_456 rfl (lv_at hl 1 rfl) ?_
  refine lv_iload hx hb dl_457 (lv_at hl 5 rfl) ?_
  refine lv_iconst (v := nI 1) hx hb dl_459 (by decide) ?_
  refine rg_iadd hx hb dl_460 ?_
  refine rl_sld hx hb hX hbl hbA hS hL (show 4 * j + 1 < L by omega) dl_461 ?_
  refine lv_aload_n hx hb dl_462 rfl (lv_at hl 1 rfl) ?_
  refine lv_iload hx hb dl_463 (lv_at hl 5 rfl) ?_
  refine lv_iconst (v := nI 2) hx hb dl_465 (by decide) ?_
  refine rg_iadd hx hb dl_466 ?_
  refine rl_sld hx hb hX hbl hbA hS hL (show 4 * j + 2 < L by omega) dl_467 ?_
  have hP := rg_P_comm hP
  have hD := rg_D_comm hD
  have hP : va_P (dC, dI) rg_cl (rm_Wu h a cI cL w ++ (gw_Wu ad fo fa ur cI cL cF cA u1 ++ rl_O ao cL ov1)) H := hP
  have hD : va_D (fun q => s.heap.size ≤ q) (rm_Wu h a cI cL w ++ (gw_Wu ad fo fa ur cI cL cF cA u1 ++ rl_O ao cL ov1)) := hD
  obtain ⟨fs9, hq9⟩ := rl_qm (h := h) (a := a) (cI := cI) (cL := cL) w (gw_Wu ad fo fa ur cI cL cF cA u1 ++ rl_O ao cL ov1)
  have hM := rg_fI (gw_Wu ad fo fa ur cI cL cF cA u1 ++ rl_O ao cL ov1) (cm_remove (l := l) (dC := dC) (dI := dI) (h := h) (a := a) (cI := cI) (cL := cL) hw (xs (4 * j + 1)) (xs (4 * j + 2))) H.size
  refine rg_calli hD hS hA (va_runV (As := [.int (xs (4 * j + 1)), .int (xs (4 * j + 2))]) (rest := []) ⟨hx, hb, hml, hown, hts⟩ hM (cwV 2 hts (rg_gV tw_707 tw_708 tw_709 tw_5 tw_710) rfl rfl rfl (by decide +kernel) ⟨(Nat.le_of_ble_eq_true rfl), (Nat.le_of_ble_eq_true rfl)⟩) (rg_preV rfl hKm hP hD (ci := 0) (q0 := 0) rfl hq9) rfl rfl hl.1 rfl (lv_room (Nat.le_of_ble_eq_true rfl)) dl_468 ⟨show cells + 17 + 0 ≤ 601024 by omega, show slots + 70 + 0 ≤ 7293034 by omega⟩) (fun z9 w1 H locs hr9 hP hD hS => ?_)
  have hP : va_P (dC, dI) rg_cl (rm_Wu h a cI cL w1 ++ (gw_Wu ad fo fa ur cI cL cF cA u1 ++ rl_O ao cL ov1)) H := hP
  have hD : va_D (fun q => s.heap.size ≤ q) (rm_Wu h a cI cL w1 ++ (gw_Wu ad fo fa ur cI cL cF cA u1 ++ rl_O ao cL ov1)) := hD
  obtain ⟨hw, hc9, hz9⟩ := hr9
  refine lv_istore (lv' := [(6, .int z9), (5, .int k9), (0, .ref b), (1, .ref (ad 0)), (2, .ref h), (3, .ref ao), (4, .int (nI (4 * j)))]) hx hb dl_471 hl (by decide) rfl (fun ls hl => ?_)
  refine lv_aload_n hx hb dl_473 rfl (lv_at hl 4 rfl) ?_
  have hP : va_P (dC, dI) rg_cl (rm_Wu h a cI cL w1 ++ (gw_Wu ad fo fa ur cI cL cF cA u1 ++ rl_O ao cL ov1)) H := hP
  have hD : va_D (fun q => s.heap.size ≤ q) (rm_Wu h a cI cL w1 ++ (gw_Wu ad fo fa ur cI cL cF cA u1 ++ rl_O ao cL ov1)) := hD
  obtain ⟨fs9, hq9⟩ := rl_qm (h := h) (a := a) (cI := cI) (cL := cL) w1 (gw_Wu ad fo fa ur cI cL cF cA u1 ++ rl_O ao cL ov1)
  have hM := rg_fI (gw_Wu ad fo fa ur cI cL cF cA u1 ++ rl_O ao cL ov1) (cm_thrown (l := l) (dC := dC) (dI := dI) (h := h) (a := a) (cI := cI) (cL := cL) (w := w1)) H.size
  refine rg_calli hD hS hA (va_runV (As := []) (rest := []) ⟨hx, hb, hml, hown, hts⟩ hM (cwV 0 hts (rg_gV tw_659 tw_660 tw_661 tw_5 tw_662) rfl rfl rfl (by decide +kernel) ⟨(Nat.le_of_ble_eq_true rfl), (Nat.le_of_ble_eq_true rfl)⟩) (rg_preV rfl hKm hP hD (ci := 0) (q0 := 0) rfl hq9) rfl rfl hl.1 rfl (lv_room (Nat.le_of_ble_eq_true rfl)) dl_474 ⟨show cells + 17 + 0 ≤ 601024 by omega, show slots + 70 + 0 ≤ 7293034 by omega⟩) (fun t9 _ H locs hr9 hP hD hS => ?_)
  have hP : va_P (dC, dI) rg_cl (rm_Wu h a cI cL w1 ++ (gw_Wu ad fo fa ur cI cL cF cA u1 ++ rl_O ao cL ov1)) H := hP
  have hD : va_D (fun q => s.heap.size ≤ q) (rm_Wu h a cI cL w1 ++ (gw_Wu ad fo fa ur cI cL cF cA u1 ++ rl_O ao cL ov1)) := hD
  subst hr9
  refine lv_iload hx hb dl_477 (lv_at hl 1 rfl) ?_
  refine lv_icmp_eq (tgt := 484) hx hb dl_479 (by decide) (fun _ => ?_) (fun h => absurd (hc9.trans hk9.symm) h)
  refine lv_iload hx hb dl_484 (lv_at hl 1 rfl) ?_
  refine lv_if_ne (tgt := 501) hx hb dl_486 (by decide) (fun _ => ?_) (fun h0 => ?_)
  · refine lv_goto (tgt := 1157) hx hb dl_501 (by decide) ?_
    have hP := rg_P_comm hP
    have hD := rg_D_comm hD
    exact kk u1 ov1 w1 _ _ _ _ hu hw hP hD hS (lv_sub hl [2, 3, 4, 5, 6] rfl)
  · have hP := rg_P_comm hP
    have hD := rg_D_comm hD
    refine lv_aload_n hx hb dl_489 rfl (lv_at hl 5 rfl) ?_
    refine lv_iconst (v := nI 0) hx hb dl_490 (by decide) ?_
    refine rg_lald hx hb hK hP _ 1 (rg_apl (rg_apr (k := 0) rfl)) rfl (by decide) (by decide) dl_491 ?_
    refine lv_iload hx hb dl_492 (lv_at hl 0 rfl) ?_
    refine lv_i2l (v := z9.toInt64) hx hb dl_494 rfl ?_
    refine W.lcmp hx hb dl_495 ?_
    refine lv_if_eq (tgt := 501) hx hb dl_496 (by decide) (fun _ => ?_) (fun h1 => absurd ((lg_cmp_eq _ _).mpr ((ho9 (hk9.symm.trans h0)).trans (congrArg Int32.toInt64 hz9.symm))) h1)
    refine lv_goto (tgt := 1157) hx hb dl_501 (by decide) ?_
    exact kk u1 ov1 w1 _ _ _ _ hu hw hP hD hS (lv_sub hl [2, 3, 4, 5, 6] rfl)
set_option maxHeartbeats 4000000 in
set_option maxRecDepth 100000 in
theorem st_point {p : Program} {l : Launch} {e : Env} {s : State} {m : MethodId} {below : List Frame} {meth : Method} {c : Code} {b L : Nat} {xs : Nat → Int32} {Q : State → Prop} {H : Heap} {locs : List Loc} {cells slots : Nat} {ls : Array Slot} {dC : Nat → ClassId} {dI : Nat → Nat → Nat} {ad fo fa ur : Nat → Nat} {cI cL cF cA : ClassId} {ao h : Nat} {a : Nat → Nat} {u : gw_S} {ov : Nat → Int64} {w : rm_S} {g : rg_A} {j : Nat} (hlt : l.stackTraces = false) (C0 : rl_At p s m meth c b L xs) (hL : L ≤ 2048) (hT : rx_T (fun q => s.heap.size ≤ q) s s.heap) (hnc : gw_NC s) (hK : va_K (dC, dI) rg_cl (gw_tys cI cL cF cA) s) (hu : gw_Ru u g) (hw : rm_Ru w g) (hj : 4 * j + 4 ≤ L) (hc : cells + 17 ≤ 601024) (hs : slots + 70 ≤ 7293034) (hP : va_P (dC, dI) rg_cl ((gw_Wu ad fo fa ur cI cL cF cA u ++ rl_O ao cL ov) ++ rm_Wu h a cI cL w) H) (hD : va_D (fun q => s.heap.size ≤ q) ((gw_Wu ad fo fa ur cI cL cF cA u ++ rl_O ao cL ov) ++ rm_Wu h a cI cL w)) (hS : va_S (fun q => s.heap.size ≤ q) s.heap H locs) (hl : lv_has ls 8 [(0, .ref b), (1, .ref (ad 0)), (2, .ref h), (3, .ref ao), (4, .int (nI (4 * j)))])
    (kk : ∀ (u : gw_S) (ov : Nat → Int64) (w : rm_S) (g : rg_A) (H : Heap) (locs : List Loc) (ls : Array Slot), gw_Ru u g → rm_Ru w g → va_P (dC, dI) rg_cl ((gw_Wu ad fo fa ur cI cL cF cA u ++ rl_O ao cL ov) ++ rm_Wu h a cI cL w) H → va_D (fun q => s.heap.size ≤ q) ((gw_Wu ad fo fa ur cI cL cF cA u ++ rl_O ao cL ov) ++ rm_Wu h a cI cL w) → va_S (fun q => s.heap.size ≤ q) s.heap H locs → lv_has ls 8 [(0, .ref b), (1, .ref (ad 0)), (2, .ref h), (3, .ref ao), (4, .int (nI (4 * j)))] → W p l e room_1 s m #[Value.ref b] below meth c H locs (cells + 17) (slots + 70) Q (F0 m 1157 ls [])) : W p l e room_1 s m #[Value.ref b] below meth c H locs cells slots Q (F0 m 504 ls []) := by
  obtain ⟨hx, hb, hml, hown, hts, hX, hbl⟩ := C0
  have hbA : ¬ s.heap.size ≤ b := Nat.not_le.mpr hbl
  have hA : ∀ q : Nat, s.heap.size ≤ q → s.heap.size ≤ q := fun q h => h
  have hKm : va_K (dC, dI) rg_cl [(cI, .int), (cL, .long)] s := hK.sub [0, 1] rfl
  refine lv_aload_n hx hb dl_504 rfl (lv_at hl 1 rfl) ?_
  refine lv_aload_n hx hb dl_505 rfl (lv_at hl 0 rfl) ?_
  refine lv_iload hx hb dl_506 (lv_at hl 4 rfl) ?_
  refine lv_iconst (v := nI 1) hx hb dl_508 (by decide) ?_
  refine rg_iadd hx hb dl_509 ?_
  refine rl_sld hx hb hX hbl hbA hS hL (show 4 * j + 1 < L by omega) dl_510 ?_
  rw [List.append_assoc] at hP hD
  have hM := rw_fI (rl_O ao cL ov ++ rm_Wu h a cI cL w) (cw_point (l := l) (dC := dC) (dI := dI) (ad := ad) (fo := fo) (fa := fa) (ur := ur) (cI := cI) (cL := cL) (cF := cF) (cA := cA) hlt hu (xs (4 * j + 1))) H.size
  refine rg_calli hD hS hA (vx_runSW (As := [.ref (ad 0), .int (xs (4 * j + 1))]) (rest := []) ⟨hx, hb, hml, hown, hts⟩ hM (vx_cwSW 2 hts (rg_gSw tw_365 tw_366 tw_0 tw_367) rfl rfl rfl (by decide +kernel) ⟨(Nat.le_of_ble_eq_true rfl), (Nat.le_of_ble_eq_true rfl)⟩) (rw_preS rfl hT hnc hS hA hK hP hD) rfl rfl hl.1 rfl (lv_room (Nat.le_of_ble_eq_true rfl)) dl_511 ⟨hc, hs⟩) (fun k9 u1 H locs hq hP hD hS => ?_)
  rw [← List.append_assoc] at hP hD
  have hP : va_P (dC, dI) rg_cl ((gw_Wu ad fo fa ur cI cL cF cA u1 ++ rl_O ao cL ov) ++ rm_Wu h a cI cL w) H := hP
  have hD : va_D (fun q => s.heap.size ≤ q) ((gw_Wu ad fo fa ur cI cL cF cA u1 ++ rl_O ao cL ov) ++ rm_Wu h a cI cL w) := hD
  obtain ⟨hk9, hu⟩ := hq
  refine lv_istore (lv' := [(5, .int k9), (0, .ref b), (1, .ref (ad 0)), (2, .ref h), (3, .ref ao), (4, .int (nI (4 * j)))]) hx hb dl_514 hl (by decide) rfl (fun ls hl => ?_)
  refine lv_aload_n hx hb dl_516 rfl (lv_at hl 3 rfl) ?_
  refine lv_aload_n hx hb dl_517 rfl (lv_at hl 1 rfl) ?_
  refine lv_iload hx hb dl_518 (lv_at hl 5 rfl) ?_
  refine lv_iconst (v := nI 1) hx hb dl_520 (by decide) ?_
  refine rg_iadd hx hb dl_521 ?_
  refine rl_sld hx hb hX hbl hbA hS hL (show 4 * j + 1 < L by omega) dl_522 ?_
  have hP := rg_P_comm hP
  have hD := rg_D_comm hD
  have hP : va_P (dC, dI) rg_cl (rm_Wu h a cI cL w ++ (gw_Wu ad fo fa ur cI cL cF cA u1 ++ rl_O ao cL ov)) H := hP
  have hD : va_D (fun q => s.heap.size ≤ q) (rm_Wu h a cI cL w ++ (gw_Wu ad fo fa ur cI cL cF cA u1 ++ rl_O ao cL ov)) := hD
  obtain ⟨fs9, hq9⟩ := rl_qm (h := h) (a := a) (cI := cI) (cL := cL) w (gw_Wu ad fo fa ur cI cL cF cA u1 ++ rl_O ao cL ov)
  have hM := rg_fV (gw_Wu ad fo fa ur cI cL cF cA u1 ++ rl_O ao cL ov) (cm_point (l := l) (dC := dC) (dI := dI) (h := h) (a := a) (cI := cI) (cL := cL) hw (xs (4 * j + 1))) H.size
  refine rg_callv hD hS hA (va_runV (As := [.int (xs (4 * j + 1))]) (rest := []) ⟨hx, hb, hml, hown, hts⟩ hM (cwV 1 hts (rg_gV tw_711 tw_712 tw_713 tw_5 tw_714) rfl rfl rfl (by decide +kernel) ⟨(Nat.le_of_ble_eq_true rfl), (Nat.le_of_ble_eq_true rfl)⟩) (rg_preV rfl hKm hP hD (ci := 0) (q0 := 0) rfl hq9) rfl rfl hl.1 rfl (lv_room (Nat.le_of_ble_eq_true rfl)) dl_523 ⟨show cells + 17 + 0 ≤ 601024 by omega, show slots + 70 + 0 ≤ 7293034 by omega⟩) (fun w1 H locs hr9 hP hD hS => ?_)
  have hP : va_P (dC, dI) rg_cl (rm_Wu h a cI cL w1 ++ (gw_Wu ad fo fa ur cI cL cF cA u1 ++ rl_O ao cL ov)) H := hP
  have hD : va_D (fun q => s.heap.size ≤ q) (rm_Wu h a cI cL w1 ++ (gw_Wu ad fo fa ur cI cL cF cA u1 ++ rl_O ao cL ov)) := hD
  obtain ⟨hw, hc9⟩ := hr9
  refine lv_aload_n hx hb dl_526 rfl (lv_at hl 3 rfl) ?_
  have hP : va_P (dC, dI) rg_cl (rm_Wu h a cI cL w1 ++ (gw_Wu ad fo fa ur cI cL cF cA u1 ++ rl_O ao cL ov)) H := hP
  have hD : va_D (fun q => s.heap.size ≤ q) (rm_Wu h a cI cL w1 ++ (gw_Wu ad fo fa ur cI cL cF cA u1 ++ rl_O ao cL ov)) := hD
  obtain ⟨fs9, hq9⟩ := rl_qm (h := h) (a := a) (cI := cI) (cL := cL) w1 (gw_Wu ad fo fa ur cI cL cF cA u1 ++ rl_O ao cL ov)
  have hM := rg_fI (gw_Wu ad fo fa ur cI cL cF cA u1 ++ rl_O ao cL ov) (cm_thrown (l := l) (dC := dC) (dI := dI) (h := h) (a := a) (cI := cI) (cL := cL) (w := w1)) H.size
  refine rg_calli hD hS hA (va_runV (As := []) (rest := []) ⟨hx, hb, hml, hown, hts⟩ hM (cwV 0 hts (rg_gV tw_659 tw_660 tw_661 tw_5 tw_662) rfl rfl rfl (by decide +kernel) ⟨(Nat.le_of_ble_eq_true rfl), (Nat.le_of_ble_eq_true rfl)⟩) (rg_preV rfl hKm hP hD (ci := 0) (q0 := 0) rfl hq9) rfl rfl hl.1 rfl (lv_room (Nat.le_of_ble_eq_true rfl)) dl_527 ⟨show cells + 17 + 0 ≤ 601024 by omega, show slots + 70 + 0 ≤ 7293034 by omega⟩) (fun t9 _ H locs hr9 hP hD hS => ?_)
  have hP : va_P (dC, dI) rg_cl (rm_Wu h a cI cL w1 ++ (gw_Wu ad fo fa ur cI cL cF cA u1 ++ rl_O ao cL ov)) H := hP
  have hD : va_D (fun q => s.heap.size ≤ q) (rm_Wu h a cI cL w1 ++ (gw_Wu ad fo fa ur cI cL cF cA u1 ++ rl_O ao cL ov)) := hD
  subst hr9
  refine lv_iload hx hb dl_530 (lv_at hl 0 rfl) ?_
  refine lv_icmp_eq (tgt := 537) hx hb dl_532 (by decide) (fun _ => ?_) (fun h => absurd (hc9.trans hk9.symm) h)
  refine lv_goto (tgt := 1157) hx hb dl_537 (by decide) ?_
  have hP := rg_P_comm hP
  have hD := rg_D_comm hD
  have hP : va_P (dC, dI) rg_cl ((gw_Wu ad fo fa ur cI cL cF cA u1 ++ rl_O ao cL ov) ++ rm_Wu h a cI cL w1) H := hP
  have hD : va_D (fun q => s.heap.size ≤ q) ((gw_Wu ad fo fa ur cI cL cF cA u1 ++ rl_O ao cL ov) ++ rm_Wu h a cI cL w1) := hD
  exact kk u1 ov w1 _ _ _ _ hu hw hP hD hS (lv_sub hl [1, 2, 3, 4, 5] rfl)
set_option maxHeartbeats 4000000 in
set_option maxRecDepth 100000 in
theorem st_turn {p : Program} {l : Launch} {e : Env} {s : State} {m : MethodId} {below : List Frame} {meth : Method} {c : Code} {b L : Nat} {xs : Nat → Int32} {Q : State → Prop} {H : Heap} {locs : List Loc} {cells slots : Nat} {ls : Array Slot} {dC : Nat → ClassId} {dI : Nat → Nat → Nat} {ad fo fa ur : Nat → Nat} {cI cL cF cA : ClassId} {ao h : Nat} {a : Nat → Nat} {u : gw_S} {ov : Nat → Int64} {w : rm_S} {g : rg_A} {j : Nat} (hlt : l.stackTraces = false) (C0 : rl_At p s m meth c b L xs) (hL : L ≤ 2048) (hT : rx_T (fun q => s.heap.size ≤ q) s s.heap) (hnc : gw_NC s) (hK : va_K (dC, dI) rg_cl (gw_tys cI cL cF cA) s) (hu : gw_Ru u g) (hw : rm_Ru w g) (hj : 4 * j + 4 ≤ L) (hc : cells + 17 ≤ 601024) (hs : slots + 70 ≤ 7293034) (hP : va_P (dC, dI) rg_cl ((gw_Wu ad fo fa ur cI cL cF cA u ++ rl_O ao cL ov) ++ rm_Wu h a cI cL w) H) (hD : va_D (fun q => s.heap.size ≤ q) ((gw_Wu ad fo fa ur cI cL cF cA u ++ rl_O ao cL ov) ++ rm_Wu h a cI cL w)) (hS : va_S (fun q => s.heap.size ≤ q) s.heap H locs) (hl : lv_has ls 8 [(0, .ref b), (1, .ref (ad 0)), (2, .ref h), (3, .ref ao), (4, .int (nI (4 * j)))])
    (kk : ∀ (u : gw_S) (ov : Nat → Int64) (w : rm_S) (g : rg_A) (H : Heap) (locs : List Loc) (ls : Array Slot), gw_Ru u g → rm_Ru w g → va_P (dC, dI) rg_cl ((gw_Wu ad fo fa ur cI cL cF cA u ++ rl_O ao cL ov) ++ rm_Wu h a cI cL w) H → va_D (fun q => s.heap.size ≤ q) ((gw_Wu ad fo fa ur cI cL cF cA u ++ rl_O ao cL ov) ++ rm_Wu h a cI cL w) → va_S (fun q => s.heap.size ≤ q) s.heap H locs → lv_has ls 8 [(0, .ref b), (1, .ref (ad 0)), (2, .ref h), (3, .ref ao), (4, .int (nI (4 * j)))] → W p l e room_1 s m #[Value.ref b] below meth c H locs (cells + 17) (slots + 70) Q (F0 m 1157 ls [])) : W p l e room_1 s m #[Value.ref b] below meth c H locs cells slots Q (F0 m 540 ls []) := by
  obtain ⟨hx, hb, hml, hown, hts, hX, hbl⟩ := C0
  have hbA : ¬ s.heap.size ≤ b := Nat.not_le.mpr hbl
  have hA : ∀ q : Nat, s.heap.size ≤ q → s.heap.size ≤ q := fun q h => h
  have hKm : va_K (dC, dI) rg_cl [(cI, .int), (cL, .long)] s := hK.sub [0, 1] rfl
  refine lv_aload_n hx hb dl_540 rfl (lv_at hl 1 rfl) ?_
  refine lv_aload_n hx hb dl_541 rfl (lv_at hl 0 rfl) ?_
  refine lv_iload hx hb dl_542 (lv_at hl 4 rfl) ?_
  refine lv_iconst (v := nI 1) hx hb dl_544 (by decide) ?_
  refine rg_iadd hx hb dl_545 ?_
  refine rl_sld hx hb hX hbl hbA hS hL (show 4 * j + 1 < L by omega) dl_546 ?_
  refine lv_aload_n hx hb dl_547 rfl (lv_at hl 3 rfl) ?_
  have hM := rw_fI (rm_Wu h a cI cL w) (cw_turn (l := l) (dC := dC) (dI := dI) (ad := ad) (fo := fo) (fa := fa) (ur := ur) (cI := cI) (cL := cL) (cF := cF) (cA := cA) (ao := ao) (ov := ov) hlt hu (xs (4 * j + 1))) H.size
  refine rg_calli hD hS hA (vx_runSW (As := [.ref (ad 0), .int (xs (4 * j + 1)), .ref ao]) (rest := []) ⟨hx, hb, hml, hown, hts⟩ hM (vx_cwSW 3 hts (rg_gSw tw_381 tw_382 tw_0 tw_383) rfl rfl rfl (by decide +kernel) ⟨(Nat.le_of_ble_eq_true rfl), (Nat.le_of_ble_eq_true rfl)⟩) (rw_preS rfl hT hnc hS hA hK hP hD) rfl rfl hl.1 rfl (lv_room (Nat.le_of_ble_eq_true rfl)) dl_548 ⟨hc, hs⟩) (fun k9 v9 H locs hq hP hD hS => ?_)
  obtain ⟨u1, ov1⟩ := v9
  have hP : va_P (dC, dI) rg_cl ((gw_Wu ad fo fa ur cI cL cF cA u1 ++ rl_O ao cL ov1) ++ rm_Wu h a cI cL w) H := hP
  have hD : va_D (fun q => s.heap.size ≤ q) ((gw_Wu ad fo fa ur cI cL cF cA u1 ++ rl_O ao cL ov1) ++ rm_Wu h a cI cL w) := hD
  obtain ⟨hk9, hu, ho9⟩ := hq
  refine lv_istore (lv' := [(5, .int k9), (0, .ref b), (1, .ref (ad 0)), (2, .ref h), (3, .ref ao), (4, .int (nI (4 * j)))]) hx hb dl_551 hl (by decide) rfl (fun ls hl => ?_)
  refine lv_aload_n hx hb dl_553 rfl (lv_at hl 3 rfl) ?_
  refine lv_aload_n hx hb dl_554 rfl (lv_at hl 1 rfl) ?_
  refine lv_iload hx hb dl_555 (lv_at hl 5 rfl) ?_
  refine lv_iconst (v := nI 1) hx hb dl_557 (by decide) ?_
  refine rg_iadd hx hb dl_558 ?_
  refine rl_sld hx hb hX hbl hbA hS hL (show 4 * j + 1 < L by omega) dl_559 ?_
  have hP := rg_P_comm hP
  have hD := rg_D_comm hD
  have hP : va_P (dC, dI) rg_cl (rm_Wu h a cI cL w ++ (gw_Wu ad fo fa ur cI cL cF cA u1 ++ rl_O ao cL ov1)) H := hP
  have hD : va_D (fun q => s.heap.size ≤ q) (rm_Wu h a cI cL w ++ (gw_Wu ad fo fa ur cI cL cF cA u1 ++ rl_O ao cL ov1)) := hD
  obtain ⟨fs9, hq9⟩ := rl_qm (h := h) (a := a) (cI := cI) (cL := cL) w (gw_Wu ad fo fa ur cI cL cF cA u1 ++ rl_O ao cL ov1)
  have hM := rg_fI (gw_Wu ad fo fa ur cI cL cF cA u1 ++ rl_O ao cL ov1) (cm_turn (l := l) (dC := dC) (dI := dI) (h := h) (a := a) (cI := cI) (cL := cL) hw (xs (4 * j + 1))) H.size
  refine rg_calli hD hS hA (va_runV (As := [.int (xs (4 * j + 1))]) (rest := []) ⟨hx, hb, hml, hown, hts⟩ hM (cwV 1 hts (rg_gV tw_718 tw_719 tw_720 tw_5 tw_721) rfl rfl rfl (by decide +kernel) ⟨(Nat.le_of_ble_eq_true rfl), (Nat.le_of_ble_eq_true rfl)⟩) (rg_preV rfl hKm hP hD (ci := 0) (q0 := 0) rfl hq9) rfl rfl hl.1 rfl (lv_room (Nat.le_of_ble_eq_true rfl)) dl_560 ⟨show cells + 17 + 0 ≤ 601024 by omega, show slots + 70 + 0 ≤ 7293034 by omega⟩) (fun z9 w1 H locs hr9 hP hD hS => ?_)
  have hP : va_P (dC, dI) rg_cl (rm_Wu h a cI cL w1 ++ (gw_Wu ad fo fa ur cI cL cF cA u1 ++ rl_O ao cL ov1)) H := hP
  have hD : va_D (fun q => s.heap.size ≤ q) (rm_Wu h a cI cL w1 ++ (gw_Wu ad fo fa ur cI cL cF cA u1 ++ rl_O ao cL ov1)) := hD
  obtain ⟨hw, hc9, hz9⟩ := hr9
  refine lv_istore (lv' := [(6, .int z9), (5, .int k9), (0, .ref b), (1, .ref (ad 0)), (2, .ref h), (3, .ref ao), (4, .int (nI (4 * j)))]) hx hb dl_563 hl (by decide) rfl (fun ls hl => ?_)
  refine lv_aload_n hx hb dl_565 rfl (lv_at hl 4 rfl) ?_
  have hP : va_P (dC, dI) rg_cl (rm_Wu h a cI cL w1 ++ (gw_Wu ad fo fa ur cI cL cF cA u1 ++ rl_O ao cL ov1)) H := hP
  have hD : va_D (fun q => s.heap.size ≤ q) (rm_Wu h a cI cL w1 ++ (gw_Wu ad fo fa ur cI cL cF cA u1 ++ rl_O ao cL ov1)) := hD
  obtain ⟨fs9, hq9⟩ := rl_qm (h := h) (a := a) (cI := cI) (cL := cL) w1 (gw_Wu ad fo fa ur cI cL cF cA u1 ++ rl_O ao cL ov1)
  have hM := rg_fI (gw_Wu ad fo fa ur cI cL cF cA u1 ++ rl_O ao cL ov1) (cm_thrown (l := l) (dC := dC) (dI := dI) (h := h) (a := a) (cI := cI) (cL := cL) (w := w1)) H.size
  refine rg_calli hD hS hA (va_runV (As := []) (rest := []) ⟨hx, hb, hml, hown, hts⟩ hM (cwV 0 hts (rg_gV tw_659 tw_660 tw_661 tw_5 tw_662) rfl rfl rfl (by decide +kernel) ⟨(Nat.le_of_ble_eq_true rfl), (Nat.le_of_ble_eq_true rfl)⟩) (rg_preV rfl hKm hP hD (ci := 0) (q0 := 0) rfl hq9) rfl rfl hl.1 rfl (lv_room (Nat.le_of_ble_eq_true rfl)) dl_566 ⟨show cells + 17 + 0 ≤ 601024 by omega, show slots + 70 + 0 ≤ 7293034 by omega⟩) (fun t9 _ H locs hr9 hP hD hS => ?_)
  have hP : va_P (dC, dI) rg_cl (rm_Wu h a cI cL w1 ++ (gw_Wu ad fo fa ur cI cL cF cA u1 ++ rl_O ao cL ov1)) H := hP
  have hD : va_D (fun q => s.heap.size ≤ q) (rm_Wu h a cI cL w1 ++ (gw_Wu ad fo fa ur cI cL cF cA u1 ++ rl_O ao cL ov1)) := hD
  subst hr9
  refine lv_iload hx hb dl_569 (lv_at hl 1 rfl) ?_
  refine lv_icmp_eq (tgt := 576) hx hb dl_571 (by decide) (fun _ => ?_) (fun h => absurd (hc9.trans hk9.symm) h)
  refine lv_iload hx hb dl_576 (lv_at hl 1 rfl) ?_
  refine lv_if_ne (tgt := 593) hx hb dl_578 (by decide) (fun _ => ?_) (fun h0 => ?_)
  · refine lv_goto (tgt := 1157) hx hb dl_593 (by decide) ?_
    have hP := rg_P_comm hP
    have hD := rg_D_comm hD
    exact kk u1 ov1 w1 _ _ _ _ hu hw hP hD hS (lv_sub hl [2, 3, 4, 5, 6] rfl)
  · have hP := rg_P_comm hP
    have hD := rg_D_comm hD
    refine lv_aload_n hx hb dl_581 rfl (lv_at hl 5 rfl) ?_
    refine lv_iconst (v := nI 0) hx hb dl_582 (by decide) ?_
    refine rg_lald hx hb hK hP _ 1 (rg_apl (rg_apr (k := 0) rfl)) rfl (by decide) (by decide) dl_583 ?_
    refine lv_iload hx hb dl_584 (lv_at hl 0 rfl) ?_
    refine lv_i2l (v := z9.toInt64) hx hb dl_586 rfl ?_
    refine W.lcmp hx hb dl_587 ?_
    refine lv_if_eq (tgt := 593) hx hb dl_588 (by decide) (fun _ => ?_) (fun h1 => absurd ((lg_cmp_eq _ _).mpr ((ho9 (hk9.symm.trans h0)).trans (congrArg Int32.toInt64 hz9.symm))) h1)
    refine lv_goto (tgt := 1157) hx hb dl_593 (by decide) ?_
    exact kk u1 ov1 w1 _ _ _ _ hu hw hP hD hS (lv_sub hl [2, 3, 4, 5, 6] rfl)
set_option maxHeartbeats 4000000 in
set_option maxRecDepth 100000 in
theorem st_go {p : Program} {l : Launch} {e : Env} {s : State} {m : MethodId} {below : List Frame} {meth : Method} {c : Code} {b L : Nat} {xs : Nat → Int32} {Q : State → Prop} {H : Heap} {locs : List Loc} {cells slots : Nat} {ls : Array Slot} {dC : Nat → ClassId} {dI : Nat → Nat → Nat} {ad fo fa ur : Nat → Nat} {cI cL cF cA : ClassId} {ao h : Nat} {a : Nat → Nat} {u : gw_S} {ov : Nat → Int64} {w : rm_S} {g : rg_A} {j : Nat} (hlt : l.stackTraces = false) (C0 : rl_At p s m meth c b L xs) (hL : L ≤ 2048) (hT : rx_T (fun q => s.heap.size ≤ q) s s.heap) (hnc : gw_NC s) (hK : va_K (dC, dI) rg_cl (gw_tys cI cL cF cA) s) (hu : gw_Ru u g) (hw : rm_Ru w g) (hj : 4 * j + 4 ≤ L) (hc : cells + 17 ≤ 601024) (hs : slots + 70 ≤ 7293034) (hP : va_P (dC, dI) rg_cl ((gw_Wu ad fo fa ur cI cL cF cA u ++ rl_O ao cL ov) ++ rm_Wu h a cI cL w) H) (hD : va_D (fun q => s.heap.size ≤ q) ((gw_Wu ad fo fa ur cI cL cF cA u ++ rl_O ao cL ov) ++ rm_Wu h a cI cL w)) (hS : va_S (fun q => s.heap.size ≤ q) s.heap H locs) (hl : lv_has ls 8 [(0, .ref b), (1, .ref (ad 0)), (2, .ref h), (3, .ref ao), (4, .int (nI (4 * j)))])
    (kk : ∀ (u : gw_S) (ov : Nat → Int64) (w : rm_S) (g : rg_A) (H : Heap) (locs : List Loc) (ls : Array Slot), gw_Ru u g → rm_Ru w g → va_P (dC, dI) rg_cl ((gw_Wu ad fo fa ur cI cL cF cA u ++ rl_O ao cL ov) ++ rm_Wu h a cI cL w) H → va_D (fun q => s.heap.size ≤ q) ((gw_Wu ad fo fa ur cI cL cF cA u ++ rl_O ao cL ov) ++ rm_Wu h a cI cL w) → va_S (fun q => s.heap.size ≤ q) s.heap H locs → lv_has ls 8 [(0, .ref b), (1, .ref (ad 0)), (2, .ref h), (3, .ref ao), (4, .int (nI (4 * j)))] → W p l e room_1 s m #[Value.ref b] below meth c H locs (cells + 17) (slots + 70) Q (F0 m 1157 ls [])) : W p l e room_1 s m #[Value.ref b] below meth c H locs cells slots Q (F0 m 596 ls []) := by
  obtain ⟨hx, hb, hml, hown, hts, hX, hbl⟩ := C0
  have hbA : ¬ s.heap.size ≤ b := Nat.not_le.mpr hbl
  have hA : ∀ q : Nat, s.heap.size ≤ q → s.heap.size ≤ q := fun q h => h
  have hKm : va_K (dC, dI) rg_cl [(cI, .int), (cL, .long)] s := hK.sub [0, 1] rfl
  refine lv_aload_n hx hb dl_596 rfl (lv_at hl 1 rfl) ?_
  refine lv_aload_n hx hb dl_597 rfl (lv_at hl 0 rfl) ?_
  refine lv_iload hx hb dl_598 (lv_at hl 4 rfl) ?_
  refine lv_iconst (v := nI 1) hx hb dl_600 (by decide) ?_
  refine rg_iadd hx hb dl_601 ?_
  refine rl_sld hx hb hX hbl hbA hS hL (show 4 * j + 1 < L by omega) dl_602 ?_
  rw [List.append_assoc] at hP hD
  have hM := rw_fI (rl_O ao cL ov ++ rm_Wu h a cI cL w) (cw_go (l := l) (dC := dC) (dI := dI) (ad := ad) (fo := fo) (fa := fa) (ur := ur) (cI := cI) (cL := cL) (cF := cF) (cA := cA) hlt hu (xs (4 * j + 1))) H.size
  refine rg_calli hD hS hA (vx_runSW (As := [.ref (ad 0), .int (xs (4 * j + 1))]) (rest := []) ⟨hx, hb, hml, hown, hts⟩ hM (vx_cwSW 2 hts (rg_gSw tw_392 tw_393 tw_0 tw_394) rfl rfl rfl (by decide +kernel) ⟨(Nat.le_of_ble_eq_true rfl), (Nat.le_of_ble_eq_true rfl)⟩) (rw_preS rfl hT hnc hS hA hK hP hD) rfl rfl hl.1 rfl (lv_room (Nat.le_of_ble_eq_true rfl)) dl_603 ⟨hc, hs⟩) (fun k9 u1 H locs hq hP hD hS => ?_)
  rw [← List.append_assoc] at hP hD
  have hP : va_P (dC, dI) rg_cl ((gw_Wu ad fo fa ur cI cL cF cA u1 ++ rl_O ao cL ov) ++ rm_Wu h a cI cL w) H := hP
  have hD : va_D (fun q => s.heap.size ≤ q) ((gw_Wu ad fo fa ur cI cL cF cA u1 ++ rl_O ao cL ov) ++ rm_Wu h a cI cL w) := hD
  obtain ⟨hk9, hu⟩ := hq
  refine lv_istore (lv' := [(5, .int k9), (0, .ref b), (1, .ref (ad 0)), (2, .ref h), (3, .ref ao), (4, .int (nI (4 * j)))]) hx hb dl_606 hl (by decide) rfl (fun ls hl => ?_)
  refine lv_aload_n hx hb dl_608 rfl (lv_at hl 3 rfl) ?_
  refine lv_aload_n hx hb dl_609 rfl (lv_at hl 1 rfl) ?_
  refine lv_iload hx hb dl_610 (lv_at hl 5 rfl) ?_
  refine lv_iconst (v := nI 1) hx hb dl_612 (by decide) ?_
  refine rg_iadd hx hb dl_613 ?_
  refine rl_sld hx hb hX hbl hbA hS hL (show 4 * j + 1 < L by omega) dl_614 ?_
  have hP := rg_P_comm hP
  have hD := rg_D_comm hD
  have hP : va_P (dC, dI) rg_cl (rm_Wu h a cI cL w ++ (gw_Wu ad fo fa ur cI cL cF cA u1 ++ rl_O ao cL ov)) H := hP
  have hD : va_D (fun q => s.heap.size ≤ q) (rm_Wu h a cI cL w ++ (gw_Wu ad fo fa ur cI cL cF cA u1 ++ rl_O ao cL ov)) := hD
  obtain ⟨fs9, hq9⟩ := rl_qm (h := h) (a := a) (cI := cI) (cL := cL) w (gw_Wu ad fo fa ur cI cL cF cA u1 ++ rl_O ao cL ov)
  have hM := rg_fV (gw_Wu ad fo fa ur cI cL cF cA u1 ++ rl_O ao cL ov) (cm_go (l := l) (dC := dC) (dI := dI) (h := h) (a := a) (cI := cI) (cL := cL) hw (xs (4 * j + 1))) H.size
  refine rg_callv hD hS hA (va_runV (As := [.int (xs (4 * j + 1))]) (rest := []) ⟨hx, hb, hml, hown, hts⟩ hM (cwV 1 hts (rg_gV tw_722 tw_723 tw_724 tw_5 tw_725) rfl rfl rfl (by decide +kernel) ⟨(Nat.le_of_ble_eq_true rfl), (Nat.le_of_ble_eq_true rfl)⟩) (rg_preV rfl hKm hP hD (ci := 0) (q0 := 0) rfl hq9) rfl rfl hl.1 rfl (lv_room (Nat.le_of_ble_eq_true rfl)) dl_615 ⟨show cells + 17 + 0 ≤ 601024 by omega, show slots + 70 + 0 ≤ 7293034 by omega⟩) (fun w1 H locs hr9 hP hD hS => ?_)
  have hP : va_P (dC, dI) rg_cl (rm_Wu h a cI cL w1 ++ (gw_Wu ad fo fa ur cI cL cF cA u1 ++ rl_O ao cL ov)) H := hP
  have hD : va_D (fun q => s.heap.size ≤ q) (rm_Wu h a cI cL w1 ++ (gw_Wu ad fo fa ur cI cL cF cA u1 ++ rl_O ao cL ov)) := hD
  obtain ⟨hw, hc9⟩ := hr9
  refine lv_aload_n hx hb dl_618 rfl (lv_at hl 3 rfl) ?_
  have hP : va_P (dC, dI) rg_cl (rm_Wu h a cI cL w1 ++ (gw_Wu ad fo fa ur cI cL cF cA u1 ++ rl_O ao cL ov)) H := hP
  have hD : va_D (fun q => s.heap.size ≤ q) (rm_Wu h a cI cL w1 ++ (gw_Wu ad fo fa ur cI cL cF cA u1 ++ rl_O ao cL ov)) := hD
  obtain ⟨fs9, hq9⟩ := rl_qm (h := h) (a := a) (cI := cI) (cL := cL) w1 (gw_Wu ad fo fa ur cI cL cF cA u1 ++ rl_O ao cL ov)
  have hM := rg_fI (gw_Wu ad fo fa ur cI cL cF cA u1 ++ rl_O ao cL ov) (cm_thrown (l := l) (dC := dC) (dI := dI) (h := h) (a := a) (cI := cI) (cL := cL) (w := w1)) H.size
  refine rg_calli hD hS hA (va_runV (As := []) (rest := []) ⟨hx, hb, hml, hown, hts⟩ hM (cwV 0 hts (rg_gV tw_659 tw_660 tw_661 tw_5 tw_662) rfl rfl rfl (by decide +kernel) ⟨(Nat.le_of_ble_eq_true rfl), (Nat.le_of_ble_eq_true rfl)⟩) (rg_preV rfl hKm hP hD (ci := 0) (q0 := 0) rfl hq9) rfl rfl hl.1 rfl (lv_room (Nat.le_of_ble_eq_true rfl)) dl_619 ⟨show cells + 17 + 0 ≤ 601024 by omega, show slots + 70 + 0 ≤ 7293034 by omega⟩) (fun t9 _ H locs hr9 hP hD hS => ?_)
  have hP : va_P (dC, dI) rg_cl (rm_Wu h a cI cL w1 ++ (gw_Wu ad fo fa ur cI cL cF cA u1 ++ rl_O ao cL ov)) H := hP
  have hD : va_D (fun q => s.heap.size ≤ q) (rm_Wu h a cI cL w1 ++ (gw_Wu ad fo fa ur cI cL cF cA u1 ++ rl_O ao cL ov)) := hD
  subst hr9
  refine lv_iload hx hb dl_622 (lv_at hl 0 rfl) ?_
  refine lv_icmp_eq (tgt := 629) hx hb dl_624 (by decide) (fun _ => ?_) (fun h => absurd (hc9.trans hk9.symm) h)
  refine lv_goto (tgt := 1157) hx hb dl_629 (by decide) ?_
  have hP := rg_P_comm hP
  have hD := rg_D_comm hD
  have hP : va_P (dC, dI) rg_cl ((gw_Wu ad fo fa ur cI cL cF cA u1 ++ rl_O ao cL ov) ++ rm_Wu h a cI cL w1) H := hP
  have hD : va_D (fun q => s.heap.size ≤ q) ((gw_Wu ad fo fa ur cI cL cF cA u1 ++ rl_O ao cL ov) ++ rm_Wu h a cI cL w1) := hD
  exact kk u1 ov w1 _ _ _ _ hu hw hP hD hS (lv_sub hl [1, 2, 3, 4, 5] rfl)
set_option maxHeartbeats 4000000 in
set_option maxRecDepth 100000 in
theorem st_undo {p : Program} {l : Launch} {e : Env} {s : State} {m : MethodId} {below : List Frame} {meth : Method} {c : Code} {b L : Nat} {xs : Nat → Int32} {Q : State → Prop} {H : Heap} {locs : List Loc} {cells slots : Nat} {ls : Array Slot} {dC : Nat → ClassId} {dI : Nat → Nat → Nat} {ad fo fa ur : Nat → Nat} {cI cL cF cA : ClassId} {ao h : Nat} {a : Nat → Nat} {u : gw_S} {ov : Nat → Int64} {w : rm_S} {g : rg_A} {j : Nat} (hlt : l.stackTraces = false) (C0 : rl_At p s m meth c b L xs) (hL : L ≤ 2048) (hT : rx_T (fun q => s.heap.size ≤ q) s s.heap) (hnc : gw_NC s) (hK : va_K (dC, dI) rg_cl (gw_tys cI cL cF cA) s) (hu : gw_Ru u g) (hw : rm_Ru w g) (hj : 4 * j + 4 ≤ L) (hc : cells + 17 ≤ 601024) (hs : slots + 70 ≤ 7293034) (hP : va_P (dC, dI) rg_cl ((gw_Wu ad fo fa ur cI cL cF cA u ++ rl_O ao cL ov) ++ rm_Wu h a cI cL w) H) (hD : va_D (fun q => s.heap.size ≤ q) ((gw_Wu ad fo fa ur cI cL cF cA u ++ rl_O ao cL ov) ++ rm_Wu h a cI cL w)) (hS : va_S (fun q => s.heap.size ≤ q) s.heap H locs) (hl : lv_has ls 8 [(0, .ref b), (1, .ref (ad 0)), (2, .ref h), (3, .ref ao), (4, .int (nI (4 * j)))])
    (kk : ∀ (u : gw_S) (ov : Nat → Int64) (w : rm_S) (g : rg_A) (H : Heap) (locs : List Loc) (ls : Array Slot), gw_Ru u g → rm_Ru w g → va_P (dC, dI) rg_cl ((gw_Wu ad fo fa ur cI cL cF cA u ++ rl_O ao cL ov) ++ rm_Wu h a cI cL w) H → va_D (fun q => s.heap.size ≤ q) ((gw_Wu ad fo fa ur cI cL cF cA u ++ rl_O ao cL ov) ++ rm_Wu h a cI cL w) → va_S (fun q => s.heap.size ≤ q) s.heap H locs → lv_has ls 8 [(0, .ref b), (1, .ref (ad 0)), (2, .ref h), (3, .ref ao), (4, .int (nI (4 * j)))] → W p l e room_1 s m #[Value.ref b] below meth c H locs (cells + 17) (slots + 70) Q (F0 m 1157 ls [])) : W p l e room_1 s m #[Value.ref b] below meth c H locs cells slots Q (F0 m 632 ls []) := by
  obtain ⟨hx, hb, hml, hown, hts, hX, hbl⟩ := C0
  have hbA : ¬ s.heap.size ≤ b := Nat.not_le.mpr hbl
  have hA : ∀ q : Nat, s.heap.size ≤ q → s.heap.size ≤ q := fun q h => h
  have hKm : va_K (dC, dI) rg_cl [(cI, .int), (cL, .long)] s := hK.sub [0, 1] rfl
  refine lv_aload_n hx hb dl_632 rfl (lv_at hl 1 rfl) ?_
  refine lv_aload_n hx hb dl_633 rfl (lv_at hl 3 rfl) ?_
  have hM := rw_fI (rm_Wu h a cI cL w) (cw_undo (l := l) (dC := dC) (dI := dI) (ad := ad) (fo := fo) (fa := fa) (ur := ur) (cI := cI) (cL := cL) (cF := cF) (cA := cA) (ao := ao) (ov := ov) hlt hu ) H.size
  refine rg_calli hD hS hA (vx_runSW (As := [.ref (ad 0), .ref ao]) (rest := []) ⟨hx, hb, hml, hown, hts⟩ hM (vx_cwSW 2 hts (rg_gSw tw_408 tw_409 tw_0 tw_410) rfl rfl rfl (by decide +kernel) ⟨(Nat.le_of_ble_eq_true rfl), (Nat.le_of_ble_eq_true rfl)⟩) (rw_preS rfl hT hnc hS hA hK hP hD) rfl rfl hl.1 rfl (lv_room (Nat.le_of_ble_eq_true rfl)) dl_634 ⟨hc, hs⟩) (fun k9 v9 H locs hq hP hD hS => ?_)
  obtain ⟨u1, ov1⟩ := v9
  have hP : va_P (dC, dI) rg_cl ((gw_Wu ad fo fa ur cI cL cF cA u1 ++ rl_O ao cL ov1) ++ rm_Wu h a cI cL w) H := hP
  have hD : va_D (fun q => s.heap.size ≤ q) ((gw_Wu ad fo fa ur cI cL cF cA u1 ++ rl_O ao cL ov1) ++ rm_Wu h a cI cL w) := hD
  obtain ⟨hk9, hu, ho9⟩ := hq
  refine lv_istore (lv' := [(5, .int k9), (0, .ref b), (1, .ref (ad 0)), (2, .ref h), (3, .ref ao), (4, .int (nI (4 * j)))]) hx hb dl_637 hl (by decide) rfl (fun ls hl => ?_)
  refine lv_aload_n hx hb dl_639 rfl (lv_at hl 3 rfl) ?_
  have hP := rg_P_comm hP
  have hD := rg_D_comm hD
  have hP : va_P (dC, dI) rg_cl (rm_Wu h a cI cL w ++ (gw_Wu ad fo fa ur cI cL cF cA u1 ++ rl_O ao cL ov1)) H := hP
  have hD : va_D (fun q => s.heap.size ≤ q) (rm_Wu h a cI cL w ++ (gw_Wu ad fo fa ur cI cL cF cA u1 ++ rl_O ao cL ov1)) := hD
  obtain ⟨fs9, hq9⟩ := rl_qm (h := h) (a := a) (cI := cI) (cL := cL) w (gw_Wu ad fo fa ur cI cL cF cA u1 ++ rl_O ao cL ov1)
  have hM := rg_fI (gw_Wu ad fo fa ur cI cL cF cA u1 ++ rl_O ao cL ov1) (cm_undo (l := l) (dC := dC) (dI := dI) (h := h) (a := a) (cI := cI) (cL := cL) hw ) H.size
  refine rg_calli hD hS hA (va_runV (As := []) (rest := []) ⟨hx, hb, hml, hown, hts⟩ hM (cwV 0 hts (rg_gV tw_730 tw_731 tw_732 tw_5 tw_733) rfl rfl rfl (by decide +kernel) ⟨(Nat.le_of_ble_eq_true rfl), (Nat.le_of_ble_eq_true rfl)⟩) (rg_preV rfl hKm hP hD (ci := 0) (q0 := 0) rfl hq9) rfl rfl hl.1 rfl (lv_room (Nat.le_of_ble_eq_true rfl)) dl_640 ⟨show cells + 17 + 0 ≤ 601024 by omega, show slots + 70 + 0 ≤ 7293034 by omega⟩) (fun z9 w1 H locs hr9 hP hD hS => ?_)
  have hP : va_P (dC, dI) rg_cl (rm_Wu h a cI cL w1 ++ (gw_Wu ad fo fa ur cI cL cF cA u1 ++ rl_O ao cL ov1)) H := hP
  have hD : va_D (fun q => s.heap.size ≤ q) (rm_Wu h a cI cL w1 ++ (gw_Wu ad fo fa ur cI cL cF cA u1 ++ rl_O ao cL ov1)) := hD
  obtain ⟨hw, hc9, hz9⟩ := hr9
  refine lv_istore (lv' := [(6, .int z9), (5, .int k9), (0, .ref b), (1, .ref (ad 0)), (2, .ref h), (3, .ref ao), (4, .int (nI (4 * j)))]) hx hb dl_643 hl (by decide) rfl (fun ls hl => ?_)
  refine lv_aload_n hx hb dl_645 rfl (lv_at hl 4 rfl) ?_
  have hP : va_P (dC, dI) rg_cl (rm_Wu h a cI cL w1 ++ (gw_Wu ad fo fa ur cI cL cF cA u1 ++ rl_O ao cL ov1)) H := hP
  have hD : va_D (fun q => s.heap.size ≤ q) (rm_Wu h a cI cL w1 ++ (gw_Wu ad fo fa ur cI cL cF cA u1 ++ rl_O ao cL ov1)) := hD
  obtain ⟨fs9, hq9⟩ := rl_qm (h := h) (a := a) (cI := cI) (cL := cL) w1 (gw_Wu ad fo fa ur cI cL cF cA u1 ++ rl_O ao cL ov1)
  have hM := rg_fI (gw_Wu ad fo fa ur cI cL cF cA u1 ++ rl_O ao cL ov1) (cm_thrown (l := l) (dC := dC) (dI := dI) (h := h) (a := a) (cI := cI) (cL := cL) (w := w1)) H.size
  refine rg_calli hD hS hA (va_runV (As := []) (rest := []) ⟨hx, hb, hml, hown, hts⟩ hM (cwV 0 hts (rg_gV tw_659 tw_660 tw_661 tw_5 tw_662) rfl rfl rfl (by decide +kernel) ⟨(Nat.le_of_ble_eq_true rfl), (Nat.le_of_ble_eq_true rfl)⟩) (rg_preV rfl hKm hP hD (ci := 0) (q0 := 0) rfl hq9) rfl rfl hl.1 rfl (lv_room (Nat.le_of_ble_eq_true rfl)) dl_646 ⟨show cells + 17 + 0 ≤ 601024 by omega, show slots + 70 + 0 ≤ 7293034 by omega⟩) (fun t9 _ H locs hr9 hP hD hS => ?_)
  have hP : va_P (dC, dI) rg_cl (rm_Wu h a cI cL w1 ++ (gw_Wu ad fo fa ur cI cL cF cA u1 ++ rl_O ao cL ov1)) H := hP
  have hD : va_D (fun q => s.heap.size ≤ q) (rm_Wu h a cI cL w1 ++ (gw_Wu ad fo fa ur cI cL cF cA u1 ++ rl_O ao cL ov1)) := hD
  subst hr9
  refine lv_iload hx hb dl_649 (lv_at hl 1 rfl) ?_
  refine lv_icmp_eq (tgt := 656) hx hb dl_651 (by decide) (fun _ => ?_) (fun h => absurd (hc9.trans hk9.symm) h)
  refine lv_iload hx hb dl_656 (lv_at hl 1 rfl) ?_
  refine lv_if_ne (tgt := 673) hx hb dl_658 (by decide) (fun _ => ?_) (fun h0 => ?_)
  · refine lv_goto (tgt := 1157) hx hb dl_673 (by decide) ?_
    have hP := rg_P_comm hP
    have hD := rg_D_comm hD
    exact kk u1 ov1 w1 _ _ _ _ hu hw hP hD hS (lv_sub hl [2, 3, 4, 5, 6] rfl)
  · have hP := rg_P_comm hP
    have hD := rg_D_comm hD
    refine lv_aload_n hx hb dl_661 rfl (lv_at hl 5 rfl) ?_
    refine lv_iconst (v := nI 0) hx hb dl_662 (by decide) ?_
    refine rg_lald hx hb hK hP _ 1 (rg_apl (rg_apr (k := 0) rfl)) rfl (by decide) (by decide) dl_663 ?_
    refine lv_iload hx hb dl_664 (lv_at hl 0 rfl) ?_
    refine lv_i2l (v := z9.toInt64) hx hb dl_666 rfl ?_
    refine W.lcmp hx hb dl_667 ?_
    refine lv_if_eq (tgt := 673) hx hb dl_668 (by decide) (fun _ => ?_) (fun h1 => absurd ((lg_cmp_eq _ _).mpr ((ho9 (hk9.symm.trans h0)).trans (congrArg Int32.toInt64 hz9.symm))) h1)
    refine lv_goto (tgt := 1157) hx hb dl_673 (by decide) ?_
    exact kk u1 ov1 w1 _ _ _ _ hu hw hP hD hS (lv_sub hl [2, 3, 4, 5, 6] rfl)
set_option maxHeartbeats 4000000 in
set_option maxRecDepth 100000 in
theorem st_redo {p : Program} {l : Launch} {e : Env} {s : State} {m : MethodId} {below : List Frame} {meth : Method} {c : Code} {b L : Nat} {xs : Nat → Int32} {Q : State → Prop} {H : Heap} {locs : List Loc} {cells slots : Nat} {ls : Array Slot} {dC : Nat → ClassId} {dI : Nat → Nat → Nat} {ad fo fa ur : Nat → Nat} {cI cL cF cA : ClassId} {ao h : Nat} {a : Nat → Nat} {u : gw_S} {ov : Nat → Int64} {w : rm_S} {g : rg_A} {j : Nat} (hlt : l.stackTraces = false) (C0 : rl_At p s m meth c b L xs) (hL : L ≤ 2048) (hT : rx_T (fun q => s.heap.size ≤ q) s s.heap) (hnc : gw_NC s) (hK : va_K (dC, dI) rg_cl (gw_tys cI cL cF cA) s) (hu : gw_Ru u g) (hw : rm_Ru w g) (hj : 4 * j + 4 ≤ L) (hc : cells + 17 ≤ 601024) (hs : slots + 70 ≤ 7293034) (hP : va_P (dC, dI) rg_cl ((gw_Wu ad fo fa ur cI cL cF cA u ++ rl_O ao cL ov) ++ rm_Wu h a cI cL w) H) (hD : va_D (fun q => s.heap.size ≤ q) ((gw_Wu ad fo fa ur cI cL cF cA u ++ rl_O ao cL ov) ++ rm_Wu h a cI cL w)) (hS : va_S (fun q => s.heap.size ≤ q) s.heap H locs) (hl : lv_has ls 8 [(0, .ref b), (1, .ref (ad 0)), (2, .ref h), (3, .ref ao), (4, .int (nI (4 * j)))])
    (kk : ∀ (u : gw_S) (ov : Nat → Int64) (w : rm_S) (g : rg_A) (H : Heap) (locs : List Loc) (ls : Array Slot), gw_Ru u g → rm_Ru w g → va_P (dC, dI) rg_cl ((gw_Wu ad fo fa ur cI cL cF cA u ++ rl_O ao cL ov) ++ rm_Wu h a cI cL w) H → va_D (fun q => s.heap.size ≤ q) ((gw_Wu ad fo fa ur cI cL cF cA u ++ rl_O ao cL ov) ++ rm_Wu h a cI cL w) → va_S (fun q => s.heap.size ≤ q) s.heap H locs → lv_has ls 8 [(0, .ref b), (1, .ref (ad 0)), (2, .ref h), (3, .ref ao), (4, .int (nI (4 * j)))] → W p l e room_1 s m #[Value.ref b] below meth c H locs (cells + 17) (slots + 70) Q (F0 m 1157 ls [])) : W p l e room_1 s m #[Value.ref b] below meth c H locs cells slots Q (F0 m 676 ls []) := by
  obtain ⟨hx, hb, hml, hown, hts, hX, hbl⟩ := C0
  have hbA : ¬ s.heap.size ≤ b := Nat.not_le.mpr hbl
  have hA : ∀ q : Nat, s.heap.size ≤ q → s.heap.size ≤ q := fun q h => h
  have hKm : va_K (dC, dI) rg_cl [(cI, .int), (cL, .long)] s := hK.sub [0, 1] rfl
  refine lv_aload_n hx hb dl_676 rfl (lv_at hl 1 rfl) ?_
  refine lv_aload_n hx hb dl_677 rfl (lv_at hl 3 rfl) ?_
  have hM := rw_fI (rm_Wu h a cI cL w) (cw_redo (l := l) (dC := dC) (dI := dI) (ad := ad) (fo := fo) (fa := fa) (ur := ur) (cI := cI) (cL := cL) (cF := cF) (cA := cA) (ao := ao) (ov := ov) hlt hu ) H.size
  refine rg_calli hD hS hA (vx_runSW (As := [.ref (ad 0), .ref ao]) (rest := []) ⟨hx, hb, hml, hown, hts⟩ hM (vx_cwSW 2 hts (rg_gSw tw_440 tw_441 tw_0 tw_442) rfl rfl rfl (by decide +kernel) ⟨(Nat.le_of_ble_eq_true rfl), (Nat.le_of_ble_eq_true rfl)⟩) (rw_preS rfl hT hnc hS hA hK hP hD) rfl rfl hl.1 rfl (lv_room (Nat.le_of_ble_eq_true rfl)) dl_678 ⟨hc, hs⟩) (fun k9 v9 H locs hq hP hD hS => ?_)
  obtain ⟨u1, ov1⟩ := v9
  have hP : va_P (dC, dI) rg_cl ((gw_Wu ad fo fa ur cI cL cF cA u1 ++ rl_O ao cL ov1) ++ rm_Wu h a cI cL w) H := hP
  have hD : va_D (fun q => s.heap.size ≤ q) ((gw_Wu ad fo fa ur cI cL cF cA u1 ++ rl_O ao cL ov1) ++ rm_Wu h a cI cL w) := hD
  obtain ⟨hk9, hu, ho9⟩ := hq
  refine lv_istore (lv' := [(5, .int k9), (0, .ref b), (1, .ref (ad 0)), (2, .ref h), (3, .ref ao), (4, .int (nI (4 * j)))]) hx hb dl_681 hl (by decide) rfl (fun ls hl => ?_)
  refine lv_aload_n hx hb dl_683 rfl (lv_at hl 3 rfl) ?_
  have hP := rg_P_comm hP
  have hD := rg_D_comm hD
  have hP : va_P (dC, dI) rg_cl (rm_Wu h a cI cL w ++ (gw_Wu ad fo fa ur cI cL cF cA u1 ++ rl_O ao cL ov1)) H := hP
  have hD : va_D (fun q => s.heap.size ≤ q) (rm_Wu h a cI cL w ++ (gw_Wu ad fo fa ur cI cL cF cA u1 ++ rl_O ao cL ov1)) := hD
  obtain ⟨fs9, hq9⟩ := rl_qm (h := h) (a := a) (cI := cI) (cL := cL) w (gw_Wu ad fo fa ur cI cL cF cA u1 ++ rl_O ao cL ov1)
  have hM := rg_fI (gw_Wu ad fo fa ur cI cL cF cA u1 ++ rl_O ao cL ov1) (cm_redo (l := l) (dC := dC) (dI := dI) (h := h) (a := a) (cI := cI) (cL := cL) hw ) H.size
  refine rg_calli hD hS hA (va_runV (As := []) (rest := []) ⟨hx, hb, hml, hown, hts⟩ hM (cwV 0 hts (rg_gV tw_734 tw_735 tw_736 tw_5 tw_737) rfl rfl rfl (by decide +kernel) ⟨(Nat.le_of_ble_eq_true rfl), (Nat.le_of_ble_eq_true rfl)⟩) (rg_preV rfl hKm hP hD (ci := 0) (q0 := 0) rfl hq9) rfl rfl hl.1 rfl (lv_room (Nat.le_of_ble_eq_true rfl)) dl_684 ⟨show cells + 17 + 0 ≤ 601024 by omega, show slots + 70 + 0 ≤ 7293034 by omega⟩) (fun z9 w1 H locs hr9 hP hD hS => ?_)
  have hP : va_P (dC, dI) rg_cl (rm_Wu h a cI cL w1 ++ (gw_Wu ad fo fa ur cI cL cF cA u1 ++ rl_O ao cL ov1)) H := hP
  have hD : va_D (fun q => s.heap.size ≤ q) (rm_Wu h a cI cL w1 ++ (gw_Wu ad fo fa ur cI cL cF cA u1 ++ rl_O ao cL ov1)) := hD
  obtain ⟨hw, hc9, hz9⟩ := hr9
  refine lv_istore (lv' := [(6, .int z9), (5, .int k9), (0, .ref b), (1, .ref (ad 0)), (2, .ref h), (3, .ref ao), (4, .int (nI (4 * j)))]) hx hb dl_687 hl (by decide) rfl (fun ls hl => ?_)
  refine lv_aload_n hx hb dl_689 rfl (lv_at hl 4 rfl) ?_
  have hP : va_P (dC, dI) rg_cl (rm_Wu h a cI cL w1 ++ (gw_Wu ad fo fa ur cI cL cF cA u1 ++ rl_O ao cL ov1)) H := hP
  have hD : va_D (fun q => s.heap.size ≤ q) (rm_Wu h a cI cL w1 ++ (gw_Wu ad fo fa ur cI cL cF cA u1 ++ rl_O ao cL ov1)) := hD
  obtain ⟨fs9, hq9⟩ := rl_qm (h := h) (a := a) (cI := cI) (cL := cL) w1 (gw_Wu ad fo fa ur cI cL cF cA u1 ++ rl_O ao cL ov1)
  have hM := rg_fI (gw_Wu ad fo fa ur cI cL cF cA u1 ++ rl_O ao cL ov1) (cm_thrown (l := l) (dC := dC) (dI := dI) (h := h) (a := a) (cI := cI) (cL := cL) (w := w1)) H.size
  refine rg_calli hD hS hA (va_runV (As := []) (rest := []) ⟨hx, hb, hml, hown, hts⟩ hM (cwV 0 hts (rg_gV tw_659 tw_660 tw_661 tw_5 tw_662) rfl rfl rfl (by decide +kernel) ⟨(Nat.le_of_ble_eq_true rfl), (Nat.le_of_ble_eq_true rfl)⟩) (rg_preV rfl hKm hP hD (ci := 0) (q0 := 0) rfl hq9) rfl rfl hl.1 rfl (lv_room (Nat.le_of_ble_eq_true rfl)) dl_690 ⟨show cells + 17 + 0 ≤ 601024 by omega, show slots + 70 + 0 ≤ 7293034 by omega⟩) (fun t9 _ H locs hr9 hP hD hS => ?_)
  have hP : va_P (dC, dI) rg_cl (rm_Wu h a cI cL w1 ++ (gw_Wu ad fo fa ur cI cL cF cA u1 ++ rl_O ao cL ov1)) H := hP
  have hD : va_D (fun q => s.heap.size ≤ q) (rm_Wu h a cI cL w1 ++ (gw_Wu ad fo fa ur cI cL cF cA u1 ++ rl_O ao cL ov1)) := hD
  subst hr9
  refine lv_iload hx hb dl_693 (lv_at hl 1 rfl) ?_
  refine lv_icmp_eq (tgt := 700) hx hb dl_695 (by decide) (fun _ => ?_) (fun h => absurd (hc9.trans hk9.symm) h)
  refine lv_iload hx hb dl_700 (lv_at hl 1 rfl) ?_
  refine lv_if_ne (tgt := 717) hx hb dl_702 (by decide) (fun _ => ?_) (fun h0 => ?_)
  · refine lv_goto (tgt := 1157) hx hb dl_717 (by decide) ?_
    have hP := rg_P_comm hP
    have hD := rg_D_comm hD
    exact kk u1 ov1 w1 _ _ _ _ hu hw hP hD hS (lv_sub hl [2, 3, 4, 5, 6] rfl)
  · have hP := rg_P_comm hP
    have hD := rg_D_comm hD
    refine lv_aload_n hx hb dl_705 rfl (lv_at hl 5 rfl) ?_
    refine lv_iconst (v := nI 0) hx hb dl_706 (by decide) ?_
    refine rg_lald hx hb hK hP _ 1 (rg_apl (rg_apr (k := 0) rfl)) rfl (by decide) (by decide) dl_707 ?_
    refine lv_iload hx hb dl_708 (lv_at hl 0 rfl) ?_
    refine lv_i2l (v := z9.toInt64) hx hb dl_710 rfl ?_
    refine W.lcmp hx hb dl_711 ?_
    refine lv_if_eq (tgt := 717) hx hb dl_712 (by decide) (fun _ => ?_) (fun h1 => absurd ((lg_cmp_eq _ _).mpr ((ho9 (hk9.symm.trans h0)).trans (congrArg Int32.toInt64 hz9.symm))) h1)
    refine lv_goto (tgt := 1157) hx hb dl_717 (by decide) ?_
    exact kk u1 ov1 w1 _ _ _ _ hu hw hP hD hS (lv_sub hl [2, 3, 4, 5, 6] rfl)
set_option maxHeartbeats 4000000 in
set_option maxRecDepth 100000 in
theorem st_merge {p : Program} {l : Launch} {e : Env} {s : State} {m : MethodId} {below : List Frame} {meth : Method} {c : Code} {b L : Nat} {xs : Nat → Int32} {Q : State → Prop} {H : Heap} {locs : List Loc} {cells slots : Nat} {ls : Array Slot} {dC : Nat → ClassId} {dI : Nat → Nat → Nat} {ad fo fa ur : Nat → Nat} {cI cL cF cA : ClassId} {ao h : Nat} {a : Nat → Nat} {u : gw_S} {ov : Nat → Int64} {w : rm_S} {g : rg_A} {j : Nat} (hlt : l.stackTraces = false) (C0 : rl_At p s m meth c b L xs) (hL : L ≤ 2048) (hT : rx_T (fun q => s.heap.size ≤ q) s s.heap) (hnc : gw_NC s) (hK : va_K (dC, dI) rg_cl (gw_tys cI cL cF cA) s) (hu : gw_Ru u g) (hw : rm_Ru w g) (hj : 4 * j + 4 ≤ L) (hc : cells + 17 ≤ 601024) (hs : slots + 70 ≤ 7293034) (hP : va_P (dC, dI) rg_cl ((gw_Wu ad fo fa ur cI cL cF cA u ++ rl_O ao cL ov) ++ rm_Wu h a cI cL w) H) (hD : va_D (fun q => s.heap.size ≤ q) ((gw_Wu ad fo fa ur cI cL cF cA u ++ rl_O ao cL ov) ++ rm_Wu h a cI cL w)) (hS : va_S (fun q => s.heap.size ≤ q) s.heap H locs) (hl : lv_has ls 8 [(0, .ref b), (1, .ref (ad 0)), (2, .ref h), (3, .ref ao), (4, .int (nI (4 * j)))])
    (kk : ∀ (u : gw_S) (ov : Nat → Int64) (w : rm_S) (g : rg_A) (H : Heap) (locs : List Loc) (ls : Array Slot), gw_Ru u g → rm_Ru w g → va_P (dC, dI) rg_cl ((gw_Wu ad fo fa ur cI cL cF cA u ++ rl_O ao cL ov) ++ rm_Wu h a cI cL w) H → va_D (fun q => s.heap.size ≤ q) ((gw_Wu ad fo fa ur cI cL cF cA u ++ rl_O ao cL ov) ++ rm_Wu h a cI cL w) → va_S (fun q => s.heap.size ≤ q) s.heap H locs → lv_has ls 8 [(0, .ref b), (1, .ref (ad 0)), (2, .ref h), (3, .ref ao), (4, .int (nI (4 * j)))] → W p l e room_1 s m #[Value.ref b] below meth c H locs (cells + 17) (slots + 70) Q (F0 m 1157 ls [])) : W p l e room_1 s m #[Value.ref b] below meth c H locs cells slots Q (F0 m 720 ls []) := by
  obtain ⟨hx, hb, hml, hown, hts, hX, hbl⟩ := C0
  have hbA : ¬ s.heap.size ≤ b := Nat.not_le.mpr hbl
  have hA : ∀ q : Nat, s.heap.size ≤ q → s.heap.size ≤ q := fun q h => h
  have hKm : va_K (dC, dI) rg_cl [(cI, .int), (cL, .long)] s := hK.sub [0, 1] rfl
  refine lv_aload_n hx hb dl_720 rfl (lv_at hl 1 rfl) ?_
  refine lv_aload_n hx hb dl_721 rfl (lv_at hl 0 rfl) ?_
  refine lv_iload hx hb dl_722 (lv_at hl 4 rfl) ?_
  refine lv_iconst (v := nI 1) hx hb dl_724 (by decide) ?_
  refine rg_iadd hx hb dl_725 ?_
  refine rl_sld hx hb hX hbl hbA hS hL (show 4 * j + 1 < L by omega) dl_726 ?_
  refine lv_aload_n hx hb dl_727 rfl (lv_at hl 0 rfl) ?_
  refine lv_iload hx hb dl_728 (lv_at hl 4 rfl) ?_
  refine lv_iconst (v := nI 2) hx hb dl_730 (by decide) ?_
  refine rg_iadd hx hb dl_731 ?_
  refine rl_sld hx hb hX hbl hbA hS hL (show 4 * j + 2 < L by omega) dl_732 ?_
  refine lv_aload_n hx hb dl_733 rfl (lv_at hl 3 rfl) ?_
  have hM := rw_fI (rm_Wu h a cI cL w) (cw_merge (l := l) (dC := dC) (dI := dI) (ad := ad) (fo := fo) (fa := fa) (ur := ur) (cI := cI) (cL := cL) (cF := cF) (cA := cA) (ao := ao) (ov := ov) hlt hu (xs (4 * j + 1)) (xs (4 * j + 2))) H.size
  refine rg_calli hD hS hA (vx_runSW (As := [.ref (ad 0), .int (xs (4 * j + 1)), .int (xs (4 * j + 2)), .ref ao]) (rest := []) ⟨hx, hb, hml, hown, hts⟩ hM (vx_cwSW 4 hts (rg_gSw tw_456 tw_457 tw_0 tw_458) rfl rfl rfl (by decide +kernel) ⟨(Nat.le_of_ble_eq_true rfl), (Nat.le_of_ble_eq_true rfl)⟩) (rw_preS rfl hT hnc hS hA hK hP hD) rfl rfl hl.1 rfl (lv_room (Nat.le_of_ble_eq_true rfl)) dl_734 ⟨hc, hs⟩) (fun k9 v9 H locs hq hP hD hS => ?_)
  obtain ⟨u1, ov1⟩ := v9
  have hP : va_P (dC, dI) rg_cl ((gw_Wu ad fo fa ur cI cL cF cA u1 ++ rl_O ao cL ov1) ++ rm_Wu h a cI cL w) H := hP
  have hD : va_D (fun q => s.heap.size ≤ q) ((gw_Wu ad fo fa ur cI cL cF cA u1 ++ rl_O ao cL ov1) ++ rm_Wu h a cI cL w) := hD
  obtain ⟨hk9, hu, ho9⟩ := hq
  refine lv_istore (lv' := [(5, .int k9), (0, .ref b), (1, .ref (ad 0)), (2, .ref h), (3, .ref ao), (4, .int (nI (4 * j)))]) hx hb dl_737 hl (by decide) rfl (fun ls hl => ?_)
  refine lv_aload_n hx hb dl_739 rfl (lv_at hl 3 rfl) ?_
  refine lv_aload_n hx hb dl_740 rfl (lv_at hl 1 rfl) ?_
  refine lv_iload hx hb dl_741 (lv_at hl 5 rfl) ?_
  refine lv_iconst (v := nI 1) hx hb dl_743 (by decide) ?_
  refine rg_iadd hx hb dl_744 ?_
  refine rl_sld hx hb hX hbl hbA hS hL (show 4 * j + 1 < L by omega) dl_745 ?_
  refine lv_aload_n hx hb dl_746 rfl (lv_at hl 1 rfl) ?_
  refine lv_iload hx hb dl_747 (lv_at hl 5 rfl) ?_
  refine lv_iconst (v := nI 2) hx hb dl_749 (by decide) ?_
  refine rg_iadd hx hb dl_750 ?_
  refine rl_sld hx hb hX hbl hbA hS hL (show 4 * j + 2 < L by omega) dl_751 ?_
  have hP := rg_P_comm hP
  have hD := rg_D_comm hD
  have hP : va_P (dC, dI) rg_cl (rm_Wu h a cI cL w ++ (gw_Wu ad fo fa ur cI cL cF cA u1 ++ rl_O ao cL ov1)) H := hP
  have hD : va_D (fun q => s.heap.size ≤ q) (rm_Wu h a cI cL w ++ (gw_Wu ad fo fa ur cI cL cF cA u1 ++ rl_O ao cL ov1)) := hD
  obtain ⟨fs9, hq9⟩ := rl_qm (h := h) (a := a) (cI := cI) (cL := cL) w (gw_Wu ad fo fa ur cI cL cF cA u1 ++ rl_O ao cL ov1)
  have hM := rg_fI (gw_Wu ad fo fa ur cI cL cF cA u1 ++ rl_O ao cL ov1) (cm_merge (l := l) (dC := dC) (dI := dI) (h := h) (a := a) (cI := cI) (cL := cL) hw (xs (4 * j + 1)) (xs (4 * j + 2))) H.size
  refine rg_calli hD hS hA (va_runV (As := [.int (xs (4 * j + 1)), .int (xs (4 * j + 2))]) (rest := []) ⟨hx, hb, hml, hown, hts⟩ hM (cwV 2 hts (rg_gV tw_738 tw_739 tw_740 tw_5 tw_741) rfl rfl rfl (by decide +kernel) ⟨(Nat.le_of_ble_eq_true rfl), (Nat.le_of_ble_eq_true rfl)⟩) (rg_preV rfl hKm hP hD (ci := 0) (q0 := 0) rfl hq9) rfl rfl hl.1 rfl (lv_room (Nat.le_of_ble_eq_true rfl)) dl_752 ⟨show cells + 17 + 0 ≤ 601024 by omega, show slots + 70 + 0 ≤ 7293034 by omega⟩) (fun z9 w1 H locs hr9 hP hD hS => ?_)
  have hP : va_P (dC, dI) rg_cl (rm_Wu h a cI cL w1 ++ (gw_Wu ad fo fa ur cI cL cF cA u1 ++ rl_O ao cL ov1)) H := hP
  have hD : va_D (fun q => s.heap.size ≤ q) (rm_Wu h a cI cL w1 ++ (gw_Wu ad fo fa ur cI cL cF cA u1 ++ rl_O ao cL ov1)) := hD
  obtain ⟨hw, hc9, hz9⟩ := hr9
  refine lv_istore (lv' := [(6, .int z9), (5, .int k9), (0, .ref b), (1, .ref (ad 0)), (2, .ref h), (3, .ref ao), (4, .int (nI (4 * j)))]) hx hb dl_755 hl (by decide) rfl (fun ls hl => ?_)
  refine lv_aload_n hx hb dl_757 rfl (lv_at hl 4 rfl) ?_
  have hP : va_P (dC, dI) rg_cl (rm_Wu h a cI cL w1 ++ (gw_Wu ad fo fa ur cI cL cF cA u1 ++ rl_O ao cL ov1)) H := hP
  have hD : va_D (fun q => s.heap.size ≤ q) (rm_Wu h a cI cL w1 ++ (gw_Wu ad fo fa ur cI cL cF cA u1 ++ rl_O ao cL ov1)) := hD
  obtain ⟨fs9, hq9⟩ := rl_qm (h := h) (a := a) (cI := cI) (cL := cL) w1 (gw_Wu ad fo fa ur cI cL cF cA u1 ++ rl_O ao cL ov1)
  have hM := rg_fI (gw_Wu ad fo fa ur cI cL cF cA u1 ++ rl_O ao cL ov1) (cm_thrown (l := l) (dC := dC) (dI := dI) (h := h) (a := a) (cI := cI) (cL := cL) (w := w1)) H.size
  refine rg_calli hD hS hA (va_runV (As := []) (rest := []) ⟨hx, hb, hml, hown, hts⟩ hM (cwV 0 hts (rg_gV tw_659 tw_660 tw_661 tw_5 tw_662) rfl rfl rfl (by decide +kernel) ⟨(Nat.le_of_ble_eq_true rfl), (Nat.le_of_ble_eq_true rfl)⟩) (rg_preV rfl hKm hP hD (ci := 0) (q0 := 0) rfl hq9) rfl rfl hl.1 rfl (lv_room (Nat.le_of_ble_eq_true rfl)) dl_758 ⟨show cells + 17 + 0 ≤ 601024 by omega, show slots + 70 + 0 ≤ 7293034 by omega⟩) (fun t9 _ H locs hr9 hP hD hS => ?_)
  have hP : va_P (dC, dI) rg_cl (rm_Wu h a cI cL w1 ++ (gw_Wu ad fo fa ur cI cL cF cA u1 ++ rl_O ao cL ov1)) H := hP
  have hD : va_D (fun q => s.heap.size ≤ q) (rm_Wu h a cI cL w1 ++ (gw_Wu ad fo fa ur cI cL cF cA u1 ++ rl_O ao cL ov1)) := hD
  subst hr9
  refine lv_iload hx hb dl_761 (lv_at hl 1 rfl) ?_
  refine lv_icmp_eq (tgt := 768) hx hb dl_763 (by decide) (fun _ => ?_) (fun h => absurd (hc9.trans hk9.symm) h)
  refine lv_iload hx hb dl_768 (lv_at hl 1 rfl) ?_
  refine lv_if_ne (tgt := 785) hx hb dl_770 (by decide) (fun _ => ?_) (fun h0 => ?_)
  · refine lv_goto (tgt := 1157) hx hb dl_785 (by decide) ?_
    have hP := rg_P_comm hP
    have hD := rg_D_comm hD
    exact kk u1 ov1 w1 _ _ _ _ hu hw hP hD hS (lv_sub hl [2, 3, 4, 5, 6] rfl)
  · have hP := rg_P_comm hP
    have hD := rg_D_comm hD
    refine lv_aload_n hx hb dl_773 rfl (lv_at hl 5 rfl) ?_
    refine lv_iconst (v := nI 0) hx hb dl_774 (by decide) ?_
    refine rg_lald hx hb hK hP _ 1 (rg_apl (rg_apr (k := 0) rfl)) rfl (by decide) (by decide) dl_775 ?_
    refine lv_iload hx hb dl_776 (lv_at hl 0 rfl) ?_
    refine lv_i2l (v := z9.toInt64) hx hb dl_778 rfl ?_
    refine W.lcmp hx hb dl_779 ?_
    refine lv_if_eq (tgt := 785) hx hb dl_780 (by decide) (fun _ => ?_) (fun h1 => absurd ((lg_cmp_eq _ _).mpr ((ho9 (hk9.symm.trans h0)).trans (congrArg Int32.toInt64 hz9.symm))) h1)
    refine lv_goto (tgt := 1157) hx hb dl_785 (by decide) ?_
    exact kk u1 ov1 w1 _ _ _ _ hu hw hP hD hS (lv_sub hl [2, 3, 4, 5, 6] rfl)
set_option maxHeartbeats 4000000 in
set_option maxRecDepth 100000 in
theorem st_conflicts {p : Program} {l : Launch} {e : Env} {s : State} {m : MethodId} {below : List Frame} {meth : Method} {c : Code} {b L : Nat} {xs : Nat → Int32} {Q : State → Prop} {H : Heap} {locs : List Loc} {cells slots : Nat} {ls : Array Slot} {dC : Nat → ClassId} {dI : Nat → Nat → Nat} {ad fo fa ur : Nat → Nat} {cI cL cF cA : ClassId} {ao h : Nat} {a : Nat → Nat} {u : gw_S} {ov : Nat → Int64} {w : rm_S} {g : rg_A} {j : Nat} (hlt : l.stackTraces = false) (C0 : rl_At p s m meth c b L xs) (hL : L ≤ 2048) (hT : rx_T (fun q => s.heap.size ≤ q) s s.heap) (hnc : gw_NC s) (hK : va_K (dC, dI) rg_cl (gw_tys cI cL cF cA) s) (hu : gw_Ru u g) (hw : rm_Ru w g) (hj : 4 * j + 4 ≤ L) (hc : cells + 17 ≤ 601024) (hs : slots + 70 ≤ 7293034) (hP : va_P (dC, dI) rg_cl ((gw_Wu ad fo fa ur cI cL cF cA u ++ rl_O ao cL ov) ++ rm_Wu h a cI cL w) H) (hD : va_D (fun q => s.heap.size ≤ q) ((gw_Wu ad fo fa ur cI cL cF cA u ++ rl_O ao cL ov) ++ rm_Wu h a cI cL w)) (hS : va_S (fun q => s.heap.size ≤ q) s.heap H locs) (hl : lv_has ls 8 [(0, .ref b), (1, .ref (ad 0)), (2, .ref h), (3, .ref ao), (4, .int (nI (4 * j)))])
    (kk : ∀ (u : gw_S) (ov : Nat → Int64) (w : rm_S) (g : rg_A) (H : Heap) (locs : List Loc) (ls : Array Slot), gw_Ru u g → rm_Ru w g → va_P (dC, dI) rg_cl ((gw_Wu ad fo fa ur cI cL cF cA u ++ rl_O ao cL ov) ++ rm_Wu h a cI cL w) H → va_D (fun q => s.heap.size ≤ q) ((gw_Wu ad fo fa ur cI cL cF cA u ++ rl_O ao cL ov) ++ rm_Wu h a cI cL w) → va_S (fun q => s.heap.size ≤ q) s.heap H locs → lv_has ls 8 [(0, .ref b), (1, .ref (ad 0)), (2, .ref h), (3, .ref ao), (4, .int (nI (4 * j)))] → W p l e room_1 s m #[Value.ref b] below meth c H locs (cells + 17) (slots + 70) Q (F0 m 1157 ls [])) : W p l e room_1 s m #[Value.ref b] below meth c H locs cells slots Q (F0 m 788 ls []) := by
  obtain ⟨hx, hb, hml, hown, hts, hX, hbl⟩ := C0
  have hbA : ¬ s.heap.size ≤ b := Nat.not_le.mpr hbl
  have hA : ∀ q : Nat, s.heap.size ≤ q → s.heap.size ≤ q := fun q h => h
  have hKm : va_K (dC, dI) rg_cl [(cI, .int), (cL, .long)] s := hK.sub [0, 1] rfl
  refine lv_aload_n hx hb dl_788 rfl (lv_at hl 1 rfl) ?_
  have hP : va_P (dC, dI) rg_cl ((gw_Wu ad fo fa ur cI cL cF cA u ++ rl_O ao cL ov) ++ rm_Wu h a cI cL w) H := hP
  have hD : va_D (fun q => s.heap.size ≤ q) ((gw_Wu ad fo fa ur cI cL cF cA u ++ rl_O ao cL ov) ++ rm_Wu h a cI cL w) := hD
  rw [List.append_assoc] at hP hD
  obtain ⟨fs9, hq9⟩ := rl_qg (ad := ad) (fo := fo) (fa := fa) (ur := ur) (cI := cI) (cL := cL) (cF := cF) (cA := cA) u (rl_O ao cL ov ++ rm_Wu h a cI cL w)
  have hM := rg_fI (rl_O ao cL ov ++ rm_Wu h a cI cL w) (cp_conflicts (l := l) (dC := dC) (dI := dI) (ad := ad) (fo := fo) (fa := fa) (ur := ur) (cI := cI) (cL := cL) (cF := cF) (cA := cA) hu) H.size
  refine rg_calli hD hS hA (va_runV (As := []) (rest := []) ⟨hx, hb, hml, hown, hts⟩ hM (cwV 0 hts (rg_gV tw_99 tw_100 tw_101 tw_1 tw_102) rfl rfl rfl (by decide +kernel) ⟨(Nat.le_of_ble_eq_true rfl), (Nat.le_of_ble_eq_true rfl)⟩) (rg_preV rfl hK hP hD (ci := 1) (q0 := 0) rfl hq9) rfl rfl hl.1 rfl (lv_room (Nat.le_of_ble_eq_true rfl)) dl_789 ⟨show cells + 0 ≤ 601024 by omega, show slots + 0 ≤ 7293034 by omega⟩) (fun k9 u1 H locs hq hP hD hS => ?_)
  rw [← List.append_assoc] at hP hD
  have hP : va_P (dC, dI) rg_cl ((gw_Wu ad fo fa ur cI cL cF cA u1 ++ rl_O ao cL ov) ++ rm_Wu h a cI cL w) H := hP
  have hD : va_D (fun q => s.heap.size ≤ q) ((gw_Wu ad fo fa ur cI cL cF cA u1 ++ rl_O ao cL ov) ++ rm_Wu h a cI cL w) := hD
  obtain ⟨hu, -, hk9⟩ := hq
  refine lv_aload_n hx hb dl_792 rfl (lv_at hl 2 rfl) ?_
  have hP := rg_P_comm hP
  have hD := rg_D_comm hD
  have hP : va_P (dC, dI) rg_cl (rm_Wu h a cI cL w ++ (gw_Wu ad fo fa ur cI cL cF cA u1 ++ rl_O ao cL ov)) H := hP
  have hD : va_D (fun q => s.heap.size ≤ q) (rm_Wu h a cI cL w ++ (gw_Wu ad fo fa ur cI cL cF cA u1 ++ rl_O ao cL ov)) := hD
  obtain ⟨fs9, hq9⟩ := rl_qm (h := h) (a := a) (cI := cI) (cL := cL) w (gw_Wu ad fo fa ur cI cL cF cA u1 ++ rl_O ao cL ov)
  have hM := rg_fI (gw_Wu ad fo fa ur cI cL cF cA u1 ++ rl_O ao cL ov) (cm_conflicts (l := l) (dC := dC) (dI := dI) (h := h) (a := a) (cI := cI) (cL := cL) hw ) H.size
  refine rg_calli hD hS hA (va_runV (As := []) (rest := [.int k9]) ⟨hx, hb, hml, hown, hts⟩ hM (cwV 0 hts (rg_gV tw_777 tw_778 tw_779 tw_5 tw_780) rfl rfl rfl (by decide +kernel) ⟨(Nat.le_of_ble_eq_true rfl), (Nat.le_of_ble_eq_true rfl)⟩) (rg_preV rfl hKm hP hD (ci := 0) (q0 := 0) rfl hq9) rfl rfl hl.1 rfl (lv_room (Nat.le_of_ble_eq_true rfl)) dl_793 ⟨show cells + 0 ≤ 601024 by omega, show slots + 0 ≤ 7293034 by omega⟩) (fun z9 w1 H locs hr9 hP hD hS => ?_)
  have hP : va_P (dC, dI) rg_cl (rm_Wu h a cI cL w1 ++ (gw_Wu ad fo fa ur cI cL cF cA u1 ++ rl_O ao cL ov)) H := hP
  have hD : va_D (fun q => s.heap.size ≤ q) (rm_Wu h a cI cL w1 ++ (gw_Wu ad fo fa ur cI cL cF cA u1 ++ rl_O ao cL ov)) := hD
  obtain ⟨hw, hc9, hz9⟩ := hr9
  refine lv_icmp_eq (tgt := 1157) hx hb dl_796 (by decide) (fun _ => ?_) (fun h => absurd (hk9.trans hz9.symm) h)
  refine W.widen (Nat.le_add_right _ 17) (Nat.le_add_right _ 70) ?_
  have hP := rg_P_comm hP
  have hD := rg_D_comm hD
  have hP : va_P (dC, dI) rg_cl ((gw_Wu ad fo fa ur cI cL cF cA u1 ++ rl_O ao cL ov) ++ rm_Wu h a cI cL w1) H := hP
  have hD : va_D (fun q => s.heap.size ≤ q) ((gw_Wu ad fo fa ur cI cL cF cA u1 ++ rl_O ao cL ov) ++ rm_Wu h a cI cL w1) := hD
  exact kk u1 ov w1 _ _ _ _ hu hw hP hD hS (lv_sub hl [0, 1, 2, 3, 4] rfl)
set_option maxHeartbeats 4000000 in
set_option maxRecDepth 100000 in
theorem st_base {p : Program} {l : Launch} {e : Env} {s : State} {m : MethodId} {below : List Frame} {meth : Method} {c : Code} {b L : Nat} {xs : Nat → Int32} {Q : State → Prop} {H : Heap} {locs : List Loc} {cells slots : Nat} {ls : Array Slot} {dC : Nat → ClassId} {dI : Nat → Nat → Nat} {ad fo fa ur : Nat → Nat} {cI cL cF cA : ClassId} {ao h : Nat} {a : Nat → Nat} {u : gw_S} {ov : Nat → Int64} {w : rm_S} {g : rg_A} {j : Nat} (hlt : l.stackTraces = false) (C0 : rl_At p s m meth c b L xs) (hL : L ≤ 2048) (hT : rx_T (fun q => s.heap.size ≤ q) s s.heap) (hnc : gw_NC s) (hK : va_K (dC, dI) rg_cl (gw_tys cI cL cF cA) s) (hu : gw_Ru u g) (hw : rm_Ru w g) (hj : 4 * j + 4 ≤ L) (hc : cells + 17 ≤ 601024) (hs : slots + 70 ≤ 7293034) (hP : va_P (dC, dI) rg_cl ((gw_Wu ad fo fa ur cI cL cF cA u ++ rl_O ao cL ov) ++ rm_Wu h a cI cL w) H) (hD : va_D (fun q => s.heap.size ≤ q) ((gw_Wu ad fo fa ur cI cL cF cA u ++ rl_O ao cL ov) ++ rm_Wu h a cI cL w)) (hS : va_S (fun q => s.heap.size ≤ q) s.heap H locs) (hl : lv_has ls 8 [(0, .ref b), (1, .ref (ad 0)), (2, .ref h), (3, .ref ao), (4, .int (nI (4 * j)))])
    (kk : ∀ (u : gw_S) (ov : Nat → Int64) (w : rm_S) (g : rg_A) (H : Heap) (locs : List Loc) (ls : Array Slot), gw_Ru u g → rm_Ru w g → va_P (dC, dI) rg_cl ((gw_Wu ad fo fa ur cI cL cF cA u ++ rl_O ao cL ov) ++ rm_Wu h a cI cL w) H → va_D (fun q => s.heap.size ≤ q) ((gw_Wu ad fo fa ur cI cL cF cA u ++ rl_O ao cL ov) ++ rm_Wu h a cI cL w) → va_S (fun q => s.heap.size ≤ q) s.heap H locs → lv_has ls 8 [(0, .ref b), (1, .ref (ad 0)), (2, .ref h), (3, .ref ao), (4, .int (nI (4 * j)))] → W p l e room_1 s m #[Value.ref b] below meth c H locs (cells + 17) (slots + 70) Q (F0 m 1157 ls [])) : W p l e room_1 s m #[Value.ref b] below meth c H locs cells slots Q (F0 m 801 ls []) := by
  obtain ⟨hx, hb, hml, hown, hts, hX, hbl⟩ := C0
  have hbA : ¬ s.heap.size ≤ b := Nat.not_le.mpr hbl
  have hA : ∀ q : Nat, s.heap.size ≤ q → s.heap.size ≤ q := fun q h => h
  have hKm : va_K (dC, dI) rg_cl [(cI, .int), (cL, .long)] s := hK.sub [0, 1] rfl
  refine lv_aload_n hx hb dl_801 rfl (lv_at hl 1 rfl) ?_
  refine lv_aload_n hx hb dl_802 rfl (lv_at hl 0 rfl) ?_
  refine lv_iload hx hb dl_803 (lv_at hl 4 rfl) ?_
  refine lv_iconst (v := nI 1) hx hb dl_805 (by decide) ?_
  refine rg_iadd hx hb dl_806 ?_
  refine rl_sld hx hb hX hbl hbA hS hL (show 4 * j + 1 < L by omega) dl_807 ?_
  refine lv_aload_n hx hb dl_808 rfl (lv_at hl 3 rfl) ?_
  have hM := rw_fI (rm_Wu h a cI cL w) (cw_base (l := l) (dC := dC) (dI := dI) (ad := ad) (fo := fo) (fa := fa) (ur := ur) (cI := cI) (cL := cL) (cF := cF) (cA := cA) (ao := ao) (ov := ov) hlt hu (xs (4 * j + 1))) H.size
  refine rg_calli hD hS hA (vx_runSW (As := [.ref (ad 0), .int (xs (4 * j + 1)), .ref ao]) (rest := []) ⟨hx, hb, hml, hown, hts⟩ hM (vx_cwSW 3 hts (rg_gSw tw_550 tw_551 tw_0 tw_552) rfl rfl rfl (by decide +kernel) ⟨(Nat.le_of_ble_eq_true rfl), (Nat.le_of_ble_eq_true rfl)⟩) (rw_preS rfl hT hnc hS hA hK hP hD) rfl rfl hl.1 rfl (lv_room (Nat.le_of_ble_eq_true rfl)) dl_809 ⟨hc, hs⟩) (fun k9 v9 H locs hq hP hD hS => ?_)
  obtain ⟨u1, ov1⟩ := v9
  have hP : va_P (dC, dI) rg_cl ((gw_Wu ad fo fa ur cI cL cF cA u1 ++ rl_O ao cL ov1) ++ rm_Wu h a cI cL w) H := hP
  have hD : va_D (fun q => s.heap.size ≤ q) ((gw_Wu ad fo fa ur cI cL cF cA u1 ++ rl_O ao cL ov1) ++ rm_Wu h a cI cL w) := hD
  obtain ⟨hk9, hu, ho9⟩ := hq
  refine lv_istore (lv' := [(5, .int k9), (0, .ref b), (1, .ref (ad 0)), (2, .ref h), (3, .ref ao), (4, .int (nI (4 * j)))]) hx hb dl_812 hl (by decide) rfl (fun ls hl => ?_)
  refine lv_aload_n hx hb dl_814 rfl (lv_at hl 3 rfl) ?_
  refine lv_aload_n hx hb dl_815 rfl (lv_at hl 1 rfl) ?_
  refine lv_iload hx hb dl_816 (lv_at hl 5 rfl) ?_
  refine lv_iconst (v := nI 1) hx hb dl_818 (by decide) ?_
  refine rg_iadd hx hb dl_819 ?_
  refine rl_sld hx hb hX hbl hbA hS hL (show 4 * j + 1 < L by omega) dl_820 ?_
  have hP := rg_P_comm hP
  have hD := rg_D_comm hD
  have hP : va_P (dC, dI) rg_cl (rm_Wu h a cI cL w ++ (gw_Wu ad fo fa ur cI cL cF cA u1 ++ rl_O ao cL ov1)) H := hP
  have hD : va_D (fun q => s.heap.size ≤ q) (rm_Wu h a cI cL w ++ (gw_Wu ad fo fa ur cI cL cF cA u1 ++ rl_O ao cL ov1)) := hD
  obtain ⟨fs9, hq9⟩ := rl_qm (h := h) (a := a) (cI := cI) (cL := cL) w (gw_Wu ad fo fa ur cI cL cF cA u1 ++ rl_O ao cL ov1)
  have hM := rg_fI (gw_Wu ad fo fa ur cI cL cF cA u1 ++ rl_O ao cL ov1) (cm_base (l := l) (dC := dC) (dI := dI) (h := h) (a := a) (cI := cI) (cL := cL) hw (xs (4 * j + 1))) H.size
  refine rg_calli hD hS hA (va_runV (As := [.int (xs (4 * j + 1))]) (rest := []) ⟨hx, hb, hml, hown, hts⟩ hM (cwV 1 hts (rg_gV tw_781 tw_782 tw_783 tw_5 tw_784) rfl rfl rfl (by decide +kernel) ⟨(Nat.le_of_ble_eq_true rfl), (Nat.le_of_ble_eq_true rfl)⟩) (rg_preV rfl hKm hP hD (ci := 0) (q0 := 0) rfl hq9) rfl rfl hl.1 rfl (lv_room (Nat.le_of_ble_eq_true rfl)) dl_821 ⟨show cells + 17 + 0 ≤ 601024 by omega, show slots + 70 + 0 ≤ 7293034 by omega⟩) (fun z9 w1 H locs hr9 hP hD hS => ?_)
  have hP : va_P (dC, dI) rg_cl (rm_Wu h a cI cL w1 ++ (gw_Wu ad fo fa ur cI cL cF cA u1 ++ rl_O ao cL ov1)) H := hP
  have hD : va_D (fun q => s.heap.size ≤ q) (rm_Wu h a cI cL w1 ++ (gw_Wu ad fo fa ur cI cL cF cA u1 ++ rl_O ao cL ov1)) := hD
  obtain ⟨hw, hc9, hz9⟩ := hr9
  refine lv_istore (lv' := [(6, .int z9), (5, .int k9), (0, .ref b), (1, .ref (ad 0)), (2, .ref h), (3, .ref ao), (4, .int (nI (4 * j)))]) hx hb dl_824 hl (by decide) rfl (fun ls hl => ?_)
  refine lv_aload_n hx hb dl_826 rfl (lv_at hl 4 rfl) ?_
  have hP : va_P (dC, dI) rg_cl (rm_Wu h a cI cL w1 ++ (gw_Wu ad fo fa ur cI cL cF cA u1 ++ rl_O ao cL ov1)) H := hP
  have hD : va_D (fun q => s.heap.size ≤ q) (rm_Wu h a cI cL w1 ++ (gw_Wu ad fo fa ur cI cL cF cA u1 ++ rl_O ao cL ov1)) := hD
  obtain ⟨fs9, hq9⟩ := rl_qm (h := h) (a := a) (cI := cI) (cL := cL) w1 (gw_Wu ad fo fa ur cI cL cF cA u1 ++ rl_O ao cL ov1)
  have hM := rg_fI (gw_Wu ad fo fa ur cI cL cF cA u1 ++ rl_O ao cL ov1) (cm_thrown (l := l) (dC := dC) (dI := dI) (h := h) (a := a) (cI := cI) (cL := cL) (w := w1)) H.size
  refine rg_calli hD hS hA (va_runV (As := []) (rest := []) ⟨hx, hb, hml, hown, hts⟩ hM (cwV 0 hts (rg_gV tw_659 tw_660 tw_661 tw_5 tw_662) rfl rfl rfl (by decide +kernel) ⟨(Nat.le_of_ble_eq_true rfl), (Nat.le_of_ble_eq_true rfl)⟩) (rg_preV rfl hKm hP hD (ci := 0) (q0 := 0) rfl hq9) rfl rfl hl.1 rfl (lv_room (Nat.le_of_ble_eq_true rfl)) dl_827 ⟨show cells + 17 + 0 ≤ 601024 by omega, show slots + 70 + 0 ≤ 7293034 by omega⟩) (fun t9 _ H locs hr9 hP hD hS => ?_)
  have hP : va_P (dC, dI) rg_cl (rm_Wu h a cI cL w1 ++ (gw_Wu ad fo fa ur cI cL cF cA u1 ++ rl_O ao cL ov1)) H := hP
  have hD : va_D (fun q => s.heap.size ≤ q) (rm_Wu h a cI cL w1 ++ (gw_Wu ad fo fa ur cI cL cF cA u1 ++ rl_O ao cL ov1)) := hD
  subst hr9
  refine lv_iload hx hb dl_830 (lv_at hl 1 rfl) ?_
  refine lv_icmp_eq (tgt := 837) hx hb dl_832 (by decide) (fun _ => ?_) (fun h => absurd (hc9.trans hk9.symm) h)
  refine lv_iload hx hb dl_837 (lv_at hl 1 rfl) ?_
  refine lv_if_ne (tgt := 854) hx hb dl_839 (by decide) (fun _ => ?_) (fun h0 => ?_)
  · refine lv_goto (tgt := 1157) hx hb dl_854 (by decide) ?_
    have hP := rg_P_comm hP
    have hD := rg_D_comm hD
    exact kk u1 ov1 w1 _ _ _ _ hu hw hP hD hS (lv_sub hl [2, 3, 4, 5, 6] rfl)
  · have hP := rg_P_comm hP
    have hD := rg_D_comm hD
    refine lv_aload_n hx hb dl_842 rfl (lv_at hl 5 rfl) ?_
    refine lv_iconst (v := nI 0) hx hb dl_843 (by decide) ?_
    refine rg_lald hx hb hK hP _ 1 (rg_apl (rg_apr (k := 0) rfl)) rfl (by decide) (by decide) dl_844 ?_
    refine lv_iload hx hb dl_845 (lv_at hl 0 rfl) ?_
    refine lv_i2l (v := z9.toInt64) hx hb dl_847 rfl ?_
    refine W.lcmp hx hb dl_848 ?_
    refine lv_if_eq (tgt := 854) hx hb dl_849 (by decide) (fun _ => ?_) (fun h1 => absurd ((lg_cmp_eq _ _).mpr ((ho9 (hk9.symm.trans h0)).trans (congrArg Int32.toInt64 hz9.symm))) h1)
    refine lv_goto (tgt := 1157) hx hb dl_854 (by decide) ?_
    exact kk u1 ov1 w1 _ _ _ _ hu hw hP hD hS (lv_sub hl [2, 3, 4, 5, 6] rfl)
set_option maxHeartbeats 4000000 in
set_option maxRecDepth 100000 in
theorem st_value {p : Program} {l : Launch} {e : Env} {s : State} {m : MethodId} {below : List Frame} {meth : Method} {c : Code} {b L : Nat} {xs : Nat → Int32} {Q : State → Prop} {H : Heap} {locs : List Loc} {cells slots : Nat} {ls : Array Slot} {dC : Nat → ClassId} {dI : Nat → Nat → Nat} {ad fo fa ur : Nat → Nat} {cI cL cF cA : ClassId} {ao h : Nat} {a : Nat → Nat} {u : gw_S} {ov : Nat → Int64} {w : rm_S} {g : rg_A} {j : Nat} (hlt : l.stackTraces = false) (C0 : rl_At p s m meth c b L xs) (hL : L ≤ 2048) (hT : rx_T (fun q => s.heap.size ≤ q) s s.heap) (hnc : gw_NC s) (hK : va_K (dC, dI) rg_cl (gw_tys cI cL cF cA) s) (hu : gw_Ru u g) (hw : rm_Ru w g) (hj : 4 * j + 4 ≤ L) (hc : cells + 17 ≤ 601024) (hs : slots + 70 ≤ 7293034) (hP : va_P (dC, dI) rg_cl ((gw_Wu ad fo fa ur cI cL cF cA u ++ rl_O ao cL ov) ++ rm_Wu h a cI cL w) H) (hD : va_D (fun q => s.heap.size ≤ q) ((gw_Wu ad fo fa ur cI cL cF cA u ++ rl_O ao cL ov) ++ rm_Wu h a cI cL w)) (hS : va_S (fun q => s.heap.size ≤ q) s.heap H locs) (hl : lv_has ls 8 [(0, .ref b), (1, .ref (ad 0)), (2, .ref h), (3, .ref ao), (4, .int (nI (4 * j)))])
    (kk : ∀ (u : gw_S) (ov : Nat → Int64) (w : rm_S) (g : rg_A) (H : Heap) (locs : List Loc) (ls : Array Slot), gw_Ru u g → rm_Ru w g → va_P (dC, dI) rg_cl ((gw_Wu ad fo fa ur cI cL cF cA u ++ rl_O ao cL ov) ++ rm_Wu h a cI cL w) H → va_D (fun q => s.heap.size ≤ q) ((gw_Wu ad fo fa ur cI cL cF cA u ++ rl_O ao cL ov) ++ rm_Wu h a cI cL w) → va_S (fun q => s.heap.size ≤ q) s.heap H locs → lv_has ls 8 [(0, .ref b), (1, .ref (ad 0)), (2, .ref h), (3, .ref ao), (4, .int (nI (4 * j)))] → W p l e room_1 s m #[Value.ref b] below meth c H locs (cells + 17) (slots + 70) Q (F0 m 1157 ls [])) : W p l e room_1 s m #[Value.ref b] below meth c H locs cells slots Q (F0 m 857 ls []) := by
  obtain ⟨hx, hb, hml, hown, hts, hX, hbl⟩ := C0
  have hbA : ¬ s.heap.size ≤ b := Nat.not_le.mpr hbl
  have hA : ∀ q : Nat, s.heap.size ≤ q → s.heap.size ≤ q := fun q h => h
  have hKm : va_K (dC, dI) rg_cl [(cI, .int), (cL, .long)] s := hK.sub [0, 1] rfl
  refine lv_aload_n hx hb dl_857 rfl (lv_at hl 1 rfl) ?_
  refine lv_aload_n hx hb dl_858 rfl (lv_at hl 0 rfl) ?_
  refine lv_iload hx hb dl_859 (lv_at hl 4 rfl) ?_
  refine lv_iconst (v := nI 1) hx hb dl_861 (by decide) ?_
  refine rg_iadd hx hb dl_862 ?_
  refine rl_sld hx hb hX hbl hbA hS hL (show 4 * j + 1 < L by omega) dl_863 ?_
  refine lv_aload_n hx hb dl_864 rfl (lv_at hl 0 rfl) ?_
  refine lv_iload hx hb dl_865 (lv_at hl 4 rfl) ?_
  refine lv_iconst (v := nI 2) hx hb dl_867 (by decide) ?_
  refine rg_iadd hx hb dl_868 ?_
  refine rl_sld hx hb hX hbl hbA hS hL (show 4 * j + 2 < L by omega) dl_869 ?_
  refine lv_aload_n hx hb dl_870 rfl (lv_at hl 0 rfl) ?_
  refine lv_iload hx hb dl_871 (lv_at hl 4 rfl) ?_
  refine lv_iconst (v := nI 3) hx hb dl_873 (by decide) ?_
  refine rg_iadd hx hb dl_874 ?_
  refine rl_sld hx hb hX hbl hbA hS hL (show 4 * j + 3 < L by omega) dl_875 ?_
  refine lv_aload_n hx hb dl_876 rfl (lv_at hl 3 rfl) ?_
  have hM := rw_fI (rm_Wu h a cI cL w) (cw_value (l := l) (dC := dC) (dI := dI) (ad := ad) (fo := fo) (fa := fa) (ur := ur) (cI := cI) (cL := cL) (cF := cF) (cA := cA) (ao := ao) (ov := ov) hlt hu (xs (4 * j + 1)) (xs (4 * j + 2)) (xs (4 * j + 3))) H.size
  refine rg_calli hD hS hA (vx_runSW (As := [.ref (ad 0), .int (xs (4 * j + 1)), .int (xs (4 * j + 2)), .int (xs (4 * j + 3)), .ref ao]) (rest := []) ⟨hx, hb, hml, hown, hts⟩ hM (vx_cwSW 5 hts (rg_gSw tw_557 tw_558 tw_0 tw_559) rfl rfl rfl (by decide +kernel) ⟨(Nat.le_of_ble_eq_true rfl), (Nat.le_of_ble_eq_true rfl)⟩) (rw_preS rfl hT hnc hS hA hK hP hD) rfl rfl hl.1 rfl (lv_room (Nat.le_of_ble_eq_true rfl)) dl_877 ⟨hc, hs⟩) (fun k9 v9 H locs hq hP hD hS => ?_)
  obtain ⟨u1, ov1⟩ := v9
  have hP : va_P (dC, dI) rg_cl ((gw_Wu ad fo fa ur cI cL cF cA u1 ++ rl_O ao cL ov1) ++ rm_Wu h a cI cL w) H := hP
  have hD : va_D (fun q => s.heap.size ≤ q) ((gw_Wu ad fo fa ur cI cL cF cA u1 ++ rl_O ao cL ov1) ++ rm_Wu h a cI cL w) := hD
  obtain ⟨hk9, hu, ho9⟩ := hq
  refine lv_istore (lv' := [(5, .int k9), (0, .ref b), (1, .ref (ad 0)), (2, .ref h), (3, .ref ao), (4, .int (nI (4 * j)))]) hx hb dl_880 hl (by decide) rfl (fun ls hl => ?_)
  refine lv_aload_n hx hb dl_882 rfl (lv_at hl 3 rfl) ?_
  refine lv_aload_n hx hb dl_883 rfl (lv_at hl 1 rfl) ?_
  refine lv_iload hx hb dl_884 (lv_at hl 5 rfl) ?_
  refine lv_iconst (v := nI 1) hx hb dl_886 (by decide) ?_
  refine rg_iadd hx hb dl_887 ?_
  refine rl_sld hx hb hX hbl hbA hS hL (show 4 * j + 1 < L by omega) dl_888 ?_
  refine lv_aload_n hx hb dl_889 rfl (lv_at hl 1 rfl) ?_
  refine lv_iload hx hb dl_890 (lv_at hl 5 rfl) ?_
  refine lv_iconst (v := nI 2) hx hb dl_892 (by decide) ?_
  refine rg_iadd hx hb dl_893 ?_
  refine rl_sld hx hb hX hbl hbA hS hL (show 4 * j + 2 < L by omega) dl_894 ?_
  refine lv_aload_n hx hb dl_895 rfl (lv_at hl 1 rfl) ?_
  refine lv_iload hx hb dl_896 (lv_at hl 5 rfl) ?_
  refine lv_iconst (v := nI 3) hx hb dl_898 (by decide) ?_
  refine rg_iadd hx hb dl_899 ?_
  refine rl_sld hx hb hX hbl hbA hS hL (show 4 * j + 3 < L by omega) dl_900 ?_
  have hP := rg_P_comm hP
  have hD := rg_D_comm hD
  have hP : va_P (dC, dI) rg_cl (rm_Wu h a cI cL w ++ (gw_Wu ad fo fa ur cI cL cF cA u1 ++ rl_O ao cL ov1)) H := hP
  have hD : va_D (fun q => s.heap.size ≤ q) (rm_Wu h a cI cL w ++ (gw_Wu ad fo fa ur cI cL cF cA u1 ++ rl_O ao cL ov1)) := hD
  obtain ⟨fs9, hq9⟩ := rl_qm (h := h) (a := a) (cI := cI) (cL := cL) w (gw_Wu ad fo fa ur cI cL cF cA u1 ++ rl_O ao cL ov1)
  have hM := rg_fL (gw_Wu ad fo fa ur cI cL cF cA u1 ++ rl_O ao cL ov1) (cm_value (l := l) (dC := dC) (dI := dI) (h := h) (a := a) (cI := cI) (cL := cL) hw (xs (4 * j + 1)) (xs (4 * j + 2)) (xs (4 * j + 3))) H.size
  refine rg_calll hD hS hA (va_runV (As := [.int (xs (4 * j + 1)), .int (xs (4 * j + 2)), .int (xs (4 * j + 3))]) (rest := []) ⟨hx, hb, hml, hown, hts⟩ hM (cwV 3 hts (rg_gV tw_785 tw_786 tw_787 tw_5 tw_788) rfl rfl rfl (by decide +kernel) ⟨(Nat.le_of_ble_eq_true rfl), (Nat.le_of_ble_eq_true rfl)⟩) (rg_preV rfl hKm hP hD (ci := 0) (q0 := 0) rfl hq9) rfl rfl hl.1 rfl (lv_room (Nat.le_of_ble_eq_true rfl)) dl_901 ⟨show cells + 17 + 0 ≤ 601024 by omega, show slots + 70 + 0 ≤ 7293034 by omega⟩) (fun z9 w1 H locs hr9 hP hD hS => ?_)
  have hP : va_P (dC, dI) rg_cl (rm_Wu h a cI cL w1 ++ (gw_Wu ad fo fa ur cI cL cF cA u1 ++ rl_O ao cL ov1)) H := hP
  have hD : va_D (fun q => s.heap.size ≤ q) (rm_Wu h a cI cL w1 ++ (gw_Wu ad fo fa ur cI cL cF cA u1 ++ rl_O ao cL ov1)) := hD
  obtain ⟨hw, hc9, hz9⟩ := hr9
  refine lv_lstore (lv' := [(6, .long z9), (5, .int k9), (0, .ref b), (1, .ref (ad 0)), (2, .ref h), (3, .ref ao), (4, .int (nI (4 * j)))]) hx hb dl_904 hl (by decide) rfl (fun ls hl => ?_)
  refine lv_aload_n hx hb dl_906 rfl (lv_at hl 4 rfl) ?_
  have hP : va_P (dC, dI) rg_cl (rm_Wu h a cI cL w1 ++ (gw_Wu ad fo fa ur cI cL cF cA u1 ++ rl_O ao cL ov1)) H := hP
  have hD : va_D (fun q => s.heap.size ≤ q) (rm_Wu h a cI cL w1 ++ (gw_Wu ad fo fa ur cI cL cF cA u1 ++ rl_O ao cL ov1)) := hD
  obtain ⟨fs9, hq9⟩ := rl_qm (h := h) (a := a) (cI := cI) (cL := cL) w1 (gw_Wu ad fo fa ur cI cL cF cA u1 ++ rl_O ao cL ov1)
  have hM := rg_fI (gw_Wu ad fo fa ur cI cL cF cA u1 ++ rl_O ao cL ov1) (cm_thrown (l := l) (dC := dC) (dI := dI) (h := h) (a := a) (cI := cI) (cL := cL) (w := w1)) H.size
  refine rg_calli hD hS hA (va_runV (As := []) (rest := []) ⟨hx, hb, hml, hown, hts⟩ hM (cwV 0 hts (rg_gV tw_659 tw_660 tw_661 tw_5 tw_662) rfl rfl rfl (by decide +kernel) ⟨(Nat.le_of_ble_eq_true rfl), (Nat.le_of_ble_eq_true rfl)⟩) (rg_preV rfl hKm hP hD (ci := 0) (q0 := 0) rfl hq9) rfl rfl hl.1 rfl (lv_room (Nat.le_of_ble_eq_true rfl)) dl_907 ⟨show cells + 17 + 0 ≤ 601024 by omega, show slots + 70 + 0 ≤ 7293034 by omega⟩) (fun t9 _ H locs hr9 hP hD hS => ?_)
  have hP : va_P (dC, dI) rg_cl (rm_Wu h a cI cL w1 ++ (gw_Wu ad fo fa ur cI cL cF cA u1 ++ rl_O ao cL ov1)) H := hP
  have hD : va_D (fun q => s.heap.size ≤ q) (rm_Wu h a cI cL w1 ++ (gw_Wu ad fo fa ur cI cL cF cA u1 ++ rl_O ao cL ov1)) := hD
  subst hr9
  refine lv_iload hx hb dl_910 (lv_at hl 1 rfl) ?_
  refine lv_icmp_eq (tgt := 917) hx hb dl_912 (by decide) (fun _ => ?_) (fun h => absurd (hc9.trans hk9.symm) h)
  refine lv_iload hx hb dl_917 (lv_at hl 1 rfl) ?_
  refine lv_if_ne (tgt := 933) hx hb dl_919 (by decide) (fun _ => ?_) (fun h0 => ?_)
  · refine lv_goto (tgt := 1157) hx hb dl_933 (by decide) ?_
    have hP := rg_P_comm hP
    have hD := rg_D_comm hD
    exact kk u1 ov1 w1 _ _ _ _ hu hw hP hD hS (lv_sub hl [2, 3, 4, 5, 6] rfl)
  · have hP := rg_P_comm hP
    have hD := rg_D_comm hD
    refine lv_aload_n hx hb dl_922 rfl (lv_at hl 5 rfl) ?_
    refine lv_iconst (v := nI 0) hx hb dl_923 (by decide) ?_
    refine rg_lald hx hb hK hP _ 1 (rg_apl (rg_apr (k := 0) rfl)) rfl (by decide) (by decide) dl_924 ?_
    refine lv_lload hx hb dl_925 (lv_at hl 0 rfl) ?_
    refine W.lcmp hx hb dl_927 ?_
    refine lv_if_eq (tgt := 933) hx hb dl_928 (by decide) (fun _ => ?_) (fun h1 => absurd ((lg_cmp_eq _ _).mpr ((ho9 (hk9.symm.trans h0)).trans hz9.symm)) h1)
    refine lv_goto (tgt := 1157) hx hb dl_933 (by decide) ?_
    exact kk u1 ov1 w1 _ _ _ _ hu hw hP hD hS (lv_sub hl [2, 3, 4, 5, 6] rfl)
set_option maxHeartbeats 4000000 in
set_option maxRecDepth 100000 in
theorem st_differ {p : Program} {l : Launch} {e : Env} {s : State} {m : MethodId} {below : List Frame} {meth : Method} {c : Code} {b L : Nat} {xs : Nat → Int32} {Q : State → Prop} {H : Heap} {locs : List Loc} {cells slots : Nat} {ls : Array Slot} {dC : Nat → ClassId} {dI : Nat → Nat → Nat} {ad fo fa ur : Nat → Nat} {cI cL cF cA : ClassId} {ao h : Nat} {a : Nat → Nat} {u : gw_S} {ov : Nat → Int64} {w : rm_S} {g : rg_A} {j : Nat} (hlt : l.stackTraces = false) (C0 : rl_At p s m meth c b L xs) (hL : L ≤ 2048) (hT : rx_T (fun q => s.heap.size ≤ q) s s.heap) (hnc : gw_NC s) (hK : va_K (dC, dI) rg_cl (gw_tys cI cL cF cA) s) (hu : gw_Ru u g) (hw : rm_Ru w g) (hj : 4 * j + 4 ≤ L) (hc : cells + 17 ≤ 601024) (hs : slots + 70 ≤ 7293034) (hP : va_P (dC, dI) rg_cl ((gw_Wu ad fo fa ur cI cL cF cA u ++ rl_O ao cL ov) ++ rm_Wu h a cI cL w) H) (hD : va_D (fun q => s.heap.size ≤ q) ((gw_Wu ad fo fa ur cI cL cF cA u ++ rl_O ao cL ov) ++ rm_Wu h a cI cL w)) (hS : va_S (fun q => s.heap.size ≤ q) s.heap H locs) (hl : lv_has ls 8 [(0, .ref b), (1, .ref (ad 0)), (2, .ref h), (3, .ref ao), (4, .int (nI (4 * j)))])
    (kk : ∀ (u : gw_S) (ov : Nat → Int64) (w : rm_S) (g : rg_A) (H : Heap) (locs : List Loc) (ls : Array Slot), gw_Ru u g → rm_Ru w g → va_P (dC, dI) rg_cl ((gw_Wu ad fo fa ur cI cL cF cA u ++ rl_O ao cL ov) ++ rm_Wu h a cI cL w) H → va_D (fun q => s.heap.size ≤ q) ((gw_Wu ad fo fa ur cI cL cF cA u ++ rl_O ao cL ov) ++ rm_Wu h a cI cL w) → va_S (fun q => s.heap.size ≤ q) s.heap H locs → lv_has ls 8 [(0, .ref b), (1, .ref (ad 0)), (2, .ref h), (3, .ref ao), (4, .int (nI (4 * j)))] → W p l e room_1 s m #[Value.ref b] below meth c H locs (cells + 17) (slots + 70) Q (F0 m 1157 ls [])) : W p l e room_1 s m #[Value.ref b] below meth c H locs cells slots Q (F0 m 936 ls []) := by
  obtain ⟨hx, hb, hml, hown, hts, hX, hbl⟩ := C0
  have hbA : ¬ s.heap.size ≤ b := Nat.not_le.mpr hbl
  have hA : ∀ q : Nat, s.heap.size ≤ q → s.heap.size ≤ q := fun q h => h
  have hKm : va_K (dC, dI) rg_cl [(cI, .int), (cL, .long)] s := hK.sub [0, 1] rfl
  refine lv_aload_n hx hb dl_936 rfl (lv_at hl 1 rfl) ?_
  refine lv_aload_n hx hb dl_937 rfl (lv_at hl 0 rfl) ?_
  refine lv_iload hx hb dl_938 (lv_at hl 4 rfl) ?_
  refine lv_iconst (v := nI 1) hx hb dl_940 (by decide) ?_
  refine rg_iadd hx hb dl_941 ?_
  refine rl_sld hx hb hX hbl hbA hS hL (show 4 * j + 1 < L by omega) dl_942 ?_
  refine lv_aload_n hx hb dl_943 rfl (lv_at hl 0 rfl) ?_
  refine lv_iload hx hb dl_944 (lv_at hl 4 rfl) ?_
  refine lv_iconst (v := nI 2) hx hb dl_946 (by decide) ?_
  refine rg_iadd hx hb dl_947 ?_
  refine rl_sld hx hb hX hbl hbA hS hL (show 4 * j + 2 < L by omega) dl_948 ?_
  refine lv_aload_n hx hb dl_949 rfl (lv_at hl 3 rfl) ?_
  have hM := rw_fI (rm_Wu h a cI cL w) (cw_differ (l := l) (dC := dC) (dI := dI) (ad := ad) (fo := fo) (fa := fa) (ur := ur) (cI := cI) (cL := cL) (cF := cF) (cA := cA) (ao := ao) (ov := ov) hlt hu (xs (4 * j + 1)) (xs (4 * j + 2))) H.size
  refine rg_calli hD hS hA (vx_runSW (As := [.ref (ad 0), .int (xs (4 * j + 1)), .int (xs (4 * j + 2)), .ref ao]) (rest := []) ⟨hx, hb, hml, hown, hts⟩ hM (vx_cwSW 4 hts (rg_gSw tw_569 tw_570 tw_0 tw_571) rfl rfl rfl (by decide +kernel) ⟨(Nat.le_of_ble_eq_true rfl), (Nat.le_of_ble_eq_true rfl)⟩) (rw_preS rfl hT hnc hS hA hK hP hD) rfl rfl hl.1 rfl (lv_room (Nat.le_of_ble_eq_true rfl)) dl_950 ⟨hc, hs⟩) (fun k9 v9 H locs hq hP hD hS => ?_)
  obtain ⟨u1, ov1⟩ := v9
  have hP : va_P (dC, dI) rg_cl ((gw_Wu ad fo fa ur cI cL cF cA u1 ++ rl_O ao cL ov1) ++ rm_Wu h a cI cL w) H := hP
  have hD : va_D (fun q => s.heap.size ≤ q) ((gw_Wu ad fo fa ur cI cL cF cA u1 ++ rl_O ao cL ov1) ++ rm_Wu h a cI cL w) := hD
  obtain ⟨hk9, hu, ho9⟩ := hq
  refine lv_istore (lv' := [(5, .int k9), (0, .ref b), (1, .ref (ad 0)), (2, .ref h), (3, .ref ao), (4, .int (nI (4 * j)))]) hx hb dl_953 hl (by decide) rfl (fun ls hl => ?_)
  refine lv_aload_n hx hb dl_955 rfl (lv_at hl 3 rfl) ?_
  refine lv_aload_n hx hb dl_956 rfl (lv_at hl 1 rfl) ?_
  refine lv_iload hx hb dl_957 (lv_at hl 5 rfl) ?_
  refine lv_iconst (v := nI 1) hx hb dl_959 (by decide) ?_
  refine rg_iadd hx hb dl_960 ?_
  refine rl_sld hx hb hX hbl hbA hS hL (show 4 * j + 1 < L by omega) dl_961 ?_
  refine lv_aload_n hx hb dl_962 rfl (lv_at hl 1 rfl) ?_
  refine lv_iload hx hb dl_963 (lv_at hl 5 rfl) ?_
  refine lv_iconst (v := nI 2) hx hb dl_965 (by decide) ?_
  refine rg_iadd hx hb dl_966 ?_
  refine rl_sld hx hb hX hbl hbA hS hL (show 4 * j + 2 < L by omega) dl_967 ?_
  have hP := rg_P_comm hP
  have hD := rg_D_comm hD
  have hP : va_P (dC, dI) rg_cl (rm_Wu h a cI cL w ++ (gw_Wu ad fo fa ur cI cL cF cA u1 ++ rl_O ao cL ov1)) H := hP
  have hD : va_D (fun q => s.heap.size ≤ q) (rm_Wu h a cI cL w ++ (gw_Wu ad fo fa ur cI cL cF cA u1 ++ rl_O ao cL ov1)) := hD
  obtain ⟨fs9, hq9⟩ := rl_qm (h := h) (a := a) (cI := cI) (cL := cL) w (gw_Wu ad fo fa ur cI cL cF cA u1 ++ rl_O ao cL ov1)
  have hM := rg_fI (gw_Wu ad fo fa ur cI cL cF cA u1 ++ rl_O ao cL ov1) (cm_differ (l := l) (dC := dC) (dI := dI) (h := h) (a := a) (cI := cI) (cL := cL) hw (xs (4 * j + 1)) (xs (4 * j + 2))) H.size
  refine rg_calli hD hS hA (va_runV (As := [.int (xs (4 * j + 1)), .int (xs (4 * j + 2))]) (rest := []) ⟨hx, hb, hml, hown, hts⟩ hM (cwV 2 hts (rg_gV tw_790 tw_791 tw_792 tw_5 tw_793) rfl rfl rfl (by decide +kernel) ⟨(Nat.le_of_ble_eq_true rfl), (Nat.le_of_ble_eq_true rfl)⟩) (rg_preV rfl hKm hP hD (ci := 0) (q0 := 0) rfl hq9) rfl rfl hl.1 rfl (lv_room (Nat.le_of_ble_eq_true rfl)) dl_968 ⟨show cells + 17 + 0 ≤ 601024 by omega, show slots + 70 + 0 ≤ 7293034 by omega⟩) (fun z9 w1 H locs hr9 hP hD hS => ?_)
  have hP : va_P (dC, dI) rg_cl (rm_Wu h a cI cL w1 ++ (gw_Wu ad fo fa ur cI cL cF cA u1 ++ rl_O ao cL ov1)) H := hP
  have hD : va_D (fun q => s.heap.size ≤ q) (rm_Wu h a cI cL w1 ++ (gw_Wu ad fo fa ur cI cL cF cA u1 ++ rl_O ao cL ov1)) := hD
  obtain ⟨hw, hc9, hz9⟩ := hr9
  refine lv_istore (lv' := [(6, .int z9), (5, .int k9), (0, .ref b), (1, .ref (ad 0)), (2, .ref h), (3, .ref ao), (4, .int (nI (4 * j)))]) hx hb dl_971 hl (by decide) rfl (fun ls hl => ?_)
  refine lv_aload_n hx hb dl_973 rfl (lv_at hl 4 rfl) ?_
  have hP : va_P (dC, dI) rg_cl (rm_Wu h a cI cL w1 ++ (gw_Wu ad fo fa ur cI cL cF cA u1 ++ rl_O ao cL ov1)) H := hP
  have hD : va_D (fun q => s.heap.size ≤ q) (rm_Wu h a cI cL w1 ++ (gw_Wu ad fo fa ur cI cL cF cA u1 ++ rl_O ao cL ov1)) := hD
  obtain ⟨fs9, hq9⟩ := rl_qm (h := h) (a := a) (cI := cI) (cL := cL) w1 (gw_Wu ad fo fa ur cI cL cF cA u1 ++ rl_O ao cL ov1)
  have hM := rg_fI (gw_Wu ad fo fa ur cI cL cF cA u1 ++ rl_O ao cL ov1) (cm_thrown (l := l) (dC := dC) (dI := dI) (h := h) (a := a) (cI := cI) (cL := cL) (w := w1)) H.size
  refine rg_calli hD hS hA (va_runV (As := []) (rest := []) ⟨hx, hb, hml, hown, hts⟩ hM (cwV 0 hts (rg_gV tw_659 tw_660 tw_661 tw_5 tw_662) rfl rfl rfl (by decide +kernel) ⟨(Nat.le_of_ble_eq_true rfl), (Nat.le_of_ble_eq_true rfl)⟩) (rg_preV rfl hKm hP hD (ci := 0) (q0 := 0) rfl hq9) rfl rfl hl.1 rfl (lv_room (Nat.le_of_ble_eq_true rfl)) dl_974 ⟨show cells + 17 + 0 ≤ 601024 by omega, show slots + 70 + 0 ≤ 7293034 by omega⟩) (fun t9 _ H locs hr9 hP hD hS => ?_)
  have hP : va_P (dC, dI) rg_cl (rm_Wu h a cI cL w1 ++ (gw_Wu ad fo fa ur cI cL cF cA u1 ++ rl_O ao cL ov1)) H := hP
  have hD : va_D (fun q => s.heap.size ≤ q) (rm_Wu h a cI cL w1 ++ (gw_Wu ad fo fa ur cI cL cF cA u1 ++ rl_O ao cL ov1)) := hD
  subst hr9
  refine lv_iload hx hb dl_977 (lv_at hl 1 rfl) ?_
  refine lv_icmp_eq (tgt := 984) hx hb dl_979 (by decide) (fun _ => ?_) (fun h => absurd (hc9.trans hk9.symm) h)
  refine lv_iload hx hb dl_984 (lv_at hl 1 rfl) ?_
  refine lv_if_ne (tgt := 1001) hx hb dl_986 (by decide) (fun _ => ?_) (fun h0 => ?_)
  · refine lv_goto (tgt := 1157) hx hb dl_1001 (by decide) ?_
    have hP := rg_P_comm hP
    have hD := rg_D_comm hD
    exact kk u1 ov1 w1 _ _ _ _ hu hw hP hD hS (lv_sub hl [2, 3, 4, 5, 6] rfl)
  · have hP := rg_P_comm hP
    have hD := rg_D_comm hD
    refine lv_aload_n hx hb dl_989 rfl (lv_at hl 5 rfl) ?_
    refine lv_iconst (v := nI 0) hx hb dl_990 (by decide) ?_
    refine rg_lald hx hb hK hP _ 1 (rg_apl (rg_apr (k := 0) rfl)) rfl (by decide) (by decide) dl_991 ?_
    refine lv_iload hx hb dl_992 (lv_at hl 0 rfl) ?_
    refine lv_i2l (v := z9.toInt64) hx hb dl_994 rfl ?_
    refine W.lcmp hx hb dl_995 ?_
    refine lv_if_eq (tgt := 1001) hx hb dl_996 (by decide) (fun _ => ?_) (fun h1 => absurd ((lg_cmp_eq _ _).mpr ((ho9 (hk9.symm.trans h0)).trans (congrArg Int32.toInt64 hz9.symm))) h1)
    refine lv_goto (tgt := 1157) hx hb dl_1001 (by decide) ?_
    exact kk u1 ov1 w1 _ _ _ _ hu hw hP hD hS (lv_sub hl [2, 3, 4, 5, 6] rfl)
set_option maxHeartbeats 4000000 in
set_option maxRecDepth 100000 in
theorem st_parent {p : Program} {l : Launch} {e : Env} {s : State} {m : MethodId} {below : List Frame} {meth : Method} {c : Code} {b L : Nat} {xs : Nat → Int32} {Q : State → Prop} {H : Heap} {locs : List Loc} {cells slots : Nat} {ls : Array Slot} {dC : Nat → ClassId} {dI : Nat → Nat → Nat} {ad fo fa ur : Nat → Nat} {cI cL cF cA : ClassId} {ao h : Nat} {a : Nat → Nat} {u : gw_S} {ov : Nat → Int64} {w : rm_S} {g : rg_A} {j : Nat} (hlt : l.stackTraces = false) (C0 : rl_At p s m meth c b L xs) (hL : L ≤ 2048) (hT : rx_T (fun q => s.heap.size ≤ q) s s.heap) (hnc : gw_NC s) (hK : va_K (dC, dI) rg_cl (gw_tys cI cL cF cA) s) (hu : gw_Ru u g) (hw : rm_Ru w g) (hj : 4 * j + 4 ≤ L) (hc : cells + 17 ≤ 601024) (hs : slots + 70 ≤ 7293034) (hP : va_P (dC, dI) rg_cl ((gw_Wu ad fo fa ur cI cL cF cA u ++ rl_O ao cL ov) ++ rm_Wu h a cI cL w) H) (hD : va_D (fun q => s.heap.size ≤ q) ((gw_Wu ad fo fa ur cI cL cF cA u ++ rl_O ao cL ov) ++ rm_Wu h a cI cL w)) (hS : va_S (fun q => s.heap.size ≤ q) s.heap H locs) (hl : lv_has ls 8 [(0, .ref b), (1, .ref (ad 0)), (2, .ref h), (3, .ref ao), (4, .int (nI (4 * j)))])
    (kk : ∀ (u : gw_S) (ov : Nat → Int64) (w : rm_S) (g : rg_A) (H : Heap) (locs : List Loc) (ls : Array Slot), gw_Ru u g → rm_Ru w g → va_P (dC, dI) rg_cl ((gw_Wu ad fo fa ur cI cL cF cA u ++ rl_O ao cL ov) ++ rm_Wu h a cI cL w) H → va_D (fun q => s.heap.size ≤ q) ((gw_Wu ad fo fa ur cI cL cF cA u ++ rl_O ao cL ov) ++ rm_Wu h a cI cL w) → va_S (fun q => s.heap.size ≤ q) s.heap H locs → lv_has ls 8 [(0, .ref b), (1, .ref (ad 0)), (2, .ref h), (3, .ref ao), (4, .int (nI (4 * j)))] → W p l e room_1 s m #[Value.ref b] below meth c H locs (cells + 17) (slots + 70) Q (F0 m 1157 ls [])) : W p l e room_1 s m #[Value.ref b] below meth c H locs cells slots Q (F0 m 1004 ls []) := by
  obtain ⟨hx, hb, hml, hown, hts, hX, hbl⟩ := C0
  have hbA : ¬ s.heap.size ≤ b := Nat.not_le.mpr hbl
  have hA : ∀ q : Nat, s.heap.size ≤ q → s.heap.size ≤ q := fun q h => h
  have hKm : va_K (dC, dI) rg_cl [(cI, .int), (cL, .long)] s := hK.sub [0, 1] rfl
  refine lv_aload_n hx hb dl_1004 rfl (lv_at hl 1 rfl) ?_
  refine lv_aload_n hx hb dl_1005 rfl (lv_at hl 0 rfl) ?_
  refine lv_iload hx hb dl_1006 (lv_at hl 4 rfl) ?_
  refine lv_iconst (v := nI 1) hx hb dl_1008 (by decide) ?_
  refine rg_iadd hx hb dl_1009 ?_
  refine rl_sld hx hb hX hbl hbA hS hL (show 4 * j + 1 < L by omega) dl_1010 ?_
  refine lv_aload_n hx hb dl_1011 rfl (lv_at hl 0 rfl) ?_
  refine lv_iload hx hb dl_1012 (lv_at hl 4 rfl) ?_
  refine lv_iconst (v := nI 2) hx hb dl_1014 (by decide) ?_
  refine rg_iadd hx hb dl_1015 ?_
  refine rl_sld hx hb hX hbl hbA hS hL (show 4 * j + 2 < L by omega) dl_1016 ?_
  refine rl_bool (t1 := 1024) (t2 := 1025) hx hb dl_1017 (by decide) dl_1020 dl_1021 (by decide) dl_1024 rfl ?_
  refine lv_aload_n hx hb dl_1025 rfl (lv_at hl 3 rfl) ?_
  have hM := rw_fI (rm_Wu h a cI cL w) (cw_parent (l := l) (dC := dC) (dI := dI) (ad := ad) (fo := fo) (fa := fa) (ur := ur) (cI := cI) (cL := cL) (cF := cF) (cA := cA) (ao := ao) (ov := ov) hlt hu (xs (4 * j + 1)) (!(decide (xs (4 * j + 2) = 0)))) H.size
  refine rg_calli hD hS hA (vx_runSW (As := [.ref (ad 0), .int (xs (4 * j + 1)), .int (bif !(decide (xs (4 * j + 2) = 0)) then 1 else 0), .ref ao]) (rest := []) ⟨hx, hb, hml, hown, hts⟩ hM (vx_cwSW 4 hts (rg_gSw tw_576 tw_577 tw_0 tw_578) rfl rfl rfl (by decide +kernel) ⟨(Nat.le_of_ble_eq_true rfl), (Nat.le_of_ble_eq_true rfl)⟩) (rw_preS rfl hT hnc hS hA hK hP hD) rfl rfl hl.1 rfl (lv_room (Nat.le_of_ble_eq_true rfl)) dl_1026 ⟨hc, hs⟩) (fun k9 v9 H locs hq hP hD hS => ?_)
  obtain ⟨u1, ov1⟩ := v9
  have hP : va_P (dC, dI) rg_cl ((gw_Wu ad fo fa ur cI cL cF cA u1 ++ rl_O ao cL ov1) ++ rm_Wu h a cI cL w) H := hP
  have hD : va_D (fun q => s.heap.size ≤ q) ((gw_Wu ad fo fa ur cI cL cF cA u1 ++ rl_O ao cL ov1) ++ rm_Wu h a cI cL w) := hD
  obtain ⟨hk9, hu, ho9⟩ := hq
  refine lv_istore (lv' := [(5, .int k9), (0, .ref b), (1, .ref (ad 0)), (2, .ref h), (3, .ref ao), (4, .int (nI (4 * j)))]) hx hb dl_1029 hl (by decide) rfl (fun ls hl => ?_)
  refine lv_aload_n hx hb dl_1031 rfl (lv_at hl 3 rfl) ?_
  refine lv_aload_n hx hb dl_1032 rfl (lv_at hl 1 rfl) ?_
  refine lv_iload hx hb dl_1033 (lv_at hl 5 rfl) ?_
  refine lv_iconst (v := nI 1) hx hb dl_1035 (by decide) ?_
  refine rg_iadd hx hb dl_1036 ?_
  refine rl_sld hx hb hX hbl hbA hS hL (show 4 * j + 1 < L by omega) dl_1037 ?_
  refine lv_aload_n hx hb dl_1038 rfl (lv_at hl 1 rfl) ?_
  refine lv_iload hx hb dl_1039 (lv_at hl 5 rfl) ?_
  refine lv_iconst (v := nI 2) hx hb dl_1041 (by decide) ?_
  refine rg_iadd hx hb dl_1042 ?_
  refine rl_sld hx hb hX hbl hbA hS hL (show 4 * j + 2 < L by omega) dl_1043 ?_
  refine rl_bool (t1 := 1051) (t2 := 1052) hx hb dl_1044 (by decide) dl_1047 dl_1048 (by decide) dl_1051 rfl ?_
  have hP := rg_P_comm hP
  have hD := rg_D_comm hD
  have hP : va_P (dC, dI) rg_cl (rm_Wu h a cI cL w ++ (gw_Wu ad fo fa ur cI cL cF cA u1 ++ rl_O ao cL ov1)) H := hP
  have hD : va_D (fun q => s.heap.size ≤ q) (rm_Wu h a cI cL w ++ (gw_Wu ad fo fa ur cI cL cF cA u1 ++ rl_O ao cL ov1)) := hD
  obtain ⟨fs9, hq9⟩ := rl_qm (h := h) (a := a) (cI := cI) (cL := cL) w (gw_Wu ad fo fa ur cI cL cF cA u1 ++ rl_O ao cL ov1)
  have hM := rg_fI (gw_Wu ad fo fa ur cI cL cF cA u1 ++ rl_O ao cL ov1) (cm_parent (l := l) (dC := dC) (dI := dI) (h := h) (a := a) (cI := cI) (cL := cL) hw (xs (4 * j + 1)) (!(decide (xs (4 * j + 2) = 0)))) H.size
  refine rg_calli hD hS hA (va_runV (As := [.int (xs (4 * j + 1)), .int (bif !(decide (xs (4 * j + 2) = 0)) then 1 else 0)]) (rest := []) ⟨hx, hb, hml, hown, hts⟩ hM (cwV 2 hts (rg_gV tw_794 tw_795 tw_796 tw_5 tw_797) rfl rfl rfl (by decide +kernel) ⟨(Nat.le_of_ble_eq_true rfl), (Nat.le_of_ble_eq_true rfl)⟩) (rg_preV rfl hKm hP hD (ci := 0) (q0 := 0) rfl hq9) rfl rfl hl.1 rfl (lv_room (Nat.le_of_ble_eq_true rfl)) dl_1052 ⟨show cells + 17 + 0 ≤ 601024 by omega, show slots + 70 + 0 ≤ 7293034 by omega⟩) (fun z9 w1 H locs hr9 hP hD hS => ?_)
  have hP : va_P (dC, dI) rg_cl (rm_Wu h a cI cL w1 ++ (gw_Wu ad fo fa ur cI cL cF cA u1 ++ rl_O ao cL ov1)) H := hP
  have hD : va_D (fun q => s.heap.size ≤ q) (rm_Wu h a cI cL w1 ++ (gw_Wu ad fo fa ur cI cL cF cA u1 ++ rl_O ao cL ov1)) := hD
  obtain ⟨hw, hc9, hz9⟩ := hr9
  refine lv_istore (lv' := [(6, .int z9), (5, .int k9), (0, .ref b), (1, .ref (ad 0)), (2, .ref h), (3, .ref ao), (4, .int (nI (4 * j)))]) hx hb dl_1055 hl (by decide) rfl (fun ls hl => ?_)
  refine lv_aload_n hx hb dl_1057 rfl (lv_at hl 4 rfl) ?_
  have hP : va_P (dC, dI) rg_cl (rm_Wu h a cI cL w1 ++ (gw_Wu ad fo fa ur cI cL cF cA u1 ++ rl_O ao cL ov1)) H := hP
  have hD : va_D (fun q => s.heap.size ≤ q) (rm_Wu h a cI cL w1 ++ (gw_Wu ad fo fa ur cI cL cF cA u1 ++ rl_O ao cL ov1)) := hD
  obtain ⟨fs9, hq9⟩ := rl_qm (h := h) (a := a) (cI := cI) (cL := cL) w1 (gw_Wu ad fo fa ur cI cL cF cA u1 ++ rl_O ao cL ov1)
  have hM := rg_fI (gw_Wu ad fo fa ur cI cL cF cA u1 ++ rl_O ao cL ov1) (cm_thrown (l := l) (dC := dC) (dI := dI) (h := h) (a := a) (cI := cI) (cL := cL) (w := w1)) H.size
  refine rg_calli hD hS hA (va_runV (As := []) (rest := []) ⟨hx, hb, hml, hown, hts⟩ hM (cwV 0 hts (rg_gV tw_659 tw_660 tw_661 tw_5 tw_662) rfl rfl rfl (by decide +kernel) ⟨(Nat.le_of_ble_eq_true rfl), (Nat.le_of_ble_eq_true rfl)⟩) (rg_preV rfl hKm hP hD (ci := 0) (q0 := 0) rfl hq9) rfl rfl hl.1 rfl (lv_room (Nat.le_of_ble_eq_true rfl)) dl_1058 ⟨show cells + 17 + 0 ≤ 601024 by omega, show slots + 70 + 0 ≤ 7293034 by omega⟩) (fun t9 _ H locs hr9 hP hD hS => ?_)
  have hP : va_P (dC, dI) rg_cl (rm_Wu h a cI cL w1 ++ (gw_Wu ad fo fa ur cI cL cF cA u1 ++ rl_O ao cL ov1)) H := hP
  have hD : va_D (fun q => s.heap.size ≤ q) (rm_Wu h a cI cL w1 ++ (gw_Wu ad fo fa ur cI cL cF cA u1 ++ rl_O ao cL ov1)) := hD
  subst hr9
  refine lv_iload hx hb dl_1061 (lv_at hl 1 rfl) ?_
  refine lv_icmp_eq (tgt := 1068) hx hb dl_1063 (by decide) (fun _ => ?_) (fun h => absurd (hc9.trans hk9.symm) h)
  refine lv_iload hx hb dl_1068 (lv_at hl 1 rfl) ?_
  refine lv_if_ne (tgt := 1085) hx hb dl_1070 (by decide) (fun _ => ?_) (fun h0 => ?_)
  · refine lv_goto (tgt := 1157) hx hb dl_1085 (by decide) ?_
    have hP := rg_P_comm hP
    have hD := rg_D_comm hD
    exact kk u1 ov1 w1 _ _ _ _ hu hw hP hD hS (lv_sub hl [2, 3, 4, 5, 6] rfl)
  · have hP := rg_P_comm hP
    have hD := rg_D_comm hD
    refine lv_aload_n hx hb dl_1073 rfl (lv_at hl 5 rfl) ?_
    refine lv_iconst (v := nI 0) hx hb dl_1074 (by decide) ?_
    refine rg_lald hx hb hK hP _ 1 (rg_apl (rg_apr (k := 0) rfl)) rfl (by decide) (by decide) dl_1075 ?_
    refine lv_iload hx hb dl_1076 (lv_at hl 0 rfl) ?_
    refine lv_i2l (v := z9.toInt64) hx hb dl_1078 rfl ?_
    refine W.lcmp hx hb dl_1079 ?_
    refine lv_if_eq (tgt := 1085) hx hb dl_1080 (by decide) (fun _ => ?_) (fun h1 => absurd ((lg_cmp_eq _ _).mpr ((ho9 (hk9.symm.trans h0)).trans (congrArg Int32.toInt64 hz9.symm))) h1)
    refine lv_goto (tgt := 1157) hx hb dl_1085 (by decide) ?_
    exact kk u1 ov1 w1 _ _ _ _ hu hw hP hD hS (lv_sub hl [2, 3, 4, 5, 6] rfl)
set_option maxHeartbeats 4000000 in
set_option maxRecDepth 100000 in
theorem st_prune {p : Program} {l : Launch} {e : Env} {s : State} {m : MethodId} {below : List Frame} {meth : Method} {c : Code} {b L : Nat} {xs : Nat → Int32} {Q : State → Prop} {H : Heap} {locs : List Loc} {cells slots : Nat} {ls : Array Slot} {dC : Nat → ClassId} {dI : Nat → Nat → Nat} {ad fo fa ur : Nat → Nat} {cI cL cF cA : ClassId} {ao h : Nat} {a : Nat → Nat} {u : gw_S} {ov : Nat → Int64} {w : rm_S} {g : rg_A} {j : Nat} (hlt : l.stackTraces = false) (C0 : rl_At p s m meth c b L xs) (hL : L ≤ 2048) (hT : rx_T (fun q => s.heap.size ≤ q) s s.heap) (hnc : gw_NC s) (hK : va_K (dC, dI) rg_cl (gw_tys cI cL cF cA) s) (hu : gw_Ru u g) (hw : rm_Ru w g) (hj : 4 * j + 4 ≤ L) (hc : cells + 17 ≤ 601024) (hs : slots + 70 ≤ 7293034) (hP : va_P (dC, dI) rg_cl ((gw_Wu ad fo fa ur cI cL cF cA u ++ rl_O ao cL ov) ++ rm_Wu h a cI cL w) H) (hD : va_D (fun q => s.heap.size ≤ q) ((gw_Wu ad fo fa ur cI cL cF cA u ++ rl_O ao cL ov) ++ rm_Wu h a cI cL w)) (hS : va_S (fun q => s.heap.size ≤ q) s.heap H locs) (hl : lv_has ls 8 [(0, .ref b), (1, .ref (ad 0)), (2, .ref h), (3, .ref ao), (4, .int (nI (4 * j)))])
    (kk : ∀ (u : gw_S) (ov : Nat → Int64) (w : rm_S) (g : rg_A) (H : Heap) (locs : List Loc) (ls : Array Slot), gw_Ru u g → rm_Ru w g → va_P (dC, dI) rg_cl ((gw_Wu ad fo fa ur cI cL cF cA u ++ rl_O ao cL ov) ++ rm_Wu h a cI cL w) H → va_D (fun q => s.heap.size ≤ q) ((gw_Wu ad fo fa ur cI cL cF cA u ++ rl_O ao cL ov) ++ rm_Wu h a cI cL w) → va_S (fun q => s.heap.size ≤ q) s.heap H locs → lv_has ls 8 [(0, .ref b), (1, .ref (ad 0)), (2, .ref h), (3, .ref ao), (4, .int (nI (4 * j)))] → W p l e room_1 s m #[Value.ref b] below meth c H locs (cells + 17) (slots + 70) Q (F0 m 1157 ls [])) : W p l e room_1 s m #[Value.ref b] below meth c H locs cells slots Q (F0 m 1088 ls []) := by
  obtain ⟨hx, hb, hml, hown, hts, hX, hbl⟩ := C0
  have hbA : ¬ s.heap.size ≤ b := Nat.not_le.mpr hbl
  have hA : ∀ q : Nat, s.heap.size ≤ q → s.heap.size ≤ q := fun q h => h
  have hKm : va_K (dC, dI) rg_cl [(cI, .int), (cL, .long)] s := hK.sub [0, 1] rfl
  refine lv_aload_n hx hb dl_1088 rfl (lv_at hl 1 rfl) ?_
  have hP : va_P (dC, dI) rg_cl ((gw_Wu ad fo fa ur cI cL cF cA u ++ rl_O ao cL ov) ++ rm_Wu h a cI cL w) H := hP
  have hD : va_D (fun q => s.heap.size ≤ q) ((gw_Wu ad fo fa ur cI cL cF cA u ++ rl_O ao cL ov) ++ rm_Wu h a cI cL w) := hD
  rw [List.append_assoc] at hP hD
  obtain ⟨fs9, hq9⟩ := rl_qg (ad := ad) (fo := fo) (fa := fa) (ur := ur) (cI := cI) (cL := cL) (cF := cF) (cA := cA) u (rl_O ao cL ov ++ rm_Wu h a cI cL w)
  have hM := rg_fI (rl_O ao cL ov ++ rm_Wu h a cI cL w) (cp_prune (l := l) (dC := dC) (dI := dI) (ad := ad) (fo := fo) (fa := fa) (ur := ur) (cI := cI) (cL := cL) (cF := cF) (cA := cA) hu) H.size
  refine rg_calli hD hS hA (va_runV (As := []) (rest := []) ⟨hx, hb, hml, hown, hts⟩ hM (cwV 0 hts (rg_gV tw_103 tw_104 tw_105 tw_1 tw_106) rfl rfl rfl (by decide +kernel) ⟨(Nat.le_of_ble_eq_true rfl), (Nat.le_of_ble_eq_true rfl)⟩) (rg_preV rfl hK hP hD (ci := 1) (q0 := 0) rfl hq9) rfl rfl hl.1 rfl (lv_room (Nat.le_of_ble_eq_true rfl)) dl_1089 ⟨show cells + 0 ≤ 601024 by omega, show slots + 0 ≤ 7293034 by omega⟩) (fun k9 u1 H locs hq hP hD hS => ?_)
  rw [← List.append_assoc] at hP hD
  have hP : va_P (dC, dI) rg_cl ((gw_Wu ad fo fa ur cI cL cF cA u1 ++ rl_O ao cL ov) ++ rm_Wu h a cI cL w) H := hP
  have hD : va_D (fun q => s.heap.size ≤ q) ((gw_Wu ad fo fa ur cI cL cF cA u1 ++ rl_O ao cL ov) ++ rm_Wu h a cI cL w) := hD
  obtain ⟨hu, -, hk9⟩ := hq
  refine lv_aload_n hx hb dl_1092 rfl (lv_at hl 2 rfl) ?_
  have hP := rg_P_comm hP
  have hD := rg_D_comm hD
  have hP : va_P (dC, dI) rg_cl (rm_Wu h a cI cL w ++ (gw_Wu ad fo fa ur cI cL cF cA u1 ++ rl_O ao cL ov)) H := hP
  have hD : va_D (fun q => s.heap.size ≤ q) (rm_Wu h a cI cL w ++ (gw_Wu ad fo fa ur cI cL cF cA u1 ++ rl_O ao cL ov)) := hD
  obtain ⟨fs9, hq9⟩ := rl_qm (h := h) (a := a) (cI := cI) (cL := cL) w (gw_Wu ad fo fa ur cI cL cF cA u1 ++ rl_O ao cL ov)
  have hM := rg_fI (gw_Wu ad fo fa ur cI cL cF cA u1 ++ rl_O ao cL ov) (cm_prune (l := l) (dC := dC) (dI := dI) (h := h) (a := a) (cI := cI) (cL := cL) hw ) H.size
  refine rg_calli hD hS hA (va_runV (As := []) (rest := [.int k9]) ⟨hx, hb, hml, hown, hts⟩ hM (cwV 0 hts (rg_gV tw_798 tw_799 tw_800 tw_5 tw_801) rfl rfl rfl (by decide +kernel) ⟨(Nat.le_of_ble_eq_true rfl), (Nat.le_of_ble_eq_true rfl)⟩) (rg_preV rfl hKm hP hD (ci := 0) (q0 := 0) rfl hq9) rfl rfl hl.1 rfl (lv_room (Nat.le_of_ble_eq_true rfl)) dl_1093 ⟨show cells + 0 ≤ 601024 by omega, show slots + 0 ≤ 7293034 by omega⟩) (fun z9 w1 H locs hr9 hP hD hS => ?_)
  have hP : va_P (dC, dI) rg_cl (rm_Wu h a cI cL w1 ++ (gw_Wu ad fo fa ur cI cL cF cA u1 ++ rl_O ao cL ov)) H := hP
  have hD : va_D (fun q => s.heap.size ≤ q) (rm_Wu h a cI cL w1 ++ (gw_Wu ad fo fa ur cI cL cF cA u1 ++ rl_O ao cL ov)) := hD
  obtain ⟨hw, hc9, hz9⟩ := hr9
  refine lv_icmp_eq (tgt := 1157) hx hb dl_1096 (by decide) (fun _ => ?_) (fun h => absurd (hk9.trans hz9.symm) h)
  refine W.widen (Nat.le_add_right _ 17) (Nat.le_add_right _ 70) ?_
  have hP := rg_P_comm hP
  have hD := rg_D_comm hD
  have hP : va_P (dC, dI) rg_cl ((gw_Wu ad fo fa ur cI cL cF cA u1 ++ rl_O ao cL ov) ++ rm_Wu h a cI cL w1) H := hP
  have hD : va_D (fun q => s.heap.size ≤ q) ((gw_Wu ad fo fa ur cI cL cF cA u1 ++ rl_O ao cL ov) ++ rm_Wu h a cI cL w1) := hD
  exact kk u1 ov w1 _ _ _ _ hu hw hP hD hS (lv_sub hl [0, 1, 2, 3, 4] rfl)
set_option maxHeartbeats 4000000 in
set_option maxRecDepth 100000 in
theorem st_figure {p : Program} {l : Launch} {e : Env} {s : State} {m : MethodId} {below : List Frame} {meth : Method} {c : Code} {b L : Nat} {xs : Nat → Int32} {Q : State → Prop} {H : Heap} {locs : List Loc} {cells slots : Nat} {ls : Array Slot} {dC : Nat → ClassId} {dI : Nat → Nat → Nat} {ad fo fa ur : Nat → Nat} {cI cL cF cA : ClassId} {ao h : Nat} {a : Nat → Nat} {u : gw_S} {ov : Nat → Int64} {w : rm_S} {g : rg_A} {j : Nat} (hlt : l.stackTraces = false) (C0 : rl_At p s m meth c b L xs) (hL : L ≤ 2048) (hT : rx_T (fun q => s.heap.size ≤ q) s s.heap) (hnc : gw_NC s) (hK : va_K (dC, dI) rg_cl (gw_tys cI cL cF cA) s) (hu : gw_Ru u g) (hw : rm_Ru w g) (hj : 4 * j + 4 ≤ L) (hc : cells + 17 ≤ 601024) (hs : slots + 70 ≤ 7293034) (hP : va_P (dC, dI) rg_cl ((gw_Wu ad fo fa ur cI cL cF cA u ++ rl_O ao cL ov) ++ rm_Wu h a cI cL w) H) (hD : va_D (fun q => s.heap.size ≤ q) ((gw_Wu ad fo fa ur cI cL cF cA u ++ rl_O ao cL ov) ++ rm_Wu h a cI cL w)) (hS : va_S (fun q => s.heap.size ≤ q) s.heap H locs) (hl : lv_has ls 8 [(0, .ref b), (1, .ref (ad 0)), (2, .ref h), (3, .ref ao), (4, .int (nI (4 * j)))])
    (kk : ∀ (u : gw_S) (ov : Nat → Int64) (w : rm_S) (g : rg_A) (H : Heap) (locs : List Loc) (ls : Array Slot), gw_Ru u g → rm_Ru w g → va_P (dC, dI) rg_cl ((gw_Wu ad fo fa ur cI cL cF cA u ++ rl_O ao cL ov) ++ rm_Wu h a cI cL w) H → va_D (fun q => s.heap.size ≤ q) ((gw_Wu ad fo fa ur cI cL cF cA u ++ rl_O ao cL ov) ++ rm_Wu h a cI cL w) → va_S (fun q => s.heap.size ≤ q) s.heap H locs → lv_has ls 8 [(0, .ref b), (1, .ref (ad 0)), (2, .ref h), (3, .ref ao), (4, .int (nI (4 * j)))] → W p l e room_1 s m #[Value.ref b] below meth c H locs (cells + 17) (slots + 70) Q (F0 m 1157 ls [])) : W p l e room_1 s m #[Value.ref b] below meth c H locs cells slots Q (F0 m 1101 ls []) := by
  obtain ⟨hx, hb, hml, hown, hts, hX, hbl⟩ := C0
  have hbA : ¬ s.heap.size ≤ b := Nat.not_le.mpr hbl
  have hA : ∀ q : Nat, s.heap.size ≤ q → s.heap.size ≤ q := fun q h => h
  have hKm : va_K (dC, dI) rg_cl [(cI, .int), (cL, .long)] s := hK.sub [0, 1] rfl
  refine lv_aload_n hx hb dl_1101 rfl (lv_at hl 1 rfl) ?_
  refine lv_aload_n hx hb dl_1102 rfl (lv_at hl 0 rfl) ?_
  refine lv_iload hx hb dl_1103 (lv_at hl 4 rfl) ?_
  refine lv_iconst (v := nI 1) hx hb dl_1105 (by decide) ?_
  refine rg_iadd hx hb dl_1106 ?_
  refine rl_sld hx hb hX hbl hbA hS hL (show 4 * j + 1 < L by omega) dl_1107 ?_
  refine lv_aload_n hx hb dl_1108 rfl (lv_at hl 3 rfl) ?_
  have hM := rw_fI (rm_Wu h a cI cL w) (cw_figure (l := l) (dC := dC) (dI := dI) (ad := ad) (fo := fo) (fa := fa) (ur := ur) (cI := cI) (cL := cL) (cF := cF) (cA := cA) (ao := ao) (ov := ov) hlt hu (xs (4 * j + 1))) H.size
  refine rg_calli hD hS hA (vx_runSW (As := [.ref (ad 0), .int (xs (4 * j + 1)), .ref ao]) (rest := []) ⟨hx, hb, hml, hown, hts⟩ hM (vx_cwSW 3 hts (rg_gSw tw_587 tw_588 tw_0 tw_589) rfl rfl rfl (by decide +kernel) ⟨(Nat.le_of_ble_eq_true rfl), (Nat.le_of_ble_eq_true rfl)⟩) (rw_preS rfl hT hnc hS hA hK hP hD) rfl rfl hl.1 rfl (lv_room (Nat.le_of_ble_eq_true rfl)) dl_1109 ⟨hc, hs⟩) (fun k9 v9 H locs hq hP hD hS => ?_)
  obtain ⟨u1, ov1⟩ := v9
  have hP : va_P (dC, dI) rg_cl ((gw_Wu ad fo fa ur cI cL cF cA u1 ++ rl_O ao cL ov1) ++ rm_Wu h a cI cL w) H := hP
  have hD : va_D (fun q => s.heap.size ≤ q) ((gw_Wu ad fo fa ur cI cL cF cA u1 ++ rl_O ao cL ov1) ++ rm_Wu h a cI cL w) := hD
  obtain ⟨hk9, hu, ho9⟩ := hq
  refine lv_istore (lv' := [(5, .int k9), (0, .ref b), (1, .ref (ad 0)), (2, .ref h), (3, .ref ao), (4, .int (nI (4 * j)))]) hx hb dl_1112 hl (by decide) rfl (fun ls hl => ?_)
  refine lv_aload_n hx hb dl_1114 rfl (lv_at hl 3 rfl) ?_
  refine lv_aload_n hx hb dl_1115 rfl (lv_at hl 1 rfl) ?_
  refine lv_iload hx hb dl_1116 (lv_at hl 5 rfl) ?_
  refine lv_iconst (v := nI 1) hx hb dl_1118 (by decide) ?_
  refine rg_iadd hx hb dl_1119 ?_
  refine rl_sld hx hb hX hbl hbA hS hL (show 4 * j + 1 < L by omega) dl_1120 ?_
  have hP := rg_P_comm hP
  have hD := rg_D_comm hD
  have hP : va_P (dC, dI) rg_cl (rm_Wu h a cI cL w ++ (gw_Wu ad fo fa ur cI cL cF cA u1 ++ rl_O ao cL ov1)) H := hP
  have hD : va_D (fun q => s.heap.size ≤ q) (rm_Wu h a cI cL w ++ (gw_Wu ad fo fa ur cI cL cF cA u1 ++ rl_O ao cL ov1)) := hD
  obtain ⟨fs9, hq9⟩ := rl_qm (h := h) (a := a) (cI := cI) (cL := cL) w (gw_Wu ad fo fa ur cI cL cF cA u1 ++ rl_O ao cL ov1)
  have hM := rg_fI (gw_Wu ad fo fa ur cI cL cF cA u1 ++ rl_O ao cL ov1) (cm_figure (l := l) (dC := dC) (dI := dI) (h := h) (a := a) (cI := cI) (cL := cL) hw (xs (4 * j + 1))) H.size
  refine rg_calli hD hS hA (va_runV (As := [.int (xs (4 * j + 1))]) (rest := []) ⟨hx, hb, hml, hown, hts⟩ hM (cwV 1 hts (rg_gV tw_805 tw_806 tw_807 tw_5 tw_808) rfl rfl rfl (by decide +kernel) ⟨(Nat.le_of_ble_eq_true rfl), (Nat.le_of_ble_eq_true rfl)⟩) (rg_preV rfl hKm hP hD (ci := 0) (q0 := 0) rfl hq9) rfl rfl hl.1 rfl (lv_room (Nat.le_of_ble_eq_true rfl)) dl_1121 ⟨show cells + 17 + 0 ≤ 601024 by omega, show slots + 70 + 0 ≤ 7293034 by omega⟩) (fun z9 w1 H locs hr9 hP hD hS => ?_)
  have hP : va_P (dC, dI) rg_cl (rm_Wu h a cI cL w1 ++ (gw_Wu ad fo fa ur cI cL cF cA u1 ++ rl_O ao cL ov1)) H := hP
  have hD : va_D (fun q => s.heap.size ≤ q) (rm_Wu h a cI cL w1 ++ (gw_Wu ad fo fa ur cI cL cF cA u1 ++ rl_O ao cL ov1)) := hD
  obtain ⟨hw, hc9, hz9⟩ := hr9
  refine lv_istore (lv' := [(6, .int z9), (5, .int k9), (0, .ref b), (1, .ref (ad 0)), (2, .ref h), (3, .ref ao), (4, .int (nI (4 * j)))]) hx hb dl_1124 hl (by decide) rfl (fun ls hl => ?_)
  refine lv_aload_n hx hb dl_1126 rfl (lv_at hl 4 rfl) ?_
  have hP : va_P (dC, dI) rg_cl (rm_Wu h a cI cL w1 ++ (gw_Wu ad fo fa ur cI cL cF cA u1 ++ rl_O ao cL ov1)) H := hP
  have hD : va_D (fun q => s.heap.size ≤ q) (rm_Wu h a cI cL w1 ++ (gw_Wu ad fo fa ur cI cL cF cA u1 ++ rl_O ao cL ov1)) := hD
  obtain ⟨fs9, hq9⟩ := rl_qm (h := h) (a := a) (cI := cI) (cL := cL) w1 (gw_Wu ad fo fa ur cI cL cF cA u1 ++ rl_O ao cL ov1)
  have hM := rg_fI (gw_Wu ad fo fa ur cI cL cF cA u1 ++ rl_O ao cL ov1) (cm_thrown (l := l) (dC := dC) (dI := dI) (h := h) (a := a) (cI := cI) (cL := cL) (w := w1)) H.size
  refine rg_calli hD hS hA (va_runV (As := []) (rest := []) ⟨hx, hb, hml, hown, hts⟩ hM (cwV 0 hts (rg_gV tw_659 tw_660 tw_661 tw_5 tw_662) rfl rfl rfl (by decide +kernel) ⟨(Nat.le_of_ble_eq_true rfl), (Nat.le_of_ble_eq_true rfl)⟩) (rg_preV rfl hKm hP hD (ci := 0) (q0 := 0) rfl hq9) rfl rfl hl.1 rfl (lv_room (Nat.le_of_ble_eq_true rfl)) dl_1127 ⟨show cells + 17 + 0 ≤ 601024 by omega, show slots + 70 + 0 ≤ 7293034 by omega⟩) (fun t9 _ H locs hr9 hP hD hS => ?_)
  have hP : va_P (dC, dI) rg_cl (rm_Wu h a cI cL w1 ++ (gw_Wu ad fo fa ur cI cL cF cA u1 ++ rl_O ao cL ov1)) H := hP
  have hD : va_D (fun q => s.heap.size ≤ q) (rm_Wu h a cI cL w1 ++ (gw_Wu ad fo fa ur cI cL cF cA u1 ++ rl_O ao cL ov1)) := hD
  subst hr9
  refine lv_iload hx hb dl_1130 (lv_at hl 1 rfl) ?_
  refine lv_icmp_eq (tgt := 1137) hx hb dl_1132 (by decide) (fun _ => ?_) (fun h => absurd (hc9.trans hk9.symm) h)
  refine lv_iload hx hb dl_1137 (lv_at hl 1 rfl) ?_
  refine lv_if_ne (tgt := 1154) hx hb dl_1139 (by decide) (fun _ => ?_) (fun h0 => ?_)
  · refine lv_goto (tgt := 1157) hx hb dl_1154 (by decide) ?_
    have hP := rg_P_comm hP
    have hD := rg_D_comm hD
    exact kk u1 ov1 w1 _ _ _ _ hu hw hP hD hS (lv_sub hl [2, 3, 4, 5, 6] rfl)
  · have hP := rg_P_comm hP
    have hD := rg_D_comm hD
    refine lv_aload_n hx hb dl_1142 rfl (lv_at hl 5 rfl) ?_
    refine lv_iconst (v := nI 0) hx hb dl_1143 (by decide) ?_
    refine rg_lald hx hb hK hP _ 1 (rg_apl (rg_apr (k := 0) rfl)) rfl (by decide) (by decide) dl_1144 ?_
    refine lv_iload hx hb dl_1145 (lv_at hl 0 rfl) ?_
    refine lv_i2l (v := z9.toInt64) hx hb dl_1147 rfl ?_
    refine W.lcmp hx hb dl_1148 ?_
    refine lv_if_eq (tgt := 1154) hx hb dl_1149 (by decide) (fun _ => ?_) (fun h1 => absurd ((lg_cmp_eq _ _).mpr ((ho9 (hk9.symm.trans h0)).trans (congrArg Int32.toInt64 hz9.symm))) h1)
    refine lv_goto (tgt := 1157) hx hb dl_1154 (by decide) ?_
    exact kk u1 ov1 w1 _ _ _ _ hu hw hP hD hS (lv_sub hl [2, 3, 4, 5, 6] rfl)
