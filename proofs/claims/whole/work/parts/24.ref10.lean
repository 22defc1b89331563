set_option maxHeartbeats 4000000 in
set_option maxRecDepth 100000 in
theorem c_rm_prune {l : Launch} {dC : Nat → ClassId} {dI : Nat → Nat → Nat} {h : Nat} {a : Nat → Nat} {cI cL : ClassId} {cod : Int32} {cof : Int32} {mad : Int32} {nu : Nat → Int32} {co : Nat → Int64} {se : Nat → Int32} {li : Nat → Int32} {le : Nat → Int32} {fi : Nat → Int32} {sc : Nat → Int32} {ti : Nat → Int32} {un : Nat → Int32} {ma : Nat → Int32} {dr : Nat → Int32} {fr : Nat → Int32} {to : Nat → Int32} {en : Nat → Int32} (n b : Nat) (Rr : Nat → rg_R) (P1 P2 : Nat → Int32) (T : Nat → Nat) (U : Nat → List Nat)  (hrep : rm_Rep (nI n) (nI b) cof nu co se li le fi sc ti un ma (n, Rr, P1, P2, T, U, b, cof)) : rg_M l yM_prune (Cond.code yM_prune prog_8_method_38_code 6 (some .int) :: rg_tbl) { frames := 1, cells := 0, slots := 0, locals := 25 } (dC, dI) rg_cl [(cI, .int), (cL, .long)] (rm_W h a cI cL cod (nI n) (nI b) cof mad nu co se li le fi sc ti un ma dr fr to en) [.ref h] (rg_QI (dC, dI) rg_cl [(cI, .int), (cL, .long)] (S := rm_S) (rm_Po (rg_oPrune (n, Rr, P1, P2, T, U, b, cof))) (fun u => rm_Wu h a cI cL u)) 0 0 := by
  refine rg_of prog_8_method_38_code 6 (some .int) (by decide) rfl (Nat.le_of_ble_eq_true rfl) ?_
  intro p e R s m args below meth c Q A H locs ls hR hQ hx hb hml hr hts hown hlk hnm hP hK hD hA hS hl
  have hl : lv_has ls 6 [(0, .ref h)] := hl
  have hts : ∀ w ∈ rg_tbl, w.before args s = true := fun w h => hts w (List.mem_cons_of_mem _ h)
  have hok := hrep.1
  have hn1 : 1 ≤ n := hok.1
  have hn60 : n ≤ 60 := hok.2.1
  have hb4 : b < 4 := hok.2.2.2.2.2.2.2.1
  have hTb : T b < n := (hok.2.2.2.2.2.2.1 b hb4).1
  have hti : ti b = nI (T b) := (hrep.2.2.2.2.2.2 b hb4).1
  have hma : ma b = nI (U b).length := (hrep.2.2.2.2.2.2 b hb4).2.1
  have hul := rm_ulen hrep
  have hpr : rg_Pr n fi sc := rm_Pr hrep
  have hpr0 : rg_Pr n P1 P2 := rg_Ok_Pr hok
  refine lv_aload_n hx hb dM_prune_0 rfl (lv_at hl 0 rfl) ?_
  refine lv_iconst (v := nI 0) hx hb dM_prune_1 (by decide) ?_
  refine va_put (D := (dC, dI)) (ci := 0) (v := .int (nI 0)) (ty := .int) (C := "RevisionGroveModel") (T := TM) (N := 19) hx hb hts inM tyM tyM_ok nmM hown hK hP hD hS 0 rfl rfl 0 (by decide) (hts _ tw_601) (fun _ h9 => h9) rfl (by decide +kernel) rfl rfl (Nat.le_of_ble_eq_true rfl) dM_prune_2 (fun H locs hP hD hS => ?_)
  have hP : va_P (dC, dI) rg_cl (rm_W h a cI cL (nI 0) (nI n) (nI b) cof mad nu co se li le fi sc ti un ma dr fr to en) H := hP
  have hD : va_D A (rm_W h a cI cL (nI 0) (nI n) (nI b) cof mad nu co se li le fi sc ti un ma dr fr to en) := hD
  refine lv_lconst (v := 0) hx hb dM_prune_5 (by decide) ?_
  refine lv_lstore_n (lv' := [(1, .long (0 : Int64)), (0, .ref h)]) hx hb dM_prune_6 rfl hl (by decide) rfl (fun ls hl => ?_)
  refine lv_iconst (v := nI 0) hx hb dM_prune_7 (by decide) ?_
  refine lv_istore_n (lv' := [(3, .int (nI 0)), (1, .long (0 : Int64)), (0, .ref h)]) hx hb dM_prune_8 rfl hl (by decide) rfl (fun ls hl => ?_)
  have lp9 : ∀ (fuel : Nat) (bb : Nat) (o : Int64) (H : Heap) (locs : List Loc) (ls : Array Slot), 4 - bb < fuel → bb ≤ 4 → (∀ j, rg_has o j = true ↔ ∃ c9, c9 < bb ∧ (j = T c9 ∨ j ∈ U c9)) → va_P (dC, dI) rg_cl (rm_W h a cI cL (nI 0) (nI n) (nI b) cof mad nu co se li le fi sc ti un ma dr fr to en) H → va_D A (rm_W h a cI cL (nI 0) (nI n) (nI b) cof mad nu co se li le fi sc ti un ma dr fr to en) → va_S A s.heap H locs → lv_has ls 6 [(0, .ref h), (1, .long o), (3, .int (nI bb))] → W p l e R s m args below meth c H locs 0 0 Q (F0 m 9 ls []) := by
    intro fuel
    induction fuel with
    | zero => intro bb o H locs ls hf; exact absurd hf (Nat.not_lt_zero _)
    | succ fuel ih9 =>
      intro bb o H locs ls hfu9 hb9 ho1 hP hD hS hl
      refine lv_iload_n hx hb dM_prune_9 rfl (lv_at hl 2 rfl) ?_
      refine lv_iconst (v := nI 4) hx hb dM_prune_10 (by decide) ?_
      refine rg_icmp_ge (tgt := 68) hx hb dM_prune_11 (by decide) (by omega) (by omega) (fun h1 => ?_) (fun h1 => ?_)
      · obtain rfl : bb = 4 := by omega
        have ho9 : ∀ j, rg_has o j = true → j < n := fun j hj => by obtain ⟨c9, h8, h9 | h9⟩ := (ho1 j).mp hj; rw [h9]; exact (hok.2.2.2.2.2.2.1 c9 h8).1; exact (hok.2.2.2.2.2.2.1 c9 h8).2.1 j h9
        refine lv_aload_n hx hb dM_prune_68 rfl (lv_at hl 0 rfl) ?_
        refine lv_lload_n hx hb dM_prune_69 rfl (lv_at hl 1 rfl) ?_
        refine rg_calll hD hS hA (va_runV (As := [.long o]) (rest := []) ⟨hx, hb, hml, hown, hts⟩ (c_rm_ancestors n o hn60 hpr ho9 _) (cwV 1 hts (rg_gV tw_742 tw_744 ts_M_ancestors tw_5 tw_745) rfl rfl rfl (by decide +kernel) ⟨by rw [hR]; exact Nat.le_of_ble_eq_true rfl, by rw [hR]; exact Nat.le_of_ble_eq_true rfl⟩) (rg_preV rfl hK hP hD (ci := 0) (q0 := 0) rfl rfl) rfl rfl hl.1 rfl (lv_room (Nat.le_of_ble_eq_true rfl)) dM_prune_70 ⟨Nat.zero_le _, Nat.zero_le _⟩) (fun r2 u3 H locs hw4 hP hD hS => ?_)
        have hP : va_P (dC, dI) rg_cl (rm_W h a cI cL (nI 0) (nI n) (nI b) cof mad nu co se li le fi sc ti un ma dr fr to en) H := hP
        have hD : va_D A (rm_W h a cI cL (nI 0) (nI n) (nI b) cof mad nu co se li le fi sc ti un ma dr fr to en) := hD
        obtain ⟨z, rfl⟩ : ∃ z, z = r2 := ⟨_, rfl⟩
        obtain ⟨K, hKe⟩ : ∃ K, K = rg_kp (n, Rr, P1, P2, T, U, b, cof) := ⟨_, rfl⟩
        have hKz : rg_has z = K := (rm_kp hrep ho1 hw4).trans hKe.symm
        refine lv_lstore_n (lv' := [(1, .long z), (0, .ref h), (3, .int (nI 4))]) hx hb dM_prune_73 rfl hl (by decide) rfl (fun ls hl => ?_)
        refine lv_iconst (v := nI 0) hx hb dM_prune_74 (by decide) ?_
        refine lv_istore_n (lv' := [(3, .int (nI 0)), (1, .long z), (0, .ref h)]) hx hb dM_prune_75 rfl hl (by decide) rfl (fun ls hl => ?_)
        refine lv_iconst (v := nI 0) hx hb dM_prune_76 (by decide) ?_
        refine lv_istore (lv' := [(4, .int (nI 0)), (3, .int (nI 0)), (1, .long z), (0, .ref h)]) hx hb dM_prune_77 hl (by decide) rfl (fun ls hl => ?_)
        have lp79 : ∀ (fuel : Nat) (r : Nat) (nu1 : Nat → Int32) (co1 : Nat → Int64) (se1 : Nat → Int32) (li1 : Nat → Int32) (le1 : Nat → Int32) (fi1 : Nat → Int32) (sc1 : Nat → Int32) (H : Heap) (locs : List Loc) (ls : Array Slot), n - r < fuel → r ≤ n → rm_PI (n, Rr, P1, P2, T, U, b, cof) K r nu1 co1 se1 li1 le1 fi1 sc1 → va_P (dC, dI) rg_cl (rm_W h a cI cL (nI 0) (nI n) (nI b) cof mad nu1 co1 se1 li1 le1 fi1 sc1 ti un ma dr fr to en) H → va_D A (rm_W h a cI cL (nI 0) (nI n) (nI b) cof mad nu1 co1 se1 li1 le1 fi1 sc1 ti un ma dr fr to en) → va_S A s.heap H locs → lv_has ls 6 [(0, .ref h), (1, .long z), (3, .int (nI (rg_rk K r))), (4, .int (nI r))] → W p l e R s m args below meth c H locs 0 0 Q (F0 m 79 ls []) := by
          intro fuel
          induction fuel with
          | zero => intro r nu1 co1 se1 li1 le1 fi1 sc1 H locs ls hf; exact absurd hf (Nat.not_lt_zero _)
          | succ fuel ih79 =>
            intro r nu1 co1 se1 li1 le1 fi1 sc1 H locs ls hfu79 hrn9 hPI hP hD hS hl
            refine lv_iload hx hb dM_prune_79 (lv_at hl 3 rfl) ?_
            refine lv_aload_n hx hb dM_prune_81 rfl (lv_at hl 0 rfl) ?_
            refine va_get (D := (dC, dI)) (ci := 0) (C := "RevisionGroveModel") (T := TM) (N := 19) hx hb hts inM hown hK hP 0 rfl rfl 1 (by decide) (hts _ tw_602) (fun _ h9 => h9) rfl dM_prune_82 ?_
            refine rg_icmp_ge (tgt := 173) hx hb dM_prune_85 (by decide) (by omega) (by omega) (fun h5 => ?_) (fun h5 => ?_)
            · have hrn : r = n := by omega
              rw [hrn] at hl hPI
              refine lv_iconst (v := nI 0) hx hb dM_prune_173 (by decide) ?_
              refine lv_istore (lv' := [(4, .int (nI 0)), (0, .ref h), (1, .long z), (3, .int (nI (rg_rk K n)))]) hx hb dM_prune_174 hl (by decide) rfl (fun ls hl => ?_)
              have lp176 : ∀ (fuel : Nat) (bb : Nat) (ti2 : Nat → Int32) (un2 : Nat → Int32) (H : Heap) (locs : List Loc) (ls : Array Slot), 4 - bb < fuel → bb ≤ 4 → rm_RT T K bb ti2 → rm_RU U K bb 0 un2 → va_P (dC, dI) rg_cl (rm_W h a cI cL (nI 0) (nI n) (nI b) cof mad nu1 co1 se1 li1 le1 fi1 sc1 ti2 un2 ma dr fr to en) H → va_D A (rm_W h a cI cL (nI 0) (nI n) (nI b) cof mad nu1 co1 se1 li1 le1 fi1 sc1 ti2 un2 ma dr fr to en) → va_S A s.heap H locs → lv_has ls 6 [(0, .ref h), (1, .long z), (3, .int (nI (rg_rk K n))), (4, .int (nI bb))] → W p l e R s m args below meth c H locs 0 0 Q (F0 m 176 ls []) := by
                intro fuel
                induction fuel with
                | zero => intro bb ti2 un2 H locs ls hf; exact absurd hf (Nat.not_lt_zero _)
                | succ fuel ih176 =>
                  intro bb ti2 un2 H locs ls hfu176 hb9 hRT hRU hP hD hS hl
                  refine lv_iload hx hb dM_prune_176 (lv_at hl 3 rfl) ?_
                  refine lv_iconst (v := nI 4) hx hb dM_prune_178 (by decide) ?_
                  refine rg_icmp_ge (tgt := 257) hx hb dM_prune_179 (by decide) (by omega) (by omega) (fun h6 => ?_) (fun h6 => ?_)
                  · obtain rfl : bb = 4 := by omega
                    have hrk9 := rg_rk_le K n
                    refine lv_aload_n hx hb dM_prune_257 rfl (lv_at hl 0 rfl) ?_
                    refine va_get (D := (dC, dI)) (ci := 0) (C := "RevisionGroveModel") (T := TM) (N := 19) hx hb hts inM hown hK hP 0 rfl rfl 1 (by decide) (hts _ tw_602) (fun _ h9 => h9) rfl dM_prune_258 ?_
                    refine lv_iload_n hx hb dM_prune_261 rfl (lv_at hl 2 rfl) ?_
                    refine rg_isub hx hb dM_prune_262 (by omega) ?_
                    refine lv_istore (lv' := [(4, .int (nI (n - rg_rk K n))), (0, .ref h), (1, .long z), (3, .int (nI (rg_rk K n)))]) hx hb dM_prune_263 hl (by decide) rfl (fun ls hl => ?_)
                    refine lv_aload_n hx hb dM_prune_265 rfl (lv_at hl 1 rfl) ?_
                    refine lv_iload_n hx hb dM_prune_266 rfl (lv_at hl 3 rfl) ?_
                    refine va_put (D := (dC, dI)) (ci := 0) (v := .int (nI (rg_rk K n))) (ty := .int) (C := "RevisionGroveModel") (T := TM) (N := 19) hx hb hts inM tyM tyM_ok nmM hown hK hP hD hS 0 rfl rfl 1 (by decide) (hts _ tw_602) (fun _ h9 => h9) rfl (by decide +kernel) rfl rfl (Nat.le_of_ble_eq_true rfl) dM_prune_267 (fun H locs hP hD hS => ?_)
                    have hP : va_P (dC, dI) rg_cl (rm_W h a cI cL (nI 0) (nI (rg_rk K n)) (nI b) cof mad nu1 co1 se1 li1 le1 fi1 sc1 ti2 un2 ma dr fr to en) H := hP
                    have hD : va_D A (rm_W h a cI cL (nI 0) (nI (rg_rk K n)) (nI b) cof mad nu1 co1 se1 li1 le1 fi1 sc1 ti2 un2 ma dr fr to en) := hD
                    refine lv_iload hx hb dM_prune_270 (lv_at hl 0 rfl) ?_
                    rw [hQ]
                    exact rg_iret hx hb hr hlk hK hP hD hS dM_prune_272 (nI 0, nI (rg_rk K n), nI b, cof, mad, nu1, co1, se1, li1, le1, fi1, sc1, ti2, un2, ma, dr, fr, to, en) rfl (⟨rm_Rep_pruneK (g := (n, Rr, P1, P2, T, U, b, cof)) hKe hrep hPI hRT hRU, rfl, by rw [hKe]; rfl⟩)
                  · have hT9 : ti2 bb = nI (T bb) := by rw [hRT bb (by omega), if_neg (Nat.lt_irrefl bb)]
                    have hTbb : T bb < n := (hok.2.2.2.2.2.2.1 bb (by omega)).1
                    have hlbb : (U bb).length < 60 := hul bb (by omega)
                    have hmbb : ma bb = nI (U bb).length := (hrep.2.2.2.2.2.2 bb (by omega)).2.1
                    refine lv_aload_n hx hb dM_prune_182 rfl (lv_at hl 0 rfl) ?_
                    refine va_get (D := (dC, dI)) (ci := 0) (C := "RevisionGroveModel") (T := TM) (N := 19) hx hb hts inM hown hK hP 0 rfl rfl 10 (by decide) (hts _ tw_611) (fun _ h9 => h9) rfl dM_prune_183 ?_
                    refine lv_iload hx hb dM_prune_186 (lv_at hl 3 rfl) ?_
                    refine lv_lload_n hx hb dM_prune_188 rfl (lv_at hl 1 rfl) ?_
                    refine lv_aload_n hx hb dM_prune_189 rfl (lv_at hl 0 rfl) ?_
                    refine va_get (D := (dC, dI)) (ci := 0) (C := "RevisionGroveModel") (T := TM) (N := 19) hx hb hts inM hown hK hP 0 rfl rfl 10 (by decide) (hts _ tw_611) (fun _ h9 => h9) rfl dM_prune_190 ?_
                    refine lv_iload hx hb dM_prune_193 (lv_at hl 3 rfl) ?_
                    refine rg_iald hx hb hK hP 8 0 rfl rfl (by decide) (by omega) dM_prune_195 ?_
                    refine rg_top (show (.int (ti2 bb) : Value) = .int (nI (T bb)) by rw [hT9]) ?_
                    refine rg_calli hD hS hA (va_runS (As := [.long z, .int (nI (T bb))]) (rest := [.int (nI bb), .ref ((a 8))]) ⟨hx, hb, hml, hown, hts⟩ (c_rm_rank z (T bb) (by omega) _) (cwS 2 hts (rg_gS tw_802 tw_803 tw_5 tw_804) rfl rfl rfl (by decide +kernel) ⟨by rw [hR]; exact Nat.le_of_ble_eq_true rfl, by rw [hR]; exact Nat.le_of_ble_eq_true rfl⟩) (rg_preS rfl hK hP hD) rfl rfl hl.1 rfl (lv_room (Nat.le_of_ble_eq_true rfl)) dM_prune_196 ⟨Nat.zero_le _, Nat.zero_le _⟩) (fun r7 u8 H locs hw9 hP hD hS => ?_)
                    subst hw9
                    have hP : va_P (dC, dI) rg_cl (rm_W h a cI cL (nI 0) (nI n) (nI b) cof mad nu1 co1 se1 li1 le1 fi1 sc1 ti2 un2 ma dr fr to en) H := hP
                    have hD : va_D A (rm_W h a cI cL (nI 0) (nI n) (nI b) cof mad nu1 co1 se1 li1 le1 fi1 sc1 ti2 un2 ma dr fr to en) := hD
                    refine rg_top (show (.int (nI (rg_rk (rg_has z) (T bb))) : Value) = .int (nI (rg_rk K (T bb))) by rw [hKz]) ?_
                    refine rg_iast hx hb hK hP hD hS 8 0 rfl rfl (by decide) (by omega) dM_prune_199 (fun H locs hP hD hS => ?_)
                    have hP : va_P (dC, dI) rg_cl (rm_W h a cI cL (nI 0) (nI n) (nI b) cof mad nu1 co1 se1 li1 le1 fi1 sc1 (upd ti2 bb (nI (rg_rk K (T bb)))) un2 ma dr fr to en) H := hP
                    have hD : va_D A (rm_W h a cI cL (nI 0) (nI n) (nI b) cof mad nu1 co1 se1 li1 le1 fi1 sc1 (upd ti2 bb (nI (rg_rk K (T bb)))) un2 ma dr fr to en) := hD
                    refine lv_iconst (v := nI 0) hx hb dM_prune_200 (by decide) ?_
                    refine lv_istore (lv' := [(5, .int (nI 0)), (0, .ref h), (1, .long z), (3, .int (nI (rg_rk K n))), (4, .int (nI bb))]) hx hb dM_prune_201 hl (by decide) rfl (fun ls hl => ?_)
                    have lp203 : ∀ (fuel : Nat) (k : Nat) (un3 : Nat → Int32) (H : Heap) (locs : List Loc) (ls : Array Slot), (U bb).length - k < fuel → k ≤ (U bb).length → rm_RU U K bb k un3 → va_P (dC, dI) rg_cl (rm_W h a cI cL (nI 0) (nI n) (nI b) cof mad nu1 co1 se1 li1 le1 fi1 sc1 (upd ti2 bb (nI (rg_rk K (T bb)))) un3 ma dr fr to en) H → va_D A (rm_W h a cI cL (nI 0) (nI n) (nI b) cof mad nu1 co1 se1 li1 le1 fi1 sc1 (upd ti2 bb (nI (rg_rk K (T bb)))) un3 ma dr fr to en) → va_S A s.heap H locs → lv_has ls 6 [(0, .ref h), (1, .long z), (3, .int (nI (rg_rk K n))), (4, .int (nI bb)), (5, .int (nI k))] → W p l e R s m args below meth c H locs 0 0 Q (F0 m 203 ls []) := by
                      intro fuel
                      induction fuel with
                      | zero => intro k un3 H locs ls hf; exact absurd hf (Nat.not_lt_zero _)
                      | succ fuel ih203 =>
                        intro k un3 H locs ls hfu203 hk9 hRU2 hP hD hS hl
                        refine lv_iload hx hb dM_prune_203 (lv_at hl 4 rfl) ?_
                        refine lv_aload_n hx hb dM_prune_205 rfl (lv_at hl 0 rfl) ?_
                        refine va_get (D := (dC, dI)) (ci := 0) (C := "RevisionGroveModel") (T := TM) (N := 19) hx hb hts inM hown hK hP 0 rfl rfl 12 (by decide) (hts _ tw_613) (fun _ h9 => h9) rfl dM_prune_206 ?_
                        refine lv_iload hx hb dM_prune_209 (lv_at hl 3 rfl) ?_
                        refine rg_iald hx hb hK hP 10 0 rfl rfl (by decide) (by omega) dM_prune_211 ?_
                        refine rg_top (show (.int (ma bb) : Value) = .int (nI ((U bb).length)) by rw [hmbb]) ?_
                        refine rg_icmp_ge (tgt := 251) hx hb dM_prune_212 (by decide) (by omega) (by omega) (fun h10 => ?_) (fun h10 => ?_)
                        · refine lv_iinc (k := 3) (v := nI (bb + 1)) (lv' := [(4, .int (nI (bb + 1))), (0, .ref h), (1, .long z), (3, .int (nI (rg_rk K n))), (5, .int (nI k))]) hx hb dM_prune_251 hl rfl (nI_1 _) (by decide) rfl (fun ls hl => ?_)
                          refine lv_goto (tgt := 176) hx hb dM_prune_254 (by decide) ?_
                          exact ih176 (bb + 1) (upd ti2 bb (nI (rg_rk K (T bb)))) un3 _ _ _ (by omega) (by omega) (rm_RT_s hRT) (rm_RU_n hRU2 (by omega)) hP hD hS (lv_sub hl [1, 2, 3, 0] rfl)
                        · have hub : un3 (60 * bb + k) = nI ((U bb).getD k 0) := by rw [hRU2 bb k (by omega) (by omega), if_neg (by omega)]
                          have hgn : (U bb).getD k 0 < n := (hok.2.2.2.2.2.2.1 bb (by omega)).2.1 _ (rg_getD_mem (by omega))
                          refine lv_aload_n hx hb dM_prune_215 rfl (lv_at hl 0 rfl) ?_
                          refine va_get (D := (dC, dI)) (ci := 0) (C := "RevisionGroveModel") (T := TM) (N := 19) hx hb hts inM hown hK hP 0 rfl rfl 11 (by decide) (hts _ tw_612) (fun _ h9 => h9) rfl dM_prune_216 ?_
                          refine lv_bipush (v := nI 60) hx hb dM_prune_219 (by decide) ?_
                          refine lv_iload hx hb dM_prune_221 (lv_at hl 3 rfl) ?_
                          refine rg_imul hx hb dM_prune_223 ?_
                          refine lv_iload hx hb dM_prune_224 (lv_at hl 4 rfl) ?_
                          refine rg_iadd hx hb dM_prune_226 ?_
                          refine lv_lload_n hx hb dM_prune_227 rfl (lv_at hl 1 rfl) ?_
                          refine lv_aload_n hx hb dM_prune_228 rfl (lv_at hl 0 rfl) ?_
                          refine va_get (D := (dC, dI)) (ci := 0) (C := "RevisionGroveModel") (T := TM) (N := 19) hx hb hts inM hown hK hP 0 rfl rfl 11 (by decide) (hts _ tw_612) (fun _ h9 => h9) rfl dM_prune_229 ?_
                          refine lv_bipush (v := nI 60) hx hb dM_prune_232 (by decide) ?_
                          refine lv_iload hx hb dM_prune_234 (lv_at hl 3 rfl) ?_
                          refine rg_imul hx hb dM_prune_236 ?_
                          refine lv_iload hx hb dM_prune_237 (lv_at hl 4 rfl) ?_
                          refine rg_iadd hx hb dM_prune_239 ?_
                          refine rg_iald hx hb hK hP 9 0 rfl rfl (by decide) (by omega) dM_prune_240 ?_
                          refine rg_top (show (.int (un3 (60 * bb + k)) : Value) = .int (nI ((U bb).getD k 0)) by rw [hub]) ?_
                          refine rg_calli hD hS hA (va_runS (As := [.long z, .int (nI ((U bb).getD k 0))]) (rest := [.int (nI (60 * bb + k)), .ref ((a 9))]) ⟨hx, hb, hml, hown, hts⟩ (c_rm_rank z ((U bb).getD k 0) (by omega) _) (cwS 2 hts (rg_gS tw_802 tw_803 tw_5 tw_804) rfl rfl rfl (by decide +kernel) ⟨by rw [hR]; exact Nat.le_of_ble_eq_true rfl, by rw [hR]; exact Nat.le_of_ble_eq_true rfl⟩) (rg_preS rfl hK hP hD) rfl rfl hl.1 rfl (lv_room (Nat.le_of_ble_eq_true rfl)) dM_prune_241 ⟨Nat.zero_le _, Nat.zero_le _⟩) (fun r11 u12 H locs hw13 hP hD hS => ?_)
                          subst hw13
                          have hP : va_P (dC, dI) rg_cl (rm_W h a cI cL (nI 0) (nI n) (nI b) cof mad nu1 co1 se1 li1 le1 fi1 sc1 (upd ti2 bb (nI (rg_rk K (T bb)))) un3 ma dr fr to en) H := hP
                          have hD : va_D A (rm_W h a cI cL (nI 0) (nI n) (nI b) cof mad nu1 co1 se1 li1 le1 fi1 sc1 (upd ti2 bb (nI (rg_rk K (T bb)))) un3 ma dr fr to en) := hD
                          refine rg_top (show (.int (nI (rg_rk (rg_has z) ((U bb).getD k 0))) : Value) = .int (nI (rg_rk K ((U bb).getD k 0))) by rw [hKz]) ?_
                          refine rg_iast hx hb hK hP hD hS 9 0 rfl rfl (by decide) (by omega) dM_prune_244 (fun H locs hP hD hS => ?_)
                          have hP : va_P (dC, dI) rg_cl (rm_W h a cI cL (nI 0) (nI n) (nI b) cof mad nu1 co1 se1 li1 le1 fi1 sc1 (upd ti2 bb (nI (rg_rk K (T bb)))) (upd un3 (60 * bb + k) (nI (rg_rk K ((U bb).getD k 0)))) ma dr fr to en) H := hP
                          have hD : va_D A (rm_W h a cI cL (nI 0) (nI n) (nI b) cof mad nu1 co1 se1 li1 le1 fi1 sc1 (upd ti2 bb (nI (rg_rk K (T bb)))) (upd un3 (60 * bb + k) (nI (rg_rk K ((U bb).getD k 0)))) ma dr fr to en) := hD
                          refine lv_iinc (k := 4) (v := nI (k + 1)) (lv' := [(5, .int (nI (k + 1))), (0, .ref h), (1, .long z), (3, .int (nI (rg_rk K n))), (4, .int (nI bb))]) hx hb dM_prune_245 hl rfl (nI_1 _) (by decide) rfl (fun ls hl => ?_)
                          refine lv_goto (tgt := 203) hx hb dM_prune_248 (by decide) ?_
                          exact ih203 (k + 1) (upd un3 (60 * bb + k) (nI (rg_rk K ((U bb).getD k 0)))) _ _ _ (by omega) (by omega) (rm_RU_s hRU2 (by omega) (by omega) hul) hP hD hS (lv_sub hl [1, 2, 3, 4, 0] rfl)
                    exact lp203 _ 0 un2 _ _ _ (Nat.lt_succ_self _) (Nat.zero_le _) hRU hP hD hS (lv_sub hl [1, 2, 3, 4, 0] rfl)
              exact lp176 _ 0 ti un _ _ _ (Nat.lt_succ_self _) (by omega) (fun c9 h9 => by rw [if_neg (Nat.not_lt_zero c9)]; exact (hrep.2.2.2.2.2.2 c9 h9).1) (fun c9 i9 h9 h8 => by rw [if_neg (by omega)]; exact (hrep.2.2.2.2.2.2 c9 h9).2.2 i9 h8) hP hD hS (lv_sub hl [1, 2, 3, 0] rfl)
            · refine lv_lload_n hx hb dM_prune_88 rfl (lv_at hl 1 rfl) ?_
              refine lv_iload hx hb dM_prune_89 (lv_at hl 3 rfl) ?_
              refine lv_lshr (v := z >>> ((nI r).toInt64 &&& 63)) hx hb dM_prune_91 rfl ?_
              refine lv_lconst (v := 1) hx hb dM_prune_92 (by decide) ?_
              refine lv_land hx hb dM_prune_93 ?_
              refine rg_top (show (.long ((z >>> ((nI r).toInt64 &&& 63)) &&& (1 : Int64)) : Value) = .long (bif rg_has z r then 1 else 0) by rw [rg_bit_s z (by omega)]) ?_
              refine lv_lconst (v := 1) hx hb dM_prune_94 (by decide) ?_
              refine W.lcmp hx hb dM_prune_95 ?_
              refine lv_if_ne (tgt := 167) hx hb dM_prune_96 (by decide) (fun h14 => ?_) (fun h14 => ?_)
              · have hKr : K r = false := by rw [← hKz]; exact rg_bF (fun q => h14 (rg_cb1.mpr q))
                rw [rg_rk_no hKr] at hl
                refine lv_iinc (k := 3) (v := nI (r + 1)) (lv' := [(4, .int (nI (r + 1))), (0, .ref h), (1, .long z), (3, .int (nI (rg_rk K (r + 1))))]) hx hb dM_prune_167 hl rfl (nI_1 _) (by decide) rfl (fun ls hl => ?_)
                refine lv_goto (tgt := 79) hx hb dM_prune_170 (by decide) ?_
                exact ih79 (r + 1) nu1 co1 se1 li1 le1 fi1 sc1 _ _ _ (by omega) (by omega) (rm_PI_no hPI hKr) hP hD hS (lv_sub hl [1, 2, 3, 0] rfl)
              · have hKr : K r = true := by rw [← hKz]; exact rg_cb1.mp h14
                have hrk := rg_rk_le K r
                have hPr9 := hPI.2 r (Nat.le_refl r) (show r < n by omega)
                refine lv_aload_n hx hb dM_prune_99 rfl (lv_at hl 0 rfl) ?_
                refine lv_iload hx hb dM_prune_100 (lv_at hl 3 rfl) ?_
                refine lv_iload_n hx hb dM_prune_102 rfl (lv_at hl 2 rfl) ?_
                refine rg_callv hD hS hA (va_runV (As := [.int (nI r), .int (nI (rg_rk K r))]) (rest := []) ⟨hx, hb, hml, hown, hts⟩ (c_rm_copy r (rg_rk K r) (by omega) (by omega) _) (cwV 2 hts (rg_gV tw_671 tw_673 ts_M_copy tw_5 tw_674) rfl rfl rfl (by decide +kernel) ⟨by rw [hR]; exact Nat.le_of_ble_eq_true rfl, by rw [hR]; exact Nat.le_of_ble_eq_true rfl⟩) (rg_preV rfl hK hP hD (ci := 0) (q0 := 0) rfl rfl) rfl rfl hl.1 rfl (lv_room (Nat.le_of_ble_eq_true rfl)) dM_prune_103 ⟨Nat.zero_le _, Nat.zero_le _⟩) (fun u16 H locs hw17 hP hD hS => ?_)
                have hP : va_P (dC, dI) rg_cl (rm_W h a cI cL (nI 0) (nI n) (nI b) cof mad (va_cpy nu1 nu1 (2 * r) (2 * (rg_rk K r)) 2) (va_cpy co1 co1 (2 * r) (2 * (rg_rk K r)) 2) (va_cpy se1 se1 (2 * r) (2 * (rg_rk K r)) 2) (va_cpy li1 li1 (16 * r) (16 * (rg_rk K r)) 16) (va_cpy le1 le1 (2 * r) (2 * (rg_rk K r)) 2) (upd fi1 (rg_rk K r) (fi1 r)) (upd sc1 (rg_rk K r) (sc1 r)) ti un ma dr fr to en) H := hP
                have hD : va_D A (rm_W h a cI cL (nI 0) (nI n) (nI b) cof mad (va_cpy nu1 nu1 (2 * r) (2 * (rg_rk K r)) 2) (va_cpy co1 co1 (2 * r) (2 * (rg_rk K r)) 2) (va_cpy se1 se1 (2 * r) (2 * (rg_rk K r)) 2) (va_cpy li1 li1 (16 * r) (16 * (rg_rk K r)) 16) (va_cpy le1 le1 (2 * r) (2 * (rg_rk K r)) 2) (upd fi1 (rg_rk K r) (fi1 r)) (upd sc1 (rg_rk K r) (sc1 r)) ti un ma dr fr to en) := hD
                refine lv_aload_n hx hb dM_prune_106 rfl (lv_at hl 0 rfl) ?_
                refine va_get (D := (dC, dI)) (ci := 0) (C := "RevisionGroveModel") (T := TM) (N := 19) hx hb hts inM hown hK hP 0 rfl rfl 7 (by decide) (hts _ tw_608) (fun _ h9 => h9) rfl dM_prune_107 ?_
                refine lv_iload_n hx hb dM_prune_110 rfl (lv_at hl 2 rfl) ?_
                refine lv_aload_n hx hb dM_prune_111 rfl (lv_at hl 0 rfl) ?_
                refine va_get (D := (dC, dI)) (ci := 0) (C := "RevisionGroveModel") (T := TM) (N := 19) hx hb hts inM hown hK hP 0 rfl rfl 7 (by decide) (hts _ tw_608) (fun _ h9 => h9) rfl dM_prune_112 ?_
                refine lv_iload_n hx hb dM_prune_115 rfl (lv_at hl 2 rfl) ?_
                refine rg_iald hx hb hK hP 6 0 rfl rfl (by decide) (by omega) dM_prune_116 ?_
                refine rg_top (show (.int ((upd fi1 (rg_rk K r) (fi1 r)) (rg_rk K r)) : Value) = .int (fi1 r) by rw [pk_us]) ?_
                have J117 : ∀ (v9 : Int32) (H : Heap) (locs : List Loc), v9 = (rg_rx K (fi1 r)) → va_P (dC, dI) rg_cl (rm_W h a cI cL (nI 0) (nI n) (nI b) cof mad (va_cpy nu1 nu1 (2 * r) (2 * (rg_rk K r)) 2) (va_cpy co1 co1 (2 * r) (2 * (rg_rk K r)) 2) (va_cpy se1 se1 (2 * r) (2 * (rg_rk K r)) 2) (va_cpy li1 li1 (16 * r) (16 * (rg_rk K r)) 16) (va_cpy le1 le1 (2 * r) (2 * (rg_rk K r)) 2) (upd fi1 (rg_rk K r) (fi1 r)) (upd sc1 (rg_rk K r) (sc1 r)) ti un ma dr fr to en) H → va_D A (rm_W h a cI cL (nI 0) (nI n) (nI b) cof mad (va_cpy nu1 nu1 (2 * r) (2 * (rg_rk K r)) 2) (va_cpy co1 co1 (2 * r) (2 * (rg_rk K r)) 2) (va_cpy se1 se1 (2 * r) (2 * (rg_rk K r)) 2) (va_cpy li1 li1 (16 * r) (16 * (rg_rk K r)) 16) (va_cpy le1 le1 (2 * r) (2 * (rg_rk K r)) 2) (upd fi1 (rg_rk K r) (fi1 r)) (upd sc1 (rg_rk K r) (sc1 r)) ti un ma dr fr to en) → va_S A s.heap H locs → W p l e R s m args below meth c H locs 0 0 Q (F0 m 134 ls [.int v9, .int (nI (rg_rk K r)), .ref ((a 6))]) := by
                  intro v9 H locs hv9 hP hD hS
                  subst hv9
                  refine rg_iast hx hb hK hP hD hS 6 0 rfl rfl (by decide) (by omega) dM_prune_134 (fun H locs hP hD hS => ?_)
                  have hP : va_P (dC, dI) rg_cl (rm_W h a cI cL (nI 0) (nI n) (nI b) cof mad (va_cpy nu1 nu1 (2 * r) (2 * (rg_rk K r)) 2) (va_cpy co1 co1 (2 * r) (2 * (rg_rk K r)) 2) (va_cpy se1 se1 (2 * r) (2 * (rg_rk K r)) 2) (va_cpy li1 li1 (16 * r) (16 * (rg_rk K r)) 16) (va_cpy le1 le1 (2 * r) (2 * (rg_rk K r)) 2) (upd (upd fi1 (rg_rk K r) (fi1 r)) (rg_rk K r) (rg_rx K (fi1 r))) (upd sc1 (rg_rk K r) (sc1 r)) ti un ma dr fr to en) H := hP
                  have hD : va_D A (rm_W h a cI cL (nI 0) (nI n) (nI b) cof mad (va_cpy nu1 nu1 (2 * r) (2 * (rg_rk K r)) 2) (va_cpy co1 co1 (2 * r) (2 * (rg_rk K r)) 2) (va_cpy se1 se1 (2 * r) (2 * (rg_rk K r)) 2) (va_cpy li1 li1 (16 * r) (16 * (rg_rk K r)) 16) (va_cpy le1 le1 (2 * r) (2 * (rg_rk K r)) 2) (upd (upd fi1 (rg_rk K r) (fi1 r)) (rg_rk K r) (rg_rx K (fi1 r))) (upd sc1 (rg_rk K r) (sc1 r)) ti un ma dr fr to en) := hD
                  refine lv_aload_n hx hb dM_prune_135 rfl (lv_at hl 0 rfl) ?_
                  refine va_get (D := (dC, dI)) (ci := 0) (C := "RevisionGroveModel") (T := TM) (N := 19) hx hb hts inM hown hK hP 0 rfl rfl 8 (by decide) (hts _ tw_609) (fun _ h9 => h9) rfl dM_prune_136 ?_
                  refine lv_iload_n hx hb dM_prune_139 rfl (lv_at hl 2 rfl) ?_
                  refine lv_aload_n hx hb dM_prune_140 rfl (lv_at hl 0 rfl) ?_
                  refine va_get (D := (dC, dI)) (ci := 0) (C := "RevisionGroveModel") (T := TM) (N := 19) hx hb hts inM hown hK hP 0 rfl rfl 8 (by decide) (hts _ tw_609) (fun _ h9 => h9) rfl dM_prune_141 ?_
                  refine lv_iload_n hx hb dM_prune_144 rfl (lv_at hl 2 rfl) ?_
                  refine rg_iald hx hb hK hP 7 0 rfl rfl (by decide) (by omega) dM_prune_145 ?_
                  refine rg_top (show (.int ((upd sc1 (rg_rk K r) (sc1 r)) (rg_rk K r)) : Value) = .int (sc1 r) by rw [pk_us]) ?_
                  have J146 : ∀ (v9 : Int32) (H : Heap) (locs : List Loc), v9 = (rg_rx K (sc1 r)) → va_P (dC, dI) rg_cl (rm_W h a cI cL (nI 0) (nI n) (nI b) cof mad (va_cpy nu1 nu1 (2 * r) (2 * (rg_rk K r)) 2) (va_cpy co1 co1 (2 * r) (2 * (rg_rk K r)) 2) (va_cpy se1 se1 (2 * r) (2 * (rg_rk K r)) 2) (va_cpy li1 li1 (16 * r) (16 * (rg_rk K r)) 16) (va_cpy le1 le1 (2 * r) (2 * (rg_rk K r)) 2) (upd (upd fi1 (rg_rk K r) (fi1 r)) (rg_rk K r) (rg_rx K (fi1 r))) (upd sc1 (rg_rk K r) (sc1 r)) ti un ma dr fr to en) H → va_D A (rm_W h a cI cL (nI 0) (nI n) (nI b) cof mad (va_cpy nu1 nu1 (2 * r) (2 * (rg_rk K r)) 2) (va_cpy co1 co1 (2 * r) (2 * (rg_rk K r)) 2) (va_cpy se1 se1 (2 * r) (2 * (rg_rk K r)) 2) (va_cpy li1 li1 (16 * r) (16 * (rg_rk K r)) 16) (va_cpy le1 le1 (2 * r) (2 * (rg_rk K r)) 2) (upd (upd fi1 (rg_rk K r) (fi1 r)) (rg_rk K r) (rg_rx K (fi1 r))) (upd sc1 (rg_rk K r) (sc1 r)) ti un ma dr fr to en) → va_S A s.heap H locs → W p l e R s m args below meth c H locs 0 0 Q (F0 m 163 ls [.int v9, .int (nI (rg_rk K r)), .ref ((a 7))]) := by
                    intro v9 H locs hv9 hP hD hS
                    subst hv9
                    refine rg_iast hx hb hK hP hD hS 7 0 rfl rfl (by decide) (by omega) dM_prune_163 (fun H locs hP hD hS => ?_)
                    have hP : va_P (dC, dI) rg_cl (rm_W h a cI cL (nI 0) (nI n) (nI b) cof mad (va_cpy nu1 nu1 (2 * r) (2 * (rg_rk K r)) 2) (va_cpy co1 co1 (2 * r) (2 * (rg_rk K r)) 2) (va_cpy se1 se1 (2 * r) (2 * (rg_rk K r)) 2) (va_cpy li1 li1 (16 * r) (16 * (rg_rk K r)) 16) (va_cpy le1 le1 (2 * r) (2 * (rg_rk K r)) 2) (upd (upd fi1 (rg_rk K r) (fi1 r)) (rg_rk K r) (rg_rx K (fi1 r))) (upd (upd sc1 (rg_rk K r) (sc1 r)) (rg_rk K r) (rg_rx K (sc1 r))) ti un ma dr fr to en) H := hP
                    have hD : va_D A (rm_W h a cI cL (nI 0) (nI n) (nI b) cof mad (va_cpy nu1 nu1 (2 * r) (2 * (rg_rk K r)) 2) (va_cpy co1 co1 (2 * r) (2 * (rg_rk K r)) 2) (va_cpy se1 se1 (2 * r) (2 * (rg_rk K r)) 2) (va_cpy li1 li1 (16 * r) (16 * (rg_rk K r)) 16) (va_cpy le1 le1 (2 * r) (2 * (rg_rk K r)) 2) (upd (upd fi1 (rg_rk K r) (fi1 r)) (rg_rk K r) (rg_rx K (fi1 r))) (upd (upd sc1 (rg_rk K r) (sc1 r)) (rg_rk K r) (rg_rx K (sc1 r))) ti un ma dr fr to en) := hD
                    refine lv_iinc (k := 2) (v := nI (rg_rk K r + 1)) (lv' := [(3, .int (nI (rg_rk K r + 1))), (0, .ref h), (1, .long z), (4, .int (nI r))]) hx hb dM_prune_164 hl rfl (nI_1 _) (by decide) rfl (fun ls hl => ?_)
                    rw [rg_rk_yes hKr] at hl
                    refine lv_iinc (k := 3) (v := nI (r + 1)) (lv' := [(4, .int (nI (r + 1))), (3, .int (nI (rg_rk K (r + 1)))), (0, .ref h), (1, .long z)]) hx hb dM_prune_167 hl rfl (nI_1 _) (by decide) rfl (fun ls hl => ?_)
                    refine lv_goto (tgt := 79) hx hb dM_prune_170 (by decide) ?_
                    exact ih79 (r + 1) (va_cpy nu1 nu1 (2 * r) (2 * (rg_rk K r)) 2) (va_cpy co1 co1 (2 * r) (2 * (rg_rk K r)) 2) (va_cpy se1 se1 (2 * r) (2 * (rg_rk K r)) 2) (va_cpy li1 li1 (16 * r) (16 * (rg_rk K r)) 16) (va_cpy le1 le1 (2 * r) (2 * (rg_rk K r)) 2) (upd (upd fi1 (rg_rk K r) (fi1 r)) (rg_rk K r) (rg_rx K (fi1 r))) (upd (upd sc1 (rg_rk K r) (sc1 r)) (rg_rk K r) (rg_rx K (sc1 r))) _ _ _ (by omega) (by omega) (rm_PI_yes hPI hKr (show r < n by omega)) hP hD hS (lv_sub hl [2, 3, 1, 0] rfl)
                  refine lv_if_ge (tgt := 153) hx hb dM_prune_146 (by decide) (fun h18 => ?_) (fun h18 => ?_)
                  · obtain ⟨p9, hp9, e9⟩ : ∃ p9, p9 < 60 ∧ sc1 r = nI p9 := by
                      have e8 := hPr9.2.2
                      rcases hpr0.2.2 r (show r < n by omega) with q9 | ⟨q8, q7, q9⟩
                      · exact absurd (show (0 : Int32) ≤ -1 by rw [← q9, ← show sc1 r = P2 r from e8]; exact h18) (by decide)
                      · exact ⟨q8, by omega, e8.trans q9⟩
                    refine lv_lload_n hx hb dM_prune_153 rfl (lv_at hl 1 rfl) ?_
                    refine lv_aload_n hx hb dM_prune_154 rfl (lv_at hl 0 rfl) ?_
                    refine va_get (D := (dC, dI)) (ci := 0) (C := "RevisionGroveModel") (T := TM) (N := 19) hx hb hts inM hown hK hP 0 rfl rfl 8 (by decide) (hts _ tw_609) (fun _ h9 => h9) rfl dM_prune_155 ?_
                    refine lv_iload_n hx hb dM_prune_158 rfl (lv_at hl 2 rfl) ?_
                    refine rg_iald hx hb hK hP 7 0 rfl rfl (by decide) (by omega) dM_prune_159 ?_
                    refine rg_top (show (.int ((upd sc1 (rg_rk K r) (sc1 r)) (rg_rk K r)) : Value) = .int (nI p9) by rw [pk_us, e9]) ?_
                    refine rg_calli hD hS hA (va_runS (As := [.long z, .int (nI p9)]) (rest := [.int (nI (rg_rk K r)), .ref ((a 7))]) ⟨hx, hb, hml, hown, hts⟩ (c_rm_rank z p9 (by omega) _) (cwS 2 hts (rg_gS tw_802 tw_803 tw_5 tw_804) rfl rfl rfl (by decide +kernel) ⟨by rw [hR]; exact Nat.le_of_ble_eq_true rfl, by rw [hR]; exact Nat.le_of_ble_eq_true rfl⟩) (rg_preS rfl hK hP hD) rfl rfl hl.1 rfl (lv_room (Nat.le_of_ble_eq_true rfl)) dM_prune_160 ⟨Nat.zero_le _, Nat.zero_le _⟩) (fun r19 u20 H locs hw21 hP hD hS => ?_)
                    subst hw21
                    have hP : va_P (dC, dI) rg_cl (rm_W h a cI cL (nI 0) (nI n) (nI b) cof mad (va_cpy nu1 nu1 (2 * r) (2 * (rg_rk K r)) 2) (va_cpy co1 co1 (2 * r) (2 * (rg_rk K r)) 2) (va_cpy se1 se1 (2 * r) (2 * (rg_rk K r)) 2) (va_cpy li1 li1 (16 * r) (16 * (rg_rk K r)) 16) (va_cpy le1 le1 (2 * r) (2 * (rg_rk K r)) 2) (upd (upd fi1 (rg_rk K r) (fi1 r)) (rg_rk K r) (rg_rx K (fi1 r))) (upd sc1 (rg_rk K r) (sc1 r)) ti un ma dr fr to en) H := hP
                    have hD : va_D A (rm_W h a cI cL (nI 0) (nI n) (nI b) cof mad (va_cpy nu1 nu1 (2 * r) (2 * (rg_rk K r)) 2) (va_cpy co1 co1 (2 * r) (2 * (rg_rk K r)) 2) (va_cpy se1 se1 (2 * r) (2 * (rg_rk K r)) 2) (va_cpy li1 li1 (16 * r) (16 * (rg_rk K r)) 16) (va_cpy le1 le1 (2 * r) (2 * (rg_rk K r)) 2) (upd (upd fi1 (rg_rk K r) (fi1 r)) (rg_rk K r) (rg_rx K (fi1 r))) (upd sc1 (rg_rk K r) (sc1 r)) ti un ma dr fr to en) := hD
                    exact J146 (nI (rg_rk (rg_has z) p9)) _ _ (by rw [e9, rg_rx_nI K (by omega), hKz]) hP hD hS
                  · refine lv_iconst (v := -1) hx hb dM_prune_149 (by decide) ?_
                    refine lv_goto (tgt := 163) hx hb dM_prune_150 (by decide) ?_
                    exact J146 _ _ _ (by unfold rg_rx; rw [if_neg h18]) hP hD hS
                refine lv_if_ge (tgt := 124) hx hb dM_prune_117 (by decide) (fun h22 => ?_) (fun h22 => ?_)
                · obtain ⟨p9, hp9, e9⟩ : ∃ p9, p9 < 60 ∧ fi1 r = nI p9 := by
                    have e8 := hPr9.2.1
                    rcases rg_Pr_f hpr0 (show r < n by omega) with q9 | ⟨q8, q7, q9⟩
                    · exact absurd (show (0 : Int32) ≤ -1 by rw [← q9, ← show fi1 r = P1 r from e8]; exact h22) (by decide)
                    · exact ⟨q8, by omega, e8.trans q9⟩
                  refine lv_lload_n hx hb dM_prune_124 rfl (lv_at hl 1 rfl) ?_
                  refine lv_aload_n hx hb dM_prune_125 rfl (lv_at hl 0 rfl) ?_
                  refine va_get (D := (dC, dI)) (ci := 0) (C := "RevisionGroveModel") (T := TM) (N := 19) hx hb hts inM hown hK hP 0 rfl rfl 7 (by decide) (hts _ tw_608) (fun _ h9 => h9) rfl dM_prune_126 ?_
                  refine lv_iload_n hx hb dM_prune_129 rfl (lv_at hl 2 rfl) ?_
                  refine rg_iald hx hb hK hP 6 0 rfl rfl (by decide) (by omega) dM_prune_130 ?_
                  refine rg_top (show (.int ((upd fi1 (rg_rk K r) (fi1 r)) (rg_rk K r)) : Value) = .int (nI p9) by rw [pk_us, e9]) ?_
                  refine rg_calli hD hS hA (va_runS (As := [.long z, .int (nI p9)]) (rest := [.int (nI (rg_rk K r)), .ref ((a 6))]) ⟨hx, hb, hml, hown, hts⟩ (c_rm_rank z p9 (by omega) _) (cwS 2 hts (rg_gS tw_802 tw_803 tw_5 tw_804) rfl rfl rfl (by decide +kernel) ⟨by rw [hR]; exact Nat.le_of_ble_eq_true rfl, by rw [hR]; exact Nat.le_of_ble_eq_true rfl⟩) (rg_preS rfl hK hP hD) rfl rfl hl.1 rfl (lv_room (Nat.le_of_ble_eq_true rfl)) dM_prune_131 ⟨Nat.zero_le _, Nat.zero_le _⟩) (fun r23 u24 H locs hw25 hP hD hS => ?_)
                  subst hw25
                  have hP : va_P (dC, dI) rg_cl (rm_W h a cI cL (nI 0) (nI n) (nI b) cof mad (va_cpy nu1 nu1 (2 * r) (2 * (rg_rk K r)) 2) (va_cpy co1 co1 (2 * r) (2 * (rg_rk K r)) 2) (va_cpy se1 se1 (2 * r) (2 * (rg_rk K r)) 2) (va_cpy li1 li1 (16 * r) (16 * (rg_rk K r)) 16) (va_cpy le1 le1 (2 * r) (2 * (rg_rk K r)) 2) (upd fi1 (rg_rk K r) (fi1 r)) (upd sc1 (rg_rk K r) (sc1 r)) ti un ma dr fr to en) H := hP
                  have hD : va_D A (rm_W h a cI cL (nI 0) (nI n) (nI b) cof mad (va_cpy nu1 nu1 (2 * r) (2 * (rg_rk K r)) 2) (va_cpy co1 co1 (2 * r) (2 * (rg_rk K r)) 2) (va_cpy se1 se1 (2 * r) (2 * (rg_rk K r)) 2) (va_cpy li1 li1 (16 * r) (16 * (rg_rk K r)) 16) (va_cpy le1 le1 (2 * r) (2 * (rg_rk K r)) 2) (upd fi1 (rg_rk K r) (fi1 r)) (upd sc1 (rg_rk K r) (sc1 r)) ti un ma dr fr to en) := hD
                  exact J117 (nI (rg_rk (rg_has z) p9)) _ _ (by rw [e9, rg_rx_nI K (by omega), hKz]) hP hD hS
                · refine lv_iconst (v := -1) hx hb dM_prune_120 (by decide) ?_
                  refine lv_goto (tgt := 134) hx hb dM_prune_121 (by decide) ?_
                  exact J117 _ _ _ (by unfold rg_rx; rw [if_neg h22]) hP hD hS
        exact lp79 _ 0 nu co se li le fi sc _ _ _ (Nat.lt_succ_self _) (Nat.zero_le _) (rm_PI_0 hrep) hP hD hS (lv_sub hl [3, 2, 1, 0] rfl)
      · have h7 := hrep.2.2.2.2.2.2 bb (by omega)
        have htbb : ti bb = nI (T bb) := h7.1
        have hmbb : ma bb = nI (U bb).length := h7.2.1
        have hTbb : T bb < n := (hok.2.2.2.2.2.2.1 bb (by omega)).1
        have hlbb := hul bb (by omega)
        have hlbb : (U bb).length < 60 := hlbb
        refine lv_lload_n hx hb dM_prune_14 rfl (lv_at hl 1 rfl) ?_
        refine lv_lconst (v := 1) hx hb dM_prune_15 (by decide) ?_
        refine lv_aload_n hx hb dM_prune_16 rfl (lv_at hl 0 rfl) ?_
        refine va_get (D := (dC, dI)) (ci := 0) (C := "RevisionGroveModel") (T := TM) (N := 19) hx hb hts inM hown hK hP 0 rfl rfl 10 (by decide) (hts _ tw_611) (fun _ h9 => h9) rfl dM_prune_17 ?_
        refine lv_iload_n hx hb dM_prune_20 rfl (lv_at hl 2 rfl) ?_
        refine rg_iald hx hb hK hP 8 0 rfl rfl (by decide) (by omega) dM_prune_21 ?_
        refine rg_top (show (.int (ti bb) : Value) = .int (nI (T bb)) by rw [htbb]) ?_
        refine lv_lshl (v := (1 : Int64) <<< ((nI (T bb)).toInt64 &&& 63)) hx hb dM_prune_22 rfl ?_
        refine lv_lor hx hb dM_prune_23 ?_
        refine lv_lstore_n (lv' := [(1, .long (o ||| ((1 : Int64) <<< ((nI (T bb)).toInt64 &&& 63)))), (0, .ref h), (3, .int (nI bb))]) hx hb dM_prune_24 rfl hl (by decide) rfl (fun ls hl => ?_)
        refine lv_iconst (v := nI 0) hx hb dM_prune_25 (by decide) ?_
        refine lv_istore (lv' := [(4, .int (nI 0)), (1, .long (o ||| ((1 : Int64) <<< ((nI (T bb)).toInt64 &&& 63)))), (0, .ref h), (3, .int (nI bb))]) hx hb dM_prune_26 hl (by decide) rfl (fun ls hl => ?_)
        have lp28 : ∀ (fuel : Nat) (k : Nat) (o2 : Int64) (H : Heap) (locs : List Loc) (ls : Array Slot), (U bb).length - k < fuel → k ≤ (U bb).length → (∀ j, rg_has o2 j = true ↔ (∃ c9, c9 < bb ∧ (j = T c9 ∨ j ∈ U c9)) ∨ j = T bb ∨ j ∈ (U bb).take k) → va_P (dC, dI) rg_cl (rm_W h a cI cL (nI 0) (nI n) (nI b) cof mad nu co se li le fi sc ti un ma dr fr to en) H → va_D A (rm_W h a cI cL (nI 0) (nI n) (nI b) cof mad nu co se li le fi sc ti un ma dr fr to en) → va_S A s.heap H locs → lv_has ls 6 [(0, .ref h), (1, .long o2), (3, .int (nI bb)), (4, .int (nI k))] → W p l e R s m args below meth c H locs 0 0 Q (F0 m 28 ls []) := by
          intro fuel
          induction fuel with
          | zero => intro k o2 H locs ls hf; exact absurd hf (Nat.not_lt_zero _)
          | succ fuel ih28 =>
            intro k o2 H locs ls hfu28 hk9 ho2 hP hD hS hl
            refine lv_iload hx hb dM_prune_28 (lv_at hl 3 rfl) ?_
            refine lv_aload_n hx hb dM_prune_30 rfl (lv_at hl 0 rfl) ?_
            refine va_get (D := (dC, dI)) (ci := 0) (C := "RevisionGroveModel") (T := TM) (N := 19) hx hb hts inM hown hK hP 0 rfl rfl 12 (by decide) (hts _ tw_613) (fun _ h9 => h9) rfl dM_prune_31 ?_
            refine lv_iload_n hx hb dM_prune_34 rfl (lv_at hl 2 rfl) ?_
            refine rg_iald hx hb hK hP 10 0 rfl rfl (by decide) (by omega) dM_prune_35 ?_
            refine rg_top (show (.int (ma bb) : Value) = .int (nI ((U bb).length)) by rw [hmbb]) ?_
            refine rg_icmp_ge (tgt := 62) hx hb dM_prune_36 (by decide) (by omega) (by omega) (fun h26 => ?_) (fun h26 => ?_)
            · refine lv_iinc (k := 2) (v := nI (bb + 1)) (lv' := [(3, .int (nI (bb + 1))), (0, .ref h), (1, .long o2), (4, .int (nI k))]) hx hb dM_prune_62 hl rfl (nI_1 _) (by decide) rfl (fun ls hl => ?_)
              refine lv_goto (tgt := 9) hx hb dM_prune_65 (by decide) ?_
              exact ih9 (bb + 1) o2 _ _ _ (by omega) (by omega) (rg_k3 (by omega) ho2) hP hD hS (lv_sub hl [1, 2, 0] rfl)
            · have hub : un (60 * bb + k) = nI ((U bb).getD k 0) := h7.2.2 k (by omega)
              have hgn : (U bb).getD k 0 < n := (hok.2.2.2.2.2.2.1 bb (by omega)).2.1 _ (rg_getD_mem (by omega))
              refine lv_lload_n hx hb dM_prune_39 rfl (lv_at hl 1 rfl) ?_
              refine lv_lconst (v := 1) hx hb dM_prune_40 (by decide) ?_
              refine lv_aload_n hx hb dM_prune_41 rfl (lv_at hl 0 rfl) ?_
              refine va_get (D := (dC, dI)) (ci := 0) (C := "RevisionGroveModel") (T := TM) (N := 19) hx hb hts inM hown hK hP 0 rfl rfl 11 (by decide) (hts _ tw_612) (fun _ h9 => h9) rfl dM_prune_42 ?_
              refine lv_bipush (v := nI 60) hx hb dM_prune_45 (by decide) ?_
              refine lv_iload_n hx hb dM_prune_47 rfl (lv_at hl 2 rfl) ?_
              refine rg_imul hx hb dM_prune_48 ?_
              refine lv_iload hx hb dM_prune_49 (lv_at hl 3 rfl) ?_
              refine rg_iadd hx hb dM_prune_51 ?_
              refine rg_iald hx hb hK hP 9 0 rfl rfl (by decide) (by omega) dM_prune_52 ?_
              refine rg_top (show (.int (un (60 * bb + k)) : Value) = .int (nI ((U bb).getD k 0)) by rw [hub]) ?_
              refine lv_lshl (v := (1 : Int64) <<< ((nI ((U bb).getD k 0)).toInt64 &&& 63)) hx hb dM_prune_53 rfl ?_
              refine lv_lor hx hb dM_prune_54 ?_
              refine lv_lstore_n (lv' := [(1, .long (o2 ||| ((1 : Int64) <<< ((nI ((U bb).getD k 0)).toInt64 &&& 63)))), (0, .ref h), (3, .int (nI bb)), (4, .int (nI k))]) hx hb dM_prune_55 rfl hl (by decide) rfl (fun ls hl => ?_)
              refine lv_iinc (k := 3) (v := nI (k + 1)) (lv' := [(4, .int (nI (k + 1))), (1, .long (o2 ||| ((1 : Int64) <<< ((nI ((U bb).getD k 0)).toInt64 &&& 63)))), (0, .ref h), (3, .int (nI bb))]) hx hb dM_prune_56 hl rfl (nI_1 _) (by decide) rfl (fun ls hl => ?_)
              refine lv_goto (tgt := 28) hx hb dM_prune_59 (by decide) ?_
              exact ih28 (k + 1) (o2 ||| ((1 : Int64) <<< ((nI ((U bb).getD k 0)).toInt64 &&& 63))) _ _ _ (by omega) (by omega) (rg_k2 (by omega) (by omega) ho2) hP hD hS (lv_sub hl [2, 1, 3, 0] rfl)
        exact lp28 _ 0 (o ||| ((1 : Int64) <<< ((nI (T bb)).toInt64 &&& 63))) _ _ _ (Nat.lt_succ_self _) (Nat.zero_le _) (rg_k1 (by omega) ho1) hP hD hS (lv_sub hl [2, 1, 3, 0] rfl)
  exact lp9 _ 0 (0 : Int64) _ _ _ (Nat.lt_succ_self _) (by omega) (fun j => ⟨fun h => (by rw [rg_has_0] at h; cases h), fun ⟨c9, h9, _⟩ => absurd h9 (Nat.not_lt_zero c9)⟩) hP hD hS (lv_sub hl [2, 1, 0] rfl)
