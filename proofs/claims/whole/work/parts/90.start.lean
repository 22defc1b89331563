/-! What the law's start gives. -/
theorem rl_bad : ∀ w ∈ rx_bad, w ∈ lw_tbl := by decide +kernel
theorem rl_sub : ∀ w ∈ rg_tbl, w ∈ lw_tbl := fun w h => (List.mem_filter.mp h).1
section RL
variable {s : State} {b : Nat}
theorem rl_str {k : Nat} {tx : String} (hts : ∀ w ∈ lw_tbl, w.before #[Value.ref b] s = true) (hgv : (Jvm.Cond.and given_1 narrow_1).before #[Value.ref b] s = true) (h1 : Cond.stringRef "RevisionGrove" k tx ∈ lw_tbl) (h2 : Cond.exactly (.string "RevisionGrove" k) "java/lang/String" ∈ flatC (Jvm.Cond.and given_1 narrow_1)) : ∃ sa, vk_R "RevisionGrove" k tx sa s := by
  obtain ⟨a, c, cell, kk, h3, -⟩ := Cond.exactly_spec (flat_of_before _ hgv _ h2)
  exact ⟨a, vk_R.of (hts _ h1) h3⟩
theorem rl_T (hts : ∀ w ∈ lw_tbl, w.before #[Value.ref b] s = true) (hgv : (Jvm.Cond.and given_1 narrow_1).before #[Value.ref b] s = true) : rx_T (fun q => s.heap.size ≤ q) s s.heap := by
  have hf := flat_of_before _ hgv
  refine ⟨vx_Zqof (hts _ (by decide +kernel)) (hts _ (by decide +kernel)) (hf _ (by decide +kernel)) (fun a h q => absurd h (Nat.not_lt.mpr q)), vx_Zqof (hts _ (by decide +kernel)) (hts _ (by decide +kernel)) (hf _ (by decide +kernel)) (fun a h q => absurd h (Nat.not_lt.mpr q)), fun w hw => va_Nw.of (rx_bad_tab w hw) (hts w (rl_bad w hw)), fun q hq => ?_⟩
  simp only [rx_strs, List.mem_cons, List.not_mem_nil, or_false] at hq
  rcases hq with rfl | rfl | rfl | rfl | rfl | rfl | rfl | rfl | rfl | rfl | rfl | rfl | rfl | rfl
  all_goals exact rl_str hts hgv (by decide +kernel) (by decide +kernel)
theorem rl_AO (hts : ∀ w ∈ lw_tbl, w.before #[Value.ref b] s = true) : gw_AO s :=
  ⟨va_AO.of (hts _ (by decide +kernel)), hts (Cond.arrayOver (.array .int)) (by decide +kernel), va_Nw.of rfl (hts gw_ne1 (by decide +kernel)), va_Nw.of rfl (hts gw_ne2 (by decide +kernel)), va_Nw.of rfl (hts gw_ne3 (by decide +kernel))⟩
theorem rl_NC (hgv : (Jvm.Cond.and given_1 narrow_1).before #[Value.ref b] s = true) : gw_NC s := by
  have hf := flat_of_before _ hgv
  exact ⟨va_Nc.of (hf _ (by decide +kernel)), va_Nc.of (hf _ (by decide +kernel)), va_Nc.of (hf _ (by decide +kernel))⟩
theorem rl_arr {ty : FieldType} (h : (Cond.arrayClass ty).before #[Value.ref b] s = true) (hty : ∀ C, ty ≠ .object C) : ∃ c, ArrOfT s c ty ∧ va_RA s c ty := by
  obtain ⟨c, k, comp, h1, h2, h3⟩ := Cond.arrayClass_spec h
  refine ⟨c, fun n z => ⟨(fun k h => by cases h), k, h2, comp, h3⟩, ?_⟩
  cases ty with
  | object C => exact absurd rfl (hty C)
  | _ => exact h1
theorem rl_K (hts : ∀ w ∈ lw_tbl, w.before #[Value.ref b] s = true) : ∃ (dC : Nat → ClassId) (dI : Nat → Nat → Nat) (cI cL cF cA : ClassId), va_K (dC, dI) rg_cl (gw_tys cI cL cF cA) s := by
  have htg : ∀ w ∈ rg_tbl, w.before #[Value.ref b] s = true := fun w h => hts w (rl_sub w h)
  obtain ⟨c0, i0, h0⟩ := u_known htg inM (htg _ tw_596)
  obtain ⟨c1, i1, h1⟩ := u_known htg inG (htg _ tw_18)
  obtain ⟨c2, i2, h2⟩ := u_known htg inR (htg _ tw_26)
  obtain ⟨c3, i3, h3⟩ := u_known htg inB (htg _ tw_64)
  obtain ⟨c4, i4, h4⟩ := u_known htg inF (htg _ tw_33)
  obtain ⟨c5, i5, h5⟩ := u_known htg inC (htg _ tw_501)
  obtain ⟨cI, a1, a2⟩ := rl_arr (htg _ tw_42) (fun C h => by cases h)
  obtain ⟨cL, b1, b2⟩ := rl_arr (htg _ tw_43) (fun C h => by cases h)
  obtain ⟨comp, cF, kF, f1, -, f2, f3, f4⟩ := Cond.arrayOver_spec (hts (Cond.arrayOver (.object "RevisionGrove$Fields")) (by decide +kernel))
  obtain ⟨comp', cA, kA, g1, g2, g3, g4⟩ := va_AOA.spec (t := .int) (hts (Cond.arrayOver (.array .int)) (by decide +kernel))
  refine ⟨fun k => [c0, c1, c2, c3, c4, c5].getD k 0, fun k => match k with | 0 => i0 | 1 => i1 | 2 => i2 | 3 => i3 | 4 => i4 | _ => i5, cI, cL, cF, cA, fun c q hq => ?_, fun k q hq => ?_⟩
  · have hlt := (List.getElem?_eq_some_iff.mp hq).1
    have hlt : c < 6 := hlt
    rcases (show c = 0 ∨ c = 1 ∨ c = 2 ∨ c = 3 ∨ c = 4 ∨ c = 5 by omega) with rfl | rfl | rfl | rfl | rfl | rfl <;> cases hq
    · exact h0
    · exact h1
    · exact h2
    · exact h3
    · exact h4
    · exact h5
  · have hlt := (List.getElem?_eq_some_iff.mp hq).1
    have hlt : k < 4 := hlt
    rcases (show k = 0 ∨ k = 1 ∨ k = 2 ∨ k = 3 by omega) with rfl | rfl | rfl | rfl <;> cases hq
    · exact ⟨a1, a2⟩
    · exact ⟨b1, b2⟩
    · exact ⟨fun n z => ⟨(fun k h => by cases h), kF, f2, comp, f3⟩, kF, comp, f2, f3, f1, f4⟩
    · exact ⟨fun n z => ⟨(fun k h => by cases h), kA, g2, comp', g3⟩, g4⟩
end RL
