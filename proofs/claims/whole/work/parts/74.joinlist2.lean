def gw_PJ (d0 : Nat → Int64) (k : Nat) (lx ly lz : List Int32) (z : Int32) (u : Nat → Int64) : Prop := z = (bif rg_jok lx ly lz then 1 else 0) ∧ (rg_jok lx ly lz = true → rg_LC u k (rg_jl lx ly lz) ∧ rg_Ot k u d0) ∧ (rg_jok lx ly lz = false → u = d0)
theorem rg_five_len {x v w : List Int32} (h : x.length - rg_tl x v ≤ rg_hd x w) : (rg_five x v w).length + (x.length - rg_tl x v) + (x.length - rg_tl x w) = x.length + (v.length - rg_tl x v) + (w.length - rg_tl x w) := by
  have t1 := rg_tl_le x v
  have t2 := rg_tl_le x w
  simp only [rg_five, rg_to, rg_en]
  rw [rg_sg_l (by omega), rg_sg_l (by omega), rg_sg_l (by omega), rg_sg_l (by omega), rg_sg_l (by omega)]
  simp only [List.length_nil]
  omega
theorem rg_le1_t {x y z : List Int32} (h : x.length - rg_tl x y ≤ rg_hd x z) : rg_le1 x y z = true := decide_eq_true h
theorem rg_le1_f {x y z : List Int32} (h : ¬ x.length - rg_tl x y ≤ rg_hd x z) : rg_le1 x y z = false := decide_eq_false h
set_option maxRecDepth 100000 in
theorem c_J_joinList {l : Launch} {dC : Nat → ClassId} {dI : Nat → Nat → Nat} {ad fo fa ur : Nat → Nat} {cI cL cF cA : ClassId} {rec : Nat → Nat → Int64} {fp : Nat → Int32} {sp : Nat → Int32} {an : Nat → Int64} {nn : Nat → Int32} {cnt : Int32} {pt : Nat → Int32} {un : Nat → Nat → Int32} {uc : Nat → Int32} {pr : Int32} {lc : Int32} (a1 a2 i j q k : Nat) (hi : i < 60) (hj : j < 60) (hq : q < 60) (hk : k < 2) (lx ly lz : List Int32) (hx8 : lx.length ≤ 8) (hlx : rg_LC (rec i) k lx) (hy8 : ly.length ≤ 8) (hly : rg_LC (rec j) k ly) (hz8 : lz.length ≤ 8) (hlz : rg_LC (rec q) k lz) : rx_M l yJ_joinList (Cond.code yJ_joinList prog_5_method_5_code 9 (some .boolean) :: rg_tbl) { frames := 2, cells := 0, slots := 0, locals := 55 } (dC, dI) rg_cl (gw_tys cI cL cF cA) (gw_W ad fo fa ur cI cL cF cA rec fp sp an nn cnt pt un uc pr lc ++ [(a1, .inr (5, [.ref (fo j), .int (nI (rg_hd lx ly)), .int (nI (lx.length - rg_tl lx ly)), .int (nI (ly.length - rg_tl lx ly))])), (a2, .inr (5, [.ref (fo q), .int (nI (rg_hd lx lz)), .int (nI (lx.length - rg_tl lx lz)), .int (nI (lz.length - rg_tl lx lz))]))]) [.ref ((fo 60)), .ref ((fo i)), .ref a1, .ref a2, .int (nI (k + 6))] (rg_QI (dC, dI) rg_cl (gw_tys cI cL cF cA) (S := (Nat → Int64)) (gw_PJ (rec 60) k lx ly lz) (fun u => gw_W ad fo fa ur cI cL cF cA (va_up rec 60 u) fp sp an nn cnt pt un uc pr lc ++ [(a1, .inr (5, [.ref (fo j), .int (nI (rg_hd lx ly)), .int (nI (lx.length - rg_tl lx ly)), .int (nI (ly.length - rg_tl lx ly))])), (a2, .inr (5, [.ref (fo q), .int (nI (rg_hd lx lz)), .int (nI (lx.length - rg_tl lx lz)), .int (nI (lz.length - rg_tl lx lz))]))])) (rx_X (dC, dI) rg_cl (gw_tys cI cL cF cA) (S := Unit) (fun _ _ => False) (fun _ => gw_W ad fo fa ur cI cL cF cA rec fp sp an nn cnt pt un uc pr lc ++ [(a1, .inr (5, [.ref (fo j), .int (nI (rg_hd lx ly)), .int (nI (lx.length - rg_tl lx ly)), .int (nI (ly.length - rg_tl lx ly))])), (a2, .inr (5, [.ref (fo q), .int (nI (rg_hd lx lz)), .int (nI (lx.length - rg_tl lx lz)), .int (nI (lz.length - rg_tl lx lz))]))])) 0 0 := by
  intro sz
  have hrec : va_up rec 60 (rec 60) = rec := by
    funext b
    by_cases e : b = 60
    · rw [e, rg_ups]
    · rw [rg_upn _ _ e]
  by_cases ha : lx.length - rg_tl lx ly ≤ rg_hd lx lz
  · by_cases hb : lx.length - rg_tl lx lz ≤ rg_hd lx ly
    · have hh := rg_jok_no ((rg_le1_t ha).trans (rg_le1_t hb).symm)
      refine rx_mono (c_J_joinList_n1 a1 a2 i j q k hi hj hq hk lx ly lz hx8 hlx hy8 hly hz8 hlz ⟨fun _ => hb, fun _ => ha⟩ sz) (fun _ _ h => h) ?_ (fun _ _ _ _ _ h => h) (fun _ h => h)
      rintro a s o t - ⟨⟨r, u, e, hz, hB⟩, hF⟩
      have hj9 : rg_jok lx ly lz = false := hh
      refine ⟨⟨r, rec 60, e, ⟨by rw [hj9]; exact hz, fun q9 => absurd (hj9.symm.trans q9) (by decide), fun _ => rfl⟩, ?_⟩, hF⟩
      unfold rg_B at hB ⊢
      simp only [hrec]
      exact hB
    · obtain ⟨j1, j2⟩ := rg_jok_l (rg_le1_t ha) (rg_le1_f hb)
      by_cases hc : (rg_five lx ly lz).length ≤ 8
      · have hh := j2.trans (decide_eq_true hc)
        refine rx_mono (c_J_joinList_l a1 a2 i j q k hi hj hq hk lx ly lz hx8 hlx hy8 hly hz8 hlz ha hb hc sz) (fun _ _ h => h) ?_ (fun _ _ _ _ _ h => h) (fun _ h => h)
        rintro a s o t - ⟨⟨r, u, e, ⟨hz, h3, h4⟩, hB⟩, hF⟩
        have hj9 : rg_jok lx ly lz = true := hh
        exact ⟨⟨r, u, e, ⟨by rw [hj9]; exact hz, fun _ => ⟨by rw [j1]; exact h3, h4⟩, fun q9 => absurd (hj9.symm.trans q9) (by decide)⟩, hB⟩, hF⟩
      · have hh := j2.trans (decide_eq_false hc)
        have hm := rg_five_len ha
        refine rx_mono (c_J_joinList_n2 a1 a2 i j q k hi hj hq hk lx ly lz hx8 hlx hy8 hly hz8 hlz ⟨fun _ => hb, fun _ => ha⟩ (rg_five lx ly lz).length (by omega) (by omega) sz) (fun _ _ h => h) ?_ (fun _ _ _ _ _ h => h) (fun _ h => h)
        rintro a s o t - ⟨⟨r, u, e, hz, hB⟩, hF⟩
        have hj9 : rg_jok lx ly lz = false := hh
        refine ⟨⟨r, rec 60, e, ⟨by rw [hj9]; exact hz, fun q9 => absurd (hj9.symm.trans q9) (by decide), fun _ => rfl⟩, ?_⟩, hF⟩
        unfold rg_B at hB ⊢
        simp only [hrec]
        exact hB
  · by_cases hb : lx.length - rg_tl lx lz ≤ rg_hd lx ly
    · obtain ⟨j1, j2⟩ := rg_jok_r (rg_le1_f ha) (rg_le1_t hb)
      by_cases hc : (rg_five lx lz ly).length ≤ 8
      · have hh := j2.trans (decide_eq_true hc)
        refine rx_mono (c_J_joinList_r a1 a2 i j q k hi hj hq hk lx ly lz hx8 hlx hy8 hly hz8 hlz hb ha hc sz) (fun _ _ h => h) ?_ (fun _ _ _ _ _ h => h) (fun _ h => h)
        rintro a s o t - ⟨⟨r, u, e, ⟨hz, h3, h4⟩, hB⟩, hF⟩
        have hj9 : rg_jok lx ly lz = true := hh
        exact ⟨⟨r, u, e, ⟨by rw [hj9]; exact hz, fun _ => ⟨by rw [j1]; exact h3, h4⟩, fun q9 => absurd (hj9.symm.trans q9) (by decide)⟩, hB⟩, hF⟩
      · have hh := j2.trans (decide_eq_false hc)
        have hm := rg_five_len hb
        refine rx_mono (c_J_joinList_n2 a1 a2 i j q k hi hj hq hk lx ly lz hx8 hlx hy8 hly hz8 hlz ⟨fun h9 => absurd h9 ha, fun h9 => absurd hb h9⟩ (rg_five lx lz ly).length (by omega) (by omega) sz) (fun _ _ h => h) ?_ (fun _ _ _ _ _ h => h) (fun _ h => h)
        rintro a s o t - ⟨⟨r, u, e, hz, hB⟩, hF⟩
        have hj9 : rg_jok lx ly lz = false := hh
        refine ⟨⟨r, rec 60, e, ⟨by rw [hj9]; exact hz, fun q9 => absurd (hj9.symm.trans q9) (by decide), fun _ => rfl⟩, ?_⟩, hF⟩
        unfold rg_B at hB ⊢
        simp only [hrec]
        exact hB
    · have hh := rg_jok_no ((rg_le1_f ha).trans (rg_le1_f hb).symm)
      refine rx_mono (c_J_joinList_n1 a1 a2 i j q k hi hj hq hk lx ly lz hx8 hlx hy8 hly hz8 hlz ⟨fun h9 => absurd h9 ha, fun h9 => absurd h9 hb⟩ sz) (fun _ _ h => h) ?_ (fun _ _ _ _ _ h => h) (fun _ h => h)
      rintro a s o t - ⟨⟨r, u, e, hz, hB⟩, hF⟩
      have hj9 : rg_jok lx ly lz = false := hh
      refine ⟨⟨r, rec 60, e, ⟨by rw [hj9]; exact hz, fun q9 => absurd (hj9.symm.trans q9) (by decide), fun _ => rfl⟩, ?_⟩, hF⟩
      unfold rg_B at hB ⊢
      simp only [hrec]
      exact hB
