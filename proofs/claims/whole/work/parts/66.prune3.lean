/-! Prune of the class: ancestors behind the move, the loops' pictures. -/
theorem gw_an_gen {P Q : Nat → Int32} {an : Nat → Int64} {n : Nat} {x y : Int32} (hn : n < 60) (hx : x = -1 ∨ ∃ p, p < n ∧ x = nI p) (hy : y = -1 ∨ ∃ p, p < n ∧ y = nI p) (h : ∀ r, r < n → ∀ j, rg_has (an r) j = true ↔ rg_An P Q r j) (j : Nat) :
    rg_has ((((1 : Int64) <<< ((nI n).toInt64 &&& 63)) ||| (rg_ax an x)) ||| (rg_ax an y)) j = true ↔ rg_An (upd P n x) (upd Q n y) n j := by
  have sm : ∀ r, r < n → ∀ j, (rg_An P Q r j ↔ rg_An (upd P n x) (upd Q n y) r j) := fun r hr j =>
    ⟨rg_An_same (fun x hx => ⟨(pk_un (by omega)).symm, (pk_un (by omega)).symm⟩), rg_An_same (fun x hx => ⟨pk_un (by omega), pk_un (by omega)⟩)⟩
  have ax : ∀ z : Int32, (z = -1 ∨ ∃ p, p < n ∧ z = nI p) → (rg_has (rg_ax an z) j = true ↔ ∃ p, p < n ∧ z = nI p ∧ rg_An P Q p j) := by
    rintro z (rfl | ⟨p, hp, rfl⟩)
    · rw [rg_ax_m, rg_has_0]
      refine ⟨fun h => (by cases h), fun ⟨p, hp, e, _⟩ => absurd e.symm (rg_nI_m1 (by omega))⟩
    · rw [rg_ax_n an (by omega), h p hp]
      refine ⟨fun h => ⟨p, hp, rfl, h⟩, fun ⟨q, hq, e, h2⟩ => ?_⟩
      have e2 : p = q := (nI_eq (by omega) (by omega)).mp e
      rw [e2]; exact h2
  rw [rg_has_or, rg_has_or, Bool.or_eq_true, Bool.or_eq_true, rg_has_1 (by omega), decide_eq_true_iff, ax x hx, ax y hy, rg_An_eq (P1 := upd P n x) (P2 := upd Q n y) (r := n), pk_us, pk_us]
  constructor
  · rintro ((h1 | ⟨p, hp, e, h1⟩) | ⟨p, hp, e, h1⟩)
    · exact Or.inl h1
    · exact Or.inr ⟨p, hp, Or.inl e, (sm p hp j).mp h1⟩
    · exact Or.inr ⟨p, hp, Or.inr e, (sm p hp j).mp h1⟩
  · rintro (h1 | ⟨p, hp, h2 | h2, h3⟩)
    · exact Or.inl (Or.inl h1)
    · exact Or.inl (Or.inr ⟨p, hp, h2, (sm p hp j).mpr h3⟩)
    · exact Or.inr ⟨p, hp, h2, (sm p hp j).mpr h3⟩
-- needed
def gw_NS (P Q : Nat → Int32) (T : Nat → Nat) (U : Nat → List Nat) (b j : Nat) : Prop := ∃ c, c < b ∧ (rg_An P Q (T c) j ∨ ∃ i, i ∈ U c ∧ rg_An P Q i j)
def gw_NI (P Q : Nat → Int32) (T : Nat → Nat) (U : Nat → List Nat) (b k j : Nat) : Prop := gw_NS P Q T U b j ∨ rg_An P Q (T b) j ∨ ∃ i, i ∈ (U b).take k ∧ rg_An P Q i j
theorem gw_n0 {P Q : Nat → Int32} {T : Nat → Nat} {U : Nat → List Nat} (j : Nat) : rg_has 0 j = true ↔ gw_NS P Q T U 0 j :=
  ⟨fun h => (by rw [rg_has_0] at h; cases h), fun ⟨c, h, _⟩ => absurd h (Nat.not_lt_zero c)⟩
theorem gw_n1 {P Q : Nat → Int32} {T : Nat → Nat} {U : Nat → List Nat} {b : Nat} {o a : Int64} (h : ∀ j, rg_has o j = true ↔ gw_NS P Q T U b j) (ha : ∀ j, rg_has a j = true ↔ rg_An P Q (T b) j) (j : Nat) : rg_has (o ||| a) j = true ↔ gw_NI P Q T U b 0 j := by
  rw [rg_has_or, Bool.or_eq_true, h, ha]
  unfold gw_NI
  simp
theorem gw_n2 {P Q : Nat → Int32} {T : Nat → Nat} {U : Nat → List Nat} {b k : Nat} {o a : Int64} (hk : k < (U b).length) (h : ∀ j, rg_has o j = true ↔ gw_NI P Q T U b k j) (ha : ∀ j, rg_has a j = true ↔ rg_An P Q ((U b).getD k 0) j) (j : Nat) : rg_has (o ||| a) j = true ↔ gw_NI P Q T U b (k + 1) j := by
  rw [rg_has_or, Bool.or_eq_true, h, ha]
  unfold gw_NI
  have e : (U b).take (k + 1) = (U b).take k ++ [(U b).getD k 0] := by
    rw [List.take_succ, List.getD_eq_getElem?_getD, List.getElem?_eq_getElem hk]
    rfl
  rw [e]
  constructor
  · rintro ((h | h | ⟨i, h1, h2⟩) | h)
    · exact Or.inl h
    · exact Or.inr (Or.inl h)
    · exact Or.inr (Or.inr ⟨i, List.mem_append_left _ h1, h2⟩)
    · exact Or.inr (Or.inr ⟨_, List.mem_append_right _ (List.mem_singleton.mpr rfl), h⟩)
  · rintro (h | h | ⟨i, h1, h2⟩)
    · exact Or.inl (Or.inl h)
    · exact Or.inl (Or.inr (Or.inl h))
    · rcases List.mem_append.mp h1 with h3 | h3
      · exact Or.inl (Or.inr (Or.inr ⟨i, h3, h2⟩))
      · rw [List.mem_singleton.mp h3] at h2; exact Or.inr h2
theorem gw_n3 {P Q : Nat → Int32} {T : Nat → Nat} {U : Nat → List Nat} {b k : Nat} {o : Int64} (hk : (U b).length ≤ k) (h : ∀ j, rg_has o j = true ↔ gw_NI P Q T U b k j) (j : Nat) : rg_has o j = true ↔ gw_NS P Q T U (b + 1) j := by
  rw [h]
  unfold gw_NI
  rw [List.take_of_length_le hk]
  constructor
  · rintro (⟨c, h1, h2⟩ | h)
    · exact ⟨c, by omega, h2⟩
    · exact ⟨b, by omega, h⟩
  · rintro ⟨c, h1, h2⟩
    by_cases e : c = b
    · subst e; exact Or.inr h2
    · exact Or.inl ⟨c, by omega, h2⟩
theorem gw_n4 {g : rg_A} {o : Int64} (h : ∀ j, rg_has o j = true ↔ gw_NS (ra_P g) (ra_Q g) (ra_T g) (ra_U g) 4 j) : rg_has o = rg_kp g := by
  funext j
  rw [Bool.eq_iff_iff, h, rg_kp_iff]
  constructor
  · rintro ⟨c, h1, h2 | ⟨i, h2, h3⟩⟩
    · exact ⟨_, ⟨c, h1, Or.inl rfl⟩, h2⟩
    · exact ⟨i, ⟨c, h1, Or.inr h2⟩, h3⟩
  · rintro ⟨i, ⟨c, h1, e | h2⟩, h3⟩
    · rw [e] at h3; exact ⟨c, h1, Or.inl h3⟩
    · exact ⟨c, h1, Or.inr ⟨i, h2, h3⟩⟩
-- keepOnly
def gw_PI (g : rg_A) (K : Nat → Bool) (r : Nat) (rec : Nat → Nat → Int64) (fp sp : Nat → Int32) (an : Nat → Int64) (nn : Nat → Int32) : Prop :=
  (∀ q, q < rg_rk K r → rg_CR (rec q) (rg_pR K (ra_R g) r q) ∧ fp q = rg_pP K (ra_P g) r q ∧ sp q = rg_pP K (ra_Q g) r q ∧ ∀ j, rg_has (an q) j = true ↔ rg_An fp sp q j) ∧ (∀ q, r ≤ q → q < ra_n g → rg_CR (rec q) (ra_R g q) ∧ fp q = ra_P g q ∧ sp q = ra_Q g q) ∧ ∀ i, i < r → K i = true → nn i = nI (rg_rk K i)
theorem gw_PI_0 {rec : Nat → Nat → Int64} {fp sp : Nat → Int32} {an : Nat → Int64} {cnt pr lc : Int32} {pt uc : Nat → Int32} {un : Nat → Nat → Int32} {g : rg_A} {K : Nat → Bool} {nn : Nat → Int32} (h : gw_Rep rec fp sp an cnt pt un uc pr lc g) : gw_PI g K 0 rec fp sp an nn :=
  ⟨fun q hq => absurd hq (Nat.not_lt_zero q), fun q _ hq => ⟨h.2.2.2.2.1 q hq, (h.2.2.2.2.2.1 q hq).1, (h.2.2.2.2.2.1 q hq).2.1⟩, fun i hi => absurd hi (Nat.not_lt_zero i)⟩
theorem gw_PI_no {g : rg_A} {K : Nat → Bool} {r : Nat} {rec : Nat → Nat → Int64} {fp sp : Nat → Int32} {an : Nat → Int64} {nn : Nat → Int32} (h : gw_PI g K r rec fp sp an nn) (hk : K r = false) : gw_PI g K (r + 1) rec fp sp an nn := by
  have e1 : rg_rk K (r + 1) = rg_rk K r := by show rg_rk K r + (bif K r then 1 else 0) = _; rw [hk]; rfl
  have e2 : ∀ S : Nat → rg_R, rg_pR K S (r + 1) = rg_pR K S r := fun S => by show (bif K r then _ else _) = _; rw [hk]; rfl
  have e3 : ∀ S : Nat → Int32, rg_pP K S (r + 1) = rg_pP K S r := fun S => by show (bif K r then _ else _) = _; rw [hk]; rfl
  refine ⟨fun q hq => ?_, fun q h1 h2 => h.2.1 q (by omega) h2, fun i hi hki => h.2.2 i (Nat.lt_of_le_of_ne (by omega) (fun e => by rw [e, hk] at hki; cases hki)) hki⟩
  rw [e1] at hq
  rw [e2, e3, e3]
  exact h.1 q hq
theorem gw_nx_rx {K : Nat → Bool} {nn : Nat → Int32} {r : Nat} {x v : Int32} (hr : r < 60) (h : ∀ i, i < r → K i = true → nn i = nI (rg_rk K i)) (hx : x = -1 ∨ ∃ p, p < r ∧ K p = true ∧ x = nI p) : rg_nx (upd nn r v) x = rg_rx K x ∧ (rg_rx K x = -1 ∨ ∃ p, p < rg_rk K r ∧ rg_rx K x = nI p) := by
  rcases hx with rfl | ⟨p, hp, hk, rfl⟩
  · rw [rg_nx_m, rg_rx_m1]; exact ⟨rfl, Or.inl rfl⟩
  · rw [rg_nx_n _ (by omega), rg_rx_nI _ (by omega), pk_un (by omega), h p hp hk]
    exact ⟨rfl, Or.inr ⟨_, rg_rk_lt K hk hp, rfl⟩⟩
theorem gw_PI_yes {g : rg_A} {K : Nat → Bool} {r : Nat} {rec : Nat → Nat → Int64} {fp sp : Nat → Int32} {an : Nat → Int64} {nn : Nat → Int32} (h : gw_PI g K r rec fp sp an nn) (hk : K r = true) (hr : r < ra_n g) (hn : ra_n g ≤ 60) (hX : ra_P g r = -1 ∨ ∃ p, p < r ∧ K p = true ∧ ra_P g r = nI p) (hY : ra_Q g r = -1 ∨ ∃ p, p < r ∧ K p = true ∧ ra_Q g r = nI p) :
    gw_PI g K (r + 1) (va_up rec (rg_rk K r) (va_cpy (rec r) (rec (rg_rk K r)) 0 0 24)) (upd fp (rg_rk K r) (rg_nx (upd nn r (nI (rg_rk K r))) (fp r))) (upd sp (rg_rk K r) (rg_nx (upd nn r (nI (rg_rk K r))) (sp r))) (vp_updL an (rg_rk K r) ((((1 : Int64) <<< ((nI (rg_rk K r)).toInt64 &&& 63)) ||| (rg_ax an (rg_nx (upd nn r (nI (rg_rk K r))) (fp r)))) ||| (rg_ax an (rg_nx (upd nn r (nI (rg_rk K r))) (sp r))))) (upd nn r (nI (rg_rk K r))) := by
  have hle := rg_rk_le K r
  have e1 : rg_rk K (r + 1) = rg_rk K r + 1 := by show rg_rk K r + (bif K r then 1 else 0) = _; rw [hk]; rfl
  have e2 : ∀ S : Nat → rg_R, rg_pR K S (r + 1) = va_up (rg_pR K S r) (rg_rk K r) (S r) := fun S => by show (bif K r then _ else _) = _; rw [hk]; rfl
  have e3 : ∀ S : Nat → Int32, rg_pP K S (r + 1) = upd (rg_pP K S r) (rg_rk K r) (rg_rx K (S r)) := fun S => by show (bif K r then _ else _) = _; rw [hk]; rfl
  obtain ⟨a1, a2, a3⟩ := h.2.1 r (Nat.le_refl r) hr
  obtain ⟨x1, x2⟩ := gw_nx_rx (v := nI (rg_rk K r)) (by omega) h.2.2 hX
  obtain ⟨y1, y2⟩ := gw_nx_rx (v := nI (rg_rk K r)) (by omega) h.2.2 hY
  rw [a2, a3, x1, y1]
  refine ⟨fun q hq => ?_, fun q h1 h2 => ?_, fun i hi hki => ?_⟩
  · rw [e1] at hq
    rw [e2, e3, e3]
    by_cases e : q = rg_rk K r
    · subst e
      rw [rg_ups, rg_ups, pk_us, pk_us, pk_us, pk_us, pk_uLs]
      exact ⟨rg_CR_cpy a1, rfl, rfl, gw_an_gen (by omega) x2 y2 (fun q hq => (h.1 q hq).2.2.2)⟩
    · obtain ⟨b1, b2, b3, b4⟩ := h.1 q (by omega)
      rw [rg_upn _ _ e, rg_upn _ _ e, pk_un e, pk_un e, pk_un e, pk_un e, pk_uLn e]
      refine ⟨b1, b2, b3, fun j => (b4 j).trans ⟨rg_An_same (fun x hx => ⟨(pk_un (by omega)).symm, (pk_un (by omega)).symm⟩), rg_An_same (fun x hx => ⟨pk_un (by omega), pk_un (by omega)⟩)⟩⟩
  · have e : q ≠ rg_rk K r := by omega
    obtain ⟨b1, b2, b3⟩ := h.2.1 q (by omega) h2
    rw [rg_upn _ _ e, pk_un e, pk_un e]
    exact ⟨b1, b2, b3⟩
  · by_cases e : i = r
    · subst e; rw [pk_us]
    · rw [pk_un e]; exact h.2.2 i (by omega) hki
-- renumber
def gw_RU (U : Nat → List Nat) (K : Nat → Bool) (b k : Nat) (un : Nat → Nat → Int32) : Prop := ∀ c i, c < 4 → i < (U c).length → un c i = nI (if c < b ∨ (c = b ∧ i < k) then rg_rk K ((U c).getD i 0) else (U c).getD i 0)
theorem gw_RU_s {U : Nat → List Nat} {K : Nat → Bool} {b k : Nat} {un : Nat → Nat → Int32} (h : gw_RU U K b k un) : gw_RU U K b (k + 1) (va_up un b (upd (un b) k (nI (rg_rk K ((U b).getD k 0))))) := by
  intro c i hc hi
  by_cases e : c = b
  · subst e
    rw [rg_ups]
    by_cases e2 : i = k
    · subst e2; rw [pk_us, if_pos (by omega)]
    · rw [pk_un e2, h c i hc hi]
      by_cases h2 : c < c ∨ (c = c ∧ i < k)
      · rw [if_pos h2, if_pos (by omega)]
      · rw [if_neg h2, if_neg (by omega)]
  · rw [rg_upn _ _ e, h c i hc hi]
    by_cases h2 : c < b ∨ (c = b ∧ i < k)
    · rw [if_pos h2, if_pos (by omega)]
    · rw [if_neg h2, if_neg (by omega)]
theorem gw_RU_n {U : Nat → List Nat} {K : Nat → Bool} {b k : Nat} {un : Nat → Nat → Int32} (h : gw_RU U K b k un) (hk : (U b).length ≤ k) : gw_RU U K (b + 1) 0 un := by
  intro c i hc hi
  rw [h c i hc hi]
  by_cases h2 : c < b ∨ (c = b ∧ i < k)
  · rw [if_pos h2, if_pos (by omega)]
  · have : c ≠ b := fun e => by subst e; omega
    rw [if_neg h2, if_neg (by omega)]
theorem gw_ulen {rec : Nat → Nat → Int64} {fp sp : Nat → Int32} {an : Nat → Int64} {cnt pr lc : Int32} {pt uc : Nat → Int32} {un : Nat → Nat → Int32} {g : rg_A} (h : gw_Rep rec fp sp an cnt pt un uc pr lc g) : ∀ c, c < 4 → (ra_U g c).length < 60 := by
  intro c hc
  have h1 := rg_fall_lt (h.1.2.2.2.2.2.2.1 c hc).2.2 (h.1.2.2.2.2.2.2.1 c hc).2.1 (h.1.2.2.2.2.2.2.1 c hc).1
  have h2 := h.1.2.1
  omega
theorem gw_Rep_prune {rec rec' : Nat → Nat → Int64} {fp sp fp' sp' nn' : Nat → Int32} {an an' : Nat → Int64} {cnt pr lc : Int32} {pt uc pt' : Nat → Int32} {un un' : Nat → Nat → Int32} {g : rg_A} {K : Nat → Bool} (hK : K = rg_kp g) (h : gw_Rep rec fp sp an cnt pt un uc pr lc g) (hp : gw_PI g K (ra_n g) rec' fp' sp' an' nn') (ht : rm_RT (ra_T g) K 4 pt') (hu : gw_RU (ra_U g) K 4 0 un') : gw_Rep rec' fp' sp' an' (nI (rg_rk K (ra_n g))) pt' un' uc pr lc (rg_prune g) := by
  subst hK
  refine ⟨rg_Ok_prune h.1, rfl, h.2.2.1, h.2.2.2.1, fun r hr => (hp.1 r hr).1, fun r hr => ⟨(hp.1 r hr).2.1, (hp.1 r hr).2.2.1, fun j => ((hp.1 r hr).2.2.2 j).trans ?_⟩, fun b hb => ⟨?_, ?_, fun k hk => ?_⟩⟩
  · exact ⟨rg_An_same (fun q hq => ⟨(hp.1 q (Nat.lt_of_le_of_lt hq hr)).2.1, (hp.1 q (Nat.lt_of_le_of_lt hq hr)).2.2.1⟩), rg_An_same (fun q hq => ⟨(hp.1 q (Nat.lt_of_le_of_lt hq hr)).2.1.symm, (hp.1 q (Nat.lt_of_le_of_lt hq hr)).2.2.1.symm⟩)⟩
  · rw [ht b hb, if_pos hb]; rfl
  · show uc b = nI ((ra_U g b).map _).length
    rw [List.length_map]
    exact (h.2.2.2.2.2.2 b hb).2.1
  · have hk : k < ((ra_U g b).map (rg_rk (rg_kp g))).length := hk
    rw [List.length_map] at hk
    rw [hu b k hb hk, if_pos (Or.inl hb)]
    show nI _ = nI (((ra_U g b).map (rg_rk (rg_kp g))).getD k 0)
    simp only [List.getD_eq_getElem?_getD, List.getElem?_map, List.getElem?_eq_getElem hk, Option.map_some, Option.getD_some]
