/-! Prune: spec and picture. -/
-- what is needed by a branch
def rg_nd (g : rg_A) (i : Nat) : Prop := ∃ b, b < 4 ∧ (i = ra_T g b ∨ i ∈ ra_U g b)
noncomputable def rg_kp (g : rg_A) : Nat → Bool := fun j => @decide (∃ i, rg_nd g i ∧ rg_An (ra_P g) (ra_Q g) i j) (Classical.propDecidable _)
theorem rg_kp_iff (g : rg_A) (j : Nat) : rg_kp g j = true ↔ ∃ i, rg_nd g i ∧ rg_An (ra_P g) (ra_Q g) i j := @decide_eq_true_iff _ (Classical.propDecidable _)
def rg_rx (K : Nat → Bool) (x : Int32) : Int32 := if 0 ≤ x then nI (rg_rk K x.toNatClampNeg) else -1
def rg_pR (K : Nat → Bool) (R : Nat → rg_R) : Nat → Nat → rg_R
  | 0 => R
  | r + 1 => bif K r then va_up (rg_pR K R r) (rg_rk K r) (R r) else rg_pR K R r
def rg_pP (K : Nat → Bool) (P : Nat → Int32) : Nat → Nat → Int32
  | 0 => P
  | r + 1 => bif K r then upd (rg_pP K P r) (rg_rk K r) (rg_rx K (P r)) else rg_pP K P r
noncomputable def rg_prune (g : rg_A) : rg_A := (rg_rk (rg_kp g) (ra_n g), rg_pR (rg_kp g) (ra_R g) (ra_n g), rg_pP (rg_kp g) (ra_P g) (ra_n g), rg_pP (rg_kp g) (ra_Q g) (ra_n g), fun b => rg_rk (rg_kp g) (ra_T g b), fun b => (ra_U g b).map (rg_rk (rg_kp g)), ra_B g, ra_c g)
noncomputable def rg_oPrune (g : rg_A) : Int32 × Int32 × rg_A := (0, nI (ra_n g - rg_rk (rg_kp g) (ra_n g)), rg_prune g)
theorem rg_rk_le (K : Nat → Bool) (r : Nat) : rg_rk K r ≤ r := by
  induction r with
  | zero => exact Nat.le_refl 0
  | succ r ih =>
    show rg_rk K r + (bif K r then 1 else 0) ≤ r + 1
    cases K r <;> simp <;> omega
theorem rg_rk_mono (K : Nat → Bool) {p r : Nat} (h : p ≤ r) : rg_rk K p ≤ rg_rk K r := by
  induction r with
  | zero => rw [Nat.le_zero.mp h]; exact Nat.le_refl _
  | succ r ih =>
    rcases Nat.lt_or_ge r p with h1 | h1
    · have : p = r + 1 := by omega
      rw [this]; exact Nat.le_refl _
    · exact Nat.le_trans (ih h1) (Nat.le_add_right _ _)
theorem rg_rk_lt (K : Nat → Bool) {p r : Nat} (hk : K p = true) (h : p < r) : rg_rk K p < rg_rk K r := by
  have h1 : rg_rk K (p + 1) = rg_rk K p + 1 := by show rg_rk K p + (bif K p then 1 else 0) = _; rw [hk]; rfl
  have h2 := rg_rk_mono K (show p + 1 ≤ r from h)
  omega
theorem rg_pk_at (K : Nat → Bool) (R : Nat → rg_R) (P Q : Nat → Int32) : ∀ r q, q < rg_rk K r → ∃ i, i < r ∧ K i = true ∧ rg_rk K i = q ∧ rg_pR K R r q = R i ∧ rg_pP K P r q = rg_rx K (P i) ∧ rg_pP K Q r q = rg_rx K (Q i) := by
  intro r
  induction r with
  | zero => intro q hq; exact absurd hq (Nat.not_lt_zero q)
  | succ r ih =>
    intro q hq
    have hq : q < rg_rk K r + (bif K r then 1 else 0) := hq
    show ∃ i, i < r + 1 ∧ K i = true ∧ rg_rk K i = q ∧ (bif K r then va_up (rg_pR K R r) (rg_rk K r) (R r) else rg_pR K R r) q = R i ∧ (bif K r then upd (rg_pP K P r) (rg_rk K r) (rg_rx K (P r)) else rg_pP K P r) q = rg_rx K (P i) ∧ (bif K r then upd (rg_pP K Q r) (rg_rk K r) (rg_rx K (Q r)) else rg_pP K Q r) q = rg_rx K (Q i)
    cases hk : K r with
    | false =>
      rw [hk] at hq
      obtain ⟨i, h1, h2⟩ := ih q hq
      exact ⟨i, Nat.lt_succ_of_lt h1, h2⟩
    | true =>
      rw [hk] at hq
      by_cases e : q = rg_rk K r
      · subst e
        exact ⟨r, Nat.lt_succ_self r, hk, rfl, by simp [va_up], by simp [pk_us], by simp [pk_us]⟩
      · have hq : q < rg_rk K r + 1 := hq
        obtain ⟨i, h1, h2, h3, h4, h5, h6⟩ := ih q (by omega)
        refine ⟨i, Nat.lt_succ_of_lt h1, h2, h3, ?_, ?_, ?_⟩
        · show va_up (rg_pR K R r) (rg_rk K r) (R r) q = R i
          simp only [va_up, e, if_false]; exact h4
        · show upd (rg_pP K P r) (rg_rk K r) _ q = _
          rw [pk_un e]; exact h5
        · show upd (rg_pP K Q r) (rg_rk K r) _ q = _
          rw [pk_un e]; exact h6
theorem rg_rx_m1 (K : Nat → Bool) : rg_rx K (-1) = -1 := by unfold rg_rx; rw [if_neg (by decide)]
theorem rg_rx_nI (K : Nat → Bool) {p : Nat} (h : p < 2 ^ 31) : rg_rx K (nI p) = nI (rg_rk K p) := by unfold rg_rx; rw [if_pos (nI_pos' h), nI_clamp h]
-- kept numbers are closed under parents
theorem rg_kp_par {g : rg_A} {r p : Nat} (h : rg_kp g r = true) (hp : p < r) (hx : ra_P g r = nI p ∨ ra_Q g r = nI p) : rg_kp g p = true := by
  rw [rg_kp_iff] at h ⊢
  obtain ⟨i, h1, h2⟩ := h
  exact ⟨i, h1, rg_An_tr h2 (rg_An_up (rg_An_rf _ _ p) hp hx)⟩
theorem rg_kp_nd {g : rg_A} {i : Nat} (h : rg_nd g i) : rg_kp g i = true := (rg_kp_iff g i).mpr ⟨i, h, rg_An_rf _ _ i⟩
theorem rg_Ok_Pr {g : rg_A} (h : rg_Ok g) : rg_Pr (ra_n g) (ra_P g) (ra_Q g) := ⟨h.2.2.1, h.2.2.2.2.1, h.2.2.2.2.2.1⟩
theorem rg_kp_0 {g : rg_A} (h : rg_Ok g) : rg_kp g 0 = true := by
  rw [rg_kp_iff]
  exact ⟨ra_T g 0, ⟨0, by decide, Or.inl rfl⟩, rg_An_0 (rg_Ok_Pr h) _ (h.2.2.2.2.2.2.1 0 (by decide)).1⟩
theorem rg_Ok_prune {g : rg_A} (h : rg_Ok g) : rg_Ok (rg_prune g) := by
  have hk0 := rg_kp_0 h
  obtain ⟨o1, o2, o3, o4, o5, o6, o7, o8, o9⟩ := h
  have at' := rg_pk_at (rg_kp g) (ra_R g) (ra_P g) (ra_Q g) (ra_n g)
  have h1 : 1 ≤ rg_rk (rg_kp g) (ra_n g) := rg_rk_lt (rg_kp g) hk0 (show 0 < ra_n g by omega)
  have zero : ∀ i, rg_kp g i = true → rg_rk (rg_kp g) i = 0 → i = 0 := by
    intro i hi h0
    rcases Nat.eq_zero_or_pos i with e | e
    · exact e
    · have := rg_rk_lt (rg_kp g) hk0 e
      omega
  refine ⟨h1, Nat.le_trans (rg_rk_le _ _) o2, ?_, ?_, ?_, ?_, ?_, o8, ?_⟩
  · obtain ⟨i, i1, i2, i3, i4, i5, i6⟩ := at' 0 h1
    have := zero i i2 i3
    subst this
    show rg_pP _ _ _ 0 = -1
    rw [i5, o3, rg_rx_m1]
  · obtain ⟨i, i1, i2, i3, i4, i5, i6⟩ := at' 0 h1
    have := zero i i2 i3
    subst this
    show rg_pP _ _ _ 0 = -1
    rw [i6, o4, rg_rx_m1]
  · intro q hq hqn
    obtain ⟨i, i1, i2, i3, i4, i5, i6⟩ := at' q hqn
    have hi : 0 < i := Nat.pos_of_ne_zero (fun e => by subst e; have : rg_rk (rg_kp g) 0 = 0 := rfl; omega)
    obtain ⟨p, p1, p2⟩ := o5 i hi i1
    refine ⟨rg_rk (rg_kp g) p, ?_, ?_⟩
    · rw [← i3]; exact rg_rk_lt _ (rg_kp_par i2 p1 (Or.inl p2)) p1
    · show rg_pP _ _ _ q = _
      rw [i5, p2, rg_rx_nI _ (by omega)]
  · intro q hqn
    obtain ⟨i, i1, i2, i3, i4, i5, i6⟩ := at' q hqn
    show rg_pP _ _ _ q = -1 ∨ ∃ p, p < q ∧ rg_pP _ _ _ q = nI p
    rw [i6]
    rcases o6 i i1 with p2 | ⟨p, p1, p2⟩
    · left; rw [p2, rg_rx_m1]
    · right
      refine ⟨rg_rk (rg_kp g) p, ?_, ?_⟩
      · rw [← i3]; exact rg_rk_lt _ (rg_kp_par i2 p1 (Or.inr p2)) p1
      · rw [p2, rg_rx_nI _ (by omega)]
  · intro b hb
    obtain ⟨t1, t2, t3⟩ := o7 b hb
    refine ⟨rg_rk_lt _ (rg_kp_nd ⟨b, hb, Or.inl rfl⟩) t1, fun u hu => ?_, ?_⟩
    · obtain ⟨v, hv, rfl⟩ := List.mem_map.mp hu
      exact rg_rk_lt _ (rg_kp_nd ⟨b, hb, Or.inr hv⟩) (t2 v hv)
    · show (((ra_U g b).map (rg_rk (rg_kp g))) ++ [rg_rk (rg_kp g) (ra_T g b)]).Pairwise _
      have e : ((ra_U g b).map (rg_rk (rg_kp g))) ++ [rg_rk (rg_kp g) (ra_T g b)] = (ra_U g b ++ [ra_T g b]).map (rg_rk (rg_kp g)) := by simp
      rw [e, List.pairwise_map]
      refine List.Pairwise.imp_of_mem ?_ t3
      intro x y hx hy hxy
      refine rg_rk_lt _ (rg_kp_nd ⟨b, hb, ?_⟩) hxy
      rcases List.mem_append.mp hy with h | h
      · exact Or.inr h
      · exact Or.inl (by simpa using h)
  · intro q hq f hf
    obtain ⟨i, i1, i2, i3, i4, i5, i6⟩ := at' q hq
    show ((rg_pR _ _ _ q).2.2.2 f).length ≤ 8
    rw [i4]
    exact o9 i i1 f hf
-- while revisions are moved down: slots below the rank are new, slots from r on are as they were
def rm_PI (g : rg_A) (K : Nat → Bool) (r : Nat) (nu : Nat → Int32) (co : Nat → Int64) (se li le fi sc : Nat → Int32) : Prop :=
  (∀ q, q < rg_rk K r → rg_MR nu co se le li q (rg_pR K (ra_R g) r q) ∧ fi q = rg_pP K (ra_P g) r q ∧ sc q = rg_pP K (ra_Q g) r q) ∧ ∀ q, r ≤ q → q < ra_n g → rg_MR nu co se le li q (ra_R g q) ∧ fi q = ra_P g q ∧ sc q = ra_Q g q
theorem rm_PI_no {g : rg_A} {K : Nat → Bool} {r : Nat} {nu : Nat → Int32} {co : Nat → Int64} {se li le fi sc : Nat → Int32} (h : rm_PI g K r nu co se li le fi sc) (hk : K r = false) : rm_PI g K (r + 1) nu co se li le fi sc := by
  have e1 : rg_rk K (r + 1) = rg_rk K r := by show rg_rk K r + (bif K r then 1 else 0) = _; rw [hk]; rfl
  have e2 : ∀ S : Nat → rg_R, rg_pR K S (r + 1) = rg_pR K S r := fun S => by show (bif K r then _ else _) = _; rw [hk]; rfl
  have e3 : ∀ S : Nat → Int32, rg_pP K S (r + 1) = rg_pP K S r := fun S => by show (bif K r then _ else _) = _; rw [hk]; rfl
  refine ⟨fun q hq => ?_, fun q h1 h2 => h.2 q (by omega) h2⟩
  rw [e1] at hq
  rw [e2, e3, e3]
  exact h.1 q hq
theorem rm_PI_yes {g : rg_A} {K : Nat → Bool} {r : Nat} {nu : Nat → Int32} {co : Nat → Int64} {se li le fi sc : Nat → Int32} (h : rm_PI g K r nu co se li le fi sc) (hk : K r = true) (hr : r < ra_n g) :
    rm_PI g K (r + 1) (va_cpy nu nu (2 * r) (2 * rg_rk K r) 2) (va_cpy co co (2 * r) (2 * rg_rk K r) 2) (va_cpy se se (2 * r) (2 * rg_rk K r) 2) (va_cpy li li (16 * r) (16 * rg_rk K r) 16) (va_cpy le le (2 * r) (2 * rg_rk K r) 2) (upd (upd fi (rg_rk K r) (fi r)) (rg_rk K r) (rg_rx K (fi r))) (upd (upd sc (rg_rk K r) (sc r)) (rg_rk K r) (rg_rx K (sc r))) := by
  have hle := rg_rk_le K r
  have e1 : rg_rk K (r + 1) = rg_rk K r + 1 := by show rg_rk K r + (bif K r then 1 else 0) = _; rw [hk]; rfl
  have e2 : ∀ S : Nat → rg_R, rg_pR K S (r + 1) = va_up (rg_pR K S r) (rg_rk K r) (S r) := fun S => by show (bif K r then _ else _) = _; rw [hk]; rfl
  have e3 : ∀ S : Nat → Int32, rg_pP K S (r + 1) = upd (rg_pP K S r) (rg_rk K r) (rg_rx K (S r)) := fun S => by show (bif K r then _ else _) = _; rw [hk]; rfl
  obtain ⟨a1, a2, a3⟩ := h.2 r (Nat.le_refl r) hr
  refine ⟨fun q hq => ?_, fun q h1 h2 => ?_⟩
  · rw [e1] at hq
    rw [e2, e3, e3]
    by_cases e : q = rg_rk K r
    · subst e
      simp only [va_up, if_true, pk_us]
      exact ⟨rg_MR_copy a1, by rw [a2], by rw [a3]⟩
    · obtain ⟨b1, b2, b3⟩ := h.1 q (by omega)
      simp only [va_up, e, if_false, pk_un e]
      exact ⟨rg_MR_keep b1 e (fun j hj => pk_cpy_out hj) (fun j hj => pk_cpy_out hj) (fun j hj => pk_cpy_out hj) (fun j hj => pk_cpy_out hj) (fun j hj => pk_cpy_out hj), b2, b3⟩
  · have e : q ≠ rg_rk K r := by omega
    obtain ⟨b1, b2, b3⟩ := h.2 q (by omega) h2
    simp only [pk_un e]
    exact ⟨rg_MR_keep b1 e (fun j hj => pk_cpy_out hj) (fun j hj => pk_cpy_out hj) (fun j hj => pk_cpy_out hj) (fun j hj => pk_cpy_out hj) (fun j hj => pk_cpy_out hj), b2, b3⟩
theorem rm_Rep_prune {bra cof : Int32} {nu nu' : Nat → Int32} {co co' : Nat → Int64} {se li le fi sc ti un ma se' li' le' fi' sc' ti' un' : Nat → Int32} {cnt : Int32} {g : rg_A} (h : rm_Rep cnt bra cof nu co se li le fi sc ti un ma g) (hp : rm_PI g (rg_kp g) (ra_n g) nu' co' se' li' le' fi' sc')
    (ht : ∀ b, b < 4 → ti' b = nI (rg_rk (rg_kp g) (ra_T g b)) ∧ ∀ k, k < (ra_U g b).length → un' (60 * b + k) = nI (rg_rk (rg_kp g) ((ra_U g b).getD k 0))) : rm_Rep (nI (rg_rk (rg_kp g) (ra_n g))) bra cof nu' co' se' li' le' fi' sc' ti' un' ma (rg_prune g) := by
  refine ⟨rg_Ok_prune h.1, rfl, h.2.2.1, h.2.2.2.1, fun r hr => (hp.1 r hr).1, fun r hr => (hp.1 r hr).2, fun b hb => ?_⟩
  obtain ⟨t1, t2⟩ := ht b hb
  refine ⟨t1, ?_, fun k hk => ?_⟩
  · show ma b = nI ((ra_U g b).map _).length
    rw [List.length_map]
    exact (h.2.2.2.2.2.2 b hb).2.1
  · have hk : k < ((ra_U g b).map (rg_rk (rg_kp g))).length := hk
    rw [List.length_map] at hk
    rw [t2 k hk]
    show nI _ = nI (((ra_U g b).map (rg_rk (rg_kp g))).getD k 0)
    simp only [List.getD_eq_getElem?_getD, List.getElem?_map, List.getElem?_eq_getElem hk, Option.map_some, Option.getD_some]
