/-! Branches of the class: the picture behind each call. -/
theorem gw_Rep_br {rec : Nat → Nat → Int64} {fp sp : Nat → Int32} {an : Nat → Int64} {cnt pr lc : Int32} {pt uc : Nat → Int32} {un : Nat → Nat → Int32} {g : rg_A} {pr' : Int32} {pt' uc' : Nat → Int32} {un' : Nat → Nat → Int32} {T' : Nat → Nat} {U' : Nat → List Nat} {B' : Nat} (h : gw_Rep rec fp sp an cnt pt un uc pr lc g) (hb : pr' = nI B') (hB : B' < 4)
    (hk : ∀ b, b < 4 → T' b < ra_n g ∧ (∀ u ∈ U' b, u < ra_n g) ∧ rg_fall (U' b) (T' b)) (ha : ∀ b, b < 4 → pt' b = nI (T' b) ∧ uc' b = nI (U' b).length ∧ ∀ k, k < (U' b).length → un' b k = nI ((U' b).getD k 0)) : gw_Rep rec fp sp an cnt pt' un' uc' pr' lc (ra_n g, ra_R g, ra_P g, ra_Q g, T', U', B', ra_c g) := by
  obtain ⟨⟨o1, o2, o3, o4, o5, o6, o7, o8, o9⟩, h2, h3, h4, h5, h6, h7⟩ := h
  exact ⟨⟨o1, o2, o3, o4, o5, o6, hk, hB, o9⟩, h2, hb, h4, h5, h6, ha⟩
theorem gw_Rep_point {rec : Nat → Nat → Int64} {fp sp : Nat → Int32} {an : Nat → Int64} {cnt pr lc : Int32} {pt uc : Nat → Int32} {un : Nat → Nat → Int32} {g : rg_A} {j : Nat} (h : gw_Rep rec fp sp an cnt pt un uc pr lc g) (hj : j < 4) (hne : ¬ j = ra_B g) : gw_Rep rec fp sp an cnt (upd pt j (nI (ra_t g))) un (upd uc j (nI 0)) pr lc (rg_point g j) := by
  obtain ⟨o1, o2, o3, o4, o5, o6, o7, o8, o9⟩ := h.1
  refine gw_Rep_br h h.2.2.1 o8 (fun b hb => ?_) (fun b hb => ?_)
  · by_cases e : b = j
    · subst e
      simp only [va_up, if_true]
      rw [if_neg hne]
      exact ⟨(o7 _ o8).1, (fun u hu => by cases hu), rg_fall_nil _⟩
    · simp only [va_up, e, if_false]
      exact o7 b hb
  · by_cases e : b = j
    · subst e
      simp only [va_up, if_true, pk_us]
      rw [if_neg hne]
      exact ⟨by first | rfl | trivial, by first | rfl | trivial, fun k hk => by cases hk⟩
    · simp only [va_up, e, if_false, pk_un e]
      exact h.2.2.2.2.2.2 b hb
theorem rg_point_self {g : rg_A} : rg_point g (ra_B g) = g := by
  unfold rg_point
  rw [if_pos rfl]
  have e1 : va_up (ra_T g) (ra_B g) (ra_t g) = ra_T g := by
    funext b
    by_cases e : b = ra_B g
    · rw [e, rg_ups]
    · rw [rg_upn _ _ e]
  have e2 : va_up (ra_U g) (ra_B g) (ra_U g (ra_B g)) = ra_U g := by
    funext b
    by_cases e : b = ra_B g
    · rw [e, rg_ups]
    · rw [rg_upn _ _ e]
  rw [e1, e2]
theorem gw_Rep_come {rec : Nat → Nat → Int64} {fp sp : Nat → Int32} {an : Nat → Int64} {cnt pr lc : Int32} {pt uc : Nat → Int32} {un : Nat → Nat → Int32} {g : rg_A} {r : Nat} (h : gw_Rep rec fp sp an cnt pt un uc pr lc g) (hr : r < ra_n g) : gw_Rep rec fp sp an cnt (upd pt (ra_B g) (nI r)) un (upd uc (ra_B g) (nI 0)) pr lc (rg_come g r) := by
  obtain ⟨o1, o2, o3, o4, o5, o6, o7, o8, o9⟩ := h.1
  refine gw_Rep_br h h.2.2.1 o8 (fun b hb => ?_) (fun b hb => ?_)
  · by_cases e : b = ra_B g
    · subst e
      simp only [va_up, if_true]
      exact ⟨hr, (fun u hu => by cases hu), rg_fall_nil _⟩
    · simp only [va_up, e, if_false]
      exact o7 b hb
  · by_cases e : b = ra_B g
    · subst e
      simp only [va_up, if_true, pk_us]
      exact ⟨by first | rfl | trivial, by first | rfl | trivial, fun k hk => by cases hk⟩
    · simp only [va_up, e, if_false, pk_un e]
      exact h.2.2.2.2.2.2 b hb
theorem gw_Rep_turn {rec : Nat → Nat → Int64} {fp sp : Nat → Int32} {an : Nat → Int64} {cnt pr lc : Int32} {pt uc : Nat → Int32} {un : Nat → Nat → Int32} {g : rg_A} {j : Nat} (h : gw_Rep rec fp sp an cnt pt un uc pr lc g) (hj : j < 4) : gw_Rep rec fp sp an cnt pt un uc (nI j) lc (rg_turn g j) :=
  gw_Rep_br h rfl hj h.1.2.2.2.2.2.2.1 h.2.2.2.2.2.2
theorem gw_Rep_undo {rec : Nat → Nat → Int64} {fp sp : Nat → Int32} {an : Nat → Int64} {cnt pr lc : Int32} {pt uc : Nat → Int32} {un : Nat → Nat → Int32} {g : rg_A} {p : Nat} (h : gw_Rep rec fp sp an cnt pt un uc pr lc g) (hp : p < ra_t g) (he : ra_P g (ra_t g) = nI p) :
    gw_Rep rec fp sp an cnt (upd pt (ra_B g) (nI p)) (va_up un (ra_B g) (upd (un (ra_B g)) (ra_U g (ra_B g)).length (pt (ra_B g)))) (upd uc (ra_B g) (nI ((ra_U g (ra_B g)).length + 1))) pr lc (rg_undo g) := by
  obtain ⟨o1, o2, o3, o4, o5, o6, o7, o8, o9⟩ := h.1
  have hp9 : p < 2 ^ 31 := by have : ra_t g < ra_n g := (o7 _ o8).1; omega
  unfold rg_undo
  rw [he, nI_clamp hp9]
  refine gw_Rep_br h h.2.2.1 o8 (fun b hb => ?_) (fun b hb => ?_)
  · by_cases e : b = ra_B g
    · subst e
      simp only [va_up, if_true]
      refine ⟨Nat.lt_trans hp (o7 _ o8).1, fun u hu => ?_, rg_fall_push (o7 _ o8).2.2 hp⟩
      rcases List.mem_append.mp hu with h1 | h1
      · exact (o7 _ o8).2.1 u h1
      · have : u = ra_t g := by simpa using h1
        rw [this]; exact (o7 _ o8).1
    · simp only [va_up, e, if_false]
      exact o7 b hb
  · obtain ⟨a1, a2, a3⟩ := h.2.2.2.2.2.2 b hb
    by_cases e : b = ra_B g
    · subst e
      simp only [va_up, if_true, pk_us]
      refine ⟨by first | rfl | trivial, by simp, fun k hk => ?_⟩
      have hk : k < (ra_U g (ra_B g)).length + 1 := by simpa using hk
      by_cases e2 : k = (ra_U g (ra_B g)).length
      · rw [e2, pk_us, a1]
        simp [List.getD_eq_getElem?_getD]
      · rw [pk_un e2, a3 k (by omega)]
        simp only [List.getD_eq_getElem?_getD]
        rw [List.getElem?_append_left (by omega)]
    · simp only [va_up, e, if_false, pk_un e]
      exact ⟨a1, a2, a3⟩
theorem gw_Rep_redo {rec : Nat → Nat → Int64} {fp sp : Nat → Int32} {an : Nat → Int64} {cnt pr lc : Int32} {pt uc : Nat → Int32} {un : Nat → Nat → Int32} {g : rg_A} (h : gw_Rep rec fp sp an cnt pt un uc pr lc g) (hl : 0 < (ra_U g (ra_B g)).length) :
    gw_Rep rec fp sp an cnt (upd pt (ra_B g) (nI (ra_last (ra_U g (ra_B g))))) un (upd uc (ra_B g) (nI ((ra_U g (ra_B g)).length - 1))) pr lc (rg_redo g) := by
  obtain ⟨o1, o2, o3, o4, o5, o6, o7, o8, o9⟩ := h.1
  have hm := ra_last_mem hl
  refine gw_Rep_br h h.2.2.1 o8 (fun b hb => ?_) (fun b hb => ?_)
  · by_cases e : b = ra_B g
    · subst e
      simp only [va_up, if_true]
      obtain ⟨b1, b2, b3⟩ := o7 _ o8
      unfold rg_fall at b3 ⊢
      refine ⟨?_, fun u hu => ?_, ?_⟩
      · exact b2 _ (by rw [hm]; simp [ra_last])
      · exact b2 u (by rw [hm]; exact List.mem_append_left _ hu)
      · rw [← hm]
        exact (List.pairwise_append.mp b3).1
    · simp only [va_up, e, if_false]
      exact o7 b hb
  · obtain ⟨a1, a2, a3⟩ := h.2.2.2.2.2.2 b hb
    by_cases e : b = ra_B g
    · subst e
      simp only [va_up, if_true, pk_us]
      refine ⟨by first | rfl | trivial, by simp, fun k hk => ?_⟩
      have hk : k < (ra_U g (ra_B g)).length - 1 := by simpa using hk
      rw [a3 k (by omega)]
      simp only [List.getD_eq_getElem?_getD]
      rw [List.getElem?_dropLast, if_pos hk]
    · simp only [va_up, e, if_false, pk_un e]
      exact ⟨a1, a2, a3⟩
def gw_Pl (o : Int32 × Int64) (g : rg_A) (z : Int64) (u : gw_S) : Prop := gw_Ru u g ∧ o.1 = 0 ∧ z = o.2
-- the bits of the fields that differ, as the class gathers them
def rg_cd (X Y : rg_R) : Nat → Int32
  | 0 => nI 0
  | f + 1 => bif rg_sf X Y f then rg_cd X Y f else rg_cd X Y f ||| (nI 1 <<< (nI f &&& 31))
theorem rg_cd8 : ∀ a b d e f g h i : Bool, (let s1 := bif a then nI 0 else nI 0 ||| (nI 1 <<< (nI 0 &&& 31)); let s2 := bif b then s1 else s1 ||| (nI 1 <<< (nI 1 &&& 31)); let s3 := bif d then s2 else s2 ||| (nI 1 <<< (nI 2 &&& 31)); let s4 := bif e then s3 else s3 ||| (nI 1 <<< (nI 3 &&& 31)); let s5 := bif f then s4 else s4 ||| (nI 1 <<< (nI 4 &&& 31)); let s6 := bif g then s5 else s5 ||| (nI 1 <<< (nI 5 &&& 31)); let s7 := bif h then s6 else s6 ||| (nI 1 <<< (nI 6 &&& 31)); bif i then s7 else s7 ||| (nI 1 <<< (nI 7 &&& 31)))
    = ((((((((nI 0 ||| (bif a then nI 0 else nI 1 <<< (nI 0 &&& 31))) ||| (bif d then nI 0 else nI 4 <<< (nI 0 &&& 31))) ||| (bif f then nI 0 else nI 16 <<< (nI 0 &&& 31))) ||| (bif h then nI 0 else nI 64 <<< (nI 0 &&& 31))) ||| (bif b then nI 0 else nI 1 <<< (nI 1 &&& 31))) ||| (bif e then nI 0 else nI 4 <<< (nI 1 &&& 31))) ||| (bif g then nI 0 else nI 16 <<< (nI 1 &&& 31))) ||| (bif i then nI 0 else nI 64 <<< (nI 1 &&& 31))) := by decide +kernel
theorem rg_cd_eq (X Y : rg_R) : rg_cd X Y 8 = rg_dif X Y := by
  unfold rg_dif
  simp only [rg_difK]
  rw [← rg_cd8 (decide (X.1 0 = Y.1 0)) (decide (X.1 1 = Y.1 1)) (decide (X.2.1 0 = Y.2.1 0)) (decide (X.2.1 1 = Y.2.1 1)) (decide (X.2.2.1 0 = Y.2.2.1 0)) (decide (X.2.2.1 1 = Y.2.2.1 1)) (decide (X.2.2.2 0 = Y.2.2.2 0)) (decide (X.2.2.2 1 = Y.2.2.2 1))]
  rfl

