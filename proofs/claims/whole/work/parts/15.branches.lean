/-! Branches: spec and picture. -/
def rg_isB (x : Int32) : Bool := !(decide (x < 0) || decide (3 < x))
def rg_isR (n : Nat) (x : Int32) : Bool := !(decide (x < 0) || decide (nI n ≤ x))
theorem rg_isB_ok {j : Nat} (h : j < 4) : rg_isB (nI j) = true := by
  unfold rg_isB
  rw [decide_eq_false (nI_pos (by omega)), decide_eq_false (show ¬ (3 : Int32) < nI j from nI_nlt (b := j) (a := 3) (by omega) (by omega))]
  rfl
theorem rg_isB_of {x : Int32} (h : rg_isB x = true) : ∃ j, j < 4 ∧ x = nI j := by
  unfold rg_isB at h
  simp only [Bool.not_eq_true', Bool.or_eq_false_iff, decide_eq_false_iff_not] at h
  obtain ⟨j, hj, e⟩ := nI_of2 (M := 3) (n := 3) (by decide) h.1 (Int32.not_lt.mp h.2)
  exact ⟨j, by omega, e⟩
theorem rg_isR_ok {n j : Nat} (hn : n < 2 ^ 31) (h : j < n) : rg_isR n (nI j) = true := by
  unfold rg_isR
  rw [decide_eq_false (nI_pos (by omega)), decide_eq_false (nI_ge h hn)]
  rfl
theorem rg_isR_of {n : Nat} {x : Int32} (h : rg_isR n x = true) : ∃ j, j < n ∧ x = nI j := by
  unfold rg_isR at h
  simp only [Bool.not_eq_true', Bool.or_eq_false_iff, decide_eq_false_iff_not] at h
  obtain ⟨j, hj, e⟩ := nI_of h.1
  subst e
  exact ⟨j, Nat.lt_of_not_le fun q => h.2 (nI_le q hj), rfl⟩
theorem rm_Rep_br {cnt bra bra' cof : Int32} {nu : Nat → Int32} {co : Nat → Int64} {se li le fi sc ti un ma ti' un' ma' : Nat → Int32} {g : rg_A} {T' : Nat → Nat} {U' : Nat → List Nat} {B' : Nat} (h : rm_Rep cnt bra cof nu co se li le fi sc ti un ma g) (hb : bra' = nI B') (hB : B' < 4)
    (hk : ∀ b, b < 4 → T' b < ra_n g ∧ (∀ u ∈ U' b, u < ra_n g) ∧ rg_fall (U' b) (T' b)) (ha : ∀ b, b < 4 → ti' b = nI (T' b) ∧ ma' b = nI (U' b).length ∧ ∀ k, k < (U' b).length → un' (60 * b + k) = nI ((U' b).getD k 0)) : rm_Rep cnt bra' cof nu co se li le fi sc ti' un' ma' (ra_n g, ra_R g, ra_P g, ra_Q g, T', U', B', ra_c g) := by
  obtain ⟨⟨o1, o2, o3, o4, o5, o6, o7, o8, o9⟩, h2, h3, h4, h5, h6, h7⟩ := h
  exact ⟨⟨o1, o2, o3, o4, o5, o6, hk, hB, o9⟩, h2, hb, h4, h5, h6, ha⟩
def rg_point (g : rg_A) (j : Nat) : rg_A := (ra_n g, ra_R g, ra_P g, ra_Q g, va_up (ra_T g) j (ra_t g), va_up (ra_U g) j (if j = ra_B g then ra_U g j else []), ra_B g, ra_c g)
def rg_turn (g : rg_A) (j : Nat) : rg_A := (ra_n g, ra_R g, ra_P g, ra_Q g, ra_T g, ra_U g, j, ra_c g)
def rg_undo (g : rg_A) : rg_A := (ra_n g, ra_R g, ra_P g, ra_Q g, va_up (ra_T g) (ra_B g) (ra_P g (ra_t g)).toNatClampNeg, va_up (ra_U g) (ra_B g) (ra_U g (ra_B g) ++ [ra_t g]), ra_B g, ra_c g)
def ra_last (l : List Nat) : Nat := l.getD (l.length - 1) 0
def rg_redo (g : rg_A) : rg_A := (ra_n g, ra_R g, ra_P g, ra_Q g, va_up (ra_T g) (ra_B g) (ra_last (ra_U g (ra_B g))), va_up (ra_U g) (ra_B g) (ra_U g (ra_B g)).dropLast, ra_B g, ra_c g)
def rg_oPoint (g : rg_A) (x : Int32) : Int32 × Int32 × rg_A := bif rg_isB x then (0, 0, rg_point g x.toNatClampNeg) else (1, 0, g)
def rg_oTurn (g : rg_A) (x : Int32) : Int32 × Int32 × rg_A := bif rg_isB x then (0, nI (ra_T g x.toNatClampNeg), rg_turn g x.toNatClampNeg) else (1, 0, g)
def rg_oGo (g : rg_A) (x : Int32) : Int32 × Int32 × rg_A := bif rg_isR (ra_n g) x then (0, 0, rg_come g x.toNatClampNeg) else (1, 0, g)
def rg_oUndo (g : rg_A) : Int32 × Int32 × rg_A := if ra_t g = 0 then (1, 0, g) else (0, ra_P g (ra_t g), rg_undo g)
def rg_oRedo (g : rg_A) : Int32 × Int32 × rg_A := if (ra_U g (ra_B g)).length = 0 then (1, 0, g) else (0, nI (ra_last (ra_U g (ra_B g))), rg_redo g)
def rm_Pv (o : Int32 × Int32 × rg_A) (u : rm_S) : Prop := rm_Ru u o.2.2 ∧ u.1 = o.1
theorem rm_Rep_point {cnt bra cof : Int32} {nu : Nat → Int32} {co : Nat → Int64} {se li le fi sc ti un ma : Nat → Int32} {g : rg_A} {j : Nat} (h : rm_Rep cnt bra cof nu co se li le fi sc ti un ma g) (hj : j < 4) : rm_Rep cnt bra cof nu co se li le fi sc (upd ti j (nI (ra_t g))) un (upd ma j (if j = ra_B g then ma j else nI 0)) (rg_point g j) := by
  obtain ⟨o1, o2, o3, o4, o5, o6, o7, o8, o9⟩ := h.1
  refine rm_Rep_br h h.2.2.1 o8 (fun b hb => ?_) (fun b hb => ?_)
  · by_cases e : b = j
    · subst e
      simp only [va_up, if_true]
      refine ⟨(o7 _ o8).1, ?_⟩
      by_cases e2 : b = ra_B g
      · rw [if_pos e2]
        have := (o7 b hb).2
        rw [show ra_t g = ra_T g b by rw [e2]]
        exact this
      · rw [if_neg e2]
        exact ⟨(fun u hu => by cases hu), rg_fall_nil _⟩
    · simp only [va_up, e, if_false]
      exact o7 b hb
  · by_cases e : b = j
    · subst e
      simp only [va_up, if_true, pk_us]
      refine ⟨by first | rfl | trivial, ?_⟩
      by_cases e2 : b = ra_B g
      · rw [if_pos e2, if_pos e2]
        exact (h.2.2.2.2.2.2 b hb).2
      · rw [if_neg e2, if_neg e2]
        exact ⟨by first | rfl | trivial, fun k hk => by cases hk⟩
    · simp only [va_up, e, if_false, pk_un e]
      exact h.2.2.2.2.2.2 b hb
theorem rm_Rep_come {cnt bra cof : Int32} {nu : Nat → Int32} {co : Nat → Int64} {se li le fi sc ti un ma : Nat → Int32} {g : rg_A} {r : Nat} (h : rm_Rep cnt bra cof nu co se li le fi sc ti un ma g) (hr : r < ra_n g) : rm_Rep cnt bra cof nu co se li le fi sc (upd ti (ra_B g) (nI r)) un (upd ma (ra_B g) (nI 0)) (rg_come g r) := by
  obtain ⟨o1, o2, o3, o4, o5, o6, o7, o8, o9⟩ := h.1
  refine rm_Rep_br h h.2.2.1 o8 (fun b hb => ?_) (fun b hb => ?_)
  · by_cases e : b = ra_B g
    · subst e
      simp only [va_up, if_true]
      exact ⟨hr, (fun u hu => by cases hu), rg_fall_nil _⟩
    · simp only [va_up, e, if_false]
      exact o7 b hb
  · by_cases e : b = ra_B g
    · subst e
      simp only [va_up, if_true, pk_us]
      exact ⟨by first | rfl | trivial, by first | rfl | trivial, fun k hk => by cases hk⟩
    · simp only [va_up, e, if_false, pk_un e]
      exact h.2.2.2.2.2.2 b hb
theorem rm_Rep_turn {cnt bra cof : Int32} {nu : Nat → Int32} {co : Nat → Int64} {se li le fi sc ti un ma : Nat → Int32} {g : rg_A} {j : Nat} (h : rm_Rep cnt bra cof nu co se li le fi sc ti un ma g) (hj : j < 4) : rm_Rep cnt (nI j) cof nu co se li le fi sc ti un ma (rg_turn g j) :=
  rm_Rep_br h rfl hj h.1.2.2.2.2.2.2.1 h.2.2.2.2.2.2
theorem rm_Rep_undo {cnt bra cof : Int32} {nu : Nat → Int32} {co : Nat → Int64} {se li le fi sc ti un ma : Nat → Int32} {g : rg_A} {p : Nat} (h : rm_Rep cnt bra cof nu co se li le fi sc ti un ma g) (hp : p < ra_t g) (he : ra_P g (ra_t g) = nI p) :
    rm_Rep cnt bra cof nu co se li le fi sc (upd ti (ra_B g) (nI p)) (upd un (60 * ra_B g + (ra_U g (ra_B g)).length) (nI (ra_t g))) (upd ma (ra_B g) (nI ((ra_U g (ra_B g)).length + 1))) (rg_undo g) := by
  obtain ⟨o1, o2, o3, o4, o5, o6, o7, o8, o9⟩ := h.1
  have hlen := rg_fall_lt (o7 _ o8).2.2 (o7 _ o8).2.1 (o7 _ o8).1
  have hp9 : p < 2 ^ 31 := by have : ra_t g < ra_n g := (o7 _ o8).1; omega
  unfold rg_undo
  rw [he, nI_clamp hp9]
  refine rm_Rep_br h h.2.2.1 o8 (fun b hb => ?_) (fun b hb => ?_)
  · by_cases e : b = ra_B g
    · subst e
      simp only [va_up, if_true]
      refine ⟨Nat.lt_trans hp (o7 _ o8).1, fun u hu => ?_, rg_fall_push (o7 _ o8).2.2 hp⟩
      rcases List.mem_append.mp hu with h1 | h1
      · exact (o7 _ o8).2.1 u h1
      · have : u = ra_t g := by simpa using h1
        rw [this]; exact (o7 _ o8).1
    · simp only [va_up, e, if_false]
      exact o7 b hb
  · obtain ⟨a1, a2, a3⟩ := h.2.2.2.2.2.2 b hb
    by_cases e : b = ra_B g
    · subst e
      simp only [va_up, if_true, pk_us]
      refine ⟨by first | rfl | trivial, by simp, fun k hk => ?_⟩
      have hk : k < (ra_U g (ra_B g)).length + 1 := by simpa using hk
      by_cases e2 : k = (ra_U g (ra_B g)).length
      · rw [e2, pk_us]
        simp [List.getD_eq_getElem?_getD]
      · rw [pk_un (by omega), a3 k (by omega)]
        simp only [List.getD_eq_getElem?_getD]
        rw [List.getElem?_append_left (by omega)]
    · simp only [va_up, e, if_false, pk_un e]
      refine ⟨a1, a2, fun k hk => ?_⟩
      have h8 := rg_fall_lt (o7 b hb).2.2 (o7 b hb).2.1 (o7 b hb).1
      rw [pk_un (by omega)]
      exact a3 k hk
theorem ra_last_mem {l : List Nat} (h : 0 < l.length) : l = l.dropLast ++ [ra_last l] := by
  have e : l ≠ [] := by intro q; subst q; cases h
  have e2 : ra_last l = l.getLast e := by
    unfold ra_last
    rw [List.getLast_eq_getElem, List.getD_eq_getElem?_getD, List.getElem?_eq_getElem (by omega)]
    rfl
  rw [e2]
  exact (List.dropLast_concat_getLast e).symm
theorem rm_Rep_redo {cnt bra cof : Int32} {nu : Nat → Int32} {co : Nat → Int64} {se li le fi sc ti un ma : Nat → Int32} {g : rg_A} (h : rm_Rep cnt bra cof nu co se li le fi sc ti un ma g) (hl : 0 < (ra_U g (ra_B g)).length) :
    rm_Rep cnt bra cof nu co se li le fi sc (upd ti (ra_B g) (nI (ra_last (ra_U g (ra_B g))))) un (upd ma (ra_B g) (nI ((ra_U g (ra_B g)).length - 1))) (rg_redo g) := by
  obtain ⟨o1, o2, o3, o4, o5, o6, o7, o8, o9⟩ := h.1
  have hm := ra_last_mem hl
  refine rm_Rep_br h h.2.2.1 o8 (fun b hb => ?_) (fun b hb => ?_)
  · by_cases e : b = ra_B g
    · subst e
      simp only [va_up, if_true]
      obtain ⟨b1, b2, b3⟩ := o7 _ o8
      unfold rg_fall at b3 ⊢
      refine ⟨?_, fun u hu => ?_, ?_⟩
      · exact b2 _ (by rw [hm]; simp [ra_last])
      · exact b2 u (by rw [hm]; exact List.mem_append_left _ hu)
      · rw [← hm]
        exact (List.pairwise_append.mp b3).1
    · simp only [va_up, e, if_false]
      exact o7 b hb
  · obtain ⟨a1, a2, a3⟩ := h.2.2.2.2.2.2 b hb
    by_cases e : b = ra_B g
    · subst e
      simp only [va_up, if_true, pk_us]
      refine ⟨by first | rfl | trivial, by simp, fun k hk => ?_⟩
      have hk : k < (ra_U g (ra_B g)).length - 1 := by simpa using hk
      rw [a3 k (by omega)]
      simp only [List.getD_eq_getElem?_getD]
      rw [List.getElem?_dropLast, if_pos hk]
    · simp only [va_up, e, if_false, pk_un e]
      exact ⟨a1, a2, a3⟩
