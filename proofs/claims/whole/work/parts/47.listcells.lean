/-! A list in the cells of a record. -/
theorem rg_upup {α : Type} (f : Nat → α) (i : Nat) (x y : α) : va_up (va_up f i x) i y = va_up f i y := by
  funext j
  by_cases e : j = i
  · subst e; simp [va_up]
  · simp [va_up, e]
theorem rg_ups {α : Type} (f : Nat → α) (i : Nat) (x : α) : va_up f i x i = x := by simp [va_up]
theorem rg_upn {α : Type} (f : Nat → α) {i j : Nat} (x : α) (h : j ≠ i) : va_up f i x j = f j := by simp [va_up, h]
def rg_LC (d : Nat → Int64) (k : Nat) (l : List Int32) : Prop := d (k + 6) = lN l.length ∧ ∀ q, q < 8 → d (8 + k * 8 + q) = (l.getD q 0).toInt64
def rg_Ot (k : Nat) (d d0 : Nat → Int64) : Prop := ∀ x, x ≠ k + 6 → (x < 8 + k * 8 ∨ 8 + k * 8 + 8 ≤ x) → d x = d0 x
theorem rg_getD_big {l : List Int32} {q : Nat} (h : l.length ≤ q) : l.getD q 0 = 0 := by
  rw [List.getD_eq_getElem?_getD, List.getElem?_eq_none h]
  rfl
theorem rg_i64_0 : (0 : Int32).toInt64 = 0 := by decide
theorem rg_LC_ins {d : Nat → Int64} {k p : Nat} {l : List Int32} {v : Int32} (h : rg_LC d k l) (hk : k < 2) (hp : p ≤ l.length) (hl : l.length < 8) :
    rg_LC (vp_updL (vp_updL (va_cpy d d (8 + k * 8 + p) (8 + k * 8 + p + 1) (l.length - p)) (8 + k * 8 + p) v.toInt64) (k + 6) (lN l.length + 1)) k (rg_insL l p v) ∧ rg_Ot k (vp_updL (vp_updL (va_cpy d d (8 + k * 8 + p) (8 + k * 8 + p + 1) (l.length - p)) (8 + k * 8 + p) v.toInt64) (k + 6) (lN l.length + 1)) d := by
  refine ⟨⟨?_, fun q hq => ?_⟩, fun x h1 h2 => ?_⟩
  · rw [pk_uLs, rg_insL_len hp, lN_1]
  · rw [pk_uLn (by omega), rg_insL_get hp]
    by_cases h1 : q < p
    · rw [if_pos h1, pk_uLn (by omega), pk_cpy_out (by omega)]
      exact h.2 q hq
    · rw [if_neg h1]
      by_cases h2 : q = p
      · subst h2; rw [if_pos rfl, pk_uLs]
      · rw [if_neg h2, pk_uLn (by omega)]
        by_cases h3 : q ≤ l.length
        · rw [rg_cin (q - p - 1) (by omega) (by omega), show 8 + k * 8 + p + (q - p - 1) = 8 + k * 8 + (q - 1) by omega]
          exact h.2 (q - 1) (by omega)
        · rw [pk_cpy_out (by omega), h.2 q hq, rg_getD_big (by omega), rg_getD_big (by omega)]
  · rw [pk_uLn h1, pk_uLn (by omega), pk_cpy_out (by omega)]
theorem rg_LC_rem {d : Nat → Int64} {k p : Nat} {l : List Int32} (h : rg_LC d k l) (hk : k < 2) (hp : p < l.length) (hl : l.length ≤ 8) :
    rg_LC (vp_updL (va_cpy (vp_updL d (k + 6) (lN (l.length - 1))) (vp_updL d (k + 6) (lN (l.length - 1))) (8 + k * 8 + p + 1) (8 + k * 8 + p) (l.length - 1 - p)) (8 + k * 8 + (l.length - 1)) 0) k (rg_remL l p) ∧ rg_Ot k (vp_updL (va_cpy (vp_updL d (k + 6) (lN (l.length - 1))) (vp_updL d (k + 6) (lN (l.length - 1))) (8 + k * 8 + p + 1) (8 + k * 8 + p) (l.length - 1 - p)) (8 + k * 8 + (l.length - 1)) 0) d := by
  refine ⟨⟨?_, fun q hq => ?_⟩, fun x h1 h2 => ?_⟩
  · rw [pk_uLn (by omega), pk_cpy_out (by omega), pk_uLs, rg_remL_len hp]
  · rw [rg_remL_get]
    by_cases e : q = l.length - 1
    · subst e
      rw [pk_uLs, if_neg (by omega), rg_getD_big (by omega), rg_i64_0]
    · rw [pk_uLn (by omega)]
      by_cases h1 : q < p
      · rw [if_pos h1, pk_cpy_out (by omega), pk_uLn (by omega)]
        exact h.2 q hq
      · rw [if_neg h1]
        by_cases h3 : q < l.length - 1
        · rw [rg_cin (q - p) (by omega) (by omega), pk_uLn (by omega), show 8 + k * 8 + p + 1 + (q - p) = 8 + k * 8 + (q + 1) by omega]
          exact h.2 (q + 1) (by omega)
        · rw [pk_cpy_out (by omega), pk_uLn (by omega), h.2 q hq, rg_getD_big (by omega), rg_getD_big (by omega)]
  · rw [pk_uLn (by omega), pk_cpy_out (by omega), pk_uLn h1]
theorem rg_LC_app {d d1 : Nat → Int64} {k i j : Nat} {D x : List Int32} (h : rg_LC d k D) (h1 : rg_LC d1 k x) (hk : k < 2) (hij : i ≤ j) (hj : j ≤ x.length) (hx : x.length ≤ 8) (hl : D.length + (j - i) ≤ 8) :
    rg_LC (vp_updL (va_cpy d1 d (8 + k * 8 + i) (8 + k * 8 + D.length) (j - i)) (k + 6) (lN D.length + lN (j - i))) k (D ++ rg_sg x i j) ∧ rg_Ot k (vp_updL (va_cpy d1 d (8 + k * 8 + i) (8 + k * 8 + D.length) (j - i)) (k + 6) (lN D.length + lN (j - i))) d := by
  have l1 := rg_sg_l (D := D) (i := i) hj
  refine ⟨⟨?_, fun q hq => ?_⟩, fun y h2 h3 => ?_⟩
  · rw [pk_uLs, l1, lN_add]
  · rw [pk_uLn (by omega)]
    by_cases e1 : q < D.length
    · rw [pk_cpy_out (by omega), rg_app_get e1]
      exact h.2 q hq
    · by_cases e2 : q < D.length + (j - i)
      · rw [rg_cin (q - D.length) (by omega) (by omega)]
        obtain ⟨t, rfl⟩ : ∃ t, q = D.length + t := ⟨q - D.length, by omega⟩
        rw [rg_app_get2, rg_sg_get (by omega), show D.length + t - D.length = t by omega, show 8 + k * 8 + i + t = 8 + k * 8 + (i + t) by omega]
        exact h1.2 (i + t) (by omega)
      · rw [pk_cpy_out (by omega), h.2 q hq, rg_getD_big (by omega), rg_getD_big (by rw [l1]; omega)]
  · rw [pk_uLn h2, pk_cpy_out (by omega)]
theorem rg_LC_take {d d1 : Nat → Int64} {k : Nat} {x : List Int32} (h1 : rg_LC d1 k x) (hk : k < 2) :
    rg_LC (va_cpy d1 (vp_updL d (k + 6) (d1 (k + 6))) (8 + k * 8) (8 + k * 8) 8) k x ∧ rg_Ot k (va_cpy d1 (vp_updL d (k + 6) (d1 (k + 6))) (8 + k * 8) (8 + k * 8) 8) d := by
  refine ⟨⟨?_, fun q hq => ?_⟩, fun y h2 h3 => ?_⟩
  · rw [pk_cpy_out (by omega), pk_uLs]
    exact h1.1
  · rw [rg_cin q hq rfl]
    exact h1.2 q hq
  · rw [pk_cpy_out (by omega), pk_uLn h2]
theorem rg_min_le {a b n : Nat} (h : n ≤ rg_min a b) : n ≤ a ∧ n ≤ b := by
  unfold rg_min at h
  split at h <;> omega
theorem rg_i64_N {n : Nat} (h : n < 2 ^ 31) : (nI n).toInt64 = lN n := nI_l h
