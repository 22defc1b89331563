theorem rg_cpyD2 (g : Nat → Int32) (q k n : Nat) (h : 0 < k) (h2 : k ≤ n) : upd (va_cpy g g (q + k) (q + k + 1) (n - k)) (q + k) (va_cpy g g (q + k) (q + k + 1) (n - k) (q + k - 1)) = va_cpy g g (q + (k - 1)) (q + (k - 1) + 1) (n - (k - 1)) := by
  obtain ⟨j, rfl⟩ : ∃ j, k = j + 1 := ⟨k - 1, by omega⟩
  have e := rg_cpyD g (q + j) (n - (j + 1))
  rw [show n - (j + 1) + 1 = n - j by omega] at e
  exact e
theorem rg_cpyU (g : Nat → Int32) (q x k : Nat) (h : x ≤ k) : upd (va_cpy g g (q + x + 1) (q + x) (k - x)) (q + k) (va_cpy g g (q + x + 1) (q + x) (k - x) (q + k + 1)) = va_cpy g g (q + x + 1) (q + x) (k + 1 - x) := by
  obtain ⟨j, rfl⟩ : ∃ j, k = x + j := ⟨k - x, by omega⟩
  have e := rg_cpyI g (q + x + 1) (q + x) j (by omega)
  rw [show x + j - x = j by omega, show x + j + 1 - x = j + 1 by omega, show q + (x + j) = q + x + j by omega, show q + x + j + 1 = q + x + 1 + j by omega]
  exact e
theorem rg_ins_cells {f : Nat → Int32} {q x i : Nat} {l : List Int32} {v : Int32} (hc : ∀ j, j < l.length → f (q + j) = l.getD j 0) (hx : x ≤ l.length) (hi : i < l.length + 1) : upd (va_cpy f f (q + x) (q + x + 1) (l.length - x)) (q + x) v (q + i) = (rg_insL l x v).getD i 0 := by
  rw [rg_insL_get hx]
  by_cases h1 : i < x
  · rw [if_pos h1, pk_un (by omega), pk_cpy_out (by omega)]
    exact hc i (by omega)
  · rw [if_neg h1]
    by_cases h2 : i = x
    · subst h2; rw [if_pos rfl, pk_us]
    · rw [if_neg h2, pk_un (by omega), rg_cin (i - x - 1) (by omega) (by omega), show q + x + (i - x - 1) = q + (i - 1) by omega]
      exact hc (i - 1) (by omega)
theorem rg_rem_cells {f : Nat → Int32} {q x i : Nat} {l : List Int32} (hc : ∀ j, j < l.length → f (q + j) = l.getD j 0) (hx : x < l.length) (hi : i < l.length - 1) : va_cpy f f (q + x + 1) (q + x) (l.length - 1 - x) (q + i) = (rg_remL l x).getD i 0 := by
  rw [rg_remL_get]
  by_cases h1 : i < x
  · rw [if_pos h1, pk_cpy_out (by omega)]
    exact hc i (by omega)
  · rw [if_neg h1, rg_cin (i - x) (by omega) (by omega), show q + x + 1 + (i - x) = q + (i + 1) by omega]
    exact hc (i + 1) (by omega)
