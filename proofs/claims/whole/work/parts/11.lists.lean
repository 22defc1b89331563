/-! Lists shifted in an array; the calls' spec, put to remove. -/
theorem rg_dec {k : Nat} (h : 0 < k) : nI k + Int32.ofInt (-1) = nI (k - 1) := by
  obtain ⟨j, rfl⟩ : ∃ j, k = j + 1 := ⟨k - 1, by omega⟩
  exact pk_m1 j
theorem rg_cpyD (g : Nat → Int32) (s m : Nat) : upd (va_cpy g g (s + 1) (s + 2) m) (s + 1) (va_cpy g g (s + 1) (s + 2) m s) = va_cpy g g s (s + 1) (m + 1) := by
  funext j
  rw [pk_cpy_out (show s < s + 2 ∨ _ by omega)]
  by_cases hj : j = s + 1
  · subst hj
    rw [pk_us, pk_cpy_in (Nat.le_refl _) (by omega)]
    congr 1
    omega
  · rw [pk_un hj]
    by_cases h2 : s + 2 ≤ j ∧ j < s + 2 + m
    · rw [pk_cpy_in h2.1 h2.2, pk_cpy_in (by omega) (by omega)]
      congr 1
      omega
    · rw [pk_cpy_out (by omega), pk_cpy_out (by omega)]
def rg_insL (l : List Int32) (k : Nat) (v : Int32) : List Int32 := l.take k ++ v :: l.drop k
theorem rg_insL_len {l : List Int32} {k : Nat} {v : Int32} (h : k ≤ l.length) : (rg_insL l k v).length = l.length + 1 := by
  unfold rg_insL
  simp
  omega
theorem rg_insL_get {l : List Int32} {k i : Nat} {v : Int32} (h : k ≤ l.length) : (rg_insL l k v).getD i 0 = if i < k then l.getD i 0 else if i = k then v else l.getD (i - 1) 0 := by
  unfold rg_insL
  simp only [List.getD_eq_getElem?_getD]
  rw [List.getElem?_append]
  have hl : (l.take k).length = k := by simp; omega
  rw [hl]
  by_cases h1 : i < k
  · rw [if_pos h1, if_pos h1, List.getElem?_take_of_lt h1]
  · rw [if_neg h1, if_neg h1]
    by_cases h2 : i = k
    · subst h2; simp
    · rw [if_neg h2]
      obtain ⟨j, rfl⟩ : ∃ j, i = k + (j + 1) := ⟨i - k - 1, by omega⟩
      rw [show k + (j + 1) - k = j + 1 by omega, List.getElem?_cons_succ, List.getElem?_drop, show k + (j + 1) - 1 = k + j by omega]
def rg_remL (l : List Int32) (k : Nat) : List Int32 := l.eraseIdx k
theorem rg_remL_len {l : List Int32} {k : Nat} (h : k < l.length) : (rg_remL l k).length = l.length - 1 := by
  unfold rg_remL
  rw [List.length_eraseIdx_of_lt h]
theorem rg_remL_get {l : List Int32} {k i : Nat} : (rg_remL l k).getD i 0 = if i < k then l.getD i 0 else l.getD (i + 1) 0 := by
  unfold rg_remL
  simp only [List.getD_eq_getElem?_getD]
  rw [List.getElem?_eraseIdx]
  by_cases h1 : i < k
  · rw [if_pos h1, if_pos h1]
  · rw [if_neg h1, if_neg h1]
def rg_mk (x : Int32) (k : Nat) (w : Bool) : Int32 := bif w then x ||| (nI 1 <<< (nI k &&& 31)) else x &&& ((nI 1 <<< (nI k &&& 31)) ^^^ (-1))
abbrev ra_X (g : rg_A) : rg_R := ra_R g (ra_t g)
def rg_oPut (g : rg_A) (f v : Int32) : Int32 × Int32 × rg_A :=
  if f = 0 then rg_chg 2 g (rg_setN (ra_X g) 0 v) else if f = 1 then rg_chg 2 g (rg_setN (ra_X g) 1 v) else (1, 0, g)
def rg_oAdd (g : rg_A) (f v : Int32) : Int32 × Int32 × rg_A :=
  if f = 2 then rg_chg 2 g (rg_setK (ra_X g) 0 ((ra_X g).2.1 0 + v.toInt64)) else if f = 3 then rg_chg 2 g (rg_setK (ra_X g) 1 ((ra_X g).2.1 1 + v.toInt64)) else (1, 0, g)
def rg_oMark (g : rg_A) (f x : Int32) (w : Bool) : Int32 × Int32 × rg_A :=
  if x < 0 ∨ 31 < x then (1, 0, g) else if f = 4 then rg_chg 2 g (rg_setE (ra_X g) 0 (rg_mk ((ra_X g).2.2.1 0) x.toNatClampNeg w)) else if f = 5 then rg_chg 2 g (rg_setE (ra_X g) 1 (rg_mk ((ra_X g).2.2.1 1) x.toNatClampNeg w)) else (1, 0, g)
def rg_insK (g : rg_A) (k : Nat) (x v : Int32) : Int32 × Int32 × rg_A :=
  if x < 0 ∨ nI ((ra_X g).2.2.2 k).length < x then (2, 0, g) else if ((ra_X g).2.2.2 k).length = 8 ∨ ra_n g = 60 then (3, 0, g) else rg_chg 2 g (rg_setL (ra_X g) k (rg_insL ((ra_X g).2.2.2 k) x.toNatClampNeg v))
def rg_oIns (g : rg_A) (f x v : Int32) : Int32 × Int32 × rg_A := if f = 6 then rg_insK g 0 x v else if f = 7 then rg_insK g 1 x v else (1, 0, g)
def rg_remK (g : rg_A) (k : Nat) (x : Int32) : Int32 × Int32 × rg_A :=
  if x < 0 ∨ nI ((ra_X g).2.2.2 k).length ≤ x then (2, 0, g) else if ra_n g = 60 then (3, 0, g) else rg_chg 2 g (rg_setL (ra_X g) k (rg_remL ((ra_X g).2.2.2 k) x.toNatClampNeg))
def rg_oRem (g : rg_A) (f x : Int32) : Int32 × Int32 × rg_A := if f = 6 then rg_remK g 0 x else if f = 7 then rg_remK g 1 x else (1, 0, g)
