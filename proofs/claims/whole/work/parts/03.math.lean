/-! Records and how the reference's arrays hold them; copies. -/
abbrev rg_R : Type := (Nat → Int32) × (Nat → Int64) × (Nat → Int32) × (Nat → List Int32)
-- slot r of the reference's arrays holds the record X
def rg_MR (nu : Nat → Int32) (co : Nat → Int64) (se le li : Nat → Int32) (r : Nat) (X : rg_R) : Prop :=
  ∀ f, f < 2 → nu (2 * r + f) = X.1 f ∧ co (2 * r + f) = X.2.1 f ∧ se (2 * r + f) = X.2.2.1 f ∧ (X.2.2.2 f).length ≤ 8 ∧ le (2 * r + f) = nI (X.2.2.2 f).length ∧ ∀ k, k < (X.2.2.2 f).length → li (16 * r + 8 * f + k) = (X.2.2.2 f).getD k 0
theorem rg_cpyI (g : Nat → Int32) (s d k : Nat) (h : s + k < d ∨ d + k ≤ s + k) : upd (va_cpy g g s d k) (d + k) (va_cpy g g s d k (s + k)) = va_cpy g g s d (k + 1) := by
  funext j
  rw [pk_cpy_out h]
  by_cases hj : j = d + k
  · subst hj
    rw [pk_us, pk_cpy_in (Nat.le_add_right d k) (by omega), Nat.add_sub_cancel_left]
  · rw [pk_un hj]
    by_cases h2 : d ≤ j ∧ j < d + k
    · rw [pk_cpy_in h2.1 h2.2, pk_cpy_in h2.1 (by omega)]
    · rw [pk_cpy_out (by omega), pk_cpy_out (by omega)]
theorem rg_cpyL (g : Nat → Int64) (s d k : Nat) (h : s + k < d ∨ d + k ≤ s + k) : vp_updL (va_cpy g g s d k) (d + k) (va_cpy g g s d k (s + k)) = va_cpy g g s d (k + 1) := by
  funext j
  rw [pk_cpy_out h]
  by_cases hj : j = d + k
  · subst hj
    rw [pk_uLs, pk_cpy_in (Nat.le_add_right d k) (by omega), Nat.add_sub_cancel_left]
  · rw [pk_uLn hj]
    by_cases h2 : d ≤ j ∧ j < d + k
    · rw [pk_cpy_in h2.1 h2.2, pk_cpy_in h2.1 (by omega)]
    · rw [pk_cpy_out (by omega), pk_cpy_out (by omega)]
theorem rg_cpy0 {α : Type} (g : Nat → α) (s d : Nat) : va_cpy g g s d 0 = g := by
  funext j
  exact pk_cpy_out (by omega)
theorem rg_cin {α : Type} {g h : Nat → α} {s d n j : Nat} (i : Nat) (hi : i < n) (hj : j = d + i) : va_cpy g h s d n j = g (s + i) := by
  subst hj
  rw [pk_cpy_in (Nat.le_add_right d i) (by omega), Nat.add_sub_cancel_left]
-- the copied slot
theorem rg_MR_copy {nu : Nat → Int32} {co : Nat → Int64} {se le li : Nat → Int32} {r t : Nat} {X : rg_R} (h : rg_MR nu co se le li r X) :
    rg_MR (va_cpy nu nu (2 * r) (2 * t) 2) (va_cpy co co (2 * r) (2 * t) 2) (va_cpy se se (2 * r) (2 * t) 2) (va_cpy le le (2 * r) (2 * t) 2) (va_cpy li li (16 * r) (16 * t) 16) t X := by
  intro f hf
  obtain ⟨h1, h2, h3, h4, h5, h6⟩ := h f hf
  refine ⟨?_, ?_, ?_, h4, ?_, fun k hk => ?_⟩
  · rw [rg_cin f hf rfl]; exact h1
  · rw [rg_cin f hf rfl]; exact h2
  · rw [rg_cin f hf rfl]; exact h3
  · rw [rg_cin f hf rfl]; exact h5
  · rw [rg_cin (8 * f + k) (by omega) (by omega), ← Nat.add_assoc]; exact h6 k hk
-- another slot stays
theorem rg_MR_keep {nu nu' : Nat → Int32} {co co' : Nat → Int64} {se le li se' le' li' : Nat → Int32} {q t : Nat} {X : rg_R} (h : rg_MR nu co se le li q X) (hq : q ≠ t)
    (e1 : ∀ j, j < 2 * t ∨ 2 * t + 2 ≤ j → nu' j = nu j) (e2 : ∀ j, j < 2 * t ∨ 2 * t + 2 ≤ j → co' j = co j) (e3 : ∀ j, j < 2 * t ∨ 2 * t + 2 ≤ j → se' j = se j) (e4 : ∀ j, j < 2 * t ∨ 2 * t + 2 ≤ j → le' j = le j) (e5 : ∀ j, j < 16 * t ∨ 16 * t + 16 ≤ j → li' j = li j) : rg_MR nu' co' se' le' li' q X := by
  intro f hf
  obtain ⟨h1, h2, h3, h4, h5, h6⟩ := h f hf
  refine ⟨?_, ?_, ?_, h4, ?_, fun k hk => ?_⟩
  · rw [e1 _ (by omega)]; exact h1
  · rw [e2 _ (by omega)]; exact h2
  · rw [e3 _ (by omega)]; exact h3
  · rw [e4 _ (by omega)]; exact h5
  · rw [e5 _ (by omega)]; exact h6 k hk
-- the bits of the fields in which two records differ, of the first k fields of each kind
def rg_difK (X Y : rg_R) : Nat → Int32
  | 0 => nI 0
  | f + 1 => (((rg_difK X Y f ||| (bif decide (X.1 f = Y.1 f) then nI 0 else nI 1 <<< (nI f &&& 31))) ||| (bif decide (X.2.1 f = Y.2.1 f) then nI 0 else nI 4 <<< (nI f &&& 31))) ||| (bif decide (X.2.2.1 f = Y.2.2.1 f) then nI 0 else nI 16 <<< (nI f &&& 31))) ||| (bif decide (X.2.2.2 f = Y.2.2.2 f) then nI 0 else nI 64 <<< (nI f &&& 31))
def rg_dif (X Y : rg_R) : Int32 := rg_difK X Y 2
-- two records are the same in all fields
def rg_eq (X Y : rg_R) : Prop := ∀ f, f < 2 → X.1 f = Y.1 f ∧ X.2.1 f = Y.2.1 f ∧ X.2.2.1 f = Y.2.2.1 f ∧ X.2.2.2 f = Y.2.2.2 f
theorem rg_dif8 : ∀ a b c d e f g h : Bool, ((((((((nI 0 ||| (bif a then nI 0 else nI 1 <<< (nI 0 &&& 31))) ||| (bif b then nI 0 else nI 4 <<< (nI 0 &&& 31))) ||| (bif c then nI 0 else nI 16 <<< (nI 0 &&& 31))) ||| (bif d then nI 0 else nI 64 <<< (nI 0 &&& 31))) ||| (bif e then nI 0 else nI 1 <<< (nI 1 &&& 31))) ||| (bif f then nI 0 else nI 4 <<< (nI 1 &&& 31))) ||| (bif g then nI 0 else nI 16 <<< (nI 1 &&& 31))) ||| (bif h then nI 0 else nI 64 <<< (nI 1 &&& 31))) = 0 ↔ (a && b && c && d && e && f && g && h) = true := by decide +kernel
theorem rg_dif_0 (X Y : rg_R) : rg_dif X Y = 0 ↔ rg_eq X Y := by
  unfold rg_dif
  simp only [rg_difK]
  rw [rg_dif8]
  simp only [Bool.and_eq_true, decide_eq_true_eq]
  constructor
  · rintro ⟨⟨⟨⟨⟨⟨⟨a, b⟩, c⟩, d⟩, e⟩, f⟩, g⟩, h⟩ k hk
    rcases (show k = 0 ∨ k = 1 by omega) with rfl | rfl
    · exact ⟨a, b, c, d⟩
    · exact ⟨e, f, g, h⟩
  · intro h
    obtain ⟨a, b, c, d⟩ := h 0 (by omega)
    obtain ⟨e, f, g, i⟩ := h 1 (by omega)
    exact ⟨⟨⟨⟨⟨⟨⟨a, b⟩, c⟩, d⟩, e⟩, f⟩, g⟩, i⟩
theorem rg_list_eq {x y : List Int32} (h : x.length = y.length) (h2 : ∀ j, j < x.length → x.getD j 0 = y.getD j 0) : x = y := by
  apply List.ext_getElem h
  intro i h1 h3
  have := h2 i h1
  simpa [List.getD_eq_getElem?_getD, h1, h3] using this
theorem rg_b01 (b : Bool) : (bif b then (1 : Int32) else 0) = 0 ∨ (bif b then (1 : Int32) else 0) = 1 := by
  cases b
  · exact Or.inl rfl
  · exact Or.inr rfl
theorem rg_same_end {x y : List Int32} {b : Bool} {k : Nat} (hk : x.length ≤ k) (h1 : b = true → x.length = y.length ∧ ∀ j, j < k → x.getD j 0 = y.getD j 0) (h0 : b = false → ¬ x = y) : (bif b then (1 : Int32) else 0) = bif decide (x = y) then 1 else 0 := by
  cases b with
  | false => rw [decide_eq_false (h0 rfl)]
  | true =>
    obtain ⟨e, g⟩ := h1 rfl
    rw [decide_eq_true (rg_list_eq e (fun j hj => g j (by omega)))]
theorem rg_same_f {x y : List Int32} {b : Bool} (hb : b = false) (h0 : b = false → ¬ x = y) : (bif b then (1 : Int32) else 0) = bif decide (x = y) then 1 else 0 := by
  subst hb
  rw [decide_eq_false (h0 rfl)]
