/-! What the grove is, as a value; what each call makes of it. -/
-- number of revisions, their records, first and second parents (-1: none), the branches' revisions, their undone ones, the present branch, the latest conflicts
abbrev rg_A : Type := Nat × (Nat → rg_R) × (Nat → Int32) × (Nat → Int32) × (Nat → Nat) × (Nat → List Nat) × Nat × Int32
abbrev ra_n (a : rg_A) : Nat := a.1
abbrev ra_R (a : rg_A) : Nat → rg_R := a.2.1
abbrev ra_P (a : rg_A) : Nat → Int32 := a.2.2.1
abbrev ra_Q (a : rg_A) : Nat → Int32 := a.2.2.2.1
abbrev ra_T (a : rg_A) : Nat → Nat := a.2.2.2.2.1
abbrev ra_U (a : rg_A) : Nat → List Nat := a.2.2.2.2.2.1
abbrev ra_B (a : rg_A) : Nat := a.2.2.2.2.2.2.1
abbrev ra_c (a : rg_A) : Int32 := a.2.2.2.2.2.2.2
-- the present revision
abbrev ra_t (a : rg_A) : Nat := ra_T a (ra_B a)
-- each value falls, and stays ahead of t
def rg_fall (l : List Nat) (t : Nat) : Prop := (l ++ [t]).Pairwise (fun x y => y < x)
def rg_Ok (a : rg_A) : Prop :=
  1 ≤ ra_n a ∧ ra_n a ≤ 60 ∧ ra_P a 0 = -1 ∧ ra_Q a 0 = -1 ∧ (∀ r, 0 < r → r < ra_n a → ∃ p, p < r ∧ ra_P a r = nI p) ∧ (∀ r, r < ra_n a → ra_Q a r = -1 ∨ ∃ p, p < r ∧ ra_Q a r = nI p) ∧
  (∀ b, b < 4 → ra_T a b < ra_n a ∧ (∀ u ∈ ra_U a b, u < ra_n a) ∧ rg_fall (ra_U a b) (ra_T a b)) ∧ ra_B a < 4 ∧ ∀ r, r < ra_n a → ∀ f, f < 2 → ((ra_R a r).2.2.2 f).length ≤ 8
def rg_come (a : rg_A) (r : Nat) : rg_A := (ra_n a, ra_R a, ra_P a, ra_Q a, va_up (ra_T a) (ra_B a) r, va_up (ra_U a) (ra_B a) [], ra_B a, ra_c a)
def rg_new (a : rg_A) (X : rg_R) (q : Int32) : rg_A :=
  (ra_n a + 1, va_up (ra_R a) (ra_n a) X, upd (ra_P a) (ra_n a) (nI (ra_t a)), upd (ra_Q a) (ra_n a) q, va_up (ra_T a) (ra_B a) (ra_n a), va_up (ra_U a) (ra_B a) [], ra_B a, ra_c a)
-- a changed record: code, answer, the grove behind it
def rg_chg (full : Int32) (a : rg_A) (X : rg_R) : Int32 × Int32 × rg_A :=
  if rg_dif X (ra_R a (ra_t a)) = 0 then (0, nI (ra_t a), a) else if ra_n a = 60 then (full, 0, a) else (0, nI (ra_n a), rg_new a X (-1))
theorem rg_fall_len {l : List Nat} {t : Nat} (h : rg_fall l t) : ∀ n, (∀ u ∈ l, u < n) → l.length + t < n + (if l = [] then t + 1 else 0) := by
  intro n hn
  induction l generalizing n with
  | nil => simp; omega
  | cons x l ih =>
    have hx : x < n := hn x List.mem_cons_self
    unfold rg_fall at h
    rw [List.cons_append, List.pairwise_cons] at h
    have h2 := ih h.2 x (fun u hu => h.1 u (List.mem_append_left _ hu))
    have h3 : t < x := h.1 t (List.mem_append_right _ List.mem_cons_self)
    have : l.length + 1 + t < n + 0 := by
      split at h2
      · rename_i e; subst e; simp; omega
      · omega
    simpa using this
theorem rg_fall_lt {l : List Nat} {t n : Nat} (h : rg_fall l t) (hn : ∀ u ∈ l, u < n) (ht : t < n) : l.length + t < n := by
  have h2 := rg_fall_len h n hn
  by_cases e : l = []
  · subst e; simpa using ht
  · rw [if_neg e] at h2; exact h2
theorem rg_fall_nil (t : Nat) : rg_fall [] t := by simp [rg_fall]
theorem rg_fall_push {l : List Nat} {t p : Nat} (h : rg_fall l t) (hp : p < t) : rg_fall (l ++ [t]) p := by
  unfold rg_fall at h ⊢
  rw [List.pairwise_append]
  refine ⟨h, by simp, fun x hx y hy => ?_⟩
  have hy : y = p := by simpa using hy
  subst hy
  rcases List.mem_append.mp hx with h1 | h1
  · have := (List.pairwise_append.mp h).2.2 x h1 t (by simp)
    omega
  · have : x = t := by simpa using h1
    omega
