/-! Ancestors as a set of bits; ranks; the base. -/
def rg_p : Nat → Int32
  | 0 => -1
  | k + 1 => nI k
theorem rg_p_dec (k : Nat) : nI k + Int32.ofInt (-1) = rg_p k := by
  cases k with
  | zero => decide
  | succ k => exact pk_m1 k
def rg_pb (x : Int32) : Int64 := if 0 ≤ x then (1 : Int64) <<< (x.toInt64 &&& 63) else 0
theorem rg_pb_ge {x : Int32} (h : 0 ≤ x) : (1 : Int64) <<< (x.toInt64 &&& 63) = rg_pb x := by unfold rg_pb; rw [if_pos h]
theorem rg_pb_lt {x : Int32} (h : ¬ 0 ≤ x) : (0 : Int64) = rg_pb x := by unfold rg_pb; rw [if_neg h]
theorem rg_pb_nI {k : Nat} (h : k < 64) (j : Nat) : rg_has (rg_pb (nI k)) j = decide (j = k) := by
  unfold rg_pb
  rw [if_pos (nI_pos' (by omega)), rg_has_1 h]
theorem rg_pb_m1 (j : Nat) : rg_has (rg_pb (-1)) j = false := by
  unfold rg_pb
  rw [if_neg (by decide), rg_has_0]
theorem rg_cb1 {b : Bool} : lg_cmp (bif b then 1 else 0) 1 = 0 ↔ b = true := by
  rw [rg_cmp0]
  cases b
  · exact ⟨fun h => absurd h (by decide), fun h => by cases h⟩
  · exact ⟨fun _ => rfl, fun _ => rfl⟩
theorem rg_cb0 {b : Bool} : lg_cmp (bif b then 1 else 0) 0 = 0 ↔ b = false := by
  rw [rg_cmp0]
  cases b
  · exact ⟨fun _ => rfl, fun _ => rfl⟩
  · exact ⟨fun h => absurd h (by decide), fun h => by cases h⟩
theorem rg_bF {b : Bool} (h : ¬ b = true) : b = false := by cases b; rfl; exact absurd rfl h
theorem rg_bT {b : Bool} (h : ¬ b = false) : b = true := by cases b; exact absurd rfl h; rfl
-- parents of n revisions
def rg_Pr (n : Nat) (fi sc : Nat → Int32) : Prop := fi 0 = -1 ∧ (∀ r, 0 < r → r < n → ∃ p, p < r ∧ fi r = nI p) ∧ ∀ r, r < n → sc r = -1 ∨ ∃ p, p < r ∧ sc r = nI p
theorem rg_Pr_f {n : Nat} {fi sc : Nat → Int32} (h : rg_Pr n fi sc) {r : Nat} (hr : r < n) : fi r = -1 ∨ ∃ p, p < r ∧ fi r = nI p := by
  rcases Nat.eq_zero_or_pos r with e | e
  · left; rw [e]; exact h.1
  · right; exact h.2.1 r e hr
def rg_AI (fi sc : Nat → Int32) (o : Int64) (q : Nat) (z : Int64) : Prop :=
  (∀ j, rg_has o j = true → rg_has z j = true) ∧ (∀ j, rg_has z j = true → ∃ i, rg_has o i = true ∧ rg_An fi sc i j) ∧ ∀ t, q ≤ t → rg_has z t = true → ∀ p, p < t → (fi t = nI p ∨ sc t = nI p) → rg_has z p = true
theorem rg_AI_0 {fi sc : Nat → Int32} {o : Int64} {n : Nat} (hn : n ≤ 60) (ho : ∀ j, rg_has o j = true → j < n) : rg_AI fi sc o 60 o :=
  ⟨fun _ h => h, fun j h => ⟨j, h, rg_An_rf fi sc j⟩, fun t ht h => by have := ho t h; omega⟩
theorem rg_AI_no {fi sc : Nat → Int32} {o z : Int64} {k : Nat} (h : rg_AI fi sc o (k + 1) z) (hk : rg_has z k = false) : rg_AI fi sc o k z := by
  refine ⟨h.1, h.2.1, fun t ht hz p hp hx => ?_⟩
  by_cases e : t = k
  · subst e; rw [hk] at hz; cases hz
  · exact h.2.2 t (by omega) hz p hp hx
theorem rg_AI_lt {fi sc : Nat → Int32} {o z : Int64} {q n k : Nat} (h : rg_AI fi sc o q z) (ho : ∀ j, rg_has o j = true → j < n) (hk : rg_has z k = true) : k < n := by
  obtain ⟨i, h1, h2⟩ := h.2.1 k hk
  exact Nat.lt_of_le_of_lt (rg_An_le h2) (ho i h1)
theorem rg_pb_of {x : Int32} {k : Nat} (hk : k < 64) (hx : x = -1 ∨ ∃ p, p < k ∧ x = nI p) {j : Nat} : rg_has (rg_pb x) j = true ↔ j < k ∧ x = nI j := by
  rcases hx with rfl | ⟨p, hp, rfl⟩
  · rw [rg_pb_m1]
    refine ⟨fun h => (by cases h), fun ⟨h1, h2⟩ => ?_⟩
    have h3 := nI_pos' (n := j) (by omega)
    rw [← h2] at h3
    exact absurd h3 (by decide)
  · rw [rg_pb_nI (by omega)]
    constructor
    · intro h
      have := of_decide_eq_true h
      subst this
      exact ⟨hp, rfl⟩
    · rintro ⟨h1, h2⟩
      exact decide_eq_true ((nI_eq (by omega) (by omega)).mp h2.symm)
theorem rg_AI_yes {fi sc : Nat → Int32} {o z : Int64} {k n : Nat} (h : rg_AI fi sc o (k + 1) z) (hn : n ≤ 60) (hp : rg_Pr n fi sc) (ho : ∀ j, rg_has o j = true → j < n) (hk : rg_has z k = true) : rg_AI fi sc o k ((z ||| rg_pb (fi k)) ||| rg_pb (sc k)) := by
  have hkn := rg_AI_lt h ho hk
  have b1 := fun j => rg_pb_of (x := fi k) (k := k) (j := j) (by omega) (rg_Pr_f hp hkn)
  have b2 := fun j => rg_pb_of (x := sc k) (k := k) (j := j) (by omega) (hp.2.2 k hkn)
  have hb : ∀ j, rg_has ((z ||| rg_pb (fi k)) ||| rg_pb (sc k)) j = true ↔ rg_has z j = true ∨ (j < k ∧ (fi k = nI j ∨ sc k = nI j)) := by
    intro j
    rw [rg_has_or, rg_has_or, Bool.or_eq_true, Bool.or_eq_true, b1, b2]
    constructor
    · rintro ((h | ⟨h1, h2⟩) | ⟨h1, h2⟩)
      · exact Or.inl h
      · exact Or.inr ⟨h1, Or.inl h2⟩
      · exact Or.inr ⟨h1, Or.inr h2⟩
    · rintro (h | ⟨h1, h2 | h2⟩)
      · exact Or.inl (Or.inl h)
      · exact Or.inl (Or.inr ⟨h1, h2⟩)
      · exact Or.inr ⟨h1, h2⟩
  refine ⟨fun j hj => (hb j).mpr (Or.inl (h.1 j hj)), fun j hj => ?_, fun t ht hz p hpt hx => ?_⟩
  · rcases (hb j).mp hj with h1 | ⟨h1, h2⟩
    · exact h.2.1 j h1
    · obtain ⟨i, i1, i2⟩ := h.2.1 k hk
      exact ⟨i, i1, rg_An_tr i2 (rg_An_up (rg_An_rf fi sc j) h1 h2)⟩
  · by_cases e : t = k
    · subst e; exact (hb p).mpr (Or.inr ⟨hpt, hx⟩)
    · rcases (hb t).mp hz with h1 | ⟨h1, -⟩
      · exact (hb p).mpr (Or.inl (h.2.2 t (by omega) h1 p hpt hx))
      · omega
theorem rg_AI_end {fi sc : Nat → Int32} {o z : Int64} (h : rg_AI fi sc o 0 z) (j : Nat) : rg_has z j = true ↔ ∃ i, rg_has o i = true ∧ rg_An fi sc i j := by
  refine ⟨h.2.1 j, fun ⟨i, h1, h2⟩ => ?_⟩
  exact h2 (fun q => rg_has z q = true) (h.1 i h1) (fun q p hq hp hx => h.2.2 q (Nat.zero_le q) hq p hp hx)
theorem rg_anc1 {fi sc : Nat → Int32} {z : Int64} {a : Nat} (ha : a < 64) (h : ∀ j, rg_has z j = true ↔ ∃ i, rg_has ((1 : Int64) <<< ((nI a).toInt64 &&& 63)) i = true ∧ rg_An fi sc i j) (j : Nat) : rg_has z j = true ↔ rg_An fi sc a j := by
  rw [h]
  constructor
  · rintro ⟨i, h1, h2⟩
    rw [rg_has_1 ha] at h1
    have := of_decide_eq_true h1
    subst this
    exact h2
  · intro h2
    exact ⟨a, by rw [rg_has_1 ha]; exact decide_eq_true rfl, h2⟩
theorem rg_one_lt {a n : Nat} (ha : a < n) (hn : n ≤ 60) : ∀ j, rg_has ((1 : Int64) <<< ((nI a).toInt64 &&& 63)) j = true → j < n := by
  intro j h
  rw [rg_has_1 (by omega)] at h
  have := of_decide_eq_true h
  omega
-- revision 0 is an ancestor of all
theorem rg_An_0 {n : Nat} {fi sc : Nat → Int32} (hp : rg_Pr n fi sc) : ∀ r, r < n → rg_An fi sc r 0 := by
  intro r
  induction r using Nat.strongRecOn with
  | ind r ih =>
    intro hr
    rcases Nat.eq_zero_or_pos r with e | e
    · subst e; exact rg_An_rf fi sc 0
    · obtain ⟨p, h1, h2⟩ := hp.2.1 r e hr
      exact rg_An_up (ih p h1 (by omega)) h1 (Or.inl h2)
-- r is the latest common ancestor of a and b
def rg_Bs (fi sc : Nat → Int32) (a b r : Nat) : Prop := rg_An fi sc a r ∧ rg_An fi sc b r ∧ ∀ q, rg_An fi sc a q → rg_An fi sc b q → q ≤ r
theorem rg_Bs_one {fi sc : Nat → Int32} {a b r q : Nat} (h : rg_Bs fi sc a b r) (h2 : rg_Bs fi sc a b q) : r = q := by
  have := h.2.2 q h2.1 h2.2.1
  have := h2.2.2 r h.1 h.2.1
  omega
noncomputable def rg_base (fi sc : Nat → Int32) (a b : Nat) : Nat := Classical.epsilon (fun r => rg_Bs fi sc a b r)
theorem rg_base_eq {fi sc : Nat → Int32} {a b r : Nat} (h : rg_Bs fi sc a b r) : rg_base fi sc a b = r := rg_Bs_one (Classical.epsilon_spec (p := fun r => rg_Bs fi sc a b r) ⟨r, h⟩) h
theorem rg_Bs_same {fi sc P Q : Nat → Int32} {a b r n : Nat} (e : ∀ q, q < n → fi q = P q ∧ sc q = Q q) (ha : a < n) (hb : b < n) (h : rg_Bs fi sc a b r) : rg_Bs P Q a b r := by
  have e1 : ∀ {t j : Nat}, t < n → rg_An fi sc t j → rg_An P Q t j := fun ht h => rg_An_same (fun q hq => e q (by omega)) h
  have e2 : ∀ {t j : Nat}, t < n → rg_An P Q t j → rg_An fi sc t j := fun ht h => rg_An_same (fun q hq => ⟨(e q (by omega)).1.symm, (e q (by omega)).2.symm⟩) h
  exact ⟨e1 ha h.1, e1 hb h.2.1, fun q h1 h2 => h.2.2 q (e2 ha h1) (e2 hb h2)⟩
theorem rm_Pr {cnt bra cof : Int32} {nu : Nat → Int32} {co : Nat → Int64} {se li le fi sc ti un ma : Nat → Int32} {g : rg_A} (h : rm_Rep cnt bra cof nu co se li le fi sc ti un ma g) : rg_Pr (ra_n g) fi sc := by
  obtain ⟨⟨o1, o2, o3, o4, o5, o6, o7, o8, o9⟩, h2, h3, h4, h5, h6, h7⟩ := h
  refine ⟨(h6 0 (by omega)).1.trans o3, fun r hr hn => ?_, fun r hn => ?_⟩
  · obtain ⟨p, p1, p2⟩ := o5 r hr hn
    exact ⟨p, p1, (h6 r hn).1.trans p2⟩
  · rcases o6 r hn with p2 | ⟨p, p1, p2⟩
    · exact Or.inl ((h6 r hn).2.trans p2)
    · exact Or.inr ⟨p, p1, (h6 r hn).2.trans p2⟩
-- how many of the first numbers are kept
def rg_rk (K : Nat → Bool) : Nat → Nat
  | 0 => 0
  | k + 1 => rg_rk K k + (bif K k then 1 else 0)
noncomputable def rg_oBase (g : rg_A) (x : Int32) : Int32 × Int32 × rg_A := bif rg_isB x then (0, nI (rg_base (ra_P g) (ra_Q g) (ra_t g) (ra_T g x.toNatClampNeg)), g) else (1, 0, g)
