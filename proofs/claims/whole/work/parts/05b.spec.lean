/-! The calls' spec; the reference's state as a picture of the grove. -/
def rg_setN (X : rg_R) (k : Nat) (v : Int32) : rg_R := (upd X.1 k v, X.2)
def rg_setK (X : rg_R) (k : Nat) (v : Int64) : rg_R := (X.1, vp_updL X.2.1 k v, X.2.2)
def rg_setE (X : rg_R) (k : Nat) (v : Int32) : rg_R := (X.1, X.2.1, upd X.2.2.1 k v, X.2.2.2)
def rg_setL (X : rg_R) (k : Nat) (l : List Int32) : rg_R := (X.1, X.2.1, X.2.2.1, va_up X.2.2.2 k l)
theorem rg_MR_setN {nu : Nat → Int32} {co : Nat → Int64} {se le li : Nat → Int32} {r k : Nat} {X : rg_R} {v : Int32} (h : rg_MR nu co se le li r X) : rg_MR (upd nu (2 * r + k) v) co se le li r (rg_setN X k v) := by
  intro f hf
  obtain ⟨h1, h2⟩ := h f hf
  refine ⟨?_, h2⟩
  show upd nu (2 * r + k) v (2 * r + f) = upd X.1 k v f
  by_cases e : f = k
  · subst e; rw [pk_us, pk_us]
  · rw [pk_un (by omega), pk_un e]; exact h1
theorem rg_MR_setK {nu : Nat → Int32} {co : Nat → Int64} {se le li : Nat → Int32} {r k : Nat} {X : rg_R} {v : Int64} (h : rg_MR nu co se le li r X) : rg_MR nu (vp_updL co (2 * r + k) v) se le li r (rg_setK X k v) := by
  intro f hf
  obtain ⟨h1, h2, h3⟩ := h f hf
  refine ⟨h1, ?_, h3⟩
  show vp_updL co (2 * r + k) v (2 * r + f) = vp_updL X.2.1 k v f
  by_cases e : f = k
  · subst e; rw [pk_uLs, pk_uLs]
  · rw [pk_uLn (by omega), pk_uLn e]; exact h2
theorem rg_MR_setE {nu : Nat → Int32} {co : Nat → Int64} {se le li : Nat → Int32} {r k : Nat} {X : rg_R} {v : Int32} (h : rg_MR nu co se le li r X) : rg_MR nu co (upd se (2 * r + k) v) le li r (rg_setE X k v) := by
  intro f hf
  obtain ⟨h1, h2, h3, h4⟩ := h f hf
  refine ⟨h1, h2, ?_, h4⟩
  show upd se (2 * r + k) v (2 * r + f) = upd X.2.2.1 k v f
  by_cases e : f = k
  · subst e; rw [pk_us, pk_us]
  · rw [pk_un (by omega), pk_un e]; exact h3
theorem rg_MR_setL {nu : Nat → Int32} {co : Nat → Int64} {se le li le' li' : Nat → Int32} {r k : Nat} {X : rg_R} {l : List Int32} (h : rg_MR nu co se le li r X) (hk : k < 2) (hl : l.length ≤ 8) (e1 : le' (2 * r + k) = nI l.length) (e2 : ∀ j, j ≠ 2 * r + k → le' j = le j) (e3 : ∀ i, i < l.length → li' (16 * r + 8 * k + i) = l.getD i 0) (e4 : ∀ j, j < 16 * r + 8 * k ∨ 16 * r + 8 * k + 8 ≤ j → li' j = li j) : rg_MR nu co se le' li' r (rg_setL X k l) := by
  intro f hf
  obtain ⟨h1, h2, h3, h4, h5, h6⟩ := h f hf
  refine ⟨h1, h2, h3, ?_⟩
  show (va_up X.2.2.2 k l f).length ≤ 8 ∧ le' (2 * r + f) = nI (va_up X.2.2.2 k l f).length ∧ ∀ i, i < (va_up X.2.2.2 k l f).length → li' (16 * r + 8 * f + i) = (va_up X.2.2.2 k l f).getD i 0
  by_cases e : f = k
  · subst e
    have : va_up X.2.2.2 f l f = l := by simp [va_up]
    rw [this]
    exact ⟨hl, e1, e3⟩
  · have : va_up X.2.2.2 k l f = X.2.2.2 f := by simp [va_up, e]
    rw [this]
    refine ⟨h4, by rw [e2 _ (by omega)]; exact h5, fun i hi => ?_⟩
    rw [e4 _ (by omega)]
    exact h6 i hi
-- the reference's variables hold the grove g
def rm_Rep (cnt bra cof : Int32) (nu : Nat → Int32) (co : Nat → Int64) (se li le fi sc ti un ma : Nat → Int32) (g : rg_A) : Prop :=
  rg_Ok g ∧ cnt = nI (ra_n g) ∧ bra = nI (ra_B g) ∧ cof = ra_c g ∧ (∀ r, r < ra_n g → rg_MR nu co se le li r (ra_R g r)) ∧ (∀ r, r < ra_n g → fi r = ra_P g r ∧ sc r = ra_Q g r) ∧
  (∀ b, b < 4 → ti b = nI (ra_T g b) ∧ ma b = nI (ra_U g b).length ∧ ∀ k, k < (ra_U g b).length → un (60 * b + k) = nI ((ra_U g b).getD k 0))
-- what lies in slot n and behind does not matter
theorem rm_Rep_junk {cnt bra cof : Int32} {nu nu' : Nat → Int32} {co co' : Nat → Int64} {se li le fi sc se' li' le' fi' sc' ti un ma : Nat → Int32} {g : rg_A} (h : rm_Rep cnt bra cof nu co se li le fi sc ti un ma g)
    (e1 : ∀ j, j < 2 * ra_n g → nu' j = nu j) (e2 : ∀ j, j < 2 * ra_n g → co' j = co j) (e3 : ∀ j, j < 2 * ra_n g → se' j = se j) (e4 : ∀ j, j < 2 * ra_n g → le' j = le j) (e5 : ∀ j, j < 16 * ra_n g → li' j = li j) (e6 : ∀ j, j < ra_n g → fi' j = fi j) (e7 : ∀ j, j < ra_n g → sc' j = sc j) : rm_Rep cnt bra cof nu' co' se' li' le' fi' sc' ti un ma g := by
  obtain ⟨h1, h2, h3, h4, h5, h6, h7⟩ := h
  refine ⟨h1, h2, h3, h4, fun r hr f hf => ?_, fun r hr => ?_, h7⟩
  · obtain ⟨a1, a2, a3, a4, a5, a6⟩ := h5 r hr f hf
    refine ⟨by rw [e1 _ (by omega)]; exact a1, by rw [e2 _ (by omega)]; exact a2, by rw [e3 _ (by omega)]; exact a3, a4, by rw [e4 _ (by omega)]; exact a5, fun k hk => ?_⟩
    rw [e5 _ (by omega)]
    exact a6 k hk
  · rw [e6 r hr, e7 r hr]
    exact h6 r hr
-- a new revision out of slot n
theorem rm_Rep_new {cof : Int32} {nu : Nat → Int32} {co : Nat → Int64} {se li le fi sc ti un ma : Nat → Int32} {g : rg_A} {X : rg_R} {q : Int32} (h : rm_Rep (nI (ra_n g)) (nI (ra_B g)) cof nu co se li le fi sc ti un ma g) (hX : rg_MR nu co se le li (ra_n g) X) (hn : ra_n g < 60) (hq : q = -1 ∨ ∃ p, p < ra_n g ∧ q = nI p) :
    rm_Rep (nI (ra_n g + 1)) (nI (ra_B g)) cof nu co se li le (upd fi (ra_n g) (nI (ra_t g))) (upd sc (ra_n g) q) (upd ti (ra_B g) (nI (ra_n g))) un (upd ma (ra_B g) (nI 0)) (rg_new g X q) := by
  obtain ⟨⟨o1, o2, o3, o4, o5, o6, o7, o8, o9⟩, -, -, h4, h5, h6, h7⟩ := h
  obtain ⟨t1, t2, t3⟩ := o7 _ o8
  refine ⟨⟨?_, ?_, ?_, ?_, ?_, ?_, ?_, o8, ?_⟩, rfl, rfl, h4, ?_, ?_, ?_⟩
  · show 1 ≤ ra_n g + 1; omega
  · show ra_n g + 1 ≤ 60; omega
  · show upd (ra_P g) (ra_n g) _ 0 = -1
    rw [pk_un (by omega)]; exact o3
  · show upd (ra_Q g) (ra_n g) _ 0 = -1
    rw [pk_un (by omega)]; exact o4
  · intro r hr hr2
    have hr2 : r < ra_n g + 1 := hr2
    show ∃ p, p < r ∧ upd (ra_P g) (ra_n g) (nI (ra_t g)) r = nI p
    by_cases e : r = ra_n g
    · subst e; exact ⟨ra_t g, t1, by rw [pk_us]⟩
    · rw [pk_un e]; exact o5 r hr (by omega)
  · intro r hr2
    have hr2 : r < ra_n g + 1 := hr2
    show upd (ra_Q g) (ra_n g) q r = -1 ∨ ∃ p, p < r ∧ upd (ra_Q g) (ra_n g) q r = nI p
    by_cases e : r = ra_n g
    · subst e; rw [pk_us]; exact hq
    · rw [pk_un e]; exact o6 r (by omega)
  · intro b hb
    show va_up (ra_T g) (ra_B g) (ra_n g) b < ra_n g + 1 ∧ (∀ u ∈ va_up (ra_U g) (ra_B g) [] b, u < ra_n g + 1) ∧ rg_fall (va_up (ra_U g) (ra_B g) [] b) (va_up (ra_T g) (ra_B g) (ra_n g) b)
    by_cases e : b = ra_B g
    · subst e; simp [va_up, rg_fall]
    · obtain ⟨a1, a2, a3⟩ := o7 b hb
      simp only [va_up, e, if_false]
      exact ⟨by omega, fun u hu => Nat.lt_succ_of_lt (a2 u hu), a3⟩
  · intro r hr f hf
    have hr : r < ra_n g + 1 := hr
    show ((va_up (ra_R g) (ra_n g) X r).2.2.2 f).length ≤ 8
    by_cases e : r = ra_n g
    · subst e; simp only [va_up, if_true]; exact (hX f hf).2.2.2.1
    · simp only [va_up, e, if_false]; exact o9 r (by omega) f hf
  · intro r hr
    have hr : r < ra_n g + 1 := hr
    show rg_MR nu co se le li r (va_up (ra_R g) (ra_n g) X r)
    by_cases e : r = ra_n g
    · subst e; simp only [va_up, if_true]; exact hX
    · simp only [va_up, e, if_false]; exact h5 r (by omega)
  · intro r hr
    have hr : r < ra_n g + 1 := hr
    show upd fi (ra_n g) (nI (ra_t g)) r = upd (ra_P g) (ra_n g) (nI (ra_t g)) r ∧ upd sc (ra_n g) q r = upd (ra_Q g) (ra_n g) q r
    by_cases e : r = ra_n g
    · subst e; rw [pk_us, pk_us, pk_us, pk_us]; exact ⟨rfl, rfl⟩
    · rw [pk_un e, pk_un e, pk_un e, pk_un e]; exact h6 r (by omega)
  · intro b hb
    show upd ti (ra_B g) (nI (ra_n g)) b = nI (va_up (ra_T g) (ra_B g) (ra_n g) b) ∧ upd ma (ra_B g) (nI 0) b = nI (va_up (ra_U g) (ra_B g) [] b).length ∧ ∀ k, k < (va_up (ra_U g) (ra_B g) [] b).length → un (60 * b + k) = nI ((va_up (ra_U g) (ra_B g) [] b).getD k 0)
    by_cases e : b = ra_B g
    · subst e; simp [va_up, pk_us]
    · rw [pk_un e, pk_un e]; simp only [va_up, e, if_false]; exact h7 b hb
