/-! The class's variables hold the grove g. -/
def gw_Rep (rec : Nat → Nat → Int64) (fp sp : Nat → Int32) (an : Nat → Int64) (cnt : Int32) (pt : Nat → Int32) (un : Nat → Nat → Int32) (uc : Nat → Int32) (pr lc : Int32) (g : rg_A) : Prop :=
  rg_Ok g ∧ cnt = nI (ra_n g) ∧ pr = nI (ra_B g) ∧ lc = ra_c g ∧ (∀ r, r < ra_n g → rg_CR (rec r) (ra_R g r)) ∧ (∀ r, r < ra_n g → fp r = ra_P g r ∧ sp r = ra_Q g r ∧ ∀ j, rg_has (an r) j = true ↔ rg_An (ra_P g) (ra_Q g) r j) ∧
  (∀ b, b < 4 → pt b = nI (ra_T g b) ∧ uc b = nI (ra_U g b).length ∧ ∀ k, k < (ra_U g b).length → un b k = nI ((ra_U g b).getD k 0))
abbrev gw_S : Type := (Nat → Nat → Int64) × (Nat → Int32) × (Nat → Int32) × (Nat → Int64) × (Nat → Int32) × Int32 × (Nat → Int32) × (Nat → Nat → Int32) × (Nat → Int32) × Int32 × Int32
def gw_Wu (ad fo fa ur : Nat → Nat) (cI cL cF cA : ClassId) (u : gw_S) : va_W := match u with
  | (rc, fp, sp, an, nn, cnt, pt, un, uc, pr, lc) => gw_W ad fo fa ur cI cL cF cA rc fp sp an nn cnt pt un uc pr lc
def gw_Ru (u : gw_S) (g : rg_A) : Prop := match u with
  | (rc, fp, sp, an, _, cnt, pt, un, uc, pr, lc) => gw_Rep rc fp sp an cnt pt un uc pr lc g
-- an answer; a throw of class E
def gw_Po (o : Int32 × Int32 × rg_A) (z : Int32) (u : gw_S) : Prop := gw_Ru u o.2.2 ∧ o.1 = 0 ∧ z = o.2.1
def gw_Pv (o : Int32 × Int32 × rg_A) (u : gw_S) : Prop := gw_Ru u o.2.2 ∧ o.1 = 0
def gw_Px (E0 : String) (g : rg_A) (E : String) (u : gw_S) : Prop := E = E0 ∧ gw_Ru u g
theorem gw_Rep_rec {rec rec' : Nat → Nat → Int64} {fp sp : Nat → Int32} {an : Nat → Int64} {cnt : Int32} {pt : Nat → Int32} {un : Nat → Nat → Int32} {uc : Nat → Int32} {pr lc : Int32} {g : rg_A} (h : gw_Rep rec fp sp an cnt pt un uc pr lc g) (e : ∀ r, r < ra_n g → rec' r = rec r) : gw_Rep rec' fp sp an cnt pt un uc pr lc g := by
  obtain ⟨h1, h2, h3, h4, h5, h6, h7⟩ := h
  exact ⟨h1, h2, h3, h4, fun r hr => by rw [e r hr]; exact h5 r hr, h6, h7⟩
theorem rg_CR_same {d d' : Nat → Int64} {X : rg_R} (h : rg_CR d X) (e : ∀ x, x < 24 → d' x = d x) : rg_CR d' X := by
  intro k hk
  obtain ⟨a1, a2, a3, a4, a5, a6⟩ := h k hk
  exact ⟨by rw [e _ (by omega)]; exact a1, by rw [e _ (by omega)]; exact a2, by rw [e _ (by omega)]; exact a3, a4, by rw [e _ (by omega)]; exact a5, fun q hq => by rw [e _ (by omega)]; exact a6 q hq⟩
theorem rg_CR_cpy {d d' : Nat → Int64} {X : rg_R} (h : rg_CR d X) : rg_CR (va_cpy d d' 0 0 24) X := rg_CR_same h (fun x hx => by rw [rg_cin x hx (by omega), Nat.zero_add])
theorem rg_CR_setN {d : Nat → Int64} {X : rg_R} {k : Nat} {v : Int32} (h : rg_CR d X) (hk : k < 2) : rg_CR (vp_updL d k v.toInt64) (rg_setN X k v) := by
  intro f hf
  obtain ⟨a1, a2, a3, a4, a5, a6⟩ := h f hf
  refine ⟨?_, by rw [pk_uLn (by omega)]; exact a2, by rw [pk_uLn (by omega)]; exact a3, a4, by rw [pk_uLn (by omega)]; exact a5, fun q hq => by rw [pk_uLn (by omega)]; exact a6 q hq⟩
  show vp_updL d k v.toInt64 f = (upd X.1 k v f).toInt64
  by_cases e : f = k
  · subst e; rw [pk_uLs, pk_us]
  · rw [pk_uLn e, pk_un e]; exact a1
theorem rg_CR_setK {d : Nat → Int64} {X : rg_R} {k : Nat} {v : Int64} (h : rg_CR d X) (hk : k < 2) : rg_CR (vp_updL d (k + 2) v) (rg_setK X k v) := by
  intro f hf
  obtain ⟨a1, a2, a3, a4, a5, a6⟩ := h f hf
  refine ⟨by rw [pk_uLn (by omega)]; exact a1, ?_, by rw [pk_uLn (by omega)]; exact a3, a4, by rw [pk_uLn (by omega)]; exact a5, fun q hq => by rw [pk_uLn (by omega)]; exact a6 q hq⟩
  show vp_updL d (k + 2) v (f + 2) = vp_updL X.2.1 k v f
  by_cases e : f = k
  · subst e; rw [pk_uLs, pk_uLs]
  · rw [pk_uLn (by omega), pk_uLn e]; exact a2
theorem rg_CR_setE {d : Nat → Int64} {X : rg_R} {k : Nat} {v : Int32} (h : rg_CR d X) (hk : k < 2) : rg_CR (vp_updL d (k + 4) (rg_zx v)) (rg_setE X k v) := by
  intro f hf
  obtain ⟨a1, a2, a3, a4, a5, a6⟩ := h f hf
  refine ⟨by rw [pk_uLn (by omega)]; exact a1, by rw [pk_uLn (by omega)]; exact a2, ?_, a4, by rw [pk_uLn (by omega)]; exact a5, fun q hq => by rw [pk_uLn (by omega)]; exact a6 q hq⟩
  show vp_updL d (k + 4) (rg_zx v) (f + 4) = rg_zx (upd X.2.2.1 k v f)
  by_cases e : f = k
  · subst e; rw [pk_uLs, pk_us]
  · rw [pk_uLn (by omega), pk_un e]; exact a3
theorem rg_CR_setL {d d' : Nat → Int64} {X : rg_R} {k : Nat} {l : List Int32} (h : rg_CR d X) (hk : k < 2) (hl : l.length ≤ 8) (h1 : rg_LC d' k l) (h2 : rg_Ot k d' d) : rg_CR d' (rg_setL X k l) := by
  intro f hf
  obtain ⟨a1, a2, a3, a4, a5, a6⟩ := h f hf
  refine ⟨by rw [h2 _ (by omega) (by omega)]; exact a1, by rw [h2 _ (by omega) (by omega)]; exact a2, by rw [h2 _ (by omega) (by omega)]; exact a3, ?_⟩
  show (va_up X.2.2.2 k l f).length ≤ 8 ∧ d' (f + 6) = lN (va_up X.2.2.2 k l f).length ∧ ∀ q, q < 8 → d' (8 + f * 8 + q) = ((va_up X.2.2.2 k l f).getD q 0).toInt64
  by_cases e : f = k
  · subst e
    rw [rg_ups]
    exact ⟨hl, h1.1, h1.2⟩
  · rw [rg_upn _ _ e]
    refine ⟨a4, by rw [h2 _ (by omega) (by omega)]; exact a5, fun q hq => ?_⟩
    rw [h2 _ (by omega) (by omega)]
    exact a6 q hq
theorem rg_CR_LC {d : Nat → Int64} {X : rg_R} {k : Nat} (h : rg_CR d X) (hk : k < 2) : rg_LC d k (X.2.2.2 k) := ⟨(h k hk).2.2.2.2.1, (h k hk).2.2.2.2.2⟩
-- a record that differs from another in one field alone
theorem rg_one_diff {X Y : rg_R} {f : Nat} (hf : f < 8) (h : ∀ j, j < 8 → j ≠ f → rg_sf X Y j = true) : rg_dif X Y = 0 ↔ rg_sf X Y f = true := by
  rw [rg_dif_0]
  have key : rg_eq X Y ↔ ∀ j, j < 8 → rg_sf X Y j = true := by
    constructor
    · intro e j hj
      unfold rg_sf
      by_cases h1 : j < 2
      · rw [if_pos h1]; exact decide_eq_true (e j h1).1
      · rw [if_neg h1]
        by_cases h2 : j < 4
        · rw [if_pos h2]; exact decide_eq_true (e (j - 2) (by omega)).2.1
        · rw [if_neg h2]
          by_cases h3 : j < 6
          · rw [if_pos h3]; exact decide_eq_true (e (j - 4) (by omega)).2.2.1
          · rw [if_neg h3]; exact decide_eq_true (e (j - 6) (by omega)).2.2.2
    · intro e k hk
      refine ⟨?_, ?_, ?_, ?_⟩
      · have := e k (by omega)
        unfold rg_sf at this
        rw [if_pos hk] at this
        exact of_decide_eq_true this
      · have := e (k + 2) (by omega)
        unfold rg_sf at this
        rw [if_neg (by omega), if_pos (by omega), show k + 2 - 2 = k by omega] at this
        exact of_decide_eq_true this
      · have := e (k + 4) (by omega)
        unfold rg_sf at this
        rw [if_neg (by omega), if_neg (by omega), if_pos (by omega), show k + 4 - 4 = k by omega] at this
        exact of_decide_eq_true this
      · have := e (k + 6) (by omega)
        unfold rg_sf at this
        rw [if_neg (by omega), if_neg (by omega), if_neg (by omega), show k + 6 - 6 = k by omega] at this
        exact of_decide_eq_true this
  rw [key]
  constructor
  · intro e; exact e f hf
  · intro e j hj
    by_cases e2 : j = f
    · rw [e2]; exact e
    · exact h j hj e2
-- the ancestors of a new revision
theorem gw_an_new {P Q : Nat → Int32} {an : Nat → Int64} {n t : Nat} {q : Int32} (hn : n < 60) (ht : t < n) (hq : q = -1 ∨ ∃ p, p < n ∧ q = nI p) (h : ∀ r, r < n → ∀ j, rg_has (an r) j = true ↔ rg_An P Q r j) (j : Nat) :
    rg_has ((((1 : Int64) <<< ((nI n).toInt64 &&& 63)) ||| (rg_ax an (nI t))) ||| (rg_ax an q)) j = true ↔ rg_An (upd P n (nI t)) (upd Q n q) n j := by
  have sm : ∀ r, r < n → ∀ j, (rg_An P Q r j ↔ rg_An (upd P n (nI t)) (upd Q n q) r j) := fun r hr j =>
    ⟨rg_An_same (fun x hx => ⟨(pk_un (by omega)).symm, (pk_un (by omega)).symm⟩), rg_An_same (fun x hx => ⟨pk_un (by omega), pk_un (by omega)⟩)⟩
  rw [rg_has_or, rg_has_or, Bool.or_eq_true, Bool.or_eq_true, rg_has_1 (by omega), decide_eq_true_iff, rg_ax_n an (by omega), h t ht, rg_An_eq (P1 := upd P n (nI t)) (P2 := upd Q n q) (r := n), pk_us, pk_us]
  constructor
  · rintro ((h1 | h1) | h1)
    · exact Or.inl h1
    · exact Or.inr ⟨t, ht, Or.inl rfl, (sm t ht j).mp h1⟩
    · rcases hq with rfl | ⟨p, hp, rfl⟩
      · rw [rg_ax_m, rg_has_0] at h1; cases h1
      · rw [rg_ax_n an (by omega), h p hp] at h1
        exact Or.inr ⟨p, hp, Or.inr rfl, (sm p hp j).mp h1⟩
  · rintro (h1 | ⟨p, hp, h2 | h2, h3⟩)
    · exact Or.inl (Or.inl h1)
    · have e : t = p := (nI_eq (by omega) (by omega)).mp h2
      subst e
      exact Or.inl (Or.inr ((sm t ht j).mpr h3))
    · rw [h2, rg_ax_n an (by omega), h p hp]
      exact Or.inr ((sm p hp j).mpr h3)
theorem gw_Rep_new {rec : Nat → Nat → Int64} {fp sp : Nat → Int32} {an : Nat → Int64} {pt : Nat → Int32} {un : Nat → Nat → Int32} {uc : Nat → Int32} {lc : Int32} {g : rg_A} {X : rg_R} {q : Int32} (h : gw_Rep rec fp sp an (nI (ra_n g)) pt un uc (nI (ra_B g)) lc g) (hX : rg_CR (rec 60) X) (hn : ra_n g < 60) (hq : q = -1 ∨ ∃ p, p < ra_n g ∧ q = nI p) :
    gw_Rep (va_up rec (ra_n g) (va_cpy (rec 60) (rec (ra_n g)) 0 0 24)) (upd fp (ra_n g) (nI (ra_t g))) (upd sp (ra_n g) q) (vp_updL an (ra_n g) ((((1 : Int64) <<< ((nI (ra_n g)).toInt64 &&& 63)) ||| (rg_ax an (nI (ra_t g)))) ||| (rg_ax an q))) (nI (ra_n g + 1)) (upd pt (ra_B g) (nI (ra_n g))) un (upd uc (ra_B g) (nI 0)) (nI (ra_B g)) lc (rg_new g X q) := by
  obtain ⟨h1, h2, h3, h4, h5, h6, h7⟩ := h
  have h1' := h1
  obtain ⟨o1, o2, o3, o4, o5, o6, o7, o8, o9⟩ := h1
  obtain ⟨t1, t2, t3⟩ := o7 _ o8
  refine ⟨⟨?_, ?_, ?_, ?_, ?_, ?_, ?_, o8, ?_⟩, rfl, rfl, h4, ?_, ?_, ?_⟩
  · show 1 ≤ ra_n g + 1; omega
  · show ra_n g + 1 ≤ 60; omega
  · show upd (ra_P g) (ra_n g) _ 0 = -1
    rw [pk_un (by omega)]; exact o3
  · show upd (ra_Q g) (ra_n g) _ 0 = -1
    rw [pk_un (by omega)]; exact o4
  · intro r hr hr2
    have hr2 : r < ra_n g + 1 := hr2
    show ∃ p, p < r ∧ upd (ra_P g) (ra_n g) (nI (ra_t g)) r = nI p
    by_cases e : r = ra_n g
    · subst e; exact ⟨ra_t g, t1, by rw [pk_us]⟩
    · rw [pk_un e]; exact o5 r hr (by omega)
  · intro r hr2
    have hr2 : r < ra_n g + 1 := hr2
    show upd (ra_Q g) (ra_n g) q r = -1 ∨ ∃ p, p < r ∧ upd (ra_Q g) (ra_n g) q r = nI p
    by_cases e : r = ra_n g
    · subst e; rw [pk_us]; exact hq
    · rw [pk_un e]; exact o6 r (by omega)
  · intro b hb
    show va_up (ra_T g) (ra_B g) (ra_n g) b < ra_n g + 1 ∧ (∀ u ∈ va_up (ra_U g) (ra_B g) [] b, u < ra_n g + 1) ∧ rg_fall (va_up (ra_U g) (ra_B g) [] b) (va_up (ra_T g) (ra_B g) (ra_n g) b)
    by_cases e : b = ra_B g
    · subst e; simp [va_up, rg_fall]
    · obtain ⟨a1, a2, a3⟩ := o7 b hb
      simp only [va_up, e, if_false]
      exact ⟨by omega, fun u hu => Nat.lt_succ_of_lt (a2 u hu), a3⟩
  · intro r hr f hf
    have hr : r < ra_n g + 1 := hr
    show ((va_up (ra_R g) (ra_n g) X r).2.2.2 f).length ≤ 8
    by_cases e : r = ra_n g
    · subst e; rw [rg_ups]; exact (hX f hf).2.2.2.1
    · rw [rg_upn _ _ e]; exact o9 r (by omega) f hf
  · intro r hr
    have hr : r < ra_n g + 1 := hr
    show rg_CR (va_up rec (ra_n g) _ r) (va_up (ra_R g) (ra_n g) X r)
    by_cases e : r = ra_n g
    · subst e; rw [rg_ups, rg_ups]; exact rg_CR_cpy hX
    · rw [rg_upn _ _ e, rg_upn _ _ e]; exact h5 r (by omega)
  · intro r hr
    have hr : r < ra_n g + 1 := hr
    show upd fp (ra_n g) (nI (ra_t g)) r = upd (ra_P g) (ra_n g) (nI (ra_t g)) r ∧ upd sp (ra_n g) q r = upd (ra_Q g) (ra_n g) q r ∧ ∀ j, rg_has (vp_updL an (ra_n g) _ r) j = true ↔ rg_An (upd (ra_P g) (ra_n g) (nI (ra_t g))) (upd (ra_Q g) (ra_n g) q) r j
    by_cases e : r = ra_n g
    · subst e
      rw [pk_us, pk_us, pk_us, pk_us, pk_uLs]
      exact ⟨rfl, rfl, gw_an_new hn t1 hq (fun r hr => (h6 r hr).2.2)⟩
    · obtain ⟨b1, b2, b3⟩ := h6 r (by omega)
      rw [pk_un e, pk_un e, pk_un e, pk_un e, pk_uLn e]
      refine ⟨b1, b2, fun j => (b3 j).trans ⟨rg_An_same (fun x hx => ⟨(pk_un (by omega)).symm, (pk_un (by omega)).symm⟩), rg_An_same (fun x hx => ⟨pk_un (by omega), pk_un (by omega)⟩)⟩⟩
  · intro b hb
    show upd pt (ra_B g) (nI (ra_n g)) b = nI (va_up (ra_T g) (ra_B g) (ra_n g) b) ∧ upd uc (ra_B g) (nI 0) b = nI (va_up (ra_U g) (ra_B g) [] b).length ∧ ∀ k, k < (va_up (ra_U g) (ra_B g) [] b).length → un b k = nI ((va_up (ra_U g) (ra_B g) [] b).getD k 0)
    by_cases e : b = ra_B g
    · subst e; simp [va_up, pk_us]
    · rw [pk_un e, pk_un e]; simp only [va_up, e, if_false]; exact h7 b hb
theorem rg_isB_lt {x : Int32} (h1 : ¬ x < 0) (h2 : x < nI 4) : rg_isB x = true := by
  obtain ⟨j, hj, rfl⟩ := nI_of h1
  exact rg_isB_ok ((nI_ltI hj (by decide)).mp h2)
