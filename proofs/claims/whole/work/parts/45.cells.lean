/-! How 24 cells hold a record. -/
def rg_zx (x : Int32) : Int64 := x.toInt64 &&& 4294967295
def rg_CR (d : Nat → Int64) (X : rg_R) : Prop :=
  ∀ k, k < 2 → d k = (X.1 k).toInt64 ∧ d (k + 2) = X.2.1 k ∧ d (k + 4) = rg_zx (X.2.2.1 k) ∧ (X.2.2.2 k).length ≤ 8 ∧ d (k + 6) = lN (X.2.2.2 k).length ∧ ∀ q, q < 8 → d (8 + k * 8 + q) = ((X.2.2.2 k).getD q 0).toInt64
theorem rg_i64 {x y : Int32} : x.toInt64 = y.toInt64 ↔ x = y := by
  constructor
  · intro h
    have h2 := congrArg Int64.toInt32 h
    simpa using h2
  · intro h; rw [h]
theorem rg_zx_inj {x y : Int32} : rg_zx x = rg_zx y ↔ x = y := by
  constructor
  · intro h
    have h2 : (rg_zx x).toInt32 = (rg_zx y).toInt32 := by rw [h]
    have e : ∀ z : Int32, (rg_zx z).toInt32 = z := by
      intro z
      unfold rg_zx
      rw [Int64.toInt32_and]
      have : (4294967295 : Int64).toInt32 = -1 := by decide
      rw [this]
      simp
    rw [e, e] at h2
    exact h2
  · intro h; rw [h]
def rg_sf (X Y : rg_R) (f : Nat) : Bool :=
  if f < 2 then decide (X.1 f = Y.1 f) else if f < 4 then decide (X.2.1 (f - 2) = Y.2.1 (f - 2)) else if f < 6 then decide (X.2.2.1 (f - 4) = Y.2.2.1 (f - 4)) else decide (X.2.2.2 (f - 6) = Y.2.2.2 (f - 6))
theorem rg_sf_lo {d d' : Nat → Int64} {X Y : rg_R} (h : rg_CR d X) (h' : rg_CR d' Y) {f : Nat} (hf : f < 6) : rg_sf X Y f = decide (d f = d' f) := by
  unfold rg_sf
  by_cases h1 : f < 2
  · rw [if_pos h1, (h f h1).1, (h' f h1).1]
    exact decide_eq_decide.mpr rg_i64.symm
  · rw [if_neg h1]
    by_cases h2 : f < 4
    · rw [if_pos h2]
      have a := (h (f - 2) (by omega)).2.1
      have b := (h' (f - 2) (by omega)).2.1
      rw [show f - 2 + 2 = f by omega] at a b
      rw [a, b]
    · rw [if_neg h2, if_pos hf]
      have a := (h (f - 4) (by omega)).2.2.1
      have b := (h' (f - 4) (by omega)).2.2.1
      rw [show f - 4 + 4 = f by omega] at a b
      rw [a, b]
      exact decide_eq_decide.mpr rg_zx_inj.symm
theorem rg_sf_hi {d d' : Nat → Int64} {X Y : rg_R} (h : rg_CR d X) (h' : rg_CR d' Y) {k : Nat} (hk : k < 2) : rg_sf X Y (k + 6) = true ↔ d (k + 6) = d' (k + 6) ∧ ∀ q, q < 8 → d (8 + k * 8 + q) = d' (8 + k * 8 + q) := by
  obtain ⟨-, -, -, a4, a5, a6⟩ := h k hk
  obtain ⟨-, -, -, b4, b5, b6⟩ := h' k hk
  unfold rg_sf
  rw [if_neg (by omega), if_neg (by omega), if_neg (by omega), decide_eq_true_iff, show k + 6 - 6 = k by omega]
  constructor
  · intro e
    refine ⟨by rw [a5, b5, e], fun q hq => by rw [a6 q hq, b6 q hq, e]⟩
  · rintro ⟨e1, e2⟩
    rw [a5, b5] at e1
    have e3 : (X.2.2.2 k).length = (Y.2.2.2 k).length := (lN_eq (by omega) (by omega)).mp e1
    refine rg_list_eq e3 (fun j hj => ?_)
    have := e2 j (by omega)
    rw [a6 j (by omega), b6 j (by omega)] at this
    exact rg_i64.mp this
