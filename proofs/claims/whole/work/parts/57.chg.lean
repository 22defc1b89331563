theorem rg_sf_setN {Y : rg_R} {k : Nat} {v : Int32} (hk : k < 2) : ∀ j, j < 8 → j ≠ k → rg_sf (rg_setN Y k v) Y j = true := by
  intro j hj hne
  unfold rg_sf rg_setN
  by_cases h1 : j < 2
  · rw [if_pos h1]; exact decide_eq_true (pk_un hne)
  · rw [if_neg h1]
    by_cases h2 : j < 4
    · rw [if_pos h2]; exact decide_eq_true rfl
    · rw [if_neg h2]
      by_cases h3 : j < 6
      · rw [if_pos h3]; exact decide_eq_true rfl
      · rw [if_neg h3]; exact decide_eq_true rfl
theorem rg_sf_setK {Y : rg_R} {k : Nat} {v : Int64} (hk : k < 2) : ∀ j, j < 8 → j ≠ k + 2 → rg_sf (rg_setK Y k v) Y j = true := by
  intro j hj hne
  unfold rg_sf rg_setK
  by_cases h1 : j < 2
  · rw [if_pos h1]; exact decide_eq_true rfl
  · rw [if_neg h1]
    by_cases h2 : j < 4
    · rw [if_pos h2]; exact decide_eq_true (pk_uLn (by omega))
    · rw [if_neg h2]
      by_cases h3 : j < 6
      · rw [if_pos h3]; exact decide_eq_true rfl
      · rw [if_neg h3]; exact decide_eq_true rfl
theorem rg_sf_setE {Y : rg_R} {k : Nat} {v : Int32} (hk : k < 2) : ∀ j, j < 8 → j ≠ k + 4 → rg_sf (rg_setE Y k v) Y j = true := by
  intro j hj hne
  unfold rg_sf rg_setE
  by_cases h1 : j < 2
  · rw [if_pos h1]; exact decide_eq_true rfl
  · rw [if_neg h1]
    by_cases h2 : j < 4
    · rw [if_pos h2]; exact decide_eq_true rfl
    · rw [if_neg h2]
      by_cases h3 : j < 6
      · rw [if_pos h3]; exact decide_eq_true (pk_un (by omega))
      · rw [if_neg h3]; exact decide_eq_true rfl
theorem rg_sf_setL {Y : rg_R} {k : Nat} {l : List Int32} (hk : k < 2) : ∀ j, j < 8 → j ≠ k + 6 → rg_sf (rg_setL Y k l) Y j = true := by
  intro j hj hne
  unfold rg_sf rg_setL
  by_cases h1 : j < 2
  · rw [if_pos h1]; exact decide_eq_true rfl
  · rw [if_neg h1]
    by_cases h2 : j < 4
    · rw [if_pos h2]; exact decide_eq_true rfl
    · rw [if_neg h2]
      by_cases h3 : j < 6
      · rw [if_pos h3]; exact decide_eq_true rfl
      · rw [if_neg h3]; exact decide_eq_true (rg_upn _ _ (by omega))
