theorem rg_pick_ap {α β : Type} (F : α → β) {w s : Nat} {x y z : α} : F (rg_pick w s x y z) = rg_pick w s (F x) (F y) (F z) := by
  unfold rg_pick
  split
  · split <;> rfl
  · split
    · rfl
    · split <;> rfl
theorem rg_pick_lt {w s x y z n : Nat} (hx : x < n) (hy : y < n) (hz : z < n) : rg_pick w s x y z < n := by
  unfold rg_pick
  split
  · split <;> assumption
  · split
    · assumption
    · split <;> assumption
theorem rg_sg_nil (x : List Int32) (i : Nat) : rg_sg x i i = [] := by unfold rg_sg; rw [Nat.sub_self]; rfl
theorem rg_hd_end {x y : List Int32} {i : Nat} (h1 : i ≤ x.length) (h2 : i ≤ y.length) (h3 : ∀ j, j < i → x.getD j 0 = y.getD j 0) (h4 : i < x.length → i < y.length → ¬ x.getD i 0 = y.getD i 0) : i = rg_hd x y := by
  refine (rg_ld_eq ⟨?_, h3, fun h => h4 ?_ ?_⟩).symm
  · unfold rg_min; split <;> omega
  · unfold rg_min at h; split at h <;> omega
  · unfold rg_min at h; split at h <;> omega
theorem rg_tl_end {x y : List Int32} {i q : Nat} (hi : i = rg_hd x y) (h1 : q ≤ x.length - i) (h2 : q ≤ y.length - i) (h3 : ∀ j, j < q → x.getD (x.length - 1 - j) 0 = y.getD (y.length - 1 - j) 0) (h4 : q < x.length - i → q < y.length - i → ¬ x.getD (x.length - 1 - q) 0 = y.getD (y.length - 1 - q) 0) : q = rg_tl x y := by
  subst hi
  refine (rg_ld_eq ⟨?_, h3, fun h => h4 ?_ ?_⟩).symm
  · unfold rg_min; split <;> omega
  · unfold rg_min at h; split at h <;> omega
  · unfold rg_min at h; split at h <;> omega
theorem rg_sg_s {D x : List Int32} {i k : Nat} (hik : i ≤ k) (hk : k < x.length) : (D ++ rg_sg x i k).length + 1 = (D ++ rg_sg x i (k + 1)).length := by
  rw [List.length_append, List.length_append, rg_sg_len (by omega), rg_sg_len (by omega)]
  omega
theorem rg_sg_l {D x : List Int32} {i k : Nat} (hk : k ≤ x.length) : (D ++ rg_sg x i k).length = D.length + (k - i) := by
  rw [List.length_append, rg_sg_len hk]
