theorem rg_bif_inj {a b : Bool} : (bif a then (1 : Int32) else 0) = (bif b then 1 else 0) ↔ a = b := by
  cases a <;> cases b <;> decide
theorem rg_jok_no {x y z : List Int32} (h : rg_le1 x y z = rg_le1 x z y) : rg_jok x y z = false := by
  unfold rg_jok
  rw [h]
  simp
theorem rg_jok_l {x y z : List Int32} (h1 : rg_le1 x y z = true) (h2 : rg_le1 x z y = false) : rg_jl x y z = rg_five x y z ∧ rg_jok x y z = decide ((rg_five x y z).length ≤ 8) := by
  have e : rg_jl x y z = rg_five x y z := by unfold rg_jl; rw [h1]; rfl
  refine ⟨e, ?_⟩
  unfold rg_jok
  rw [e, h1, h2]
  simp
theorem rg_jok_r {x y z : List Int32} (h1 : rg_le1 x y z = false) (h2 : rg_le1 x z y = true) : rg_jl x y z = rg_five x z y ∧ rg_jok x y z = decide ((rg_five x z y).length ≤ 8) := by
  have e : rg_jl x y z = rg_five x z y := by unfold rg_jl; rw [h1]; rfl
  refine ⟨e, ?_⟩
  unfold rg_jok
  rw [e, h1, h2]
  simp
