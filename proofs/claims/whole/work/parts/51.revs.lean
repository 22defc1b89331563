def rg_nx (f : Nat → Int32) (x : Int32) : Int32 := if 0 ≤ x then f x.toNatClampNeg else -1
def rg_ax (f : Nat → Int64) (x : Int32) : Int64 := if 0 ≤ x then f x.toNatClampNeg else 0
theorem rg_nx_m (f : Nat → Int32) : rg_nx f (-1) = -1 := by unfold rg_nx; rw [if_neg (by decide)]
theorem rg_nx_n (f : Nat → Int32) {k : Nat} (h : k < 2 ^ 31) : rg_nx f (nI k) = f k := by unfold rg_nx; rw [if_pos (nI_pos' h), nI_clamp h]
theorem rg_ax_m (f : Nat → Int64) : rg_ax f (-1) = 0 := by unfold rg_ax; rw [if_neg (by decide)]
theorem rg_ax_n (f : Nat → Int64) {k : Nat} (h : k < 2 ^ 31) : rg_ax f (nI k) = f k := by unfold rg_ax; rw [if_pos (nI_pos' h), nI_clamp h]
theorem rg_nI_m1 {k : Nat} (h : k < 2 ^ 31) : ¬ nI k = -1 := fun e => by
  have := nI_pos' h
  rw [e] at this
  exact absurd this (by decide)
theorem rg_cu0 {x : Int64} {r : Nat} (hr : r < 64) : lg_cmp ((x.toUInt64 >>> ((nI r).toInt64.toUInt64 &&& Int64.toUInt64 63)).toInt64 &&& 1) 0 = 0 ↔ rg_has x r = false := by
  rw [rg_bit_u x hr]
  exact rg_cb0
