/-! A set of 32 elements in a long. -/
def rg_mkL (d : Int64) (x : Nat) (w : Bool) : Int64 := bif w then d ||| ((1 : Int64) <<< ((nI x).toInt64 &&& 63)) else d &&& (((1 : Int64) <<< ((nI x).toInt64 &&& 63)) ^^^ (-1))
def rg_b32 (x : Int32) (j : Nat) : Bool := x.toBitVec.getLsbD j
theorem rg_has_m1 {j : Nat} (h : j < 64) : rg_has (-1) j = true := (by decide +kernel : ∀ j, j < 64 → rg_has (-1) j = true) j h
theorem rg_has_xor (x y : Int64) (j : Nat) : rg_has (x ^^^ y) j = (rg_has x j ^^ rg_has y j) := by unfold rg_has; rw [Int64.toBitVec_xor, BitVec.getLsbD_xor]
theorem rg_has_mask (j : Nat) : rg_has 4294967295 j = decide (j < 32) := by
  rcases Nat.lt_or_ge j 64 with h | h
  · exact (by decide +kernel : ∀ j, j < 64 → rg_has 4294967295 j = decide (j < 32)) j h
  · rw [rg_has_big h, decide_eq_false (by omega)]
theorem rg_has_i2l (x : Int32) {j : Nat} (h : j < 32) : rg_has x.toInt64 j = rg_b32 x j := by
  unfold rg_has rg_b32
  show (x.toBitVec.signExtend 64).getLsbD j = _
  rw [BitVec.getLsbD_signExtend]
  simp [h, show j < 64 by omega]
theorem rg_has_zx (x : Int32) (j : Nat) : rg_has (rg_zx x) j = (decide (j < 32) && rg_b32 x j) := by
  unfold rg_zx
  rw [rg_has_and, rg_has_mask]
  rcases Nat.lt_or_ge j 32 with h | h
  · rw [rg_has_i2l x h, decide_eq_true h]; simp
  · rw [decide_eq_false (by omega)]; simp
theorem rg_b32_big {x : Int32} {j : Nat} (h : 32 ≤ j) : rg_b32 x j = false := BitVec.getLsbD_of_ge _ _ h
theorem rg_b32_or (x y : Int32) (j : Nat) : rg_b32 (x ||| y) j = (rg_b32 x j || rg_b32 y j) := by unfold rg_b32; rw [Int32.toBitVec_or, BitVec.getLsbD_or]
theorem rg_b32_and (x y : Int32) (j : Nat) : rg_b32 (x &&& y) j = (rg_b32 x j && rg_b32 y j) := by unfold rg_b32; rw [Int32.toBitVec_and, BitVec.getLsbD_and]
theorem rg_b32_xor (x y : Int32) (j : Nat) : rg_b32 (x ^^^ y) j = (rg_b32 x j ^^ rg_b32 y j) := by unfold rg_b32; rw [Int32.toBitVec_xor, BitVec.getLsbD_xor]
theorem rg_b32_m1 {j : Nat} (h : j < 32) : rg_b32 (-1) j = true := (by decide +kernel : ∀ j, j < 32 → rg_b32 (-1) j = true) j h
theorem rg_b32_1 {x j : Nat} (hx : x < 32) (hj : j < 32) : rg_b32 (nI 1 <<< (nI x &&& 31)) j = decide (j = x) := (by decide +kernel : ∀ x, x < 32 → ∀ j, j < 32 → rg_b32 (nI 1 <<< (nI x &&& 31)) j = decide (j = x)) x hx j hj
theorem rg_zx_mk {y : Int32} {x : Nat} {w : Bool} (hx : x < 32) : rg_zx (rg_mk y x w) = rg_mkL (rg_zx y) x w := by
  apply rg_ext
  intro j hj
  rw [rg_has_zx]
  unfold rg_mk rg_mkL
  cases w with
  | true =>
    show (decide (j < 32) && rg_b32 (y ||| _) j) = rg_has (rg_zx y ||| _) j
    rw [rg_has_or, rg_has_zx, rg_has_1 (by omega), rg_b32_or]
    rcases Nat.lt_or_ge j 32 with h | h
    · rw [rg_b32_1 hx h, decide_eq_true h]; simp
    · rw [decide_eq_false (show ¬ j < 32 by omega), decide_eq_false (show ¬ j = x by omega)]; simp
  | false =>
    show (decide (j < 32) && rg_b32 (y &&& _) j) = rg_has (rg_zx y &&& _) j
    rw [rg_has_and, rg_has_zx, rg_has_xor, rg_has_1 (by omega), rg_has_m1 hj, rg_b32_and, rg_b32_xor]
    rcases Nat.lt_or_ge j 32 with h | h
    · rw [rg_b32_1 hx h, rg_b32_m1 h, decide_eq_true h]; simp
    · rw [decide_eq_false (show ¬ j < 32 by omega)]; simp
theorem rg_zx_join {x y z : Int32} : ((rg_zx y &&& rg_zx z) ||| ((rg_zx y ||| rg_zx z) &&& (rg_zx x ^^^ (-1)))) = rg_zx ((y &&& z) ||| ((y ||| z) &&& (x ^^^ (-1)))) := by
  apply rg_ext
  intro j hj
  rw [rg_has_zx, rg_has_or, rg_has_and, rg_has_and, rg_has_or, rg_has_xor, rg_has_zx, rg_has_zx, rg_has_zx, rg_has_m1 hj, rg_b32_or, rg_b32_and, rg_b32_and, rg_b32_or, rg_b32_xor]
  rcases Nat.lt_or_ge j 32 with h | h
  · rw [rg_b32_m1 h, decide_eq_true h]; simp
  · rw [decide_eq_false (show ¬ j < 32 by omega)]; simp
theorem rg_isR_no {n : Nat} {x : Int32} (h : x < 0 ∨ nI n ≤ x) : rg_isR n x = false := by
  unfold rg_isR
  rcases h with h | h
  · rw [decide_eq_true h]; rfl
  · rw [decide_eq_true h]; simp
theorem rg_3132 {x : Int32} (h : 31 < x) (h2 : x < nI 32) : False := by
  rw [Int32.lt_iff_toInt_lt] at h h2
  have a : (31 : Int32).toInt = 31 := by decide
  have b : (nI 32).toInt = 32 := by decide
  rw [a] at h
  rw [b] at h2
  omega
