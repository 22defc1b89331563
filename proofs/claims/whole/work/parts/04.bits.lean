/-! Sets of numbers in a long, by their bits; ancestors. -/
def rg_has (x : Int64) (j : Nat) : Bool := x.toBitVec.getLsbD j
theorem rg_has_or (x y : Int64) (j : Nat) : rg_has (x ||| y) j = (rg_has x j || rg_has y j) := by unfold rg_has; rw [Int64.toBitVec_or, BitVec.getLsbD_or]
theorem rg_has_and (x y : Int64) (j : Nat) : rg_has (x &&& y) j = (rg_has x j && rg_has y j) := by unfold rg_has; rw [Int64.toBitVec_and, BitVec.getLsbD_and]
theorem rg_has_0 (j : Nat) : rg_has 0 j = false := BitVec.getLsbD_zero
theorem rg_has_big {x : Int64} {j : Nat} (h : 64 ≤ j) : rg_has x j = false := BitVec.getLsbD_of_ge _ _ h
theorem rg_sl : ∀ n, n < 64 → (((nI n).toInt64 &&& 63).toBitVec.smod 64).toNat = n := by decide +kernel
theorem rg_su : ∀ n, n < 64 → (((nI n).toInt64.toUInt64 &&& Int64.toUInt64 63).toBitVec % 64).toNat = n := by decide +kernel
theorem rg_one (i : Nat) : (1 : Int64).toBitVec.getLsbD i = decide (i = 0) := by
  show (1#64).getLsbD i = _
  rw [BitVec.getLsbD_one]
  simp
theorem rg_has_1 {r : Nat} (hr : r < 64) (j : Nat) : rg_has ((1 : Int64) <<< ((nI r).toInt64 &&& 63)) j = decide (j = r) := by
  unfold rg_has
  rw [Int64.toBitVec_shiftLeft]
  show ((1 : Int64).toBitVec <<< (((nI r).toInt64 &&& 63).toBitVec.smod 64).toNat).getLsbD j = _
  rw [rg_sl r hr, BitVec.getLsbD_shiftLeft, rg_one]
  rcases Nat.lt_or_ge j 64 with h | h
  · rcases Nat.lt_trichotomy j r with h2 | h2 | h2
    · rw [decide_eq_false (show ¬ j = r by omega)]
      simp [h2]
    · subst h2
      simp [h]
    · rw [decide_eq_false (show ¬ j = r by omega), decide_eq_false (show ¬ j - r = 0 by omega)]
      simp
  · rw [decide_eq_false (show ¬ j = r by omega)]
    simp [Nat.not_lt.mpr h]
theorem rg_bit_low (b : BitVec 64) (c : Bool) (h : b.getLsbD 0 = c) : b &&& 1#64 = bif c then 1#64 else 0#64 := by
  apply BitVec.eq_of_getLsbD_eq
  intro i hi
  rw [BitVec.getLsbD_and, BitVec.getLsbD_one]
  cases i with
  | zero => rw [h]; cases c <;> rfl
  | succ i => cases c <;> simp
theorem rg_bif64 (c : Bool) : (bif c then 1#64 else 0#64) = (bif c then (1 : Int64) else 0).toBitVec := by cases c <;> rfl
-- bit r, by the shift that keeps the sign
theorem rg_bit_s (x : Int64) {r : Nat} (hr : r < 64) : ((x >>> ((nI r).toInt64 &&& 63)) &&& 1) = bif rg_has x r then 1 else 0 := by
  apply Int64.toBitVec_inj.mp
  rw [Int64.toBitVec_and, Int64.toBitVec_shiftRight]
  show (x.toBitVec.sshiftRight (((nI r).toInt64 &&& 63).toBitVec.smod 64).toNat) &&& 1#64 = _
  rw [rg_sl r hr, rg_bit_low _ (rg_has x r) (by rw [BitVec.getLsbD_sshiftRight]; simp [hr, rg_has]), rg_bif64]
-- bit r, by the shift that fills with zeros
theorem rg_bit_u (x : Int64) {r : Nat} (hr : r < 64) : ((x.toUInt64 >>> ((nI r).toInt64.toUInt64 &&& Int64.toUInt64 63)).toInt64 &&& 1) = bif rg_has x r then 1 else 0 := by
  apply Int64.toBitVec_inj.mp
  rw [Int64.toBitVec_and]
  show (x.toUInt64 >>> ((nI r).toInt64.toUInt64 &&& Int64.toUInt64 63)).toBitVec &&& 1#64 = _
  rw [UInt64.toBitVec_shiftRight]
  show (x.toUInt64.toBitVec >>> (((nI r).toInt64.toUInt64 &&& Int64.toUInt64 63).toBitVec % 64).toNat) &&& 1#64 = _
  rw [rg_su r hr, rg_bit_low _ (rg_has x r) (by rw [BitVec.getLsbD_ushiftRight]; rfl), rg_bif64]
theorem rg_cmp0 (x y : Int64) : lg_cmp x y = 0 ↔ x = y := by
  unfold lg_cmp
  constructor
  · intro h
    split at h
    · exact absurd h (by decide)
    · split at h
      · assumption
      · exact absurd h (by decide)
  · rintro rfl
    simp [Int64.lt_irrefl]
theorem rg_ext {x y : Int64} (h : ∀ j, j < 64 → rg_has x j = rg_has y j) : x = y := Int64.toBitVec_inj.mp (BitVec.eq_of_getLsbD_eq (fun i hi => h i hi))
-- j is an ancestor of r: it is in every set that holds r and, of each of its members, the parents
def rg_An (P1 P2 : Nat → Int32) (r j : Nat) : Prop := ∀ S : Nat → Prop, S r → (∀ q p, S q → p < q → (P1 q = nI p ∨ P2 q = nI p) → S p) → S j
theorem rg_An_rf (P1 P2 : Nat → Int32) (r : Nat) : rg_An P1 P2 r r := fun _ h _ => h
theorem rg_An_up {P1 P2 : Nat → Int32} {r p j : Nat} (h : rg_An P1 P2 p j) (hp : p < r) (hq : P1 r = nI p ∨ P2 r = nI p) : rg_An P1 P2 r j := fun S hr hc => h S (hc r p hr hp hq) hc
theorem rg_An_le {P1 P2 : Nat → Int32} {r j : Nat} (h : rg_An P1 P2 r j) : j ≤ r := h (fun q => q ≤ r) (Nat.le_refl r) (fun q p hq hp _ => by omega)
theorem rg_An_eq {P1 P2 : Nat → Int32} {r j : Nat} : rg_An P1 P2 r j ↔ j = r ∨ ∃ p, p < r ∧ (P1 r = nI p ∨ P2 r = nI p) ∧ rg_An P1 P2 p j := by
  constructor
  · intro h
    refine h (fun q => q = r ∨ ∃ p, p < r ∧ (P1 r = nI p ∨ P2 r = nI p) ∧ rg_An P1 P2 p q) (Or.inl rfl) (fun q p hq hp hx => ?_)
    rcases hq with rfl | ⟨p2, h1, h2, h3⟩
    · exact Or.inr ⟨p, hp, hx, rg_An_rf P1 P2 p⟩
    · exact Or.inr ⟨p2, h1, h2, fun S a b => b q p (h3 S a b) hp hx⟩
  · rintro (rfl | ⟨p, h1, h2, h3⟩)
    · exact rg_An_rf P1 P2 j
    · exact rg_An_up h3 h1 h2
theorem rg_An_tr {P1 P2 : Nat → Int32} {r q j : Nat} (h : rg_An P1 P2 r q) (h2 : rg_An P1 P2 q j) : rg_An P1 P2 r j := fun S a b => h2 S (h S a b) b
-- only the parents of numbers up to r matter
theorem rg_An_same {P1 P2 Q1 Q2 : Nat → Int32} {r j : Nat} (e : ∀ q, q ≤ r → P1 q = Q1 q ∧ P2 q = Q2 q) (h : rg_An P1 P2 r j) : rg_An Q1 Q2 r j := by
  have := h (fun q => q ≤ r ∧ rg_An Q1 Q2 r q) ⟨Nat.le_refl r, rg_An_rf Q1 Q2 r⟩ (fun q p hq hp hx => by
    obtain ⟨h1, h2⟩ := hq
    obtain ⟨e1, e2⟩ := e q h1
    rw [e1, e2] at hx
    exact ⟨by omega, fun S a b => b q p (h2 S a b) hp hx⟩)
  exact this.2
