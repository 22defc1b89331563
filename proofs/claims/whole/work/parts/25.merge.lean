/-! Merging: spec. -/
def rg_ch (xy xz yz : Bool) : Nat := if xy = false ∧ xz = false ∧ yz = false then 3 else if xy = false then 1 else if xz = false then 2 else 0
def rg_pick {α : Type} (w s : Nat) (x y z : α) : α := if w = 3 then (if s = 2 then z else y) else if w = 1 then y else if w = 2 then z else x
-- the first place below m where f and g differ, or m
def rg_ld (f g : Nat → Int32) : Nat → Nat
  | 0 => 0
  | m + 1 => if rg_ld f g m < m then rg_ld f g m else if f m = g m then m + 1 else m
def rg_Pf (f g : Nat → Int32) (m p : Nat) : Prop := p ≤ m ∧ (∀ j, j < p → f j = g j) ∧ (p < m → ¬ f p = g p)
theorem rg_ld_Pf (f g : Nat → Int32) (m : Nat) : rg_Pf f g m (rg_ld f g m) := by
  induction m with
  | zero => exact ⟨Nat.le_refl 0, fun j hj => absurd hj (Nat.not_lt_zero j), fun h => absurd h (Nat.not_lt_zero 0)⟩
  | succ m ih =>
    obtain ⟨h1, h2, h3⟩ := ih
    show rg_Pf f g (m + 1) (if rg_ld f g m < m then rg_ld f g m else if f m = g m then m + 1 else m)
    by_cases e : rg_ld f g m < m
    · rw [if_pos e]
      exact ⟨by omega, h2, fun _ => h3 e⟩
    · rw [if_neg e]
      have e1 : rg_ld f g m = m := by omega
      rw [e1] at h2
      by_cases e2 : f m = g m
      · rw [if_pos e2]
        exact ⟨Nat.le_refl _, lt_s h2 e2, fun h => absurd h (Nat.lt_irrefl _)⟩
      · rw [if_neg e2]
        exact ⟨Nat.le_succ m, h2, fun _ => e2⟩
theorem rg_Pf_one {f g : Nat → Int32} {m p q : Nat} (h : rg_Pf f g m p) (h2 : rg_Pf f g m q) : p = q := by
  rcases Nat.lt_trichotomy p q with e | e | e
  · exact absurd (h2.2.1 p e) (h.2.2 (by have := h2.1; omega))
  · exact e
  · exact absurd (h.2.1 q e) (h2.2.2 (by have := h.1; omega))
theorem rg_ld_eq {f g : Nat → Int32} {m p : Nat} (h : rg_Pf f g m p) : rg_ld f g m = p := rg_Pf_one (rg_ld_Pf f g m) h
theorem rg_ld_le (f g : Nat → Int32) (m : Nat) : rg_ld f g m ≤ m := (rg_ld_Pf f g m).1
abbrev rg_min (a b : Nat) : Nat := if a ≤ b then a else b
-- of list y against x: how many ints are the same at the beginning, how many of the rest at the end
def rg_hd (x y : List Int32) : Nat := rg_ld (fun j => x.getD j 0) (fun j => y.getD j 0) (rg_min x.length y.length)
def rg_tl (x y : List Int32) : Nat := rg_ld (fun j => x.getD (x.length - 1 - j) 0) (fun j => y.getD (y.length - 1 - j) 0) (rg_min x.length y.length - rg_hd x y)
theorem rg_hd_le (x y : List Int32) : rg_hd x y ≤ x.length ∧ rg_hd x y ≤ y.length := by
  have h : rg_hd x y ≤ rg_min x.length y.length := rg_ld_le _ _ _
  unfold rg_min at h
  split at h <;> omega
theorem rg_tl_le (x y : List Int32) : rg_tl x y + rg_hd x y ≤ x.length ∧ rg_tl x y + rg_hd x y ≤ y.length := by
  have h1 : rg_hd x y ≤ rg_min x.length y.length := rg_ld_le _ _ _
  have h : rg_tl x y ≤ rg_min x.length y.length - rg_hd x y := rg_ld_le _ _ _
  unfold rg_min at h h1
  split at h <;> split at h1 <;> omega
abbrev rg_to (x y : List Int32) : Nat := x.length - rg_tl x y
abbrev rg_en (x y : List Int32) : Nat := y.length - rg_tl x y
-- the places i to j - 1 of a list
def rg_sg (x : List Int32) (i j : Nat) : List Int32 := (x.drop i).take (j - i)
theorem rg_sg_len {x : List Int32} {i j : Nat} (h : j ≤ x.length) : (rg_sg x i j).length = j - i := by
  unfold rg_sg
  rw [List.length_take, List.length_drop]
  omega
theorem rg_sg_get {x : List Int32} {i j k : Nat} (h : k < j - i) : (rg_sg x i j).getD k 0 = x.getD (i + k) 0 := by
  unfold rg_sg
  simp only [List.getD_eq_getElem?_getD]
  rw [List.getElem?_take_of_lt h, List.getElem?_drop]
def rg_five (x y z : List Int32) : List Int32 := ((((([] : List Int32) ++ rg_sg x 0 (rg_hd x y)) ++ rg_sg y (rg_hd x y) (rg_en x y)) ++ rg_sg x (rg_to x y) (rg_hd x z)) ++ rg_sg z (rg_hd x z) (rg_en x z)) ++ rg_sg x (rg_to x z) x.length
def rg_le1 (x y z : List Int32) : Bool := decide (rg_to x y ≤ rg_hd x z)
def rg_jl (x y z : List Int32) : List Int32 := bif rg_le1 x y z then rg_five x y z else rg_five x z y
def rg_jok (x y z : List Int32) : Bool := (rg_le1 x y z != rg_le1 x z y) && decide ((rg_jl x y z).length ≤ 8)
theorem rg_app_get {D x : List Int32} {j : Nat} (h : j < D.length) : (D ++ x).getD j 0 = D.getD j 0 := by
  simp only [List.getD_eq_getElem?_getD]
  rw [List.getElem?_append_left h]
theorem rg_app_get2 {D x : List Int32} {j : Nat} : (D ++ x).getD (D.length + j) 0 = x.getD j 0 := by
  simp only [List.getD_eq_getElem?_getD]
  rw [List.getElem?_append_right (Nat.le_add_right _ _), Nat.add_sub_cancel_left]
-- the draft holds D
def rg_Dr (dr : Nat → Int32) (D : List Int32) : Prop := ∀ j, j < D.length → dr j = D.getD j 0
theorem rg_Dr_0 (dr : Nat → Int32) : rg_Dr dr [] := fun j hj => absurd hj (Nat.not_lt_zero j)
theorem rg_Dr_s {dr : Nat → Int32} {D x : List Int32} {i k : Nat} {v : Int32} (h : rg_Dr dr (D ++ rg_sg x i k)) (hik : i ≤ k) (hk : k < x.length) (hv : v = x.getD k 0) : rg_Dr (upd dr (D ++ rg_sg x i k).length v) (D ++ rg_sg x i (k + 1)) := by
  have l1 : (D ++ rg_sg x i k).length = D.length + (k - i) := by rw [List.length_append, rg_sg_len (by omega)]
  have l2 : (D ++ rg_sg x i (k + 1)).length = D.length + (k + 1 - i) := by rw [List.length_append, rg_sg_len (by omega)]
  intro j hj
  rw [l2] at hj
  by_cases e : j = D.length + (k - i)
  · subst e
    rw [l1, pk_us, rg_app_get2, rg_sg_get (by omega), hv, show i + (k - i) = k by omega]
  · rw [l1, pk_un e, h j (by rw [l1]; omega)]
    rcases Nat.lt_or_ge j D.length with h1 | h1
    · rw [rg_app_get h1, rg_app_get h1]
    · obtain ⟨q, rfl⟩ : ∃ q, j = D.length + q := ⟨j - D.length, by omega⟩
      rw [rg_app_get2, rg_app_get2, rg_sg_get (by omega), rg_sg_get (by omega)]
-- the merged record and its conflicts
def rg_wN (X Y Z : rg_R) (k : Nat) : Nat := rg_ch (decide (X.1 k = Y.1 k)) (decide (X.1 k = Z.1 k)) (decide (Y.1 k = Z.1 k))
def rg_wL (X Y Z : rg_R) (k : Nat) : Nat := rg_ch (decide (X.2.2.2 k = Y.2.2.2 k)) (decide (X.2.2.2 k = Z.2.2.2 k)) (decide (Y.2.2.2 k = Z.2.2.2 k))
def rg_jn (w : Nat) (x y z : List Int32) : Bool := decide (w = 3) && rg_jok x y z
def rg_mL (w s : Nat) (x y z : List Int32) : List Int32 := bif rg_jn w x y z then rg_jl x y z else rg_pick w s x y z
def rg_mg (X Y Z : rg_R) (s : Nat) : rg_R :=
  (fun k => rg_pick (rg_wN X Y Z k) s (X.1 k) (Y.1 k) (Z.1 k), fun k => Y.2.1 k + Z.2.1 k - X.2.1 k, fun k => (Y.2.2.1 k &&& Z.2.2.1 k) ||| ((Y.2.2.1 k ||| Z.2.2.1 k) &&& (X.2.2.1 k ^^^ (-1))), fun k => rg_mL (rg_wL X Y Z k) s (X.2.2.2 k) (Y.2.2.2 k) (Z.2.2.2 k))
def rg_cN (w f : Nat) : Int32 := bif decide (w = 3) then nI 1 <<< (nI f &&& 31) else nI 0
def rg_cL (w : Nat) (j : Bool) (f : Nat) : Int32 := bif decide (w = 3) && !j then nI 64 <<< (nI f &&& 31) else nI 0
def rg_mc (X Y Z : rg_R) : Nat → Int32
  | 0 => nI 0
  | f + 1 => (rg_mc X Y Z f ||| rg_cN (rg_wN X Y Z f) f) ||| rg_cL (rg_wL X Y Z f) (rg_jn (rg_wL X Y Z f) (X.2.2.2 f) (Y.2.2.2 f) (Z.2.2.2 f)) f
theorem rg_pick_len {w s : Nat} {x y z : List Int32} (hx : x.length ≤ 8) (hy : y.length ≤ 8) (hz : z.length ≤ 8) : (rg_pick w s x y z).length ≤ 8 := by
  unfold rg_pick
  split
  · split <;> assumption
  · split
    · assumption
    · split <;> assumption
theorem rg_mL_len {w s : Nat} {x y z : List Int32} (hx : x.length ≤ 8) (hy : y.length ≤ 8) (hz : z.length ≤ 8) : (rg_mL w s x y z).length ≤ 8 := by
  unfold rg_mL
  cases h : rg_jn w x y z with
  | false => exact rg_pick_len hx hy hz
  | true =>
    unfold rg_jn rg_jok at h
    simp only [Bool.and_eq_true, decide_eq_true_iff] at h
    exact h.2.2
theorem rg_ch_n3 {xy xz yz : Bool} (h : rg_ch xy xz yz = 3) : xy = false ∧ xz = false ∧ yz = false := by
  revert h
  cases xy <;> cases xz <;> cases yz <;> decide
theorem rg_ch_lt (xy xz yz : Bool) : rg_ch xy xz yz < 4 := by
  cases xy <;> cases xz <;> cases yz <;> decide
