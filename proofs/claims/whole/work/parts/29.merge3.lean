/-! A list of a record in the arrays; the merged record as it grows in slot n. -/
def rg_Ls (le li : Nat → Int32) (f r : Nat) (l : List Int32) : Prop := l.length ≤ 8 ∧ le (2 * r + f) = nI l.length ∧ ∀ k, k < l.length → li (16 * r + 8 * f + k) = l.getD k 0
theorem rg_pick_Ls {le li : Nat → Int32} {f w s x y z : Nat} {lx ly lz : List Int32} (hx : rg_Ls le li f x lx) (hy : rg_Ls le li f y ly) (hz : rg_Ls le li f z lz) : rg_Ls le li f (rg_pick w s x y z) (rg_pick w s lx ly lz) := by
  unfold rg_pick
  split
  · split <;> assumption
  · split
    · assumption
    · split <;> assumption
theorem rg_sg_all (l : List Int32) : ([] : List Int32) ++ rg_sg l 0 l.length = l := by
  unfold rg_sg
  simp
theorem rg_jn_3 {w : Nat} {x y z : List Int32} (h : w = 3) : rg_jn w x y z = rg_jok x y z := by unfold rg_jn; rw [decide_eq_true h]; rfl
theorem rg_jn_n {w : Nat} {x y z : List Int32} (h : ¬ w = 3) : rg_jn w x y z = false := by unfold rg_jn; rw [decide_eq_false h]; rfl
theorem rg_cL_n {w f : Nat} {j : Bool} (h : ¬ w = 3) : rg_cL w j f = nI 0 := by unfold rg_cL; rw [decide_eq_false h]; rfl
theorem rg_cL_t {w f : Nat} : rg_cL w true f = nI 0 := by unfold rg_cL; cases decide (w = 3) <;> rfl
theorem rg_cL_f {w f : Nat} (h : w = 3) : rg_cL w false f = nI 64 <<< (nI f &&& 31) := by unfold rg_cL; rw [decide_eq_true h]; rfl
theorem rg_mL_f {w s : Nat} {x y z : List Int32} (h : rg_jn w x y z = false) : rg_mL w s x y z = rg_pick w s x y z := by unfold rg_mL; rw [h]; rfl
theorem rg_mL_t {w s : Nat} {x y z : List Int32} (h : rg_jn w x y z = true) : rg_mL w s x y z = rg_jl x y z := by unfold rg_mL; rw [h]; rfl
-- the first k fields of each kind of slot n hold M's
def rm_MI (n : Nat) (M : rg_R) (f : Nat) (nu : Nat → Int32) (co : Nat → Int64) (se li le : Nat → Int32) : Prop :=
  ∀ k, k < f → nu (2 * n + k) = M.1 k ∧ co (2 * n + k) = M.2.1 k ∧ se (2 * n + k) = M.2.2.1 k ∧ (M.2.2.2 k).length ≤ 8 ∧ le (2 * n + k) = nI (M.2.2.2 k).length ∧ ∀ i, i < (M.2.2.2 k).length → li (16 * n + 8 * k + i) = (M.2.2.2 k).getD i 0
-- the slots below n are as they were
def rm_Jk (n : Nat) (nu nu1 : Nat → Int32) (co co1 : Nat → Int64) (se se1 li li1 le le1 : Nat → Int32) : Prop :=
  (∀ j, j < 2 * n → nu1 j = nu j) ∧ (∀ j, j < 2 * n → co1 j = co j) ∧ (∀ j, j < 2 * n → se1 j = se j) ∧ (∀ j, j < 2 * n → le1 j = le j) ∧ ∀ j, j < 16 * n → li1 j = li j
theorem rm_Jk_MR {n r : Nat} {nu nu1 : Nat → Int32} {co co1 : Nat → Int64} {se se1 li li1 le le1 : Nat → Int32} {X : rg_R} (h : rm_Jk n nu nu1 co co1 se se1 li li1 le le1) (hr : r < n) (hX : rg_MR nu co se le li r X) : rg_MR nu1 co1 se1 le1 li1 r X := by
  intro f hf
  obtain ⟨a1, a2, a3, a4, a5, a6⟩ := hX f hf
  refine ⟨by rw [h.1 _ (by omega)]; exact a1, by rw [h.2.1 _ (by omega)]; exact a2, by rw [h.2.2.1 _ (by omega)]; exact a3, a4, by rw [h.2.2.2.1 _ (by omega)]; exact a5, fun k hk => ?_⟩
  rw [h.2.2.2.2 _ (by omega)]
  exact a6 k hk
theorem rm_Jk_s {n f : Nat} {nu nu1 : Nat → Int32} {co co1 : Nat → Int64} {se se1 li li1 le le1 li2 : Nat → Int32} {v1 v3 v5 : Int32} {v2 : Int64} (h : rm_Jk n nu nu1 co co1 se se1 li li1 le le1) (hl : ∀ j, j < 16 * n + 8 * f ∨ 16 * n + 8 * f + 8 ≤ j → li2 j = li1 j) : rm_Jk n nu (upd nu1 (2 * n + f) v1) co (vp_updL co1 (2 * n + f) v2) se (upd se1 (2 * n + f) v3) li li2 le (upd le1 (2 * n + f) v5) := by
  refine ⟨fun j hj => ?_, fun j hj => ?_, fun j hj => ?_, fun j hj => ?_, fun j hj => ?_⟩
  · rw [pk_un (by omega)]; exact h.1 j hj
  · rw [pk_uLn (by omega)]; exact h.2.1 j hj
  · rw [pk_un (by omega)]; exact h.2.2.1 j hj
  · rw [pk_un (by omega)]; exact h.2.2.2.1 j hj
  · rw [hl j (by omega)]; exact h.2.2.2.2 j hj
theorem rm_MI_s {n f : Nat} {M : rg_R} {nu1 : Nat → Int32} {co1 : Nat → Int64} {se1 li1 le1 li2 : Nat → Int32} {v1 v3 : Int32} {v2 : Int64} (h : rm_MI n M f nu1 co1 se1 li1 le1) (e1 : v1 = M.1 f) (e2 : v2 = M.2.1 f) (e3 : v3 = M.2.2.1 f) (h8 : (M.2.2.2 f).length ≤ 8) (h8a : ∀ k, k < f → (M.2.2.2 k).length ≤ 8) (hin : ∀ i, i < (M.2.2.2 f).length → li2 (16 * n + 8 * f + i) = (M.2.2.2 f).getD i 0) (hl : ∀ j, j < 16 * n + 8 * f ∨ 16 * n + 8 * f + 8 ≤ j → li2 j = li1 j) :
    rm_MI n M (f + 1) (upd nu1 (2 * n + f) v1) (vp_updL co1 (2 * n + f) v2) (upd se1 (2 * n + f) v3) li2 (upd le1 (2 * n + f) (nI (M.2.2.2 f).length)) := by
  intro k hk
  by_cases e : k = f
  · subst e
    rw [pk_us, pk_uLs, pk_us, pk_us]
    exact ⟨e1, e2, e3, h8, rfl, hin⟩
  · have hk : k < f := by omega
    obtain ⟨a1, a2, a3, a4, a5, a6⟩ := h k hk
    rw [pk_un (by omega), pk_uLn (by omega), pk_un (by omega), pk_un (by omega)]
    refine ⟨a1, a2, a3, a4, a5, fun i hi => ?_⟩
    rw [hl _ (by omega)]
    exact a6 i hi
theorem rm_Rep_c {cnt bra cof c' : Int32} {nu : Nat → Int32} {co : Nat → Int64} {se li le fi sc ti un ma : Nat → Int32} {n : Nat} {R : Nat → rg_R} {P Q : Nat → Int32} {T : Nat → Nat} {U : Nat → List Nat} {B : Nat} {c : Int32} (h : rm_Rep cnt bra cof nu co se li le fi sc ti un ma (n, R, P, Q, T, U, B, c)) : rm_Rep cnt bra c' nu co se li le fi sc ti un ma (n, R, P, Q, T, U, B, c') :=
  ⟨h.1, h.2.1, h.2.2.1, rfl, h.2.2.2.2⟩
def rg_withc (g : rg_A) (c : Int32) : rg_A := (ra_n g, ra_R g, ra_P g, ra_Q g, ra_T g, ra_U g, ra_B g, c)
noncomputable def rg_joinK (g : rg_A) (j s : Nat) : Int32 × Int32 × rg_A :=
  if (rg_mc (ra_R g (rg_base (ra_P g) (ra_Q g) (ra_t g) (ra_T g j))) (ra_R g (ra_t g)) (ra_R g (ra_T g j)) 2 ≠ 0 ∧ s = 0) ∨ ra_n g = 60 then (2, 0, rg_withc g (rg_mc (ra_R g (rg_base (ra_P g) (ra_Q g) (ra_t g) (ra_T g j))) (ra_R g (ra_t g)) (ra_R g (ra_T g j)) 2))
  else (0, 2, rg_new (rg_withc g (rg_mc (ra_R g (rg_base (ra_P g) (ra_Q g) (ra_t g) (ra_T g j))) (ra_R g (ra_t g)) (ra_R g (ra_T g j)) 2)) (rg_mg (ra_R g (rg_base (ra_P g) (ra_Q g) (ra_t g) (ra_T g j))) (ra_R g (ra_t g)) (ra_R g (ra_T g j)) s) (nI (ra_T g j)))
noncomputable def rg_mergeK (g : rg_A) (j s : Nat) : Int32 × Int32 × rg_A :=
  @ite _ (rg_An (ra_P g) (ra_Q g) (ra_t g) (ra_T g j)) (Classical.propDecidable _) (0, 0, rg_withc g 0) (@ite _ (rg_An (ra_P g) (ra_Q g) (ra_T g j) (ra_t g)) (Classical.propDecidable _) (0, 1, rg_come (rg_withc g 0) (ra_T g j)) (rg_joinK g j s))
noncomputable def rg_oMerge (g : rg_A) (x y : Int32) : Int32 × Int32 × rg_A := if rg_isB x = true ∧ ¬ y < 0 ∧ ¬ 2 < y then rg_mergeK g x.toNatClampNeg y.toNatClampNeg else (1, 0, rg_withc g 0)
