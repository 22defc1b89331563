/-! Reads: spec. -/
def rg_oPar (g : rg_A) (x : Int32) (w : Bool) : Int32 × Int32 × rg_A := bif rg_isR (ra_n g) x then (0, bif w then ra_Q g x.toNatClampNeg else ra_P g x.toNatClampNeg, g) else (1, 0, g)
def rg_oDif (g : rg_A) (x y : Int32) : Int32 × Int32 × rg_A := bif rg_isR (ra_n g) x && rg_isR (ra_n g) y then (0, rg_dif (ra_R g x.toNatClampNeg) (ra_R g y.toNatClampNeg), g) else (1, 0, g)
def rg_oFig (g : rg_A) (x : Int32) : Int32 × Int32 × rg_A :=
  if x = 0 then (0, nI (ra_t g), g) else if x = 1 then (0, nI (ra_n g), g) else if x = 2 then (0, nI (ra_B g), g) else if x = 3 then (0, nI (ra_U g (ra_B g)).length, g) else if x = 4 then (0, nI (ra_T g 0), g) else if x = 5 then (0, nI (ra_T g 1), g) else if x = 6 then (0, nI (ra_T g 2), g) else if x = 7 then (0, nI (ra_T g 3), g) else (1, 0, g)
def rg_vL (l : List Int32) (i : Int32) : Int32 × Int64 := if i = -1 then (0, (nI l.length).toInt64) else if i < 0 ∨ nI l.length ≤ i then (2, 0) else (0, (l.getD i.toNatClampNeg 0).toInt64)
def rg_val (X : rg_R) (f i : Int32) : Int32 × Int64 :=
  if f = 0 then (0, (X.1 0).toInt64) else if f = 1 then (0, (X.1 1).toInt64) else if f = 2 then (0, X.2.1 0) else if f = 3 then (0, X.2.1 1) else if f = 4 then (0, (X.2.2.1 0).toInt64 &&& 4294967295) else if f = 5 then (0, (X.2.2.1 1).toInt64 &&& 4294967295) else if f = 6 then rg_vL (X.2.2.2 0) i else if f = 7 then rg_vL (X.2.2.2 1) i else (1, 0)
def rg_oVal (g : rg_A) (x f i : Int32) : Int32 × Int64 := bif rg_isR (ra_n g) x then rg_val (ra_R g x.toNatClampNeg) f i else (1, 0)
def rm_Pl (o : Int32 × Int64) (g : rg_A) (z : Int64) (u : rm_S) : Prop := rm_Ru u g ∧ u.1 = o.1 ∧ z = o.2
theorem rg_m1_lt {k : Nat} (h : k < 2 ^ 31) : (-1 : Int32) < nI k := by
  rw [Int32.lt_iff_toInt_lt, nI_toInt h]
  show (-1 : Int) < _
  omega
theorem rg_nlt_m1 {k : Nat} (h : k < 2 ^ 31) : ¬ nI k < (-1 : Int32) := by
  rw [Int32.lt_iff_toInt_lt, nI_toInt h]
  show ¬ _ < (-1 : Int)
  omega
theorem rg_lt0 {x : Int32} (h : x < 0) (h2 : ¬ x = -1) : x < -1 := by
  rw [Int32.lt_iff_toInt_lt] at h ⊢
  have h3 : x.toInt ≠ -1 := fun q => h2 (Int32.toInt_inj.mp q)
  have h : x.toInt < 0 := h
  show x.toInt < -1
  omega
theorem rg_fig_out {x : Int32} (h : x < 0 ∨ 7 < x) : x.toInt < 0 ∨ 7 < x.toInt := by
  rcases h with h | h
  · left; rw [Int32.lt_iff_toInt_lt] at h; exact h
  · right; rw [Int32.lt_iff_toInt_lt] at h; exact h
