/-! Conflicts: the class gathers their bits field by field. -/
def gw_cf (X Y Z : rg_R) (f : Nat) : Bool := if f < 2 then decide (rg_wN X Y Z f = 3) else if f < 6 then false else decide (rg_wL X Y Z (f - 6) = 3) && !(rg_jn (rg_wL X Y Z (f - 6)) (X.2.2.2 (f - 6)) (Y.2.2.2 (f - 6)) (Z.2.2.2 (f - 6)))
def gw_jc (X Y Z : rg_R) : Nat → Int32
  | 0 => nI 0
  | f + 1 => bif gw_cf X Y Z f then gw_jc X Y Z f ||| (nI 1 <<< (nI f &&& 31)) else gw_jc X Y Z f
theorem gw_jc4 : ∀ a b c d : Bool, (let s1 := bif a then nI 0 ||| (nI 1 <<< (nI 0 &&& 31)) else nI 0; let s2 := bif b then s1 ||| (nI 1 <<< (nI 1 &&& 31)) else s1; let s7 := bif c then s2 ||| (nI 1 <<< (nI 6 &&& 31)) else s2; bif d then s7 ||| (nI 1 <<< (nI 7 &&& 31)) else s7) = ((((nI 0 ||| (bif a then nI 1 <<< (nI 0 &&& 31) else nI 0)) ||| (bif c then nI 64 <<< (nI 0 &&& 31) else nI 0)) ||| (bif b then nI 1 <<< (nI 1 &&& 31) else nI 0)) ||| (bif d then nI 64 <<< (nI 1 &&& 31) else nI 0)) := by decide +kernel
theorem gw_jc_eq (X Y Z : rg_R) : gw_jc X Y Z 8 = rg_mc X Y Z 2 :=
  gw_jc4 (decide (rg_wN X Y Z 0 = 3)) (decide (rg_wN X Y Z 1 = 3)) (decide (rg_wL X Y Z 0 = 3) && !(rg_jn (rg_wL X Y Z 0) (X.2.2.2 0) (Y.2.2.2 0) (Z.2.2.2 0))) (decide (rg_wL X Y Z 1 = 3) && !(rg_jn (rg_wL X Y Z 1) (X.2.2.2 1) (Y.2.2.2 1) (Z.2.2.2 1)))
