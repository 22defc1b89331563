/-! Value: the cells as the document's numbers. -/
theorem rg_78 {x : Int32} (h : 7 < x) (h2 : x < nI 8) : False := by
  rw [Int32.lt_iff_toInt_lt] at h h2
  have a : (7 : Int32).toInt = 7 := by decide
  have b : (nI 8).toInt = 8 := by decide
  rw [a] at h
  rw [b] at h2
  omega
