theorem rg_nIsum {a b c d e m : Nat} (h : m + c + e = a + b + d) : nI a + (nI b - nI c) + (nI d - nI e) = nI m := by
  have h1 : nI a + nI b + nI d = nI m + nI c + nI e := by rw [nI_add, nI_add, nI_add, nI_add, h]
  have h2 : nI a + (nI b - nI c) + (nI d - nI e) = (nI a + nI b + nI d) - nI c - nI e := by
    simp only [Int32.sub_eq_add_neg]
    ac_rfl
  rw [h2, h1]
  simp only [Int32.sub_eq_add_neg]
  have e1 : nI m + nI c + nI e + -nI c + -nI e = nI m + (nI c + -nI c) + (nI e + -nI e) := by ac_rfl
  rw [e1, Int32.add_right_neg, Int32.add_right_neg, Int32.add_zero, Int32.add_zero]
