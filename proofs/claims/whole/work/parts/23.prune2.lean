/-! Steps of prune's loops. -/
theorem rg_k1 {o : Int64} {t : Nat} {l : List Nat} {S : Nat → Prop} (ht : t < 64) (h : ∀ j, rg_has o j = true ↔ S j) : ∀ j, rg_has (o ||| ((1 : Int64) <<< ((nI t).toInt64 &&& 63))) j = true ↔ S j ∨ j = t ∨ j ∈ l.take 0 := by
  intro j
  rw [rg_has_or, Bool.or_eq_true, h, rg_has_1 ht, decide_eq_true_iff]
  simp
theorem rg_k2 {o : Int64} {t k : Nat} {l : List Nat} {S : Nat → Prop} (hk : k < l.length) (ht : l.getD k 0 < 64) (h : ∀ j, rg_has o j = true ↔ S j ∨ j = t ∨ j ∈ l.take k) : ∀ j, rg_has (o ||| ((1 : Int64) <<< ((nI (l.getD k 0)).toInt64 &&& 63))) j = true ↔ S j ∨ j = t ∨ j ∈ l.take (k + 1) := by
  intro j
  rw [rg_has_or, Bool.or_eq_true, h, rg_has_1 ht, decide_eq_true_iff]
  have e : l.take (k + 1) = l.take k ++ [l.getD k 0] := by
    rw [List.take_succ, List.getD_eq_getElem?_getD, List.getElem?_eq_getElem hk]
    rfl
  rw [e, List.mem_append, List.mem_singleton]
  constructor
  · rintro ((h | h | h) | h)
    · exact Or.inl h
    · exact Or.inr (Or.inl h)
    · exact Or.inr (Or.inr (Or.inl h))
    · exact Or.inr (Or.inr (Or.inr h))
  · rintro (h | h | h | h)
    · exact Or.inl (Or.inl h)
    · exact Or.inl (Or.inr (Or.inl h))
    · exact Or.inl (Or.inr (Or.inr h))
    · exact Or.inr h
theorem rg_k3 {o : Int64} {T : Nat → Nat} {U : Nat → List Nat} {b k : Nat} (hk : (U b).length ≤ k) (h : ∀ j, rg_has o j = true ↔ (∃ c, c < b ∧ (j = T c ∨ j ∈ U c)) ∨ j = T b ∨ j ∈ (U b).take k) : ∀ j, rg_has o j = true ↔ ∃ c, c < b + 1 ∧ (j = T c ∨ j ∈ U c) := by
  intro j
  rw [h, List.take_of_length_le hk]
  constructor
  · rintro (⟨c, h1, h2⟩ | h)
    · exact ⟨c, by omega, h2⟩
    · exact ⟨b, by omega, h⟩
  · rintro ⟨c, h1, h2⟩
    by_cases e : c = b
    · subst e; exact Or.inr h2
    · exact Or.inl ⟨c, by omega, h2⟩
theorem rm_kp {cnt bra cof : Int32} {nu : Nat → Int32} {co : Nat → Int64} {se li le fi sc ti un ma : Nat → Int32} {g : rg_A} {o z : Int64} (h : rm_Rep cnt bra cof nu co se li le fi sc ti un ma g) (ho : ∀ j, rg_has o j = true ↔ ∃ c, c < 4 ∧ (j = ra_T g c ∨ j ∈ ra_U g c)) (hz : ∀ j, rg_has z j = true ↔ ∃ i, rg_has o i = true ∧ rg_An fi sc i j) : rg_has z = rg_kp g := by
  funext j
  rw [Bool.eq_iff_iff, hz, rg_kp_iff]
  have lt : ∀ i, rg_nd g i → i < ra_n g := by
    rintro i ⟨b, hb, e | e⟩
    · rw [e]; exact (h.1.2.2.2.2.2.2.1 b hb).1
    · exact (h.1.2.2.2.2.2.2.1 b hb).2.1 i e
  constructor
  · rintro ⟨i, h1, h2⟩
    have h1 : rg_nd g i := (ho i).mp h1
    exact ⟨i, h1, rg_An_same (fun q hq => h.2.2.2.2.2.1 q (Nat.lt_of_le_of_lt hq (lt i h1))) h2⟩
  · rintro ⟨i, h1, h2⟩
    refine ⟨i, (ho i).mpr h1, rg_An_same (fun q hq => ?_) h2⟩
    obtain ⟨a1, a2⟩ := h.2.2.2.2.2.1 q (Nat.lt_of_le_of_lt hq (lt i h1))
    exact ⟨a1.symm, a2.symm⟩
theorem rm_PI_0 {cnt bra cof : Int32} {nu : Nat → Int32} {co : Nat → Int64} {se li le fi sc ti un ma : Nat → Int32} {g : rg_A} {K : Nat → Bool} (h : rm_Rep cnt bra cof nu co se li le fi sc ti un ma g) : rm_PI g K 0 nu co se li le fi sc :=
  ⟨fun q hq => absurd hq (Nat.not_lt_zero q), fun q _ hq => ⟨h.2.2.2.2.1 q hq, h.2.2.2.2.2.1 q hq⟩⟩
def rm_RT (T : Nat → Nat) (K : Nat → Bool) (b : Nat) (ti : Nat → Int32) : Prop := ∀ c, c < 4 → ti c = nI (if c < b then rg_rk K (T c) else T c)
def rm_RU (U : Nat → List Nat) (K : Nat → Bool) (b k : Nat) (un : Nat → Int32) : Prop := ∀ c i, c < 4 → i < (U c).length → un (60 * c + i) = nI (if c < b ∨ (c = b ∧ i < k) then rg_rk K ((U c).getD i 0) else (U c).getD i 0)
theorem rm_RT_s {T : Nat → Nat} {K : Nat → Bool} {b : Nat} {ti : Nat → Int32} (h : rm_RT T K b ti) : rm_RT T K (b + 1) (upd ti b (nI (rg_rk K (T b)))) := by
  intro c hc
  by_cases e : c = b
  · subst e; rw [pk_us, if_pos (by omega)]
  · rw [pk_un e, h c hc]
    by_cases h2 : c < b
    · rw [if_pos h2, if_pos (by omega)]
    · rw [if_neg h2, if_neg (by omega)]
theorem rm_RU_s {U : Nat → List Nat} {K : Nat → Bool} {b k : Nat} {un : Nat → Int32} (h : rm_RU U K b k un) (hb : b < 4) (hk : k < (U b).length) (hl : ∀ c, c < 4 → (U c).length < 60) : rm_RU U K b (k + 1) (upd un (60 * b + k) (nI (rg_rk K ((U b).getD k 0)))) := by
  intro c i hc hi
  have l1 := hl c hc
  have l2 := hl b hb
  by_cases e : c = b ∧ i = k
  · obtain ⟨rfl, rfl⟩ := e
    rw [pk_us, if_pos (by omega)]
  · rw [pk_un (by omega), h c i hc hi]
    by_cases h2 : c < b ∨ (c = b ∧ i < k)
    · rw [if_pos h2, if_pos (by omega)]
    · rw [if_neg h2, if_neg (by omega)]
theorem rm_RU_n {U : Nat → List Nat} {K : Nat → Bool} {b k : Nat} {un : Nat → Int32} (h : rm_RU U K b k un) (hk : (U b).length ≤ k) : rm_RU U K (b + 1) 0 un := by
  intro c i hc hi
  rw [h c i hc hi]
  by_cases h2 : c < b ∨ (c = b ∧ i < k)
  · rw [if_pos h2, if_pos (by omega)]
  · have : c ≠ b := fun e => by subst e; omega
    rw [if_neg h2, if_neg (by omega)]
theorem rm_Rep_pruneK {bra cof : Int32} {nu nu' : Nat → Int32} {co co' : Nat → Int64} {se li le fi sc ti un ma se' li' le' fi' sc' ti' un' : Nat → Int32} {cnt : Int32} {g : rg_A} {K : Nat → Bool} (hK : K = rg_kp g) (h : rm_Rep cnt bra cof nu co se li le fi sc ti un ma g) (hp : rm_PI g K (ra_n g) nu' co' se' li' le' fi' sc')
    (ht : rm_RT (ra_T g) K 4 ti') (hu : rm_RU (ra_U g) K 4 0 un') : rm_Rep (nI (rg_rk K (ra_n g))) bra cof nu' co' se' li' le' fi' sc' ti' un' ma (rg_prune g) := by
  subst hK
  refine rm_Rep_prune h hp (fun b hb => ⟨?_, fun k hk => ?_⟩)
  · rw [ht b hb, if_pos hb]
  · rw [hu b k hb hk, if_pos (Or.inl hb)]
theorem rm_ulen {cnt bra cof : Int32} {nu : Nat → Int32} {co : Nat → Int64} {se li le fi sc ti un ma : Nat → Int32} {g : rg_A} (h : rm_Rep cnt bra cof nu co se li le fi sc ti un ma g) : ∀ c, c < 4 → (ra_U g c).length < 60 := by
  intro c hc
  have h1 := rg_fall_lt (h.1.2.2.2.2.2.2.1 c hc).2.2 (h.1.2.2.2.2.2.2.1 c hc).2.1 (h.1.2.2.2.2.2.2.1 c hc).1
  have h2 := h.1.2.1
  omega
theorem rg_getD_mem {l : List Nat} {k : Nat} (h : k < l.length) : l.getD k 0 ∈ l := by
  rw [List.getD_eq_getElem?_getD, List.getElem?_eq_getElem h]
  exact List.getElem_mem h
theorem rg_rk_yes {K : Nat → Bool} {r : Nat} (h : K r = true) : rg_rk K r + 1 = rg_rk K (r + 1) := by show _ = rg_rk K r + (bif K r then 1 else 0); rw [h]; rfl
theorem rg_rk_no {K : Nat → Bool} {r : Nat} (h : K r = false) : rg_rk K r = rg_rk K (r + 1) := by show _ = rg_rk K r + (bif K r then 1 else 0); rw [h]; rfl
