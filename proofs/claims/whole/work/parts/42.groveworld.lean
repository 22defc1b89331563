/-! The class's world: the grove, its revisions and branches, sixty records and the draft (number 60). -/
def gw_fix (ad fo ur : Nat → Nat) (cI cL cF cA : ClassId) (fp sp : Nat → Int32) (an : Nat → Int64) (nn : Nat → Int32) (cnt : Int32) (pt uc : Nat → Int32) (pr lc : Int32) : va_W :=
  [(ad 0, .inr (1, [.ref (ad 1), .ref (ad 2), .ref (fo 60), .int lc])), (ad 1, .inr (2, [.ref (ad 3), .ref (ad 4), .ref (ad 5), .ref (ad 6), .ref (ad 7), .int cnt])), (ad 2, .inr (3, [.ref (ad 8), .ref (ad 9), .ref (ad 10), .int pr])),
   (ad 3, .inl (cF, 60, .inr (.inr (.inr (.inr (fun i => some (fo i))))))), (ad 4, .inl (cI, 60, .inl fp)), (ad 5, .inl (cI, 60, .inl sp)), (ad 6, .inl (cL, 60, .inr (.inl an))), (ad 7, .inl (cI, 60, .inl nn)), (ad 8, .inl (cI, 4, .inl pt)), (ad 9, .inl (cA, 4, .inr (.inr (.inr (.inr (fun b => some (ur b))))))), (ad 10, .inl (cI, 4, .inl uc))]
def gw_rows (ur : Nat → Nat) (cI : ClassId) (un : Nat → Nat → Int32) : va_W := (List.range 4).map (fun b => (ur b, .inl (cI, 60, .inl (un b))))
def gw_objs (fo fa : Nat → Nat) : va_W := (List.range 61).map (fun i => (fo i, .inr (4, [.ref (fa i)])))
def gw_arrs (fa : Nat → Nat) (cL : ClassId) (rec : Nat → Nat → Int64) : va_W := (List.range 61).map (fun i => (fa i, .inl (cL, 24, .inr (.inl (rec i)))))
def gw_W (ad fo fa ur : Nat → Nat) (cI cL cF cA : ClassId) (rec : Nat → Nat → Int64) (fp sp : Nat → Int32) (an : Nat → Int64) (nn : Nat → Int32) (cnt : Int32) (pt : Nat → Int32) (un : Nat → Nat → Int32) (uc : Nat → Int32) (pr lc : Int32) : va_W :=
  gw_fix ad fo ur cI cL cF cA fp sp an nn cnt pt uc pr lc ++ (gw_rows ur cI un ++ (gw_objs fo fa ++ gw_arrs fa cL rec))
abbrev gw_tys (cI cL cF cA : ClassId) : List (ClassId × FieldType) := [(cI, .int), (cL, .long), (cF, .object "RevisionGrove$Fields"), (cA, .array .int)]
theorem gw_app {A B : va_W} {n k : Nat} (h : A.length = n) : (A ++ B)[n + k]? = B[k]? := by
  subst h
  rw [List.getElem?_append_right (Nat.le_add_right _ _), Nat.add_sub_cancel_left]
theorem gw_appl {A B : va_W} {k : Nat} {q : Nat × va_E} (h : A[k]? = some q) : (A ++ B)[k]? = some q := by
  rw [List.getElem?_append_left (List.getElem?_eq_some_iff.mp h).1]
  exact h
theorem gw_map {α : Type} (f : Nat → α) {n i : Nat} (h : i < n) : ((List.range n).map f)[i]? = some (f i) := by
  rw [List.getElem?_map, List.getElem?_range h]
  rfl
theorem gw_sapp {A B : va_W} {n k : Nat} {x : Nat × va_E} (h : A.length = n) : (A ++ B).set (n + k) x = A ++ B.set k x := by
  subst h
  rw [List.set_append_right _ _ (Nat.le_add_right _ _), Nat.add_sub_cancel_left]
theorem gw_sappl {A B : va_W} {k : Nat} {x : Nat × va_E} (h : k < A.length) : (A ++ B).set k x = A.set k x ++ B := List.set_append_left _ _ h
theorem gw_smap {α : Type} (f : Nat → α) (n i : Nat) (x : α) : ((List.range n).map f).set i x = (List.range n).map (va_up f i x) := by
  apply List.ext_getElem?
  intro j
  rw [List.getElem?_set, List.getElem?_map, List.getElem?_map]
  simp only [List.length_map, List.length_range]
  by_cases hj : j < n
  · rw [List.getElem?_range hj]
    by_cases e : i = j
    · subst e
      simp [va_up, hj]
    · have e2 : ¬ j = i := fun q => e q.symm
      simp [va_up, e, e2]
  · have hn : (List.range n)[j]? = none := List.getElem?_eq_none (by simpa using hj)
    rw [hn]
    by_cases e : i = j
    · subst e; simp [hj]
    · simp [e]
section GW
variable {ad fo fa ur : Nat → Nat} {cI cL cF cA : ClassId} {rec : Nat → Nat → Int64} {fp sp : Nat → Int32} {an : Nat → Int64} {nn : Nat → Int32} {cnt : Int32} {pt : Nat → Int32} {un : Nat → Nat → Int32} {uc : Nat → Int32} {pr lc : Int32}
theorem gw_row {b : Nat} (h : b < 4) : (gw_W ad fo fa ur cI cL cF cA rec fp sp an nn cnt pt un uc pr lc)[11 + b]? = some (ur b, .inl (cI, 60, .inl (un b))) := by
  unfold gw_W
  rw [gw_app (n := 11) rfl]
  exact gw_appl (gw_map _ h)
theorem gw_obj {i : Nat} (h : i < 61) : (gw_W ad fo fa ur cI cL cF cA rec fp sp an nn cnt pt un uc pr lc)[11 + (4 + i)]? = some (fo i, .inr (4, [.ref (fa i)])) := by
  unfold gw_W
  rw [gw_app (n := 11) rfl, gw_app (n := 4) (by simp [gw_rows])]
  exact gw_appl (gw_map _ h)
theorem gw_arr {i : Nat} (h : i < 61) : (gw_W ad fo fa ur cI cL cF cA rec fp sp an nn cnt pt un uc pr lc)[11 + (4 + (61 + i))]? = some (fa i, .inl (cL, 24, .inr (.inl (rec i)))) := by
  unfold gw_W
  rw [gw_app (n := 11) rfl, gw_app (n := 4) (by simp [gw_rows]), gw_app (n := 61) (by simp [gw_objs])]
  exact gw_map _ h
theorem gw_arr_set {i : Nat} {r : Nat → Int64} : (gw_W ad fo fa ur cI cL cF cA rec fp sp an nn cnt pt un uc pr lc).set (11 + (4 + (61 + i))) (fa i, .inl (cL, 24, .inr (.inl r))) = gw_W ad fo fa ur cI cL cF cA (va_up rec i r) fp sp an nn cnt pt un uc pr lc := by
  unfold gw_W
  rw [gw_sapp (n := 11) rfl, gw_sapp (n := 4) (by simp [gw_rows]), gw_sapp (n := 61) (by simp [gw_objs])]
  have e : (gw_arrs fa cL rec).set i (fa i, .inl (cL, 24, .inr (.inl r))) = gw_arrs fa cL (va_up rec i r) := by
    unfold gw_arrs
    rw [gw_smap]
    congr 1
    funext k
    by_cases e : k = i
    · subst e; simp [va_up]
    · simp [va_up, e]
  rw [e]
theorem gw_row_set {b : Nat} {r : Nat → Int32} : b < 4 → (gw_W ad fo fa ur cI cL cF cA rec fp sp an nn cnt pt un uc pr lc).set (11 + b) (ur b, .inl (cI, 60, .inl r)) = gw_W ad fo fa ur cI cL cF cA rec fp sp an nn cnt pt (va_up un b r) uc pr lc := by
  intro hb
  unfold gw_W
  rw [gw_sapp (n := 11) rfl, gw_sappl (by simp [gw_rows]; exact hb)]
  have e : (gw_rows ur cI un).set b (ur b, .inl (cI, 60, .inl r)) = gw_rows ur cI (va_up un b r) := by
    unfold gw_rows
    rw [gw_smap]
    congr 1
    funext k
    by_cases e : k = b
    · subst e; simp [va_up]
    · simp [va_up, e]
  rw [e]
end GW
section GWR
variable {p : Program} {l : Launch} {e : Env} {R : Room} {s : State} {m : MethodId} {args : Array Value} {below : List Frame} {meth : Method} {c : Code} {H : Heap} {locs : List Loc} {cells slots : Nat} {Q : State → Prop}
variable {cc : ByteArray} {pc : Nat} {ls : Array Slot} {rest st0 : List Value} {D : va_G} {A : Nat → Prop} {H0 : Heap} {aa : Array Value} {mc ms : Nat} {wr : va_W}
variable {ad fo fa ur : Nat → Nat} {cI cL cF cA : ClassId} {rec : Nat → Nat → Int64} {fp sp : Nat → Int32} {an : Nat → Int64} {nn : Nat → Int32} {cnt : Int32} {pt : Nat → Int32} {un : Nat → Nat → Int32} {uc : Nat → Int32} {pr lc : Int32}
theorem gw_lald (hx : p.tables.exec = Jvm.exec) (hb : c.code = cc) (hK : va_K D rg_cl (gw_tys cI cL cF cA) s) (hP : va_P D rg_cl (gw_W ad fo fa ur cI cL cF cA rec fp sp an nn cnt pt un uc pr lc) H) {i k : Nat} (hi : i < 61) (hk : k < 24) (hdg : decode cc pc = .ok (.laload, 1))
    (kk : W p l e R s m args below meth c H locs cells slots Q (F0 m (pc + 1) ls (.long (rec i k) :: rest))) : W p l e R s m args below meth c H locs cells slots Q (F0 m pc ls (.int (nI k) :: .ref (fa i) :: rest)) :=
  rg_lald hx hb hK hP (11 + (4 + (61 + i))) 1 (gw_arr hi) rfl (by decide) hk hdg kk
theorem gw_last (hx : p.tables.exec = Jvm.exec) (hb : c.code = cc) (hK : va_K D rg_cl (gw_tys cI cL cF cA) s) (hP : va_P D rg_cl (gw_W ad fo fa ur cI cL cF cA rec fp sp an nn cnt pt un uc pr lc) H) (hD : va_D A (gw_W ad fo fa ur cI cL cF cA rec fp sp an nn cnt pt un uc pr lc)) (hS : va_S A H0 H locs) {i k : Nat} (hi : i < 61) (hk : k < 24) {v : Int64} (hdg : decode cc pc = .ok (.lastore, 1))
    (kk : ∀ (H1 : Heap) (locs1 : List Loc), va_P D rg_cl (gw_W ad fo fa ur cI cL cF cA (va_up rec i (vp_updL (rec i) k v)) fp sp an nn cnt pt un uc pr lc) H1 → va_D A (gw_W ad fo fa ur cI cL cF cA (va_up rec i (vp_updL (rec i) k v)) fp sp an nn cnt pt un uc pr lc) → va_S A H0 H1 locs1 → W p l e R s m args below meth c H1 locs1 cells slots Q (F0 m (pc + 1) ls rest)) : W p l e R s m args below meth c H locs cells slots Q (F0 m pc ls (.long v :: .int (nI k) :: .ref (fa i) :: rest)) := by
  refine rg_last hx hb hK hP hD hS (11 + (4 + (61 + i))) 1 (gw_arr hi) rfl (by decide) hk hdg (fun H1 locs1 hP1 hD1 hS1 => ?_)
  rw [gw_arr_set] at hP1 hD1
  exact kk H1 locs1 hP1 hD1 hS1
theorem gw_rald (hx : p.tables.exec = Jvm.exec) (hb : c.code = cc) (hK : va_K D rg_cl (gw_tys cI cL cF cA) s) (hP : va_P D rg_cl (gw_W ad fo fa ur cI cL cF cA rec fp sp an nn cnt pt un uc pr lc) H) {b k : Nat} (hi : b < 4) (hk : k < 60) (hdg : decode cc pc = .ok (.iaload, 1))
    (kk : W p l e R s m args below meth c H locs cells slots Q (F0 m (pc + 1) ls (.int (un b k) :: rest))) : W p l e R s m args below meth c H locs cells slots Q (F0 m pc ls (.int (nI k) :: .ref (ur b) :: rest)) :=
  rg_iald hx hb hK hP (11 + b) 0 (gw_row hi) rfl (by decide) hk hdg kk
theorem gw_rast (hx : p.tables.exec = Jvm.exec) (hb : c.code = cc) (hK : va_K D rg_cl (gw_tys cI cL cF cA) s) (hP : va_P D rg_cl (gw_W ad fo fa ur cI cL cF cA rec fp sp an nn cnt pt un uc pr lc) H) (hD : va_D A (gw_W ad fo fa ur cI cL cF cA rec fp sp an nn cnt pt un uc pr lc)) (hS : va_S A H0 H locs) {b k : Nat} (hi : b < 4) (hk : k < 60) {v : Int32} (hdg : decode cc pc = .ok (.iastore, 1))
    (kk : ∀ (H1 : Heap) (locs1 : List Loc), va_P D rg_cl (gw_W ad fo fa ur cI cL cF cA rec fp sp an nn cnt pt (va_up un b (upd (un b) k v)) uc pr lc) H1 → va_D A (gw_W ad fo fa ur cI cL cF cA rec fp sp an nn cnt pt (va_up un b (upd (un b) k v)) uc pr lc) → va_S A H0 H1 locs1 → W p l e R s m args below meth c H1 locs1 cells slots Q (F0 m (pc + 1) ls rest)) : W p l e R s m args below meth c H locs cells slots Q (F0 m pc ls (.int v :: .int (nI k) :: .ref (ur b) :: rest)) := by
  refine rg_iast hx hb hK hP hD hS (11 + b) 0 (gw_row hi) rfl (by decide) hk hdg (fun H1 locs1 hP1 hD1 hS1 => ?_)
  rw [gw_row_set hi] at hP1 hD1
  exact kk H1 locs1 hP1 hD1 hS1
theorem gw_recs (hx : p.tables.exec = Jvm.exec) (hb : c.code = cc) (hK : va_K D rg_cl (gw_tys cI cL cF cA) s) (hP : va_P D rg_cl (gw_W ad fo fa ur cI cL cF cA rec fp sp an nn cnt pt un uc pr lc) H) {k : Nat} (hk : k < 60) (hdg : decode cc pc = .ok (.aaload, 1))
    (kk : W p l e R s m args below meth c H locs cells slots Q (F0 m (pc + 1) ls (.ref (fo k) :: rest))) : W p l e R s m args below meth c H locs cells slots Q (F0 m pc ls (.int (nI k) :: .ref (ad 3) :: rest)) :=
  rg_aldq (C := "RevisionGrove$Fields") hx hb hK hP 3 2 rfl rfl (by decide) hk hdg kk
theorem gw_undo (hx : p.tables.exec = Jvm.exec) (hb : c.code = cc) (hK : va_K D rg_cl (gw_tys cI cL cF cA) s) (hP : va_P D rg_cl (gw_W ad fo fa ur cI cL cF cA rec fp sp an nn cnt pt un uc pr lc) H) {k : Nat} (hk : k < 4) (hdg : decode cc pc = .ok (.aaload, 1))
    (kk : W p l e R s m args below meth c H locs cells slots Q (F0 m (pc + 1) ls (.ref (ur k) :: rest))) : W p l e R s m args below meth c H locs cells slots Q (F0 m pc ls (.int (nI k) :: .ref (ad 9) :: rest)) := by
  have hlt : (nI k).toNatClampNeg < 4 := by rw [nI_clamp (by omega)]; exact hk
  refine W.aald (v := va_rf (some (ur (nI k).toNatClampNeg))) (ty := .array .int) hx hb (hP 9 _ rfl) ((hK.2 3 _ rfl).1 4 (fun j => va_rf (some (ur j)))) rfl (fun q => by cases q) (by show ¬ (nI k < 0 ∨ (arrV _ _ _).slots.size ≤ _); rw [arrV_size]; exact (vp_in_nI hk (by decide) : vp_in (nI k) 4)) (by show (arrV _ _ _).slots[_]? = _; rw [arrV_read _ _ hlt]) rfl rfl hdg ?_
  rw [nI_clamp (by omega)]
  exact kk
end GWR

