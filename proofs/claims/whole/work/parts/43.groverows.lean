/-! Rows of the class's walks: copies, min, a reference as an answer, calls with cells kept aside. -/
theorem rg_gSx {own : String} {idx maxL : Nat} {y : MethodName} {c : ByteArray} {ret : Option FieldType} (h1 : Cond.methodLink own idx y ∈ rg_tbl) (h2 : Cond.static y ∈ rg_tbl) (h4 : Cond.initialized y.cls ∈ rg_tbl) (h5 : Cond.code y c maxL ret ∈ rg_tbl) : GoodIn rg_tbl (va_wsS own idx y (Cond.code y c maxL ret :: rg_tbl)) := by
  intro w hw
  unfold va_wsS at hw
  have h9 : w ∈ rg_tbl := by
    rcases List.mem_append.mp hw with h | h
    · simp only [List.mem_cons, List.not_mem_nil, or_false] at h
      rcases h with rfl | rfl | rfl <;> assumption
    · rcases List.mem_cons.mp h with rfl | h
      · exact h5
      · exact h
  exact ⟨h9, rg_good h9⟩
def rg_QA (D : va_G) (cl : List vw_C) (tys : List (ClassId × FieldType)) (a0 : Nat) (w1 : Unit → va_W) (A : Nat → Prop) : Array Value → State → Outcome → State → Prop :=
  va_Qr (fun _ : Unit => True) (fun u a t => a = a0 ∧ rg_B D cl tys A w1 u t) A
section GRR
variable {p : Program} {l : Launch} {e : Env} {R : Room} {s : State} {m : MethodId} {args : Array Value} {below : List Frame} {meth : Method} {c : Code} {H : Heap} {locs : List Loc} {cells slots : Nat} {Q : State → Prop}
variable {cc : ByteArray} {pc : Nat} {ls : Array Slot} {rest st0 : List Value} {D : va_G} {cl : List vw_C} {tys : List (ClassId × FieldType)} {A : Nat → Prop} {H0 : Heap} {aa : Array Value} {mc ms : Nat} {ws wr : va_W}
variable {ad fo fa ur : Nat → Nat} {cI cL cF cA : ClassId} {rec : Nat → Nat → Int64} {fp sp : Nat → Int32} {an : Nat → Int64} {nn : Nat → Int32} {cnt : Int32} {pt : Nat → Int32} {un : Nat → Nat → Int32} {uc : Nat → Int32} {pr lc : Int32}
theorem rg_aret {a0 : Nat} {w1 : Unit → va_W} {C : String} (hx : p.tables.exec = Jvm.exec) (hb : c.code = cc) (hr : meth.sig.returnType = some (.object C)) (hlk : meth.locks = false) (hK : va_K D cl tys s) (hP : va_P D cl ws H) (hD : va_D A ws) (hS : va_S A s.heap H locs)
    (hdg : decode cc pc = .ok (.areturn, 1)) (hw : w1 () = ws) : W p l e R s m args below meth c H locs cells slots (MQ below (rg_QA D cl tys a0 w1 A) args s cells slots A) (F0 m pc ls [.ref a0]) := by
  subst hw
  exact W.aret hx hb hr (Or.inl ⟨_, rfl⟩) (Or.inr ⟨_, rfl⟩) (fun t ht hW => ⟨⟨(), a0, rfl, trivial, rfl, by rw [ht]; exact hP, va_K.moved hW.alike hK, hD⟩, hS.F ht⟩) hS.2.2 hdg hlk
theorem rg_calla {a0 : Nat} {w1 : Unit → va_W} (hD : va_D A ws) (hS : va_S A H0 H locs) (hA : ∀ q : Nat, H0.size ≤ q → A q)
    (hr : va_Run p l e R s m args below meth c H locs cells slots mc ms (F0 m pc ls st0) rest (rg_QA D cl tys a0 w1 (va_A ws H.size) aa) (va_A ws H.size))
    (kk : ∀ (H1 : Heap) (locs1 : List Loc), va_P D cl (w1 ()) H1 → va_D A (w1 ()) → va_S A H0 H1 locs1 → W p l e R s m args below meth c H1 locs1 (cells + mc) (slots + ms) Q (F0 m (pc + 3) ls (.ref a0 :: rest))) : W p l e R s m args below meth c H locs cells slots Q (F0 m pc ls st0) := by
  have hF := rg_free hD hS hA
  refine va_callr hr hS (fun q _ h => hF q h) hF (fun u ra t H1 locs1 ht _ _ hB _ _ hS1 => ?_)
  obtain ⟨rfl, hP1, -, hD1⟩ := hB
  rw [ht] at hP1
  exact kk H1 locs1 hP1 (hD1.weaken (fun _ q _ h => hF q.1 h)) hS1
theorem gw_copy (hx : p.tables.exec = Jvm.exec) (hb : c.code = cc) (hml : c.maxLocals = ls.size) {own : String} {index : Nat} (hown : s.vm.findClass own = some m.cls) (hlink : (Cond.methodLink own index arraycopyName).before args s = true) (hnat : (Cond.native arraycopyName).before args s = true) (hstat : (Cond.static arraycopyName).before args s = true) (hini : (Cond.initialized "java/lang/System").before args s = true)
    (hK : va_K D rg_cl (gw_tys cI cL cF cA) s) (hP : va_P D rg_cl (gw_W ad fo fa ur cI cL cF cA rec fp sp an nn cnt pt un uc pr lc) H) (hD : va_D A (gw_W ad fo fa ur cI cL cF cA rec fp sp an nn cnt pt un uc pr lc)) (hS : va_S A H0 H locs) {i j x y n : Nat} (hi : i < 61) (hj : j < 61) (h4 : x + n ≤ 24) (h5 : y + n ≤ 24)
    (hframes : 1 ≤ R.frames) (hlocals : (rest.map fun v => v.category).sum + 18 ≤ R.locals) (hdg : decode cc pc = .ok (.invokestatic index, 3))
    (kk : ∀ (H1 : Heap) (locs1 : List Loc), va_P D rg_cl (gw_W ad fo fa ur cI cL cF cA (va_up rec j (va_cpy (rec i) (rec j) x y n)) fp sp an nn cnt pt un uc pr lc) H1 → va_D A (gw_W ad fo fa ur cI cL cF cA (va_up rec j (va_cpy (rec i) (rec j) x y n)) fp sp an nn cnt pt un uc pr lc) → va_S A H0 H1 locs1 → W p l e R s m args below meth c H1 locs1 cells slots Q (F0 m (pc + 3) ls rest)) : W p l e R s m args below meth c H locs cells slots Q (F0 m pc ls (.int (nI n) :: .int (nI y) :: .ref (fa j) :: .int (nI x) :: .ref (fa i) :: rest)) := by
  have e1 : (nI x).toNatClampNeg = x := nI_clamp (by omega)
  have e2 : (nI y).toNatClampNeg = y := nI_clamp (by omega)
  have e3 : (nI n).toNatClampNeg = n := nI_clamp (by omega)
  refine va_copyl hx hb hml hown hlink hnat hstat hini hK hP hD hS (11 + (4 + (61 + i))) (11 + (4 + (61 + j))) 1 1 (gw_arr hi) (gw_arr hj) rfl rfl rfl (nI_pos (by omega)) (nI_pos (by omega)) (nI_pos (by omega)) (by rw [e1, e3]; exact h4) (by rw [e2, e3]; exact h5) (fun _ _ => rfl) hframes hlocals hdg (fun H1 locs1 hP1 hD1 hS1 => ?_)
  rw [e1, e2, e3, gw_arr_set] at hP1 hD1
  exact kk H1 locs1 hP1 hD1 hS1
theorem gw_mmin (hx : p.tables.exec = Jvm.exec) (hb : c.code = cc) (hml : c.maxLocals = ls.size) {own : String} {index : Nat} (hown : s.vm.findClass own = some m.cls) (hlink : (Cond.methodLink own index Lib.Math.min.name).before args s = true) (hstat : (Cond.static Lib.Math.min.name).before args s = true) (hini : (Cond.initialized "java/lang/Math").before args s = true) (hcode : (Cond.code Lib.Math.min.name Lib.Math.min.code 2 (some .int)).before args s = true)
    (hframes : 1 ≤ R.frames) (hlocals : (rest.map fun v => v.category).sum + 13 ≤ R.locals) (hc : cells ≤ R.cells) (hs : slots ≤ R.slots) {x y : Nat} (h1 : x < 2 ^ 31) (h2 : y < 2 ^ 31) (hdg : decode cc pc = .ok (.invokestatic index, 3))
    (kk : W p l e R s m args below meth c H locs cells slots Q (F0 m (pc + 3) ls (.int (nI (rg_min x y)) :: rest))) : W p l e R s m args below meth c H locs cells slots Q (F0 m pc ls (.int (nI y) :: .int (nI x) :: rest)) := by
  refine va_mmin hx hb hml hown hlink hstat hini hcode hframes hlocals hc hs hdg ?_
  have e1 : (if nI y < nI x then nI y else nI x) = nI (rg_min x y) := by
    unfold rg_min
    by_cases h : x ≤ y
    · rw [if_pos h, if_neg (nI_nlt h h2)]
    · rw [if_neg h, if_pos (nI_lt (Nat.lt_of_not_le h) h1)]
  rw [e1]
  exact kk
end GRR
