/-! Contracts framed: cells that a method does not know stay as they are. -/
theorem rg_mono {l : Launch} {y : MethodName} {wd : List Cond} {rm : Room} {P P' : Array Value → State → Prop} {Qc Qc' : Array Value → State → Outcome → State → Prop} {mc ms : Nat} {free free' : Addr → Prop} (h : Met l y wd rm P Qc mc ms free) (h1 : ∀ a s, P' a s → P a s) (h2 : ∀ a s o t, P' a s → Qc a s o t → Qc' a s o t) (h3 : ∀ q, free q → free' q) : Met l y wd rm P' Qc' mc ms free' := by
  intro p e ha hc hk s m args below hf hs hp hK
  obtain ⟨n, o, a1, a2, a3, a4, L, a5, a6⟩ := h p e ha hc hk s m args below hf hs (h1 _ _ hp) hK
  exact ⟨n, o, a1, a2, a3, h2 _ _ _ _ hp a4, L, a5, fun q hq => h3 _ (a6 q hq)⟩
theorem rg_apl {ws wr : va_W} {k : Nat} {q : Nat × va_E} (h : ws[k]? = some q) : (ws ++ wr)[k]? = some q := by
  rw [List.getElem?_append_left (List.getElem?_eq_some_iff.mp h).1]; exact h
theorem rg_apr {ws wr : va_W} {k : Nat} {q : Nat × va_E} (h : wr[k]? = some q) : (ws ++ wr)[ws.length + k]? = some q := by
  rw [List.getElem?_append_right (Nat.le_add_right _ _), Nat.add_sub_cancel_left]; exact h
theorem rg_apc {ws wr : va_W} {k : Nat} {q : Nat × va_E} (h : (ws ++ wr)[k]? = some q) : ws[k]? = some q ∨ ∃ j, k = ws.length + j ∧ wr[j]? = some q := by
  rcases Nat.lt_or_ge k ws.length with h1 | h1
  · left; rw [List.getElem?_append_left h1] at h; exact h
  · right; rw [List.getElem?_append_right h1] at h; exact ⟨k - ws.length, by omega, h⟩
theorem rg_P_l {D : va_G} {cl : List vw_C} {ws wr : va_W} {H : Heap} (h : va_P D cl (ws ++ wr) H) : va_P D cl ws H := fun k q hq => h k q (rg_apl hq)
theorem rg_P_r {D : va_G} {cl : List vw_C} {ws wr : va_W} {H : Heap} (h : va_P D cl (ws ++ wr) H) : va_P D cl wr H := fun _ q hq => h _ q (rg_apr hq)
theorem rg_P_app {D : va_G} {cl : List vw_C} {ws wr : va_W} {H : Heap} (h1 : va_P D cl ws H) (h2 : va_P D cl wr H) : va_P D cl (ws ++ wr) H := by
  intro k q hq
  rcases rg_apc hq with h | ⟨j, -, h⟩
  · exact h1 k q h
  · exact h2 j q h
theorem rg_D_l {A : Nat → Prop} {ws wr : va_W} (h : va_D A (ws ++ wr)) : va_D A ws := ⟨fun i j p q hp hq e => h.1 i j p q (rg_apl hp) (rg_apl hq) e, fun k q hq => h.2 k q (rg_apl hq)⟩
theorem rg_D_r {A : Nat → Prop} {ws wr : va_W} (h : va_D A (ws ++ wr)) : va_D A wr := ⟨fun i j p q hp hq e => Nat.add_left_cancel (h.1 _ _ p q (rg_apr hp) (rg_apr hq) e), fun _ q hq => h.2 _ q (rg_apr hq)⟩
theorem rg_D_x {A : Nat → Prop} {ws wr : va_W} (h : va_D A (ws ++ wr)) (i j : Nat) (p q : Nat × va_E) (hp : ws[i]? = some p) (hq : wr[j]? = some q) : p.1 ≠ q.1 := by
  intro e
  have h1 := h.1 _ _ p q (rg_apl hp) (rg_apr hq) e
  have h2 := (List.getElem?_eq_some_iff.mp hp).1
  omega
theorem rg_P_comm {D : va_G} {cl : List vw_C} {ws wr : va_W} {H : Heap} (h : va_P D cl (ws ++ wr) H) : va_P D cl (wr ++ ws) H := rg_P_app (rg_P_r h) (rg_P_l h)
theorem rg_D_comm {A : Nat → Prop} {ws wr : va_W} (h : va_D A (ws ++ wr)) : va_D A (wr ++ ws) := va_D.app (rg_D_r h) (rg_D_l h) (fun i j p q hp hq e => rg_D_x h j i q p hq hp e.symm)
theorem rg_A_l {ws wr : va_W} {sz q : Nat} (h : va_A ws sz q) : va_A (ws ++ wr) sz q := by
  rcases h with ⟨k, e, h⟩ | h
  · exact Or.inl ⟨k, e, rg_apl h⟩
  · exact Or.inr h
theorem rg_in_l {D : va_G} {cl : List vw_C} {tys : List (ClassId × FieldType)} {ws wr : va_W} {sz : Nat} {U : State} (h : rg_in D cl tys (ws ++ wr) sz U) : rg_in D cl tys ws sz U := ⟨h.1, rg_P_l h.2.1, h.2.2.1, rg_D_l h.2.2.2⟩
theorem rg_frc {D : va_G} {cl : List vw_C} {tys : List (ClassId × FieldType)} {ws wr w1 : va_W} {sz : Nat} {st t : State} (hin : rg_in D cl tys (ws ++ wr) sz st) (hP1 : va_P D cl w1 t.heap) (hD1 : va_D (va_A ws sz) w1) (hF : va_F (va_A ws sz) st t) : va_P D cl (w1 ++ wr) t.heap ∧ va_D (va_A (ws ++ wr) sz) (w1 ++ wr) ∧ va_F (va_A (ws ++ wr) sz) st t := by
  obtain ⟨hz, hP, -, hD⟩ := hin
  have out : ∀ (k : Nat) (q : Nat × va_E), wr[k]? = some q → q.1 < sz ∧ ¬ va_A ws sz q.1 := by
    intro k q hq
    have h1 : q.1 < sz := by rw [← hz]; exact (hP _ q (rg_apr hq)).lt
    refine ⟨h1, ?_⟩
    rintro (⟨j, e, h⟩ | h)
    · exact rg_D_x hD j k (q.1, e) q h hq rfl
    · omega
  refine ⟨rg_P_app hP1 (fun k q hq => ?_), va_D.app (hD1.weaken (fun _ _ _ h => rg_A_l h)) ?_ (fun i j p q hp hq e => ?_), hF.1, fun q h1 h2 => hF.2 q h1 (fun h => h2 (rg_A_l h))⟩
  · obtain ⟨h1, h2⟩ := out k q hq
    exact (hP _ q (rg_apr hq)).kept (hF.2 q.1 (by rw [hz]; exact h1) h2)
  · exact ⟨(rg_D_r hD).1, fun k q hq => Or.inl ⟨ws.length + k, q.2, rg_apr hq⟩⟩
  · have h9 := hD1.2 i p hp
    rw [e] at h9
    exact (out j q hq).2 h9
section RFR
variable {l : Launch} {y : MethodName} {wd : List Cond} {rm : Room} {D : va_G} {cl : List vw_C} {tys : List (ClassId × FieldType)} {ws : va_W} {av : List Value} {mc ms : Nat} {S : Type} {w1 : S → va_W}
theorem rg_fI {post : Int32 → S → Prop} (wr : va_W) (h : rg_M l y wd rm D cl tys ws av (rg_QI D cl tys post w1) mc ms) : rg_M l y wd rm D cl tys (ws ++ wr) av (rg_QI D cl tys post (fun u => w1 u ++ wr)) mc ms := by
  intro sz
  refine rg_mono (h sz) (fun a s hp => ⟨hp.1, rg_in_l hp.2⟩) ?_ (fun q h => rg_A_l h)
  rintro a s o t hp ⟨⟨r, u, e, hu, hP1, hK1, hD1⟩, hF⟩
  obtain ⟨b1, b2, b3⟩ := rg_frc hp.2 hP1 hD1 hF
  exact ⟨⟨r, u, e, hu, b1, hK1, b2⟩, b3⟩
theorem rg_fL {post : Int64 → S → Prop} (wr : va_W) (h : rg_M l y wd rm D cl tys ws av (rg_QL D cl tys post w1) mc ms) : rg_M l y wd rm D cl tys (ws ++ wr) av (rg_QL D cl tys post (fun u => w1 u ++ wr)) mc ms := by
  intro sz
  refine rg_mono (h sz) (fun a s hp => ⟨hp.1, rg_in_l hp.2⟩) ?_ (fun q h => rg_A_l h)
  rintro a s o t hp ⟨⟨r, u, e, hu, hP1, hK1, hD1⟩, hF⟩
  obtain ⟨b1, b2, b3⟩ := rg_frc hp.2 hP1 hD1 hF
  exact ⟨⟨r, u, e, hu, b1, hK1, b2⟩, b3⟩
theorem rg_fV {post : S → Prop} (wr : va_W) (h : rg_M l y wd rm D cl tys ws av (rg_QV D cl tys post w1) mc ms) : rg_M l y wd rm D cl tys (ws ++ wr) av (rg_QV D cl tys post (fun u => w1 u ++ wr)) mc ms := by
  intro sz
  refine rg_mono (h sz) (fun a s hp => ⟨hp.1, rg_in_l hp.2⟩) ?_ (fun q h => rg_A_l h)
  rintro a s o t hp ⟨⟨u, e, hu, hP1, hK1, hD1⟩, hF⟩
  obtain ⟨b1, b2, b3⟩ := rg_frc hp.2 hP1 hD1 hF
  exact ⟨⟨u, e, hu, b1, hK1, b2⟩, b3⟩
-- a method that returns or throws
theorem rx_mono {P P' : Array Value → State → Prop} {Qc Qc' : Array Value → State → Outcome → State → Prop} {XC XC' : String → State → State → Prop} {free free' : Addr → Prop} (h : vx_Met l y wd rm P Qc XC mc ms free) (h1 : ∀ a s, P' a s → P a s) (h2 : ∀ a s o t, P' a s → Qc a s o t → Qc' a s o t) (h4 : ∀ a s E t, P' a s → XC E s t → XC' E s t) (h3 : ∀ q, free q → free' q) : vx_Met l y wd rm P' Qc' XC' mc ms free' := by
  intro p e ha hc hk s m args below hf hs hp hK
  obtain ⟨n, o, a1, a2, a3, h9⟩ := h p e ha hc hk s m args below hf hs (h1 _ _ hp) hK
  refine ⟨n, o, a1, a2, a3, ?_⟩
  rcases h9 with ⟨a4, L, a5, a6⟩ | ⟨q, e1, E, ce, L, x1, x2, x3, x4, x5, x6, x7⟩
  · exact Or.inl ⟨h2 _ _ _ _ hp a4, L, a5, fun q hq => h3 _ (a6 q hq)⟩
  · exact Or.inr ⟨q, e1, E, ce, L, h4 _ _ _ _ hp x1, x2, x3, x4, x5, x6, fun z hz => h3 _ (x7 z hz)⟩
theorem rx_T.narrow {A B : Nat → Prop} {U : State} {H : Heap} (h : rx_T A U H) (hAB : ∀ q, B q → A q) : rx_T B U H := ⟨h.1.narrow hAB, h.2.1.narrow hAB, h.2.2.1, h.2.2.2⟩
variable {SX : Type} {pX : String → SX → Prop} {wX : SX → va_W}
theorem rx_fI {post : Int32 → S → Prop} (wr : va_W) (h : rx_M l y wd rm D cl tys ws av (rg_QI D cl tys post w1) (rx_X D cl tys pX wX) mc ms) : rx_M l y wd rm D cl tys (ws ++ wr) av (rg_QI D cl tys post (fun u => w1 u ++ wr)) (rx_X D cl tys pX (fun u => wX u ++ wr)) mc ms := by
  intro sz
  refine rx_mono (h sz) (fun a s hp => ⟨hp.1, rg_in_l hp.2.1, hp.2.2.narrow (fun q h => rg_A_l h)⟩) ?_ ?_ (fun q h => rg_A_l h)
  · rintro a s o t hp ⟨⟨r, u, e, hu, hP1, hK1, hD1⟩, hF⟩
    obtain ⟨b1, b2, b3⟩ := rg_frc hp.2.1 hP1 hD1 hF
    exact ⟨⟨r, u, e, hu, b1, hK1, b2⟩, b3⟩
  · rintro a s E t hp ⟨u, hu, ⟨hP1, hK1, hD1⟩, hF⟩
    obtain ⟨b1, b2, b3⟩ := rg_frc hp.2.1 hP1 hD1 hF
    exact ⟨u, hu, ⟨b1, hK1, b2⟩, b3⟩
theorem rx_fL {post : Int64 → S → Prop} (wr : va_W) (h : rx_M l y wd rm D cl tys ws av (rg_QL D cl tys post w1) (rx_X D cl tys pX wX) mc ms) : rx_M l y wd rm D cl tys (ws ++ wr) av (rg_QL D cl tys post (fun u => w1 u ++ wr)) (rx_X D cl tys pX (fun u => wX u ++ wr)) mc ms := by
  intro sz
  refine rx_mono (h sz) (fun a s hp => ⟨hp.1, rg_in_l hp.2.1, hp.2.2.narrow (fun q h => rg_A_l h)⟩) ?_ ?_ (fun q h => rg_A_l h)
  · rintro a s o t hp ⟨⟨r, u, e, hu, hP1, hK1, hD1⟩, hF⟩
    obtain ⟨b1, b2, b3⟩ := rg_frc hp.2.1 hP1 hD1 hF
    exact ⟨⟨r, u, e, hu, b1, hK1, b2⟩, b3⟩
  · rintro a s E t hp ⟨u, hu, ⟨hP1, hK1, hD1⟩, hF⟩
    obtain ⟨b1, b2, b3⟩ := rg_frc hp.2.1 hP1 hD1 hF
    exact ⟨u, hu, ⟨b1, hK1, b2⟩, b3⟩
theorem rx_fV {post : S → Prop} (wr : va_W) (h : rx_M l y wd rm D cl tys ws av (rg_QV D cl tys post w1) (rx_X D cl tys pX wX) mc ms) : rx_M l y wd rm D cl tys (ws ++ wr) av (rg_QV D cl tys post (fun u => w1 u ++ wr)) (rx_X D cl tys pX (fun u => wX u ++ wr)) mc ms := by
  intro sz
  refine rx_mono (h sz) (fun a s hp => ⟨hp.1, rg_in_l hp.2.1, hp.2.2.narrow (fun q h => rg_A_l h)⟩) ?_ ?_ (fun q h => rg_A_l h)
  · rintro a s o t hp ⟨⟨u, e, hu, hP1, hK1, hD1⟩, hF⟩
    obtain ⟨b1, b2, b3⟩ := rg_frc hp.2.1 hP1 hD1 hF
    exact ⟨⟨u, e, hu, b1, hK1, b2⟩, b3⟩
  · rintro a s E t hp ⟨u, hu, ⟨hP1, hK1, hD1⟩, hF⟩
    obtain ⟨b1, b2, b3⟩ := rg_frc hp.2.1 hP1 hD1 hF
    exact ⟨u, hu, ⟨b1, hK1, b2⟩, b3⟩
-- a returning contract where one that may throw is asked
theorem rx_up {Qc : (Nat → Prop) → Array Value → State → Outcome → State → Prop} {XC : (Nat → Prop) → String → State → State → Prop} (h : rg_M l y wd rm D cl tys ws av Qc mc ms) : rx_M l y wd rm D cl tys ws av Qc XC mc ms := by
  intro sz p e ha hc hk s m args below hf hs hp hK
  obtain ⟨n, o, a1, a2, a3, a4⟩ := h sz p e ha hc hk s m args below hf hs ⟨hp.1, hp.2.1⟩ hK
  exact ⟨n, o, a1, a2, a3, Or.inl a4⟩
end RFR
