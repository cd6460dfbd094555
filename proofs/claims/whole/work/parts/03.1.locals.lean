def clrL (loc : List (Option Value)) (i : Nat) : List (Option Value) := match i with
  | 0 => loc
  | j + 1 => match loc[j]? with
    | some (some u) => if u.category = 2 then loc.set j none else loc
    | _ => loc
def setL (loc : List (Option Value)) (i : Nat) (v : Value) : List (Option Value) :=
  if v.category = 2 then ((clrL loc i).set i (some v)).set (i + 1) none else (clrL loc i).set i (some v)
theorem set_get {l : List (Option Value)} {i : Nat} {o : Option Value} {u : Value} (h : (l.set i o)[i]? = some (some u)) : o = some u := by
  by_cases hl : i < l.length
  · rw [List.getElem?_set_self hl] at h
    exact Option.some.inj h
  · rw [List.getElem?_eq_none (by simpa using hl)] at h
    cases h
theorem clr_get {loc : List (Option Value)} {i j : Nat} {x : Value} (h : (clrL loc i)[j]? = some (some x)) : loc[j]? = some (some x) ∧ ¬ (j + 1 = i ∧ x.category = 2) := by
  cases i with
  | zero => exact ⟨h, fun q => by omega⟩
  | succ i0 =>
    unfold clrL at h
    cases hq : loc[i0]? with
    | none =>
      simp only [hq] at h
      refine ⟨h, fun q => ?_⟩
      have e : j = i0 := by omega
      subst e
      rw [hq] at h
      cases h
    | some o =>
      cases o with
      | none =>
        simp only [hq] at h
        refine ⟨h, fun q => ?_⟩
        have e : j = i0 := by omega
        subst e
        rw [hq] at h
        cases h
      | some u0 =>
        simp only [hq] at h
        by_cases hu : u0.category = 2
        · rw [if_pos hu] at h
          by_cases e : i0 = j
          · subst e
            cases set_get h
          · rw [List.getElem?_set_ne e] at h
            exact ⟨h, fun q => by omega⟩
        · rw [if_neg hu] at h
          refine ⟨h, fun q => ?_⟩
          have e : j = i0 := by omega
          subst e
          rw [hq] at h
          cases h
          exact hu q.2
theorem getL1 {loc : List (Option Value)} {i j : Nat} {u : Value} (v : Value) (h : (setL loc i v)[j]? = some (some u)) : (j = i ∧ u = v) ∨ (j ≠ i ∧ loc[j]? = some (some u) ∧ ¬ (j + 1 = i ∧ u.category = 2) ∧ (v.category = 2 → j ≠ i + 1)) := by
  have step : ((clrL loc i).set i (some v))[j]? = some (some u) → (j = i ∧ u = v) ∨ (j ≠ i ∧ (clrL loc i)[j]? = some (some u)) := by
    intro q
    by_cases e : j = i
    · subst e
      left
      exact ⟨rfl, (Option.some.inj (set_get q)).symm⟩
    · right
      rw [List.getElem?_set_ne (Ne.symm e)] at q
      exact ⟨e, q⟩
  unfold setL at h
  by_cases hv : v.category = 2
  · rw [if_pos hv] at h
    have e1 : j ≠ i + 1 := by
      intro e
      subst e
      cases set_get h
    rw [List.getElem?_set_ne (Ne.symm e1)] at h
    rcases step h with q | ⟨q1, q2⟩
    · exact Or.inl q
    · exact Or.inr ⟨q1, (clr_get q2).1, (clr_get q2).2, fun _ => e1⟩
  · rw [if_neg hv] at h
    rcases step h with q | ⟨q1, q2⟩
    · exact Or.inl q
    · exact Or.inr ⟨q1, (clr_get q2).1, (clr_get q2).2, fun z => absurd z hv⟩
theorem Lc.store1 {w : Wd} {ls : Array Slot} {nL i : Nat} {loc : List (Option Value)} {v : Value} (h : Lc w ls nL loc) (hi : i < nL) (hc : v.category = 1) : ∃ ls', storeLocals ls i (cv w v) = some ls' ∧ Lc w ls' nL (setL loc i v) := by
  have hc' : (cv w v).category = 1 := (cv_cat w v).trans hc
  obtain ⟨ls', e, hh⟩ := lv_store1 (l := []) (v := cv w v) ⟨h.1, h.2.1, fun q hq => by cases hq⟩ hi hc'
  refine ⟨ls', e, hh.1, hh.2.1, fun j u hj => ?_⟩
  rcases getL1 v hj with ⟨rfl, rfl⟩ | ⟨h1, h2, h3, -⟩
  · exact hh.2.2 (j, cv w u) List.mem_cons_self
  · obtain ⟨ls2, e2, hh2⟩ := lv_store1 (l := [(j, cv w u)]) (v := cv w v) ⟨h.1, h.2.1, fun q hq => by rw [List.mem_singleton.mp hq]; exact h.2.2 j u h2⟩ hi hc'
    cases e.symm.trans e2
    refine hh2.2.2 (j, cv w u) (List.mem_cons_of_mem _ (List.mem_filter.mpr ⟨List.mem_singleton.mpr rfl, ?_⟩))
    have hx : ¬ (j + 1 = i ∧ (cv w u).category = 2) := by rw [cv_cat]; exact h3
    simp only [Bool.and_eq_true, Bool.not_eq_true', beq_eq_false_iff_ne, ne_eq, Bool.and_eq_false_iff]
    refine ⟨h1, ?_⟩
    by_cases z : j + 1 = i
    · exact Or.inr fun q => hx ⟨z, q⟩
    · exact Or.inl z
theorem Lc.store2 {w : Wd} {ls : Array Slot} {nL i : Nat} {loc : List (Option Value)} {v : Value} (h : Lc w ls nL loc) (hi : i + 1 < nL) (hc : v.category = 2) : ∃ ls', storeLocals ls i (cv w v) = some ls' ∧ Lc w ls' nL (setL loc i v) := by
  have hc' : (cv w v).category = 2 := (cv_cat w v).trans hc
  obtain ⟨ls', e, hh⟩ := lv_store2 (l := []) (v := cv w v) ⟨h.1, h.2.1, fun q hq => by cases hq⟩ hi hc'
  refine ⟨ls', e, hh.1, hh.2.1, fun j u hj => ?_⟩
  rcases getL1 v hj with ⟨rfl, rfl⟩ | ⟨h1, h2, h3, h4⟩
  · exact hh.2.2 (j, cv w u) List.mem_cons_self
  · obtain ⟨ls2, e2, hh2⟩ := lv_store2 (l := [(j, cv w u)]) (v := cv w v) ⟨h.1, h.2.1, fun q hq => by rw [List.mem_singleton.mp hq]; exact h.2.2 j u h2⟩ hi hc'
    cases e.symm.trans e2
    refine hh2.2.2 (j, cv w u) (List.mem_cons_of_mem _ (List.mem_filter.mpr ⟨List.mem_singleton.mpr rfl, ?_⟩))
    have hx : ¬ (j + 1 = i ∧ (cv w u).category = 2) := by rw [cv_cat]; exact h3
    simp only [Bool.and_eq_true, Bool.not_eq_true', beq_eq_false_iff_ne, ne_eq, Bool.and_eq_false_iff]
    refine ⟨h1, h4 hc, ?_⟩
    by_cases z : j + 1 = i
    · exact Or.inr fun q => hx ⟨z, q⟩
    · exact Or.inl z
section AWL
variable {w : Wd} {M : Mi} {mc ms k n pc : Nat} {Q : Option Value → Hp → Prop} {loc : List (Option Value)} {stk : List Value} {h : Hp}
theorem aw_istore_n {z : Fin 4} {x : Int32} {loc' : List (Option Value)} (pc' : Nat) (d : decode M.2.1 pc = .ok (.istore_n z, 1)) (hp : pc + 1 = pc') (hi : (z : Nat) < M.2.2.1) (hl : setL loc z (.int x) = loc') (K : AW w M mc ms Q k n pc' loc' stk h) : AW w M mc ms Q k n pc loc (.int x :: stk) h := by
  subst hp hl
  intro p e s m args below meth c C E H locs ls hS hR hL
  obtain ⟨ls', e', hL'⟩ := hL.store1 (v := .int x) hi rfl
  have e' : storeLocals ls z (.int x) = some ls' := e'
  show W p w.1 e _ s m args below meth c H locs k n _ (F0 m pc ls (.int x :: stk.map (cv w)))
  intro T hT X
  obtain ⟨t, a, b⟩ := K p e s m args below meth c C E H locs ls' hS hR hL' T hT X
  refine ⟨t, ?_, b⟩
  jvm_step X.here [X.here.top, ↓top_set X.here.top, C.1.1, C.1.2.1, d, e']
  exact a
theorem aw_istore {i : Nat} {x : Int32} {loc' : List (Option Value)} (pc' : Nat) (d : decode M.2.1 pc = .ok (.istore i, 2)) (hp : pc + 2 = pc') (hi : i < M.2.2.1) (hl : setL loc i (.int x) = loc') (K : AW w M mc ms Q k n pc' loc' stk h) : AW w M mc ms Q k n pc loc (.int x :: stk) h := by
  subst hp hl
  intro p e s m args below meth c C E H locs ls hS hR hL
  obtain ⟨ls', e', hL'⟩ := hL.store1 (v := .int x) hi rfl
  have e' : storeLocals ls i (.int x) = some ls' := e'
  show W p w.1 e _ s m args below meth c H locs k n _ (F0 m pc ls (.int x :: stk.map (cv w)))
  intro T hT X
  obtain ⟨t, a, b⟩ := K p e s m args below meth c C E H locs ls' hS hR hL' T hT X
  refine ⟨t, ?_, b⟩
  jvm_step X.here [X.here.top, ↓top_set X.here.top, C.1.1, C.1.2.1, d, e']
  exact a
theorem aw_astore_n {z : Fin 4} {x : Nat} {loc' : List (Option Value)} (pc' : Nat) (d : decode M.2.1 pc = .ok (.astore_n z, 1)) (hp : pc + 1 = pc') (hi : (z : Nat) < M.2.2.1) (hl : setL loc z (.ref x) = loc') (K : AW w M mc ms Q k n pc' loc' stk h) : AW w M mc ms Q k n pc loc (.ref x :: stk) h := by
  subst hp hl
  intro p e s m args below meth c C E H locs ls hS hR hL
  obtain ⟨ls', e', hL'⟩ := hL.store1 (v := .ref x) hi rfl
  have e' : storeLocals ls z (.ref (ad w x)) = some ls' := e'
  show W p w.1 e _ s m args below meth c H locs k n _ (F0 m pc ls (.ref (ad w x) :: stk.map (cv w)))
  intro T hT X
  obtain ⟨t, a, b⟩ := K p e s m args below meth c C E H locs ls' hS hR hL' T hT X
  refine ⟨t, ?_, b⟩
  jvm_step X.here [X.here.top, ↓top_set X.here.top, C.1.1, C.1.2.1, d, e']
  exact ⟨rfl, a⟩
theorem aw_lstore_n {z : Fin 4} {x : Int64} {loc' : List (Option Value)} (pc' : Nat) (d : decode M.2.1 pc = .ok (.lstore_n z, 1)) (hp : pc + 1 = pc') (hi : (z : Nat) + 1 < M.2.2.1) (hl : setL loc z (.long x) = loc') (K : AW w M mc ms Q k n pc' loc' stk h) : AW w M mc ms Q k n pc loc (.long x :: stk) h := by
  subst hp hl
  intro p e s m args below meth c C E H locs ls hS hR hL
  obtain ⟨ls', e', hL'⟩ := hL.store2 (v := .long x) hi rfl
  have e' : storeLocals ls z (.long x) = some ls' := e'
  show W p w.1 e _ s m args below meth c H locs k n _ (F0 m pc ls (.long x :: stk.map (cv w)))
  intro T hT X
  obtain ⟨t, a, b⟩ := K p e s m args below meth c C E H locs ls' hS hR hL' T hT X
  refine ⟨t, ?_, b⟩
  jvm_step X.here [X.here.top, ↓top_set X.here.top, C.1.1, C.1.2.1, d, e']
  exact a
theorem aw_lstore {i : Nat} {x : Int64} {loc' : List (Option Value)} (pc' : Nat) (d : decode M.2.1 pc = .ok (.lstore i, 2)) (hp : pc + 2 = pc') (hi : i + 1 < M.2.2.1) (hl : setL loc i (.long x) = loc') (K : AW w M mc ms Q k n pc' loc' stk h) : AW w M mc ms Q k n pc loc (.long x :: stk) h := by
  subst hp hl
  intro p e s m args below meth c C E H locs ls hS hR hL
  obtain ⟨ls', e', hL'⟩ := hL.store2 (v := .long x) hi rfl
  have e' : storeLocals ls i (.long x) = some ls' := e'
  show W p w.1 e _ s m args below meth c H locs k n _ (F0 m pc ls (.long x :: stk.map (cv w)))
  intro T hT X
  obtain ⟨t, a, b⟩ := K p e s m args below meth c C E H locs ls' hS hR hL' T hT X
  refine ⟨t, ?_, b⟩
  jvm_step X.here [X.here.top, ↓top_set X.here.top, C.1.1, C.1.2.1, d, e']
  exact a
theorem aw_iinc {i : Nat} {z : Int} {x y : Int32} {loc' : List (Option Value)} (pc' : Nat) (d : decode M.2.1 pc = .ok (.iinc i z, 3)) (hp : pc + 3 = pc') (hi : i < M.2.2.1) (hx : loc[i]? = some (some (.int x))) (hy : Int32.ofInt z = y) (hl : setL loc i (.int (x + y)) = loc') (K : AW w M mc ms Q k n pc' loc' stk h) : AW w M mc ms Q k n pc loc stk h := by
  subst hp hl hy
  intro p e s m args below meth c C E H locs ls hS hR hL
  obtain ⟨ls', e', hL'⟩ := hL.store1 (v := .int (x + Int32.ofInt z)) hi rfl
  have e' : storeLocals ls i (.int (x + Int32.ofInt z)) = some ls' := e'
  have hg : ls[i]? = some (.val (.int x)) := hL.2.2 i _ hx
  intro T hT X
  obtain ⟨t, a, b⟩ := K p e s m args below meth c C E H locs ls' hS hR hL' T hT X
  refine ⟨t, ?_, b⟩
  jvm_step X.here [X.here.top, ↓top_set X.here.top, C.1.1, C.1.2.1, d, hg, e']
  exact a
end AWL
