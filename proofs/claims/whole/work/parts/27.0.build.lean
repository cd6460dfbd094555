/-! ===== the memory while it is being built ===== -/
def en (id k : Nat) : Nat := if id = 19 then [20, 88].getD k 0 else if id = 5 ∧ k = 4 then 156 else (rfT.getD id []).getD k 0
def look : List (Nat × Nat × Nat × Int32) → Nat → Nat → Int32
  | [], _, _ => 0
  | p :: r, id, j => if id = p.1 ∧ p.2.1 ≤ j ∧ j < p.2.2.1 then p.2.2.2 else look r id j
theorem rf_60 : ∀ l ∈ rfT, l.length ≤ 60 := by decide +kernel
theorem en_60 {n k : Nat} (h : 60 ≤ k) : en n k = 0 := by
  unfold en
  split
  · rw [List.getD_eq_getElem?_getD, List.getElem?_eq_none (by simp; omega)]; rfl
  · rw [if_neg (by omega)]
    have l60 : (rfT.getD n []).length ≤ 60 := by
      rw [List.getD_eq_getElem?_getD]
      cases q : rfT[n]? with
      | none => exact Nat.zero_le _
      | some l => exact rf_60 l (List.mem_of_getElem? q)
    rw [List.getD_eq_getElem?_getD, List.getElem?_eq_none (by omega)]; rfl
theorem look_n : ∀ {iv : List (Nat × Nat × Nat × Int32)} {n j : Nat}, iv.all (fun p => p.1 != n) = true → look iv n j = 0
  | [], _, _, _ => rfl
  | p :: r, n, j, h => by
    rw [List.all_cons, Bool.and_eq_true] at h
    have h1 : p.1 ≠ n := by simpa using h.1
    show (if n = p.1 ∧ p.2.1 ≤ j ∧ j < p.2.2.1 then p.2.2.2 else look r n j) = 0
    rw [if_neg (fun q => h1 q.1.symm)]
    exact look_n h.2
def PB (L : Nat) (xs : Nat → Int32) (n : Nat) (pd : List (Nat × Nat)) (iv : List (Nat × Nat × Nat × Int32)) (h : Hp) : Prop :=
  h.1 = n ∧ (hs h 4 = (4, L) ∧ ∀ id z, id < n → id ≠ 4 → shT[id]? = some z → hs h id = z) ∧ (∀ id k r, id < n → (id, k) ∉ pd → en id k = r → r ≠ 0 → hR h id k = r) ∧ (∀ a j, 1 ≤ a → a ≤ 3 → hI h a j = sdT a j) ∧ (∀ j, hI h 4 j = xs j) ∧ ∀ id j, 5 ≤ id → id < n → (j < 20 ∨ ¬ (id = 225 ∨ id = 226 ∨ id = 310)) → hI h id j = look iv id j
section PBS
variable {L : Nat} {xs : Nat → Int32} {n : Nat} {pd : List (Nat × Nat)} {iv : List (Nat × Nat × Nat × Int32)} {h h' : Hp}
theorem PB.sh (P : PB L xs n pd iv h) (id : Nat) {z : Nat × Nat} (h1 : id < n) (h4 : id ≠ 4) (hz : shT[id]? = some z) : hs h id = z := P.2.1.2 id z h1 h4 hz
theorem PB.rf (P : PB L xs n pd iv h) (id k : Nat) {r : Nat} (h1 : id < n) (h2 : (id, k) ∉ pd) (h3 : en id k = r) (h4 : r ≠ 0) : hR h id k = r := P.2.2.1 id k r h1 h2 h3 h4
theorem PB.start : PB L xs 5 [] [] (hp0 L xs) := by
  refine ⟨rfl, ⟨rfl, fun id z h1 h4 hz => ?_⟩, fun id k r h1 _ e h0 => ?_, fun a j h1 h2 => ?_, fun j => rfl, fun id j h5 hn => by omega⟩
  · rcases (show id = 0 ∨ id = 1 ∨ id = 2 ∨ id = 3 by omega) with rfl | rfl | rfl | rfl <;> (have hz := Option.some.inj hz; rw [← hz]; rfl)
  · rcases (show id = 0 ∨ id = 1 ∨ id = 2 ∨ id = 3 ∨ id = 4 by omega) with rfl | rfl | rfl | rfl | rfl <;> (exfalso; apply h0; rw [← e]; unfold en; rw [if_neg (by decide), if_neg (by omega)]; rfl)
  · show (if a = 4 then xs j else sdT a j) = sdT a j
    rw [if_neg (by omega)]
theorem PB.nw {z : Nat × Nat} (P : PB L xs n pd iv h) (e : h' = mk h z) (hz : shT[n]? = some z) (h4 : 4 < n) (pd' : List (Nat × Nat)) (h1 : pd.all (fun p => pd'.contains p) = true) (h2 : (List.range 60).all (fun k => en n k == 0 || pd'.contains (n, k)) = true) (h3 : iv.all (fun p => p.1 != n) = true) : PB L xs (n + 1) pd' iv h' := by
  obtain ⟨p1, ⟨p2, p3⟩, p4, p5, p6, p7⟩ := P
  subst e
  have es : ∀ b, hs (mk h z) b = if b = n then z else hs h b := fun b => by show (if b = h.1 then z else hs h b) = _; rw [p1]
  have ei : ∀ b j, hI (mk h z) b j = if b = n then 0 else hI h b j := fun b j => by show (if b = h.1 then 0 else hI h b j) = _; rw [p1]
  have er : ∀ b j, hR (mk h z) b j = if b = n then 0 else hR h b j := fun b j => by show (if b = h.1 then 0 else hR h b j) = _; rw [p1]
  refine ⟨by show h.1 + 1 = n + 1; rw [p1], ⟨by rw [es, if_neg (by omega)]; exact p2, fun id z' q1 q4 qz => ?_⟩, fun id k r q1 q2 q3 q4 => ?_, fun a j q1 q2 => by rw [ei, if_neg (by omega)]; exact p5 a j q1 q2, fun j => by rw [ei, if_neg (by omega)]; exact p6 j, fun id j q5 qn qj => ?_⟩
  · rw [es]
    by_cases y : id = n
    · rw [if_pos y]
      rw [y, hz] at qz
      exact Option.some.inj qz
    · rw [if_neg y]; exact p3 id z' (by omega) q4 qz
  · rw [er]
    by_cases y : id = n
    · exfalso
      by_cases k6 : k < 60
      · have := List.all_eq_true.mp h2 k (List.mem_range.mpr k6)
        rw [Bool.or_eq_true, beq_iff_eq] at this
        rcases this with w | w
        · rw [y, w] at q3; exact q4 q3.symm
        · rw [y] at q2
          exact q2 (by simpa using w)
      · rw [en_60 (by omega)] at q3; exact q4 q3.symm
    · rw [if_neg y]
      refine p4 id k r (by omega) (fun w => q2 ?_) q3 q4
      have := List.all_eq_true.mp h1 _ w
      simpa using this
  · rw [ei]
    by_cases y : id = n
    · rw [if_pos y, y, look_n h3]
    · rw [if_neg y]; exact p7 id j q5 (by omega) qj
theorem PB.rr {a i v : Nat} (P : PB L xs n pd iv h) (e : h' = sR h a i v) (hv : en a i = v) (pd' : List (Nat × Nat)) (hp : pd.all (fun p => p == (a, i) || pd'.contains p) = true) : PB L xs n pd' iv h' := by
  obtain ⟨p1, ⟨p2, p3⟩, p4, p5, p6, p7⟩ := P
  subst e
  refine ⟨p1, ⟨p2, p3⟩, fun id k r q1 q2 q3 q4 => ?_, p5, p6, p7⟩
  by_cases y : id = a ∧ k = i
  · obtain ⟨rfl, rfl⟩ := y
    rw [hR_eq, ← q3, hv]
  · rw [hR_ne (by omega)]
    refine p4 id k r q1 (fun w => ?_) q3 q4
    have := List.all_eq_true.mp hp _ w
    rw [Bool.or_eq_true, beq_iff_eq] at this
    rcases this with u | u
    · exact y ⟨(Prod.mk.inj u).1, (Prod.mk.inj u).2⟩
    · exact q2 (by simpa using u)
theorem PB.ii {a i : Nat} {v : Int32} (P : PB L xs n pd iv h) (e : h' = sI h a i v) (ha : 5 ≤ a) : PB L xs n pd ((a, i, i + 1, v) :: iv) h' := by
  obtain ⟨p1, ⟨p2, p3⟩, p4, p5, p6, p7⟩ := P
  subst e
  refine ⟨p1, ⟨p2, p3⟩, p4, fun b j q1 q2 => by rw [hI_ne (by omega)]; exact p5 b j q1 q2, fun j => by rw [hI_ne (by omega)]; exact p6 j, fun id j q5 qn qj => ?_⟩
  show _ = if id = a ∧ i ≤ j ∧ j < i + 1 then v else look iv id j
  by_cases y : id = a ∧ j = i
  · obtain ⟨rfl, rfl⟩ := y
    rw [hI_eq, if_pos ⟨rfl, by omega, by omega⟩]
  · rw [hI_ne (by omega), if_neg (by omega)]
    exact p7 id j q5 qn qj
theorem PB.fill {a N : Nat} {v : Int32} (P : PB L xs n pd iv h) (g : Chg (fun id => id = a) h h') (x : ∀ j, j < N → hI h' a j = v) (ha : a = 225 ∨ a = 226 ∨ a = 310) (hN : 20 ≤ N) : PB L xs n pd ((a, 0, N, v) :: iv) h' := by
  obtain ⟨p1, ⟨p2, p3⟩, p4, p5, p6, p7⟩ := P
  have ei : ∀ id j, id ≠ a → hI h' id j = hI h id j := fun id j q => (g.2.2.2 id q j).1
  refine ⟨g.1.trans p1, ⟨by rw [g.2.1]; exact p2, by rw [g.2.1]; exact p3⟩, by rw [g.2.2.1]; exact p4, fun b j q1 q2 => by rw [ei _ _ (by omega)]; exact p5 b j q1 q2, fun j => by rw [ei _ _ (by omega)]; exact p6 j, fun id j q5 qn qj => ?_⟩
  show _ = if id = a ∧ 0 ≤ j ∧ j < N then v else look iv id j
  by_cases y : id = a
  · rw [if_pos ⟨y, by omega, by omega⟩, y]
    exact x j (by omega)
  · rw [if_neg (by omega), ei _ _ y]
    exact p7 id j q5 qn qj
theorem PB.nm {kd ik N K : Nat} (P : PB L xs n pd iv h) (e : h' = mkm h kd ik N K) (h4 : 4 < n) (hz : shT[n]? = some (kd, N)) (hz2 : (List.range N).all (fun k => shT[n + 1 + k]? == some (ik, K)) = true) (he : (List.range N).all (fun k => en n k == n + 1 + k) = true) (he0 : (List.range 60).all (fun k => decide (k < N) || en n k == 0) = true) (he2 : (List.range N).all (fun q => (List.range 60).all (fun k => en (n + 1 + q) k == 0)) = true) (h3 : iv.all (fun p => decide (p.1 < n)) = true) : PB L xs (n + 1 + N) pd iv h' := by
  obtain ⟨p1, ⟨p2, p3⟩, p4, p5, p6, p7⟩ := P
  subst e
  have es : ∀ b, hs (mkm h kd ik N K) b = if b = n then (kd, N) else if n < b ∧ b < n + 1 + N then (ik, K) else hs h b := fun b => by show (if b = h.1 then (kd, N) else if h.1 < b ∧ b < h.1 + 1 + N then (ik, K) else hs h b) = _; rw [p1]
  have ei : ∀ b j, hI (mkm h kd ik N K) b j = if n ≤ b then 0 else hI h b j := fun b j => by show (if h.1 ≤ b then 0 else hI h b j) = _; rw [p1]
  have er : ∀ b j, hR (mkm h kd ik N K) b j = if b = n then (if j < N then n + 1 + j else 0) else if n < b then 0 else hR h b j := fun b j => by show (if b = h.1 then (if j < N then h.1 + 1 + j else 0) else if h.1 < b then 0 else hR h b j) = _; rw [p1]
  have lk : ∀ id j, n ≤ id → look iv id j = 0 := fun id j q => look_n (List.all_eq_true.mpr (fun p hp => by
    have := of_decide_eq_true (List.all_eq_true.mp h3 p hp)
    simp; omega))
  refine ⟨by show h.1 + 1 + N = n + 1 + N; rw [p1], ⟨by rw [es, if_neg (by omega), if_neg (by omega)]; exact p2, fun id z' q1 q4 qz => ?_⟩, fun id k r q1 q2 q3 q4 => ?_, fun a j q1 q2 => by rw [ei, if_neg (by omega)]; exact p5 a j q1 q2, fun j => by rw [ei, if_neg (by omega)]; exact p6 j, fun id j q5 qn qj => ?_⟩
  · rw [es]
    by_cases y : id = n
    · rw [if_pos y]
      rw [y, hz] at qz
      exact Option.some.inj qz
    · rw [if_neg y]
      by_cases y2 : n < id
      · rw [if_pos ⟨y2, q1⟩]
        have := List.all_eq_true.mp hz2 (id - (n + 1)) (List.mem_range.mpr (by omega))
        rw [beq_iff_eq, show n + 1 + (id - (n + 1)) = id by omega, qz] at this
        exact (Option.some.inj this).symm
      · rw [if_neg (by omega)]; exact p3 id z' (by omega) q4 qz
  · rw [er]
    by_cases y : id = n
    · rw [if_pos y]
      by_cases k6 : k < N
      · rw [if_pos k6, ← q3, y]
        have := List.all_eq_true.mp he k (List.mem_range.mpr k6)
        exact (beq_iff_eq.mp this).symm
      · exfalso
        by_cases k60 : k < 60
        · have := List.all_eq_true.mp he0 k (List.mem_range.mpr k60)
          rw [Bool.or_eq_true, beq_iff_eq] at this
          rcases this with u | u
          · exact k6 (of_decide_eq_true u)
          · rw [y, u] at q3; exact q4 q3.symm
        · rw [en_60 (by omega)] at q3; exact q4 q3.symm
    · rw [if_neg y]
      by_cases y2 : n < id
      · exfalso
        by_cases k60 : k < 60
        · have := List.all_eq_true.mp (List.all_eq_true.mp he2 (id - (n + 1)) (List.mem_range.mpr (by omega))) k (List.mem_range.mpr k60)
          rw [beq_iff_eq, show n + 1 + (id - (n + 1)) = id by omega] at this
          rw [this] at q3; exact q4 q3.symm
        · rw [en_60 (by omega)] at q3; exact q4 q3.symm
      · rw [if_neg y2]; exact p4 id k r (by omega) q2 q3 q4
  · rw [ei]
    by_cases y : n ≤ id
    · rw [if_pos y, lk id j y]
    · rw [if_neg y]; exact p7 id j q5 (by omega) qj
theorem en_rf {id k r : Nat} (h : (rfT.getD id []).getD k 0 = r) (h0 : r ≠ 0) : en id k = r := by
  unfold en
  split
  · rename_i e
    rw [e, rf_19] at h
    exact absurd h.symm h0
  · split
    · rename_i e
      rw [e.1, e.2] at h
      exact absurd h.symm h0
    · exact h
theorem PB.lay (P : PB L xs 385 [] iv h) : Lay L h :=
  ⟨⟨P.1, P.2.1.1, fun id z q4 qz => P.2.1.2 id z (by
    have : id < shT.length := (List.getElem?_eq_some_iff.mp qz).1
    have e : shT.length = 385 := by decide +kernel
    omega) q4 qz⟩, fun id k r e h0 => P.2.2.1 id k r (by
    rcases Nat.lt_or_ge id 385 with q | q
    · exact q
    · exfalso
      have e2 : rfT.length ≤ 385 := by decide +kernel
      have e3 : rfT.getD id [] = [] := by rw [List.getD_eq_getElem?_getD, List.getElem?_eq_none (show rfT.length ≤ id by omega)]; rfl
      rw [e3] at e
      exact h0 e.symm) (by simp) (en_rf e h0) h0, P.2.2.2.1⟩
end PBS
