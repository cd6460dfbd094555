/-! ===== a book is made: the reference ===== -/
def nkD (id j : Nat) : Prop := (id = 347 ∧ j = 29) ∨ id = 367 ∨ id = 368
section NM
variable {w : Wd} {L : Nat} {h : Hp} {P : Ps} {W : Wr} {t : Tp} {sf : Sf}
theorem newKind_113 {Q : Int32 → Hp → Prop} {n : Nat} {z : Nat → Nat} {l : Nat → Nat → Nat} (c : Lay L h) (hn : n < 40) (K : ∀ h', Cg nkD h h' → hI h' 347 29 = nI (n + 1) → wlM h' 367 368 40 (n + 1) (zAdd z n W.1) (lAdd l n W.2) → Q (nI n) h') :
    ∀ (d i : Nat) (h' : Hp), i + d = W.1 → Cg nkD h h' → hI h' 347 29 = nI n → wlM h' 367 368 40 n z l → bufM h' W → hI h' 367 n = nI W.1 → (∀ j, j < i → hI h' 368 (10 * n + j) = nI (W.2 j)) → AW w mX10_newKind 0 0 (rI Q) 0 0 113 [some (.ref 347), some (.int (nI i)), none, none] [] h' := by
  intro d
  induction d with
  | zero =>
    intro i h' hi a hm D B hz hj
    have h10 := B.1.1
    have c' : Lay L h' := a.lay c (fun id j q => by unfold nkD at q; omega)
    refine sX10_newKind_113 ?_
    have KK : Q (nI n) (sI h' 347 29 (nI (n + 1))) := K _ (a.sI (Or.inl ⟨rfl, rfl⟩)) hI_eq ⟨hn, fun k hk => ?_, fun k hk j hj' => ?_⟩
    · simp (disch := omega) only [s_347 c', B.2.1, hm, nI_inc1, forall_eq, hs_sI, hs_sL, hR_sI, hR_sL, hI_eq, hI_ne, hI_sL, hL_sI, ti_lt, ti_le, ti_eq, nI_toInt, cl_nI, nI_1, nI_add, t_0, t_1, t_2, t_3, t_4, t_5, t_6, t_7, t_8, t_9, t_10, t_12, t_15, t_16, t_20, t_21, t_24, t_26, t_30, t_31, t_32, t_33, t_39, t_40, t_41, t_45, t_46, t_47, t_48, t_57, t_60, t_63, t_65, t_90, t_97, t_100, t_122, t_200, t_230, t_240, t_255, t_400, t_440, t_441, t_450, t_480, t_1580, t_1600, t_10000, t_131071, t_131072, t_1048576, t_1000000000, tm_1, tm_100001, tm_100002, tm_100003, tm_100004]
      exact ⟨trivial, fun _ => KK, fun z => by omega⟩
    · show zAdd z n W.1 k ≤ 10 ∧ _ = nI (zAdd z n W.1 k)
      unfold zAdd
      by_cases q : k = n
      · subst q
        rw [if_pos rfl]
        exact ⟨h10, by simp (disch := omega) only [hI_ne]; exact hz⟩
      · rw [if_neg q]
        have := D.2.1 k (by omega)
        exact ⟨this.1, by simp (disch := omega) only [hI_ne]; exact this.2⟩
    · have hj' : j < zAdd z n W.1 k := hj'
      show lAdd l n W.2 k j < 128 ∧ _ = nI (lAdd l n W.2 k j)
      unfold zAdd at hj'
      unfold lAdd
      by_cases q : k = n
      · subst q
        rw [if_pos rfl] at hj' ⊢
        exact ⟨B.1.2 j hj', by simp (disch := omega) only [hI_ne]; exact hj j (by omega)⟩
      · rw [if_neg q] at hj' ⊢
        have := D.2.2 k (by omega) j hj'
        exact ⟨this.1, by simp (disch := omega) only [hI_ne]; exact this.2⟩
  | succ d ih =>
    intro i h' hi a hm D B hz hj
    have h10 := B.1.1
    have c' : Lay L h' := a.lay c (fun id j q => by unfold nkD at q; omega)
    refine sX10_newKind_113 ?_
    have a3 := B.2.2 i (by omega)
    have nx := ih (i + 1) (sI h' 368 (10 * n + i) (nI (W.2 i))) (by omega) (a.sI (Or.inr (Or.inr rfl))) (by simp (disch := omega) only [hI_ne, hm]) ⟨D.1, fun k hk => ⟨(D.2.1 k hk).1, by simp (disch := omega) only [hI_ne]; exact (D.2.1 k hk).2⟩, fun k hk j hj' => ⟨(D.2.2 k hk j hj').1, by have := (D.2.1 k hk).1; simp (disch := omega) only [hI_ne]; exact (D.2.2 k hk j hj').2⟩⟩ (B.cg ((Cg.rfl' h').sI (D := fun id j => id = 368) rfl) (fun id j q => by omega)) (by simp (disch := omega) only [hI_ne, hz]) (fun j hj' => by
      by_cases q : j = i
      · subst q; exact hI_eq
      · rw [hI_ne (Or.inr (by omega))]; exact hj j (by omega))
    simp (disch := omega) only [s_347 c', r_347_27 c', r_347_20 c', s_363 c', s_368 c', B.2.1, hm, a3, m_10, forall_eq, hs_sI, hs_sL, hR_sI, hR_sL, hI_eq, hI_ne, hI_sL, hL_sI, ti_lt, ti_le, ti_eq, nI_toInt, cl_nI, nI_1, nI_add, t_0, t_1, t_2, t_3, t_4, t_5, t_6, t_7, t_8, t_9, t_10, t_12, t_15, t_16, t_20, t_21, t_24, t_26, t_30, t_31, t_32, t_33, t_39, t_40, t_41, t_45, t_46, t_47, t_48, t_57, t_60, t_63, t_65, t_90, t_97, t_100, t_122, t_200, t_230, t_240, t_255, t_400, t_440, t_441, t_450, t_480, t_1580, t_1600, t_10000, t_131071, t_131072, t_1048576, t_1000000000, tm_1, tm_100001, tm_100002, tm_100003, tm_100004]
    exact ⟨trivial, fun z => by omega, fun _ => ⟨by decide, by decide, trivial, vp_nI (by omega) (by decide), trivial, vp_nI (by omega) (by decide), nx⟩⟩
theorem sp_newKind {Q : Int32 → Hp → Prop} {n : Nat} {z : Nat → Nat} {l : Nat → Nat → Nat} (c : Lay L h) (d1 : hI h 347 29 = nI n) (D : wlM h 367 368 40 n z l) (B : bufM h W) (K : ∀ h', Cg nkD h h' → hI h' 347 29 = nI (fEnter 40 n z l W).2.1 → wlM h' 367 368 40 (fEnter 40 n z l W).2.1 (fEnter 40 n z l W).2.2.1 (fEnter 40 n z l W).2.2.2 → Q (oI (fEnter 40 n z l W).1) h') : AC w mX10_newKind 0 0 (rI Q) [.ref 347] h := by
  have d2 := D.1
  have h10 := B.1.1
  have lp : ∀ (d k : Nat), k + d = n → fW z l W k = none → AW w mX10_newKind 0 0 (rI Q) 0 0 2 [some (.ref 347), some (.int (nI k)), none, none] [] h := by
    intro d
    induction d with
    | zero =>
      intro k hk hf
      have hk : k = n := by omega
      subst hk
      have e1 : fEnter 40 k z l W = if k < 40 then (some k, k + 1, zAdd z k W.1, lAdd l k W.2) else (none, k, z, l) := by unfold fEnter; rw [hf]
      refine sX10_newKind_2 ?_
      by_cases q : k < 40
      · rw [if_pos q] at e1
        rw [e1] at K
        have cg : Cg nkD h (sI h 367 k (nI W.1)) := (Cg.rfl' h).sI (Or.inr (Or.inl rfl))
        have go := newKind_113 (w := w) (z := z) (l := l) (W := W) c q K W.1 0 (sI h 367 k (nI W.1)) (by omega) cg (by rw [hI_ne (Or.inl (by decide))]; exact d1) ⟨d2, fun x hx => ⟨(D.2.1 x hx).1, by rw [hI_ne (Or.inr (by omega))]; exact (D.2.1 x hx).2⟩, fun x hx j hj => ⟨(D.2.2 x hx j hj).1, by rw [hI_ne (Or.inl (by decide))]; exact (D.2.2 x hx j hj).2⟩⟩ (B.cg ((Cg.rfl' h).sI (D := fun id j => id = 367) rfl) (fun id j q => by omega)) hI_eq (fun j hj => by omega)
        simp (disch := omega) only [s_347 c, r_347_26 c, s_367 c, d1, B.2.1, forall_eq, hs_sI, hs_sL, hR_sI, hR_sL, hI_eq, hI_ne, hI_sL, hL_sI, ti_lt, ti_le, ti_eq, nI_toInt, cl_nI, nI_1, nI_add, t_0, t_1, t_2, t_3, t_4, t_5, t_6, t_7, t_8, t_9, t_10, t_12, t_15, t_16, t_20, t_21, t_24, t_26, t_30, t_31, t_32, t_33, t_39, t_40, t_41, t_45, t_46, t_47, t_48, t_57, t_60, t_63, t_65, t_90, t_97, t_100, t_122, t_200, t_230, t_240, t_255, t_400, t_440, t_441, t_450, t_480, t_1580, t_1600, t_10000, t_131071, t_131072, t_1048576, t_1000000000, tm_1, tm_100001, tm_100002, tm_100003, tm_100004]
        exact ⟨trivial, fun _ => ⟨fun _ => ⟨by decide, trivial, vp_nI (by omega) (by decide), go⟩, fun z => by omega⟩, fun z => by omega⟩
      · rw [if_neg q] at e1
        rw [e1] at K
        have KK : Q (-1) h := K h (Cg.rfl' h) d1 D
        simp (disch := omega) only [s_347 c, r_347_26 c, s_367 c, d1, B.2.1, forall_eq, hs_sI, hs_sL, hR_sI, hR_sL, hI_eq, hI_ne, hI_sL, hL_sI, ti_lt, ti_le, ti_eq, nI_toInt, cl_nI, nI_1, nI_add, t_0, t_1, t_2, t_3, t_4, t_5, t_6, t_7, t_8, t_9, t_10, t_12, t_15, t_16, t_20, t_21, t_24, t_26, t_30, t_31, t_32, t_33, t_39, t_40, t_41, t_45, t_46, t_47, t_48, t_57, t_60, t_63, t_65, t_90, t_97, t_100, t_122, t_200, t_230, t_240, t_255, t_400, t_440, t_441, t_450, t_480, t_1580, t_1600, t_10000, t_131071, t_131072, t_1048576, t_1000000000, tm_1, tm_100001, tm_100002, tm_100003, tm_100004]
        exact ⟨trivial, fun _ => ⟨fun z => by omega, fun _ => KK⟩, fun z => by omega⟩
    | succ d ih =>
      intro k hk hf
      have hk' : k < n := by omega
      obtain ⟨e1, e2⟩ := D.2.1 k hk'
      have no : eqW z l W k = false → AW w mX10_newKind 0 0 (rI Q) 0 0 2 [some (.ref 347), some (.int (nI (k + 1))), none, none] [] h := fun q => ih (k + 1) (by omega) (fW_n hf q)
      have yes : eqW z l W k = true → Q (nI k) h := fun q => by
        have := fW_s hf q (n - (k + 1))
        rw [show k + 1 + (n - (k + 1)) = n by omega] at this
        have e1 : fEnter 40 n z l W = (some k, n, z, l) := by unfold fEnter; rw [this]
        rw [e1] at K
        exact K h (Cg.rfl' h) d1 D
      have out : ∀ i, eqW z l W k = false → AW w mX10_newKind 0 0 (rI Q) 0 0 31 [some (.ref 347), some (.int (nI k)), some (.int 0), some (.int i)] [] h := fun i q => by
        refine sX10_newKind_31 ?_
        rw [nI_1]
        exact ⟨by rw [s_347 c], fun _ => ⟨fun _ => no q, fun z => absurd rfl z⟩, fun _ => ⟨fun _ => ⟨fun _ => no q, fun z => absurd rfl z⟩, fun z => absurd rfl z⟩⟩
      have inn : z k = W.1 → ∀ (e i : Nat), i + e = W.1 → (∀ j, j < i → l k j = W.2 j) → AW w mX10_newKind 0 0 (rI Q) 0 0 31 [some (.ref 347), some (.int (nI k)), some (.int 1), some (.int (nI i))] [] h := by
        intro hz e
        induction e with
        | zero =>
          intro i hi hj
          have y := yes (decide_eq_true ⟨hz, fun j hj' => hj j (by omega)⟩)
          refine sX10_newKind_31 ?_
          simp (disch := omega) only [s_347 c, B.2.1, forall_eq, hs_sI, hs_sL, hR_sI, hR_sL, hI_eq, hI_ne, hI_sL, hL_sI, ti_lt, ti_le, ti_eq, nI_toInt, cl_nI, nI_1, nI_add, t_0, t_1, t_2, t_3, t_4, t_5, t_6, t_7, t_8, t_9, t_10, t_12, t_15, t_16, t_20, t_21, t_24, t_26, t_30, t_31, t_32, t_33, t_39, t_40, t_41, t_45, t_46, t_47, t_48, t_57, t_60, t_63, t_65, t_90, t_97, t_100, t_122, t_200, t_230, t_240, t_255, t_400, t_440, t_441, t_450, t_480, t_1580, t_1600, t_10000, t_131071, t_131072, t_1048576, t_1000000000, tm_1, tm_100001, tm_100002, tm_100003, tm_100004]
          exact ⟨trivial, fun _ => ⟨fun z => by omega, fun _ => y⟩, fun z => by omega⟩
        | succ e ie =>
          intro i hi hj
          obtain ⟨a1, a2⟩ := D.2.2 k hk' i (by omega)
          have a3 := B.2.2 i (by omega)
          have a4 := B.1.2 i (by omega)
          refine sX10_newKind_31 ?_
          simp (disch := omega) only [s_347 c, r_347_27 c, s_368 c, r_347_20 c, s_363 c, m_10, B.2.1, a2, a3, forall_eq, hs_sI, hs_sL, hR_sI, hR_sL, hI_eq, hI_ne, hI_sL, hL_sI, ti_lt, ti_le, ti_eq, nI_toInt, cl_nI, nI_1, nI_add, t_0, t_1, t_2, t_3, t_4, t_5, t_6, t_7, t_8, t_9, t_10, t_12, t_15, t_16, t_20, t_21, t_24, t_26, t_30, t_31, t_32, t_33, t_39, t_40, t_41, t_45, t_46, t_47, t_48, t_57, t_60, t_63, t_65, t_90, t_97, t_100, t_122, t_200, t_230, t_240, t_255, t_400, t_440, t_441, t_450, t_480, t_1580, t_1600, t_10000, t_131071, t_131072, t_1048576, t_1000000000, tm_1, tm_100001, tm_100002, tm_100003, tm_100004]
          repeat' (first | exact trivial | (with_reducible refine And.intro ?_ ?_) | exact vp_nI (by omega) (by omega) | decide | ((exact out _ (decide_eq_false (fun q => by have := q.2 i (by omega); omega)))) | ((intro z1; exact ie (i + 1) (by omega) (fun j hj' => if e : j = i then by subst e; omega else hj j (by omega)))) | (with_reducible intro z1; first | exact absurd trivial z1 | exact z1.elim) | (with_reducible intro z1) | omega)
      refine sX10_newKind_2 ?_
      simp (disch := omega) only [s_347 c, r_347_26 c, s_367 c, d1, B.2.1, e2, forall_eq, hs_sI, hs_sL, hR_sI, hR_sL, hI_eq, hI_ne, hI_sL, hL_sI, ti_lt, ti_le, ti_eq, nI_toInt, cl_nI, nI_1, nI_add, t_0, t_1, t_2, t_3, t_4, t_5, t_6, t_7, t_8, t_9, t_10, t_12, t_15, t_16, t_20, t_21, t_24, t_26, t_30, t_31, t_32, t_33, t_39, t_40, t_41, t_45, t_46, t_47, t_48, t_57, t_60, t_63, t_65, t_90, t_97, t_100, t_122, t_200, t_230, t_240, t_255, t_400, t_440, t_441, t_450, t_480, t_1580, t_1600, t_10000, t_131071, t_131072, t_1048576, t_1000000000, tm_1, tm_100001, tm_100002, tm_100003, tm_100004]
      repeat' (first | exact trivial | (with_reducible refine And.intro ?_ ?_) | exact vp_nI (by omega) (by omega) | decide | ((exact out _ (decide_eq_false (by omega)))) | ((exact inn (by omega) W.1 0 (by omega) (fun j hj => by omega))) | (with_reducible intro z1; first | exact absurd trivial z1 | exact z1.elim) | (with_reducible intro z1) | omega)
  exact eX10_newKind (sX10_newKind_0 (lp n 0 (by omega) rfl))
/-- enough for the ends of sentence and paragraph to go through -/
def weakM (h : Hp) : Prop := ∃ ns v : Nat, ns ≤ 20 ∧ v ≤ 11 ∧ hI h 347 28 = nI ns ∧ hI h 364 ns = nI v ∧ (0 < v → ns < 20)
def ndD (id j : Nat) : Prop := (id = 347 ∧ (28 ≤ j ∧ j ≤ 32)) ∨ (364 ≤ id ∧ id ≤ 368)
theorem sp_addWordM {Q : Hp → Prop} (c : Lay L h) (D : bookPM h P) (B : bufM h W) (h1 : W.1 ≠ 0) (K1 : pWord W P = none → ∀ h', Cg ndD h h' → hI h' 347 32 = 1 → weakM h' → Q h') (K2 : ∀ P', pWord W P = some P' → ∀ h', Cg ndD h h' → hI h' 347 32 = 0 → bookPM h' P' → Q h') (h32 : hI h 347 32 = 0) : AC w mX10_addWord 0 0 (rV Q) [.ref 347] h := by
  obtain ⟨o, ⟨d1, d2, d3, d4, d5⟩, d6, d7, d8, d9⟩ := D
  obtain ⟨⟨o1, o2, o3, o4⟩, ⟨o5, o6⟩, -⟩ := id o
  refine eX10_addWord (sX10_addWord_0 ?_)
  have full : bNs P.1 = 20 ∨ P.2.1 = 10 → Q (sI h 347 32 1) := fun q => K1 (by unfold pWord; rw [if_pos q]) _ ((Cg.rfl' h).sI (by unfold ndD; omega)) hI_eq ⟨bNs P.1, P.2.1, o1, by omega, by rw [hI_ne (Or.inr (by decide))]; exact d1, by rw [hI_ne (Or.inl (by decide))]; exact d5, o4⟩
  simp (disch := omega) only [s_347 c, r_347_23 c, s_364 c, d1, d5, forall_eq, hs_sI, hs_sL, hR_sI, hR_sL, hI_eq, hI_ne, hI_sL, hL_sI, ti_lt, ti_le, ti_eq, nI_toInt, cl_nI, nI_1, nI_add, t_0, t_1, t_2, t_3, t_4, t_5, t_6, t_7, t_8, t_9, t_10, t_12, t_15, t_16, t_20, t_21, t_24, t_26, t_30, t_31, t_32, t_33, t_39, t_40, t_41, t_45, t_46, t_47, t_48, t_57, t_60, t_63, t_65, t_90, t_97, t_100, t_122, t_200, t_230, t_240, t_255, t_400, t_440, t_441, t_450, t_480, t_1580, t_1600, t_10000, t_131071, t_131072, t_1048576, t_1000000000, tm_1, tm_100001, tm_100002, tm_100003, tm_100004]
  refine ⟨trivial, fun q => full (by omega), fun q1 => ⟨by decide, trivial, vp_nI (by omega) (by decide), fun q2 => ?_, fun q => full (by omega)⟩⟩
  refine sp_newKind c d2 d6 B (fun h2 a2 n2 S2 => ?_)
  have c2 : Lay L h2 := a2.lay c (fun id j q => by unfold nkD at q; omega)
  have cg : ∀ {id j : Nat}, ¬ nkD id j → hI h2 id j = hI h id j := fun {id j} q => a2.i q
  have a2' : Cg ndD h h2 := a2.mono (fun id j q => by unfold nkD at q; unfold ndD; omega)
  have f28 : hI h2 347 28 = nI (bNs P.1) := by rw [cg (by unfold nkD; omega)]; exact d1
  have f364 : hI h2 364 (bNs P.1) = nI P.2.1 := by rw [cg (by unfold nkD; omega)]; exact d5
  have st : ∀ (y v : Int32), (y = 0 ∨ y = 1) → Q (sI (sI (sI h2 347 32 y) 365 (10 * bNs P.1 + P.2.1) v) 364 (bNs P.1) (nI (P.2.1 + 1))) → AW w mX10_addWord 0 0 (rV Q) 0 0 44 [some (.ref 347), some (.int v)] [.int y, .ref 347] h2 := fun y v hy q => by
    refine sX10_addWord_44 ?_
    have q2 : ¬ (10 : Int) ≤ (P.2.1 : Int) := by omega
    have e1 : hI (sI h2 347 32 y) 347 28 = nI (bNs P.1) := by rw [hI_ne (Or.inr (by decide))]; exact f28
    have e2 : hI (sI h2 347 32 y) 364 (bNs P.1) = nI P.2.1 := by rw [hI_ne (Or.inl (by decide))]; exact f364
    simp only [s_347 c2, r_347_23 c2, r_347_24 c2, s_364 c2, s_365 c2, forall_eq]
    rw [e1, cl_nI (by omega), e2, m_10, nI_add, cl_nI (by omega)]
    simp (disch := omega) only [hI_ne, hI_eq, f28, f364, cl_nI, nI_1]
    exact ⟨trivial, hy, trivial, by decide, by decide, trivial, vp_nI (by omega) (by decide), trivial, vp_nI (by omega) (by decide), vp_nI (by omega) (by decide), q⟩
  cases r : (fEnter 40 (bNk P.1) (bKz P.1) (bKl P.1) W).1 with
  | none =>
    refine ⟨fun z => absurd z (by decide), fun _ => st 1 _ (Or.inr rfl) (K1 (pWord_n (by omega) r) _ (((a2'.sI (by unfold ndD; omega)).sI (by unfold ndD; omega)).sI (by unfold ndD; omega)) ?_ ⟨bNs P.1, P.2.1 + 1, o1, by omega, ?_, hI_eq, fun _ => by omega⟩)⟩
    · simp (disch := omega) only [hI_ne, hI_eq]
    · simp (disch := omega) only [hI_ne]; exact f28
  | some k =>
    have k40 := fEnter_lt o2 r
    have e := pWord_s (by omega) r
    refine ⟨fun _ => st 0 _ (Or.inl rfl) (K2 _ e _ (((a2'.sI (by unfold ndD; omega)).sI (by unfold ndD; omega)).sI (by unfold ndD; omega)) ?_ ⟨okQ.word o B.1 h1 e, ⟨?_, ?_, ?_, ?_, hI_eq⟩, ?_, fun s hs => ⟨?_, ?_⟩, fun s i hs hi => ?_, fun i hi => ?_⟩), fun z => ?_⟩
    · simp (disch := omega) only [hI_ne, hI_eq]
    · simp (disch := omega) only [hI_ne]; exact f28
    · simp (disch := omega) only [hI_ne]; exact n2
    · simp (disch := omega) only [hI_ne]; rw [cg (by unfold nkD; omega)]; exact d3
    · simp (disch := omega) only [hI_ne]; rw [cg (by unfold nkD; omega)]; exact d4
    · exact S2.cg ((((Cg.rfl' h2).sI (D := fun id j => id = 347 ∨ id = 364 ∨ id = 365) (by omega)).sI (by omega)).sI (by omega)) (fun id j q => by omega)
    · have hs : s < bNs P.1 := hs
      simp (disch := omega) only [hI_ne]; rw [cg (by unfold nkD; omega)]; exact (d7 s hs).1
    · have hs : s < bNs P.1 := hs
      simp (disch := omega) only [hI_ne]; rw [cg (by unfold nkD; omega)]; exact (d7 s hs).2
    · have hs : s < bNs P.1 := hs
      have hi : i < bWc P.1 s := hi
      have w10 := (o.2.2.1 s hs).2.1
      show _ = nI (if s = bNs P.1 ∧ i = P.2.1 then k else bWd P.1 s i)
      rw [if_neg (by omega)]
      simp (disch := omega) only [hI_ne]; rw [cg (by unfold nkD; omega)]; exact d8 s i hs hi
    · have hi : i < P.2.1 + 1 := hi
      show hI _ 365 (10 * bNs P.1 + i) = nI (if bNs P.1 = bNs P.1 ∧ i = P.2.1 then k else bWd P.1 (bNs P.1) i)
      by_cases y : i = P.2.1
      · rw [if_pos ⟨rfl, y⟩, y]
        simp (disch := omega) only [hI_ne, hI_eq]
        rfl
      · rw [if_neg (by omega)]
        simp (disch := omega) only [hI_ne]; rw [cg (by unfold nkD; omega)]; exact d9 i (by omega)
    · have z : ¬ (0 : Int32).toInt ≤ (nI k).toInt := z
      rw [nI_toInt (by omega), t_0] at z
      omega
theorem sp_endSentenceW {Q : Hp → Prop} (c : Lay L h) (V : weakM h) (K : ∀ h', Cg ndD h h' → hI h' 347 32 = hI h 347 32 → Q h') : AC w mX10_endSentence 0 0 (rV Q) [.ref 347] h := by
  obtain ⟨ns, v, v1, v2, v3, v4, v5⟩ := V
  refine eX10_endSentence (sX10_endSentence_0 ?_)
  simp (disch := omega) only [s_347 c, r_347_23 c, s_364 c, v3, v4, r_347_25 c, s_366 c, forall_eq, hs_sI, hs_sL, hR_sI, hR_sL, hI_eq, hI_ne, hI_sL, hL_sI, ti_lt, ti_le, ti_eq, nI_toInt, cl_nI, nI_1, nI_add, t_0, t_1, t_2, t_3, t_4, t_5, t_6, t_7, t_8, t_9, t_10, t_12, t_15, t_16, t_20, t_21, t_24, t_26, t_30, t_31, t_32, t_33, t_39, t_40, t_41, t_45, t_46, t_47, t_48, t_57, t_60, t_63, t_65, t_90, t_97, t_100, t_122, t_200, t_230, t_240, t_255, t_400, t_440, t_441, t_450, t_480, t_1580, t_1600, t_10000, t_131071, t_131072, t_1048576, t_1000000000, tm_1, tm_100001, tm_100002, tm_100003, tm_100004]
  refine ⟨trivial, by decide, trivial, vp_nI (by omega) (by decide), fun _ => K h (Cg.rfl' h) rfl, fun z => ⟨by decide, trivial, vp_nI (by omega) (by decide), vp_nI (by omega) (by decide), K _ (((((Cg.rfl' h).sI (by unfold ndD; omega)).sI (by unfold ndD; omega)).sI (by unfold ndD; omega)).sI (by unfold ndD; omega)) ?_⟩⟩
  simp (disch := omega) only [hI_ne]
theorem sp_endParagraphW {Q : Hp → Prop} (c : Lay L h) (V : weakM h) (K : ∀ h', Cg ndD h h' → hI h' 347 32 = hI h 347 32 → Q h') : AC w mX10_endParagraph 0 0 (rV Q) [.ref 347] h := by
  refine eX10_endParagraph (sX10_endParagraph_0 ⟨by rw [s_347 c], sp_endSentenceW c V (fun h1 a1 e1 => ?_)⟩)
  have c1 : Lay L h1 := a1.lay c (fun id j q => by unfold ndD at q; omega)
  simp only [s_347 c1, forall_eq]
  refine ⟨trivial, fun _ => K _ ((a1.sI (by unfold ndD; omega)).sI (by unfold ndD; omega)) ?_, fun _ => K _ ((a1.sI (by unfold ndD; omega)).sI (by unfold ndD; omega)) ?_⟩ <;> (simp (disch := omega) only [hI_ne]; exact e1)
theorem sp_endSentenceM {Q : Hp → Prop} (c : Lay L h) (D : bookPM h P) (K : ∀ h', Cg ndD h h' → hI h' 347 32 = hI h 347 32 → bookPM h' (pEndS P) → Q h') : AC w mX10_endSentence 0 0 (rV Q) [.ref 347] h := by
  have D0 := D
  obtain ⟨o, ⟨d1, d2, d3, d4, d5⟩, d6, d7, d8, d9⟩ := D
  obtain ⟨⟨o1, o2, o3, o4⟩, ⟨o5, o6⟩, -⟩ := id o
  refine eX10_endSentence (sX10_endSentence_0 ?_)
  by_cases q : P.2.1 = 0
  · have e : pEndS P = P := by unfold pEndS; rw [if_pos q]
    rw [e] at K
    simp (disch := omega) only [s_347 c, r_347_23 c, s_364 c, d1, d5, forall_eq, hs_sI, hs_sL, hR_sI, hR_sL, hI_eq, hI_ne, hI_sL, hL_sI, ti_lt, ti_le, ti_eq, nI_toInt, cl_nI, nI_1, nI_add, t_0, t_1, t_2, t_3, t_4, t_5, t_6, t_7, t_8, t_9, t_10, t_12, t_15, t_16, t_20, t_21, t_24, t_26, t_30, t_31, t_32, t_33, t_39, t_40, t_41, t_45, t_46, t_47, t_48, t_57, t_60, t_63, t_65, t_90, t_97, t_100, t_122, t_200, t_230, t_240, t_255, t_400, t_440, t_441, t_450, t_480, t_1580, t_1600, t_10000, t_131071, t_131072, t_1048576, t_1000000000, tm_1, tm_100001, tm_100002, tm_100003, tm_100004]
    exact ⟨trivial, by decide, trivial, vp_nI (by omega) (by decide), fun _ => K h (Cg.rfl' h) rfl D0, fun z => by omega⟩
  · have e : pEndS P = (mkB (bNs P.1 + 1) (bNp P.1) (bNk P.1) (zAdd (bWc P.1) (bNs P.1) P.2.1) (bWd P.1) (zAdd (bPg P.1) (bNs P.1) (bNp P.1)) (bKz P.1) (bKl P.1), 0, P.2.2) := by unfold pEndS; rw [if_neg q]
    have ok := o.endS
    rw [e] at K ok
    have h20 := o4 (by omega)
    have KK := K (sI (sI (sI (sI h 366 (bNs P.1) (nI (bNp P.1))) 347 28 (nI (bNs P.1 + 1))) 364 (bNs P.1 + 1) 0) 347 31 1) (((((Cg.rfl' h).sI (by unfold ndD; omega)).sI (by unfold ndD; omega)).sI (by unfold ndD; omega)).sI (by unfold ndD; omega)) (by simp (disch := omega) only [hI_ne]) ⟨ok, ⟨?_, ?_, ?_, ?_, ?_⟩, ?_, fun s hs => ?_, fun s i hs hi => ?_, fun i hi => absurd hi (Nat.not_lt_zero i)⟩
    · simp (disch := omega) only [s_347 c, r_347_23 c, s_364 c, d1, d3, d5, r_347_25 c, s_366 c, forall_eq, hs_sI, hs_sL, hR_sI, hR_sL, hI_eq, hI_ne, hI_sL, hL_sI, ti_lt, ti_le, ti_eq, nI_toInt, cl_nI, nI_1, nI_add, t_0, t_1, t_2, t_3, t_4, t_5, t_6, t_7, t_8, t_9, t_10, t_12, t_15, t_16, t_20, t_21, t_24, t_26, t_30, t_31, t_32, t_33, t_39, t_40, t_41, t_45, t_46, t_47, t_48, t_57, t_60, t_63, t_65, t_90, t_97, t_100, t_122, t_200, t_230, t_240, t_255, t_400, t_440, t_441, t_450, t_480, t_1580, t_1600, t_10000, t_131071, t_131072, t_1048576, t_1000000000, tm_1, tm_100001, tm_100002, tm_100003, tm_100004]
      exact ⟨trivial, by decide, trivial, vp_nI (by omega) (by decide), fun z => by omega, fun _ => ⟨by decide, trivial, vp_nI (by omega) (by decide), vp_nI (by omega) (by decide), KK⟩⟩
    · simp (disch := omega) only [hI_ne, hI_eq]; rfl
    · simp (disch := omega) only [hI_ne]; exact d2
    · simp (disch := omega) only [hI_ne]; exact d3
    · rw [hI_eq]
      exact (b1 (decide_eq_true (show P.2.2 < bNs P.1 + 1 by omega))).symm
    · show hI _ 364 (bNs P.1 + 1) = nI 0
      simp (disch := omega) only [hI_ne, hI_eq]; rfl
    · exact d6.cg (((((Cg.rfl' h).sI (D := fun id j => id = 347 ∨ id = 364 ∨ id = 366) (by omega)).sI (by omega)).sI (by omega)).sI (by omega)) (fun id j q => by omega)
    · have hs : s < bNs P.1 + 1 := hs
      show _ = nI (zAdd (bWc P.1) (bNs P.1) P.2.1 s) ∧ _ = nI (zAdd (bPg P.1) (bNs P.1) (bNp P.1) s)
      unfold zAdd
      by_cases y : s = bNs P.1
      · subst y
        rw [if_pos rfl, if_pos rfl]
        exact ⟨by simp (disch := omega) only [hI_ne]; exact d5, by simp (disch := omega) only [hI_ne, hI_eq]⟩
      · simp (disch := omega) only [hI_ne, if_neg y]
        exact d7 s (by omega)
    · have hs : s < bNs P.1 + 1 := hs
      have hi : i < zAdd (bWc P.1) (bNs P.1) P.2.1 s := hi
      show _ = nI (bWd P.1 s i)
      simp (disch := omega) only [hI_ne]
      unfold zAdd at hi
      by_cases y : s = bNs P.1
      · subst y
        rw [if_pos rfl] at hi
        exact d9 i hi
      · rw [if_neg y] at hi
        exact d8 s i (by omega) hi
theorem sp_endParagraphM {Q : Hp → Prop} (c : Lay L h) (D : bookPM h P) (K : ∀ h', Cg ndD h h' → hI h' 347 32 = hI h 347 32 → bookPM h' (pEndP P) → Q h') : AC w mX10_endParagraph 0 0 (rV Q) [.ref 347] h := by
  refine eX10_endParagraph (sX10_endParagraph_0 ⟨by rw [s_347 c], sp_endSentenceM c D (fun h1 a1 f1 D1 => ?_)⟩)
  have c1 : Lay L h1 := a1.lay c (fun id j q => by unfold ndD at q; omega)
  have K : ∀ h', Cg ndD h1 h' → hI h' 347 32 = hI h1 347 32 → bookPM h' (pEnd1 (pEndS P)) → Q h' := fun h' a q => K h' (a1.trans a) (q.trans f1)
  have s0 := endS_0 P
  revert K D1 s0
  generalize pEndS P = P1
  intro D1 K s0
  obtain ⟨o, ⟨d1, d2, d3, d4, d5⟩, d6, d7, d8, d9⟩ := D1
  obtain ⟨⟨o1, o2, o3, o4⟩, ⟨o5, o6⟩, -⟩ := id o
  simp only [s_347 c1, forall_eq, d4, d3, b01_ne, b01_eq]
  have fin : ∀ n : Nat, ∀ P2 : Ps, pEnd1 P1 = P2 → (okQ P2 ∧ bNs P2.1 = bNs P1.1 ∧ bNk P2.1 = bNk P1.1 ∧ bNp P2.1 = n ∧ P2.2.2 = bNs P1.1 ∧ P2.2.1 = P1.2.1 ∧ bWc P2.1 = bWc P1.1 ∧ bWd P2.1 = bWd P1.1 ∧ bPg P2.1 = bPg P1.1 ∧ bKz P2.1 = bKz P1.1 ∧ bKl P2.1 = bKl P1.1) → Q (sI (sI h1 347 30 (nI n)) 347 31 0) := by
    intro n P2 e ⟨g0, g1, g2, g3, g4, g5, g6, g7, g8, g9, g10⟩
    rw [e] at K
    refine K _ (((Cg.rfl' h1).sI (by unfold ndD; omega)).sI (by unfold ndD; omega)) (by simp (disch := omega) only [hI_ne]) ⟨g0, ?_, ?_, ?_⟩
    · rw [g1, g2, g3, g4, g5]
      refine ⟨by simp (disch := omega) only [hI_ne]; exact d1, by simp (disch := omega) only [hI_ne]; exact d2, by simp (disch := omega) only [hI_ne, hI_eq], ?_, by simp (disch := omega) only [hI_ne]; exact d5⟩
      rw [hI_eq, decide_eq_false (by omega)]; rfl
    · rw [g2, g9, g10]
      exact d6.cg (((Cg.rfl' h1).sI (D := fun id j => id = 347) rfl).sI rfl) (fun id j q => by omega)
    · rw [g1, g5, g6, g7, g8]
      exact ⟨fun s hs => by simp (disch := omega) only [hI_ne]; exact d7 s hs, fun s i hs hi => by simp (disch := omega) only [hI_ne]; exact d8 s i hs hi, fun i hi => by simp (disch := omega) only [hI_ne]; exact d9 i hi⟩
  refine ⟨trivial, fun q => ?_, fun q => ?_⟩
  · have q := of_decide_eq_false q
    have e : pEnd1 P1 = P1 := by unfold pEnd1; rw [if_neg q]
    have : nI (bNp P1.1) + 0 = nI (bNp P1.1) := Int32.add_zero _
    rw [this]
    exact fin _ P1 e ⟨o, rfl, rfl, rfl, by omega, rfl, rfl, rfl, rfl, rfl, rfl⟩
  · have q : P1.2.2 < bNs P1.1 := by simpa using q
    have e : pEnd1 P1 = (mkB (bNs P1.1) (bNp P1.1 + 1) (bNk P1.1) (bWc P1.1) (bWd P1.1) (bPg P1.1) (bKz P1.1) (bKl P1.1), P1.2.1, bNs P1.1) := by unfold pEnd1; rw [if_pos q]
    have ok := o.end1
    rw [e] at ok
    rw [nI_1]
    exact fin _ _ e ⟨ok, rfl, rfl, rfl, rfl, rfl, rfl, rfl, rfl, rfl, rfl⟩
end NM
