/-! ===== take: the reference's copying ===== -/
def tmD (b : Nat) (id q : Nat) : Prop := ((id = 351 ∨ id = 355 ∨ id = 356) ∧ q = b) ∨ ((id = 352 ∨ id = 354) ∧ 20 * b ≤ q ∧ q < 20 * b + 20) ∨ (id = 353 ∧ 200 * b ≤ q ∧ q < 200 * b + 200) ∨ (id = 357 ∧ 40 * b ≤ q ∧ q < 40 * b + 40) ∨ (id = 358 ∧ 400 * b ≤ q ∧ q < 400 * b + 400)
def tkM (id j : Nat) : Prop := (id = 347 ∧ (j = 1 ∨ j = 15 ∨ j = 21 ∨ j = 22 ∨ (28 ≤ j ∧ j ≤ 32))) ∨ (351 ≤ id ∧ id ≤ 368)
theorem bookM.cg {D : Nat → Nat → Prop} {h h' : Hp} {b : Nat} {B : Bk} (T : bookM h b B) (a : Cg D h h') (hd : ∀ id j, D id j → ¬ tmD b id j) : bookM h' b B := by
  obtain ⟨o, d1, d2, d3, d4, d5⟩ := T
  have o1 := o.1
  have o2 := o.2.1
  have nd : ∀ {id j : Nat}, tmD b id j → hI h' id j = hI h id j := fun {id j} h1 => a.i (fun q => hd _ _ q h1)
  refine ⟨o, by rw [nd (by unfold tmD; omega)]; exact d1, by rw [nd (by unfold tmD; omega)]; exact d2, by rw [nd (by unfold tmD; omega)]; exact d3, fun s hs => ⟨by rw [nd (by unfold tmD; omega)]; exact (d4 s hs).1, by rw [nd (by unfold tmD; omega)]; exact (d4 s hs).2.1, fun i hi => ?_⟩, fun k hk => ⟨by rw [nd (by unfold tmD; omega)]; exact (d5 k hk).1, fun i hi => ?_⟩⟩
  · have := (o.2.2.2.1 s hs).2.1
    rw [nd (by unfold tmD; omega)]; exact (d4 s hs).2.2 i hi
  · have := (o.2.2.2.2 k hk).2.1
    rw [nd (by unfold tmD; omega)]; exact (d5 k hk).2 i hi
section TM3
variable {w : Wd} {L : Nat} {h : Hp} {t : Tp} {sf : Sf} {Q : Int32 → Hp → Prop}
/-- one row's copying, as the loops of take do it -/
theorem take_175 {b : Nat} {v : Int32} (hb : b < 2) (c : Lay L h) (K : ∀ h', Cg (fun id q => id = 358 ∧ 400 * b ≤ q ∧ q < 400 * b + 400) h h' → (∀ x, x < 400 → hI h' 358 (400 * b + x) = hI h 368 x) → (hs h' 347).1 = 30 ∧ AC w mX10_loseTies 0 0 (rV fun h2 => (hs h2 347).1 = 30 ∧ Q (hI h2 347 28) h2) [.ref 347] (sI h' 347 1 0)) :
    ∀ (d k : Nat) (h' : Hp), k + d = 400 → Cg (fun id q => id = 358 ∧ 400 * b ≤ q ∧ q < 400 * b + 400) h h' → (∀ x, x < k → hI h' 358 (400 * b + x) = hI h 368 x) → AW w mX10_take 0 0 (rI Q) 0 0 175 [some (.ref 347), some (.int (nI b)), some (.int (nI k))] [] h' := by
  intro d
  induction d with
  | zero =>
    intro k h' hk g e
    refine sX10_take_175 ?_
    have := K h' g (fun x hx => e x (by omega))
    simp (disch := omega) only [forall_eq, hs_sI, hs_sL, hR_sI, hR_sL, hI_eq, hI_ne, hI_sL, hL_sI, ti_lt, ti_le, ti_eq, nI_toInt, cl_nI, nI_1, nI_add, t_0, t_1, t_2, t_3, t_4, t_5, t_6, t_7, t_8, t_9, t_10, t_12, t_15, t_16, t_20, t_21, t_24, t_26, t_30, t_31, t_32, t_33, t_39, t_40, t_41, t_45, t_46, t_47, t_48, t_57, t_60, t_63, t_65, t_90, t_97, t_100, t_122, t_200, t_230, t_240, t_255, t_400, t_440, t_441, t_450, t_480, t_1580, t_1600, t_10000, t_131071, t_131072, t_1048576, t_1000000000, tm_1, tm_100001, tm_100002, tm_100003, tm_100004]
    exact ⟨fun _ => this, fun z => by omega⟩
  | succ d ih =>
    intro k h' hk g e
    have c' : Lay L h' := g.lay c (fun id j q => by omega)
    refine sX10_take_175 ?_
    have nx := ih (k + 1) (sI h' 358 (400 * b + k) (hI h' 368 k)) (by omega) (g.sI (by omega)) (fun x hx => by
      by_cases q : x = k
      · subst q; rw [hI_eq]; exact g.i (by omega)
      · rw [hI_ne (Or.inr (by omega))]; exact e x (by omega))
    simp (disch := omega) only [s_347 c', r_347_12 c', r_347_27 c', s_368 c', s_358 c', m_400, forall_eq, hs_sI, hs_sL, hR_sI, hR_sL, hI_eq, hI_ne, hI_sL, hL_sI, ti_lt, ti_le, ti_eq, nI_toInt, cl_nI, nI_1, nI_add, t_0, t_1, t_2, t_3, t_4, t_5, t_6, t_7, t_8, t_9, t_10, t_12, t_15, t_16, t_20, t_21, t_24, t_26, t_30, t_31, t_32, t_33, t_39, t_40, t_41, t_45, t_46, t_47, t_48, t_57, t_60, t_63, t_65, t_90, t_97, t_100, t_122, t_200, t_230, t_240, t_255, t_400, t_440, t_441, t_450, t_480, t_1580, t_1600, t_10000, t_131071, t_131072, t_1048576, t_1000000000, tm_1, tm_100001, tm_100002, tm_100003, tm_100004]
    exact ⟨fun z => by omega, fun _ => ⟨trivial, by decide, by decide, trivial, vp_nI (by omega) (by decide), trivial, vp_nI (by omega) (by decide), nx⟩⟩
theorem take_142 {b nk : Nat} (hb : b < 2) (hnk : nk ≤ 40) (c : Lay L h) (e29 : hI h 347 29 = nI nk) (K : ∀ h', Cg (fun id q => id = 357 ∧ 40 * b ≤ q ∧ q < 40 * b + 40) h h' → (∀ x, x < nk → hI h' 357 (40 * b + x) = hI h 367 x) → AW w mX10_take 0 0 (rI Q) 0 0 175 [some (.ref 347), some (.int (nI b)), some (.int 0)] [] h') :
    ∀ (d k : Nat) (h' : Hp), k + d = nk → Cg (fun id q => id = 357 ∧ 40 * b ≤ q ∧ q < 40 * b + 40) h h' → (∀ x, x < k → hI h' 357 (40 * b + x) = hI h 367 x) → AW w mX10_take 0 0 (rI Q) 0 0 142 [some (.ref 347), some (.int (nI b)), some (.int (nI k))] [] h' := by
  intro d
  induction d with
  | zero =>
    intro k h' hk g e
    have c' : Lay L h' := g.lay c (fun id j q => by omega)
    have e29' : hI h' 347 29 = nI nk := by rw [g.i (by omega)]; exact e29
    refine sX10_take_142 ?_
    have := K h' g (fun x hx => e x (by omega))
    simp (disch := omega) only [s_347 c', e29', forall_eq, hs_sI, hs_sL, hR_sI, hR_sL, hI_eq, hI_ne, hI_sL, hL_sI, ti_lt, ti_le, ti_eq, nI_toInt, cl_nI, nI_1, nI_add, t_0, t_1, t_2, t_3, t_4, t_5, t_6, t_7, t_8, t_9, t_10, t_12, t_15, t_16, t_20, t_21, t_24, t_26, t_30, t_31, t_32, t_33, t_39, t_40, t_41, t_45, t_46, t_47, t_48, t_57, t_60, t_63, t_65, t_90, t_97, t_100, t_122, t_200, t_230, t_240, t_255, t_400, t_440, t_441, t_450, t_480, t_1580, t_1600, t_10000, t_131071, t_131072, t_1048576, t_1000000000, tm_1, tm_100001, tm_100002, tm_100003, tm_100004]
    exact ⟨trivial, fun _ => this, fun z => by omega⟩
  | succ d ih =>
    intro k h' hk g e
    have c' : Lay L h' := g.lay c (fun id j q => by omega)
    have e29' : hI h' 347 29 = nI nk := by rw [g.i (by omega)]; exact e29
    refine sX10_take_142 ?_
    have nx := ih (k + 1) (sI h' 357 (40 * b + k) (hI h' 367 k)) (by omega) (g.sI (by omega)) (fun x hx => by
      by_cases q : x = k
      · subst q; rw [hI_eq]; exact g.i (by omega)
      · rw [hI_ne (Or.inr (by omega))]; exact e x (by omega))
    simp (disch := omega) only [s_347 c', r_347_11 c', r_347_26 c', s_367 c', s_357 c', m_40, e29', forall_eq, hs_sI, hs_sL, hR_sI, hR_sL, hI_eq, hI_ne, hI_sL, hL_sI, ti_lt, ti_le, ti_eq, nI_toInt, cl_nI, nI_1, nI_add, t_0, t_1, t_2, t_3, t_4, t_5, t_6, t_7, t_8, t_9, t_10, t_12, t_15, t_16, t_20, t_21, t_24, t_26, t_30, t_31, t_32, t_33, t_39, t_40, t_41, t_45, t_46, t_47, t_48, t_57, t_60, t_63, t_65, t_90, t_97, t_100, t_122, t_200, t_230, t_240, t_255, t_400, t_440, t_441, t_450, t_480, t_1580, t_1600, t_10000, t_131071, t_131072, t_1048576, t_1000000000, tm_1, tm_100001, tm_100002, tm_100003, tm_100004]
    exact ⟨trivial, fun z => by omega, fun _ => ⟨by decide, by decide, trivial, vp_nI (by omega) (by decide), trivial, vp_nI (by omega) (by decide), nx⟩⟩
theorem take_109 {b : Nat} (hb : b < 2) (c : Lay L h) (K : ∀ h', Cg (fun id q => id = 353 ∧ 200 * b ≤ q ∧ q < 200 * b + 200) h h' → (∀ x, x < 200 → hI h' 353 (200 * b + x) = hI h 365 x) → AW w mX10_take 0 0 (rI Q) 0 0 142 [some (.ref 347), some (.int (nI b)), some (.int 0)] [] h') :
    ∀ (d k : Nat) (h' : Hp), k + d = 200 → Cg (fun id q => id = 353 ∧ 200 * b ≤ q ∧ q < 200 * b + 200) h h' → (∀ x, x < k → hI h' 353 (200 * b + x) = hI h 365 x) → AW w mX10_take 0 0 (rI Q) 0 0 109 [some (.ref 347), some (.int (nI b)), some (.int (nI k))] [] h' := by
  intro d
  induction d with
  | zero =>
    intro k h' hk g e
    refine sX10_take_109 ?_
    have := K h' g (fun x hx => e x (by omega))
    simp (disch := omega) only [forall_eq, hs_sI, hs_sL, hR_sI, hR_sL, hI_eq, hI_ne, hI_sL, hL_sI, ti_lt, ti_le, ti_eq, nI_toInt, cl_nI, nI_1, nI_add, t_0, t_1, t_2, t_3, t_4, t_5, t_6, t_7, t_8, t_9, t_10, t_12, t_15, t_16, t_20, t_21, t_24, t_26, t_30, t_31, t_32, t_33, t_39, t_40, t_41, t_45, t_46, t_47, t_48, t_57, t_60, t_63, t_65, t_90, t_97, t_100, t_122, t_200, t_230, t_240, t_255, t_400, t_440, t_441, t_450, t_480, t_1580, t_1600, t_10000, t_131071, t_131072, t_1048576, t_1000000000, tm_1, tm_100001, tm_100002, tm_100003, tm_100004]
    exact ⟨fun _ => this, fun z => by omega⟩
  | succ d ih =>
    intro k h' hk g e
    have c' : Lay L h' := g.lay c (fun id j q => by omega)
    refine sX10_take_109 ?_
    have nx := ih (k + 1) (sI h' 353 (200 * b + k) (hI h' 365 k)) (by omega) (g.sI (by omega)) (fun x hx => by
      by_cases q : x = k
      · subst q; rw [hI_eq]; exact g.i (by omega)
      · rw [hI_ne (Or.inr (by omega))]; exact e x (by omega))
    simp (disch := omega) only [s_347 c', r_347_7 c', r_347_24 c', s_365 c', s_353 c', m_200, forall_eq, hs_sI, hs_sL, hR_sI, hR_sL, hI_eq, hI_ne, hI_sL, hL_sI, ti_lt, ti_le, ti_eq, nI_toInt, cl_nI, nI_1, nI_add, t_0, t_1, t_2, t_3, t_4, t_5, t_6, t_7, t_8, t_9, t_10, t_12, t_15, t_16, t_20, t_21, t_24, t_26, t_30, t_31, t_32, t_33, t_39, t_40, t_41, t_45, t_46, t_47, t_48, t_57, t_60, t_63, t_65, t_90, t_97, t_100, t_122, t_200, t_230, t_240, t_255, t_400, t_440, t_441, t_450, t_480, t_1580, t_1600, t_10000, t_131071, t_131072, t_1048576, t_1000000000, tm_1, tm_100001, tm_100002, tm_100003, tm_100004]
    exact ⟨fun z => by omega, fun _ => ⟨trivial, by decide, by decide, trivial, vp_nI (by omega) (by decide), trivial, vp_nI (by omega) (by decide), nx⟩⟩
theorem take_59 {b ns : Nat} (hb : b < 2) (hns : ns ≤ 20) (c : Lay L h) (e28 : hI h 347 28 = nI ns) (K : ∀ h', Cg (fun id q => (id = 352 ∨ id = 354) ∧ 20 * b ≤ q ∧ q < 20 * b + 20) h h' → (∀ x, x < ns → hI h' 352 (20 * b + x) = hI h 364 x ∧ hI h' 354 (20 * b + x) = hI h 366 x) → AW w mX10_take 0 0 (rI Q) 0 0 109 [some (.ref 347), some (.int (nI b)), some (.int 0)] [] h') :
    ∀ (d k : Nat) (h' : Hp), k + d = ns → Cg (fun id q => (id = 352 ∨ id = 354) ∧ 20 * b ≤ q ∧ q < 20 * b + 20) h h' → (∀ x, x < k → hI h' 352 (20 * b + x) = hI h 364 x ∧ hI h' 354 (20 * b + x) = hI h 366 x) → AW w mX10_take 0 0 (rI Q) 0 0 59 [some (.ref 347), some (.int (nI b)), some (.int (nI k))] [] h' := by
  intro d
  induction d with
  | zero =>
    intro k h' hk g e
    have c' : Lay L h' := g.lay c (fun id j q => by omega)
    have e28' : hI h' 347 28 = nI ns := by rw [g.i (by omega)]; exact e28
    refine sX10_take_59 ?_
    have := K h' g (fun x hx => e x (by omega))
    simp (disch := omega) only [s_347 c', e28', forall_eq, hs_sI, hs_sL, hR_sI, hR_sL, hI_eq, hI_ne, hI_sL, hL_sI, ti_lt, ti_le, ti_eq, nI_toInt, cl_nI, nI_1, nI_add, t_0, t_1, t_2, t_3, t_4, t_5, t_6, t_7, t_8, t_9, t_10, t_12, t_15, t_16, t_20, t_21, t_24, t_26, t_30, t_31, t_32, t_33, t_39, t_40, t_41, t_45, t_46, t_47, t_48, t_57, t_60, t_63, t_65, t_90, t_97, t_100, t_122, t_200, t_230, t_240, t_255, t_400, t_440, t_441, t_450, t_480, t_1580, t_1600, t_10000, t_131071, t_131072, t_1048576, t_1000000000, tm_1, tm_100001, tm_100002, tm_100003, tm_100004]
    exact ⟨trivial, fun _ => this, fun z => by omega⟩
  | succ d ih =>
    intro k h' hk g e
    have c' : Lay L h' := g.lay c (fun id j q => by omega)
    have e28' : hI h' 347 28 = nI ns := by rw [g.i (by omega)]; exact e28
    refine sX10_take_59 ?_
    have nx := ih (k + 1) (sI (sI h' 352 (20 * b + k) (hI h' 364 k)) 354 (20 * b + k) (hI h' 366 k)) (by omega) ((g.sI (by omega)).sI (by omega)) (fun x hx => by
      by_cases q : x = k
      · subst q
        rw [hI_ne (Or.inl (by decide)), hI_eq, hI_eq]; exact ⟨g.i (by omega), g.i (by omega)⟩
      · rw [hI_ne (Or.inl (by decide)), hI_ne (Or.inr (by omega)), hI_ne (Or.inr (by omega)), hI_ne (Or.inl (by decide))]; exact e x (by omega))
    simp (disch := omega) only [s_347 c', r_347_6 c', r_347_8 c', r_347_23 c', r_347_25 c', s_364 c', s_366 c', s_352 c', s_354 c', m_20, e28', forall_eq, hs_sI, hs_sL, hR_sI, hR_sL, hI_eq, hI_ne, hI_sL, hL_sI, ti_lt, ti_le, ti_eq, nI_toInt, cl_nI, nI_1, nI_add, t_0, t_1, t_2, t_3, t_4, t_5, t_6, t_7, t_8, t_9, t_10, t_12, t_15, t_16, t_20, t_21, t_24, t_26, t_30, t_31, t_32, t_33, t_39, t_40, t_41, t_45, t_46, t_47, t_48, t_57, t_60, t_63, t_65, t_90, t_97, t_100, t_122, t_200, t_230, t_240, t_255, t_400, t_440, t_441, t_450, t_480, t_1580, t_1600, t_10000, t_131071, t_131072, t_1048576, t_1000000000, tm_1, tm_100001, tm_100002, tm_100003, tm_100004]
    exact ⟨trivial, fun z => by omega, fun _ => ⟨by decide, by decide, trivial, vp_nI (by omega) (by decide), trivial, vp_nI (by omega) (by decide), by decide, by decide, trivial, vp_nI (by omega) (by decide), trivial, vp_nI (by omega) (by decide), nx⟩⟩
theorem sp_takeM {bk : Nat → Bk} {x : Int32} (c : Lay L h) (B : booksM h bk) (T : tapeM h t) (S : shortM h sf) (K0 : inR x 2 = false → Q (-100001) h) (K1 : inR x 2 = true → scan t sf t.1 w0 p0 = none → ∀ h', Cg ckD h h' → Q (-100004) h')
    (K2 : ∀ j, j < 2 → x = nI j → ∀ P, scan t sf t.1 w0 p0 = some P → ∀ h', Cg tkM h h' → booksM h' (setBk bk j P.1) → tapeM h' (0, t.2) → pairM h' pr0 → shareM h' (bNk (setBk bk j P.1 0)) (bNk (setBk bk j P.1 1)) (sh0 (bNk (setBk bk j P.1 1))) tm0 → Q (nI (bNs P.1)) h') : AC w mX10_take 0 0 (rI Q) [.ref 347, .int x] h := by
  refine eX10_take (sX10_take_0 (sp_in32 (n := 2) (by decide) (by decide) ⟨fun q => ?_, fun q => K0 (b01_eq.mp q)⟩))
  rw [b01_ne] at q
  refine ⟨by rw [s_347 c], sp_cutBook c T S (fun e h1 a1 e32 => ?_) (fun P e h1 a1 e32 D1 => ?_)⟩
  · have c1 : Lay L h1 := a1.lay c (fun id j q => by unfold ckD at q; omega)
    rw [s_347 c1, e32]
    exact ⟨rfl, fun z => absurd z (by decide), fun _ => K1 q e h1 a1⟩
  · obtain ⟨b, hb, rfl⟩ := inR_nI q (by decide)
    have c1 : Lay L h1 := a1.lay c (fun id j q => by unfold ckD at q; omega)
    obtain ⟨ok, f1, f2⟩ := scan_ok (t := t) (sf := sf) t.1 w0 p0 P okQ.p0 ⟨Nat.zero_le _, fun i hi => absurd hi (Nat.not_lt_zero i)⟩ (Nat.le_refl _) e
    have T1 : tapeM h1 t := T.cg a1 (fun id j q => by unfold ckD at q; omega)
    have B1 : booksM h1 bk := ⟨B.1.cg a1 (fun id j q z => by unfold ckD at q; unfold tmD at z; omega), B.2.cg a1 (fun id j q z => by unfold ckD at q; unfold tmD at z; omega)⟩
    obtain ⟨o, ⟨d1, d2, d3, d4, d5⟩, d6, d7, d8, d9⟩ := D1
    have oB := o.ok f2
    have o1 := oB.1
    have o2 := oB.2.1
    have cg0 : Cg (tmD b) h1 (sI (sI (sI h1 351 b (nI (bNs P.1))) 355 b (nI (bNp P.1))) 356 b (nI (bNk P.1))) := (((Cg.rfl' h1).sI (by unfold tmD; omega)).sI (by unfold tmD; omega)).sI (by unfold tmD; omega)
    have go : AW w mX10_take 0 0 (rI Q) 0 0 59 [some (.ref 347), some (.int (nI b)), some (.int (nI 0))] [] (sI (sI (sI h1 351 b (nI (bNs P.1))) 355 b (nI (bNp P.1))) 356 b (nI (bNk P.1))) := by
      have v351 : hI (sI (sI (sI h1 351 b (nI (bNs P.1))) 355 b (nI (bNp P.1))) 356 b (nI (bNk P.1))) 351 b = nI (bNs P.1) := by simp (disch := omega) only [hI_ne, hI_eq]
      have v355 : hI (sI (sI (sI h1 351 b (nI (bNs P.1))) 355 b (nI (bNp P.1))) 356 b (nI (bNk P.1))) 355 b = nI (bNp P.1) := by simp (disch := omega) only [hI_ne, hI_eq]
      have v356 : hI (sI (sI (sI h1 351 b (nI (bNs P.1))) 355 b (nI (bNp P.1))) 356 b (nI (bNk P.1))) 356 b = nI (bNk P.1) := by simp (disch := omega) only [hI_ne, hI_eq]
      revert cg0 v351 v355 v356
      generalize sI (sI (sI h1 351 b (nI (bNs P.1))) 355 b (nI (bNp P.1))) 356 b (nI (bNk P.1)) = h2
      intro cg0 v351 v355 v356
      have c2 : Lay L h2 := cg0.lay c1 (fun id j q => by unfold tmD at q; omega)
      have e28 : hI h2 347 28 = nI (bNs P.1) := by rw [cg0.i (by unfold tmD; omega)]; exact d1
      refine take_59 hb o1 c2 e28 (fun h3 a3 x3 => ?_) (bNs P.1) 0 h2 (by omega) (Cg.rfl' h2) (fun x hx => by omega)
      have c3 : Lay L h3 := a3.lay c2 (fun id j q => by omega)
      refine take_109 hb c3 (fun h4 a4 x4 => ?_) 200 0 h3 (by omega) (Cg.rfl' h3) (fun x hx => by omega)
      have c4 : Lay L h4 := a4.lay c3 (fun id j q => by omega)
      have e29 : hI h4 347 29 = nI (bNk P.1) := by rw [a4.i (by omega), a3.i (by omega), cg0.i (by unfold tmD; omega)]; exact d2
      refine take_142 hb o2 c4 e29 (fun h5 a5 x5 => ?_) (bNk P.1) 0 h4 (by omega) (Cg.rfl' h4) (fun x hx => by omega)
      have c5 : Lay L h5 := a5.lay c4 (fun id j q => by omega)
      refine take_175 hb c5 (v := 0) (fun h6 a6 x6 => ?_) 400 0 h5 (by omega) (Cg.rfl' h5) (fun x hx => by omega)
      have c6 : Lay L h6 := a6.lay c5 (fun id j q => by omega)
      have a16 : Cg (tmD b) h1 h6 := (((cg0.trans (a3.mono (fun id j q => by unfold tmD; omega))).trans (a4.mono (fun id j q => by unfold tmD; omega))).trans (a5.mono (fun id j q => by unfold tmD; omega))).trans (a6.mono (fun id j q => by unfold tmD; omega))
      have nb : bookM h6 b P.1 := by
        refine ⟨oB, ?_, ?_, ?_, fun s hs => ⟨?_, ?_, fun i hi => ?_⟩, fun k hk => ⟨?_, fun i hi => ?_⟩⟩
        · rw [a6.i (by omega), a5.i (by omega), a4.i (by omega), a3.i (by omega)]; exact v351
        · rw [a6.i (by omega), a5.i (by omega), a4.i (by omega), a3.i (by omega)]; exact v355
        · rw [a6.i (by omega), a5.i (by omega), a4.i (by omega), a3.i (by omega)]; exact v356
        · rw [a6.i (by omega), a5.i (by omega), a4.i (by omega), (x3 s hs).1, cg0.i (by unfold tmD; omega)]; exact (d7 s hs).1
        · rw [a6.i (by omega), a5.i (by omega), a4.i (by omega), (x3 s hs).2, cg0.i (by unfold tmD; omega)]; exact (d7 s hs).2
        · have w10 := (oB.2.2.2.1 s hs).2.1
          rw [a6.i (by omega), a5.i (by omega), Nat.add_assoc, x4 _ (by omega), a3.i (by omega), cg0.i (by unfold tmD; omega)]; exact d8 s i hs hi
        · rw [a6.i (by omega), x5 k hk, a4.i (by omega), a3.i (by omega), cg0.i (by unfold tmD; omega)]; exact (d6.2.1 k hk).2
        · have k10 := (oB.2.2.2.2 k hk).2.1
          rw [Nat.add_assoc, x6 _ (by omega), a5.i (by omega), a4.i (by omega), a3.i (by omega), cg0.i (by unfold tmD; omega)]; exact (d6.2.2 k hk i hi).2
      have BB : booksM h6 (setBk bk b P.1) := by
        rcases (show b = 0 ∨ b = 1 by omega) with rfl | rfl
        · exact ⟨nb, B1.2.cg a16 (fun id j q z => by unfold tmD at q z; omega)⟩
        · exact ⟨B1.1.cg a16 (fun id j q z => by unfold tmD at q z; omega), nb⟩
      have c7 : Lay L (sI h6 347 1 0) := c6.sI (by decide)
      have n1 : hI (sI h6 347 1 0) 356 1 = nI (bNk (setBk bk b P.1 1)) := by rw [hI_ne (Or.inl (by decide))]; exact BB.2.2.2.2.1
      have k0 := BB.1.1.2.1
      have k1 := BB.2.1.2.1
      refine ⟨by rw [s_347 c6], sp_loseTies c7 k1 n1 (fun h8 a8 p8 s8 => ?_)⟩
      have c8 : Lay L h8 := a8.lay c7 (fun id j q => by omega)
      have e28' : hI h8 347 28 = nI (bNs P.1) := by rw [a8.i (by omega), hI_ne (Or.inr (by decide)), a16.i (by unfold tmD; omega)]; exact d1
      have cg68 : Cg (fun id j => (id = 347 ∧ (j = 1 ∨ j = 15)) ∨ (359 ≤ id ∧ id ≤ 362)) h6 h8 := ((Cg.rfl' h6).sI (by omega)).trans (a8.mono (fun id j q => by omega))
      rw [s_347 c8, e28']
      refine ⟨rfl, K2 b hb rfl P e h8 ?_ ⟨BB.1.cg cg68 (fun id j q z => by unfold tmD at z; omega), BB.2.cg cg68 (fun id j q z => by unfold tmD at z; omega)⟩ ⟨Nat.zero_le _, ?_, fun i hi => absurd hi (Nat.not_lt_zero i)⟩ p8 (s8 _ k0)⟩
      · exact ((a1.mono (fun id j q => by unfold ckD at q; unfold tkM; omega)).trans (a16.mono (fun id j q => by unfold tmD at q; unfold tkM; omega))).trans (cg68.mono (fun id j q => by unfold tkM; omega))
      · rw [a8.i (by omega), hI_eq]; rfl
    simp (disch := omega) only [s_347 c1, e32, r_347_5 c1, r_347_9 c1, r_347_10 c1, s_351 c1, s_355 c1, s_356 c1, d1, d2, d3, forall_eq, hs_sI, hs_sL, hR_sI, hR_sL, hI_eq, hI_ne, hI_sL, hL_sI, ti_lt, ti_le, ti_eq, nI_toInt, cl_nI, nI_1, nI_add, t_0, t_1, t_2, t_3, t_4, t_5, t_6, t_7, t_8, t_9, t_10, t_12, t_15, t_16, t_20, t_21, t_24, t_26, t_30, t_31, t_32, t_33, t_39, t_40, t_41, t_45, t_46, t_47, t_48, t_57, t_60, t_63, t_65, t_90, t_97, t_100, t_122, t_200, t_230, t_240, t_255, t_400, t_440, t_441, t_450, t_480, t_1580, t_1600, t_10000, t_131071, t_131072, t_1048576, t_1000000000, tm_1, tm_100001, tm_100002, tm_100003, tm_100004]
    exact ⟨trivial, fun _ => ⟨by decide, trivial, vp_nI hb (by decide), by decide, trivial, vp_nI hb (by decide), by decide, trivial, vp_nI hb (by decide), go⟩, fun z => absurd trivial z⟩
end TM3
