/-! ===== take once more: the rooms of the books stay ===== -/
section TK2
variable {w : Wd} {L : Nat} {h : Hp} {b : Nat} {P : Ps} {W : Wr} {t : Tp} {sf : Sf}
theorem sp_addWord2 {Q : Int32 → Hp → Prop} (c : Lay L h) (hb : isBk b) (D : bookPC h b P) (B : bufC h W) (h1 : W.1 ≠ 0) (K1 : pWord W P = none → ∀ h', Cg (bkD b) h h' → hI h' (b + 1) 0 = nI 40 → Q 0 h') (K2 : ∀ P', pWord W P = some P' → ∀ h', Cg (bkD b) h h' → bookPC h' b P' → Q 1 h') : AC w mX0_addWord 0 0 (rI Q) [.ref b, .ref 18, .int (nI W.1)] h := by
  have hp := isBk_pos hb
  obtain ⟨o, ⟨d1, d2, d3⟩, d4, d5, d6, d7, d8⟩ := D
  obtain ⟨⟨o1, o2, o3, o4⟩, ⟨o5, o6⟩, -⟩ := id o
  refine eX0_addWord (sX0_addWord_0 ?_)
  simp (disch := omega) only [sb_this c hb, d1, d3, forall_eq, hs_sI, hs_sL, hR_sI, hR_sL, hI_eq, hI_ne, hI_sL, hL_sI, ti_lt, ti_le, ti_eq, nI_toInt, cl_nI, nI_1, nI_add, t_0, t_1, t_2, t_3, t_4, t_5, t_6, t_7, t_8, t_9, t_10, t_12, t_15, t_16, t_20, t_21, t_24, t_26, t_30, t_31, t_32, t_33, t_39, t_40, t_41, t_45, t_46, t_47, t_48, t_57, t_60, t_63, t_65, t_90, t_97, t_100, t_122, t_200, t_230, t_240, t_255, t_400, t_440, t_441, t_450, t_480, t_1580, t_1600, t_10000, t_131071, t_131072, t_1048576, t_1000000000, tm_1, tm_100001, tm_100002, tm_100003, tm_100004]
  have full : bNs P.1 = 20 ∨ P.2.1 = 10 → Q 0 h := fun q => K1 (by unfold pWord; rw [if_pos q]) h (Cg.rfl' h) d4.2.1
  refine ⟨trivial, fun q => full (by omega), fun q1 => ⟨fun q2 => ?_, fun q => full (by omega)⟩⟩
  have lt : ∀ k, (fEnter 40 (bNk P.1) (bKz P.1) (bKl P.1) W).1 = some k → k < 40 := fun k z => fEnter_lt o2 z
  simp only [show hR h b 0 = b + 1 from rb_0_0 c hb, sb_1 c hb]
  refine ⟨by omega, trivial, sp_enter c (Or.inr (by omega)) (WL_k c hb) (by decide) d4 B (fun h2 a2 l2 S2 => ?_)⟩
  have c2 : Lay L h2 := a2.lay c (fun id q => by omega)
  have a2' : Cg (bkD b) h h2 := Cg.of a2 (fun id j q => by unfold bkD; omega)
  have cg : ∀ {id : Nat} (j : Nat), ¬ (b + 1 ≤ id ∧ id ≤ b + 1 + 2 + 40) → hI h2 id j = hI h id j := fun {id} j q => (a2.2.2.2 id q j).1
  rw [← tm_1, ← ti_eq, oI_n (fun k z => by have := lt k z; omega)]
  refine ⟨fun q => ?_, fun q => K1 (pWord_n (by omega) q) h2 a2' S2.2.1⟩
  cases r : (fEnter 40 (bNk P.1) (bKz P.1) (bKl P.1) W).1 with
  | none => exact absurd r q
  | some k =>
    have e := pWord_s (by omega) r
    have KK := K2 _ e (sI (sI h2 (b + 45 + bNs P.1) P.2.1 (nI k)) b 7 (nI (P.2.1 + 1))) ((a2'.sI ⟨by omega, by omega⟩).sI ⟨by omega, by omega⟩) ⟨okQ.word o B.1 h1 e, ⟨?_, ?_, hI_eq⟩, ?_, fun s hs => ⟨?_, ?_⟩, fun s i hs hi => ?_, fun i hi => ?_, fun x hx => ?_⟩
    · simp (disch := omega) only [sb_this c2 hb, show hR h2 b 1 = b + 44 from rb_0_1 c2 hb, sb_44 c2 hb, cg, d1, d3, rb_wd c2 hb, sb_wd c2 hb, forall_eq, hs_sI, hs_sL, hR_sI, hR_sL, hI_eq, hI_ne, hI_sL, hL_sI, ti_lt, ti_le, ti_eq, nI_toInt, cl_nI, nI_1, nI_add, t_0, t_1, t_2, t_3, t_4, t_5, t_6, t_7, t_8, t_9, t_10, t_12, t_15, t_16, t_20, t_21, t_24, t_26, t_30, t_31, t_32, t_33, t_39, t_40, t_41, t_45, t_46, t_47, t_48, t_57, t_60, t_63, t_65, t_90, t_97, t_100, t_122, t_200, t_230, t_240, t_255, t_400, t_440, t_441, t_450, t_480, t_1580, t_1600, t_10000, t_131071, t_131072, t_1048576, t_1000000000, tm_1, tm_100001, tm_100002, tm_100003, tm_100004]
      exact ⟨trivial, by omega, trivial, vp_nI (by omega) (by decide), by omega, trivial, vp_nI (by omega) (by decide), KK⟩
    · simp (disch := omega) only [hI_ne, cg]; exact d1
    · simp (disch := omega) only [hI_ne, cg]; exact d2
    · exact wlC.cg S2 (((Cg.rfl' h2).sI (D := fun id j => id = b ∨ b + 45 ≤ id) (by omega)).sI (by omega)) (fun id j q => by omega)
    · have hs : s < bNs P.1 := hs
      simp (disch := omega) only [hI_ne, cg]; exact (d5 s hs).1
    · have hs : s < bNs P.1 := hs
      simp (disch := omega) only [hI_ne, cg]; exact (d5 s hs).2
    · have hs : s < bNs P.1 := hs
      have hi : i < bWc P.1 s := hi
      show _ = nI (if s = bNs P.1 ∧ i = P.2.1 then k else bWd P.1 s i)
      rw [if_neg (by omega)]
      simp (disch := omega) only [hI_ne, cg]; exact d6 s i hs hi
    · have hi : i < P.2.1 + 1 := hi
      show hI _ (b + 45 + bNs P.1) i = nI (if bNs P.1 = bNs P.1 ∧ i = P.2.1 then k else bWd P.1 (bNs P.1) i)
      by_cases y : i = P.2.1
      · rw [if_pos ⟨rfl, y⟩, y]
        simp (disch := omega) only [hI_ne, hI_eq]
      · rw [if_neg (by omega)]
        simp (disch := omega) only [hI_ne, cg]; exact d7 i (by omega)
    · have hx : x < bNp P.1 := hx
      simp (disch := omega) only [hI_ne, cg]; exact d8 x hx
end TK2
section TK3
variable {w : Wd} {L : Nat} {h : Hp} {b : Nat} {P : Ps} {W : Wr} {t : Tp} {sf : Sf} {Q : Int32 → Hp → Prop}
theorem sp_part2 {x : Int32} (c : Lay L h) (hb : isBk b) (D : bookPC h b P) (B : bufC h W) (S : shortC h sf) (K1 : addW W P = none → ∀ h', Cg (flD b) h h' → hI h' (b + 1) 0 = nI 40 → Q 0 h') (K2 : ∀ P', addW W P = some P' → ∀ h', Cg (flD b) h h' → bufC h' w0 → bookPC h' b (sepX x (decide (W.1 ≠ 0) && isSh sf W) P') → Q 1 h') : AC w mX1_part 0 0 (rI Q) [.ref 17, .ref b, .int x] h := by
  have hp := isBk_pos hb
  have h10 := B.1.1
  have p31 : ∀ s, (decide (W.1 ≠ 0) && isSh sf W) = s → AW w mX1_part 0 0 (rI Q) 0 0 31 [some (.ref 17), some (.ref b), some (.int x), none] [.int (b01 s)] h := by
    intro s hs
    rw [hs] at K2
    refine sX1_part_31 ?_
    rw [s_17 c, B.2.1, r_17_2 c, sb_this c hb, ti_le, t_0, nI_toInt (by omega)]
    refine ⟨rfl, fun q => ?_, fun q => ⟨by first | decide | exact vp_nI (j := 0) (by decide) (by decide) | exact vp_nI (j := 1) (by decide) (by decide), rfl, ?_⟩⟩
    · exact part_56 c hb D (K2 P (by unfold addW; rw [if_pos (by omega)]))
    · have e : addW W P = pWord W P := by unfold addW; rw [if_neg (by omega)]
      refine sp_addWord2 c hb D B (by omega) (fun e1 h1 a1 r1 => ⟨fun z => absurd rfl z, fun _ => K1 (by rw [e, e1]) h1 (a1.mono (fun id j q => Or.inr (Or.inr q))) r1⟩) (fun P' e1 h1 a1 D1 => ⟨fun _ => ?_, fun z => absurd z (by decide)⟩)
      have c1 : Lay L h1 := a1.lay c (fun id j q => by unfold bkD at q; omega)
      exact part_56 c1 hb D1 (fun h2 a2 => K2 P' (by rw [e, e1]) h2 ((a1.mono (fun id j q => Or.inr (Or.inr q))).trans a2))
  refine eX1_part (sX1_part_0 ?_)
  rw [s_17 c, B.2.1, r_17_1 c, r_17_2 c, s_8 c, ti_le, t_0, nI_toInt (by omega)]
  refine ⟨rfl, fun q => p31 false (by rw [decide_eq_false (by omega)]; rfl), fun q => ⟨by first | decide | exact vp_nI (j := 0) (by decide) (by decide) | exact vp_nI (j := 1) (by decide) (by decide), by first | decide | exact vp_nI (j := 0) (by decide) (by decide) | exact vp_nI (j := 1) (by decide) (by decide), rfl, sp_indexOf c (WL_s c) (by decide) S B ?_⟩⟩
  have lt : ∀ k, fW sf.2.1 sf.2.2 W sf.1 = some k → k < 2147483648 := fun k z => by have := fW_lt z; have := S.1; omega
  rw [oI_n lt]
  refine ⟨fun z => p31 false ?_, fun z => p31 true ?_⟩
  · rw [decide_eq_true (by omega)]
    show (fW _ _ _ _).isSome = false
    rw [z]; rfl
  · rw [decide_eq_true (by omega)]
    show (fW _ _ _ _).isSome = true
    cases y : fW sf.2.1 sf.2.2 W sf.1 with
    | none => exact absurd y z
    | some k => rfl
theorem sp_fill2 (c : Lay L h) (hb : isBk b) (T : tapeC h t) (S : shortC h sf) (hRm : hI h (b + 1) 0 = nI 40) (K1 : scan t sf t.1 w0 p0 = none → ∀ h', Cg (flD b) h h' → hI h' (b + 1) 0 = nI 40 → Q 0 h') (K2 : ∀ P, scan t sf t.1 w0 p0 = some P → ∀ h', Cg (flD b) h h' → bookPC h' b P → Q 1 h') : AC w mX1_fill 0 0 (rI Q) [.ref 17, .ref b] h := by
  have hp := isBk_pos hb
  have hn := T.1
  have lp : ∀ (d p : Nat) (W : Wr) (P : Ps) (h' : Hp), p + d = t.1 → scan t sf d W P = scan t sf t.1 w0 p0 → Cg (flD b) h h' → bufC h' W → bookPC h' b P → AW w mX1_fill 0 0 (rI Q) 0 0 11 [some (.ref 17), some (.ref b), some (.int (nI p))] [] h' := by
    intro d
    induction d with
    | zero =>
      intro p W P h' hp' he a B D
      have c' : Lay L h' := a.lay c (fun id j q => by unfold flD at q; omega)
      have T' := T.cg a (fun id j q => by unfold flD at q; omega)
      have S' : shortC h' sf := wlC.cg S a (fun id j q => by unfold flD at q; omega)
      have he : (addW W P).map pEndP = scan t sf t.1 w0 p0 := he
      refine sX1_fill_11 ?_
      simp (disch := omega) only [s_17 c', r_17_0 c', s_6 c', T'.2.1, ti_le, nI_toInt]
      refine ⟨trivial, by first | decide | exact vp_nI (j := 0) (by decide) (by decide) | exact vp_nI (j := 1) (by decide) (by decide), trivial, fun _ => sp_part2 c' hb D B S' (fun e h1 a1 r1 => ⟨Or.inl rfl, K1 (by rw [← he, e]; rfl) h1 (a.trans a1) r1⟩) (fun P' e h1 a1 B1 D1 => ⟨Or.inr rfl, K2 (pEndP P') (by rw [← he, e]; rfl) h1 (a.trans a1) ?_⟩), fun z => by omega⟩
      rw [sepX_10] at D1
      exact D1
    | succ d ih =>
      intro p W P h' hp' he a B D
      have c' : Lay L h' := a.lay c (fun id j q => by unfold flD at q; omega)
      have T' := T.cg a (fun id j q => by unfold flD at q; omega)
      have S' : shortC h' sf := wlC.cg S a (fun id j q => by unfold flD at q; omega)
      have e : scan t sf (d + 1) W P = if ltr t (t.1 - (d + 1)) = 0 then (addW W P).bind (fun P' => scan t sf d w0 (sep t (t.1 - (d + 1)) (decide (W.1 ≠ 0) && isSh sf W) P')) else scan t sf d (wAdd W (ltr t (t.1 - (d + 1)))) P := rfl
      rw [e, show t.1 - (d + 1) = p by omega] at he
      refine sX1_fill_11 ?_
      simp (disch := omega) only [s_17 c', r_17_0 c', s_6 c', T'.2.1, ti_le, nI_toInt]
      refine ⟨trivial, by first | decide | exact vp_nI (j := 0) (by decide) (by decide) | exact vp_nI (j := 1) (by decide) (by decide), trivial, fun z => by omega, fun _ => sp_isLetterAt c' T' (by omega) ?_⟩
      rw [b01_ne, b01_eq]
      refine ⟨fun q => ?_, fun q => ⟨by rw [s_17 c'], ?_⟩⟩
      · have q : ltr t p = 0 := by simpa using q
        rw [if_pos q] at he
        simp only [s_17 c', r_17_0 c', s_6 c']
        refine ⟨trivial, by first | decide | exact vp_nI (j := 0) (by decide) (by decide) | exact vp_nI (j := 1) (by decide) (by decide), trivial, sp_smallAt c' T' (by omega) ⟨by rw [s_17 c'], sp_part2 c' hb D B S' (fun e1 h1 a1 r1 => ⟨fun z => absurd rfl z, fun _ => K1 (by rw [← he, e1]; rfl) h1 (a.trans a1) r1⟩) (fun P' e1 h1 a1 B1 D1 => ⟨fun _ => ?_, fun z => absurd z (by decide)⟩)⟩⟩
        rw [sepX_t T' (by omega) q] at D1
        rw [nI_1]
        exact ih (p + 1) w0 _ h1 (by omega) (by rw [← he, e1]; rfl) (a.trans a1) B1 D1
      · have q : ltr t p ≠ 0 := by simpa using q
        rw [if_neg q] at he
        refine sp_keepLetter c' T' B (by omega) q (fun h1 a1 l1 B1 => ?_)
        have a1' : Cg (flD b) h' h1 := Cg.of a1 (fun id j q => by unfold flD; omega)
        rw [nI_1]
        exact ih (p + 1) _ P h1 (by omega) he (a.trans a1') B1 (D.cg (Cg.of (D := fun id j => id = 17 ∨ id = 18) a1 (fun id j q => q)) (fun id j q => by omega))
  refine eX1_fill (sX1_fill_0 ⟨by rw [sb_this c hb], sp_makeEmpty c hb hRm (fun h1 a1 D1 => ?_)⟩)
  have c1 : Lay L h1 := a1.lay c (fun id j q => by unfold bkD at q; omega)
  refine ⟨by rw [s_17 c1], fun h2 e2 => ?_⟩
  subst e2
  exact lp t.1 0 w0 p0 _ (by omega) rfl ((a1.mono (fun id j q => Or.inr (Or.inr q))).sI (Or.inl rfl)) ⟨⟨Nat.zero_le _, fun i hi => absurd hi (Nat.not_lt_zero i)⟩, hI_eq, fun i hi => absurd hi (Nat.not_lt_zero i)⟩ (D1.cg ((Cg.rfl' h1).sI (D := fun id j => id = 17) rfl) (fun id j q => by omega))
end TK3
section TK4
variable {w : Wd} {L : Nat} {h : Hp} {t : Tp} {sf : Sf}
theorem sp_take2 {Q : Int32 → Hp → Prop} {o : Nat → Nat} {bk : Nat → Bk} {x : Int32} (c : Lay L h) (O : bkO3 h o) (B : booksC h o bk) (T : tapeC h t) (S : shortC h sf) (Rm : rooms h) (K0 : inR x 2 = false → Q (-100001) h) (K1 : inR x 2 = true → scan t sf t.1 w0 p0 = none → ∀ h', Cg tkD h h' → tapeC h' t → booksC h' o bk → hI h' 5 11 = hI h 5 11 → (∀ id j, 223 < id → hI h' id j = hI h id j ∧ hL h' id j = hL h id j) → rooms h' → Q (-100004) h')
    (K2 : ∀ j, j < 2 → x = nI j → ∀ P, scan t sf t.1 w0 p0 = some P → ∀ h', TkC h h' → bkO3 h' (o3 o j) → booksC h' (o3 o j) (setBk bk j P.1) → tapeC h' (0, t.2) → pairC h' pr0 → shareC h' (bNk (setBk bk j P.1 0)) (bNk (setBk bk j P.1 1)) (sh0 (bNk (setBk bk j P.1 1))) tm0 → hI h' 5 11 = 1 → rooms h' → Q (nI (bNs P.1)) h') : AC w mX9_take 0 0 (rI Q) [.ref 5, .int x] h := by
  obtain ⟨⟨r0, r1, r2⟩, ⟨i0, i1, i2⟩, n01, n02, n12⟩ := id O
  have p2 := isBk_223 i2
  refine eX9_take (sX9_take_0 ⟨by rw [s_5 c], sp_isBook ⟨fun q => ?_, fun q => K0 (b01_eq.mp q)⟩⟩)
  rw [b01_ne] at q
  rw [s_5 c, r_5_2 c, r2, s_17 c]
  refine ⟨rfl, by first | decide | exact vp_nI (j := 0) (by decide) (by decide) | exact vp_nI (j := 1) (by decide) (by decide), by omega, rfl, sp_fill2 c i2 T S (Rm _ i2) (fun e h1 a1 rm1 => ⟨fun z => absurd rfl z, fun _ => ?_⟩) (fun P e h1 a1 D1 => ⟨fun _ => ?_, fun z => absurd z (by decide)⟩)⟩
  · have rms : rooms h1 := fun b hb => by
      by_cases e : b = o 2
      · rw [e]; exact rm1
      · rw [a1.i (by have := bk_sep hb i2 e (id := b + 1) (by omega) (by omega); have := isBk_pos hb; unfold flD; omega)]; exact Rm b hb
    refine K1 q e h1 (a1.mono (fun id j z => by unfold flD at z; unfold tkD; omega)) (T.cg a1 (fun id j z => by unfold flD at z; omega)) ?_ (a1.i (by unfold flD; omega)) (fun id j z => a1.2.2.2 id j (by unfold flD; omega)) rms
    refine ⟨⟨by rw [a1.2.2.1]; exact ⟨r0, r1⟩, i0, i1, n01⟩, B.2.1.of (fun id i z1 z2 => a1.i ?_), B.2.2.of (fun id i z1 z2 => a1.i ?_)⟩
    · have := bk_sep i0 i2 n02 z1 z2; have := isBk_pos i0; unfold flD; omega
    · have := bk_sep i1 i2 n12 z1 z2; have := isBk_pos i1; unfold flD; omega
  · obtain ⟨j, hj, rfl⟩ := inR_nI q (by decide)
    obtain ⟨ok, f1, f2⟩ := scan_ok (t := t) (sf := sf) t.1 w0 p0 P okQ.p0 ⟨Nat.zero_le _, fun i hi => absurd hi (Nat.not_lt_zero i)⟩ (Nat.le_refl _) e
    have a1t : TkC h h1 := TkC.of (a1.mono (fun id j z => by unfold flD at z; unfold tkD; omega))
    have c1 : Lay L h1 := a1t.lay c
    have rr : hR h1 = hR h := a1.2.2.1
    have rj : hR h1 19 j = o j := by
      rw [rr]
      rcases (show j = 0 ∨ j = 1 by omega) with rfl | rfl
      · exact r0
      · exact r1
    have ij : isBk (o j) := by
      rcases (show j = 0 ∨ j = 1 by omega) with rfl | rfl
      · exact i0
      · exact i1
    have pj := isBk_223 ij
    rw [s_5 c1, r_5_3 c1, s_19 c1, cl_nI (by omega), rj, show hR h1 5 4 = o 2 by rw [rr]; exact r2, sb_this c1 i2]
    refine ⟨rfl, by first | decide | exact vp_nI (j := 0) (by decide) (by decide) | exact vp_nI (j := 1) (by decide) (by decide), rfl, vp_nI hj (by decide), by omega, by omega, rfl, fun h3 e3 h4 e4 => ?_⟩
    subst e3 e4
    have a4 : TkC h (sR (sR h1 19 j (o 2)) 5 4 (o j)) := (a1t.sR (Or.inl rfl)).sR (Or.inr ⟨rfl, rfl⟩)
    have c4 := a4.lay c
    have O4 : bkO3 (sR (sR h1 19 j (o 2)) 5 4 (o j)) (o3 o j) := by
      rcases (show j = 0 ∨ j = 1 by omega) with rfl | rfl
      · exact ⟨⟨by rw [hR_ne (Or.inl (by decide)), hR_eq]; rfl, by rw [hR_ne (Or.inl (by decide)), hR_ne (Or.inr (by decide)), rr]; exact r1, hR_eq⟩, ⟨i2, i1, i0⟩, n12.symm, n02.symm, n01.symm⟩
      · exact ⟨⟨by rw [hR_ne (Or.inl (by decide)), hR_ne (Or.inr (by decide)), rr]; exact r0, by rw [hR_ne (Or.inl (by decide)), hR_eq]; rfl, hR_eq⟩, ⟨i0, i2, i1⟩, n02, n01, n12.symm⟩
    have C1 : bookC h1 (o 2) P.1 := D1.done f2
    have rms : rooms h1 := fun b hb => by
      by_cases e : b = o 2
      · rw [e]; exact D1.2.2.1.2.1
      · rw [a1.i (by have := bk_sep hb i2 e (id := b + 1) (by omega) (by omega); have := isBk_pos hb; unfold flD; omega)]; exact Rm b hb
    have rms4 : rooms (sR (sR h1 19 j (o 2)) 5 4 (o j)) := rms
    have B0 : bookC h1 (o 0) (bk 0) := B.2.1.of (fun id i z1 z2 => a1.i (by have := bk_sep i0 i2 n02 z1 z2; have := isBk_pos i0; unfold flD; omega))
    have B1 : bookC h1 (o 1) (bk 1) := B.2.2.of (fun id i z1 z2 => a1.i (by have := bk_sep i1 i2 n12 z1 z2; have := isBk_pos i1; unfold flD; omega))
    have BB : booksC (sR (sR h1 19 j (o 2)) 5 4 (o j)) (o3 o j) (setBk bk j P.1) := by
      refine ⟨⟨⟨O4.1.1, O4.1.2.1⟩, O4.2.1.1, O4.2.1.2.1, O4.2.2.1⟩, ?_, ?_⟩
      · rcases (show j = 0 ∨ j = 1 by omega) with rfl | rfl
        · exact C1
        · exact B0
      · rcases (show j = 0 ∨ j = 1 by omega) with rfl | rfl
        · exact B1
        · exact C1
    revert a4 c4 O4 BB rms4
    generalize hh : sR (sR h1 19 j (o 2)) 5 4 (o j) = h4
    intro a4 c4 O4 rms4 BB
    rw [r_5_0 c4, r_5_5 c4, show hs h1 = hs h4 by rw [← hh]; rfl, s_6 c4, s_224 c4]
    refine ⟨by first | decide | exact vp_nI (j := 0) (by decide) (by decide) | exact vp_nI (j := 1) (by decide) (by decide), rfl, fun h5 e5 => ⟨by first | decide | exact vp_nI (j := 0) (by decide) (by decide) | exact vp_nI (j := 1) (by decide) (by decide), rfl, ?_⟩⟩
    subst e5
    have c5 : Lay L (sI h4 6 1 0) := c4.sI (by decide)
    have x5 : Cg tkD h4 (sI h4 6 1 0) := (Cg.rfl' h4).sI (by unfold tkD; omega)
    refine sp_forgetAll c5 (fun h6 a6 p6 => ?_)
    have x6 : Cg tkD h4 h6 := x5.trans (a6.mono (fun id j q => by unfold tkD; omega))
    have c6 : Lay L h6 := x6.lay c4 (fun id j q => by unfold tkD at q; omega)
    have bb6 : ∀ {h6 : Hp}, hR h6 = hR h4 → (∀ id i, 20 ≤ id → id ≤ 223 → hI h6 id i = hI h4 id i) → booksC h6 (o3 o j) (setBk bk j P.1) := fun {h6} q1 q2 => by
      refine ⟨⟨by rw [q1]; exact BB.1.1, BB.1.2⟩, BB.2.1.of (fun id i z1 z2 => q2 id i ?_ ?_), BB.2.2.of (fun id i z1 z2 => q2 id i ?_ ?_)⟩
      · have := isBk_223 BB.1.2.1; omega
      · have := isBk_223 BB.1.2.1; omega
      · have := isBk_223 BB.1.2.2.1; omega
      · have := isBk_223 BB.1.2.2.1; omega
    have b6 : booksC h6 (o3 o j) (setBk bk j P.1) := bb6 (by rw [a6.2.2.1]; rfl) (fun id i z1 z2 => by rw [a6.i (by omega), hI_ne (Or.inl (by omega))])
    obtain ⟨g0, gi0, gb0⟩ := b6.r (j := 0) (by decide)
    obtain ⟨g1, gi1, gb1⟩ := b6.r (j := 1) (by decide)
    have hp0 := isBk_pos gi0
    have hp1 := isBk_pos gi1
    have k0 := gb0.1.2.1
    have k1 := gb1.1.2.1
    simp only [s_5 c6, r_5_6 c6, r_5_3 c6, s_19 c6, e0c, e1c, g0, g1, sb_this c6 gi0, sb_this c6 gi1, show hR h6 (o3 o j 0) 0 = o3 o j 0 + 1 from rb_0_0 c6 gi0, show hR h6 (o3 o j 1) 0 = o3 o j 1 + 1 from rb_0_0 c6 gi1, sb_1 c6 gi0, sb_1 c6 gi1, s_227 c6, gb0.2.2.2.1, gb1.2.2.2.1]
    refine ⟨trivial, by first | decide | exact vp_nI (j := 0) (by decide) (by decide) | exact vp_nI (j := 1) (by decide) (by decide), by first | decide | exact vp_nI (j := 0) (by decide) (by decide) | exact vp_nI (j := 1) (by decide) (by decide), trivial, vp_nI (j := 0) (by decide) (by decide), by omega, trivial, by omega, trivial, vp_nI (j := 1) (by decide) (by decide), by omega, trivial, by omega, trivial, trivial, sp_spread c6 k0 k1 (fun h7 a7 s7 => ?_)⟩
    have x7 : Cg tkD h4 h7 := x6.trans (a7.mono (fun id j q => by unfold tkD; omega))
    have c7 : Lay L h7 := x7.lay c4 (fun id j q => by unfold tkD at q; omega)
    have rj7 : hR h7 19 j = o3 o j j := by
      rw [x7.2.2.1]
      rcases (show j = 0 ∨ j = 1 by omega) with rfl | rfl
      · exact O4.1.1
      · exact O4.1.2.1
    have e2 : o3 o j j = o 2 := if_pos rfl
    rw [s_5 c7, r_5_3 c7, s_19 c7, rj7, e2, sb_this c7 i2]
    refine ⟨rfl, fun h8 e8 => ⟨by first | decide | exact vp_nI (j := 0) (by decide) (by decide) | exact vp_nI (j := 1) (by decide) (by decide), rfl, vp_nI hj (by decide), by omega, rfl, ?_⟩⟩
    subst e8
    have b8 : booksC (sI h7 5 11 1) (o3 o j) (setBk bk j P.1) := bb6 (by rw [← x7.2.2.1]; rfl) (fun id i z1 z2 => by rw [hI_ne (Or.inl (by omega)), a7.i (by omega), a6.i (by omega), hI_ne (Or.inl (by omega))])
    have hv : hI (sI h7 5 11 1) (o 2) 5 = nI (bNs P.1) := by
      have := (b8.r hj).2.2.2.1
      rw [show setBk bk j P.1 j = P.1 from if_pos rfl, e2] at this
      exact this
    rw [hv]
    refine K2 j hj rfl P e _ (a4.cg (x7.sI (by unfold tkD; omega))) ⟨by rw [show hR (sI h7 5 11 1) = hR h4 by rw [← x7.2.2.1]; rfl]; exact O4.1, O4.2⟩ b8 ⟨Nat.zero_le _, ?_, fun i hi => absurd hi (Nat.not_lt_zero i)⟩ ⟨p6.1, ?_, fun i hi => ⟨?_, ?_⟩⟩ ⟨s7.1, ?_, ?_, fun a ha => ⟨?_, ?_, fun b hb => ?_⟩⟩ hI_eq (fun b hb => ?_)
    · rw [hI_ne (Or.inl (by decide)), a7.i (by omega), a6.i (by omega), hI_eq]; rfl
    · rw [hI_ne (Or.inl (by decide)), a7.i (by omega)]; exact p6.2.1
    · rw [hI_ne (Or.inl (by decide)), a7.i (by omega)]; exact (p6.2.2 i hi).1
    · rw [hI_ne (Or.inl (by decide)), a7.i (by omega)]; exact (p6.2.2 i hi).2
    · rw [hI_ne (Or.inl (by decide))]; exact s7.2.1
    · rw [hI_ne (Or.inl (by decide))]; exact s7.2.2.1
    · rw [hI_ne (Or.inl (by decide))]; exact (s7.2.2.2 a ha).1
    · rw [hI_ne (Or.inl (by omega))]; exact (s7.2.2.2 a ha).2.1
    · rw [hI_ne (Or.inl (by omega))]; exact (s7.2.2.2 a ha).2.2 b hb
    · have := isBk_223 hb
      rw [hI_ne (Or.inl (by omega)), a7.i (by omega), a6.i (by omega), hI_ne (Or.inl (by omega))]; exact rms4 b hb
end TK4
section CH2
variable {w : Wd} {L : Nat} {h : Hp} {Q : Int32 → Hp → Prop} {o : Nat → Nat} {bk : Nat → Bk}
theorem sp_change2 {b s i k : Int32} (c : Lay L h) (D : booksC h o bk) (K : ∀ h', BCh h h' o bk (fChange bk b s i k).2 → (∀ x, isBk x → hI h' (x + 1) 0 = hI h (x + 1) 0) → Q (fChange bk b s i k).1 h') : AC w mX9_change 0 0 (rI Q) [.ref 5, .int b, .int s, .int i, .int k] h := by
  have bad : (isWr bk b s i && inR k (bNk (bk b.toNatClampNeg))) = false → Q (-100001) h := fun q => by
    have e : fChange bk b s i k = (-100001, bk) := by rw [fChange, q]; rfl
    rw [e] at K
    exact K h ⟨Chg.rfl' h, fun _ _ => rfl, rfl, D, Or.inr ⟨rfl, rfl⟩⟩ (fun _ _ => rfl)
  refine eX9_change (sX9_change_0 ⟨by rw [s_5 c], sp_isWord c D ⟨fun c1 => ?_, fun c1 => ?_⟩⟩)
  · rw [b01_eq] at c1
    exact bad (by rw [c1]; rfl)
  · rw [b01_ne] at c1
    have c1' := c1
    obtain ⟨j, t, u, hj, ht, hu, rfl, rfl, rfl⟩ := isWr_nI D.ok c1
    obtain ⟨r1, hb, Db⟩ := D.r hj
    have h20 := Db.1.1
    have h40 := Db.1.2.1
    have h10 := (Db.1.2.2.2.1 t ht).2.1
    have hp := isBk_pos hb
    have hv := (Db.2.2.2.2.1 t ht).2.2 u hu
    refine ⟨by rw [s_5 c], sp_isKind c D hj ⟨fun c2 => ?_, fun c2 => ?_⟩⟩
    · rw [b01_ne] at c2
      obtain ⟨q, hq, rfl⟩ := inR_nI c2 (by omega)
      have e : fChange bk (nI j) (nI t) (nI u) (nI q) = (nI (bWd (bk j) t u), setBk bk j (setWd (bk j) t u q)) := by rw [fChange, cl_nI (by omega), c1', c2, cl_nI (by omega), cl_nI (by omega), cl_nI (by omega)]; rfl
      rw [e] at K
      simp only [s_5 c, r_5_3 c, s_19 c, cl_nI (show j < 2147483648 by omega), cl_nI (show t < 2147483648 by omega), cl_nI (show u < 2147483648 by omega), r1, sb_this c hb, show hR h (o j) 1 = o j + 44 from rb_0_1 c hb, sb_44 c hb, rb_wd c hb (show t < 20 by omega), sb_wd c hb (show t < 20 by omega), hv]
      refine ⟨trivial, by first | decide | exact vp_nI (j := 0) (by decide) (by decide) | exact vp_nI (j := 1) (by decide) (by decide), trivial, vp_nI hj (by decide), by omega, trivial, by omega, trivial, vp_nI (by omega) (by decide), by omega, trivial, vp_nI (by omega) (by decide), fun h3 e3 h4 e4 => ?_⟩
      subst e3 e4
      refine K _ ⟨((Chg.rfl' h).sI (Or.inr ?_)).sI (Or.inl rfl), fun k hk => ?_, rfl, (D.put hj ht hu hq).code, Or.inl hI_eq⟩ (fun x hx => ?_)
      · rcases hb with hb | hb | hb <;> rw [hb] <;> omega
      · rw [hI_ne (Or.inr hk), hI_ne (Or.inl (by omega))]
      · have := isBk_pos hx
        rw [hI_ne (Or.inl (by omega)), hI_ne (Or.inl ?_)]
        rcases hx with rfl | rfl | rfl <;> rcases hb with hb | hb | hb <;> rw [hb] <;> omega
    · rw [b01_eq] at c2
      exact bad (by rw [cl_nI (by omega), c2, Bool.and_false])
end CH2
