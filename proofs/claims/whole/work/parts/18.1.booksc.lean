/-! ===== a book is made: the class ===== -/
def bkD (b : Nat) (id j : Nat) : Prop := b ≤ id ∧ id ≤ b + 67
def sep (t : Tp) (p : Nat) (short : Bool) (P : Ps) : Ps := if t.2 p = 10 then pEndP P else if t.2 p = 33 ∨ t.2 p = 63 ∨ (t.2 p = 46 ∧ short = false) then pEndS P else P
def addW (W : Wr) (P : Ps) : Option Ps := if W.1 = 0 then some P else pWord W P
def scan (t : Tp) (sf : Sf) : Nat → Wr → Ps → Option Ps
  | 0, W, P => (addW W P).map pEndP
  | d + 1, W, P => if ltr t (t.1 - (d + 1)) = 0 then (addW W P).bind (fun P' => scan t sf d w0 (sep t (t.1 - (d + 1)) (decide (W.1 ≠ 0) && isSh sf W) P')) else scan t sf d (wAdd W (ltr t (t.1 - (d + 1)))) P
theorem fEnter_ge {R n : Nat} {z : Nat → Nat} {l : Nat → Nat → Nat} {W : Wr} : n ≤ (fEnter R n z l W).2.1 := by
  unfold fEnter
  cases q : fW z l W n with
  | some j => exact Nat.le_refl _
  | none =>
    by_cases r : n < R
    · simp only [if_pos r]; omega
    · simp only [if_neg r]; omega
theorem pWord_s {P : Ps} {W : Wr} {k : Nat} (q : ¬ (bNs P.1 = 20 ∨ P.2.1 = 10)) (r : (fEnter 40 (bNk P.1) (bKz P.1) (bKl P.1) W).1 = some k) : pWord W P = some (mkB (bNs P.1) (bNp P.1) (fEnter 40 (bNk P.1) (bKz P.1) (bKl P.1) W).2.1 (bWc P.1) (wdAdd (bWd P.1) (bNs P.1) P.2.1 k) (bPg P.1) (fEnter 40 (bNk P.1) (bKz P.1) (bKl P.1) W).2.2.1 (fEnter 40 (bNk P.1) (bKz P.1) (bKl P.1) W).2.2.2, P.2.1 + 1, P.2.2) := by unfold pWord; rw [if_neg q, r]
theorem pWord_n {P : Ps} {W : Wr} (q : ¬ (bNs P.1 = 20 ∨ P.2.1 = 10)) (r : (fEnter 40 (bNk P.1) (bKz P.1) (bKl P.1) W).1 = none) : pWord W P = none := by unfold pWord; rw [if_neg q, r]
section FC
variable {w : Wd} {L : Nat} {h : Hp} {b : Nat} {P : Ps} {W : Wr} {t : Tp} {sf : Sf}
theorem sp_makeEmpty {Q : Hp → Prop} (c : Lay L h) (hb : isBk b) (hRm : hI h (b + 1) 0 = nI 40) (K : ∀ h', Cg (bkD b) h h' → bookPC h' b p0 → Q h') : AC w mX0_makeEmpty 0 0 (rV Q) [.ref b] h := by
  have hp := isBk_pos hb
  refine eX0_makeEmpty (sX0_makeEmpty_0 ?_)
  simp only [sb_this c hb, show hR h b 0 = b + 1 from rb_0_0 c hb, sb_1 c hb, forall_eq]
  refine ⟨trivial, by omega, trivial, K _ (((((Cg.rfl' h).sI ⟨by omega, by omega⟩).sI ⟨by omega, by omega⟩).sI ⟨by omega, by omega⟩).sI ⟨by omega, by omega⟩) ⟨okQ.p0, ⟨?_, ?_, ?_⟩, ⟨Nat.zero_le _, ?_, ?_, fun k hk => absurd hk (Nat.not_lt_zero k), fun k hk => absurd hk (Nat.not_lt_zero k)⟩, fun k hk => absurd hk (Nat.not_lt_zero k), fun k i hk => absurd hk (Nat.not_lt_zero k), fun k hk => absurd hk (Nat.not_lt_zero k), fun k hk => absurd hk (Nat.not_lt_zero k)⟩⟩
  · simp (disch := omega) only [hI_ne, hI_eq]; rfl
  · simp (disch := omega) only [hI_ne, hI_eq]; rfl
  · simp (disch := omega) only [hI_ne, hI_eq]; rfl
  · simp (disch := omega) only [hI_ne]; exact hRm
  · simp (disch := omega) only [hI_ne, hI_eq]; rfl
theorem sp_addWord {Q : Int32 → Hp → Prop} (c : Lay L h) (hb : isBk b) (D : bookPC h b P) (B : bufC h W) (h1 : W.1 ≠ 0) (K1 : pWord W P = none → ∀ h', Cg (bkD b) h h' → Q 0 h') (K2 : ∀ P', pWord W P = some P' → ∀ h', Cg (bkD b) h h' → bookPC h' b P' → Q 1 h') : AC w mX0_addWord 0 0 (rI Q) [.ref b, .ref 18, .int (nI W.1)] h := by
  have hp := isBk_pos hb
  obtain ⟨o, ⟨d1, d2, d3⟩, d4, d5, d6, d7, d8⟩ := D
  obtain ⟨⟨o1, o2, o3, o4⟩, ⟨o5, o6⟩, -⟩ := id o
  refine eX0_addWord (sX0_addWord_0 ?_)
  simp (disch := omega) only [sb_this c hb, d1, d3, forall_eq, hs_sI, hs_sL, hR_sI, hR_sL, hI_eq, hI_ne, hI_sL, hL_sI, ti_lt, ti_le, ti_eq, nI_toInt, cl_nI, nI_1, nI_add, t_0, t_1, t_2, t_3, t_4, t_5, t_6, t_7, t_8, t_9, t_10, t_12, t_15, t_16, t_20, t_21, t_24, t_26, t_30, t_31, t_32, t_33, t_39, t_40, t_41, t_45, t_46, t_47, t_48, t_57, t_60, t_63, t_65, t_90, t_97, t_100, t_122, t_200, t_230, t_240, t_255, t_400, t_440, t_441, t_450, t_480, t_1580, t_1600, t_10000, t_131071, t_131072, t_1048576, t_1000000000, tm_1, tm_100001, tm_100002, tm_100003, tm_100004]
  have full : bNs P.1 = 20 ∨ P.2.1 = 10 → Q 0 h := fun q => K1 (by unfold pWord; rw [if_pos q]) h (Cg.rfl' h)
  refine ⟨trivial, fun q => full (by omega), fun q1 => ⟨fun q2 => ?_, fun q => full (by omega)⟩⟩
  have lt : ∀ k, (fEnter 40 (bNk P.1) (bKz P.1) (bKl P.1) W).1 = some k → k < 40 := fun k z => fEnter_lt o2 z
  simp only [show hR h b 0 = b + 1 from rb_0_0 c hb, sb_1 c hb]
  refine ⟨by omega, trivial, sp_enter c (Or.inr (by omega)) (WL_k c hb) (by decide) d4 B (fun h2 a2 l2 S2 => ?_)⟩
  have c2 : Lay L h2 := a2.lay c (fun id q => by omega)
  have a2' : Cg (bkD b) h h2 := Cg.of a2 (fun id j q => by unfold bkD; omega)
  have cg : ∀ {id : Nat} (j : Nat), ¬ (b + 1 ≤ id ∧ id ≤ b + 1 + 2 + 40) → hI h2 id j = hI h id j := fun {id} j q => (a2.2.2.2 id q j).1
  rw [← tm_1, ← ti_eq, oI_n (fun k z => by have := lt k z; omega)]
  refine ⟨fun q => ?_, fun q => K1 (pWord_n (by omega) q) h2 a2'⟩
  cases r : (fEnter 40 (bNk P.1) (bKz P.1) (bKl P.1) W).1 with
  | none => exact absurd r q
  | some k =>
    have e := pWord_s (by omega) r
    have KK := K2 _ e (sI (sI h2 (b + 45 + bNs P.1) P.2.1 (nI k)) b 7 (nI (P.2.1 + 1))) ((a2'.sI ⟨by omega, by omega⟩).sI ⟨by omega, by omega⟩) ⟨okQ.word o B.1 h1 e, ⟨?_, ?_, hI_eq⟩, ?_, fun s hs => ⟨?_, ?_⟩, fun s i hs hi => ?_, fun i hi => ?_, fun x hx => ?_⟩
    · simp (disch := omega) only [sb_this c2 hb, show hR h2 b 1 = b + 44 from rb_0_1 c2 hb, sb_44 c2 hb, cg, d1, d3, rb_wd c2 hb, sb_wd c2 hb, forall_eq, hs_sI, hs_sL, hR_sI, hR_sL, hI_eq, hI_ne, hI_sL, hL_sI, ti_lt, ti_le, ti_eq, nI_toInt, cl_nI, nI_1, nI_add, t_0, t_1, t_2, t_3, t_4, t_5, t_6, t_7, t_8, t_9, t_10, t_12, t_15, t_16, t_20, t_21, t_24, t_26, t_30, t_31, t_32, t_33, t_39, t_40, t_41, t_45, t_46, t_47, t_48, t_57, t_60, t_63, t_65, t_90, t_97, t_100, t_122, t_200, t_230, t_240, t_255, t_400, t_440, t_441, t_450, t_480, t_1580, t_1600, t_10000, t_131071, t_131072, t_1048576, t_1000000000, tm_1, tm_100001, tm_100002, tm_100003, tm_100004]
      exact ⟨trivial, by omega, trivial, vp_nI (by omega) (by decide), by omega, trivial, vp_nI (by omega) (by decide), KK⟩
    · simp (disch := omega) only [hI_ne, cg]; exact d1
    · simp (disch := omega) only [hI_ne, cg]; exact d2
    · exact wlC.cg S2 (((Cg.rfl' h2).sI (D := fun id j => id = b ∨ b + 45 ≤ id) (by omega)).sI (by omega)) (fun id j q => by omega)
    · have hs : s < bNs P.1 := hs
      simp (disch := omega) only [hI_ne, cg]; exact (d5 s hs).1
    · have hs : s < bNs P.1 := hs
      simp (disch := omega) only [hI_ne, cg]; exact (d5 s hs).2
    · have hs : s < bNs P.1 := hs
      have hi : i < bWc P.1 s := hi
      show _ = nI (if s = bNs P.1 ∧ i = P.2.1 then k else bWd P.1 s i)
      rw [if_neg (by omega)]
      simp (disch := omega) only [hI_ne, cg]; exact d6 s i hs hi
    · have hi : i < P.2.1 + 1 := hi
      show hI _ (b + 45 + bNs P.1) i = nI (if bNs P.1 = bNs P.1 ∧ i = P.2.1 then k else bWd P.1 (bNs P.1) i)
      by_cases y : i = P.2.1
      · rw [if_pos ⟨rfl, y⟩, y]
        simp (disch := omega) only [hI_ne, hI_eq]
      · rw [if_neg (by omega)]
        simp (disch := omega) only [hI_ne, cg]; exact d7 i (by omega)
    · have hx : x < bNp P.1 := hx
      simp (disch := omega) only [hI_ne, cg]; exact d8 x hx
theorem sp_endSentence {Q : Hp → Prop} (c : Lay L h) (hb : isBk b) (D : bookPC h b P) (K : ∀ h', Cg (bkD b) h h' → bookPC h' b (pEndS P) → Q h') : AC w mX0_endSentence 0 0 (rV Q) [.ref b] h := by
  have hp := isBk_pos hb
  have D0 := D
  obtain ⟨o, ⟨d1, d2, d3⟩, d4, d5, d6, d7, d8⟩ := D
  obtain ⟨⟨o1, o2, o3, o4⟩, ⟨o5, o6⟩, -⟩ := id o
  refine eX0_endSentence (sX0_endSentence_0 ?_)
  by_cases q : P.2.1 = 0
  · have e : pEndS P = P := by unfold pEndS; rw [if_pos q]
    rw [e] at K
    simp (disch := omega) only [sb_this c hb, d1, d3, forall_eq, hs_sI, hs_sL, hR_sI, hR_sL, hI_eq, hI_ne, hI_sL, hL_sI, ti_lt, ti_le, ti_eq, nI_toInt, cl_nI, nI_1, nI_add, t_0, t_1, t_2, t_3, t_4, t_5, t_6, t_7, t_8, t_9, t_10, t_12, t_15, t_16, t_20, t_21, t_24, t_26, t_30, t_31, t_32, t_33, t_39, t_40, t_41, t_45, t_46, t_47, t_48, t_57, t_60, t_63, t_65, t_90, t_97, t_100, t_122, t_200, t_230, t_240, t_255, t_400, t_440, t_441, t_450, t_480, t_1580, t_1600, t_10000, t_131071, t_131072, t_1048576, t_1000000000, tm_1, tm_100001, tm_100002, tm_100003, tm_100004]
    exact ⟨trivial, fun _ => K h (Cg.rfl' h) D0, fun z => by omega⟩
  · have e : pEndS P = (mkB (bNs P.1 + 1) (bNp P.1) (bNk P.1) (zAdd (bWc P.1) (bNs P.1) P.2.1) (bWd P.1) (zAdd (bPg P.1) (bNs P.1) (bNp P.1)) (bKz P.1) (bKl P.1), 0, P.2.2) := by unfold pEndS; rw [if_neg q]
    have ok := o.endS
    have up := fun {p} => @upT_S P o q p
    rw [e] at K ok up
    have h20 := o4 (by omega)
    have KK := K (sI (sI (sI (sI h (b + 65) (bNs P.1) (nI P.2.1)) (b + 66) (bNs P.1) (nI (bNp P.1))) b 5 (nI (bNs P.1 + 1))) b 7 0) (((((Cg.rfl' h).sI ⟨by omega, by omega⟩).sI ⟨by omega, by omega⟩).sI ⟨by omega, by omega⟩).sI ⟨by omega, by omega⟩) ⟨ok, ⟨?_, ?_, ?_⟩, ?_, fun s hs => ?_, fun s i hs hi => ?_, fun i hi => absurd hi (Nat.not_lt_zero i), fun x hx => ?_⟩
    · simp (disch := omega) only [sb_this c hb, show hR h b 2 = b + 65 from rb_0_2 c hb, show hR h b 3 = b + 66 from rb_0_3 c hb, sb_65 c hb, sb_66 c hb, d1, d2, d3, forall_eq, hs_sI, hs_sL, hR_sI, hR_sL, hI_eq, hI_ne, hI_sL, hL_sI, ti_lt, ti_le, ti_eq, nI_toInt, cl_nI, nI_1, nI_add, t_0, t_1, t_2, t_3, t_4, t_5, t_6, t_7, t_8, t_9, t_10, t_12, t_15, t_16, t_20, t_21, t_24, t_26, t_30, t_31, t_32, t_33, t_39, t_40, t_41, t_45, t_46, t_47, t_48, t_57, t_60, t_63, t_65, t_90, t_97, t_100, t_122, t_200, t_230, t_240, t_255, t_400, t_440, t_441, t_450, t_480, t_1580, t_1600, t_10000, t_131071, t_131072, t_1048576, t_1000000000, tm_1, tm_100001, tm_100002, tm_100003, tm_100004]
      exact ⟨trivial, fun z => by omega, fun _ => ⟨fun z => by omega, fun _ => ⟨by omega, trivial, vp_nI (by omega) (by decide), by omega, trivial, vp_nI (by omega) (by decide), KK⟩⟩⟩
    · simp (disch := omega) only [hI_ne, hI_eq]; rfl
    · simp (disch := omega) only [hI_ne]; exact d2
    · rw [hI_eq]; rfl
    · exact wlC.cg d4 (((((Cg.rfl' h).sI (D := fun id j => id = b ∨ b + 45 ≤ id) (by omega)).sI (by omega)).sI (by omega)).sI (by omega)) (fun id j q => by omega)
    · have hs : s < bNs P.1 + 1 := hs
      show _ = nI (zAdd (bWc P.1) (bNs P.1) P.2.1 s) ∧ _ = nI (zAdd (bPg P.1) (bNs P.1) (bNp P.1) s)
      unfold zAdd
      by_cases y : s = bNs P.1
      · subst y
        rw [if_pos rfl, if_pos rfl]
        exact ⟨by simp (disch := omega) only [hI_ne, hI_eq], by simp (disch := omega) only [hI_ne, hI_eq]⟩
      · simp (disch := omega) only [hI_ne, if_neg y]
        exact d5 s (by omega)
    · have hs : s < bNs P.1 + 1 := hs
      have hi : i < zAdd (bWc P.1) (bNs P.1) P.2.1 s := hi
      show _ = nI (bWd P.1 s i)
      simp (disch := omega) only [hI_ne]
      unfold zAdd at hi
      by_cases y : s = bNs P.1
      · subst y
        rw [if_pos rfl] at hi
        exact d7 i hi
      · rw [if_neg y] at hi
        exact d6 s i (by omega) hi
    · have hx : x < bNp P.1 := hx
      rw [up hx]
      simp (disch := omega) only [hI_ne]; exact d8 x hx
theorem endS_0 (P : Ps) : (pEndS P).2.1 = 0 := by
  unfold pEndS; split
  · assumption
  · rfl
theorem sp_endParagraph {Q : Hp → Prop} (c : Lay L h) (hb : isBk b) (D : bookPC h b P) (K : ∀ h', Cg (bkD b) h h' → bookPC h' b (pEndP P) → Q h') : AC w mX0_endParagraph 0 0 (rV Q) [.ref b] h := by
  have hp := isBk_pos hb
  refine eX0_endParagraph (sX0_endParagraph_0 ⟨by rw [sb_this c hb], sp_endSentence c hb D (fun h1 a1 D1 => ?_)⟩)
  have c1 : Lay L h1 := a1.lay c (fun id j q => by unfold bkD at q; omega)
  have K : ∀ h', Cg (bkD b) h1 h' → bookPC h' b (pEnd1 (pEndS P)) → Q h' := fun h' a => K h' (a1.trans a)
  have s0 := endS_0 P
  revert K D1 s0
  generalize pEndS P = P1
  intro D1 K s0
  have D0 := D1
  obtain ⟨o, ⟨d1, d2, d3⟩, d4, d5, d6, d7, d8⟩ := D1
  obtain ⟨⟨o1, o2, o3, o4⟩, ⟨o5, o6⟩, o7, -, -, o8, o9⟩ := id o
  have en : AW w mX0_endParagraph 0 0 (rV Q) 0 0 26 [some (.ref b), none] [.int (nI P1.2.2)] h1 := by
    refine sX0_endParagraph_26 ?_
    by_cases q : P1.2.2 < bNs P1.1
    · have e : pEnd1 P1 = (mkB (bNs P1.1) (bNp P1.1 + 1) (bNk P1.1) (bWc P1.1) (bWd P1.1) (bPg P1.1) (bKz P1.1) (bKl P1.1), P1.2.1, bNs P1.1) := by unfold pEnd1; rw [if_pos q]
      have ok := o.end1
      have lst := ok.2.2.2.2.2.2
      rw [e] at K ok lst
      have KK := K (sI (sI h1 (b + 67) (bNp P1.1) (nI (bNs P1.1))) b 6 (nI (bNp P1.1 + 1))) (((Cg.rfl' h1).sI ⟨by omega, by omega⟩).sI ⟨by omega, by omega⟩) ⟨ok, ⟨?_, hI_eq, ?_⟩, ?_, fun s hs => ⟨?_, ?_⟩, fun s i hs hi => ?_, fun i hi => ?_, fun x hx => ?_⟩
      · simp (disch := omega) only [sb_this c1 hb, show hR h1 b 4 = b + 67 from rb_0_4 c1 hb, sb_67 c1 hb, d1, d2, d3, forall_eq, hs_sI, hs_sL, hR_sI, hR_sL, hI_eq, hI_ne, hI_sL, hL_sI, ti_lt, ti_le, ti_eq, nI_toInt, cl_nI, nI_1, nI_add, t_0, t_1, t_2, t_3, t_4, t_5, t_6, t_7, t_8, t_9, t_10, t_12, t_15, t_16, t_20, t_21, t_24, t_26, t_30, t_31, t_32, t_33, t_39, t_40, t_41, t_45, t_46, t_47, t_48, t_57, t_60, t_63, t_65, t_90, t_97, t_100, t_122, t_200, t_230, t_240, t_255, t_400, t_440, t_441, t_450, t_480, t_1580, t_1600, t_10000, t_131071, t_131072, t_1048576, t_1000000000, tm_1, tm_100001, tm_100002, tm_100003, tm_100004]
        exact ⟨trivial, fun z => by omega, fun _ => ⟨by omega, trivial, vp_nI (by omega) (by decide), KK⟩⟩
      · simp (disch := omega) only [hI_ne]; exact d1
      · simp (disch := omega) only [hI_ne]; exact d3
      · exact wlC.cg d4 (((Cg.rfl' h1).sI (D := fun id j => id = b ∨ b + 45 ≤ id) (by omega)).sI (by omega)) (fun id j q => by omega)
      · simp (disch := omega) only [hI_ne]; exact (d5 s hs).1
      · simp (disch := omega) only [hI_ne]; exact (d5 s hs).2
      · have hs : s < bNs P1.1 := hs
        simp (disch := omega) only [hI_ne]; exact d6 s i hs hi
      · have hi : i < P1.2.1 := hi
        omega
      · have hx : x < bNp P1.1 + 1 := hx
        show _ = nI (upT P1.1 x)
        by_cases y : x = bNp P1.1
        · subst y
          simp (disch := omega) only [hI_ne, hI_eq]
          have lst : upT P1.1 (bNp P1.1) = bNs P1.1 := lst (Nat.succ_pos _)
          rw [lst]
        · simp (disch := omega) only [hI_ne]; exact d8 x (by omega)
    · have e : pEnd1 P1 = P1 := by unfold pEnd1; rw [if_neg q]
      rw [e] at K
      simp (disch := omega) only [sb_this c1 hb, d1, forall_eq, hs_sI, hs_sL, hR_sI, hR_sL, hI_eq, hI_ne, hI_sL, hL_sI, ti_lt, ti_le, ti_eq, nI_toInt, cl_nI, nI_1, nI_add, t_0, t_1, t_2, t_3, t_4, t_5, t_6, t_7, t_8, t_9, t_10, t_12, t_15, t_16, t_20, t_21, t_24, t_26, t_30, t_31, t_32, t_33, t_39, t_40, t_41, t_45, t_46, t_47, t_48, t_57, t_60, t_63, t_65, t_90, t_97, t_100, t_122, t_200, t_230, t_240, t_255, t_400, t_440, t_441, t_450, t_480, t_1580, t_1600, t_10000, t_131071, t_131072, t_1048576, t_1000000000, tm_1, tm_100001, tm_100002, tm_100003, tm_100004]
      exact ⟨trivial, fun _ => K h1 (Cg.rfl' h1) D0, fun z => by omega⟩
  rw [d2, ti_eq, t_0, nI_toInt (by omega)]
  refine ⟨by rw [sb_this c1 hb], fun z => ?_, fun z => ?_⟩
  · rw [nI_sub1 (by omega), show hR h1 b 4 = b + 67 from rb_0_4 c1 hb, sb_67 c1 hb, cl_nI (by omega), d8 _ (by omega), o9 (by omega)]
    exact ⟨by omega, rfl, vp_nI (by omega) (by decide), en⟩
  · rw [o8 (by omega)] at en
    exact en
end FC
