/-! ===== fill, take: the class ===== -/
def sepX (x : Int32) (short : Bool) (P : Ps) : Ps := if x = 10 then pEndP P else if x = 33 ∨ x = 63 ∨ (x = 46 ∧ short = false) then pEndS P else P
theorem sepX_10 (s : Bool) (P : Ps) : sepX 10 s P = pEndP P := if_pos rfl
theorem sepX_t {h : Hp} {t : Tp} {p : Nat} (D : tapeC h t) (hp : p < t.1) (hl : ltr t p = 0) (s : Bool) (P : Ps) : sepX (sml t p) s P = sep t p s P := by
  have e10 : sml t p = 10 ↔ t.2 p = 10 := sml_o D hp hl 10 (by decide)
  have e33 : sml t p = 33 ↔ t.2 p = 33 := sml_o D hp hl 33 (by decide)
  have e63 : sml t p = 63 ↔ t.2 p = 63 := sml_o D hp hl 63 (by decide)
  have e46 : sml t p = 46 ↔ t.2 p = 46 := sml_o D hp hl 46 (by decide)
  unfold sepX sep
  simp only [e10, e33, e63, e46]
def flD (b : Nat) (id j : Nat) : Prop := id = 17 ∨ id = 18 ∨ (b ≤ id ∧ id ≤ b + 67)
theorem bookPC.cg {D : Nat → Nat → Prop} {h h' : Hp} {b : Nat} {P : Ps} (T : bookPC h b P) (a : Cg D h h') (hd : ∀ id j, D id j → ¬ (b ≤ id ∧ id ≤ b + 67)) : bookPC h' b P := by
  obtain ⟨o, ⟨d1, d2, d3⟩, d4, d5, d6, d7, d8⟩ := T
  have o1 := o.1
  have nd : ∀ {id j : Nat}, b ≤ id → id ≤ b + 67 → hI h' id j = hI h id j := fun {id j} h1 h2 => a.i (fun q => hd _ _ q ⟨h1, h2⟩)
  refine ⟨o, ⟨by rw [nd (by omega) (by omega)]; exact d1, by rw [nd (by omega) (by omega)]; exact d2, by rw [nd (by omega) (by omega)]; exact d3⟩, d4.cg a (fun id j q z => hd _ _ q (by omega)), fun s hs => ⟨by rw [nd (by omega) (by omega)]; exact (d5 s hs).1, by rw [nd (by omega) (by omega)]; exact (d5 s hs).2⟩, fun s i hs hi => by rw [nd (by omega) (by omega)]; exact d6 s i hs hi, fun i hi => ?_, fun p hp => by rw [nd (by omega) (by omega)]; exact d8 p hp⟩
  have := o.1.2.2.2 (by omega)
  rw [nd (by omega) (by omega)]; exact d7 i hi
theorem bufC.cg {D : Nat → Nat → Prop} {h h' : Hp} {W : Wr} (T : bufC h W) (a : Cg D h h') (hd : ∀ id j, D id j → id ≠ 17 ∧ id ≠ 18) : bufC h' W :=
  ⟨T.1, by rw [a.i (fun q => (hd _ _ q).1 rfl)]; exact T.2.1, fun i hi => by rw [a.i (fun q => (hd _ _ q).2 rfl)]; exact T.2.2 i hi⟩
section FT
variable {w : Wd} {L : Nat} {h : Hp} {b : Nat} {P : Ps} {W : Wr} {t : Tp} {sf : Sf} {Q : Int32 → Hp → Prop}
theorem part_56 {x : Int32} {s : Bool} (c : Lay L h) (hb : isBk b) (D : bookPC h b P) (K : ∀ h', Cg (flD b) h h' → bufC h' w0 → bookPC h' b (sepX x s P) → Q 1 h') : AW w mX1_part 0 0 (rI Q) 0 0 56 [some (.ref 17), some (.ref b), some (.int x), some (.int (b01 s))] [] h := by
  have hp := isBk_pos hb
  refine sX1_part_56 ?_
  rw [s_17 c, sb_this c hb]
  refine ⟨rfl, fun h1 e1 => ?_⟩
  subst e1
  have a1 : Cg (flD b) h (sI h 17 3 0) := (Cg.rfl' h).sI (Or.inl rfl)
  have c1 : Lay L (sI h 17 3 0) := c.sI (by decide)
  have D1 : bookPC (sI h 17 3 0) b P := D.cg ((Cg.rfl' h).sI (D := fun id j => id = 17) rfl) (fun id j q => by omega)
  have w1 : ∀ {h'}, Cg (bkD b) (sI h 17 3 0) h' → bufC h' w0 := fun {h'} a => bufC.cg (D := bkD b) ⟨⟨Nat.zero_le _, fun i hi => absurd hi (Nat.not_lt_zero i)⟩, hI_eq, fun i hi => absurd hi (Nat.not_lt_zero i)⟩ a (fun id j q => by unfold bkD at q; omega)
  have mo : ∀ {h'}, Cg (bkD b) (sI h 17 3 0) h' → Cg (flD b) h h' := fun a => a1.trans (a.mono (fun id j q => Or.inr (Or.inr q)))
  have ends : sepX x s P = pEndS P → AC w mX0_endSentence 0 0 (rV fun h2 => Q 1 h2) [.ref b] (sI h 17 3 0) := fun e => sp_endSentence c1 hb D1 (fun h2 a2 D2 => K h2 (mo a2) (w1 a2) (by rw [e]; exact D2))
  have none : sepX x s P = P → Q 1 (sI h 17 3 0) := fun e => K _ a1 (w1 (Cg.rfl' _)) (by rw [e]; exact D1)
  rw [b01_ne, b01_eq]
  refine ⟨fun n10 => ⟨fun e33 => ⟨rfl, ends (by unfold sepX; rw [if_neg n10, if_pos (Or.inl e33)])⟩, fun n33 => ⟨fun e63 => ⟨rfl, ends (by unfold sepX; rw [if_neg n10, if_pos (Or.inr (Or.inl e63))])⟩, fun n63 => ⟨fun n46 => none (by unfold sepX; rw [if_neg n10, if_neg (fun y => y.elim n33 (fun y => y.elim n63 (fun y => n46 y.1)))]), fun e46 => ⟨fun y => none (by unfold sepX; rw [if_neg n10, if_neg (fun z => z.elim n33 (fun z => z.elim n63 (fun z => by rw [y] at z; cases z.2)))]), fun y => ⟨rfl, ends (by unfold sepX; rw [if_neg n10, if_pos (Or.inr (Or.inr ⟨e46, y⟩))])⟩⟩⟩⟩⟩, fun e10 => ⟨rfl, ?_⟩⟩
  exact sp_endParagraph c1 hb D1 (fun h2 a2 D2 => K h2 (mo a2) (w1 a2) (by unfold sepX; rw [if_pos e10]; exact D2))
theorem sp_part {x : Int32} (c : Lay L h) (hb : isBk b) (D : bookPC h b P) (B : bufC h W) (S : shortC h sf) (K1 : addW W P = none → ∀ h', Cg (flD b) h h' → Q 0 h') (K2 : ∀ P', addW W P = some P' → ∀ h', Cg (flD b) h h' → bufC h' w0 → bookPC h' b (sepX x (decide (W.1 ≠ 0) && isSh sf W) P') → Q 1 h') : AC w mX1_part 0 0 (rI Q) [.ref 17, .ref b, .int x] h := by
  have hp := isBk_pos hb
  have h10 := B.1.1
  have p31 : ∀ s, (decide (W.1 ≠ 0) && isSh sf W) = s → AW w mX1_part 0 0 (rI Q) 0 0 31 [some (.ref 17), some (.ref b), some (.int x), none] [.int (b01 s)] h := by
    intro s hs
    rw [hs] at K2
    refine sX1_part_31 ?_
    rw [s_17 c, B.2.1, r_17_2 c, sb_this c hb, ti_le, t_0, nI_toInt (by omega)]
    refine ⟨rfl, fun q => ?_, fun q => ⟨by decide, rfl, ?_⟩⟩
    · exact part_56 c hb D (K2 P (by unfold addW; rw [if_pos (by omega)]))
    · have e : addW W P = pWord W P := by unfold addW; rw [if_neg (by omega)]
      refine sp_addWord c hb D B (by omega) (fun e1 h1 a1 => ⟨fun z => absurd rfl z, fun _ => K1 (by rw [e, e1]) h1 (a1.mono (fun id j q => Or.inr (Or.inr q)))⟩) (fun P' e1 h1 a1 D1 => ⟨fun _ => ?_, fun z => absurd z (by decide)⟩)
      have c1 : Lay L h1 := a1.lay c (fun id j q => by unfold bkD at q; omega)
      exact part_56 c1 hb D1 (fun h2 a2 => K2 P' (by rw [e, e1]) h2 ((a1.mono (fun id j q => Or.inr (Or.inr q))).trans a2))
  refine eX1_part (sX1_part_0 ?_)
  rw [s_17 c, B.2.1, r_17_1 c, r_17_2 c, s_8 c, ti_le, t_0, nI_toInt (by omega)]
  refine ⟨rfl, fun q => p31 false (by rw [decide_eq_false (by omega)]; rfl), fun q => ⟨by decide, by decide, rfl, sp_indexOf c (WL_s c) (by decide) S B ?_⟩⟩
  have lt : ∀ k, fW sf.2.1 sf.2.2 W sf.1 = some k → k < 2147483648 := fun k z => by have := fW_lt z; have := S.1; omega
  rw [oI_n lt]
  refine ⟨fun z => p31 false ?_, fun z => p31 true ?_⟩
  · rw [decide_eq_true (by omega)]
    show (fW _ _ _ _).isSome = false
    rw [z]; rfl
  · rw [decide_eq_true (by omega)]
    show (fW _ _ _ _).isSome = true
    cases y : fW sf.2.1 sf.2.2 W sf.1 with
    | none => exact absurd y z
    | some k => rfl
theorem sp_fill (c : Lay L h) (hb : isBk b) (T : tapeC h t) (S : shortC h sf) (hRm : hI h (b + 1) 0 = nI 40) (K1 : scan t sf t.1 w0 p0 = none → ∀ h', Cg (flD b) h h' → Q 0 h') (K2 : ∀ P, scan t sf t.1 w0 p0 = some P → ∀ h', Cg (flD b) h h' → bookPC h' b P → Q 1 h') : AC w mX1_fill 0 0 (rI Q) [.ref 17, .ref b] h := by
  have hp := isBk_pos hb
  have hn := T.1
  have lp : ∀ (d p : Nat) (W : Wr) (P : Ps) (h' : Hp), p + d = t.1 → scan t sf d W P = scan t sf t.1 w0 p0 → Cg (flD b) h h' → bufC h' W → bookPC h' b P → AW w mX1_fill 0 0 (rI Q) 0 0 11 [some (.ref 17), some (.ref b), some (.int (nI p))] [] h' := by
    intro d
    induction d with
    | zero =>
      intro p W P h' hp' he a B D
      have c' : Lay L h' := a.lay c (fun id j q => by unfold flD at q; omega)
      have T' := T.cg a (fun id j q => by unfold flD at q; omega)
      have S' : shortC h' sf := wlC.cg S a (fun id j q => by unfold flD at q; omega)
      have he : (addW W P).map pEndP = scan t sf t.1 w0 p0 := he
      refine sX1_fill_11 ?_
      simp (disch := omega) only [s_17 c', r_17_0 c', s_6 c', T'.2.1, ti_le, nI_toInt]
      refine ⟨trivial, by decide, trivial, fun _ => sp_part c' hb D B S' (fun e h1 a1 => ⟨Or.inl rfl, K1 (by rw [← he, e]; rfl) h1 (a.trans a1)⟩) (fun P' e h1 a1 B1 D1 => ⟨Or.inr rfl, K2 (pEndP P') (by rw [← he, e]; rfl) h1 (a.trans a1) ?_⟩), fun z => by omega⟩
      rw [sepX_10] at D1
      exact D1
    | succ d ih =>
      intro p W P h' hp' he a B D
      have c' : Lay L h' := a.lay c (fun id j q => by unfold flD at q; omega)
      have T' := T.cg a (fun id j q => by unfold flD at q; omega)
      have S' : shortC h' sf := wlC.cg S a (fun id j q => by unfold flD at q; omega)
      have e : scan t sf (d + 1) W P = if ltr t (t.1 - (d + 1)) = 0 then (addW W P).bind (fun P' => scan t sf d w0 (sep t (t.1 - (d + 1)) (decide (W.1 ≠ 0) && isSh sf W) P')) else scan t sf d (wAdd W (ltr t (t.1 - (d + 1)))) P := rfl
      rw [e, show t.1 - (d + 1) = p by omega] at he
      refine sX1_fill_11 ?_
      simp (disch := omega) only [s_17 c', r_17_0 c', s_6 c', T'.2.1, ti_le, nI_toInt]
      refine ⟨trivial, by decide, trivial, fun z => by omega, fun _ => sp_isLetterAt c' T' (by omega) ?_⟩
      rw [b01_ne, b01_eq]
      refine ⟨fun q => ?_, fun q => ⟨by rw [s_17 c'], ?_⟩⟩
      · have q : ltr t p = 0 := by simpa using q
        rw [if_pos q] at he
        simp only [s_17 c', r_17_0 c', s_6 c']
        refine ⟨trivial, by decide, trivial, sp_smallAt c' T' (by omega) ⟨by rw [s_17 c'], sp_part c' hb D B S' (fun e1 h1 a1 => ⟨fun z => absurd rfl z, fun _ => K1 (by rw [← he, e1]; rfl) h1 (a.trans a1)⟩) (fun P' e1 h1 a1 B1 D1 => ⟨fun _ => ?_, fun z => absurd z (by decide)⟩)⟩⟩
        rw [sepX_t T' (by omega) q] at D1
        rw [nI_1]
        exact ih (p + 1) w0 _ h1 (by omega) (by rw [← he, e1]; rfl) (a.trans a1) B1 D1
      · have q : ltr t p ≠ 0 := by simpa using q
        rw [if_neg q] at he
        refine sp_keepLetter c' T' B (by omega) q (fun h1 a1 l1 B1 => ?_)
        have a1' : Cg (flD b) h' h1 := Cg.of a1 (fun id j q => by unfold flD; omega)
        rw [nI_1]
        exact ih (p + 1) _ P h1 (by omega) he (a.trans a1') B1 (D.cg (Cg.of (D := fun id j => id = 17 ∨ id = 18) a1 (fun id j q => q)) (fun id j q => by omega))
  refine eX1_fill (sX1_fill_0 ⟨by rw [sb_this c hb], sp_makeEmpty c hb hRm (fun h1 a1 D1 => ?_)⟩)
  have c1 : Lay L h1 := a1.lay c (fun id j q => by unfold bkD at q; omega)
  refine ⟨by rw [s_17 c1], fun h2 e2 => ?_⟩
  subst e2
  exact lp t.1 0 w0 p0 _ (by omega) rfl ((a1.mono (fun id j q => Or.inr (Or.inr q))).sI (Or.inl rfl)) ⟨⟨Nat.zero_le _, fun i hi => absurd hi (Nat.not_lt_zero i)⟩, hI_eq, fun i hi => absurd hi (Nat.not_lt_zero i)⟩ (D1.cg ((Cg.rfl' h1).sI (D := fun id j => id = 17) rfl) (fun id j q => by omega))
theorem scan_ok : ∀ (d : Nat) (W : Wr) (P P' : Ps), okQ P → okW W → d ≤ t.1 → scan t sf d W P = some P' → okQ P' ∧ P'.2.1 = 0 ∧ P'.2.2 = bNs P'.1
  | 0, W, P, P', o, oW, hd, e => by
    have e : (addW W P).map pEndP = some P' := e
    have fin : ∀ R, okQ R → some (pEndP R) = some P' → okQ P' ∧ P'.2.1 = 0 ∧ P'.2.2 = bNs P'.1 := fun R oR e => by
      cases e
      exact ⟨oR.endS.end1, pEndP_done oR⟩
    cases q : addW W P with
    | none => rw [q] at e; cases e
    | some R =>
      rw [q] at e
      refine fin R ?_ e
      unfold addW at q
      split at q
      · cases q; exact o
      · exact o.word oW (by assumption) q
  | d + 1, W, P, P', o, oW, hd, e => by
    have e : (if ltr t (t.1 - (d + 1)) = 0 then (addW W P).bind (fun P' => scan t sf d w0 (sep t (t.1 - (d + 1)) (decide (W.1 ≠ 0) && isSh sf W) P')) else scan t sf d (wAdd W (ltr t (t.1 - (d + 1)))) P) = some P' := e
    split at e
    · cases q : addW W P with
      | none => rw [q] at e; cases e
      | some R =>
        rw [q] at e
        have oR : okQ R := by
          unfold addW at q
          split at q
          · cases q; exact o
          · exact o.word oW (by assumption) q
        refine scan_ok d w0 _ P' ?_ ⟨Nat.zero_le _, fun i hi => absurd hi (Nat.not_lt_zero i)⟩ (by omega) e
        unfold sep
        split
        · exact oR.endS.end1
        · split
          · exact oR.endS
          · exact oR
    · exact scan_ok d _ P P' o (oW.add ltr_128) (by omega) e
end FT
