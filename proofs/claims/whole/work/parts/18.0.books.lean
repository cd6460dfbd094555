/-! ===== a book that is being made: the book, words of the open sentence, sentences of ended paragraphs ===== -/
abbrev Ps : Type := Bk × Nat × Nat
def mkB (ns np nk : Nat) (wc : Nat → Nat) (wd : Nat → Nat → Nat) (pg kz : Nat → Nat) (kl : Nat → Nat → Nat) : Bk := ((ns, np, nk), wc, wd, pg, kz, kl)
def wdAdd (f : Nat → Nat → Nat) (s i v : Nat) : Nat → Nat → Nat := fun a b => if a = s ∧ b = i then v else f a b
def okQ (P : Ps) : Prop := (bNs P.1 ≤ 20 ∧ bNk P.1 ≤ 40 ∧ P.2.1 ≤ 10 ∧ (0 < P.2.1 → bNs P.1 < 20)) ∧ (bNp P.1 ≤ P.2.2 ∧ P.2.2 ≤ bNs P.1) ∧ (∀ s, s < bNs P.1 → 1 ≤ bWc P.1 s ∧ bWc P.1 s ≤ 10 ∧ (s < P.2.2 → bPg P.1 s < bNp P.1) ∧ (P.2.2 ≤ s → bPg P.1 s = bNp P.1) ∧ ∀ i, i < bWc P.1 s → bWd P.1 s i < bNk P.1) ∧ (∀ i, i < P.2.1 → bWd P.1 (bNs P.1) i < bNk P.1) ∧ (∀ k, k < bNk P.1 → 1 ≤ bKz P.1 k ∧ bKz P.1 k ≤ 10 ∧ ∀ i, i < bKz P.1 k → bKl P.1 k i < 128) ∧ (bNp P.1 = 0 → P.2.2 = 0) ∧ (0 < bNp P.1 → upT P.1 (bNp P.1 - 1) = P.2.2)
def bookPC (h : Hp) (b : Nat) (P : Ps) : Prop := okQ P ∧ (hI h b 5 = nI (bNs P.1) ∧ hI h b 6 = nI (bNp P.1) ∧ hI h b 7 = nI P.2.1) ∧ wlC h (b + 1) 40 (bNk P.1) (bKz P.1) (bKl P.1) ∧ (∀ s, s < bNs P.1 → hI h (b + 65) s = nI (bWc P.1 s) ∧ hI h (b + 66) s = nI (bPg P.1 s)) ∧ (∀ s i, s < bNs P.1 → i < bWc P.1 s → hI h (b + 45 + s) i = nI (bWd P.1 s i)) ∧ (∀ i, i < P.2.1 → hI h (b + 45 + bNs P.1) i = nI (bWd P.1 (bNs P.1) i)) ∧ (∀ p, p < bNp P.1 → hI h (b + 67) p = nI (upT P.1 p))
def bookPM (h : Hp) (P : Ps) : Prop := okQ P ∧ (hI h 347 28 = nI (bNs P.1) ∧ hI h 347 29 = nI (bNk P.1) ∧ hI h 347 30 = nI (bNp P.1) ∧ hI h 347 31 = b01 (decide (P.2.2 < bNs P.1)) ∧ hI h 364 (bNs P.1) = nI P.2.1) ∧ wlM h 367 368 40 (bNk P.1) (bKz P.1) (bKl P.1) ∧ (∀ s, s < bNs P.1 → hI h 364 s = nI (bWc P.1 s) ∧ hI h 366 s = nI (bPg P.1 s)) ∧ (∀ s i, s < bNs P.1 → i < bWc P.1 s → hI h 365 (10 * s + i) = nI (bWd P.1 s i)) ∧ (∀ i, i < P.2.1 → hI h 365 (10 * bNs P.1 + i) = nI (bWd P.1 (bNs P.1) i))
/-- a word more: none, if it does not fit -/
def pWord (W : Wr) (P : Ps) : Option Ps := if bNs P.1 = 20 ∨ P.2.1 = 10 then none else match (fEnter 40 (bNk P.1) (bKz P.1) (bKl P.1) W).1 with
  | none => none
  | some k => some (mkB (bNs P.1) (bNp P.1) (fEnter 40 (bNk P.1) (bKz P.1) (bKl P.1) W).2.1 (bWc P.1) (wdAdd (bWd P.1) (bNs P.1) P.2.1 k) (bPg P.1) (fEnter 40 (bNk P.1) (bKz P.1) (bKl P.1) W).2.2.1 (fEnter 40 (bNk P.1) (bKz P.1) (bKl P.1) W).2.2.2, P.2.1 + 1, P.2.2)
def pEndS (P : Ps) : Ps := if P.2.1 = 0 then P else (mkB (bNs P.1 + 1) (bNp P.1) (bNk P.1) (zAdd (bWc P.1) (bNs P.1) P.2.1) (bWd P.1) (zAdd (bPg P.1) (bNs P.1) (bNp P.1)) (bKz P.1) (bKl P.1), 0, P.2.2)
def pEnd1 (P : Ps) : Ps := if P.2.2 < bNs P.1 then (mkB (bNs P.1) (bNp P.1 + 1) (bNk P.1) (bWc P.1) (bWd P.1) (bPg P.1) (bKz P.1) (bKl P.1), P.2.1, bNs P.1) else P
def pEndP (P : Ps) : Ps := pEnd1 (pEndS P)
def p0 : Ps := (mkB 0 0 0 (fun _ => 0) (fun _ _ => 0) (fun _ => 0) (fun _ => 0) (fun _ _ => 0), 0, 0)
theorem sm_congr {f g : Nat → Nat} {a : Nat} : ∀ {n : Nat}, (∀ i, i < n → f (a + i) = g (a + i)) → sm f a n = sm g a n
  | 0, _ => rfl
  | n + 1, h => by
    show sm f a n + f (a + n) = sm g a n + g (a + n)
    rw [sm_congr (fun i hi => h i (by omega)), h n (by omega)]
theorem sm_one {f : Nat → Nat} {a : Nat} : ∀ {n : Nat}, (∀ i, i < n → f (a + i) = 1) → sm f a n = n
  | 0, _ => rfl
  | n + 1, h => by
    show sm f a n + f (a + n) = n + 1
    rw [sm_one (fun i hi => h i (by omega)), h n (by omega)]
theorem okQ.p0 : okQ p0 := by
  refine ⟨⟨by decide, by decide, by decide, fun h => absurd h (by decide)⟩, ⟨by decide, by decide⟩, fun s hs => absurd hs (Nat.not_lt_zero s), fun s hs => absurd hs (Nat.not_lt_zero s), fun s hs => absurd hs (Nat.not_lt_zero s), fun _ => rfl, fun h => absurd h (by decide)⟩
theorem fEnter_kz {n : Nat} {z : Nat → Nat} {l : Nat → Nat → Nat} {W : Wr} (hn : n ≤ 40) (h : ∀ k, k < n → 1 ≤ z k ∧ z k ≤ 10 ∧ ∀ i, i < z k → l k i < 128) (o : okW W) (h1 : W.1 ≠ 0) :
    n ≤ (fEnter 40 n z l W).2.1 ∧ (fEnter 40 n z l W).2.1 ≤ 40 ∧ (∀ k, (fEnter 40 n z l W).1 = some k → k < (fEnter 40 n z l W).2.1) ∧ ∀ k, k < (fEnter 40 n z l W).2.1 → 1 ≤ (fEnter 40 n z l W).2.2.1 k ∧ (fEnter 40 n z l W).2.2.1 k ≤ 10 ∧ ∀ i, i < (fEnter 40 n z l W).2.2.1 k → (fEnter 40 n z l W).2.2.2 k i < 128 := by
  unfold fEnter
  cases q : fW z l W n with
  | some j => exact ⟨Nat.le_refl _, hn, fun k e => by cases e; exact fW_lt q, h⟩
  | none =>
    by_cases r : n < 40
    · simp only [if_pos r]
      refine ⟨by omega, by omega, fun k e => by cases e; omega, fun k hk => ?_⟩
      unfold zAdd lAdd
      by_cases e : k = n
      · subst e
        simp only [if_pos]
        exact ⟨by omega, o.1, fun i hi => o.2 i hi⟩
      · simp only [if_neg e]
        exact h k (by omega)
    · simp only [if_neg r]
      exact ⟨Nat.le_refl _, hn, fun k e => (by cases e), h⟩
theorem okQ.word {P P' : Ps} {W : Wr} (o : okQ P) (oW : okW W) (h1 : W.1 ≠ 0) (e : pWord W P = some P') : okQ P' := by
  unfold pWord at e
  by_cases q : bNs P.1 = 20 ∨ P.2.1 = 10
  · rw [if_pos q] at e; cases e
  · rw [if_neg q] at e
    obtain ⟨⟨o1, o2, o3, o4⟩, ⟨o5, o6⟩, o7, o8, o9, o10, o11⟩ := o
    obtain ⟨f1, f2, f3, f4⟩ := fEnter_kz o2 o9 oW h1
    cases r : (fEnter 40 (bNk P.1) (bKz P.1) (bKl P.1) W).1 with
    | none => rw [r] at e; cases e
    | some k =>
      rw [r] at e
      cases e
      refine ⟨⟨o1, f2, by show P.2.1 + 1 ≤ 10; omega, fun _ => by show bNs P.1 < 20; omega⟩, ⟨o5, o6⟩, fun s hs => ?_, fun i hi => ?_, f4, o10, o11⟩
      · have hs : s < bNs P.1 := hs
        obtain ⟨a1, a2, a3, a4, a5⟩ := o7 s hs
        refine ⟨a1, a2, a3, a4, fun i hi => ?_⟩
        show (if s = bNs P.1 ∧ i = P.2.1 then k else bWd P.1 s i) < _
        rw [if_neg (by omega)]
        exact Nat.lt_of_lt_of_le (a5 i hi) f1
      · have hi : i < P.2.1 + 1 := hi
        show (if bNs P.1 = bNs P.1 ∧ i = P.2.1 then k else bWd P.1 (bNs P.1) i) < _
        by_cases y : i = P.2.1
        · rw [if_pos ⟨rfl, y⟩]; exact f3 k r
        · rw [if_neg (by omega)]; exact Nat.lt_of_lt_of_le (o8 i (by omega)) f1
theorem upT_S {P : Ps} (o : okQ P) (h : P.2.1 ≠ 0) {p : Nat} (hp : p < bNp P.1) : upT (pEndS P).1 p = upT P.1 p := by
  unfold pEndS
  rw [if_neg h]
  show sm (fun s => if zAdd (bPg P.1) (bNs P.1) (bNp P.1) s ≤ p then 1 else 0) 0 (bNs P.1) + (if zAdd (bPg P.1) (bNs P.1) (bNp P.1) (0 + bNs P.1) ≤ p then 1 else 0) = sm _ 0 (bNs P.1)
  rw [Nat.zero_add, if_neg (by unfold zAdd; rw [if_pos rfl]; omega), Nat.add_zero]
  refine sm_congr (fun i hi => ?_)
  rw [Nat.zero_add]
  unfold zAdd
  rw [if_neg (show i ≠ bNs P.1 by omega)]
theorem okQ.endS {P : Ps} (o : okQ P) : okQ (pEndS P) := by
  by_cases q : P.2.1 = 0
  · unfold pEndS; rw [if_pos q]; exact o
  · have hup := fun {p} => @upT_S P o q p
    revert hup
    unfold pEndS; rw [if_neg q]
    intro hup
    obtain ⟨⟨o1, o2, o3, o4⟩, ⟨o5, o6⟩, o7, o8, o9, o10, o11⟩ := o
    have h20 := o4 (by omega)
    refine ⟨⟨by show bNs P.1 + 1 ≤ 20; omega, o2, by show 0 ≤ 10; omega, fun z => absurd z (Nat.lt_irrefl 0)⟩, ⟨o5, by show P.2.2 ≤ bNs P.1 + 1; omega⟩, fun s hs => ?_, fun i hi => absurd hi (Nat.not_lt_zero i), o9, o10, fun z => ?_⟩
    · have hs : s < bNs P.1 + 1 := hs
      show 1 ≤ zAdd (bWc P.1) (bNs P.1) P.2.1 s ∧ zAdd (bWc P.1) (bNs P.1) P.2.1 s ≤ 10 ∧ (s < P.2.2 → zAdd (bPg P.1) (bNs P.1) (bNp P.1) s < bNp P.1) ∧ (P.2.2 ≤ s → zAdd (bPg P.1) (bNs P.1) (bNp P.1) s = bNp P.1) ∧ ∀ i, i < zAdd (bWc P.1) (bNs P.1) P.2.1 s → bWd P.1 s i < bNk P.1
      unfold zAdd
      by_cases e : s = bNs P.1
      · subst e
        simp only [if_pos]
        exact ⟨by omega, o3, fun z => by omega, fun _ => trivial, o8⟩
      · simp only [if_neg e]
        exact o7 s (by omega)
    · have z : 0 < bNp P.1 := z
      have := hup (p := bNp P.1 - 1) (by omega)
      rw [← o11 z]
      exact this
theorem okQ.end1 {P : Ps} (o : okQ P) : okQ (pEnd1 P) := by
  unfold pEnd1
  by_cases q : P.2.2 < bNs P.1
  · rw [if_pos q]
    obtain ⟨⟨o1, o2, o3, o4⟩, ⟨o5, o6⟩, o7, o8, o9, o10, o11⟩ := o
    refine ⟨⟨o1, o2, o3, o4⟩, ⟨by show bNp P.1 + 1 ≤ bNs P.1; omega, Nat.le_refl _⟩, fun s hs => ?_, o8, o9, fun z => (by have z : bNp P.1 + 1 = 0 := z; omega), fun _ => ?_⟩
    · have hs : s < bNs P.1 := hs
      obtain ⟨a1, a2, a3, a4, a5⟩ := o7 s hs
      refine ⟨a1, a2, fun _ => ?_, fun z => (by have z : bNs P.1 ≤ s := z; omega), a5⟩
      show bPg P.1 s < bNp P.1 + 1
      by_cases y : s < P.2.2
      · have := a3 y; omega
      · have := a4 (by omega); omega
    · show sm (fun s => if bPg P.1 s ≤ bNp P.1 + 1 - 1 then 1 else 0) 0 (bNs P.1) = bNs P.1
      refine sm_one (fun i hi => ?_)
      rw [Nat.zero_add]
      obtain ⟨a1, a2, a3, a4, a5⟩ := o7 i hi
      rw [if_pos]
      by_cases y : i < P.2.2
      · have := a3 y; omega
      · have := a4 (by omega); omega
  · rw [if_neg q]; exact o
theorem pEndP_done {P : Ps} (o : okQ P) : (pEndP P).2.1 = 0 ∧ (pEndP P).2.2 = bNs (pEndP P).1 := by
  have h0 : (pEndS P).2.1 = 0 := by
    unfold pEndS; split
    · assumption
    · rfl
  have oS := o.endS
  unfold pEndP pEnd1
  split
  · exact ⟨h0, rfl⟩
  · have := oS.2.1.2
    exact ⟨h0, by omega⟩
theorem okQ.ok {P : Ps} (o : okQ P) (h : P.2.2 = bNs P.1) : okB P.1 := by
  obtain ⟨⟨o1, o2, o3, o4⟩, ⟨o5, o6⟩, o7, o8, o9, o10, o11⟩ := o
  exact ⟨o1, o2, by omega, fun s hs => ⟨(o7 s hs).1, (o7 s hs).2.1, (o7 s hs).2.2.1 (by omega), (o7 s hs).2.2.2.2⟩, o9⟩
theorem bookPC.done {h : Hp} {b : Nat} {P : Ps} (D : bookPC h b P) (hd : P.2.2 = bNs P.1) : bookC h b P.1 := by
  obtain ⟨o, ⟨d1, d2, d3⟩, d4, d5, d6, d7, d8⟩ := D
  refine ⟨o.ok hd, d1, d2, d4.2.2.1, fun s hs => ⟨(d5 s hs).1, (d5 s hs).2, fun i hi => d6 s i hs hi⟩, fun k hk => ⟨(d4.2.2.2.1 k hk).2, fun i hi => ?_⟩, d8⟩
  have := (d4.2.2.2.2 k hk i hi).2
  rwa [show b + 1 + 2 + k = b + 3 + k by omega] at this
