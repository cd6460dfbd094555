/-! ===== books: ((sentences, paragraphs, kinds), words of a sentence, kind of a word, paragraph of a sentence, letters of a kind (how many, which)) ===== -/
abbrev Bk : Type := (Nat × Nat × Nat) × (Nat → Nat) × (Nat → Nat → Nat) × (Nat → Nat) × (Nat → Nat) × (Nat → Nat → Nat)
def bNs (B : Bk) : Nat := B.1.1
def bNp (B : Bk) : Nat := B.1.2.1
def bNk (B : Bk) : Nat := B.1.2.2
def bWc (B : Bk) : Nat → Nat := B.2.1
def bWd (B : Bk) : Nat → Nat → Nat := B.2.2.1
def bPg (B : Bk) : Nat → Nat := B.2.2.2.1
def bKz (B : Bk) : Nat → Nat := B.2.2.2.2.1
def bKl (B : Bk) : Nat → Nat → Nat := B.2.2.2.2.2
def sm (f : Nat → Nat) (a : Nat) : Nat → Nat
  | 0 => 0
  | n + 1 => sm f a n + f (a + n)
theorem sm_le {f : Nat → Nat} {a n c : Nat} (h : ∀ i, i < n → f (a + i) ≤ c) : sm f a n ≤ n * c := by
  induction n with
  | zero => simp [sm]
  | succ n ih =>
    have h1 := ih (fun i hi => h i (by omega))
    have h2 := h n (by omega)
    show sm f a n + f (a + n) ≤ _
    rw [Nat.succ_mul]
    omega
/-- how many sentences are in the paragraphs up to p -/
def upT (B : Bk) (p : Nat) : Nat := sm (fun s => if bPg B s ≤ p then 1 else 0) 0 (bNs B)
def sLen (B : Bk) (s : Nat) : Nat := sm (fun i => bKz B (bWd B s i)) 0 (bWc B s)
def okB (B : Bk) : Prop := bNs B ≤ 20 ∧ bNk B ≤ 40 ∧ bNp B ≤ bNs B ∧ (∀ s, s < bNs B → 1 ≤ bWc B s ∧ bWc B s ≤ 10 ∧ bPg B s < bNp B ∧ ∀ i, i < bWc B s → bWd B s i < bNk B) ∧ (∀ k, k < bNk B → 1 ≤ bKz B k ∧ bKz B k ≤ 10 ∧ ∀ i, i < bKz B k → bKl B k i < 128)
def bookC (h : Hp) (b : Nat) (B : Bk) : Prop := okB B ∧ hI h b 5 = nI (bNs B) ∧ hI h b 6 = nI (bNp B) ∧ hI h (b + 1) 3 = nI (bNk B) ∧ (∀ s, s < bNs B → hI h (b + 65) s = nI (bWc B s) ∧ hI h (b + 66) s = nI (bPg B s) ∧ ∀ i, i < bWc B s → hI h (b + 45 + s) i = nI (bWd B s i)) ∧ (∀ k, k < bNk B → hI h (b + 43) k = nI (bKz B k) ∧ ∀ i, i < bKz B k → hI h (b + 3 + k) i = nI (bKl B k i)) ∧ (∀ p, p < bNp B → hI h (b + 67) p = nI (upT B p))
def bookM (h : Hp) (b : Nat) (B : Bk) : Prop := okB B ∧ hI h 351 b = nI (bNs B) ∧ hI h 355 b = nI (bNp B) ∧ hI h 356 b = nI (bNk B) ∧ (∀ s, s < bNs B → hI h 352 (20 * b + s) = nI (bWc B s) ∧ hI h 354 (20 * b + s) = nI (bPg B s) ∧ ∀ i, i < bWc B s → hI h 353 (200 * b + 10 * s + i) = nI (bWd B s i)) ∧ (∀ k, k < bNk B → hI h 357 (40 * b + k) = nI (bKz B k) ∧ ∀ i, i < bKz B k → hI h 358 (400 * b + 10 * k + i) = nI (bKl B k i))
/-- which objects are the two books -/
def bkO (h : Hp) (o : Nat → Nat) : Prop := (hR h 19 0 = o 0 ∧ hR h 19 1 = o 1) ∧ isBk (o 0) ∧ isBk (o 1) ∧ o 0 ≠ o 1
def booksC (h : Hp) (o : Nat → Nat) (bk : Nat → Bk) : Prop := bkO h o ∧ bookC h (o 0) (bk 0) ∧ bookC h (o 1) (bk 1)
def booksM (h : Hp) (bk : Nat → Bk) : Prop := bookM h 0 (bk 0) ∧ bookM h 1 (bk 1)
theorem booksC.r {h : Hp} {o : Nat → Nat} {bk : Nat → Bk} (b : booksC h o bk) {j : Nat} (hj : j < 2) : hR h 19 j = o j ∧ isBk (o j) ∧ bookC h (o j) (bk j) := by
  rcases (show j = 0 ∨ j = 1 by omega) with rfl | rfl
  · exact ⟨b.1.1.1, b.1.2.1, b.2.1⟩
  · exact ⟨b.1.1.2, b.1.2.2.1, b.2.2⟩
theorem booksM.r {h : Hp} {bk : Nat → Bk} (b : booksM h bk) {j : Nat} (hj : j < 2) : bookM h j (bk j) := by
  rcases (show j = 0 ∨ j = 1 by omega) with rfl | rfl
  · exact b.1
  · exact b.2
theorem isBk_pos {b : Nat} (h : isBk b) : 20 ≤ b := by rcases h with rfl | rfl | rfl <;> decide
theorem sLen_le {B : Bk} (h : okB B) {s : Nat} (hs : s < bNs B) : sLen B s ≤ 100 := by
  have h1 := h.2.2.2.1 s hs
  have : sLen B s ≤ bWc B s * 10 := sm_le (fun i hi => by
    have h2 := h1.2.2.2 i hi
    rw [Nat.zero_add]
    exact (h.2.2.2.2 _ h2).2.1)
  omega
section BC
variable {w : Wd} {L : Nat} {h : Hp} {Q : Int32 → Hp → Prop} {o : Nat → Nat} {bk : Nat → Bk} {B : Bk} {b : Nat}
def hasRn (B : Bk) (s n : Int32) : Bool := decide (n.toInt = 0 ∨ (0 ≤ s.toInt ∧ s.toInt + n.toInt ≤ bNs B))
theorem sp_hasRun {s : Int32} {n : Nat} (c : Lay L h) (hb : isBk b) (D : bookC h b B) (hn : n ≤ 2) (K : Q (b01 (hasRn B s (nI n))) h) : AC w mX0_hasRun 0 0 (rI Q) [.ref b, .int s, .int (nI n)] h := by
  have hB := D.1.1
  have hnI : (nI n).toInt = n := nI_toInt (by omega)
  have key : ∀ {p : Bool}, (p = true ↔ ((n : Int) = 0 ∨ (0 ≤ s.toInt ∧ s.toInt + n ≤ bNs B))) → b01 (hasRn B s (nI n)) = b01 p := fun {p} q => by
    congr 1
    rw [hasRn, hnI]
    cases p with
    | true => exact decide_eq_true (q.mp rfl)
    | false => exact decide_eq_false (fun z => by have := q.mpr z; cases this)
  refine eX0_hasRun (sX0_hasRun_0 ⟨fun c1 => ?_, fun c1 => ⟨fun c2 => ?_, fun c2 => ?_⟩⟩)
  · rw [nI_0' (by omega)] at c1
    exact Qto K (key (p := true) (by simp [c1]))
  · rw [nI_0' (by omega)] at c1
    rw [ti_lt, t_0] at c2
    exact Qto K (key (p := false) (by constructor; · intro z; cases z
                                      · intro z; omega))
  · rw [nI_0' (by omega)] at c1
    rw [ti_lt, t_0] at c2
    rw [D.2.1]
    have e : (nI (bNs B) - nI n).toInt = (bNs B : Int) - n := by rw [ti_sub] <;> rw [nI_toInt (by omega), hnI] <;> omega
    refine ⟨by rw [sb_this c hb], fun c3 => ?_, fun c3 => ?_⟩
    · rw [ti_lt, e] at c3
      exact Qto K (key (p := false) (by constructor; · intro z; cases z
                                        · intro z; omega))
    · rw [ti_lt, e] at c3
      exact Qto K (key (p := true) (by constructor; · intro _; right; omega
                                       · intro _; rfl))
theorem wordsOf_loop {f n : Nat} (c : Lay L h) (hb : isBk b) (D : bookC h b B) (hf : f + n ≤ bNs B) (K : Q (nI (sm (bWc B) f n)) h) :
    ∀ (d k : Nat), k + d = n → AW w mX0_wordsOf 0 0 (rI Q) 0 0 5 [some (.ref b), some (.int (nI f)), some (.int (nI n)), some (.int (nI (sm (bWc B) f k))), some (.int (nI (f + k)))] [] h := by
  have hB := D.1.1
  intro d
  induction d with
  | zero =>
    intro k hk
    have : k = n := by omega
    subst this
    refine sX0_wordsOf_5 ⟨fun _ => K, fun c1 => ?_⟩
    rw [nI_add, ti_le] at c1
    omega
  | succ d ih =>
    intro k hk
    refine sX0_wordsOf_5 ⟨fun c1 => ?_, fun c1 => ?_⟩
    · rw [nI_add, ti_le, nI_toInt (by omega), nI_toInt (by omega)] at c1
      omega
    · have hv := (D.2.2.2.2.1 (f + k) (by omega)).1
      simp only [sb_this c hb, show hR h b 2 = b + 65 from rb_0_2 c hb, sb_65 c hb, cl_nI (show f + k < 2147483648 by omega), hv, nI_add, nI_1]
      exact ⟨trivial, by omega, trivial, vp_nI (by omega) (by decide), ih (k + 1) (by omega)⟩
theorem sp_wordsOf {f n : Nat} (c : Lay L h) (hb : isBk b) (D : bookC h b B) (hf : f + n ≤ bNs B) (K : Q (nI (sm (bWc B) f n)) h) : AC w mX0_wordsOf 0 0 (rI Q) [.ref b, .int (nI f), .int (nI n)] h :=
  eX0_wordsOf (sX0_wordsOf_0 (wordsOf_loop c hb D hf K n 0 (by omega)))
theorem sp_lengthAt {k : Nat} (c : Lay L h) (hb : isBk b) (D : bookC h b B) (hk : k < bNk B) (K : Q (nI (bKz B k)) h) : AC w mX8_lengthAt 0 0 (rI Q) [.ref (b + 1), .int (nI k)] h := by
  have hB := D.1.2.1
  refine eX8_lengthAt (sX8_lengthAt_0 ?_)
  have hv := (D.2.2.2.2.2.1 k hk).1
  simp only [sb_1 c hb, rb_1_2 c hb, sb_43 c hb, cl_nI (show k < 2147483648 by omega), hv]
  exact ⟨trivial, by omega, trivial, vp_nI (by omega) (by decide), K⟩
theorem lengthOf_in {f n s a : Nat} (c : Lay L h) (hb : isBk b) (D : bookC h b B) (hs : s < bNs B) (K : AW w mX0_lengthOf 0 0 (rI Q) 0 0 5 [some (.ref b), some (.int (nI f)), some (.int (nI n)), some (.int (nI (a + sLen B s))), some (.int (nI (s + 1))), none] [] h) :
    ∀ (d k : Nat), k + d = bWc B s → AW w mX0_lengthOf 0 0 (rI Q) 0 0 16 [some (.ref b), some (.int (nI f)), some (.int (nI n)), some (.int (nI (a + sm (fun i => bKz B (bWd B s i)) 0 k))), some (.int (nI s)), some (.int (nI k))] [] h := by
  have hB := D.1.1
  have hw := D.1.2.2.2.1 s hs
  have hv := D.2.2.2.2.1 s hs
  intro d
  induction d with
  | zero =>
    intro k hk
    have hk : k = bWc B s := by omega
    refine sX0_lengthOf_16 ?_
    simp only [sb_this c hb, show hR h b 2 = b + 65 from rb_0_2 c hb, sb_65 c hb, cl_nI (show s < 2147483648 by omega), hv.1, nI_1]
    refine ⟨trivial, by omega, trivial, vp_nI (by omega) (by decide), fun _ => ?_, fun c1 => ?_⟩
    · rw [hk]; exact K
    · rw [ti_le, nI_toInt (by omega), nI_toInt (by omega)] at c1
      omega
  | succ d ih =>
    intro k hk
    refine sX0_lengthOf_16 ?_
    simp only [sb_this c hb, show hR h b 2 = b + 65 from rb_0_2 c hb, sb_65 c hb, cl_nI (show s < 2147483648 by omega), hv.1, nI_1]
    refine ⟨trivial, by omega, trivial, vp_nI (by omega) (by decide), fun c1 => ?_, fun c1 => ?_⟩
    · rw [ti_le, nI_toInt (by omega), nI_toInt (by omega)] at c1
      omega
    · have hd := hv.2.2 k (by omega)
      have hk40 := hw.2.2.2 k (by omega)
      simp only [show hR h b 0 = b + 1 from rb_0_0 c hb, show hR h b 1 = b + 44 from rb_0_1 c hb, sb_44 c hb, sb_1 c hb, rb_wd c hb (show s < 20 by omega), sb_wd c hb (show s < 20 by omega), cl_nI (show k < 2147483648 by omega), hd]
      refine ⟨by omega, by omega, trivial, vp_nI (by omega) (by decide), by omega, trivial, vp_nI (by omega) (by decide), trivial, sp_lengthAt c hb D hk40 ?_⟩
      rw [nI_add]
      have := ih (k + 1) (by omega)
      have e : a + sm (fun i => bKz B (bWd B s i)) 0 (k + 1) = a + sm (fun i => bKz B (bWd B s i)) 0 k + bKz B (bWd B s k) := by
        show a + (sm _ 0 k + bKz B (bWd B s (0 + k))) = _
        rw [Nat.zero_add]; omega
      rw [e] at this
      exact this
theorem lengthOf_out {f n : Nat} (c : Lay L h) (hb : isBk b) (D : bookC h b B) (hf : f + n ≤ bNs B) (K : Q (nI (sm (sLen B) f n)) h) :
    ∀ (d k : Nat), k + d = n → AW w mX0_lengthOf 0 0 (rI Q) 0 0 5 [some (.ref b), some (.int (nI f)), some (.int (nI n)), some (.int (nI (sm (sLen B) f k))), some (.int (nI (f + k))), none] [] h := by
  have hB := D.1.1
  intro d
  induction d with
  | zero =>
    intro k hk
    have : k = n := by omega
    subst this
    refine sX0_lengthOf_5 ⟨fun _ => K, fun c1 => ?_⟩
    rw [nI_add, ti_le] at c1
    omega
  | succ d ih =>
    intro k hk
    refine sX0_lengthOf_5 ⟨fun c1 => ?_, fun c1 => ?_⟩
    · rw [nI_add, ti_le, nI_toInt (by omega), nI_toInt (by omega)] at c1
      omega
    · exact lengthOf_in (a := sm (sLen B) f k) c hb D (by omega) (ih (k + 1) (by omega)) (bWc B (f + k)) 0 (by omega)
theorem sp_lengthOf {f n : Nat} (c : Lay L h) (hb : isBk b) (D : bookC h b B) (hf : f + n ≤ bNs B) (K : Q (nI (sm (sLen B) f n)) h) : AC w mX0_lengthOf 0 0 (rI Q) [.ref b, .int (nI f), .int (nI n)] h :=
  eX0_lengthOf (sX0_lengthOf_0 (lengthOf_out c hb D hf K n 0 (by omega)))
def fLetterAt (B : Bk) (k : Nat) (i : Int32) : Int32 := if inR i (bKz B k) = true then nI (bKl B k i.toNatClampNeg) else -1
theorem sp_letterAt {k : Nat} {i : Int32} (c : Lay L h) (hb : isBk b) (D : bookC h b B) (hk : k < bNk B) (K : Q (fLetterAt B k i) h) : AC w mX8_letterAt 0 0 (rI Q) [.ref (b + 1), .int (nI k), .int i] h := by
  have hB := D.1.2.1
  have hz := D.1.2.2.2.2 k hk
  have hv := D.2.2.2.2.2.1 k hk
  refine eX8_letterAt (sX8_letterAt_0 ⟨fun c1 => ?_, fun c1 => ?_⟩)
  · rw [ti_lt, t_0] at c1
    exact Qto K (by rw [fLetterAt, inR_f (by omega)]; rfl)
  · rw [ti_lt, t_0] at c1
    simp only [sb_1 c hb, rb_1_2 c hb, sb_43 c hb, cl_nI (show k < 2147483648 by omega), hv.1]
    refine ⟨trivial, by omega, trivial, vp_nI (by omega) (by decide), fun c2 => ?_, fun c2 => ?_⟩
    · rw [ti_le, nI_toInt (by omega)] at c2
      exact Qto K (by rw [fLetterAt, inR_f (by omega)]; rfl)
    · rw [ti_le, nI_toInt (by omega)] at c2
      obtain ⟨q, hq, rfl⟩ := ti_nI (x := i) (n := bKz B k) (by omega) (by omega) (by omega)
      have hin : inR (nI q) (bKz B k) = true := inR_lt hq (by omega)
      have e : fLetterAt B k (nI q) = nI (bKl B k q) := by rw [fLetterAt, if_pos hin, cl_nI (by omega)]
      simp only [rb_1_1 c hb, sb_2 c hb, rb_kl c hb (show k < 40 by omega), sb_kl c hb (show k < 40 by omega), cl_nI (show q < 2147483648 by omega), hv.2 q hq]
      exact ⟨by omega, trivial, vp_nI (by omega) (by decide), by omega, trivial, vp_nI (by omega) (by decide), Qto K e⟩
end BC
