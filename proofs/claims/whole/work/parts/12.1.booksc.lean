section BC2
variable {w : Wd} {L : Nat} {h : Hp} {Q : Int32 → Hp → Prop} {o : Nat → Nat} {bk : Nat → Bk}
def isSn (bk : Nat → Bk) (b s : Int32) : Bool := inR b 2 && inR s (bNs (bk b.toNatClampNeg))
def isWr (bk : Nat → Bk) (b s i : Int32) : Bool := isSn bk b s && inR i (bWc (bk b.toNatClampNeg) s.toNatClampNeg)
theorem isSn_nI {b s : Int32} (hok : ∀ j, j < 2 → bNs (bk j) ≤ 20) (h : isSn bk b s = true) : ∃ j t : Nat, j < 2 ∧ t < bNs (bk j) ∧ b = nI j ∧ s = nI t := by
  unfold isSn at h
  rw [Bool.and_eq_true] at h
  obtain ⟨j, hj, rfl⟩ := inR_nI h.1 (by decide)
  rw [cl_nI (by omega)] at h
  obtain ⟨t, ht, rfl⟩ := inR_nI h.2 (by have := hok j hj; omega)
  exact ⟨j, t, hj, ht, rfl, rfl⟩
theorem isWr_nI {b s i : Int32} (hok : ∀ j, j < 2 → okB (bk j)) (h : isWr bk b s i = true) : ∃ j t u : Nat, j < 2 ∧ t < bNs (bk j) ∧ u < bWc (bk j) t ∧ b = nI j ∧ s = nI t ∧ i = nI u := by
  unfold isWr at h
  rw [Bool.and_eq_true] at h
  obtain ⟨j, t, hj, ht, rfl, rfl⟩ := isSn_nI (fun j hj => (hok j hj).1) h.1
  have h20 := (hok j hj).1
  rw [cl_nI (by omega), cl_nI (by omega)] at h
  have h10 := ((hok j hj).2.2.2.1 t ht).2.1
  obtain ⟨u, hu, rfl⟩ := inR_nI h.2 (by omega)
  exact ⟨j, t, u, hj, ht, hu, rfl, rfl, rfl⟩
theorem booksC.ok {h : Hp} (D : booksC h o bk) : ∀ j, j < 2 → okB (bk j) := fun _ hj => (D.r hj).2.2.1
theorem sp_isSentence {b s : Int32} (c : Lay L h) (D : booksC h o bk) (K : Q (b01 (isSn bk b s)) h) : AC w mX9_isSentence 0 0 (rI Q) [.ref 5, .int b, .int s] h := by
  refine eX9_isSentence (sX9_isSentence_0 ⟨by rw [s_5 c], sp_isBook ⟨fun c1 => ?_, fun c1 => ?_⟩⟩)
  · rw [b01_eq] at c1
    exact Qto K (b0 (by rw [isSn, c1]; rfl))
  · rw [b01_ne] at c1
    obtain ⟨j, hj, rfl⟩ := inR_nI c1 (by decide)
    obtain ⟨r1, hb, Db⟩ := D.r hj
    have h20 := Db.1.1
    have hp := isBk_pos hb
    have e : isSn bk (nI j) s = hasRn (bk j) s (nI 1) := by
      rw [isSn, c1, cl_nI (by omega), Bool.true_and, inR, hasRn, nI_toInt (by decide)]
      by_cases q : 0 ≤ s.toInt ∧ s.toInt < bNs (bk j)
      · rw [decide_eq_true q, decide_eq_true (by omega)]
      · rw [decide_eq_false q, decide_eq_false (by omega)]
    rw [e] at K
    simp only [s_5 c, r_5_3 c, s_19 c, cl_nI (show j < 2147483648 by omega), r1, sb_this c hb]
    refine ⟨trivial, by decide, trivial, vp_nI hj (by decide), by omega, trivial, sp_hasRun (n := 1) c hb Db (by decide) ⟨fun c2 => ?_, fun c2 => ?_⟩⟩
    · exact Qto K c2
    · rw [b01_ne] at c2; exact Qto K (b1 c2)
theorem sp_isWord {b s i : Int32} (c : Lay L h) (D : booksC h o bk) (K : Q (b01 (isWr bk b s i)) h) : AC w mX9_isWord 0 0 (rI Q) [.ref 5, .int b, .int s, .int i] h := by
  refine eX9_isWord (sX9_isWord_0 ⟨by rw [s_5 c], sp_isSentence c D ⟨fun c1 => ?_, fun c1 => ?_⟩⟩)
  · rw [b01_eq] at c1
    exact Qto K (b0 (by rw [isWr, c1]; rfl))
  · rw [b01_ne] at c1
    have c1' := c1
    obtain ⟨j, t, hj, ht, rfl, rfl⟩ := isSn_nI (fun j hj => (D.ok j hj).1) c1
    obtain ⟨r1, hb, Db⟩ := D.r hj
    have h20 := Db.1.1
    have h10 := (Db.1.2.2.2.1 t ht).2.1
    have hp := isBk_pos hb
    have hv := (Db.2.2.2.2.1 t ht).1
    have e : isWr bk (nI j) (nI t) i = inR i (bWc (bk j) t) := by rw [isWr, c1', Bool.true_and, cl_nI (by omega), cl_nI (by omega)]
    rw [e] at K
    refine ⟨fun c2 => ?_, fun c2 => ?_⟩
    · rw [ti_lt, t_0] at c2
      exact Qto K (b0 (inR_f (by omega)))
    · rw [ti_lt, t_0] at c2
      simp only [s_5 c, r_5_3 c, s_19 c, cl_nI (show j < 2147483648 by omega), cl_nI (show t < 2147483648 by omega), r1, sb_this c hb, show hR h (o j) 2 = o j + 65 from rb_0_2 c hb, sb_65 c hb, hv]
      refine ⟨trivial, by decide, trivial, vp_nI hj (by decide), by omega, trivial, by omega, trivial, vp_nI (by omega) (by decide), fun c3 => ?_, fun c3 => ?_⟩
      · rw [ti_le, nI_toInt (by omega)] at c3
        exact Qto K (b0 (inR_f (by omega)))
      · rw [ti_le, nI_toInt (by omega)] at c3
        exact Qto K (b1 (inR_t (by omega) (by omega)))
theorem sp_isKind {j : Nat} {k : Int32} (c : Lay L h) (D : booksC h o bk) (hj : j < 2) (K : Q (b01 (inR k (bNk (bk j)))) h) : AC w mX9_isKind 0 0 (rI Q) [.ref 5, .int (nI j), .int k] h := by
  obtain ⟨r1, hb, Db⟩ := D.r hj
  have h40 := Db.1.2.1
  have hp := isBk_pos hb
  refine eX9_isKind (sX9_isKind_0 ⟨fun c1 => ?_, fun c1 => ?_⟩)
  · rw [ti_lt, t_0] at c1
    exact Qto K (b0 (inR_f (by omega)))
  · rw [ti_lt, t_0] at c1
    simp only [s_5 c, r_5_3 c, s_19 c, cl_nI (show j < 2147483648 by omega), r1, sb_this c hb, show hR h (o j) 0 = o j + 1 from rb_0_0 c hb, sb_1 c hb, Db.2.2.2.1]
    refine ⟨trivial, by decide, trivial, vp_nI hj (by decide), by omega, trivial, by omega, trivial, fun c2 => ?_, fun c2 => ?_⟩
    · rw [ti_le, nI_toInt (by omega)] at c2
      exact Qto K (b0 (inR_f (by omega)))
    · rw [ti_le, nI_toInt (by omega)] at c2
      exact Qto K (b1 (inR_t (by omega) (by omega)))
def fWord (bk : Nat → Bk) (b s i : Int32) : Int32 := if isWr bk b s i = true then nI (bWd (bk b.toNatClampNeg) s.toNatClampNeg i.toNatClampNeg) else -100001
theorem sp_word {b s i : Int32} (c : Lay L h) (D : booksC h o bk) (K : Q (fWord bk b s i) h) : AC w mX9_word 0 0 (rI Q) [.ref 5, .int b, .int s, .int i] h := by
  refine eX9_word (sX9_word_0 ⟨by rw [s_5 c], sp_isWord c D ⟨fun c1 => ?_, fun c1 => ?_⟩⟩)
  · rw [b01_ne] at c1
    have c1' := c1
    obtain ⟨j, t, u, hj, ht, hu, rfl, rfl, rfl⟩ := isWr_nI D.ok c1
    obtain ⟨r1, hb, Db⟩ := D.r hj
    have h20 := Db.1.1
    have h10 := (Db.1.2.2.2.1 t ht).2.1
    have hp := isBk_pos hb
    have hv := (Db.2.2.2.2.1 t ht).2.2 u hu
    have e : fWord bk (nI j) (nI t) (nI u) = nI (bWd (bk j) t u) := by rw [fWord, if_pos c1', cl_nI (by omega), cl_nI (by omega), cl_nI (by omega)]
    simp only [s_5 c, r_5_3 c, s_19 c, cl_nI (show j < 2147483648 by omega), cl_nI (show t < 2147483648 by omega), cl_nI (show u < 2147483648 by omega), r1, sb_this c hb, show hR h (o j) 1 = o j + 44 from rb_0_1 c hb, sb_44 c hb, rb_wd c hb (show t < 20 by omega), sb_wd c hb (show t < 20 by omega), hv]
    exact ⟨trivial, by decide, trivial, vp_nI hj (by decide), by omega, trivial, by omega, trivial, vp_nI (by omega) (by decide), by omega, trivial, vp_nI (by omega) (by decide), Qto K e⟩
  · rw [b01_eq] at c1
    exact Qto K (by rw [fWord, c1]; rfl)
def fLetter (bk : Nat → Bk) (b k i : Int32) : Int32 := if (inR b 2 && inR k (bNk (bk b.toNatClampNeg))) = true then fLetterAt (bk b.toNatClampNeg) k.toNatClampNeg i else -100001
theorem sp_letter {b k i : Int32} (c : Lay L h) (D : booksC h o bk) (K : Q (fLetter bk b k i) h) : AC w mX9_letter 0 0 (rI Q) [.ref 5, .int b, .int k, .int i] h := by
  refine eX9_letter (sX9_letter_0 ⟨by rw [s_5 c], sp_isBook ⟨fun c1 => ?_, fun c1 => ?_⟩⟩)
  · rw [b01_eq] at c1
    exact Qto K (by rw [fLetter, c1]; rfl)
  · rw [b01_ne] at c1
    obtain ⟨j, hj, rfl⟩ := inR_nI c1 (by decide)
    obtain ⟨r1, hb, Db⟩ := D.r hj
    have h40 := Db.1.2.1
    have hp := isBk_pos hb
    refine ⟨by rw [s_5 c], sp_isKind c D hj ⟨fun c2 => ?_, fun c2 => ?_⟩⟩
    · rw [b01_ne] at c2
      obtain ⟨q, hq, rfl⟩ := inR_nI c2 (by omega)
      have e : fLetter bk (nI j) (nI q) i = fLetterAt (bk j) q i := by rw [fLetter, c1, cl_nI (by omega), c2, cl_nI (by omega)]; rfl
      rw [e] at K
      simp only [s_5 c, r_5_3 c, s_19 c, cl_nI (show j < 2147483648 by omega), r1, sb_this c hb, show hR h (o j) 0 = o j + 1 from rb_0_0 c hb, sb_1 c hb]
      exact ⟨trivial, by decide, trivial, vp_nI hj (by decide), by omega, trivial, by omega, trivial, sp_letterAt c hb Db hq K⟩
    · rw [b01_eq] at c2
      exact Qto K (by rw [fLetter, c1, cl_nI (by omega), c2]; rfl)
def fSentence (bk : Nat → Bk) (b s x : Int32) : Int32 := if isSn bk b s = true then (if x.toInt = 0 then nI (bWc (bk b.toNatClampNeg) s.toNatClampNeg) else if x.toInt = 1 then nI (sLen (bk b.toNatClampNeg) s.toNatClampNeg) else if x.toInt = 2 then nI (bPg (bk b.toNatClampNeg) s.toNatClampNeg) else -100002) else -100001
theorem sm_1 (f : Nat → Nat) (a : Nat) : sm f a 1 = f a := by show 0 + f (a + 0) = f a; rw [Nat.zero_add, Nat.add_zero]
theorem sp_sentence {b s x : Int32} (c : Lay L h) (D : booksC h o bk) (K : Q (fSentence bk b s x) h) : AC w mX9_sentence 0 0 (rI Q) [.ref 5, .int b, .int s, .int x] h := by
  refine eX9_sentence (sX9_sentence_0 ⟨by rw [s_5 c], sp_isSentence c D ⟨fun c1 => ?_, fun c1 => ?_⟩⟩)
  · rw [b01_ne] at c1
    have c1' := c1
    obtain ⟨j, t, hj, ht, rfl, rfl⟩ := isSn_nI (fun j hj => (D.ok j hj).1) c1
    obtain ⟨r1, hb, Db⟩ := D.r hj
    have h20 := Db.1.1
    have hp := isBk_pos hb
    have hv := Db.2.2.2.2.1 t ht
    have e : fSentence bk (nI j) (nI t) x = (if x.toInt = 0 then nI (bWc (bk j) t) else if x.toInt = 1 then nI (sLen (bk j) t) else if x.toInt = 2 then nI (bPg (bk j) t) else -100002) := by rw [fSentence, if_pos c1', cl_nI (by omega), cl_nI (by omega)]
    rw [e] at K
    simp only [s_5 c, r_5_3 c, s_19 c, cl_nI (show j < 2147483648 by omega), cl_nI (show t < 2147483648 by omega), r1, sb_this c hb, show hR h (o j) 2 = o j + 65 from rb_0_2 c hb, show hR h (o j) 3 = o j + 66 from rb_0_3 c hb, sb_65 c hb, sb_66 c hb, hv.1, hv.2.1]
    refine ⟨fun c2 => ?_, fun c2 => ?_, fun c2 => ?_, fun c2 => ?_⟩
    · rw [if_neg (by omega), if_neg (by omega), if_neg (by omega)] at K; exact K
    · rw [if_pos c2] at K
      exact ⟨trivial, by decide, trivial, vp_nI hj (by decide), by omega, trivial, by omega, trivial, vp_nI (by omega) (by decide), K⟩
    · rw [if_neg (by omega), if_pos c2] at K
      exact ⟨trivial, by decide, trivial, vp_nI hj (by decide), by omega, trivial, sp_lengthOf (n := 1) c hb Db (by omega) (Qto K (by rw [sm_1]))⟩
    · rw [if_neg (by omega), if_neg (by omega), if_pos c2] at K
      exact ⟨trivial, by decide, trivial, vp_nI hj (by decide), by omega, trivial, by omega, trivial, vp_nI (by omega) (by decide), K⟩
  · rw [b01_eq] at c1
    exact Qto K (by rw [fSentence, c1]; rfl)
def fCount (bk : Nat → Bk) (b x : Int32) : Int32 := if inR b 2 = true then (if x.toInt = 0 then nI (bNs (bk b.toNatClampNeg)) else if x.toInt = 1 then nI (bNp (bk b.toNatClampNeg)) else if x.toInt = 2 then nI (bNk (bk b.toNatClampNeg)) else if x.toInt = 3 then nI (sm (bWc (bk b.toNatClampNeg)) 0 (bNs (bk b.toNatClampNeg))) else if x.toInt = 4 then nI (sm (sLen (bk b.toNatClampNeg)) 0 (bNs (bk b.toNatClampNeg))) else -100002) else -100001
theorem sp_count {b x : Int32} (c : Lay L h) (D : booksC h o bk) (K : Q (fCount bk b x) h) : AC w mX9_count 0 0 (rI Q) [.ref 5, .int b, .int x] h := by
  refine eX9_count (sX9_count_0 ⟨by rw [s_5 c], sp_isBook ⟨fun c1 => ?_, fun c1 => ?_⟩⟩)
  · rw [b01_ne] at c1
    have c1' := c1
    obtain ⟨j, hj, rfl⟩ := inR_nI c1 (by decide)
    obtain ⟨r1, hb, Db⟩ := D.r hj
    have h20 := Db.1.1
    have hp := isBk_pos hb
    have e : fCount bk (nI j) x = (if x.toInt = 0 then nI (bNs (bk j)) else if x.toInt = 1 then nI (bNp (bk j)) else if x.toInt = 2 then nI (bNk (bk j)) else if x.toInt = 3 then nI (sm (bWc (bk j)) 0 (bNs (bk j))) else if x.toInt = 4 then nI (sm (sLen (bk j)) 0 (bNs (bk j))) else -100002) := by rw [fCount, if_pos c1', cl_nI (by omega)]
    rw [e] at K
    simp only [s_5 c, r_5_3 c, s_19 c, cl_nI (show j < 2147483648 by omega), r1, sb_this c hb, show hR h (o j) 0 = o j + 1 from rb_0_0 c hb, sb_1 c hb, Db.2.1, Db.2.2.1, Db.2.2.2.1]
    refine ⟨fun c2 => ?_, fun c2 => ?_, fun c2 => ?_, fun c2 => ?_, fun c2 => ?_, fun c2 => ?_⟩
    · rw [if_neg (by omega), if_neg (by omega), if_neg (by omega), if_neg (by omega), if_neg (by omega)] at K; exact K
    · rw [if_pos c2] at K
      exact ⟨trivial, by decide, trivial, vp_nI hj (by decide), by omega, trivial, K⟩
    · rw [if_neg (by omega), if_pos c2] at K
      exact ⟨trivial, by decide, trivial, vp_nI hj (by decide), by omega, trivial, K⟩
    · rw [if_neg (by omega), if_neg (by omega), if_pos c2] at K
      exact ⟨trivial, by decide, trivial, vp_nI hj (by decide), by omega, trivial, by omega, trivial, K⟩
    · rw [if_neg (by omega), if_neg (by omega), if_neg (by omega), if_pos c2] at K
      exact ⟨trivial, by decide, trivial, vp_nI hj (by decide), by omega, trivial, sp_wordsOf (f := 0) c hb Db (by omega) K⟩
    · rw [if_neg (by omega), if_neg (by omega), if_neg (by omega), if_neg (by omega), if_pos c2] at K
      exact ⟨trivial, by decide, trivial, vp_nI hj (by decide), by omega, trivial, sp_lengthOf (f := 0) c hb Db (by omega) K⟩
  · rw [b01_eq] at c1
    exact Qto K (by rw [fCount, c1]; rfl)
end BC2
