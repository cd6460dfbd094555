theorem m_10 (j : Nat) : (10 : Int32) * nI j = nI (10 * j) := by rw [show (10 : Int32) = nI 10 from rfl, pk_mul]
theorem m_20 (j : Nat) : (20 : Int32) * nI j = nI (20 * j) := by rw [show (20 : Int32) = nI 20 from rfl, pk_mul]
theorem m_21 (j : Nat) : (21 : Int32) * nI j = nI (21 * j) := by rw [show (21 : Int32) = nI 21 from rfl, pk_mul]
theorem m_40 (j : Nat) : (40 : Int32) * nI j = nI (40 * j) := by rw [show (40 : Int32) = nI 40 from rfl, pk_mul]
theorem m_41 (j : Nat) : (41 : Int32) * nI j = nI (41 * j) := by rw [show (41 : Int32) = nI 41 from rfl, pk_mul]
theorem m_200 (j : Nat) : (200 : Int32) * nI j = nI (200 * j) := by rw [show (200 : Int32) = nI 200 from rfl, pk_mul]
theorem m_400 (j : Nat) : (400 : Int32) * nI j = nI (400 * j) := by rw [show (400 : Int32) = nI 400 from rfl, pk_mul]
section BM
variable {w : Wd} {L : Nat} {h : Hp} {Q : Int32 → Hp → Prop} {bk : Nat → Bk} {B : Bk} {b : Nat}
theorem booksM.ok {h : Hp} (D : booksM h bk) : ∀ j, j < 2 → okB (bk j) := fun _ hj => (D.r hj).1
theorem sp_isBookM {x : Int32} (K : Q (b01 (inR x 2)) h) : AC w mX10_isBook 0 0 (rI Q) [.int x] h := by
  refine eX10_isBook (sX10_isBook_0 ⟨fun c1 => ?_, fun c1 => ⟨fun c2 => ?_, fun c2 => ?_⟩⟩)
  · subst c1; exact K
  · rw [ti_eq, t_0] at c1; rw [ti_eq, t_1] at c2
    exact Qto K (b0 (inR_f (by omega)))
  · subst c2; exact K
theorem b01_id {p : Bool} (K : Q (b01 p) h) : (b01 p = 0 → Q 0 h) ∧ (¬ b01 p = 0 → Q 1 h) := by
  cases p
  · exact ⟨fun _ => K, fun c => absurd rfl c⟩
  · exact ⟨fun c => absurd c (by decide), fun _ => K⟩
theorem sp_isSentenceM {x s : Int32} (c : Lay L h) (D : booksM h bk) (K : Q (b01 (isSn bk x s)) h) : AC w mX10_isSentence 0 0 (rI Q) [.ref 347, .int x, .int s] h := by
  refine eX10_isSentence (sX10_isSentence_0 (sp_isBookM ⟨fun c1 => ?_, fun c1 => ?_⟩))
  · rw [b01_eq] at c1
    exact Qto K (b0 (by rw [isSn, c1]; rfl))
  · rw [b01_ne] at c1
    obtain ⟨j, hj, rfl⟩ := inR_nI c1 (by decide)
    have Db := D.r hj
    have h20 := Db.1.1
    have e : isSn bk (nI j) s = inR s (bNs (bk j)) := by rw [isSn, c1, cl_nI (by omega), Bool.true_and]
    rw [e] at K
    simp only [s_347 c, r_347_5 c, s_351 c, cl_nI (show j < 2147483648 by omega), Db.2.1]
    exact ⟨trivial, by decide, trivial, vp_nI hj (by decide), sp_in32 (n := bNs (bk j)) (by decide) (toI64_sub1 (by omega)) (b01_id K)⟩
theorem sp_isWordM {x s i : Int32} (c : Lay L h) (D : booksM h bk) (K : Q (b01 (isWr bk x s i)) h) : AC w mX10_isWord 0 0 (rI Q) [.ref 347, .int x, .int s, .int i] h := by
  refine eX10_isWord (sX10_isWord_0 ⟨by rw [s_347 c], sp_isSentenceM c D ⟨fun c1 => ?_, fun c1 => ?_⟩⟩)
  · rw [b01_eq] at c1
    exact Qto K (b0 (by rw [isWr, c1]; rfl))
  · rw [b01_ne] at c1
    have c1' := c1
    obtain ⟨j, t, hj, ht, rfl, rfl⟩ := isSn_nI (fun j hj => (D.ok j hj).1) c1
    have Db := D.r hj
    have h20 := Db.1.1
    have h10 := (Db.1.2.2.2.1 t ht).2.1
    have hv := (Db.2.2.2.2.1 t ht).1
    have e : isWr bk (nI j) (nI t) i = inR i (bWc (bk j) t) := by rw [isWr, c1', Bool.true_and, cl_nI (by omega), cl_nI (by omega)]
    rw [e] at K
    simp only [s_347 c, r_347_6 c, s_352 c, m_20, nI_add, cl_nI (show 20 * j + t < 2147483648 by omega), hv]
    exact ⟨trivial, by decide, trivial, vp_nI (by omega) (by decide), sp_in32 (n := bWc (bk j) t) (by decide) (toI64_sub1 (by omega)) (b01_id K)⟩
theorem sp_isKindM {x k : Int32} (c : Lay L h) (D : booksM h bk) (K : Q (b01 (inR x 2 && inR k (bNk (bk x.toNatClampNeg)))) h) : AC w mX10_isKind 0 0 (rI Q) [.ref 347, .int x, .int k] h := by
  refine eX10_isKind (sX10_isKind_0 (sp_isBookM ⟨fun c1 => ?_, fun c1 => ?_⟩))
  · rw [b01_eq] at c1
    exact Qto K (b0 (by rw [c1]; rfl))
  · rw [b01_ne] at c1
    obtain ⟨j, hj, rfl⟩ := inR_nI c1 (by decide)
    have Db := D.r hj
    have h40 := Db.1.2.1
    rw [c1, cl_nI (by omega), Bool.true_and] at K
    simp only [s_347 c, r_347_10 c, s_356 c, cl_nI (show j < 2147483648 by omega), Db.2.2.2.1]
    exact ⟨trivial, by decide, trivial, vp_nI hj (by decide), sp_in32 (n := bNk (bk j)) (by decide) (toI64_sub1 (by omega)) (b01_id K)⟩
theorem sp_kindOf {s i : Nat} (c : Lay L h) (hb : b < 2) (D : bookM h b B) (hs : s < bNs B) (hi : i < bWc B s) (K : Q (nI (bWd B s i)) h) : AC w mX10_kindOf 0 0 (rI Q) [.ref 347, .int (nI b), .int (nI s), .int (nI i)] h := by
  have h20 := D.1.1
  have h10 := (D.1.2.2.2.1 s hs).2.1
  have hv := (D.2.2.2.2.1 s hs).2.2 i hi
  refine eX10_kindOf (sX10_kindOf_0 ?_)
  simp only [s_347 c, r_347_7 c, s_353 c, m_200, m_10, nI_add, cl_nI (show 200 * b + 10 * s + i < 2147483648 by omega), hv]
  exact ⟨trivial, by decide, trivial, vp_nI (by omega) (by decide), K⟩
theorem lengthOfM_loop {s : Nat} (c : Lay L h) (hb : b < 2) (D : bookM h b B) (hs : s < bNs B) (K : Q (nI (sLen B s)) h) :
    ∀ (d k : Nat), k + d = bWc B s → AW w mX10_lengthOf 0 0 (rI Q) 0 0 5 [some (.ref 347), some (.int (nI b)), some (.int (nI s)), some (.int (nI (sm (fun i => bKz B (bWd B s i)) 0 k))), some (.int (nI k))] [] h := by
  have h20 := D.1.1
  have hw := D.1.2.2.2.1 s hs
  have hv := (D.2.2.2.2.1 s hs).1
  intro d
  induction d with
  | zero =>
    intro k hk
    have hk : k = bWc B s := by omega
    refine sX10_lengthOf_5 ?_
    simp only [s_347 c, r_347_6 c, s_352 c, m_20, nI_add, cl_nI (show 20 * b + s < 2147483648 by omega), hv]
    refine ⟨trivial, by decide, trivial, vp_nI (by omega) (by decide), fun _ => ?_, fun c1 => ?_⟩
    · rw [hk]; exact K
    · rw [ti_le, nI_toInt (by omega), nI_toInt (by omega)] at c1
      omega
  | succ d ih =>
    intro k hk
    refine sX10_lengthOf_5 ?_
    simp only [s_347 c, r_347_6 c, s_352 c, r_347_11 c, m_20, nI_add, nI_1, cl_nI (show 20 * b + s < 2147483648 by omega), hv]
    refine ⟨trivial, by decide, trivial, vp_nI (by omega) (by decide), fun c1 => ?_, fun c1 => ?_⟩
    · rw [ti_le, nI_toInt (by omega), nI_toInt (by omega)] at c1
      omega
    · have hk40 := hw.2.2.2 k (by omega)
      have h40 := D.1.2.1
      have hz := (D.2.2.2.2.2 _ hk40).1
      refine ⟨by decide, sp_kindOf c hb D hs (by omega) ?_⟩
      simp only [s_357 c, m_40, nI_add, cl_nI (show 40 * b + bWd B s k < 2147483648 by omega), hz]
      refine ⟨trivial, vp_nI (by omega) (by decide), ?_⟩
      have := ih (k + 1) (by omega)
      have e : sm (fun i => bKz B (bWd B s i)) 0 (k + 1) = sm (fun i => bKz B (bWd B s i)) 0 k + bKz B (bWd B s k) := by
        show sm _ 0 k + bKz B (bWd B s (0 + k)) = _
        rw [Nat.zero_add]
      rw [e] at this
      exact this
theorem sp_lengthOfM {s : Nat} (c : Lay L h) (hb : b < 2) (D : bookM h b B) (hs : s < bNs B) (K : Q (nI (sLen B s)) h) : AC w mX10_lengthOf 0 0 (rI Q) [.ref 347, .int (nI b), .int (nI s)] h :=
  eX10_lengthOf (sX10_lengthOf_0 (lengthOfM_loop c hb D hs K (bWc B s) 0 (by omega)))
theorem lengthAll_loop (c : Lay L h) (hb : b < 2) (D : bookM h b B) (K : Q (nI (sm (sLen B) 0 (bNs B))) h) :
    ∀ (d k : Nat), k + d = bNs B → AW w mX10_lengthOfAll 0 0 (rI Q) 0 0 4 [some (.ref 347), some (.int (nI b)), some (.int (nI (sm (sLen B) 0 k))), some (.int (nI k))] [] h := by
  have h20 := D.1.1
  intro d
  induction d with
  | zero =>
    intro k hk
    have hk : k = bNs B := by omega
    refine sX10_lengthOfAll_4 ?_
    simp only [s_347 c, r_347_5 c, s_351 c, cl_nI (show b < 2147483648 by omega), D.2.1]
    refine ⟨trivial, by decide, trivial, vp_nI hb (by decide), fun _ => ?_, fun c1 => ?_⟩
    · rw [hk]; exact K
    · rw [ti_le, nI_toInt (by omega), nI_toInt (by omega)] at c1
      omega
  | succ d ih =>
    intro k hk
    refine sX10_lengthOfAll_4 ?_
    simp only [s_347 c, r_347_5 c, s_351 c, cl_nI (show b < 2147483648 by omega), D.2.1]
    refine ⟨trivial, by decide, trivial, vp_nI hb (by decide), fun c1 => ?_, fun c1 => ?_⟩
    · rw [ti_le, nI_toInt (by omega), nI_toInt (by omega)] at c1
      omega
    · refine sp_lengthOfM c hb D (by omega) ?_
      rw [nI_add, nI_1]
      have := ih (k + 1) (by omega)
      have e : sm (sLen B) 0 (k + 1) = sm (sLen B) 0 k + sLen B k := by
        show sm _ 0 k + sLen B (0 + k) = _
        rw [Nat.zero_add]
      rw [e] at this
      exact this
theorem sp_lengthAll (c : Lay L h) (hb : b < 2) (D : bookM h b B) (K : Q (nI (sm (sLen B) 0 (bNs B))) h) : AC w mX10_lengthOfAll 0 0 (rI Q) [.ref 347, .int (nI b)] h :=
  eX10_lengthOfAll (sX10_lengthOfAll_0 (lengthAll_loop c hb D K (bNs B) 0 (by omega)))
theorem sp_wordM {x s i : Int32} (c : Lay L h) (D : booksM h bk) (K : Q (fWord bk x s i) h) : AC w mX10_word 0 0 (rI Q) [.ref 347, .int x, .int s, .int i] h := by
  refine eX10_word (sX10_word_0 ⟨by rw [s_347 c], sp_isWordM c D ⟨fun c1 => ?_, fun c1 => ?_⟩⟩)
  · rw [b01_eq] at c1
    exact Qto K (by rw [fWord, c1]; rfl)
  · rw [b01_ne] at c1
    have c1' := c1
    obtain ⟨j, t, u, hj, ht, hu, rfl, rfl, rfl⟩ := isWr_nI D.ok c1
    have h20 := (D.ok j hj).1
    have h10 := ((D.ok j hj).2.2.2.1 t ht).2.1
    have e : fWord bk (nI j) (nI t) (nI u) = nI (bWd (bk j) t u) := by rw [fWord, if_pos c1', cl_nI (by omega), cl_nI (by omega), cl_nI (by omega)]
    exact ⟨by rw [s_347 c], sp_kindOf c hj (D.r hj) ht hu (Qto K e)⟩
theorem sp_letterM {x k i : Int32} (c : Lay L h) (D : booksM h bk) (K : Q (fLetter bk x k i) h) : AC w mX10_letter 0 0 (rI Q) [.ref 347, .int x, .int k, .int i] h := by
  refine eX10_letter (sX10_letter_0 ⟨by rw [s_347 c], sp_isKindM c D ⟨fun c1 => ?_, fun c1 => ?_⟩⟩)
  · rw [b01_ne] at c1
    have c1' := c1
    rw [Bool.and_eq_true] at c1
    obtain ⟨j, hj, rfl⟩ := inR_nI c1.1 (by decide)
    have Db := D.r hj
    have h40 := Db.1.2.1
    rw [cl_nI (by omega)] at c1
    obtain ⟨q, hq, rfl⟩ := inR_nI c1.2 (by omega)
    have hz := Db.1.2.2.2.2 q hq
    have hv := Db.2.2.2.2.2 q hq
    have e : fLetter bk (nI j) (nI q) i = fLetterAt (bk j) q i := by rw [fLetter, if_pos c1', cl_nI (by omega), cl_nI (by omega)]
    rw [e] at K
    simp only [s_347 c, r_347_11 c, s_357 c, m_40, nI_add, cl_nI (show 40 * j + q < 2147483648 by omega), hv.1]
    refine ⟨trivial, by decide, trivial, vp_nI (by omega) (by decide), sp_in32 (n := bKz (bk j) q) (by decide) (toI64_sub1 (by omega)) ⟨fun c2 => ?_, fun c2 => ?_⟩⟩
    · rw [b01_eq] at c2
      exact Qto K (by rw [fLetterAt, c2]; rfl)
    · rw [b01_ne] at c2
      obtain ⟨u, hu, rfl⟩ := inR_nI c2 (by omega)
      have e2 : fLetterAt (bk j) q (nI u) = nI (bKl (bk j) q u) := by rw [fLetterAt, if_pos c2, cl_nI (by omega)]
      simp only [s_347 c, r_347_12 c, s_358 c, m_400, m_10, nI_add, cl_nI (show 400 * j + 10 * q + u < 2147483648 by omega), hv.2 u hu]
      exact ⟨trivial, by decide, trivial, vp_nI (by omega) (by decide), Qto K e2⟩
  · rw [b01_eq] at c1
    exact Qto K (by rw [fLetter, c1]; rfl)
theorem ti_k {x : Int32} {n : Nat} (hn : n < 2147483648) : x = nI n ↔ x.toInt = n := by rw [ti_eq, nI_toInt hn]
theorem sp_sentenceM {y s x : Int32} (c : Lay L h) (D : booksM h bk) (K : Q (fSentence bk y s x) h) : AC w mX10_sentence 0 0 (rI Q) [.ref 347, .int y, .int s, .int x] h := by
  refine eX10_sentence (sX10_sentence_0 ⟨by rw [s_347 c], sp_isSentenceM c D ⟨fun c1 => ?_, fun c1 => ?_⟩⟩)
  · rw [b01_ne] at c1
    have c1' := c1
    obtain ⟨j, t, hj, ht, rfl, rfl⟩ := isSn_nI (fun j hj => (D.ok j hj).1) c1
    have Db := D.r hj
    have h20 := Db.1.1
    have hv := Db.2.2.2.2.1 t ht
    have e : fSentence bk (nI j) (nI t) x = (if x.toInt = 0 then nI (bWc (bk j) t) else if x.toInt = 1 then nI (sLen (bk j) t) else if x.toInt = 2 then nI (bPg (bk j) t) else -100002) := by rw [fSentence, if_pos c1', cl_nI (by omega), cl_nI (by omega)]
    rw [e] at K
    simp only [s_347 c, r_347_6 c, r_347_8 c, s_352 c, s_354 c, m_20, nI_add, cl_nI (show 20 * j + t < 2147483648 by omega), hv.1, hv.2.1, ti_eq, t_0, t_1, t_2]
    refine ⟨fun c2 => ⟨fun c3 => ⟨fun c4 => ?_, fun c4 => ?_⟩, fun c3 => ?_⟩, fun c2 => ?_⟩
    · rw [if_neg c2, if_neg c3, if_neg c4] at K; exact K
    · rw [if_neg c2, if_neg c3, if_pos c4] at K
      exact ⟨trivial, by decide, trivial, vp_nI (by omega) (by decide), K⟩
    · rw [if_neg c2, if_pos c3] at K
      exact ⟨trivial, sp_lengthOfM c hj Db ht K⟩
    · rw [if_pos c2] at K
      exact ⟨trivial, by decide, trivial, vp_nI (by omega) (by decide), K⟩
  · rw [b01_eq] at c1
    exact Qto K (by rw [fSentence, c1]; rfl)
theorem countM_loop {j : Nat} {x : Int32} (c : Lay L h) (hj : j < 2) (D : bookM h j B) (K : Q (if x.toInt = 0 then nI (bNs B) else if x.toInt = 1 then nI (bNp B) else if x.toInt = 2 then nI (bNk B) else if x.toInt = 3 then nI (sm (bWc B) 0 (bNs B)) else if x.toInt = 4 then nI (sm (sLen B) 0 (bNs B)) else -100002) h) :
    ∀ (d k : Nat), k + d = bNs B → AW w mX10_count 0 0 (rI Q) 0 0 15 [some (.ref 347), some (.int (nI j)), some (.int x), some (.int (nI (sm (bWc B) 0 k))), some (.int (nI k))] [] h := by
  have h20 := D.1.1
  intro d
  induction d with
  | zero =>
    intro k hk
    have hk : k = bNs B := by omega
    refine sX10_count_15 ?_
    simp only [s_347 c, r_347_5 c, s_351 c, r_347_9 c, s_355 c, r_347_10 c, s_356 c, cl_nI (show j < 2147483648 by omega), D.2.1, D.2.2.1, D.2.2.2.1]
    refine ⟨trivial, by decide, trivial, vp_nI hj (by decide), fun _ => ?_, fun c1 => ?_⟩
    · simp only [ti_eq, t_0, t_1, t_2, t_3, t_4]
      refine ⟨fun c2 => ⟨fun c3 => ⟨fun c4 => ⟨fun c5 => ⟨fun c6 => ?_, fun c6 => ?_⟩, fun c5 => ?_⟩, fun c4 => ?_⟩, fun c3 => ?_⟩, fun c2 => ?_⟩
      · rw [if_neg c2, if_neg c3, if_neg c4, if_neg c5, if_neg c6] at K; exact K
      · rw [if_neg c2, if_neg c3, if_neg c4, if_neg c5, if_pos c6] at K
        exact sp_lengthAll c hj D K
      · rw [if_neg c2, if_neg c3, if_neg c4, if_pos c5] at K
        rw [hk]; exact K
      · rw [if_neg c2, if_neg c3, if_pos c4] at K
        exact ⟨by decide, trivial, vp_nI hj (by decide), K⟩
      · rw [if_neg c2, if_pos c3] at K
        exact ⟨by decide, trivial, vp_nI hj (by decide), K⟩
      · rw [if_pos c2] at K
        exact K
    · rw [ti_le, nI_toInt (by omega), nI_toInt (by omega)] at c1
      omega
  | succ d ih =>
    intro k hk
    have hv := (D.2.2.2.2.1 k (by omega)).1
    refine sX10_count_15 ?_
    simp only [s_347 c, r_347_5 c, s_351 c, r_347_6 c, s_352 c, m_20, nI_add, nI_1, cl_nI (show j < 2147483648 by omega), cl_nI (show 20 * j + k < 2147483648 by omega), D.2.1, hv]
    refine ⟨trivial, by decide, trivial, vp_nI hj (by decide), fun c1 => ?_, fun c1 => ⟨by decide, trivial, vp_nI (by omega) (by decide), ?_⟩⟩
    · rw [ti_le, nI_toInt (by omega), nI_toInt (by omega)] at c1
      omega
    · have := ih (k + 1) (by omega)
      have e : sm (bWc B) 0 (k + 1) = sm (bWc B) 0 k + bWc B k := by
        show sm _ 0 k + bWc B (0 + k) = _
        rw [Nat.zero_add]
      rw [e] at this
      exact this
theorem sp_countM {y x : Int32} (c : Lay L h) (D : booksM h bk) (K : Q (fCount bk y x) h) : AC w mX10_count 0 0 (rI Q) [.ref 347, .int y, .int x] h := by
  refine eX10_count (sX10_count_0 (sp_isBookM ⟨fun c1 => ?_, fun c1 => ?_⟩))
  · rw [b01_ne] at c1
    have c1' := c1
    obtain ⟨j, hj, rfl⟩ := inR_nI c1 (by decide)
    have Db := D.r hj
    refine countM_loop c hj Db (Qto K ?_) (bNs (bk j)) 0 (by omega)
    rw [fCount, if_pos c1', cl_nI (by omega)]
  · rw [b01_eq] at c1
    exact Qto K (by rw [fCount, c1]; rfl)
end BM
