/-! ===== which joints may stand, the reference ===== -/
def prD (id j : Nat) : Prop := id = 369 ∨ id = 370 ∨ (id = 347 ∧ (j = 35 ∨ j = 36))
section MB
variable {w : Wd} {L : Nat} {h : Hp} {S : Ly}
theorem sp_prepare {Q : Hp → Prop} {tm : Nat → Int32} (c : Lay L h) (T : booksM h S.1) (D : shareM h (bNk (S.1 0)) (bNk (S.1 1)) S.2.2.2 tm) (K : ∀ h', Cg prD h h' → msM h' S → Q h') : AC w mX10_prepare 0 0 (rV Q) [.ref 347] h := by
  have n0 := T.1.1.1
  have n1 := T.2.1.1
  have k0 := T.1.1.2.1
  have k1 := T.2.1.2.1
  have la := sLens_le T.1.1 (show 0 + bNs (S.1 0) ≤ bNs (S.1 0) by omega)
  have lb := sLens_le T.2.1 (show 0 + bNs (S.1 1) ≤ bNs (S.1 1) by omega)
  have fin : ∀ (h' : Hp), Cg prD h h' → (∀ a, a < bNk (S.1 0) → hI h' 369 a = pOf S.2.2.2 a (bNk (S.1 1))) → (∀ s, s < bNs (S.1 0) → hI h' 370 s = nI (sLen (S.1 0) s)) → (∀ s, s < bNs (S.1 1) → hI h' 370 (20 + s) = nI (sLen (S.1 1) s)) → AW w mX10_prepare 0 0 (rV Q) 0 0 31 [some (.ref 347), some (.int (nI 2)), none] [] h' := by
    intro h' g q1 q2 q3
    have c' : Lay L h' := g.lay c (fun id j q => by unfold prD at q; omega)
    have T' : booksM h' S.1 := T.cg g (fun id j q => by unfold prD at q; omega)
    refine sX10_prepare_31 ⟨fun _ => ⟨by rw [s_347 c'], sp_lengthAll (b := 0) c' (by decide) T'.1 ⟨by rw [s_347 c'], fun h2 e2 => ?_⟩⟩, fun z => absurd (by decide) z⟩
    subst e2
    have g2 : Cg prD h (sL h' 347 35 (nI (sm (sLen (S.1 0)) 0 (bNs (S.1 0)))).toInt64) := g.sL (by unfold prD; omega)
    have c2 : Lay L (sL h' 347 35 (nI (sm (sLen (S.1 0)) 0 (bNs (S.1 0)))).toInt64) := g2.lay c (fun id j q => by unfold prD at q; omega)
    have T2 : booksM (sL h' 347 35 (nI (sm (sLen (S.1 0)) 0 (bNs (S.1 0)))).toInt64) S.1 := T.cg g2 (fun id j q => by unfold prD at q; omega)
    refine sp_lengthAll (b := 1) c2 (by decide) T2.2 ⟨by rw [s_347 c2], fun h4 e4 => ?_⟩
    subst e4
    refine K _ (g2.sL (by unfold prD; omega)) ⟨fun a ha => by rw [hI_sL, hI_sL]; exact q1 a ha, fun s hs => by rw [hI_sL, hI_sL]; exact q2 s hs, fun s hs => by rw [hI_sL, hI_sL]; exact q3 s hs, ?_, ?_⟩
    · rw [hL_ne (Or.inr (by decide)), hL_eq, nI_l (by omega)]
    · rw [hL_eq, nI_l (by omega)]
  have len1 : ∀ (d k : Nat) (h' : Hp), k + d = bNs (S.1 1) → Cg prD h h' → (∀ a, a < bNk (S.1 0) → hI h' 369 a = pOf S.2.2.2 a (bNk (S.1 1))) → (∀ s, s < bNs (S.1 0) → hI h' 370 s = nI (sLen (S.1 0) s)) → (∀ s, s < k → hI h' 370 (20 + s) = nI (sLen (S.1 1) s)) → AW w mX10_prepare 0 0 (rV Q) 0 0 38 [some (.ref 347), some (.int (nI 1)), some (.int (nI k))] [] h' := by
    intro d
    induction d with
    | zero =>
      intro k h' hk g q1 q2 q3
      have c' : Lay L h' := g.lay c (fun id j q => by unfold prD at q; omega)
      have T' : booksM h' S.1 := T.cg g (fun id j q => by unfold prD at q; omega)
      refine sX10_prepare_38 ?_
      have KK := fin h' g q1 q2 (fun s hs => q3 s (by omega))
      simp (disch := omega) only [s_347 c', r_347_5 c', s_351 c', T'.2.2.1, nI_1, cl_nI, ti_le, nI_toInt]
      repeat' (first | exact trivial | (with_reducible refine And.intro ?_ ?_) | exact vp_nI (by omega) (by omega) | exact vp_nI (j := 0) (by decide) (by decide) | exact vp_nI (j := 1) (by decide) (by decide) | decide | (exact KK) | (with_reducible intro z1; first | exact absurd trivial z1 | exact z1.elim) | (with_reducible intro z1) | omega)
    | succ d ih =>
      intro k h' hk g q1 q2 q3
      have c' : Lay L h' := g.lay c (fun id j q => by unfold prD at q; omega)
      have T' : booksM h' S.1 := T.cg g (fun id j q => by unfold prD at q; omega)
      refine sX10_prepare_38 ?_
      have nx := ih (k + 1) (sI h' 370 (20 * 1 + k) (nI (sLen (S.1 1) k))) (by omega) (g.sI (by unfold prD; omega)) (fun a ha => by rw [hI_ne (Or.inl (by decide))]; exact q1 a ha) (fun s hs => by rw [hI_ne (Or.inr (by omega))]; exact q2 s hs) (fun s hs => by
        by_cases q : s = k
        · subst q; rw [show 20 * 1 + s = 20 + s by omega, hI_eq]
        · rw [hI_ne (Or.inr (by omega))]; exact q3 s (by omega))
      have go : AC w mX10_lengthOf 0 0 (rI fun r1 h1 => (hs h1 370).1 = 1 ∧ vp_in (nI (20 * 1 + k)) (hs h1 370).2 ∧ ∀ h2, h2 = sI h1 370 (20 * 1 + k) r1 → AW w mX10_prepare 0 0 (rV Q) 0 0 38 [some (.ref 347), some (.int (nI 1)), some (.int (nI (k + 1)))] [] h2) [.ref 347, .int (nI 1), .int (nI k)] h' := sp_lengthOfM (b := 1) c' (by decide) T'.2 (by omega) ⟨by rw [s_370 c'], by rw [s_370 c']; exact vp_nI (by omega) (by decide), fun h2 e2 => by rw [e2]; exact nx⟩
      simp (disch := omega) only [s_347 c', r_347_5 c', s_351 c', r_347_34 c', T'.2.2.1, m_20, nI_add, nI_1, cl_nI, ti_le, nI_toInt]
      repeat' (first | exact trivial | (with_reducible refine And.intro ?_ ?_) | exact vp_nI (by omega) (by omega) | exact vp_nI (j := 0) (by decide) (by decide) | exact vp_nI (j := 1) (by decide) (by decide) | decide | (exact go) | (with_reducible intro z1; first | exact absurd trivial z1 | exact z1.elim) | (with_reducible intro z1) | omega)
  have len0 : ∀ (d k : Nat) (h' : Hp), k + d = bNs (S.1 0) → Cg prD h h' → (∀ a, a < bNk (S.1 0) → hI h' 369 a = pOf S.2.2.2 a (bNk (S.1 1))) → (∀ s, s < k → hI h' 370 s = nI (sLen (S.1 0) s)) → AW w mX10_prepare 0 0 (rV Q) 0 0 38 [some (.ref 347), some (.int (nI 0)), some (.int (nI k))] [] h' := by
    intro d
    induction d with
    | zero =>
      intro k h' hk g q1 q2
      have c' : Lay L h' := g.lay c (fun id j q => by unfold prD at q; omega)
      have T' : booksM h' S.1 := T.cg g (fun id j q => by unfold prD at q; omega)
      refine sX10_prepare_38 ?_
      have K1 := len1 (bNs (S.1 1)) 0 h' (by omega) g q1 (fun s hs => q2 s (by omega)) (fun s hs => by omega)
      have KK : AW w mX10_prepare 0 0 (rV Q) 0 0 31 [some (.ref 347), some (.int (nI 1)), none] [] h' := sX10_prepare_31 ⟨fun z => absurd z (by decide), fun _ => K1⟩
      simp (disch := omega) only [s_347 c', r_347_5 c', s_351 c', T'.1.2.1, nI_1, cl_nI, ti_le, nI_toInt]
      repeat' (first | exact trivial | (with_reducible refine And.intro ?_ ?_) | exact vp_nI (by omega) (by omega) | exact vp_nI (j := 0) (by decide) (by decide) | exact vp_nI (j := 1) (by decide) (by decide) | decide | (exact KK) | (with_reducible intro z1; first | exact absurd trivial z1 | exact z1.elim) | (with_reducible intro z1) | omega)
    | succ d ih =>
      intro k h' hk g q1 q2
      have c' : Lay L h' := g.lay c (fun id j q => by unfold prD at q; omega)
      have T' : booksM h' S.1 := T.cg g (fun id j q => by unfold prD at q; omega)
      refine sX10_prepare_38 ?_
      have nx := ih (k + 1) (sI h' 370 (20 * 0 + k) (nI (sLen (S.1 0) k))) (by omega) (g.sI (by unfold prD; omega)) (fun a ha => by rw [hI_ne (Or.inl (by decide))]; exact q1 a ha) (fun s hs => by
        by_cases q : s = k
        · subst q; rw [show 20 * 0 + s = s by omega, hI_eq]
        · rw [hI_ne (Or.inr (by omega))]; exact q2 s (by omega))
      have go : AC w mX10_lengthOf 0 0 (rI fun r1 h1 => (hs h1 370).1 = 1 ∧ vp_in (nI (20 * 0 + k)) (hs h1 370).2 ∧ ∀ h2, h2 = sI h1 370 (20 * 0 + k) r1 → AW w mX10_prepare 0 0 (rV Q) 0 0 38 [some (.ref 347), some (.int (nI 0)), some (.int (nI (k + 1)))] [] h2) [.ref 347, .int (nI 0), .int (nI k)] h' := sp_lengthOfM (b := 0) c' (by decide) T'.1 (by omega) ⟨by rw [s_370 c'], by rw [s_370 c']; exact vp_nI (by omega) (by decide), fun h2 e2 => by rw [e2]; exact nx⟩
      simp (disch := omega) only [s_347 c', r_347_5 c', s_351 c', r_347_34 c', T'.1.2.1, m_20, nI_add, nI_1, cl_nI, ti_le, nI_toInt]
      repeat' (first | exact trivial | (with_reducible refine And.intro ?_ ?_) | exact vp_nI (by omega) (by omega) | exact vp_nI (j := 0) (by decide) (by decide) | exact vp_nI (j := 1) (by decide) (by decide) | decide | (exact go) | (with_reducible intro z1; first | exact absurd trivial z1 | exact z1.elim) | (with_reducible intro z1) | omega)
  have prt : ∀ (d k : Nat) (h' : Hp), k + d = bNk (S.1 0) → Cg prD h h' → (∀ a, a < k → hI h' 369 a = pOf S.2.2.2 a (bNk (S.1 1))) → AW w mX10_prepare 0 0 (rV Q) 0 0 2 [some (.ref 347), some (.int (nI k)), none] [] h' := by
    intro d
    induction d with
    | zero =>
      intro k h' hk g q1
      have c' : Lay L h' := g.lay c (fun id j q => by unfold prD at q; omega)
      have T' : booksM h' S.1 := T.cg g (fun id j q => by unfold prD at q; omega)
      refine sX10_prepare_2 ?_
      have K1 := len0 (bNs (S.1 0)) 0 h' (by omega) g (fun a ha => q1 a (by omega)) (fun s hs => by omega)
      have KK : AW w mX10_prepare 0 0 (rV Q) 0 0 31 [some (.ref 347), some (.int 0), none] [] h' := sX10_prepare_31 ⟨fun z => absurd z (by decide), fun _ => K1⟩
      simp (disch := omega) only [s_347 c', r_347_10 c', s_356 c', e0c, T'.1.2.2.2.1, ti_le, nI_toInt]
      repeat' (first | exact trivial | (with_reducible refine And.intro ?_ ?_) | exact vp_nI (by omega) (by omega) | exact vp_nI (j := 0) (by decide) (by decide) | exact vp_nI (j := 1) (by decide) (by decide) | decide | (exact KK) | (with_reducible intro z1; first | exact absurd trivial z1 | exact z1.elim) | (with_reducible intro z1) | omega)
    | succ d ih =>
      intro k h' hk g q1
      have c' : Lay L h' := g.lay c (fun id j q => by unfold prD at q; omega)
      have T' : booksM h' S.1 := T.cg g (fun id j q => by unfold prD at q; omega)
      have D' : shareM h' (bNk (S.1 0)) (bNk (S.1 1)) S.2.2.2 tm := D.cg g (fun id j q => by unfold prD at q; omega)
      refine sX10_prepare_2 ?_
      have nx := ih (k + 1) (sI h' 369 k (pOf S.2.2.2 k (bNk (S.1 1)))) (by omega) (g.sI (by unfold prD; omega)) (fun a ha => by
        by_cases q : a = k
        · subst q; rw [hI_eq]
        · rw [hI_ne (Or.inr q)]; exact q1 a (by omega))
      have go : AC w mX10_partnerOf 0 0 (rI fun r1 h1 => (hs h1 369).1 = 1 ∧ vp_in (nI k) (hs h1 369).2 ∧ ∀ h2, h2 = sI h1 369 k r1 → AW w mX10_prepare 0 0 (rV Q) 0 0 2 [some (.ref 347), some (.int (nI (k + 1))), none] [] h2) [.ref 347, .int (nI k)] h' := sp_partnerOfM c' T'.2.2.2.2.1 D' (by omega) ⟨by rw [s_369 c'], by rw [s_369 c']; exact vp_nI (by omega) (by decide), fun h2 e2 => by rw [e2]; exact nx⟩
      simp (disch := omega) only [s_347 c', r_347_10 c', s_356 c', r_347_33 c', e0c, T'.1.2.2.2.1, nI_1, cl_nI, ti_le, nI_toInt]
      repeat' (first | exact trivial | (with_reducible refine And.intro ?_ ?_) | exact vp_nI (by omega) (by omega) | exact vp_nI (j := 0) (by decide) (by decide) | exact vp_nI (j := 1) (by decide) (by decide) | decide | (exact go) | (with_reducible intro z1; first | exact absurd trivial z1 | exact z1.elim) | (with_reducible intro z1) | omega)
  exact eX10_prepare (sX10_prepare_0 (prt (bNk (S.1 0)) 0 h (by omega) (Cg.rfl' h) (fun a ha => by omega)))
variable {Q : Int32 → Hp → Prop}
theorem sp_upTo {b q : Nat} {B : Bk} (c : Lay L h) (hb : b < 2) (D : bookM h b B) (hq : q < 1000) (K : Q (nI (upT B q)) h) : AC w mX10_upTo 0 0 (rI Q) [.ref 347, .int (nI b), .int (nI q)] h := by
  have n20 := D.1.1
  have lp : ∀ (d k : Nat), k + d = bNs B → AW w mX10_upTo 0 0 (rI Q) 0 0 5 [some (.ref 347), some (.int (nI b)), some (.int (nI q)), some (.int (nI (sm (fun s => if bPg B s ≤ q then 1 else 0) 0 k))), some (.int (nI k))] [] h := by
    intro d
    induction d with
    | zero =>
      intro k hk
      have hk : k = bNs B := by omega
      refine sX10_upTo_5 ?_
      have KK : Q (nI (sm (fun s => if bPg B s ≤ q then 1 else 0) 0 k)) h := by rw [hk]; exact K
      simp (disch := omega) only [s_347 c, r_347_5 c, s_351 c, D.2.1, cl_nI, ti_le, nI_toInt]
      repeat' (first | exact trivial | (with_reducible refine And.intro ?_ ?_) | exact vp_nI (by omega) (by omega) | exact vp_nI (j := 0) (by decide) (by decide) | exact vp_nI (j := 1) (by decide) (by decide) | decide | (exact KK) | (with_reducible intro z1; first | exact absurd trivial z1 | exact z1.elim) | (with_reducible intro z1) | omega)
    | succ d ih =>
      intro k hk
      have hv := D.2.2.2.2.1 k (by omega)
      have hp := D.1.2.2.2.1 k (by omega)
      have hp2 := D.1.2.2.1
      have nx := ih (k + 1) (by omega)
      have e : sm (fun s => if bPg B s ≤ q then 1 else 0) 0 (k + 1) = sm (fun s => if bPg B s ≤ q then 1 else 0) 0 k + (if bPg B k ≤ q then 1 else 0) := by
        show sm (fun s => if bPg B s ≤ q then 1 else 0) 0 k + (if bPg B (0 + k) ≤ q then 1 else 0) = _
        rw [Nat.zero_add]
      rw [e] at nx
      have x1 : q < bPg B k → AW w mX10_upTo 0 0 (rI Q) 0 0 5 [some (.ref 347), some (.int (nI b)), some (.int (nI q)), some (.int (nI (sm (fun s => if bPg B s ≤ q then 1 else 0) 0 k))), some (.int (nI (k + 1)))] [] h := fun z => by
        rw [if_neg (by omega)] at nx; exact nx
      have x2 : ¬ q < bPg B k → AW w mX10_upTo 0 0 (rI Q) 0 0 5 [some (.ref 347), some (.int (nI b)), some (.int (nI q)), some (.int (nI (sm (fun s => if bPg B s ≤ q then 1 else 0) 0 k + 1))), some (.int (nI (k + 1)))] [] h := fun z => by
        rw [if_pos (by omega)] at nx; exact nx
      refine sX10_upTo_5 ?_
      simp (disch := omega) only [s_347 c, r_347_5 c, s_351 c, r_347_8 c, s_354 c, D.2.1, m_20, hv.2.1, nI_add, nI_1, nI_a0, cl_nI, ti_le, ti_lt, nI_toInt]
      repeat' (first | exact trivial | (with_reducible refine And.intro ?_ ?_) | exact vp_nI (by omega) (by omega) | exact vp_nI (j := 0) (by decide) (by decide) | exact vp_nI (j := 1) (by decide) (by decide) | decide | (exact x1 (by omega)) | (exact x2 (by omega)) | (with_reducible intro z1; first | exact absurd trivial z1 | exact z1.elim) | (with_reducible intro z1) | omega)
  exact eX10_upTo (sX10_upTo_0 (lp (bNs B) 0 (by omega)))
theorem sp_parKept {i j i2 j2 : Nat} (c : Lay L h) (T : booksM h S.1) (h1 : i < 1000) (h2 : j < 1000) (h3 : i2 < 1000) (h4 : j2 < 1000) (K1 : parP S.1 i j i2 j2 → Q 1 h) (K0 : ¬ parP S.1 i j i2 j2 → Q 0 h) : AC w mX10_isParagraphKept 0 0 (rI Q) [.ref 347, .int (nI i), .int (nI j), .int (nI i2), .int (nI j2)] h := by
  have n0 := T.1.1.1
  have n1 := T.2.1.1
  have m0 := T.1.1.2.2.1
  have m1 := T.2.1.2.2.1
  have no : ∀ (x y : Int32), ¬ parP S.1 i j i2 j2 → AW w mX10_isParagraphKept 0 0 (rI Q) 0 0 38 [some (.ref 347), some (.int (nI i)), some (.int (nI j)), some (.int (nI i2)), some (.int (nI j2)), some (.int x), some (.int 0), some (.int y), none, none] [] h := fun x y q => sX10_isParagraphKept_38 ⟨fun _ => ⟨Or.inl rfl, K0 q⟩, fun _ => ⟨fun _ => ⟨Or.inl rfl, K0 q⟩, fun z => absurd rfl z⟩⟩
  have lp : ∀ (M : Nat), (M = bNp (S.1 0) ∨ M = bNp (S.1 1)) → M ≤ bNp (S.1 0) → M ≤ bNp (S.1 1) → ∀ (d q : Nat), q + d = M → (∀ u, u < q → (i2 ≤ upT (S.1 0) u ∧ j2 ≤ upT (S.1 1) u) ∨ (upT (S.1 0) u ≤ i ∧ upT (S.1 1) u ≤ j)) → AW w mX10_isParagraphKept 0 0 (rI Q) 0 0 38 [some (.ref 347), some (.int (nI i)), some (.int (nI j)), some (.int (nI i2)), some (.int (nI j2)), some (.int (nI M)), some (.int 1), some (.int (nI q)), none, none] [] h := by
    intro M hM hM0 hM1 d
    induction d with
    | zero =>
      intro q hq hl
      have hq : q = M := by omega
      have KK := K1 (fun u u0 u1 => hl u (by omega))
      refine sX10_isParagraphKept_38 ⟨fun _ => ⟨Or.inr rfl, KK⟩, fun z => absurd (by rw [hq]; rw [ti_le]; omega) z⟩
    | succ d ih =>
      intro q hq hl
      have u0 := upT_le (B := S.1 0) q
      have u1 := upT_le (B := S.1 1) q
      have nx : ((i2 ≤ upT (S.1 0) q ∧ j2 ≤ upT (S.1 1) q) ∨ (upT (S.1 0) q ≤ i ∧ upT (S.1 1) q ≤ j)) → AW w mX10_isParagraphKept 0 0 (rI Q) 0 0 38 [some (.ref 347), some (.int (nI i)), some (.int (nI j)), some (.int (nI i2)), some (.int (nI j2)), some (.int (nI M)), some (.int 1), some (.int (nI (q + 1))), none, none] [] h := fun z => ih (q + 1) (by omega) (fun u hu => by
        by_cases e : u = q
        · subst e; exact z
        · exact hl u (by omega))
      have bad : ¬ ((i2 ≤ upT (S.1 0) q ∧ j2 ≤ upT (S.1 1) q) ∨ (upT (S.1 0) q ≤ i ∧ upT (S.1 1) q ≤ j)) → ¬ parP S.1 i j i2 j2 := fun z f => z (f q (by omega) (by omega))
      have k81 : ¬ (i2 ≤ upT (S.1 0) q ∧ j2 ≤ upT (S.1 1) q) → AW w mX10_isParagraphKept 0 0 (rI Q) 0 0 81 [some (.ref 347), some (.int (nI i)), some (.int (nI j)), some (.int (nI i2)), some (.int (nI j2)), some (.int (nI M)), none, some (.int (nI q)), some (.int (nI (upT (S.1 0) q))), some (.int (nI (upT (S.1 1) q)))] [] h := by
        intro hy
        refine sX10_isParagraphKept_81 ?_
        rw [nI_1]
        refine ⟨fun z1 => no _ _ (bad ?_), fun z1 => ⟨fun z2 => no _ _ (bad ?_), fun z2 => nx (Or.inr ?_)⟩⟩
        · rw [ti_lt, nI_toInt (by omega), nI_toInt (by omega)] at z1; omega
        · rw [ti_lt, nI_toInt (by omega), nI_toInt (by omega)] at z2; omega
        · rw [ti_lt, nI_toInt (by omega), nI_toInt (by omega)] at z1 z2; omega
      refine sX10_isParagraphKept_38 ⟨fun z => ?_, fun _ => ⟨fun z => absurd z (by decide), fun _ => ⟨by rw [s_347 c], sp_upTo (b := 0) c (by decide) T.1 (by omega) ⟨by rw [s_347 c], sp_upTo (b := 1) c (by decide) T.2 (by omega) ⟨fun z1 => k81 ?_, fun z1 => ⟨fun z2 => ?_, fun z2 => k81 ?_⟩⟩⟩⟩⟩⟩
      · rw [ti_le, nI_toInt (by omega), nI_toInt (by omega)] at z; omega
      · rw [ti_lt, nI_toInt (by omega), nI_toInt (by omega)] at z1; omega
      · rw [ti_lt, nI_toInt (by omega), nI_toInt (by omega)] at z1
        rw [ti_le, nI_toInt (by omega), nI_toInt (by omega)] at z2
        rw [nI_1]
        exact nx (Or.inl (by omega))
      · rw [ti_le, nI_toInt (by omega), nI_toInt (by omega)] at z2; omega
  refine eX10_isParagraphKept (sX10_isParagraphKept_0 ?_)
  have g0 : hI h 355 0 = nI (bNp (S.1 0)) := T.1.2.2.1
  have g1 : hI h 355 1 = nI (bNp (S.1 1)) := T.2.2.2.1
  have y1 : bNp (S.1 1) ≤ bNp (S.1 0) → AW w mX10_isParagraphKept 0 0 (rI Q) 0 0 38 [some (.ref 347), some (.int (nI i)), some (.int (nI j)), some (.int (nI i2)), some (.int (nI j2)), some (.int (nI (bNp (S.1 1)))), some (.int 1), some (.int 0), none, none] [] h := fun z => lp (bNp (S.1 1)) (Or.inr rfl) (by omega) (Nat.le_refl _) _ 0 (Nat.zero_add _) (fun u hu => by omega)
  have y0 : ¬ bNp (S.1 1) ≤ bNp (S.1 0) → AW w mX10_isParagraphKept 0 0 (rI Q) 0 0 38 [some (.ref 347), some (.int (nI i)), some (.int (nI j)), some (.int (nI i2)), some (.int (nI j2)), some (.int (nI (bNp (S.1 0)))), some (.int 1), some (.int 0), none, none] [] h := fun z => lp (bNp (S.1 0)) (Or.inl rfl) (Nat.le_refl _) (by omega) _ 0 (Nat.zero_add _) (fun u hu => by omega)
  simp (disch := omega) only [s_347 c, r_347_9 c, s_355 c, e0c, e1c, g0, g1, ti_le, nI_toInt]
  repeat' (first | exact trivial | (with_reducible refine And.intro ?_ ?_) | exact vp_nI (by omega) (by omega) | exact vp_nI (j := 0) (by decide) (by decide) | exact vp_nI (j := 1) (by decide) (by decide) | decide | (exact y1 (by omega)) | (exact y0 (by omega)) | (with_reducible intro z1; first | exact absurd trivial z1 | exact z1.elim) | (with_reducible intro z1) | omega)
theorem sp_fastKept {p : Pr} {k i j : Nat} (c : Lay L h) (P : pairM h p) (hk : k < 7) (hi : i + lS k ≤ 20) (hj : j + rS k ≤ 20) (hi2 : i ≤ 20) (hj2 : j ≤ 20) (K1 : fastP p k i j → Q 1 h) (K0 : ¬ fastP p k i j → Q 0 h) : AC w mX10_isFastKept 0 0 (rI Q) [.ref 347, .int (nI k), .int (nI i), .int (nI j)] h := by
  have l2 := lS_le k
  have r2 := rS_le k
  have l6 : k = 6 → lS k = 2 ∧ rS k = 2 := fun e => by subst e; exact ⟨rfl, rfl⟩
  have no91 : ∀ (y : Int32), ¬ fastP p k i j → AW w mX10_isFastKept 0 0 (rI Q) 0 0 91 [some (.ref 347), some (.int (nI k)), some (.int (nI i)), some (.int (nI j)), some (.int 0), some (.int y), none] [] h := fun y q => sX10_isFastKept_91 (sp_rightOf hk ⟨fun _ => ⟨Or.inl rfl, K0 q⟩, fun _ => ⟨fun _ => ⟨Or.inl rfl, K0 q⟩, fun z => absurd rfl z⟩⟩)
  have no6 : ∀ (y : Int32), ¬ fastP p k i j → AW w mX10_isFastKept 0 0 (rI Q) 0 0 6 [some (.ref 347), some (.int (nI k)), some (.int (nI i)), some (.int (nI j)), some (.int 0), some (.int y), none] [] h := fun y q => sX10_isFastKept_6 (sp_leftOf hk ⟨fun _ => no91 _ q, fun _ => ⟨fun _ => no91 _ q, fun z => absurd rfl z⟩⟩)
  have lr : (∀ u, u < lS k → p.1 (i + u) = -1 ∨ gT k u ((p.1 (i + u)).toInt - j)) → ∀ (d v : Nat), v + d = rS k → (∀ u, u < v → p.2 (j + u) = -1 ∨ gT k ((p.2 (j + u)).toInt - i) u) → AW w mX10_isFastKept 0 0 (rI Q) 0 0 91 [some (.ref 347), some (.int (nI k)), some (.int (nI i)), some (.int (nI j)), some (.int 1), some (.int (nI (j + v))), none] [] h := by
    intro hl d
    induction d with
    | zero =>
      intro v hv hr
      have hv : v = rS k := by omega
      have KK := K1 ⟨hl, fun u hu => hr u (by omega)⟩
      refine sX10_isFastKept_91 (sp_rightOf hk ⟨fun _ => ⟨Or.inr rfl, KK⟩, fun z => absurd ?_ z⟩)
      rw [nI_add, hv, ti_le]; omega
    | succ d ih =>
      intro v hv hr
      have hp := (P.2.2 (j + v) (by omega)).2
      have bd := (okP_bd P.1 (show j + v < 20 by omega)).2
      have bo := (P.1 (j + v) (by omega)).2
      have nx : (p.2 (j + v) = -1 ∨ gT k ((p.2 (j + v)).toInt - i) v) → AW w mX10_isFastKept 0 0 (rI Q) 0 0 91 [some (.ref 347), some (.int (nI k)), some (.int (nI i)), some (.int (nI j)), some (.int 1), some (.int (nI (j + v + 1))), none] [] h := fun q => ih (v + 1) (by omega) (fun u hu => by
        by_cases e : u = v
        · subst e; exact q
        · exact hr u (by omega))
      have bad : ¬ p.2 (j + v) = -1 → ¬ gT k ((p.2 (j + v)).toInt - i) v → ¬ fastP p k i j := fun q g f => (f.2 v (by omega)).elim q g
      have neg : (p.2 (j + v)).toInt < 0 → p.2 (j + v) = -1 := fun q => by rw [ti_eq, tm_1]; omega
      have pos : ¬ (p.2 (j + v)).toInt < 0 → ¬ p.2 (j + v) = -1 := fun q e => by rw [e, tm_1] at q; omega
      have es : (nI i + 1 - (nI (j + v) - nI j)).toInt = (i : Int) + 1 - v := by rw [pk_sub (by omega), nI_1, ti_subN (by omega) (by omega)]; omega
      have ea : ∀ n, n ≤ 2 → (nI i + nI n).toInt = (i : Int) + n := fun n hn => by rw [nI_add, nI_toInt (by omega)]; omega
      refine sX10_isFastKept_91 (sp_rightOf hk ⟨fun z => ?_, fun _ => ⟨fun z => absurd z (by decide), fun _ => ?_⟩⟩)
      · rw [nI_add, ti_le, nI_toInt (by omega), nI_toInt (by omega)] at z; omega
      rw [s_347 c, r_347_14 c, s_360 c, cl_nI (by omega), hp, nI_1]
      refine ⟨rfl, by first | decide | exact vp_nI (j := 0) (by decide) (by decide) | exact vp_nI (j := 1) (by decide) (by decide), rfl, vp_nI (by omega) (by decide), fun z => ?_, fun z => ⟨fun z6 => ⟨fun y => ?_, fun y => sp_leftOf hk ⟨fun x => ?_, fun x => ?_⟩⟩, fun z6 => ⟨fun y => ?_, fun y => ?_⟩⟩⟩
      · rw [ti_lt, t_0] at z; exact nx (Or.inl (neg z))
      all_goals (rw [ti_lt, t_0] at z; have z' := pos z)
      · rw [ti_lt, nI_toInt (by omega)] at y
        exact no91 _ (bad z' (fun g => by have := g.1; omega))
      · rw [ti_le, ea _ l2] at x
        exact no91 _ (bad z' (fun g => by have := g.2.1; omega))
      · rw [ti_lt, nI_toInt (by omega)] at y
        rw [ti_le, ea _ l2] at x
        exact nx (Or.inr ⟨by omega, by omega, by omega, by omega, fun e => absurd (by rw [e]; rfl) z6⟩)
      · rw [show (6 : Int32) = nI 6 from rfl, nI_inj (by omega) (by omega)] at z6
        rw [ti_eq, es] at y
        have := l6 z6
        exact no91 _ (bad z' (fun g => by have g1 := g.1; have g2 := g.2.1; have g5 := g.2.2.2.2 z6; omega))
      · rw [show (6 : Int32) = nI 6 from rfl, nI_inj (by omega) (by omega)] at z6
        rw [ti_eq, es] at y
        have := l6 z6
        exact nx (Or.inr ⟨by omega, by omega, by omega, by omega, fun _ => by omega⟩)
  have lp : ∀ (d v : Nat), v + d = lS k → (∀ u, u < v → p.1 (i + u) = -1 ∨ gT k u ((p.1 (i + u)).toInt - j)) → AW w mX10_isFastKept 0 0 (rI Q) 0 0 6 [some (.ref 347), some (.int (nI k)), some (.int (nI i)), some (.int (nI j)), some (.int 1), some (.int (nI (i + v))), none] [] h := by
    intro d
    induction d with
    | zero =>
      intro v hv hl
      have hv : v = lS k := by omega
      have KK := lr (fun u hu => hl u (by omega)) (rS k) 0 (by omega) (fun u hu => by omega)
      refine sX10_isFastKept_6 (sp_leftOf hk ⟨fun _ => KK, fun z => absurd ?_ z⟩)
      rw [nI_add, hv, ti_le]; omega
    | succ d ih =>
      intro v hv hl
      have hp := (P.2.2 (i + v) (by omega)).1
      have bd := (okP_bd P.1 (show i + v < 20 by omega)).1
      have nx : (p.1 (i + v) = -1 ∨ gT k v ((p.1 (i + v)).toInt - j)) → AW w mX10_isFastKept 0 0 (rI Q) 0 0 6 [some (.ref 347), some (.int (nI k)), some (.int (nI i)), some (.int (nI j)), some (.int 1), some (.int (nI (i + v + 1))), none] [] h := fun q => ih (v + 1) (by omega) (fun u hu => by
        by_cases e : u = v
        · subst e; exact q
        · exact hl u (by omega))
      have bad : ¬ p.1 (i + v) = -1 → ¬ gT k v ((p.1 (i + v)).toInt - j) → ¬ fastP p k i j := fun q g f => (f.1 v (by omega)).elim q g
      have neg : (p.1 (i + v)).toInt < 0 → p.1 (i + v) = -1 := fun q => by rw [ti_eq, tm_1]; omega
      have pos : ¬ (p.1 (i + v)).toInt < 0 → ¬ p.1 (i + v) = -1 := fun q e => by rw [e, tm_1] at q; omega
      have es : (nI j + 1 - (nI (i + v) - nI i)).toInt = (j : Int) + 1 - v := by rw [pk_sub (by omega), nI_1, ti_subN (by omega) (by omega)]; omega
      have ea : ∀ n, n ≤ 2 → (nI j + nI n).toInt = (j : Int) + n := fun n hn => by rw [nI_add, nI_toInt (by omega)]; omega
      refine sX10_isFastKept_6 (sp_leftOf hk ⟨fun z => ?_, fun _ => ⟨fun z => absurd z (by decide), fun _ => ?_⟩⟩)
      · rw [nI_add, ti_le, nI_toInt (by omega), nI_toInt (by omega)] at z; omega
      rw [s_347 c, r_347_13 c, s_359 c, cl_nI (by omega), hp, nI_1]
      refine ⟨rfl, by first | decide | exact vp_nI (j := 0) (by decide) (by decide) | exact vp_nI (j := 1) (by decide) (by decide), rfl, vp_nI (by omega) (by decide), fun z => ?_, fun z => ⟨fun z6 => ⟨fun y => ?_, fun y => sp_rightOf hk ⟨fun x => ?_, fun x => ?_⟩⟩, fun z6 => ⟨fun y => ?_, fun y => ?_⟩⟩⟩
      · rw [ti_lt, t_0] at z; exact nx (Or.inl (neg z))
      all_goals (rw [ti_lt, t_0] at z; have z' := pos z)
      · rw [ti_lt, nI_toInt (by omega)] at y
        exact no6 _ (bad z' (fun g => by have := g.2.2.1; omega))
      · rw [ti_le, ea _ r2] at x
        exact no6 _ (bad z' (fun g => by have := g.2.2.2.1; omega))
      · rw [ti_lt, nI_toInt (by omega)] at y
        rw [ti_le, ea _ r2] at x
        exact nx (Or.inr ⟨by omega, by omega, by omega, by omega, fun e => absurd (by rw [e]; rfl) z6⟩)
      · rw [show (6 : Int32) = nI 6 from rfl, nI_inj (by omega) (by omega)] at z6
        rw [ti_eq, es] at y
        have := l6 z6
        exact no6 _ (bad z' (fun g => by have g1 := g.2.2.1; have g2 := g.2.2.2.1; have g5 := g.2.2.2.2 z6; omega))
      · rw [show (6 : Int32) = nI 6 from rfl, nI_inj (by omega) (by omega)] at z6
        rw [ti_eq, es] at y
        have := l6 z6
        exact nx (Or.inr ⟨by omega, by omega, by omega, by omega, fun _ => by omega⟩)
  exact eX10_isFastKept (sX10_isFastKept_0 (lp (lS k) 0 (by omega) (fun u hu => by omega)))
theorem sp_may {k i j : Nat} (c : Lay L h) (T : lyM h S) (hk : k < 7) (hi : i ≤ bNs (S.1 0)) (hj : j ≤ bNs (S.1 1)) (K1 : mayP S k i j → Q 1 h) (K0 : ¬ mayP S k i j → Q 0 h) : AC w mX10_may 0 0 (rI Q) [.ref 347, .int (nI k), .int (nI i), .int (nI j)] h := by
  obtain ⟨T, P, kp⟩ := T
  have n0 := T.1.1.1
  have n1 := T.2.1.1
  have l2 := lS_le k
  have r2 := rS_le k
  have g0 : hI h 351 0 = nI (bNs (S.1 0)) := T.1.2.1
  have g1 : hI h 351 1 = nI (bNs (S.1 1)) := T.2.2.1
  refine eX10_may (sX10_may_0 (sp_leftOf hk (sp_rightOf hk ?_)))
  rw [s_347 c, r_347_5 c, s_351 c, e0c, e1c, g0, g1, nI_add, nI_add]
  refine ⟨rfl, by first | decide | exact vp_nI (j := 0) (by decide) (by decide) | exact vp_nI (j := 1) (by decide) (by decide), rfl, by first | decide | exact vp_nI (j := 0) (by decide) (by decide) | exact vp_nI (j := 1) (by decide) (by decide), fun z => K0 (fun m => ?_), fun z => ⟨by first | decide | exact vp_nI (j := 0) (by decide) (by decide) | exact vp_nI (j := 1) (by decide) (by decide), fun z2 => K0 (fun m => ?_), fun z2 => ?_⟩⟩
  · have := m.1
    rw [ti_lt, nI_toInt (by omega), nI_toInt (by omega)] at z; omega
  · have := m.2.1
    rw [ti_lt, nI_toInt (by omega), nI_toInt (by omega)] at z2; omega
  · rw [ti_lt, nI_toInt (by omega), nI_toInt (by omega)] at z z2
    refine sp_fastKept c P hk (by omega) (by omega) (by omega) (by omega) (fun f => ⟨fun y => absurd y (by decide), fun _ => ?_⟩) (fun f => ⟨fun _ => K0 (fun m => f m.2.2.1), fun y => absurd rfl y⟩)
    rw [s_347 c, kp]
    refine ⟨rfl, fun y => ?_, fun y => ?_⟩
    · rw [b01_eq] at y
      exact K1 ⟨by omega, by omega, f, fun x => by rw [y] at x; cases x⟩
    · rw [b01_ne] at y
      exact sp_parKept c T (by omega) (by omega) (by omega) (by omega) (fun g => ⟨fun x => absurd x (by decide), fun _ => K1 ⟨by omega, by omega, f, fun _ => g⟩⟩) (fun g => ⟨fun _ => K0 (fun m => g (m.2.2.2 y)), fun x => absurd rfl x⟩)
end MB
