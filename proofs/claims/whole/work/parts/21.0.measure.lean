/-! ===== what stays where a call changes other cells ===== -/
theorem booksC.cg {D : Nat → Nat → Prop} {h h' : Hp} {o : Nat → Nat} {bk : Nat → Bk} (B : booksC h o bk) (a : Cg D h h') (hd : ∀ id j, D id j → ¬ (20 ≤ id ∧ id ≤ 223)) : booksC h' o bk := by
  have r := a.2.2.1
  have k0 := isBk_223 B.1.2.1
  have k1 := isBk_223 B.1.2.2.1
  exact ⟨⟨⟨by rw [r]; exact B.1.1.1, by rw [r]; exact B.1.1.2⟩, B.1.2⟩, B.2.1.chg (fun id h1 h2 i => a.i (fun q => hd _ _ q (by omega))), B.2.2.chg (fun id h1 h2 i => a.i (fun q => hd _ _ q (by omega)))⟩
theorem pairC.cg {D : Nat → Nat → Prop} {h h' : Hp} {p : Pr} (T : pairC h p) (a : Cg D h h') (hd : ∀ id j, D id j → ¬ (224 ≤ id ∧ id ≤ 226)) : pairC h' p :=
  ⟨T.1, by rw [a.i (fun q => hd _ _ q (by omega))]; exact T.2.1, fun i hi => ⟨by rw [a.i (fun q => hd _ _ q (by omega))]; exact (T.2.2 i hi).1, by rw [a.i (fun q => hd _ _ q (by omega))]; exact (T.2.2 i hi).2⟩⟩
theorem shareC.cg {D : Nat → Nat → Prop} {h h' : Hp} {n0 n1 : Nat} {sh : Sh} {tm : Nat → Int32} (T : shareC h n0 n1 sh tm) (a : Cg D h h') (hd : ∀ id j, D id j → ¬ (id = 227 ∨ id = 310 ∨ (229 ≤ id ∧ id ≤ 268))) : shareC h' n0 n1 sh tm := by
  have h0 := T.1.1
  exact ⟨T.1, by rw [a.i (fun q => hd _ _ q (by omega))]; exact T.2.1, by rw [a.i (fun q => hd _ _ q (by omega))]; exact T.2.2.1, fun x hx => ⟨by rw [a.i (fun q => hd _ _ q (by omega))]; exact (T.2.2.2 x hx).1, by rw [a.i (fun q => hd _ _ q (by omega))]; exact (T.2.2.2 x hx).2.1, fun y hy => by rw [a.i (fun q => hd _ _ q (by omega))]; exact (T.2.2.2 x hx).2.2 y hy⟩⟩
theorem Cg.l {D : Nat → Nat → Prop} {h h' : Hp} (a : Cg D h h') {id j : Nat} (hd : ¬ D id j) : hL h' id j = hL h id j := (a.2.2.2 id j hd).2
theorem hL_eq {h : Hp} {a i : Nat} {v : Int64} : hL (sL h a i v) a i = v := u2_s
theorem hL_ne {h : Hp} {a i b j : Nat} {v : Int64} (q : b ≠ a ∨ j ≠ i) : hL (sL h a i v) b j = hL h b j := u2_n q
def wyD (id j : Nat) : Prop := (312 ≤ id ∧ id ≤ 322) ∨ (id = 311 ∧ (j = 11 ∨ j = 12))
theorem wyD5 {id j : Nat} (q : wyD id j) : 5 ≤ id := by unfold wyD at q; omega
/-- what laying reads -/
def lyC (h : Hp) (o : Nat → Nat) (S : Ly) : Prop := booksC h o S.1 ∧ pairC h S.2.1 ∧ hI h 311 3 = b01 S.2.2.1
theorem lyC.cg {D : Nat → Nat → Prop} {h h' : Hp} {o : Nat → Nat} {S : Ly} (T : lyC h o S) (a : Cg D h h') (hd : ∀ id j, D id j → ¬ (20 ≤ id ∧ id ≤ 226) ∧ ¬ (id = 311 ∧ j = 3)) : lyC h' o S :=
  ⟨T.1.cg a (fun id j q z => (hd id j q).1 (by omega)), T.2.1.cg a (fun id j q z => (hd id j q).1 (by omega)), by rw [a.i (fun q => (hd _ _ q).2 ⟨rfl, rfl⟩)]; exact T.2.2⟩
/-- what was measured -/
def msC (h : Hp) (S : Ly) : Prop := (∀ s, s ≤ bNs (S.1 0) → hI h 312 s = nI (sm (sLen (S.1 0)) 0 s)) ∧ (∀ s, s ≤ bNs (S.1 1) → hI h 313 s = nI (sm (sLen (S.1 1)) 0 s)) ∧ (∀ a, a < bNk (S.1 0) → (pOf S.2.2.2 a (bNk (S.1 1)) = -1 → hL h 314 a = 0) ∧ ∀ b, b < bNk (S.1 1) → pOf S.2.2.2 a (bNk (S.1 1)) = nI b → hL h 314 a = (1 : Int64) <<< ((nI b).toInt64 &&& 63)) ∧ ∀ j, j < bNs (S.1 1) → bits (hL h 315 j) (kIn (S.1 1) j 1)
theorem msC.cg {D : Nat → Nat → Prop} {h h' : Hp} {S : Ly} (T : msC h S) (a : Cg D h h') (hd : ∀ id j, D id j → ¬ (312 ≤ id ∧ id ≤ 315)) : msC h' S :=
  ⟨fun s hs => by rw [a.i (fun q => hd _ _ q (by omega))]; exact T.1 s hs, fun s hs => by rw [a.i (fun q => hd _ _ q (by omega))]; exact T.2.1 s hs, fun x hx => by rw [a.l (fun q => hd _ _ q (by omega))]; exact T.2.2.1 x hx, fun j hj => by rw [a.l (fun q => hd _ _ q (by omega))]; exact T.2.2.2 j hj⟩
section WA
variable {w : Wd} {L : Nat} {h : Hp} {o : Nat → Nat} {S : Ly} {B : Bk} {b : Nat}
theorem kindsIn_in {Q : Int64 → Hp → Prop} {f n s : Nat} {P : Nat → Bool} (c : Lay L h) (hb : isBk b) (D : bookC h b B) (hs : s < bNs B) (K : ∀ x, bits x (fun p => P p || kI1 B s p) → AW w mX0_kindsIn 0 0 (rL Q) 0 0 5 [some (.ref b), some (.int (nI f)), some (.int (nI n)), some (.long x), none, some (.int (nI (s + 1))), none] [] h) :
    ∀ (d k : Nat) (x : Int64), k + d = bWc B s → bits x (fun p => P p || anyN (fun y => bWd B s y == p) 0 k) → AW w mX0_kindsIn 0 0 (rL Q) 0 0 16 [some (.ref b), some (.int (nI f)), some (.int (nI n)), some (.long x), none, some (.int (nI s)), some (.int (nI k))] [] h := by
  have hB := D.1.1
  have h40 := D.1.2.1
  have hw := D.1.2.2.2.1 s hs
  have hv := D.2.2.2.2.1 s hs
  intro d
  induction d with
  | zero =>
    intro k x hk hx
    have hk : k = bWc B s := by omega
    refine sX0_kindsIn_16 ?_
    have KK := K x (by rw [hk] at hx; exact hx)
    simp (disch := omega) only [sb_this c hb, show hR h b 2 = b + 65 from rb_0_2 c hb, sb_65 c hb, hv.1, forall_eq, hs_sI, hs_sL, hR_sI, hR_sL, hI_eq, hI_ne, hI_sL, hL_sI, ti_lt, ti_le, ti_eq, nI_toInt, cl_nI, nI_1, nI_add, t_0, t_1, t_2, t_3, t_4, t_5, t_6, t_7, t_8, t_9, t_10, t_12, t_15, t_16, t_20, t_21, t_24, t_26, t_30, t_31, t_32, t_33, t_39, t_40, t_41, t_45, t_46, t_47, t_48, t_57, t_60, t_63, t_65, t_90, t_97, t_100, t_122, t_200, t_230, t_240, t_255, t_400, t_440, t_441, t_450, t_480, t_1580, t_1600, t_10000, t_131071, t_131072, t_1048576, t_1000000000, tm_1, tm_100001, tm_100002, tm_100003, tm_100004]
    repeat' (first | exact trivial | (with_reducible refine And.intro ?_ ?_) | exact vp_nI (by omega) (by omega) | exact vp_nI (j := 0) (by decide) (by decide) | exact vp_nI (j := 1) (by decide) (by decide) | decide | (exact KK) | (with_reducible intro z1; first | exact absurd trivial z1 | exact z1.elim) | (with_reducible intro z1) | omega)
  | succ d ih =>
    intro k x hk hx
    refine sX0_kindsIn_16 ?_
    have hd := hv.2.2 k (by omega)
    have hk40 := hw.2.2.2 k (by omega)
    have nx := ih (k + 1) (x ||| ((1 : Int64) <<< ((nI (bWd B s k)).toInt64 &&& 63))) (by omega) (bits_e (bits_or hx (bits_1 (show bWd B s k < 40 by omega))) (fun p _ => by
      show ((P p || anyN (fun y => bWd B s y == p) 0 k) || bWd B s k == p) = (P p || (anyN (fun y => bWd B s y == p) 0 k || bWd B s (0 + k) == p))
      rw [Nat.zero_add, Bool.or_assoc]))
    simp (disch := omega) only [sb_this c hb, show hR h b 2 = b + 65 from rb_0_2 c hb, show hR h b 1 = b + 44 from rb_0_1 c hb, sb_44 c hb, sb_65 c hb, rb_wd c hb (show s < 20 by omega), sb_wd c hb (show s < 20 by omega), hv.1, hd, forall_eq, hs_sI, hs_sL, hR_sI, hR_sL, hI_eq, hI_ne, hI_sL, hL_sI, ti_lt, ti_le, ti_eq, nI_toInt, cl_nI, nI_1, nI_add, t_0, t_1, t_2, t_3, t_4, t_5, t_6, t_7, t_8, t_9, t_10, t_12, t_15, t_16, t_20, t_21, t_24, t_26, t_30, t_31, t_32, t_33, t_39, t_40, t_41, t_45, t_46, t_47, t_48, t_57, t_60, t_63, t_65, t_90, t_97, t_100, t_122, t_200, t_230, t_240, t_255, t_400, t_440, t_441, t_450, t_480, t_1580, t_1600, t_10000, t_131071, t_131072, t_1048576, t_1000000000, tm_1, tm_100001, tm_100002, tm_100003, tm_100004]
    repeat' (first | exact trivial | (with_reducible refine And.intro ?_ ?_) | exact vp_nI (by omega) (by omega) | exact vp_nI (j := 0) (by decide) (by decide) | exact vp_nI (j := 1) (by decide) (by decide) | decide | (exact nx) | (with_reducible intro z1; first | exact absurd trivial z1 | exact z1.elim) | (with_reducible intro z1) | omega)
theorem sp_kindsIn {Q : Int64 → Hp → Prop} {f n : Nat} (c : Lay L h) (hb : isBk b) (D : bookC h b B) (hf : f + n ≤ bNs B) (K : ∀ x, bits x (kIn B f n) → Q x h) : AC w mX0_kindsIn 0 0 (rL Q) [.ref b, .int (nI f), .int (nI n)] h := by
  have hB := D.1.1
  have lp : ∀ (d k : Nat) (x : Int64), k + d = n → bits x (kIn B f k) → AW w mX0_kindsIn 0 0 (rL Q) 0 0 5 [some (.ref b), some (.int (nI f)), some (.int (nI n)), some (.long x), none, some (.int (nI (f + k))), none] [] h := by
    intro d
    induction d with
    | zero =>
      intro k x hk hx
      have hk : k = n := by omega
      rw [hk] at hx
      refine sX0_kindsIn_5 ⟨fun _ => K x hx, fun c1 => ?_⟩
      rw [nI_add, ti_le, hk] at c1
      omega
    | succ d ih =>
      intro k x hk hx
      refine sX0_kindsIn_5 ⟨fun c1 => ?_, fun c1 => ?_⟩
      · rw [nI_add, ti_le, nI_toInt (by omega), nI_toInt (by omega)] at c1
        omega
      · refine kindsIn_in (P := kIn B f k) c hb D (show f + k < bNs B by omega) (fun y hy => ih (k + 1) y (by omega) hy) (bWc B (f + k)) 0 x (by omega) (bits_e hx (fun p _ => ?_))
        show kIn B f k p = (kIn B f k p || false)
        rw [Bool.or_false]
  exact eX0_kindsIn (sX0_kindsIn_0 (lp n 0 0 (by omega) bits_0))
theorem sp_addUp {Q : Hp → Prop} {a1 : Nat} (c : Lay L h) (hb : isBk b) (D : bookC h b B) (ha : a1 = 312 ∨ a1 = 313) (K : ∀ h', Cg (fun id _ => id = a1) h h' → (∀ s, s ≤ bNs B → hI h' a1 s = nI (sm (sLen B) 0 s)) → Q h') : AC w mX7_addUpLengths 0 0 (rV Q) [.ref b, .ref a1] h := by
  have hB := D.1.1
  have hbb := isBk_223 hb
  have sa : ∀ {h' : Hp}, Lay L h' → hs h' a1 = (1, 21) := fun c' => by rcases ha with e | e <;> subst e <;> first | exact s_312 c' | exact s_313 c'
  have lp : ∀ (d k : Nat) (h' : Hp), k + d = bNs B → Cg (fun id _ => id = a1) h h' → (∀ s, s ≤ k → hI h' a1 s = nI (sm (sLen B) 0 s)) → AW w mX7_addUpLengths 0 0 (rV Q) 0 0 6 [some (.ref b), some (.ref a1), some (.int (nI k))] [] h' := by
    intro d
    induction d with
    | zero =>
      intro k h' hk g e
      have hk : k = bNs B := by omega
      have c' : Lay L h' := g.lay c (fun id j q => by omega)
      have D' : bookC h' b B := D.chg (fun id h1 h2 i => g.i (by omega))
      refine sX7_addUpLengths_6 ?_
      have KK := K h' g (fun s hs => e s (by omega))
      simp (disch := omega) only [sb_this c' hb, D'.2.1, forall_eq, hs_sI, hs_sL, hR_sI, hR_sL, hI_eq, hI_ne, hI_sL, hL_sI, ti_lt, ti_le, ti_eq, nI_toInt, cl_nI, nI_1, nI_add, t_0, t_1, t_2, t_3, t_4, t_5, t_6, t_7, t_8, t_9, t_10, t_12, t_15, t_16, t_20, t_21, t_24, t_26, t_30, t_31, t_32, t_33, t_39, t_40, t_41, t_45, t_46, t_47, t_48, t_57, t_60, t_63, t_65, t_90, t_97, t_100, t_122, t_200, t_230, t_240, t_255, t_400, t_440, t_441, t_450, t_480, t_1580, t_1600, t_10000, t_131071, t_131072, t_1048576, t_1000000000, tm_1, tm_100001, tm_100002, tm_100003, tm_100004]
      repeat' (first | exact trivial | (with_reducible refine And.intro ?_ ?_) | exact vp_nI (by omega) (by omega) | exact vp_nI (j := 0) (by decide) (by decide) | exact vp_nI (j := 1) (by decide) (by decide) | decide | (exact KK) | (with_reducible intro z1; first | exact absurd trivial z1 | exact z1.elim) | (with_reducible intro z1) | omega)
    | succ d ih =>
      intro k h' hk g e
      have c' : Lay L h' := g.lay c (fun id j q => by omega)
      have D' : bookC h' b B := D.chg (fun id h1 h2 i => g.i (by omega))
      refine sX7_addUpLengths_6 ?_
      have nx := ih (k + 1) (sI h' a1 (k + 1) (nI (sm (sLen B) 0 (k + 1)))) (by omega) (g.sI rfl) (fun s hs => by
        by_cases q : s = k + 1
        · subst q; rw [hI_eq]
        · rw [hI_ne (Or.inr q)]; exact e s (by omega))
      have e1 : nI (sm (sLen B) 0 k) + nI (sm (sLen B) k 1) = nI (sm (sLen B) 0 (k + 1)) := by rw [nI_add, sm_add]
      rw [show (1 : Int32) = nI 1 from rfl]
      refine ⟨by rw [sb_this c' hb], fun z => ?_, fun _ => ⟨by rw [sa c'], by rw [sa c']; exact vp_nI (by omega) (by decide), sp_lengthOf c' hb D' (by omega) ?_⟩⟩
      · rw [D'.2.1, ti_le, nI_toInt (by omega), nI_toInt (by omega)] at z; omega
      · simp (disch := omega) only [sa c', e k (Nat.le_refl k), e1, forall_eq, hs_sI, hs_sL, hR_sI, hR_sL, hI_eq, hI_ne, hI_sL, hL_sI, ti_lt, ti_le, ti_eq, nI_toInt, cl_nI, nI_1, nI_add, t_0, t_1, t_2, t_3, t_4, t_5, t_6, t_7, t_8, t_9, t_10, t_12, t_15, t_16, t_20, t_21, t_24, t_26, t_30, t_31, t_32, t_33, t_39, t_40, t_41, t_45, t_46, t_47, t_48, t_57, t_60, t_63, t_65, t_90, t_97, t_100, t_122, t_200, t_230, t_240, t_255, t_400, t_440, t_441, t_450, t_480, t_1580, t_1600, t_10000, t_131071, t_131072, t_1048576, t_1000000000, tm_1, tm_100001, tm_100002, tm_100003, tm_100004]
        exact ⟨trivial, vp_nI (by omega) (by decide), nx⟩
  refine eX7_addUpLengths (sX7_addUpLengths_0 ?_)
  have st := lp (bNs B) 0 (sI h a1 0 0) (by omega) ((Cg.rfl' h).sI rfl) (fun s hs => by
    have : s = 0 := by omega
    subst this; rw [hI_eq]; rfl)
  simp (disch := omega) only [sa c, e0c, forall_eq, hs_sI, hs_sL, hR_sI, hR_sL, hI_eq, hI_ne, hI_sL, hL_sI, ti_lt, ti_le, ti_eq, nI_toInt, cl_nI, nI_1, nI_add, t_0, t_1, t_2, t_3, t_4, t_5, t_6, t_7, t_8, t_9, t_10, t_12, t_15, t_16, t_20, t_21, t_24, t_26, t_30, t_31, t_32, t_33, t_39, t_40, t_41, t_45, t_46, t_47, t_48, t_57, t_60, t_63, t_65, t_90, t_97, t_100, t_122, t_200, t_230, t_240, t_255, t_400, t_440, t_441, t_450, t_480, t_1580, t_1600, t_10000, t_131071, t_131072, t_1048576, t_1000000000, tm_1, tm_100001, tm_100002, tm_100003, tm_100004]
  exact ⟨trivial, vp_nI (j := 0) (by decide) (by decide), st⟩
theorem sp_measure {Q : Hp → Prop} {tm : Nat → Int32} (c : Lay L h) (T : booksC h o S.1) (D : shareC h (bNk (S.1 0)) (bNk (S.1 1)) S.2.2.2 tm) (K : ∀ h', Cg (fun id _ => 312 ≤ id ∧ id ≤ 315) h h' → msC h' S → Q h') : AC w mX7_measure 0 0 (rV Q) [.ref 311] h := by
  have hb0 := T.1.2.1
  have hb1 := T.1.2.2.1
  have n0 := T.2.1.1.1
  have n1 := T.2.2.1.1
  have k0 := T.2.1.1.2.1
  have k1 := T.2.2.1.2.1
  refine eX7_measure (sX7_measure_0 ?_)
  have e0 : hR h 19 0 = o 0 := T.1.1.1
  simp (disch := omega) only [s_311 c, r_311_0 c, s_19 c, r_311_4 c, e0c, e0]
  have b0 := isBk_223 hb0
  refine ⟨trivial, by first | decide | exact vp_nI (j := 0) (by decide) (by decide) | exact vp_nI (j := 1) (by decide) (by decide), trivial, by first | decide | exact vp_nI (j := 0) (by decide) (by decide) | exact vp_nI (j := 1) (by decide) (by decide), by omega, by first | decide | exact vp_nI (j := 0) (by decide) (by decide) | exact vp_nI (j := 1) (by decide) (by decide), sp_addUp c hb0 T.2.1 (Or.inl rfl) (fun h1 g1 m1 => ?_)⟩
  have c1 : Lay L h1 := g1.lay c (fun id j q => by omega)
  have T1 : booksC h1 o S.1 := T.cg g1 (fun id j q => by omega)
  have e1 : hR h1 19 1 = o 1 := T1.1.1.2
  have b1 := isBk_223 hb1
  simp (disch := omega) only [s_311 c1, r_311_0 c1, s_19 c1, r_311_5 c1, e1c, e1]
  refine ⟨trivial, by first | decide | exact vp_nI (j := 0) (by decide) (by decide) | exact vp_nI (j := 1) (by decide) (by decide), trivial, by first | decide | exact vp_nI (j := 0) (by decide) (by decide) | exact vp_nI (j := 1) (by decide) (by decide), by omega, by first | decide | exact vp_nI (j := 0) (by decide) (by decide) | exact vp_nI (j := 1) (by decide) (by decide), sp_addUp c1 hb1 T1.2.2 (Or.inr rfl) (fun h2 g2 m2 => ?_)⟩
  have g12 : Cg (fun id _ => 312 ≤ id ∧ id ≤ 315) h h2 := (g1.mono (fun id j q => by omega)).trans (g2.mono (fun id j q => by omega))
  have m1' : ∀ s, s ≤ bNs (S.1 0) → hI h2 312 s = nI (sm (sLen (S.1 0)) 0 s) := fun s hs => by rw [g2.i (by omega)]; exact m1 s hs
  -- the right kinds
  have lr : ∀ (d k : Nat) (h' : Hp), k + d = bNs (S.1 1) → Cg (fun id _ => 312 ≤ id ∧ id ≤ 315) h h' → (∀ s, s ≤ bNs (S.1 0) → hI h' 312 s = nI (sm (sLen (S.1 0)) 0 s)) → (∀ s, s ≤ bNs (S.1 1) → hI h' 313 s = nI (sm (sLen (S.1 1)) 0 s)) → (∀ a, a < bNk (S.1 0) → (pOf S.2.2.2 a (bNk (S.1 1)) = -1 → hL h' 314 a = 0) ∧ ∀ b, b < bNk (S.1 1) → pOf S.2.2.2 a (bNk (S.1 1)) = nI b → hL h' 314 a = (1 : Int64) <<< ((nI b).toInt64 &&& 63)) → (∀ j, j < k → bits (hL h' 315 j) (kIn (S.1 1) j 1)) → AW w mX7_measure 0 0 (rV Q) 0 0 79 [some (.ref 311), some (.int (nI k)), none] [] h' := by
    intro d
    induction d with
    | zero =>
      intro k h' hk g q1 q2 q3 q4
      have c' : Lay L h' := g.lay c (fun id j q => by omega)
      have T' : booksC h' o S.1 := T.cg g (fun id j q => by omega)
      have e1 : hR h' 19 1 = o 1 := T'.1.1.2
      refine sX7_measure_79 ?_
      have KK := K h' g ⟨q1, q2, q3, fun j hj => q4 j (by omega)⟩
      simp (disch := omega) only [s_311 c', r_311_0 c', s_19 c', e1c, e1, sb_this c' hb1, T'.2.2.2.1, forall_eq, hs_sI, hs_sL, hR_sI, hR_sL, hI_eq, hI_ne, hI_sL, hL_sI, ti_lt, ti_le, ti_eq, nI_toInt, cl_nI, nI_1, nI_add, t_0, t_1, t_2, t_3, t_4, t_5, t_6, t_7, t_8, t_9, t_10, t_12, t_15, t_16, t_20, t_21, t_24, t_26, t_30, t_31, t_32, t_33, t_39, t_40, t_41, t_45, t_46, t_47, t_48, t_57, t_60, t_63, t_65, t_90, t_97, t_100, t_122, t_200, t_230, t_240, t_255, t_400, t_440, t_441, t_450, t_480, t_1580, t_1600, t_10000, t_131071, t_131072, t_1048576, t_1000000000, tm_1, tm_100001, tm_100002, tm_100003, tm_100004]
      repeat' (first | exact trivial | (with_reducible refine And.intro ?_ ?_) | exact vp_nI (by omega) (by omega) | exact vp_nI (j := 0) (by decide) (by decide) | exact vp_nI (j := 1) (by decide) (by decide) | decide | (exact KK) | (with_reducible intro z1; first | exact absurd trivial z1 | exact z1.elim) | (with_reducible intro z1) | omega)
    | succ d ih =>
      intro k h' hk g q1 q2 q3 q4
      have c' : Lay L h' := g.lay c (fun id j q => by omega)
      have T' : booksC h' o S.1 := T.cg g (fun id j q => by omega)
      have e1 : hR h' 19 1 = o 1 := T'.1.1.2
      refine sX7_measure_79 ?_
      simp (disch := omega) only [s_311 c', r_311_0 c', s_19 c', e1c, e1, sb_this c' hb1, r_311_7 c']
      refine ⟨trivial, by first | decide | exact vp_nI (j := 0) (by decide) (by decide) | exact vp_nI (j := 1) (by decide) (by decide), trivial, by first | decide | exact vp_nI (j := 0) (by decide) (by decide) | exact vp_nI (j := 1) (by decide) (by decide), by omega, trivial, fun z => ?_, fun _ => ⟨by first | decide | exact vp_nI (j := 0) (by decide) (by decide) | exact vp_nI (j := 1) (by decide) (by decide), sp_kindsIn (n := 1) c' hb1 T'.2.2 (by omega) (fun x hx => ?_)⟩⟩
      · rw [T'.2.2.2.1, ti_le, nI_toInt (by omega), nI_toInt (by omega)] at z; omega
      · have nx := ih (k + 1) (sL h' 315 k x) (by omega) (g.sL (by omega)) (fun s hs => by rw [hI_sL]; exact q1 s hs) (fun s hs => by rw [hI_sL]; exact q2 s hs) (fun a ha => by rw [hL_ne (Or.inl (by decide))]; exact q3 a ha) (fun j hj => by
          by_cases q : j = k
          · subst q; rw [hL_eq]; exact hx
          · rw [hL_ne (Or.inr q)]; exact q4 j (by omega))
        simp (disch := omega) only [s_315 c', forall_eq, hs_sI, hs_sL, hR_sI, hR_sL, hI_eq, hI_ne, hI_sL, hL_sI, ti_lt, ti_le, ti_eq, nI_toInt, cl_nI, nI_1, nI_add, t_0, t_1, t_2, t_3, t_4, t_5, t_6, t_7, t_8, t_9, t_10, t_12, t_15, t_16, t_20, t_21, t_24, t_26, t_30, t_31, t_32, t_33, t_39, t_40, t_41, t_45, t_46, t_47, t_48, t_57, t_60, t_63, t_65, t_90, t_97, t_100, t_122, t_200, t_230, t_240, t_255, t_400, t_440, t_441, t_450, t_480, t_1580, t_1600, t_10000, t_131071, t_131072, t_1048576, t_1000000000, tm_1, tm_100001, tm_100002, tm_100003, tm_100004]
        exact ⟨trivial, vp_nI (by omega) (by decide), nx⟩
  have lp : ∀ (d k : Nat) (h' : Hp), k + d = bNk (S.1 0) → Cg (fun id _ => 312 ≤ id ∧ id ≤ 315) h h' → (∀ s, s ≤ bNs (S.1 0) → hI h' 312 s = nI (sm (sLen (S.1 0)) 0 s)) → (∀ s, s ≤ bNs (S.1 1) → hI h' 313 s = nI (sm (sLen (S.1 1)) 0 s)) → (∀ a, a < k → (pOf S.2.2.2 a (bNk (S.1 1)) = -1 → hL h' 314 a = 0) ∧ ∀ b, b < bNk (S.1 1) → pOf S.2.2.2 a (bNk (S.1 1)) = nI b → hL h' 314 a = (1 : Int64) <<< ((nI b).toInt64 &&& 63)) → AW w mX7_measure 0 0 (rV Q) 0 0 28 [some (.ref 311), some (.int (nI k)), none] [] h' := by
    intro d
    induction d with
    | zero =>
      intro k h' hk g q1 q2 q3
      have c' : Lay L h' := g.lay c (fun id j q => by omega)
      have T' : booksC h' o S.1 := T.cg g (fun id j q => by omega)
      have e0 : hR h' 19 0 = o 0 := T'.1.1.1
      refine sX7_measure_28 ?_
      have KK := lr (bNs (S.1 1)) 0 h' (by omega) g q1 q2 (fun a ha => q3 a (by omega)) (fun j hj => by omega)
      simp (disch := omega) only [s_311 c', r_311_0 c', s_19 c', e0c, e0, sb_this c' hb0, show hR h' (o 0) 0 = o 0 + 1 from rb_0_0 c' hb0, sb_1 c' hb0, T'.2.1.2.2.2.1, forall_eq, hs_sI, hs_sL, hR_sI, hR_sL, hI_eq, hI_ne, hI_sL, hL_sI, ti_lt, ti_le, ti_eq, nI_toInt, cl_nI, nI_1, nI_add, t_0, t_1, t_2, t_3, t_4, t_5, t_6, t_7, t_8, t_9, t_10, t_12, t_15, t_16, t_20, t_21, t_24, t_26, t_30, t_31, t_32, t_33, t_39, t_40, t_41, t_45, t_46, t_47, t_48, t_57, t_60, t_63, t_65, t_90, t_97, t_100, t_122, t_200, t_230, t_240, t_255, t_400, t_440, t_441, t_450, t_480, t_1580, t_1600, t_10000, t_131071, t_131072, t_1048576, t_1000000000, tm_1, tm_100001, tm_100002, tm_100003, tm_100004]
      repeat' (first | exact trivial | (with_reducible refine And.intro ?_ ?_) | exact vp_nI (by omega) (by omega) | exact vp_nI (j := 0) (by decide) (by decide) | exact vp_nI (j := 1) (by decide) (by decide) | decide | (exact KK) | (with_reducible intro z1; first | exact absurd trivial z1 | exact z1.elim) | (with_reducible intro z1) | omega)
    | succ d ih =>
      intro k h' hk g q1 q2 q3
      have c' : Lay L h' := g.lay c (fun id j q => by omega)
      have T' : booksC h' o S.1 := T.cg g (fun id j q => by omega)
      have D' : shareC h' (bNk (S.1 0)) (bNk (S.1 1)) S.2.2.2 tm := D.cg g (fun id j q => by omega)
      have e0 : hR h' 19 0 = o 0 := T'.1.1.1
      refine sX7_measure_28 ?_
      simp (disch := omega) only [s_311 c', r_311_0 c', s_19 c', e0c, e0, sb_this c' hb0, show hR h' (o 0) 0 = o 0 + 1 from rb_0_0 c' hb0, sb_1 c' hb0, r_311_2 c', s_227 c']
      have step : ∀ v, (pOf S.2.2.2 k (bNk (S.1 1)) = -1 → v = 0) → (∀ b, b < bNk (S.1 1) → pOf S.2.2.2 k (bNk (S.1 1)) = nI b → v = (1 : Int64) <<< ((nI b).toInt64 &&& 63)) → AW w mX7_measure 0 0 (rV Q) 0 0 28 [some (.ref 311), some (.int (nI (k + 1))), none] [] (sL h' 314 k v) := fun v v1 v2 => ih (k + 1) (sL h' 314 k v) (by omega) (g.sL (by omega)) (fun s hs => by rw [hI_sL]; exact q1 s hs) (fun s hs => by rw [hI_sL]; exact q2 s hs) (fun a ha => by
          by_cases q : a = k
          · subst q; rw [hL_eq]; exact ⟨v1, v2⟩
          · rw [hL_ne (Or.inr q)]; exact q3 a (by omega))
      refine ⟨trivial, by first | decide | exact vp_nI (j := 0) (by decide) (by decide) | exact vp_nI (j := 1) (by decide) (by decide), trivial, by first | decide | exact vp_nI (j := 0) (by decide) (by decide) | exact vp_nI (j := 1) (by decide) (by decide), by omega, trivial, by omega, trivial, fun z => ?_, fun _ => ⟨by first | decide | exact vp_nI (j := 0) (by decide) (by decide) | exact vp_nI (j := 1) (by decide) (by decide), trivial, sp_partnerOf c' D' (by omega) ?_⟩⟩
      · rw [T'.2.1.2.2.2.1, ti_le, nI_toInt (by omega), nI_toInt (by omega)] at z; omega
      · have s1 : ¬ pOf S.2.2.2 k (bNk (S.1 1)) = -1 → AW w mX7_measure 0 0 (rV Q) 0 0 28 [some (.ref 311), some (.int (nI (k + 1))), none] [] (sL h' 314 k ((1 : Int64) <<< ((pOf S.2.2.2 k (bNk (S.1 1))).toInt64 &&& 63))) := fun q => step _ (fun z => absurd z q) (fun b hb e => by rw [e])
        have s2 : pOf S.2.2.2 k (bNk (S.1 1)) = -1 → AW w mX7_measure 0 0 (rV Q) 0 0 28 [some (.ref 311), some (.int (nI (k + 1))), none] [] (sL h' 314 k 0) := fun q => step _ (fun _ => rfl) (fun b hb e => by rw [q] at e; exact absurd e.symm (nI_m1 (by omega)))
        simp (disch := omega) only [s_311 c', r_311_6 c', s_314 c', cl_nI, nI_1, forall_eq]
        exact ⟨trivial, by first | decide | exact vp_nI (j := 0) (by decide) (by decide) | exact vp_nI (j := 1) (by decide) (by decide), fun q => ⟨trivial, vp_nI (by omega) (by decide), s1 q⟩, fun q => ⟨trivial, vp_nI (by omega) (by decide), s2 q⟩⟩
  exact lp (bNk (S.1 0)) 0 h2 (by omega) g12 m1' m2 (fun a ha => by omega)
end WA
