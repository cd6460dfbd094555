/-! ===== abbreviate ===== -/
def rW (t : Tp) : Nat → Nat × Wr
  | 0 => (0, w0)
  | p + 1 => if ltr t p = 0 then rW t p else if p ≠ 0 ∧ ltr t (p - 1) ≠ 0 then ((rW t p).1, wAdd (rW t p).2 (ltr t p)) else ((rW t p).1 + 1, wAdd w0 (ltr t p))
theorem rW_le (t : Tp) : ∀ p, (rW t p).1 ≤ p
  | 0 => Nat.le_refl 0
  | p + 1 => by
    have := rW_le t p
    unfold rW
    split
    · omega
    · split
      · show (rW t p).1 ≤ p + 1; omega
      · show (rW t p).1 + 1 ≤ p + 1; omega
theorem rW_mono (t : Tp) (p : Nat) : ∀ d, (rW t p).1 ≤ (rW t (p + d)).1
  | 0 => Nat.le_refl _
  | d + 1 => by
    have := rW_mono t p d
    show _ ≤ (rW t ((p + d) + 1)).1
    rw [rW]
    split
    · exact this
    · split
      · exact this
      · show _ ≤ (rW t (p + d)).1 + 1; omega
theorem rW_pos (t : Tp) : ∀ p, ltr t p ≠ 0 → 1 ≤ (rW t (p + 1)).1
  | 0, h => by rw [rW, if_neg h, if_neg (by omega)]; show 1 ≤ _ + 1; omega
  | p + 1, h => by
    rw [rW, if_neg h]
    split
    · rename_i q
      exact rW_pos t p q.2
    · show 1 ≤ _ + 1; omega
def fAbb (t : Tp) (sf : Sf) : Int32 × Tp × Sf := if (rW t t.1).1 = 1 then (match (fEnter 6 sf.1 sf.2.1 sf.2.2 (rW t t.1).2).1 with
  | some _ => (nI (fEnter 6 sf.1 sf.2.1 sf.2.2 (rW t t.1).2).2.1, (0, t.2), (fEnter 6 sf.1 sf.2.1 sf.2.2 (rW t t.1).2).2)
  | none => (-100004, t, sf)) else (-100003, t, sf)
theorem fEnter_lt {R n k : Nat} {z : Nat → Nat} {l : Nat → Nat → Nat} {W : Wr} (hR : n ≤ R) (h : (fEnter R n z l W).1 = some k) : k < R := by
  unfold fEnter at h
  cases q : fW z l W n with
  | some j =>
    rw [q] at h
    have h : some j = some k := h
    cases h
    have := fW_lt q
    omega
  | none =>
    rw [q] at h
    by_cases r : n < R
    · have h : (if n < R then (some n, n + 1, zAdd z n W.1, lAdd l n W.2) else (none, n, z, l)).1 = some k := h
      rw [if_pos r] at h
      have h : some n = some k := h
      cases h; exact r
    · have h : (if n < R then (some n, n + 1, zAdd z n W.1, lAdd l n W.2) else (none, n, z, l)).1 = some k := h
      rw [if_neg r] at h
      cases h
theorem fEnter_no {R n : Nat} {z : Nat → Nat} {l : Nat → Nat → Nat} {W : Wr} (h : (fEnter R n z l W).1 = none) : fEnter R n z l W = (none, n, z, l) := by
  unfold fEnter at h ⊢
  cases q : fW z l W n with
  | some j => rw [q] at h; cases h
  | none =>
    rw [q] at h
    show (if n < R then (some n, n + 1, zAdd z n W.1, lAdd l n W.2) else (none, n, z, l)) = _
    have h : (if n < R then (some n, n + 1, zAdd z n W.1, lAdd l n W.2) else (none, n, z, l)).1 = none := h
    by_cases r : n < R
    · rw [if_pos r] at h; cases h
    · rw [if_neg r]
def abC (id j : Nat) : Prop := (id = 6 ∧ j = 1) ∨ (8 ≤ id ∧ id ≤ 18)
def bfC (id j : Nat) : Prop := id = 17 ∨ id = 18
def abM (id j : Nat) : Prop := (id = 347 ∧ (j = 1 ∨ j = 4 ∨ j = 21 ∨ j = 22)) ∨ id = 349 ∨ id = 350 ∨ id = 363
theorem tapeC.cg {D : Nat → Nat → Prop} {h h' : Hp} {t : Tp} (T : tapeC h t) (a : Cg D h h') (hd : ∀ id j, D id j → id ≠ 6 ∧ id ≠ 7) : tapeC h' t :=
  ⟨T.1, by rw [a.i (fun q => (hd _ _ q).1 rfl)]; exact T.2.1, fun i hi => ⟨(T.2.2 i hi).1, by rw [a.i (fun q => (hd _ _ q).2 rfl)]; exact (T.2.2 i hi).2⟩⟩
theorem wlC.cg {D : Nat → Nat → Prop} {h h' : Hp} {o R n : Nat} {z : Nat → Nat} {l : Nat → Nat → Nat} (T : wlC h o R n z l) (a : Cg D h h') (hd : ∀ id j, D id j → ¬ (o ≤ id ∧ id ≤ o + 2 + R)) : wlC h' o R n z l := by
  have hn := T.1
  exact ⟨T.1, by rw [a.i (fun q => hd _ _ q (by omega))]; exact T.2.1, by rw [a.i (fun q => hd _ _ q (by omega))]; exact T.2.2.1, fun k hk => ⟨(T.2.2.2.1 k hk).1, by rw [a.i (fun q => hd _ _ q (by omega))]; exact (T.2.2.2.1 k hk).2⟩, fun k hk i hi => ⟨(T.2.2.2.2 k hk i hi).1, by rw [a.i (fun q => hd _ _ q (by omega))]; exact (T.2.2.2.2 k hk i hi).2⟩⟩
section AB
variable {w : Wd} {L : Nat} {h : Hp} {Q : Int32 → Hp → Prop} {t : Tp} {sf : Sf}
theorem sp_readWords (c : Lay L h) (D : tapeC h t) (K : ∀ h', Cg bfC h h' → ((rW t t.1).1 ≠ 0 → bufC h' (rW t t.1).2) → Q (nI (rW t t.1).1) h') : AC w mX1_readWords 0 0 (rI Q) [.ref 17] h := by
  have hn := D.1
  have lp : ∀ (d p : Nat) (h' : Hp), p + d = t.1 → Cg bfC h h' → ((rW t p).1 ≠ 0 → bufC h' (rW t p).2) → AW w mX1_readWords 0 0 (rI Q) 0 0 4 [some (.ref 17), some (.int (nI (rW t p).1)), some (.int (nI p))] [] h' := by
    intro d
    induction d with
    | zero =>
      intro p h' hp a B
      have c' : Lay L h' := a.lay c (fun id j q => by unfold bfC at q; omega)
      have T := D.cg a (fun id j q => by unfold bfC at q; omega)
      have hp : p = t.1 := by omega
      subst hp
      refine sX1_readWords_4 ?_
      simp (disch := omega) only [s_17 c', r_17_0 c', s_6 c', T.2.1, forall_eq, hs_sI, hs_sL, hR_sI, hR_sL, hI_eq, hI_ne, hI_sL, hL_sI, ti_lt, ti_le, ti_eq, nI_toInt, cl_nI, nI_1, nI_add, t_0, t_1, t_2, t_3, t_4, t_5, t_6, t_7, t_8, t_9, t_10, t_12, t_15, t_16, t_20, t_21, t_24, t_26, t_30, t_31, t_32, t_33, t_39, t_40, t_41, t_45, t_46, t_47, t_48, t_57, t_60, t_63, t_65, t_90, t_97, t_100, t_122, t_200, t_230, t_240, t_255, t_400, t_440, t_441, t_450, t_480, t_1580, t_1600, t_10000, t_131071, t_131072, t_1048576, t_1000000000, tm_1, tm_100001, tm_100002, tm_100003, tm_100004]
      exact ⟨trivial, by decide, trivial, fun _ => K h' a B, fun z => by omega⟩
    | succ d ih =>
      intro p h' hp a B
      have c' : Lay L h' := a.lay c (fun id j q => by unfold bfC at q; omega)
      have T := D.cg a (fun id j q => by unfold bfC at q; omega)
      have e : rW t (p + 1) = if ltr t p = 0 then rW t p else if p ≠ 0 ∧ ltr t (p - 1) ≠ 0 then ((rW t p).1, wAdd (rW t p).2 (ltr t p)) else ((rW t p).1 + 1, wAdd w0 (ltr t p)) := rfl
      refine sX1_readWords_4 ?_
      simp (disch := omega) only [s_17 c', r_17_0 c', s_6 c', T.2.1, forall_eq, hs_sI, hs_sL, hR_sI, hR_sL, hI_eq, hI_ne, hI_sL, hL_sI, ti_lt, ti_le, ti_eq, nI_toInt, cl_nI, nI_1, nI_add, t_0, t_1, t_2, t_3, t_4, t_5, t_6, t_7, t_8, t_9, t_10, t_12, t_15, t_16, t_20, t_21, t_24, t_26, t_30, t_31, t_32, t_33, t_39, t_40, t_41, t_45, t_46, t_47, t_48, t_57, t_60, t_63, t_65, t_90, t_97, t_100, t_122, t_200, t_230, t_240, t_255, t_400, t_440, t_441, t_450, t_480, t_1580, t_1600, t_10000, t_131071, t_131072, t_1048576, t_1000000000, tm_1, tm_100001, tm_100002, tm_100003, tm_100004]
      refine ⟨trivial, by decide, trivial, fun z => by omega, fun _ => sp_isLetterAt c' T (by omega) ?_⟩
      rw [b01tn, b01t0]
      refine ⟨fun q => ?_, fun q => ?_⟩
      · have q : ltr t p = 0 := by simpa using q
        rw [if_pos q] at e
        have := ih (p + 1) h' (by omega) a (by rw [e]; exact B)
        rw [e] at this
        exact this
      · have q : ltr t p ≠ 0 := by simpa using q
        rw [if_neg q] at e
        simp only [s_17 c', r_17_0 c', s_6 c']
        refine ⟨trivial, by decide, trivial, sp_isLetterAtm c' T (by omega) ?_⟩
        rw [b01tn, b01t0]
        refine ⟨fun r => ⟨by rw [s_17 c'], ?_⟩, fun r => ⟨by rw [s_17 c'], ?_⟩⟩
        · have r := of_decide_eq_true r
          rw [if_pos r] at e
          have h1 : 1 ≤ (rW t p).1 := by have := rW_pos t (p - 1) r.2; rwa [show p - 1 + 1 = p by omega] at this
          refine sp_keepLetter c' T (B (by omega)) (by omega) q (fun h2 a2 l2 B2 => ?_)
          have a3 := a.trans (Cg.of (D := bfC) a2 (fun id j q => q))
          have := ih (p + 1) h2 (by omega) a3 (by rw [e]; exact fun _ => B2)
          rw [e] at this
          exact this
        · have r := of_decide_eq_false r
          rw [if_neg r] at e
          have c2 : Lay L (sI h' 17 3 0) := c'.sI (by decide)
          have T2 : tapeC (sI h' 17 3 0) t := T.cg ((Cg.rfl' h').sI (D := bfC) (Or.inl rfl)) (fun id j q => by unfold bfC at q; omega)
          refine sp_keepLetter (W := w0) c2 T2 ⟨⟨by decide, fun i hi => by cases hi⟩, hI_eq, fun i hi => by cases hi⟩ (by omega) q (fun h2 a2 l2 B2 => ?_)
          have a3 := (a.sI (b := 17) (i := 3) (v := 0) (Or.inl rfl)).trans (Cg.of (D := bfC) a2 (fun id j q => q))
          have := ih (p + 1) h2 (by omega) a3 (by rw [e]; exact fun _ => B2)
          rw [e] at this
          exact this
  exact eX1_readWords (sX1_readWords_0 (lp t.1 0 h (by omega) (Cg.rfl' h) (fun z => absurd rfl z)))
theorem sp_abbreviate (c : Lay L h) (D : tapeC h t) (S : shortC h sf) (K : ∀ h', Cg abC h h' → tapeC h' (fAbb t sf).2.1 → shortC h' (fAbb t sf).2.2 → Q (fAbb t sf).1 h') : AC w mX9_abbreviate 0 0 (rI Q) [.ref 5] h := by
  have hn := D.1
  have hr := rW_le t t.1
  refine eX9_abbreviate (sX9_abbreviate_0 ?_)
  simp only [s_5 c, r_5_2 c, s_17 c]
  refine ⟨trivial, by decide, trivial, sp_readWords c D (fun h1 a1 B1 => ?_)⟩
  have c1 : Lay L h1 := a1.lay c (fun id j q => by unfold bfC at q; omega)
  have T1 := D.cg a1 (fun id j q => by unfold bfC at q; omega)
  have S1 : shortC h1 sf := wlC.cg S a1 (fun id j q => by unfold bfC at q; omega)
  simp (disch := omega) only [s_5 c1, r_5_1 c1, r_5_2 c1, s_17 c1, r_17_2 c1, s_8 c1, forall_eq, hs_sI, hs_sL, hR_sI, hR_sL, hI_eq, hI_ne, hI_sL, hL_sI, ti_lt, ti_le, ti_eq, nI_toInt, cl_nI, nI_1, nI_add, t_0, t_1, t_2, t_3, t_4, t_5, t_6, t_7, t_8, t_9, t_10, t_12, t_15, t_16, t_20, t_21, t_24, t_26, t_30, t_31, t_32, t_33, t_39, t_40, t_41, t_45, t_46, t_47, t_48, t_57, t_60, t_63, t_65, t_90, t_97, t_100, t_122, t_200, t_230, t_240, t_255, t_400, t_440, t_441, t_450, t_480, t_1580, t_1600, t_10000, t_131071, t_131072, t_1048576, t_1000000000, tm_1, tm_100001, tm_100002, tm_100003, tm_100004]
  refine ⟨fun q => ⟨trivial, by decide, by decide, trivial, by decide, trivial, ?_⟩, fun q => ?_⟩
  · have q : (rW t t.1).1 = 1 := by omega
    have B := B1 (by omega)
    rw [B.2.1]
    refine sp_enter c1 (Or.inl ⟨rfl, rfl⟩) (WL_s c1) (by decide) S1 B (fun h2 a2 l2 S2 => ?_)
    have a2' := Cg.of (D := abC) a2 (fun id j q => by unfold abC; omega)
    have a12 := (a1.mono (E := abC) (fun id j q => by unfold bfC at q; unfold abC; omega)).trans a2'
    have c2 : Lay L h2 := a2'.lay c1 (fun id j q => by unfold abC at q; omega)
    have T2 : tapeC h2 t := T1.cg (Cg.of (D := fun id j => 8 ≤ id ∧ id ≤ 16) a2 (fun id j q => by omega)) (fun id j q => by omega)
    have lt : ∀ k, (fEnter 6 sf.1 sf.2.1 sf.2.2 (rW t t.1).2).1 = some k → k < 2147483648 := fun k z => by have := fEnter_lt (R := 6) S.1 z; omega
    rw [← tm_1, ← ti_eq, oI_n lt]
    refine ⟨fun z => ?_, fun z => ?_⟩
    · cases e : (fEnter 6 sf.1 sf.2.1 sf.2.2 (rW t t.1).2).1 with
      | none => exact absurd e z
      | some k =>
        have e0 : fAbb t sf = (nI (fEnter 6 sf.1 sf.2.1 sf.2.2 (rW t t.1).2).2.1, (0, t.2), (fEnter 6 sf.1 sf.2.1 sf.2.2 (rW t t.1).2).2) := by rw [fAbb, if_pos q, e]
        rw [e0] at K
        simp only [s_5 c2, r_5_0 c2, r_5_1 c2, s_6 c2, s_8 c2, forall_eq]
        refine ⟨trivial, by decide, trivial, by decide, trivial, ?_⟩
        rw [S2.2.2.1]
        exact K _ (a12.sI (Or.inl ⟨rfl, rfl⟩)) ⟨Nat.zero_le _, hI_eq, fun i hi => absurd hi (Nat.not_lt_zero i)⟩ (wlC.cg S2 ((Cg.rfl' h2).sI (D := fun id j => id = 6) rfl) (fun id j q => by omega))
    · have e := fEnter_no z
      have e0 : fAbb t sf = (-100004, t, sf) := by rw [fAbb, if_pos q, e]
      rw [e0] at K
      rw [e] at S2
      exact K h2 a12 T2 S2
  · have e0 : fAbb t sf = (-100003, t, sf) := by rw [fAbb, if_neg (by omega)]
    rw [e0] at K
    exact K h1 (a1.mono (fun id j q => by unfold bfC at q; unfold abC; omega)) T1 S1
theorem cutR_W : ∀ (d p : Nat) (W : Wr), p + d = t.1 → p ≠ 0 → ltr t (p - 1) ≠ 0 → rW t p = (1, W) → rW t (cutR t d p W).1 = (1, (cutR t d p W).2) ∧ ltr t (cutR t d p W).1 = 0 ∧ (cutR t d p W).1 ≤ t.1
  | 0, p, W, hp, h0, hl, hr => ⟨hr, ltr_out (by show t.1 ≤ p; omega), by show p ≤ t.1; omega⟩
  | d + 1, p, W, hp, h0, hl, hr => by
    unfold cutR
    by_cases q : ltr t p = 0
    · rw [if_pos q]; exact ⟨hr, q, by show p ≤ t.1; omega⟩
    · rw [if_neg q]
      exact cutR_W d (p + 1) _ (by omega) (by omega) q (by rw [rW, if_neg q, if_pos ⟨h0, hl⟩, hr])
theorem cutR_0 {p : Nat} (hp : p < t.1) (hl : ltr t p ≠ 0) (hm : p = 0 ∨ ltr t (p - 1) = 0) (hr : (rW t p).1 = 0) : rW t (cutR t (t.1 - p) p w0).1 = (1, (cutR t (t.1 - p) p w0).2) ∧ ltr t (cutR t (t.1 - p) p w0).1 = 0 ∧ (cutR t (t.1 - p) p w0).1 ≤ t.1 := by
  rw [show t.1 - p = (t.1 - (p + 1)) + 1 by omega, cutR, if_neg hl]
  exact cutR_W _ (p + 1) _ (by omega) (by omega) hl (by rw [rW, if_neg hl, if_neg (by omega), hr])
theorem tapeM.cg {D : Nat → Nat → Prop} {h h' : Hp} {t : Tp} (T : tapeM h t) (a : Cg D h h') (hd : ∀ id j, D id j → id ≠ 348 ∧ (id = 347 → j ≠ 1)) : tapeM h' t :=
  ⟨T.1, by rw [a.i (fun q => (hd _ _ q).2 rfl rfl)]; exact T.2.1, fun i hi => ⟨(T.2.2 i hi).1, by rw [a.i (fun q => (hd _ _ q).1 rfl)]; exact (T.2.2 i hi).2⟩⟩
theorem wlM.cg {D : Nat → Nat → Prop} {h h' : Hp} {A B R n : Nat} {z : Nat → Nat} {l : Nat → Nat → Nat} (T : wlM h A B R n z l) (a : Cg D h h') (hd : ∀ id j, D id j → id ≠ A ∧ id ≠ B) : wlM h' A B R n z l :=
  ⟨T.1, fun k hk => ⟨(T.2.1 k hk).1, by rw [a.i (fun q => (hd _ _ q).1 rfl)]; exact (T.2.1 k hk).2⟩, fun k hk i hi => ⟨(T.2.2 k hk i hi).1, by rw [a.i (fun q => (hd _ _ q).2 rfl)]; exact (T.2.2 k hk i hi).2⟩⟩
theorem shortM.cg {D : Nat → Nat → Prop} {h h' : Hp} (T : shortM h sf) (a : Cg D h h') (hd : ∀ id j, D id j → id ≠ 349 ∧ id ≠ 350 ∧ (id = 347 → j ≠ 4)) : shortM h' sf :=
  ⟨by rw [a.i (fun q => (hd _ _ q).2.2 rfl rfl)]; exact T.1, wlM.cg T.2 a (fun id j q => ⟨(hd _ _ q).2.1, (hd _ _ q).1⟩)⟩
theorem bufM.cg {D : Nat → Nat → Prop} {h h' : Hp} {W : Wr} (T : bufM h W) (a : Cg D h h') (hd : ∀ id j, D id j → id ≠ 363 ∧ (id = 347 → j ≠ 21)) : bufM h' W :=
  ⟨T.1, by rw [a.i (fun q => (hd _ _ q).2 rfl rfl)]; exact T.2.1, fun i hi => by rw [a.i (fun q => (hd _ _ q).1 rfl)]; exact T.2.2 i hi⟩
theorem abbM_109 {n : Nat} {z : Nat → Nat} {l : Nat → Nat → Nat} {W : Wr} (c : Lay L h) (hn6 : n < 6) (K : ∀ h', Cg abM h h' → tapeM h' (0, t.2) → shortM h' (n + 1, zAdd z n W.1, lAdd l n W.2) → Q (nI (n + 1)) h') :
    ∀ (d i : Nat) (h' : Hp), i + d = W.1 → Cg abM h h' → hI h' 347 4 = nI n → wlM h' 350 349 6 n z l → bufM h' W → hI h' 350 n = nI W.1 → (∀ j, j < i → hI h' 349 (10 * n + j) = nI (W.2 j)) → AW w mX10_abbreviate 0 0 (rI Q) 0 0 109 [some (.ref 347), none, some (.int (nI i))] [] h' := by
  intro d
  induction d with
  | zero =>
    intro i h' hi a hn D B hz hj
    have h10 := B.1.1
    have c' : Lay L h' := a.lay c (fun id j q => by unfold abM at q; omega)
    refine sX10_abbreviate_109 ?_
    have KK : Q (nI (n + 1)) (sI (sI h' 347 4 (nI (n + 1))) 347 1 0) := K _ ((a.sI (Or.inl ⟨rfl, by omega⟩)).sI (Or.inl ⟨rfl, by omega⟩)) ⟨Nat.zero_le _, hI_eq, fun i hi => absurd hi (Nat.not_lt_zero i)⟩ ⟨by simp (disch := omega) only [hI_ne, hI_eq], hn6, fun k hk => ?_, fun k hk j hj' => ?_⟩
    · simp (disch := omega) only [s_347 c', B.2.1, hn, forall_eq, hs_sI, hs_sL, hR_sI, hR_sL, hI_eq, hI_ne, hI_sL, hL_sI, ti_lt, ti_le, ti_eq, nI_toInt, cl_nI, nI_1, nI_add, t_0, t_1, t_2, t_3, t_4, t_5, t_6, t_7, t_8, t_9, t_10, t_12, t_15, t_16, t_20, t_21, t_24, t_26, t_30, t_31, t_32, t_33, t_39, t_40, t_41, t_45, t_46, t_47, t_48, t_57, t_60, t_63, t_65, t_90, t_97, t_100, t_122, t_200, t_230, t_240, t_255, t_400, t_440, t_441, t_450, t_480, t_1580, t_1600, t_10000, t_131071, t_131072, t_1048576, t_1000000000, tm_1, tm_100001, tm_100002, tm_100003, tm_100004]
      exact ⟨trivial, fun _ => KK, fun z => by omega⟩
    · have hk : k < n + 1 := hk
      show zAdd z n W.1 k ≤ 10 ∧ _ = nI (zAdd z n W.1 k)
      unfold zAdd
      by_cases q : k = n
      · subst q
        rw [if_pos rfl]
        exact ⟨h10, by simp (disch := omega) only [hI_ne]; exact hz⟩
      · rw [if_neg q]
        have := D.2.1 k (by omega)
        exact ⟨this.1, by simp (disch := omega) only [hI_ne]; exact this.2⟩
    · have hk : k < n + 1 := hk
      have hj' : j < zAdd z n W.1 k := hj'
      show lAdd l n W.2 k j < 128 ∧ _ = nI (lAdd l n W.2 k j)
      unfold zAdd at hj'
      unfold lAdd
      by_cases q : k = n
      · subst q
        rw [if_pos rfl] at hj' ⊢
        exact ⟨B.1.2 j hj', by simp (disch := omega) only [hI_ne]; exact hj j (by omega)⟩
      · rw [if_neg q] at hj' ⊢
        have := D.2.2 k (by omega) j hj'
        exact ⟨this.1, by simp (disch := omega) only [hI_ne]; exact this.2⟩
  | succ d ih =>
    intro i h' hi a hn D B hz hj
    have h10 := B.1.1
    have c' : Lay L h' := a.lay c (fun id j q => by unfold abM at q; omega)
    refine sX10_abbreviate_109 ?_
    have a3 := B.2.2 i (by omega)
    have nx := ih (i + 1) (sI h' 349 (10 * n + i) (nI (W.2 i))) (by omega) (a.sI (Or.inr (Or.inl rfl))) (by simp (disch := omega) only [hI_ne, hn]) ⟨D.1, fun k hk => ⟨(D.2.1 k hk).1, by simp (disch := omega) only [hI_ne]; exact (D.2.1 k hk).2⟩, fun k hk j hj' => ⟨(D.2.2 k hk j hj').1, by have := (D.2.1 k hk).1; simp (disch := omega) only [hI_ne]; exact (D.2.2 k hk j hj').2⟩⟩ (B.cg ((Cg.rfl' h').sI (D := fun id j => id = 349) rfl) (fun id j q => by omega)) (by simp (disch := omega) only [hI_ne, hz]) (fun j hj' => by
      by_cases q : j = i
      · subst q; exact hI_eq
      · rw [hI_ne (Or.inr (by omega))]; exact hj j (by omega))
    simp (disch := omega) only [s_347 c', r_347_2 c', r_347_20 c', s_363 c', s_349 c', B.2.1, hn, a3, m_10, forall_eq, hs_sI, hs_sL, hR_sI, hR_sL, hI_eq, hI_ne, hI_sL, hL_sI, ti_lt, ti_le, ti_eq, nI_toInt, cl_nI, nI_1, nI_add, t_0, t_1, t_2, t_3, t_4, t_5, t_6, t_7, t_8, t_9, t_10, t_12, t_15, t_16, t_20, t_21, t_24, t_26, t_30, t_31, t_32, t_33, t_39, t_40, t_41, t_45, t_46, t_47, t_48, t_57, t_60, t_63, t_65, t_90, t_97, t_100, t_122, t_200, t_230, t_240, t_255, t_400, t_440, t_441, t_450, t_480, t_1580, t_1600, t_10000, t_131071, t_131072, t_1048576, t_1000000000, tm_1, tm_100001, tm_100002, tm_100003, tm_100004]
    exact ⟨trivial, fun z => by omega, fun _ => ⟨by decide, by decide, trivial, vp_nI (by omega) (by decide), trivial, vp_nI (by omega) (by decide), nx⟩⟩
theorem abbM_end {m p : Nat} (c : Lay L h) (D : tapeM h t) (S : shortM h sf) (hp : t.1 ≤ p) (hpp : p < 2147483648) (ha : hI h 347 22 = nI p) (hm : m < 2147483648) (hw : m = 1 ↔ (rW t t.1).1 = 1) (B : m = 1 → bufM h (rW t t.1).2) (K : ∀ h', Cg abM h h' → tapeM h' (fAbb t sf).2.1 → shortM h' (fAbb t sf).2.2 → Q (fAbb t sf).1 h') : AW w mX10_abbreviate 0 0 (rI Q) 0 0 7 [some (.ref 347), some (.int (nI m)), none] [] h := by
  have hn := D.1
  refine sX10_abbreviate_7 ?_
  obtain ⟨n, z, l⟩ := sf
  have d2 : n ≤ 6 := S.2.1
  have d1 : hI h 347 4 = nI n := S.1
  simp (disch := omega) only [s_347 c, D.2.1, ha, forall_eq, hs_sI, hs_sL, hR_sI, hR_sL, hI_eq, hI_ne, hI_sL, hL_sI, ti_lt, ti_le, ti_eq, nI_toInt, cl_nI, nI_1, nI_add, t_0, t_1, t_2, t_3, t_4, t_5, t_6, t_7, t_8, t_9, t_10, t_12, t_15, t_16, t_20, t_21, t_24, t_26, t_30, t_31, t_32, t_33, t_39, t_40, t_41, t_45, t_46, t_47, t_48, t_57, t_60, t_63, t_65, t_90, t_97, t_100, t_122, t_200, t_230, t_240, t_255, t_400, t_440, t_441, t_450, t_480, t_1580, t_1600, t_10000, t_131071, t_131072, t_1048576, t_1000000000, tm_1, tm_100001, tm_100002, tm_100003, tm_100004]
  refine ⟨trivial, fun _ => ⟨fun q => ?_, fun q => ?_⟩, fun z => by omega⟩
  · have q : m = 1 := by omega
    have B := B q
    have hw := hw.mp q
    refine sp_isShort c S B ?_
    rw [b01tn, b01t0]
    refine ⟨fun r => ⟨by rw [s_347 c], ?_⟩, fun r => ⟨by rw [s_347 c], ?_⟩⟩
    · have r : (fW z l (rW t t.1).2 n).isSome = true := r
      cases e : fW z l (rW t t.1).2 n with
      | none => rw [e] at r; cases r
      | some k =>
        have e1 : fEnter 6 n z l (rW t t.1).2 = (some k, n, z, l) := by unfold fEnter; rw [e]
        have e0 : fAbb t (n, z, l) = (nI n, (0, t.2), (n, z, l)) := by rw [fAbb, if_pos hw]; show (match (fEnter 6 n z l (rW t t.1).2).1 with | some _ => _ | none => _) = _; rw [e1]
        rw [e0] at K
        rw [d1]
        have cg : Cg abM h (sI h 347 1 0) := (Cg.rfl' h).sI (Or.inl ⟨rfl, by omega⟩)
        exact K _ cg ⟨Nat.zero_le _, hI_eq, fun i hi => absurd hi (Nat.not_lt_zero i)⟩ (S.cg ((Cg.rfl' h).sI (D := fun id j => id = 347 ∧ j = 1) ⟨rfl, rfl⟩) (fun id j q => by omega))
    · have r : (fW z l (rW t t.1).2 n).isSome = false := r
      cases e : fW z l (rW t t.1).2 n with
      | some k => rw [e] at r; cases r
      | none =>
        have e1 : fEnter 6 n z l (rW t t.1).2 = if n < 6 then (some n, n + 1, zAdd z n (rW t t.1).2.1, lAdd l n (rW t t.1).2.2) else (none, n, z, l) := by unfold fEnter; rw [e]
        rw [d1, B.2.1]
        simp (disch := omega) only [r_347_3 c, s_350 c, forall_eq, hs_sI, hs_sL, hR_sI, hR_sL, hI_eq, hI_ne, hI_sL, hL_sI, ti_lt, ti_le, ti_eq, nI_toInt, cl_nI, nI_1, nI_add, t_0, t_1, t_2, t_3, t_4, t_5, t_6, t_7, t_8, t_9, t_10, t_12, t_15, t_16, t_20, t_21, t_24, t_26, t_30, t_31, t_32, t_33, t_39, t_40, t_41, t_45, t_46, t_47, t_48, t_57, t_60, t_63, t_65, t_90, t_97, t_100, t_122, t_200, t_230, t_240, t_255, t_400, t_440, t_441, t_450, t_480, t_1580, t_1600, t_10000, t_131071, t_131072, t_1048576, t_1000000000, tm_1, tm_100001, tm_100002, tm_100003, tm_100004]
        refine ⟨fun y => ⟨by decide, trivial, vp_nI (by omega) (by decide), ?_⟩, fun y => ?_⟩
        · rw [if_pos (by omega)] at e1
          have e0 : fAbb t (n, z, l) = (nI (n + 1), (0, t.2), (n + 1, zAdd z n (rW t t.1).2.1, lAdd l n (rW t t.1).2.2)) := by rw [fAbb, if_pos hw]; show (match (fEnter 6 n z l (rW t t.1).2).1 with | some _ => _ | none => _) = _; rw [e1]
          rw [e0] at K
          have cg : Cg abM h (sI h 350 n (nI (rW t t.1).2.1)) := (Cg.rfl' h).sI (Or.inr (Or.inr (Or.inl rfl)))
          refine abbM_109 (t := t) (z := z) (l := l) (W := (rW t t.1).2) c (by omega) K (rW t t.1).2.1 0 _ (by omega) cg (by rw [hI_ne (Or.inl (by decide))]; exact d1) ⟨d2, fun k hk => ⟨(S.2.2.1 k hk).1, ?_⟩, fun k hk j hj' => ⟨(S.2.2.2 k hk j hj').1, ?_⟩⟩ (B.cg ((Cg.rfl' h).sI (D := fun id j => id = 350) rfl) (fun id j q => by omega)) hI_eq (fun j hj => by omega)
          · rw [hI_ne (Or.inr (by omega))]; exact (S.2.2.1 k hk).2
          · rw [hI_ne (Or.inl (by decide))]; exact (S.2.2.2 k hk j hj').2
        · rw [if_neg (by omega)] at e1
          have e0 : fAbb t (n, z, l) = (-100004, t, (n, z, l)) := by rw [fAbb, if_pos hw]; show (match (fEnter 6 n z l (rW t t.1).2).1 with | some _ => _ | none => _) = _; rw [e1]
          rw [e0] at K
          exact K h (Cg.rfl' h) D S
  · have e0 : fAbb t (n, z, l) = (-100003, t, (n, z, l)) := by rw [fAbb, if_neg (by omega)]
    rw [e0] at K
    exact K h (Cg.rfl' h) D S
theorem sp_abbreviateM (c : Lay L h) (D : tapeM h t) (S : shortM h sf) (K : ∀ h', Cg abM h h' → tapeM h' (fAbb t sf).2.1 → shortM h' (fAbb t sf).2.2 → Q (fAbb t sf).1 h') : AC w mX10_abbreviate 0 0 (rI Q) [.ref 347] h := by
  have hn := D.1
  have ok : ∀ {h'}, Cg cwD h h' → Lay L h' ∧ tapeM h' t ∧ shortM h' sf ∧ Cg abM h h' := fun a => ⟨a.lay c (fun id j q => by unfold cwD at q; omega), D.cg a (fun id j q => by unfold cwD at q; omega), S.cg a (fun id j q => by unfold cwD at q; omega), a.mono (fun id j q => by unfold cwD at q; unfold abM; omega)⟩
  have one : ∀ (d p : Nat) (h' : Hp), p + d = t.1 → Cg cwD h h' → hI h' 347 22 = nI p → bufM h' (rW t p).2 → (rW t p).1 = 1 → (ltr t p ≠ 0 → p ≠ 0 ∧ ltr t (p - 1) = 0) → AW w mX10_abbreviate 0 0 (rI Q) 0 0 7 [some (.ref 347), some (.int (nI 1)), none] [] h' := by
    intro d
    induction d with
    | zero =>
      intro p h' hp a ha B hr hl
      obtain ⟨c', D', S', am⟩ := ok a
      have hp : p = t.1 := by omega
      subst hp
      exact abbM_end c' D' S' (Nat.le_refl _) (by omega) ha (by decide) (by simp [hr]) (fun _ => B) (fun h2 b => K h2 (am.trans b))
    | succ d ih =>
      intro p h' hp a ha B hr hl
      obtain ⟨c', D', S', am⟩ := ok a
      refine sX10_abbreviate_7 ?_
      have ex : ltr t p ≠ 0 → AW w mX10_abbreviate 0 0 (rI Q) 0 0 7 [some (.ref 347), some (.int (nI 2)), none] [] (sI h' 347 22 (nI t.1)) := fun q => by
        have cg : Cg cwD h (sI h' 347 22 (nI t.1)) := a.sI (Or.inl ⟨rfl, Or.inr rfl⟩)
        obtain ⟨c2, D2, S2, am2⟩ := ok cg
        refine abbM_end (p := t.1) c2 D2 S2 (Nat.le_refl _) (by omega) hI_eq (by decide) (⟨fun z => by omega, fun z => ?_⟩) (fun z => by omega) (fun h2 b => K h2 (am2.trans b))
        have := rW_mono t (p + 1) d
        rw [show p + 1 + d = t.1 by omega] at this
        have e : rW t (p + 1) = ((rW t p).1 + 1, wAdd w0 (ltr t p)) := by rw [rW, if_neg q, if_neg (by have := hl q; omega)]
        rw [e] at this
        have : (rW t p).1 + 1 ≤ (rW t t.1).1 := this
        omega
      simp (disch := omega) only [s_347 c', D'.2.1, ha, forall_eq, hs_sI, hs_sL, hR_sI, hR_sL, hI_eq, hI_ne, hI_sL, hL_sI, ti_lt, ti_le, ti_eq, nI_toInt, cl_nI, nI_1, nI_add, t_0, t_1, t_2, t_3, t_4, t_5, t_6, t_7, t_8, t_9, t_10, t_12, t_15, t_16, t_20, t_21, t_24, t_26, t_30, t_31, t_32, t_33, t_39, t_40, t_41, t_45, t_46, t_47, t_48, t_57, t_60, t_63, t_65, t_90, t_97, t_100, t_122, t_200, t_230, t_240, t_255, t_400, t_440, t_441, t_450, t_480, t_1580, t_1600, t_10000, t_131071, t_131072, t_1048576, t_1000000000, tm_1, tm_100001, tm_100002, tm_100003, tm_100004]
      refine ⟨trivial, fun z => by omega, fun _ => sp_letterOf c' D' (by omega) ?_⟩
      have l128 := @ltr_128 t p
      simp (disch := omega) only [s_347 c', D'.2.1, ha, forall_eq, hs_sI, hs_sL, hR_sI, hR_sL, hI_eq, hI_ne, hI_sL, hL_sI, ti_lt, ti_le, ti_eq, nI_toInt, cl_nI, nI_1, nI_add, t_0, t_1, t_2, t_3, t_4, t_5, t_6, t_7, t_8, t_9, t_10, t_12, t_15, t_16, t_20, t_21, t_24, t_26, t_30, t_31, t_32, t_33, t_39, t_40, t_41, t_45, t_46, t_47, t_48, t_57, t_60, t_63, t_65, t_90, t_97, t_100, t_122, t_200, t_230, t_240, t_255, t_400, t_440, t_441, t_450, t_480, t_1580, t_1600, t_10000, t_131071, t_131072, t_1048576, t_1000000000, tm_1, tm_100001, tm_100002, tm_100003, tm_100004]
      refine ⟨fun q => ⟨fun _ => ⟨trivial, ex (by omega)⟩, fun z => by omega⟩, fun q => ⟨trivial, ?_⟩⟩
      have q : ltr t p = 0 := by omega
      have e : rW t (p + 1) = rW t p := by rw [rW, if_pos q]
      exact ih (p + 1) _ (by omega) (a.sI (Or.inl ⟨rfl, Or.inr rfl⟩)) hI_eq (by rw [e]; exact B.cg ((Cg.rfl' h').sI (D := fun id j => id = 347 ∧ j = 22) ⟨rfl, rfl⟩) (fun id j q => by omega)) (by rw [e]; exact hr) (fun _ => ⟨by omega, q⟩)
  have zero : ∀ (d p : Nat) (h' : Hp), p + d = t.1 → Cg cwD h h' → hI h' 347 22 = nI p → (rW t p).1 = 0 → (ltr t p ≠ 0 → p = 0 ∨ ltr t (p - 1) = 0) → AW w mX10_abbreviate 0 0 (rI Q) 0 0 7 [some (.ref 347), some (.int (nI 0)), none] [] h' := by
    intro d
    induction d with
    | zero =>
      intro p h' hp a ha hr hl
      obtain ⟨c', D', S', am⟩ := ok a
      have hp : p = t.1 := by omega
      subst hp
      exact abbM_end c' D' S' (Nat.le_refl _) (by omega) ha (by decide) (by omega) (fun z => by omega) (fun h2 b => K h2 (am.trans b))
    | succ d ih =>
      intro p h' hp a ha hr hl
      obtain ⟨c', D', S', am⟩ := ok a
      refine sX10_abbreviate_7 ?_
      have l128 := @ltr_128 t p
      simp (disch := omega) only [s_347 c', D'.2.1, ha, forall_eq, hs_sI, hs_sL, hR_sI, hR_sL, hI_eq, hI_ne, hI_sL, hL_sI, ti_lt, ti_le, ti_eq, nI_toInt, cl_nI, nI_1, nI_add, t_0, t_1, t_2, t_3, t_4, t_5, t_6, t_7, t_8, t_9, t_10, t_12, t_15, t_16, t_20, t_21, t_24, t_26, t_30, t_31, t_32, t_33, t_39, t_40, t_41, t_45, t_46, t_47, t_48, t_57, t_60, t_63, t_65, t_90, t_97, t_100, t_122, t_200, t_230, t_240, t_255, t_400, t_440, t_441, t_450, t_480, t_1580, t_1600, t_10000, t_131071, t_131072, t_1048576, t_1000000000, tm_1, tm_100001, tm_100002, tm_100003, tm_100004]
      refine ⟨trivial, fun z => by omega, fun _ => sp_letterOf c' D' (by omega) ?_⟩
      simp (disch := omega) only [s_347 c', D'.2.1, ha, forall_eq, hs_sI, hs_sL, hR_sI, hR_sL, hI_eq, hI_ne, hI_sL, hL_sI, ti_lt, ti_le, ti_eq, nI_toInt, cl_nI, nI_1, nI_add, t_0, t_1, t_2, t_3, t_4, t_5, t_6, t_7, t_8, t_9, t_10, t_12, t_15, t_16, t_20, t_21, t_24, t_26, t_30, t_31, t_32, t_33, t_39, t_40, t_41, t_45, t_46, t_47, t_48, t_57, t_60, t_63, t_65, t_90, t_97, t_100, t_122, t_200, t_230, t_240, t_255, t_400, t_440, t_441, t_450, t_480, t_1580, t_1600, t_10000, t_131071, t_131072, t_1048576, t_1000000000, tm_1, tm_100001, tm_100002, tm_100003, tm_100004]
      refine ⟨fun q => ⟨fun z => by omega, fun _ => ⟨trivial, sp_cutWord c' D' (by omega) ha (fun h2 a2 ha2 B2 => ?_)⟩⟩, fun q => ⟨trivial, ?_⟩⟩
      · have q : ltr t p ≠ 0 := by omega
        obtain ⟨k1, k2, k3⟩ := cutR_0 (t := t) (p := p) (by omega) q (hl q) hr
        refine one (t.1 - (cutR t (t.1 - p) p w0).1) (cutR t (t.1 - p) p w0).1 h2 (by omega) (a.trans a2) ha2 ?_ (by rw [k1]) (fun z => absurd k2 z)
        rw [k1]; exact B2
      · have q : ltr t p = 0 := by omega
        have e : rW t (p + 1) = rW t p := by rw [rW, if_pos q]
        exact ih (p + 1) _ (by omega) (a.sI (Or.inl ⟨rfl, Or.inr rfl⟩)) hI_eq (by rw [e]; exact hr) (fun _ => Or.inr q)
  refine eX10_abbreviate (sX10_abbreviate_0 ⟨by rw [s_347 c], fun h1 e1 => ?_⟩)
  subst e1
  exact zero t.1 0 _ (by omega) ((Cg.rfl' h).sI (Or.inl ⟨rfl, Or.inr rfl⟩)) hI_eq rfl (fun _ => Or.inl rfl)
end AB
