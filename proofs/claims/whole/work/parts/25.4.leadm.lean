/-! ===== links, the reference: gathering, leading ===== -/
theorem sm_up {f : Nat → Nat} {a p n : Nat} (h : p ≤ n) : sm f a p ≤ sm f a n := by
  induction n with
  | zero => rw [show p = 0 by omega]; exact Nat.le_refl _
  | succ n ih =>
    by_cases q : p = n + 1
    · rw [q]; exact Nat.le_refl _
    · exact Nat.le_trans (ih (by omega)) (Nat.le_add_right _ _)
def lkM (h : Hp) (nl nr : Nat) (lk rk : Nat → Nat) : Prop := (nl ≤ 20 ∧ nr ≤ 20) ∧ hI h 347 48 = nI nl ∧ hI h 347 50 = nI nr ∧ (∀ x, x < nl → hI h 377 x = nI (lk x)) ∧ ∀ y, y < nr → hI h 378 y = nI (rk y)
theorem lkM.cg {D : Nat → Nat → Prop} {h h' : Hp} {nl nr : Nat} {lk rk : Nat → Nat} (T : lkM h nl nr lk rk) (g : Cg D h h') (hd : ∀ id j, D id j → ¬ (id = 347 ∧ (j = 48 ∨ j = 50)) ∧ id ≠ 377 ∧ id ≠ 378) : lkM h' nl nr lk rk :=
  ⟨T.1, by rw [g.i (fun q => (hd _ _ q).1 ⟨rfl, Or.inl rfl⟩)]; exact T.2.1, by rw [g.i (fun q => (hd _ _ q).1 ⟨rfl, Or.inr rfl⟩)]; exact T.2.2.1, fun x hx => by rw [g.i (fun q => (hd _ _ q).2.1 rfl)]; exact T.2.2.2.1 x hx, fun y hy => by rw [g.i (fun q => (hd _ _ q).2.2 rfl)]; exact T.2.2.2.2 y hy⟩
section LD
variable {w : Wd} {L : Nat} {h : Hp} {nl nr n0 n1 : Nat} {lk rk : Nat → Nat} {sh : Sh} {tm : Nat → Int32}
theorem sp_g94 {Q : Hp → Prop} {m k f : Nat} {B1 : Bk} (c : Lay L h) (B : bookM h 1 B1) (hm : m < 40) (hk : k < 7) (jk : hI h 373 m = nI k) (jr : hI h 375 m = nI f) (hf : f + rS k ≤ bNs B1) (q0 : hI h 347 50 = 0) (K : ∀ h', Cg (fun id j => id = 378 ∨ (id = 347 ∧ j = 50)) h h' → hI h' 347 50 = nI (sm (bWc B1) f (rS k)) → (∀ y, y < sm (bWc B1) f (rS k) → hI h' 378 y = nI (gW B1 f (rS k) y)) → Q h') : AW w mX10_gather 0 0 (rV Q) 0 0 94 [some (.ref 347), some (.int (nI m)), some (.int (nI f)), none] [] h := by
  have hn := B.1.1
  have r2 := rS_le k
  have tot := gN_le B.1 hf r2
  have v : vp_in (nI m) 40 := vp_nI (by omega) (by decide)
  have inn : ∀ (p : Nat), p < rS k → (∀ h', Cg (fun id j => id = 378 ∨ (id = 347 ∧ j = 50)) h h' → hI h' 347 50 = nI (sm (bWc B1) f (p + 1)) → (∀ y, y < sm (bWc B1) f (p + 1) → hI h' 378 y = nI (gW B1 f (p + 1) y)) → AW w mX10_gather 0 0 (rV Q) 0 0 94 [some (.ref 347), some (.int (nI m)), some (.int (nI (f + p + 1))), none] [] h') →
      ∀ (d i : Nat) (h' : Hp), i + d = bWc B1 (f + p) → Cg (fun id j => id = 378 ∨ (id = 347 ∧ j = 50)) h h' → hI h' 347 50 = nI (sm (bWc B1) f p + i) → (∀ y, y < sm (bWc B1) f p + i → hI h' 378 y = nI (gW B1 f (p + 1) y)) → AW w mX10_gather 0 0 (rV Q) 0 0 116 [some (.ref 347), some (.int (nI m)), some (.int (nI (f + p))), some (.int (nI i))] [] h' := by
    intro p hp Kc d
    have hs : f + p < bNs B1 := by omega
    have hw := B.1.2.2.2.1 (f + p) hs
    have le1 : sm (bWc B1) f (p + 1) ≤ sm (bWc B1) f (rS k) := sm_up (by omega)
    have es : sm (bWc B1) f (p + 1) = sm (bWc B1) f p + bWc B1 (f + p) := rfl
    induction d with
    | zero =>
      intro i h' hi g q50 e
      have hi : i = bWc B1 (f + p) := by omega
      have c' : Lay L h' := g.lay c (fun id j q => by omega)
      have B' : bookM h' 1 B1 := B.cg g (fun id j q z => by unfold tmD at z; omega)
      have hv : hI h' 352 (20 + (f + p)) = nI (bWc B1 (f + p)) := (B'.2.2.2.2.1 (f + p) hs).1
      rw [hi] at q50 e ⊢
      have KK := Kc h' g q50 e
      refine sX10_gather_116 ?_
      rw [s_347 c', r_347_6 c', s_352 c', show (20 : Int32) = nI 20 from rfl, nI_add, cl_nI (by omega), hv, nI_1]
      exact ⟨rfl, by first | decide | exact vp_nI (j := 0) (by decide) (by decide) | exact vp_nI (j := 1) (by decide) (by decide), rfl, vp_nI (by omega) (by decide), fun _ => KK, fun z => absurd (by rw [ti_le]; omega) z⟩
    | succ d ih =>
      intro i h' hi g q50 e
      have c' : Lay L h' := g.lay c (fun id j q => by omega)
      have B' : bookM h' 1 B1 := B.cg g (fun id j q z => by unfold tmD at z; omega)
      have hv : hI h' 352 (20 + (f + p)) = nI (bWc B1 (f + p)) := (B'.2.2.2.2.1 (f + p) hs).1
      have hd := hw.2.2.2 i (by omega)
      have nx := ih (i + 1) (sI (sI h' 378 (sm (bWc B1) f p + i) (nI (bWd B1 (f + p) i))) 347 50 (nI (sm (bWc B1) f p + i + 1))) (by omega) ((g.sI (Or.inl rfl)).sI (Or.inr ⟨rfl, rfl⟩)) hI_eq (fun x hx => by
        rw [hI_ne (Or.inl (by decide))]
        by_cases q : x = sm (bWc B1) f p + i
        · subst q
          rw [hI_eq]
          show _ = nI (if sm (bWc B1) f p + i < sm (bWc B1) f p then _ else bWd B1 (f + p) (sm (bWc B1) f p + i - sm (bWc B1) f p))
          rw [if_neg (by omega), Nat.add_sub_cancel_left]
        · rw [hI_ne (Or.inr q)]; exact e x (by omega))
      refine sX10_gather_116 ?_
      rw [s_347 c', r_347_6 c', s_352 c', show (20 : Int32) = nI 20 from rfl, nI_add, cl_nI (show 20 + (f + p) < 2147483648 by omega), hv, r_347_49 c', nI_1 i]
      refine ⟨rfl, by first | decide | exact vp_nI (j := 0) (by decide) (by decide) | exact vp_nI (j := 1) (by decide) (by decide), rfl, vp_nI (by omega) (by decide), fun z => ?_, fun _ => ⟨by first | decide | exact vp_nI (j := 0) (by decide) (by decide) | exact vp_nI (j := 1) (by decide) (by decide), sp_kindOf (b := 1) c' (by decide) B' hs (by omega) ?_⟩⟩
      · rw [ti_le, nI_toInt (by omega), nI_toInt (by omega)] at z; omega
      · rw [s_378 c', q50, cl_nI (show sm (bWc B1) f p + i < 2147483648 by omega)]
        refine ⟨rfl, vp_nI (by omega) (by decide), fun h2 e2 => ⟨by rw [s_347 c'], fun h3 e3 => ?_⟩⟩
        subst e2
        rw [hI_ne (Or.inl (by decide)), q50, nI_1] at e3
        subst e3
        exact nx
  have lp : ∀ (d p : Nat) (h' : Hp), p + d = rS k → Cg (fun id j => id = 378 ∨ (id = 347 ∧ j = 50)) h h' → hI h' 347 50 = nI (sm (bWc B1) f p) → (∀ y, y < sm (bWc B1) f p → hI h' 378 y = nI (gW B1 f p y)) → AW w mX10_gather 0 0 (rV Q) 0 0 94 [some (.ref 347), some (.int (nI m)), some (.int (nI (f + p))), none] [] h' := by
    intro d p h' hp g q50 e
    induction d generalizing p h' with
    | zero =>
      have hp : p = rS k := by omega
      rw [hp] at q50 e ⊢
      have c' : Lay L h' := g.lay c (fun id j q => by omega)
      have jk' : hI h' 373 m = nI k := by rw [g.i (by omega)]; exact jk
      have jr' : hI h' 375 m = nI f := by rw [g.i (by omega)]; exact jr
      refine sX10_gather_94 ?_
      rw [s_347 c', r_347_44 c', s_375 c', r_347_42 c', s_373 c', cl_nI (by omega), jk', jr']
      exact ⟨rfl, by first | decide | exact vp_nI (j := 0) (by decide) (by decide) | exact vp_nI (j := 1) (by decide) (by decide), rfl, v, by first | decide | exact vp_nI (j := 0) (by decide) (by decide) | exact vp_nI (j := 1) (by decide) (by decide), rfl, v, sp_rightOf hk ⟨fun _ => K h' g q50 e, fun z => absurd (by rw [nI_add, ti_le]; omega) z⟩⟩
    | succ d ih =>
      have c' : Lay L h' := g.lay c (fun id j q => by omega)
      have jk' : hI h' 373 m = nI k := by rw [g.i (by omega)]; exact jk
      have jr' : hI h' 375 m = nI f := by rw [g.i (by omega)]; exact jr
      refine sX10_gather_94 ?_
      rw [s_347 c', r_347_44 c', s_375 c', r_347_42 c', s_373 c', cl_nI (by omega), jk', jr']
      refine ⟨rfl, by first | decide | exact vp_nI (j := 0) (by decide) (by decide) | exact vp_nI (j := 1) (by decide) (by decide), rfl, v, by first | decide | exact vp_nI (j := 0) (by decide) (by decide) | exact vp_nI (j := 1) (by decide) (by decide), rfl, v, sp_rightOf hk ⟨fun z => ?_, fun _ => inn p (by omega) (fun h2 g2 q2 e2 => ih (p + 1) h2 (by omega) g2 q2 e2) (bWc B1 (f + p)) 0 h' (by omega) g q50 (fun x hx => ?_)⟩⟩
      · rw [nI_add, ti_le, nI_toInt (by omega), nI_toInt (by omega)] at z; omega
      · rw [e x (by omega)]
        show _ = nI (if x < sm (bWc B1) f p then gW B1 f p x else _)
        rw [if_pos (by omega)]
  exact lp (rS k) 0 h (by omega) (Cg.rfl' h) q0 (fun y hy => absurd hy (Nat.not_lt_zero y))
theorem sp_g17 {Q : Hp → Prop} {m k f : Nat} {B1 : Bk} (c : Lay L h) (B : bookM h 0 B1) (hm : m < 40) (hk : k < 7) (jk : hI h 373 m = nI k) (jr : hI h 374 m = nI f) (hf : f + lS k ≤ bNs B1) (q0 : hI h 347 48 = 0) (K : ∀ h', Cg (fun id j => id = 377 ∨ (id = 347 ∧ j = 48)) h h' → hI h' 347 48 = nI (sm (bWc B1) f (lS k)) → (∀ y, y < sm (bWc B1) f (lS k) → hI h' 377 y = nI (gW B1 f (lS k) y)) → AW w mX10_gather 0 0 (rV Q) 0 0 94 [some (.ref 347), some (.int (nI m)), some (.int (hI h' 375 m)), none] [] h') : AW w mX10_gather 0 0 (rV Q) 0 0 17 [some (.ref 347), some (.int (nI m)), some (.int (nI f)), none] [] h := by
  have hn := B.1.1
  have r2 := lS_le k
  have tot := gN_le B.1 hf r2
  have v : vp_in (nI m) 40 := vp_nI (by omega) (by decide)
  have inn : ∀ (p : Nat), p < lS k → (∀ h', Cg (fun id j => id = 377 ∨ (id = 347 ∧ j = 48)) h h' → hI h' 347 48 = nI (sm (bWc B1) f (p + 1)) → (∀ y, y < sm (bWc B1) f (p + 1) → hI h' 377 y = nI (gW B1 f (p + 1) y)) → AW w mX10_gather 0 0 (rV Q) 0 0 17 [some (.ref 347), some (.int (nI m)), some (.int (nI (f + p + 1))), none] [] h') →
      ∀ (d i : Nat) (h' : Hp), i + d = bWc B1 (f + p) → Cg (fun id j => id = 377 ∨ (id = 347 ∧ j = 48)) h h' → hI h' 347 48 = nI (sm (bWc B1) f p + i) → (∀ y, y < sm (bWc B1) f p + i → hI h' 377 y = nI (gW B1 f (p + 1) y)) → AW w mX10_gather 0 0 (rV Q) 0 0 39 [some (.ref 347), some (.int (nI m)), some (.int (nI (f + p))), some (.int (nI i))] [] h' := by
    intro p hp Kc d
    have hs : f + p < bNs B1 := by omega
    have hw := B.1.2.2.2.1 (f + p) hs
    have le1 : sm (bWc B1) f (p + 1) ≤ sm (bWc B1) f (lS k) := sm_up (by omega)
    have es : sm (bWc B1) f (p + 1) = sm (bWc B1) f p + bWc B1 (f + p) := rfl
    induction d with
    | zero =>
      intro i h' hi g q50 e
      have hi : i = bWc B1 (f + p) := by omega
      have c' : Lay L h' := g.lay c (fun id j q => by omega)
      have B' : bookM h' 0 B1 := B.cg g (fun id j q z => by unfold tmD at z; omega)
      have hv : hI h' 352 (f + p) = nI (bWc B1 (f + p)) := by have := (B'.2.2.2.2.1 (f + p) hs).1; rw [show 20 * 0 + (f + p) = f + p by omega] at this; exact this
      rw [hi] at q50 e ⊢
      have KK := Kc h' g q50 e
      refine sX10_gather_39 ?_
      rw [s_347 c', r_347_6 c', s_352 c', cl_nI (by omega), hv, nI_1]
      exact ⟨rfl, by first | decide | exact vp_nI (j := 0) (by decide) (by decide) | exact vp_nI (j := 1) (by decide) (by decide), rfl, vp_nI (by omega) (by decide), fun _ => KK, fun z => absurd (by rw [ti_le]; omega) z⟩
    | succ d ih =>
      intro i h' hi g q50 e
      have c' : Lay L h' := g.lay c (fun id j q => by omega)
      have B' : bookM h' 0 B1 := B.cg g (fun id j q z => by unfold tmD at z; omega)
      have hv : hI h' 352 (f + p) = nI (bWc B1 (f + p)) := by have := (B'.2.2.2.2.1 (f + p) hs).1; rw [show 20 * 0 + (f + p) = f + p by omega] at this; exact this
      have hd := hw.2.2.2 i (by omega)
      have nx := ih (i + 1) (sI (sI h' 377 (sm (bWc B1) f p + i) (nI (bWd B1 (f + p) i))) 347 48 (nI (sm (bWc B1) f p + i + 1))) (by omega) ((g.sI (Or.inl rfl)).sI (Or.inr ⟨rfl, rfl⟩)) hI_eq (fun x hx => by
        rw [hI_ne (Or.inl (by decide))]
        by_cases q : x = sm (bWc B1) f p + i
        · subst q
          rw [hI_eq]
          show _ = nI (if sm (bWc B1) f p + i < sm (bWc B1) f p then _ else bWd B1 (f + p) (sm (bWc B1) f p + i - sm (bWc B1) f p))
          rw [if_neg (by omega), Nat.add_sub_cancel_left]
        · rw [hI_ne (Or.inr q)]; exact e x (by omega))
      refine sX10_gather_39 ?_
      rw [s_347 c', r_347_6 c', s_352 c', cl_nI (show f + p < 2147483648 by omega), hv, r_347_47 c', nI_1 i]
      refine ⟨rfl, by first | decide | exact vp_nI (j := 0) (by decide) (by decide) | exact vp_nI (j := 1) (by decide) (by decide), rfl, vp_nI (by omega) (by decide), fun z => ?_, fun _ => ⟨by first | decide | exact vp_nI (j := 0) (by decide) (by decide) | exact vp_nI (j := 1) (by decide) (by decide), sp_kindOf (b := 0) c' (by decide) B' hs (by omega) ?_⟩⟩
      · rw [ti_le, nI_toInt (by omega), nI_toInt (by omega)] at z; omega
      · rw [s_377 c', q50, cl_nI (show sm (bWc B1) f p + i < 2147483648 by omega)]
        refine ⟨rfl, vp_nI (by omega) (by decide), fun h2 e2 => ⟨by rw [s_347 c'], fun h3 e3 => ?_⟩⟩
        subst e2
        rw [hI_ne (Or.inl (by decide)), q50, nI_1] at e3
        subst e3
        exact nx
  have lp : ∀ (d p : Nat) (h' : Hp), p + d = lS k → Cg (fun id j => id = 377 ∨ (id = 347 ∧ j = 48)) h h' → hI h' 347 48 = nI (sm (bWc B1) f p) → (∀ y, y < sm (bWc B1) f p → hI h' 377 y = nI (gW B1 f p y)) → AW w mX10_gather 0 0 (rV Q) 0 0 17 [some (.ref 347), some (.int (nI m)), some (.int (nI (f + p))), none] [] h' := by
    intro d p h' hp g q50 e
    induction d generalizing p h' with
    | zero =>
      have hp : p = lS k := by omega
      rw [hp] at q50 e ⊢
      have c' : Lay L h' := g.lay c (fun id j q => by omega)
      have jk' : hI h' 373 m = nI k := by rw [g.i (by omega)]; exact jk
      have jr' : hI h' 374 m = nI f := by rw [g.i (by omega)]; exact jr
      have KK := K h' g q50 e
      refine sX10_gather_17 ?_
      rw [s_347 c', r_347_43 c', s_374 c', r_347_42 c', s_373 c', cl_nI (by omega), jk', jr']
      refine ⟨rfl, by first | decide | exact vp_nI (j := 0) (by decide) (by decide) | exact vp_nI (j := 1) (by decide) (by decide), rfl, v, by first | decide | exact vp_nI (j := 0) (by decide) (by decide) | exact vp_nI (j := 1) (by decide) (by decide), rfl, v, sp_leftOf hk ⟨fun _ => ?_, fun z => absurd (by rw [nI_add, ti_le]; omega) z⟩⟩
      rw [s_347 c', r_347_44 c', s_375 c']
      exact ⟨rfl, by first | decide | exact vp_nI (j := 0) (by decide) (by decide) | exact vp_nI (j := 1) (by decide) (by decide), rfl, v, KK⟩
    | succ d ih =>
      have c' : Lay L h' := g.lay c (fun id j q => by omega)
      have jk' : hI h' 373 m = nI k := by rw [g.i (by omega)]; exact jk
      have jr' : hI h' 374 m = nI f := by rw [g.i (by omega)]; exact jr
      refine sX10_gather_17 ?_
      rw [s_347 c', r_347_43 c', s_374 c', r_347_42 c', s_373 c', cl_nI (by omega), jk', jr']
      refine ⟨rfl, by first | decide | exact vp_nI (j := 0) (by decide) (by decide) | exact vp_nI (j := 1) (by decide) (by decide), rfl, v, by first | decide | exact vp_nI (j := 0) (by decide) (by decide) | exact vp_nI (j := 1) (by decide) (by decide), rfl, v, sp_leftOf hk ⟨fun z => ?_, fun _ => inn p (by omega) (fun h2 g2 q2 e2 => ih (p + 1) h2 (by omega) g2 q2 e2) (bWc B1 (f + p)) 0 h' (by omega) g q50 (fun x hx => ?_)⟩⟩
      · rw [nI_add, ti_le, nI_toInt (by omega), nI_toInt (by omega)] at z; omega
      · rw [e x (by omega)]
        show _ = nI (if x < sm (bWc B1) f p then gW B1 f p x else _)
        rw [if_pos (by omega)]
  exact lp (lS k) 0 h (by omega) (Cg.rfl' h) q0 (fun y hy => absurd hy (Nat.not_lt_zero y))
def lmD (id j : Nat) : Prop := id = 377 ∨ id = 378 ∨ (id = 347 ∧ (j = 48 ∨ j = 50))
theorem sp_gatherM {Q : Hp → Prop} {S : Ly} {m : Nat} (c : Lay L h) (B : booksM h S.1) (J : jsM h S) (hm : m < JN S) (K : ∀ h', Cg lmD h h' → lkM h' (LN S m) (RN S m) (LK S m) (RK S m) → Q h') : AC w mX10_gather 0 0 (rV Q) [.ref 347, .int (nI m)] h := by
  have n0 := B.1.1.1
  have n1 := B.2.1.1
  have hJ := JN_le (S := S) n0 n1
  obtain ⟨j1, j2, j3⟩ := J m hm
  obtain ⟨o1, o2, o3, o4⟩ := JN_ok (S := S) n0 n1 hm
  have tl : LN S m ≤ 20 := gN_le B.1.1 o2 (lS_le (JK S m))
  have tr : RN S m ≤ 20 := gN_le B.2.1 o3 (rS_le (JK S m))
  have v : vp_in (nI m) 40 := vp_nI (by omega) (by decide)
  refine eX10_gather (sX10_gather_0 ⟨by rw [s_347 c], fun h1 e1 h2 e2 => ?_⟩)
  subst e1
  have g2 : Cg lmD h h2 := by rw [e2]; exact ((Cg.rfl' h).sI (by unfold lmD; omega)).sI (by unfold lmD; omega)
  have c2 : Lay L h2 := g2.lay c (fun id j q => by unfold lmD at q; omega)
  have B2 : booksM h2 S.1 := B.cg g2 (fun id j q => by unfold lmD at q; omega)
  have i1 : hI h2 373 m = nI (JK S m) := by rw [g2.i (fun q => by unfold lmD at q; omega)]; exact j1
  have i2 : hI h2 374 m = nI (JL S m) := by rw [g2.i (fun q => by unfold lmD at q; omega)]; exact j2
  have i3 : hI h2 375 m = nI (JR S m) := by rw [g2.i (fun q => by unfold lmD at q; omega)]; exact j3
  have z48 : hI h2 347 48 = 0 := by rw [e2, hI_ne (Or.inr (by decide)), hI_eq]
  have z50 : hI h2 347 50 = 0 := by rw [e2, hI_eq]
  rw [r_347_43 c, s_374 c, cl_nI (by omega), i2]
  refine ⟨by first | decide | exact vp_nI (j := 0) (by decide) (by decide) | exact vp_nI (j := 1) (by decide) (by decide), rfl, v, sp_g17 c2 B2.1 (by omega) o1 i1 i2 o2 z48 (fun h3 g3 q3 e3 => ?_)⟩
  have c3 : Lay L h3 := g3.lay c2 (fun id j q => by omega)
  have B3 : booksM h3 S.1 := B2.cg g3 (fun id j q => by omega)
  have k1 : hI h3 373 m = nI (JK S m) := by rw [g3.i (by omega)]; exact i1
  have k3 : hI h3 375 m = nI (JR S m) := by rw [g3.i (by omega)]; exact i3
  have y50 : hI h3 347 50 = 0 := by rw [g3.i (by omega)]; exact z50
  rw [k3]
  refine sp_g94 c3 B3.2 (by omega) o1 k1 k3 o3 y50 (fun h4 g4 q4 e4 => K h4 ((g2.trans (g3.mono (fun id j q => by unfold lmD; omega))).trans (g4.mono (fun id j q => by unfold lmD; omega))) ⟨⟨tl, tr⟩, ?_, q4, fun x hx => ?_, e4⟩)
  · rw [g4.i (by omega)]; exact q3
  · rw [g4.i (by omega)]; exact e3 x hx
theorem sp_size {Q : Int32 → Hp → Prop} {a b : Nat} (ha : a < 1000) (hb : b < 1000) (K : Q (nI (dN a b)) h) : AC w mX10_size 0 0 (rI Q) [.int (nI a - nI b)] h := by
  have e := nI_abs (x := a) (y := b) (by omega) (by omega)
  have K : Q (nI ((a - b) + (b - a))) h := K
  rw [← e] at K
  refine eX10_size (sX10_size_0 ⟨fun z => ?_, fun z => ?_⟩)
  · rw [if_pos z] at K; exact K
  · rw [if_neg z, Int32.zero_sub] at K; exact K
theorem dN_c (a b : Nat) : dN a b = dN b a := by unfold dN; omega
theorem sp_leadR {Q : Hp → Prop} {x : Nat} (c : Lay L h) (D : shareM h n0 n1 sh tm) (T : lkM h nl nr lk rk) (hl : ∀ x, x < nl → lk x < n0) (hr : ∀ y, y < nr → rk y < n1) (hx : x < nl) (K : AW w mX10_linkAll 0 0 (rV Q) 0 0 2 [some (.ref 347), some (.int (nI (x + 1))), none, none, none, none] [] (sI h 379 x (oI (tRf sh lk rk nr x)))) : ∀ (d k : Nat), k + d = nr → AW w mX10_linkAll 0 0 (rV Q) 0 0 14 [some (.ref 347), some (.int (nI x)), some (.int (oI (mLk (fun y => prN sh lk rk x y) (fun y => dN x y) k))), some (.int (nI k)), none, none] [] h := by
  have h0 := D.1.1
  have h1 := D.1.2.1
  have t1 := T.1.1
  have t2 := T.1.2
  have ha := hl x hx
  have z20 := (okS_sN D.1 ha (Or.inr rfl)).2
  have vx : vp_in (nI x) 20 := vp_nI (by omega) (by decide)
  have hz : hI h 362 (41 * lk x + 40) = nI (sN sh (lk x) 40) := shareM_at D ha (Or.inr rfl)
  have at' : ∀ y, y < nr → hI h 362 (41 * lk x + rk y) = nI (prN sh lk rk x y) := fun y hy => shareM_at D ha (Or.inl (hr y hy))
  have pb : ∀ y, y < nr → prN sh lk rk x y ≤ 1048576 := fun y hy => (okS_sN D.1 ha (Or.inl (hr y hy))).2
  have et : tRf sh lk rk nr x = (fin1 (fun y => prN sh lk rk x y) (sN sh (lk x) 40) (mLk (fun y => prN sh lk rk x y) (fun y => dN x y) nr)).1 := by unfold tRf ldF; rw [cL_m]
  rw [et] at K
  intro d
  induction d with
  | zero =>
    intro k hk
    have hk : k = nr := by omega
    subst hk
    cases q : mLk (fun y => prN sh lk rk x y) (fun y => dN x y) k with
    | none =>
      rw [q] at K
      refine sX10_linkAll_14 ?_
      rw [s_347 c, T.2.2.1, r_347_51 c, s_379 c, cl_nI (by omega), nI_1]
      exact ⟨rfl, fun _ => ⟨by first | decide | exact vp_nI (j := 0) (by decide) (by decide) | exact vp_nI (j := 1) (by decide) (by decide), fun _ => ⟨rfl, vx, fun h1 e1 => by rw [e1]; exact K⟩, fun z => absurd (by decide) z⟩, fun z => absurd (by rw [ti_le]; omega) z⟩
    | some b =>
      have hb := mLk_lt q
      have b1 := hr b hb
      have p1 := pb b hb
      have a1 := at' b hb
      have vb : vp_in (nI b) 20 := vp_nI (by omega) (by decide)
      rw [q] at K
      have K : AW w mX10_linkAll 0 0 (rV Q) 0 0 2 [some (.ref 347), some (.int (nI (x + 1))), none, none, none, none] [] (sI h 379 x (oI (if sN sh (lk x) 40 < prN sh lk rk x b then (some b, prN sh lk rk x b) else (none, sN sh (lk x) 40)).1)) := K
      refine sX10_linkAll_14 ?_
      rw [show oI (some b) = nI b from rfl, s_347 c, T.2.2.1, r_347_51 c, s_379 c, r_347_18 c, r_347_47 c, s_377 c, cl_nI (show x < 2147483648 by omega), T.2.2.2.1 x hx, r_347_49 c, s_378 c, cl_nI (show b < 2147483648 by omega), T.2.2.2.2 b hb, s_362 c, m_41, show (40 : Int32) = nI 40 from rfl, nI_add (41 * lk x) (rk b), nI_add (41 * lk x) 40, cl_nI (show 41 * lk x + rk b < 2147483648 by omega), cl_nI (show 41 * lk x + 40 < 2147483648 by omega), a1, hz, nI_1 x]
      refine ⟨rfl, fun _ => ⟨by first | decide | exact vp_nI (j := 0) (by decide) (by decide) | exact vp_nI (j := 1) (by decide) (by decide), fun z => ?_, fun _ => ⟨by first | decide | exact vp_nI (j := 0) (by decide) (by decide) | exact vp_nI (j := 1) (by decide) (by decide), by first | decide | exact vp_nI (j := 0) (by decide) (by decide) | exact vp_nI (j := 1) (by decide) (by decide), rfl, vx, by first | decide | exact vp_nI (j := 0) (by decide) (by decide) | exact vp_nI (j := 1) (by decide) (by decide), rfl, vb, rfl, vp_nI (by omega) (by decide), vp_nI (by omega) (by decide), fun z => ⟨rfl, vx, fun h2 e2 => ?_⟩, fun z => ⟨rfl, vx, fun h2 e2 => ?_⟩⟩⟩, fun z => absurd (by rw [ti_le]; omega) z⟩
      · rw [ti_lt, t_0, nI_toInt (by omega)] at z; omega
      · rw [ti_le, nI_toInt (by omega), nI_toInt (by omega)] at z
        rw [if_neg (by omega)] at K
        rw [e2]; exact K
      · rw [ti_le, nI_toInt (by omega), nI_toInt (by omega)] at z
        rw [if_pos (by omega)] at K
        rw [e2]; exact K
  | succ d ih =>
    intro k hk
    have hk' : k < nr := by omega
    have nx := ih (k + 1) (by omega)
    rw [mLk_s] at nx
    have p2 := pb k hk'
    have a2 := at' k hk'
    have b2 := hr k hk'
    have vk : vp_in (nI k) 20 := vp_nI (by omega) (by decide)
    cases q : mLk (fun y => prN sh lk rk x y) (fun y => dN x y) k with
    | none =>
      rw [q] at nx
      refine sX10_linkAll_14 ?_
      rw [s_347 c, T.2.2.1, r_347_18 c, r_347_47 c, s_377 c, cl_nI (show x < 2147483648 by omega), T.2.2.2.1 x hx, r_347_49 c, s_378 c, cl_nI (show k < 2147483648 by omega), T.2.2.2.2 k hk', s_362 c, m_41, nI_add (41 * lk x) (rk k), cl_nI (show 41 * lk x + rk k < 2147483648 by omega), a2]
      refine ⟨rfl, fun z => ?_, fun _ => ⟨by first | decide | exact vp_nI (j := 0) (by decide) (by decide) | exact vp_nI (j := 1) (by decide) (by decide), by first | decide | exact vp_nI (j := 0) (by decide) (by decide) | exact vp_nI (j := 1) (by decide) (by decide), rfl, vx, by first | decide | exact vp_nI (j := 0) (by decide) (by decide) | exact vp_nI (j := 1) (by decide) (by decide), rfl, vk, rfl, vp_nI (by omega) (by decide), fun z => absurd z (by decide), fun _ => sX10_linkAll_74 ⟨fun _ => ?_, fun z => absurd ?_ z⟩⟩⟩
      · rw [ti_le, nI_toInt (by omega), nI_toInt (by omega)] at z; omega
      · rw [nI_1]; exact nx
      · rw [ti_lt, tm_1, nI_toInt (by omega)]; omega
    | some b =>
      have hb := mLk_lt q
      have b1 := hr b (by omega)
      have p1 := pb b (by omega)
      have a1 := at' b (by omega)
      have vb : vp_in (nI b) 20 := vp_nI (by omega) (by decide)
      rw [q] at nx
      have nx : AW w mX10_linkAll 0 0 (rV Q) 0 0 14 [some (.ref 347), some (.int (nI x)), some (.int (oI (if prN sh lk rk x b < prN sh lk rk x k ∨ (prN sh lk rk x k = prN sh lk rk x b ∧ dN x k < dN x b) then some k else some b))), some (.int (nI (k + 1))), none, none] [] h := nx
      refine sX10_linkAll_14 ?_
      rw [show oI (some b) = nI b from rfl, s_347 c, T.2.2.1, r_347_18 c, r_347_47 c, s_377 c, cl_nI (show x < 2147483648 by omega), T.2.2.2.1 x hx, r_347_49 c, s_378 c, cl_nI (show k < 2147483648 by omega), T.2.2.2.2 k hk', s_362 c, m_41, nI_add (41 * lk x) (rk k), cl_nI (show 41 * lk x + rk k < 2147483648 by omega), a2, cl_nI (show b < 2147483648 by omega), T.2.2.2.2 b (by omega), nI_add (41 * lk x) (rk b), cl_nI (show 41 * lk x + rk b < 2147483648 by omega), a1]
      refine ⟨rfl, fun z => ?_, fun _ => ⟨by first | decide | exact vp_nI (j := 0) (by decide) (by decide) | exact vp_nI (j := 1) (by decide) (by decide), by first | decide | exact vp_nI (j := 0) (by decide) (by decide) | exact vp_nI (j := 1) (by decide) (by decide), rfl, vx, by first | decide | exact vp_nI (j := 0) (by decide) (by decide) | exact vp_nI (j := 1) (by decide) (by decide), rfl, vk, rfl, vp_nI (by omega) (by decide), fun _ => ⟨vb, vp_nI (by omega) (by decide), sX10_linkAll_74 ?_⟩, fun z => absurd ?_ z⟩⟩
      · rw [ti_le, nI_toInt (by omega), nI_toInt (by omega)] at z; omega
      · rw [nI_1, ti_lt, nI_toInt (by omega), nI_toInt (by omega), nI_inj (by omega) (by omega)]
        refine ⟨fun z => ?_, fun z => ⟨fun z2 => ?_, fun z2 => sp_size (by omega) (by omega) (sp_size (by omega) (by omega) ⟨fun z3 => ?_, fun z3 => ?_⟩)⟩⟩
        · rw [if_pos (Or.inl (by omega))] at nx; exact nx
        · rw [if_neg (fun u => by omega)] at nx; exact nx
        · have d1 : dN x k < 100 := by unfold dN; omega
          have d2 : dN x b < 100 := by unfold dN; omega
          rw [ti_le, nI_toInt (by omega), nI_toInt (by omega)] at z3
          rw [if_neg (fun u => by omega)] at nx; exact nx
        · have d1 : dN x k < 100 := by unfold dN; omega
          have d2 : dN x b < 100 := by unfold dN; omega
          rw [ti_le, nI_toInt (by omega), nI_toInt (by omega)] at z3
          rw [if_pos (Or.inr ⟨z2, by omega⟩)] at nx; exact nx
      · rw [ti_le, t_0, nI_toInt (by omega)]; omega
theorem sp_leadL {Q : Hp → Prop} {x : Nat} (c : Lay L h) (D : shareM h n0 n1 sh tm) (T : lkM h nl nr lk rk) (hl : ∀ x, x < nl → lk x < n0) (hr : ∀ y, y < nr → rk y < n1) (hx : x < nr) (K : AW w mX10_linkAll 0 0 (rV Q) 0 0 181 [some (.ref 347), some (.int (nI (x + 1))), none, none, none, none] [] (sI h 380 x (oI (tLf sh lk rk nl x)))) : ∀ (d k : Nat), k + d = nl → AW w mX10_linkAll 0 0 (rV Q) 0 0 193 [some (.ref 347), some (.int (nI x)), some (.int (oI (mLk (fun y => prN sh lk rk y x) (fun y => dN x y) k))), some (.int (nI k)), none, none] [] h := by
  have h0 := D.1.1
  have h1 := D.1.2.1
  have t1 := T.1.1
  have t2 := T.1.2
  have ha := hr x hx
  have vx : vp_in (nI x) 20 := vp_nI (by omega) (by decide)
  have at' : ∀ y, y < nl → hI h 362 (41 * lk y + rk x) = nI (prN sh lk rk y x) := fun y hy => shareM_at D (hl y hy) (Or.inl ha)
  have pb : ∀ y, y < nl → prN sh lk rk y x ≤ 1048576 := fun y hy => (okS_sN D.1 (hl y hy) (Or.inl ha)).2
  have et : tLf sh lk rk nl x = (fin1 (fun y => prN sh lk rk y x) 0 (mLk (fun y => prN sh lk rk y x) (fun y => dN x y) nl)).1 := by unfold tLf ldF; rw [cL_m]
  rw [et] at K
  intro d
  induction d with
  | zero =>
    intro k hk
    have hk : k = nl := by omega
    subst hk
    cases q : mLk (fun y => prN sh lk rk y x) (fun y => dN x y) k with
    | none =>
      rw [q] at K
      refine sX10_linkAll_193 ?_
      rw [s_347 c, T.2.1, r_347_52 c, s_380 c, cl_nI (by omega), nI_1]
      exact ⟨rfl, fun _ => ⟨by first | decide | exact vp_nI (j := 0) (by decide) (by decide) | exact vp_nI (j := 1) (by decide) (by decide), fun _ => ⟨rfl, vx, fun h1 e1 => by rw [e1]; exact K⟩, fun z => absurd (by decide) z⟩, fun z => absurd (by rw [ti_le]; omega) z⟩
    | some b =>
      have hb := mLk_lt q
      have b1 := hl b hb
      have p1 := pb b hb
      have a1 := at' b hb
      have vb : vp_in (nI b) 20 := vp_nI (by omega) (by decide)
      rw [q] at K
      have K : AW w mX10_linkAll 0 0 (rV Q) 0 0 181 [some (.ref 347), some (.int (nI (x + 1))), none, none, none, none] [] (sI h 380 x (oI (if 0 < prN sh lk rk b x then (some b, prN sh lk rk b x) else (none, 0)).1)) := K
      refine sX10_linkAll_193 ?_
      rw [show oI (some b) = nI b from rfl, s_347 c, T.2.1, r_347_52 c, s_380 c, r_347_18 c, r_347_47 c, s_377 c, cl_nI (show b < 2147483648 by omega), T.2.2.2.1 b hb, r_347_49 c, s_378 c, cl_nI (show x < 2147483648 by omega), T.2.2.2.2 x hx, s_362 c, m_41, nI_add (41 * lk b) (rk x), cl_nI (show 41 * lk b + rk x < 2147483648 by omega), a1, nI_1 x]
      refine ⟨rfl, fun _ => ⟨by first | decide | exact vp_nI (j := 0) (by decide) (by decide) | exact vp_nI (j := 1) (by decide) (by decide), fun z => ?_, fun _ => ⟨by first | decide | exact vp_nI (j := 0) (by decide) (by decide) | exact vp_nI (j := 1) (by decide) (by decide), by first | decide | exact vp_nI (j := 0) (by decide) (by decide) | exact vp_nI (j := 1) (by decide) (by decide), rfl, vb, by first | decide | exact vp_nI (j := 0) (by decide) (by decide) | exact vp_nI (j := 1) (by decide) (by decide), rfl, vx, rfl, vp_nI (by omega) (by decide), fun z => ⟨rfl, vx, fun h2 e2 => ?_⟩, fun z => ⟨rfl, vx, fun h2 e2 => ?_⟩⟩⟩, fun z => absurd (by rw [ti_le]; omega) z⟩
      · rw [ti_lt, t_0, nI_toInt (by omega)] at z; omega
      · rw [ti_le, t_0, nI_toInt (by omega)] at z
        rw [if_neg (by omega)] at K
        rw [e2]; exact K
      · rw [ti_le, t_0, nI_toInt (by omega)] at z
        rw [if_pos (by omega)] at K
        rw [e2]; exact K
  | succ d ih =>
    intro k hk
    have hk' : k < nl := by omega
    have nx := ih (k + 1) (by omega)
    rw [mLk_s] at nx
    have p2 := pb k hk'
    have a2 := at' k hk'
    have b2 := hl k hk'
    have vk : vp_in (nI k) 20 := vp_nI (by omega) (by decide)
    cases q : mLk (fun y => prN sh lk rk y x) (fun y => dN x y) k with
    | none =>
      rw [q] at nx
      refine sX10_linkAll_193 ?_
      rw [s_347 c, T.2.1, r_347_18 c, r_347_47 c, s_377 c, cl_nI (show k < 2147483648 by omega), T.2.2.2.1 k hk', r_347_49 c, s_378 c, cl_nI (show x < 2147483648 by omega), T.2.2.2.2 x hx, s_362 c, m_41, nI_add (41 * lk k) (rk x), cl_nI (show 41 * lk k + rk x < 2147483648 by omega), a2]
      refine ⟨rfl, fun z => ?_, fun _ => ⟨by first | decide | exact vp_nI (j := 0) (by decide) (by decide) | exact vp_nI (j := 1) (by decide) (by decide), by first | decide | exact vp_nI (j := 0) (by decide) (by decide) | exact vp_nI (j := 1) (by decide) (by decide), rfl, vk, by first | decide | exact vp_nI (j := 0) (by decide) (by decide) | exact vp_nI (j := 1) (by decide) (by decide), rfl, vx, rfl, vp_nI (by omega) (by decide), fun z => absurd z (by decide), fun _ => sX10_linkAll_253 ⟨fun _ => ?_, fun z => absurd ?_ z⟩⟩⟩
      · rw [ti_le, nI_toInt (by omega), nI_toInt (by omega)] at z; omega
      · rw [nI_1]; exact nx
      · rw [ti_lt, tm_1, nI_toInt (by omega)]; omega
    | some b =>
      have hb := mLk_lt q
      have b1 := hl b (by omega)
      have p1 := pb b (by omega)
      have a1 := at' b (by omega)
      have vb : vp_in (nI b) 20 := vp_nI (by omega) (by decide)
      rw [q] at nx
      have nx : AW w mX10_linkAll 0 0 (rV Q) 0 0 193 [some (.ref 347), some (.int (nI x)), some (.int (oI (if prN sh lk rk b x < prN sh lk rk k x ∨ (prN sh lk rk k x = prN sh lk rk b x ∧ dN x k < dN x b) then some k else some b))), some (.int (nI (k + 1))), none, none] [] h := nx
      rw [dN_c x k, dN_c x b] at nx
      refine sX10_linkAll_193 ?_
      rw [show oI (some b) = nI b from rfl, s_347 c, T.2.1, r_347_18 c, r_347_47 c, s_377 c, cl_nI (show k < 2147483648 by omega), T.2.2.2.1 k hk', r_347_49 c, s_378 c, cl_nI (show x < 2147483648 by omega), T.2.2.2.2 x hx, s_362 c, m_41, nI_add (41 * lk k) (rk x), cl_nI (show 41 * lk k + rk x < 2147483648 by omega), a2, cl_nI (show b < 2147483648 by omega), T.2.2.2.1 b (by omega), m_41, nI_add (41 * lk b) (rk x), cl_nI (show 41 * lk b + rk x < 2147483648 by omega), a1]
      refine ⟨rfl, fun z => ?_, fun _ => ⟨by first | decide | exact vp_nI (j := 0) (by decide) (by decide) | exact vp_nI (j := 1) (by decide) (by decide), by first | decide | exact vp_nI (j := 0) (by decide) (by decide) | exact vp_nI (j := 1) (by decide) (by decide), rfl, vk, by first | decide | exact vp_nI (j := 0) (by decide) (by decide) | exact vp_nI (j := 1) (by decide) (by decide), rfl, vx, rfl, vp_nI (by omega) (by decide), fun _ => ⟨vb, vp_nI (by omega) (by decide), sX10_linkAll_253 ?_⟩, fun z => absurd ?_ z⟩⟩
      · rw [ti_le, nI_toInt (by omega), nI_toInt (by omega)] at z; omega
      · rw [nI_1, ti_lt, nI_toInt (by omega), nI_toInt (by omega), nI_inj (by omega) (by omega)]
        refine ⟨fun z => ?_, fun z => ⟨fun z2 => ?_, fun z2 => sp_size (by omega) (by omega) (sp_size (by omega) (by omega) ⟨fun z3 => ?_, fun z3 => ?_⟩)⟩⟩
        · rw [if_pos (Or.inl (by omega))] at nx; exact nx
        · rw [if_neg (fun u => by omega)] at nx; exact nx
        · have d1 : dN k x < 100 := by unfold dN; omega
          have d2 : dN b x < 100 := by unfold dN; omega
          rw [ti_le, nI_toInt (by omega), nI_toInt (by omega)] at z3
          rw [if_neg (fun u => by omega)] at nx; exact nx
        · have d1 : dN k x < 100 := by unfold dN; omega
          have d2 : dN b x < 100 := by unfold dN; omega
          rw [ti_le, nI_toInt (by omega), nI_toInt (by omega)] at z3
          rw [if_pos (Or.inr ⟨z2, by omega⟩)] at nx; exact nx
      · rw [ti_le, t_0, nI_toInt (by omega)]; omega
def tM (h : Hp) (nl nr : Nat) (tR tL : Nat → Option Nat) : Prop := (∀ x b, tR x = some b → b < nr) ∧ (∀ y b, tL y = some b → b < nl) ∧ (∀ x, x < nl → hI h 379 x = oI (tR x)) ∧ ∀ y, y < nr → hI h 380 y = oI (tL y)
theorem tM.cg {D : Nat → Nat → Prop} {h h' : Hp} {nl nr : Nat} {tR tL : Nat → Option Nat} (T : tM h nl nr tR tL) (g : Cg D h h') (hd : ∀ id j, D id j → id ≠ 379 ∧ id ≠ 380) : tM h' nl nr tR tL :=
  ⟨T.1, T.2.1, fun x hx => by rw [g.i (fun q => (hd _ _ q).1 rfl)]; exact T.2.2.1 x hx, fun y hy => by rw [g.i (fun q => (hd _ _ q).2 rfl)]; exact T.2.2.2 y hy⟩
theorem sp_linkAll {Q : Hp → Prop} (c : Lay L h) (D : shareM h n0 n1 sh tm) (T : lkM h nl nr lk rk) (hl : ∀ x, x < nl → lk x < n0) (hr : ∀ y, y < nr → rk y < n1) (K : ∀ h', Cg (fun id _ => id = 379 ∨ id = 380) h h' → tM h' nl nr (tRf sh lk rk nr) (tLf sh lk rk nl) → Q h') : AC w mX10_linkAll 0 0 (rV Q) [.ref 347] h := by
  have t1 := T.1.1
  have t2 := T.1.2
  have lp2 : ∀ (d y : Nat) (h' : Hp), y + d = nr → Cg (fun id _ => id = 379 ∨ id = 380) h h' → (∀ x, x < nl → hI h' 379 x = oI (tRf sh lk rk nr x)) → (∀ x, x < y → hI h' 380 x = oI (tLf sh lk rk nl x)) → AW w mX10_linkAll 0 0 (rV Q) 0 0 181 [some (.ref 347), some (.int (nI y)), none, none, none, none] [] h' := by
    intro d
    induction d with
    | zero =>
      intro y h' hy g e1 e2
      have hy : y = nr := by omega
      subst hy
      have c' : Lay L h' := g.lay c (fun id j q => by omega)
      have T' := T.cg g (fun id j q => by omega)
      refine sX10_linkAll_181 ?_
      rw [s_347 c', T'.2.2.1]
      exact ⟨rfl, fun _ => K h' g ⟨fun x b => ldF_lt, fun x b => ldF_lt, e1, e2⟩, fun z => absurd (by rw [ti_le]; omega) z⟩
    | succ d ih =>
      intro y h' hy g e1 e2
      have c' : Lay L h' := g.lay c (fun id j q => by omega)
      have T' := T.cg g (fun id j q => by omega)
      have D' : shareM h' n0 n1 sh tm := D.cg g (fun id j q => by omega)
      refine sX10_linkAll_181 ?_
      rw [s_347 c', T'.2.2.1]
      refine ⟨rfl, fun z => ?_, fun _ => sp_leadL c' D' T' hl hr (by omega) (ih (y + 1) _ (by omega) (g.sI (Or.inr rfl)) (fun x hx => ?_) (fun x hx => ?_)) nl 0 (by omega)⟩
      · rw [ti_le, nI_toInt (by omega), nI_toInt (by omega)] at z; omega
      · rw [hI_ne (Or.inl (by decide))]; exact e1 x hx
      · by_cases q : x = y
        · subst q; exact hI_eq
        · rw [hI_ne (Or.inr q)]; exact e2 x (by omega)
  have lp1 : ∀ (d y : Nat) (h' : Hp), y + d = nl → Cg (fun id _ => id = 379 ∨ id = 380) h h' → (∀ x, x < y → hI h' 379 x = oI (tRf sh lk rk nr x)) → AW w mX10_linkAll 0 0 (rV Q) 0 0 2 [some (.ref 347), some (.int (nI y)), none, none, none, none] [] h' := by
    intro d
    induction d with
    | zero =>
      intro y h' hy g e1
      have hy : y = nl := by omega
      subst hy
      have c' : Lay L h' := g.lay c (fun id j q => by omega)
      have T' := T.cg g (fun id j q => by omega)
      refine sX10_linkAll_2 ?_
      rw [s_347 c', T'.2.1]
      exact ⟨rfl, fun _ => lp2 nr 0 h' (by omega) g e1 (fun x hx => absurd hx (Nat.not_lt_zero x)), fun z => absurd (by rw [ti_le]; omega) z⟩
    | succ d ih =>
      intro y h' hy g e1
      have c' : Lay L h' := g.lay c (fun id j q => by omega)
      have T' := T.cg g (fun id j q => by omega)
      have D' : shareM h' n0 n1 sh tm := D.cg g (fun id j q => by omega)
      refine sX10_linkAll_2 ?_
      rw [s_347 c', T'.2.1]
      refine ⟨rfl, fun z => ?_, fun _ => sp_leadR c' D' T' hl hr (by omega) (ih (y + 1) _ (by omega) (g.sI (Or.inl rfl)) (fun x hx => ?_)) nr 0 (by omega)⟩
      · rw [ti_le, nI_toInt (by omega), nI_toInt (by omega)] at z; omega
      · by_cases q : x = y
        · subst q; exact hI_eq
        · rw [hI_ne (Or.inr q)]; exact e1 x (by omega)
  exact eX10_linkAll (sX10_linkAll_0 (lp1 nl 0 h (by omega) (Cg.rfl' h) (fun x hx => absurd hx (Nat.not_lt_zero x))))
end LD
