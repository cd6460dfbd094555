/-! ===== rounds, the reference ===== -/
def dlM (h : Hp) (n0 : Nat) (D : Nat → Nat → Nat) : Prop := ∀ a b, a < n0 → b < 41 → hL h 376 (41 * a + b) = lN (D a b)
theorem sm_zero {f : Nat → Nat} {a : Nat} : ∀ {n : Nat}, (∀ i, i < n → f (a + i) = 0) → sm f a n = 0
  | 0, _ => rfl
  | n + 1, h => by
    show sm f a n + f (a + n) = 0
    rw [sm_zero (fun i hi => h i (by omega)), h n (by omega)]
theorem all41 {D : Nat → Nat → Nat} {n1 : Nat} (z : zD D n1) (h1 : n1 ≤ 40) (a : Nat) : sm (D a) 0 41 = allN D n1 a := by
  have e1 : sm (D a) 0 41 = sm (D a) 0 40 + D a (0 + 40) := rfl
  have e2 := sm_add (D a) n1 (40 - n1)
  rw [show n1 + (40 - n1) = 40 by omega, sm_zero (f := D a) (a := n1) (fun i hi => z a (n1 + i) (by omega) (by omega))] at e2
  unfold allN
  rw [e1, e2, Nat.zero_add]
  omega
section RM
variable {w : Wd} {L : Nat} {h : Hp} {bk : Nat → Bk} {sh : Sh} {tm : Nat → Int32} {n0 n1 : Nat}
theorem shareM_at (T : shareM h n0 n1 sh tm) {a b : Nat} (ha : a < n0) (hb : b < n1 ∨ b = 40) : hI h 362 (41 * a + b) = nI (sN sh a b) := by
  rw [← (okS_sN T.1 ha hb).1]
  rcases hb with q | q
  · exact (T.2 a ha).2.2 b q
  · subst q; exact (T.2 a ha).2.1
theorem dlM.ad {D : Nat → Nat → Nat} {a b v : Nat} (E : dlM h n0 D) (ha : a < n0) (hb : b < 41) : dlM (sL h 376 (41 * a + b) (lN (D a b + v))) n0 (adP D a b v) := fun x y hx hy => by
  unfold adP
  by_cases q : x = a ∧ y = b
  · obtain ⟨rfl, rfl⟩ := q; rw [if_pos ⟨rfl, rfl⟩, hL_eq]
  · rw [if_neg q, hL_ne (Or.inr (by omega))]; exact E x y hx hy
theorem sp_dealM {Q : Hp → Prop} {s t m : Nat} {D : Nat → Nat → Nat} (c : Lay L h) (B : booksM h bk) (T : shareM h (bNk (bk 0)) (bNk (bk 1)) sh tm) (E : dlM h (bNk (bk 0)) D) (hs : s < bNs (bk 0)) (ht : t + m ≤ bNs (bk 1)) (hm : m ≤ 2) (K : ∀ h', Cg (fun id _ => id = 376) h h' → dlM h' (bNk (bk 0)) (dlL sh (bk 0) (bk 1) s t m D (bWc (bk 0) s)) → Q h') : AC w mX10_deal 0 0 (rV Q) [.ref 347, .int (nI s), .int (nI t), .int (nI m)] h := by
  have n0 := B.1.1.1
  have n1 := B.2.1.1
  have k0 := B.1.1.2.1
  have k1 := B.2.1.2.1
  have okR := B.2.1
  have hw := B.1.1.2.2.2.1 s hs
  have hv1 : hI h 352 s = nI (bWc (bk 0) s) := by have := (B.1.2.2.2.2.1 s hs).1; rw [show 20 * 0 + s = s by omega] at this; exact this
  have word : ∀ (k : Nat) (D0 : Nat → Nat → Nat) (h' : Hp), k < bWc (bk 0) s → Cg (fun id _ => id = 376) h h' → dlM h' (bNk (bk 0)) D0 → (∀ h2, Cg (fun id _ => id = 376) h h2 → dlM h2 (bNk (bk 0)) (dlW sh (bk 1) (bWd (bk 0) s k) t m D0) → AW w mX10_deal 0 0 (rV Q) 0 0 3 [some (.ref 347), some (.int (nI s)), some (.int (nI t)), some (.int (nI m)), some (.int (nI (k + 1))), none, none, none, none, none, none] [] h2) →
      AW w mX10_deal 0 0 (rV Q) 0 0 43 [some (.ref 347), some (.int (nI s)), some (.int (nI t)), some (.int (nI m)), some (.int (nI k)), some (.int (nI (bWd (bk 0) s k))), some (.long (lN (sN sh (bWd (bk 0) s k) 40))), none, some (.int (nI t)), none, none] [] h' := by
    intro k D0 h' hk g E' Kw
    have c' : Lay L h' := g.lay c (fun id j q => by omega)
    have B' : booksM h' bk := B.cg g (fun id j q => by omega)
    have T' : shareM h' (bNk (bk 0)) (bNk (bk 1)) sh tm := T.cg g (fun id j q => by omega)
    have ha := hw.2.2.2 k hk
    generalize bWd (bk 0) s k = a at *
    have tl := totN_lt T.1 okR rfl ha ht hm
    have two : 0 < totN sh (bk 1) a t m → AW w mX10_deal 0 0 (rV Q) 0 0 120 [some (.ref 347), some (.int (nI s)), some (.int (nI t)), some (.int (nI m)), some (.int (nI k)), some (.int (nI a)), some (.long (lN (totN sh (bk 1) a t m))), none, some (.int (nI t)), none, none] [] h' := by
      intro hp
      have v3 : ¬ lN (totN sh (bk 1) a t m) = 0 := lN_ne0 (by omega) hp
      have val : ∀ b, (b < bNk (bk 1) ∨ b = 40) → ∀ x : Nat, lN x + 1048576 * (nI (sN sh a b)).toInt64 / lN (totN sh (bk 1) a t m) = lN (x + qN sh a b (totN sh (bk 1) a t m)) := fun b hb x => by
        have hn := (okS_sN T.1 ha hb).2
        rw [nI_l (by omega), show (1048576 : Int64) = lN 1048576 from rfl, lN_mul, lN_divB (by omega) hp (by omega), lN_add]; rfl
      have inn : ∀ (u : Nat) (D1 : Nat → Nat → Nat), u < bNs (bk 1) → (∀ h2, Cg (fun id _ => id = 376) h h2 → dlM h2 (bNk (bk 0)) (dlS sh (bk 1) (totN sh (bk 1) a t m) a u D1 (bWc (bk 1) u)) → AW w mX10_deal 0 0 (rV Q) 0 0 120 [some (.ref 347), some (.int (nI s)), some (.int (nI t)), some (.int (nI m)), some (.int (nI k)), some (.int (nI a)), some (.long (lN (totN sh (bk 1) a t m))), none, some (.int (nI (u + 1))), none, none] [] h2) →
          ∀ (d x : Nat) (h2 : Hp), x + d = bWc (bk 1) u → Cg (fun id _ => id = 376) h h2 → dlM h2 (bNk (bk 0)) (dlS sh (bk 1) (totN sh (bk 1) a t m) a u D1 x) → AW w mX10_deal 0 0 (rV Q) 0 0 131 [some (.ref 347), some (.int (nI s)), some (.int (nI t)), some (.int (nI m)), some (.int (nI k)), some (.int (nI a)), some (.long (lN (totN sh (bk 1) a t m))), none, some (.int (nI u)), some (.int (nI x)), none] [] h2 := by
        intro u D1 hu Kc d
        have hwu := okR.2.2.2.1 u hu
        induction d with
        | zero =>
          intro x h2 hx g2 E2
          have hx : x = bWc (bk 1) u := by omega
          have c2 : Lay L h2 := g2.lay c (fun id j q => by omega)
          have B2 : booksM h2 bk := B.cg g2 (fun id j q => by omega)
          have hv : hI h2 352 (20 + u) = nI (bWc (bk 1) u) := (B2.2.2.2.2.2.1 u hu).1
          rw [hx] at E2
          have KK := Kc h2 g2 E2
          refine sX10_deal_131 ?_
          rw [s_347 c2, r_347_6 c2, s_352 c2, show (20 : Int32) = nI 20 from rfl, nI_add, cl_nI (by omega), hv, nI_1]
          refine ⟨rfl, by first | decide | exact vp_nI (j := 0) (by decide) (by decide) | exact vp_nI (j := 1) (by decide) (by decide), rfl, vp_nI (by omega) (by decide), fun _ => KK, fun z => absurd ?_ z⟩
          rw [hx, ti_le]; omega
        | succ d ih =>
          intro x h2 hx g2 E2
          have c2 : Lay L h2 := g2.lay c (fun id j q => by omega)
          have B2 : booksM h2 bk := B.cg g2 (fun id j q => by omega)
          have T2 : shareM h2 (bNk (bk 0)) (bNk (bk 1)) sh tm := T.cg g2 (fun id j q => by omega)
          have hv : hI h2 352 (20 + u) = nI (bWc (bk 1) u) := (B2.2.2.2.2.2.1 u hu).1
          have hk1 := hwu.2.2.2 x (by omega)
          refine sX10_deal_131 ?_
          rw [s_347 c2, r_347_6 c2, s_352 c2, show (20 : Int32) = nI 20 from rfl, nI_add, cl_nI (by omega), hv, nI_1, nI_1]
          refine ⟨rfl, by first | decide | exact vp_nI (j := 0) (by decide) (by decide) | exact vp_nI (j := 1) (by decide) (by decide), rfl, vp_nI (by omega) (by decide), fun z => ?_, fun _ => sp_kindOf (b := 1) c2 (by decide) B2.2 hu (by omega) ?_⟩
          · rw [ti_le, nI_toInt (by omega), nI_toInt (by omega)] at z; omega
          · rw [s_347 c2, r_347_46 c2, s_376 c2, r_347_18 c2, s_362 c2, m_41, nI_add, cl_nI (by omega), E2 a _ ha (by omega), shareM_at T2 ha (Or.inl hk1), val _ (Or.inl hk1)]
            exact ⟨rfl, by first | decide | exact vp_nI (j := 0) (by decide) (by decide) | exact vp_nI (j := 1) (by decide) (by decide), rfl, vp_nI (by omega) (by decide), by first | decide | exact vp_nI (j := 0) (by decide) (by decide) | exact vp_nI (j := 1) (by decide) (by decide), rfl, vp_nI (by omega) (by decide), v3, fun h3 e3 => by rw [e3]; exact ih (x + 1) _ (by omega) (g2.sL rfl) (E2.ad ha (by omega))⟩
      have lp : ∀ (d x : Nat) (h2 : Hp), x + d = m → Cg (fun id _ => id = 376) h h2 → dlM h2 (bNk (bk 0)) (dlR sh (bk 1) (totN sh (bk 1) a t m) a t D0 x) → AW w mX10_deal 0 0 (rV Q) 0 0 120 [some (.ref 347), some (.int (nI s)), some (.int (nI t)), some (.int (nI m)), some (.int (nI k)), some (.int (nI a)), some (.long (lN (totN sh (bk 1) a t m))), none, some (.int (nI (t + x))), none, none] [] h2 := by
        intro d
        induction d with
        | zero =>
          intro x h2 hx g2 E2
          have hx : x = m := by omega
          rw [hx] at E2 ⊢
          have c2 : Lay L h2 := g2.lay c (fun id j q => by omega)
          have T2 : shareM h2 (bNk (bk 0)) (bNk (bk 1)) sh tm := T.cg g2 (fun id j q => by omega)
          refine sX10_deal_120 ?_
          rw [s_347 c2, r_347_46 c2, s_376 c2, r_347_18 c2, s_362 c2, m_41, show (40 : Int32) = nI 40 from rfl, nI_add, nI_add, cl_nI (by omega), E2 a 40 ha (by omega), shareM_at T2 ha (Or.inr rfl), val _ (Or.inr rfl), nI_1]
          refine ⟨fun _ => ⟨rfl, by first | decide | exact vp_nI (j := 0) (by decide) (by decide) | exact vp_nI (j := 1) (by decide) (by decide), rfl, vp_nI (by omega) (by decide), by first | decide | exact vp_nI (j := 0) (by decide) (by decide) | exact vp_nI (j := 1) (by decide) (by decide), rfl, vp_nI (by omega) (by decide), v3, fun h3 e3 => ?_⟩, fun z => absurd ?_ z⟩
          · rw [e3]
            refine Kw _ (g2.sL rfl) ?_
            unfold dlW
            rw [if_pos hp]
            exact E2.ad ha (by omega)
          · rw [ti_le]; omega
        | succ d ih =>
          intro x h2 hx g2 E2
          refine sX10_deal_120 ⟨fun z => ?_, fun _ => inn (t + x) _ (by omega) (fun h3 g3 E3 => ih (x + 1) h3 (by omega) g3 E3) (bWc (bk 1) (t + x)) 0 h2 (by omega) g2 E2⟩
          rw [nI_add, ti_le, nI_toInt (by omega), nI_toInt (by omega)] at z; omega
      exact lp m 0 h' (by omega) g E'
    have si : ∀ (u b0 : Nat), u < bNs (bk 1) → AW w mX10_deal 0 0 (rV Q) 0 0 43 [some (.ref 347), some (.int (nI s)), some (.int (nI t)), some (.int (nI m)), some (.int (nI k)), some (.int (nI a)), some (.long (lN (b0 + sm (fun x => sN sh a (bWd (bk 1) u x)) 0 (bWc (bk 1) u)))), none, some (.int (nI (u + 1))), none, none] [] h' →
        ∀ (d x : Nat), x + d = bWc (bk 1) u → AW w mX10_deal 0 0 (rV Q) 0 0 54 [some (.ref 347), some (.int (nI s)), some (.int (nI t)), some (.int (nI m)), some (.int (nI k)), some (.int (nI a)), some (.long (lN (b0 + sm (fun x => sN sh a (bWd (bk 1) u x)) 0 x))), none, some (.int (nI u)), some (.int (nI x)), none] [] h' := by
      intro u b0 hu Kc d
      have hwu := okR.2.2.2.1 u hu
      have hv : hI h' 352 (20 + u) = nI (bWc (bk 1) u) := (B'.2.2.2.2.2.1 u hu).1
      induction d with
      | zero =>
        intro x hx
        have hx : x = bWc (bk 1) u := by omega
        subst hx
        refine sX10_deal_54 ?_
        rw [s_347 c', r_347_6 c', s_352 c', show (20 : Int32) = nI 20 from rfl, nI_add, cl_nI (by omega), hv, nI_1]
        refine ⟨rfl, by first | decide | exact vp_nI (j := 0) (by decide) (by decide) | exact vp_nI (j := 1) (by decide) (by decide), rfl, vp_nI (by omega) (by decide), fun _ => Kc, fun z => absurd ?_ z⟩
        rw [ti_le]; omega
      | succ d ih =>
        intro x hx
        have hk1 := hwu.2.2.2 x (by omega)
        have nx := ih (x + 1) (by omega)
        have hn := (okS_sN T.1 ha (Or.inl hk1)).2
        have e1 : lN (b0 + sm (fun x => sN sh a (bWd (bk 1) u x)) 0 (x + 1)) = lN (b0 + sm (fun x => sN sh a (bWd (bk 1) u x)) 0 x) + (nI (sN sh a (bWd (bk 1) u x))).toInt64 := by
          rw [nI_l (by omega), lN_add]
          congr 1
          show b0 + (sm _ 0 x + sN sh a (bWd (bk 1) u (0 + x))) = _
          rw [Nat.zero_add]; omega
        rw [e1] at nx
        refine sX10_deal_54 ?_
        rw [s_347 c', r_347_6 c', s_352 c', r_347_18 c', show (20 : Int32) = nI 20 from rfl, nI_add, cl_nI (by omega), hv, nI_1, nI_1]
        refine ⟨rfl, by first | decide | exact vp_nI (j := 0) (by decide) (by decide) | exact vp_nI (j := 1) (by decide) (by decide), rfl, vp_nI (by omega) (by decide), fun z => ?_, fun _ => ⟨by first | decide | exact vp_nI (j := 0) (by decide) (by decide) | exact vp_nI (j := 1) (by decide) (by decide), sp_kindOf (b := 1) c' (by decide) B'.2 hu (by omega) ?_⟩⟩
        · rw [ti_le, nI_toInt (by omega), nI_toInt (by omega)] at z; omega
        · rw [s_362 c', m_41, nI_add, cl_nI (by omega), shareM_at T' ha (Or.inl hk1)]
          exact ⟨rfl, vp_nI (by omega) (by decide), nx⟩
    have sl : ∀ (d x : Nat), x + d = m → AW w mX10_deal 0 0 (rV Q) 0 0 43 [some (.ref 347), some (.int (nI s)), some (.int (nI t)), some (.int (nI m)), some (.int (nI k)), some (.int (nI a)), some (.long (lN (sN sh a 40 + sm (fun s => sm (fun x => sN sh a (bWd (bk 1) s x)) 0 (bWc (bk 1) s)) t x))), none, some (.int (nI (t + x))), none, none] [] h' := by
      intro d
      induction d with
      | zero =>
        intro x hx
        have hx : x = m := by omega
        subst hx
        refine sX10_deal_43 ⟨fun _ => ⟨fun z => two ?_, fun z => ?_⟩, fun z => absurd ?_ z⟩
        · rw [lg_cmp_gt] at z
          exact (lN_pos (show totN sh (bk 1) a t x < 4611686018427387904 by omega)).mp z
        · rw [lg_cmp_gt] at z
          have : ¬ 0 < totN sh (bk 1) a t x := fun y => z ((lN_pos (show totN sh (bk 1) a t x < 4611686018427387904 by omega)).mpr y)
          rw [nI_1]
          refine Kw h' g ?_
          unfold dlW
          rw [if_neg this]; exact E'
        · rw [nI_add, ti_le]; omega
      | succ d ih =>
        intro x hx
        refine sX10_deal_43 ⟨fun z => ?_, fun _ => ?_⟩
        · rw [nI_add, ti_le, nI_toInt (by omega), nI_toInt (by omega)] at z; omega
        · refine si (t + x) _ (by omega) ?_ (bWc (bk 1) (t + x)) 0 (by omega)
          have := ih (x + 1) (by omega)
          have e : sN sh a 40 + sm (fun s => sm (fun x => sN sh a (bWd (bk 1) s x)) 0 (bWc (bk 1) s)) t (x + 1) = sN sh a 40 + sm (fun s => sm (fun x => sN sh a (bWd (bk 1) s x)) 0 (bWc (bk 1) s)) t x + sm (fun y => sN sh a (bWd (bk 1) (t + x) y)) 0 (bWc (bk 1) (t + x)) := by
            show sN sh a 40 + (sm _ t x + sm (fun y => sN sh a (bWd (bk 1) (t + x) y)) 0 (bWc (bk 1) (t + x))) = _
            omega
          rw [e] at this
          exact this
    exact sl m 0 (by omega)
  have lp : ∀ (d k : Nat) (h' : Hp), k + d = bWc (bk 0) s → Cg (fun id _ => id = 376) h h' → dlM h' (bNk (bk 0)) (dlL sh (bk 0) (bk 1) s t m D k) → AW w mX10_deal 0 0 (rV Q) 0 0 3 [some (.ref 347), some (.int (nI s)), some (.int (nI t)), some (.int (nI m)), some (.int (nI k)), none, none, none, none, none, none] [] h' := by
    intro d
    induction d with
    | zero =>
      intro k h' hk g E'
      have hk : k = bWc (bk 0) s := by omega
      rw [hk] at E' ⊢
      have c' : Lay L h' := g.lay c (fun id j q => by omega)
      have hv' : hI h' 352 s = nI (bWc (bk 0) s) := by rw [g.i (by omega)]; exact hv1
      refine sX10_deal_3 ?_
      rw [s_347 c', r_347_6 c', s_352 c', cl_nI (by omega), hv']
      refine ⟨rfl, by first | decide | exact vp_nI (j := 0) (by decide) (by decide) | exact vp_nI (j := 1) (by decide) (by decide), rfl, vp_nI (by omega) (by decide), fun _ => K h' g E', fun z => absurd ?_ z⟩
      rw [ti_le]; omega
    | succ d ih =>
      intro k h' hk g E'
      have c' : Lay L h' := g.lay c (fun id j q => by omega)
      have B' : booksM h' bk := B.cg g (fun id j q => by omega)
      have T' : shareM h' (bNk (bk 0)) (bNk (bk 1)) sh tm := T.cg g (fun id j q => by omega)
      have hv' : hI h' 352 s = nI (bWc (bk 0) s) := by rw [g.i (by omega)]; exact hv1
      have ha := hw.2.2.2 k (by omega)
      have hn := (okS_sN T.1 ha (Or.inr rfl)).2
      refine sX10_deal_3 ?_
      rw [s_347 c', r_347_6 c', s_352 c', cl_nI (by omega), hv']
      refine ⟨rfl, by first | decide | exact vp_nI (j := 0) (by decide) (by decide) | exact vp_nI (j := 1) (by decide) (by decide), rfl, vp_nI (by omega) (by decide), fun z => ?_, fun _ => sp_kindOf (b := 0) c' (by decide) B'.1 hs (by omega) ?_⟩
      · rw [ti_le, nI_toInt (by omega), nI_toInt (by omega)] at z; omega
      · rw [s_347 c', r_347_18 c', s_362 c', m_41, show (40 : Int32) = nI 40 from rfl, nI_add, cl_nI (by omega), shareM_at T' ha (Or.inr rfl), nI_l (by omega)]
        exact ⟨rfl, by first | decide | exact vp_nI (j := 0) (by decide) (by decide) | exact vp_nI (j := 1) (by decide) (by decide), rfl, vp_nI (by omega) (by decide), word k _ h' (by omega) g E' (fun h2 g2 E2 => ih (k + 1) h2 (by omega) g2 E2)⟩
  exact eX10_deal (sX10_deal_0 (lp (bWc (bk 0) s) 0 h (by omega) (Cg.rfl' h) E))
variable {S : Ly}
def rmD (id j : Nat) : Prop := (369 ≤ id ∧ id ≤ 376) ∨ id = 362 ∨ (id = 347 ∧ (j = 35 ∨ j = 36 ∨ j = 39 ∨ j = 40 ∨ j = 41 ∨ j = 45))
theorem sp_round {Q : Int32 → Hp → Prop} (c : Lay L h) (T : lyM h S) (D : shareM h (bNk (S.1 0)) (bNk (S.1 1)) S.2.2.2 tm) (K0 : ¬ LSs S 0 0 < 1000000000 → ∀ h', Cg rmD h h' → shareM h' (bNk (S.1 0)) (bNk (S.1 1)) S.2.2.2 tm → Q 0 h') (K1 : LSs S 0 0 < 1000000000 → ∀ h', Cg rmD h h' → shareM h' (bNk (S.1 0)) (bNk (S.1 1)) (rnd S tm) tm → Q 1 h') : AC w mX10_round 0 0 (rI Q) [.ref 347] h := by
  have n0 := T.1.1.1.1
  have n1 := T.1.2.1.1
  have k0 := T.1.1.1.2.1
  have k1 := T.1.2.1.2.1
  have okA := T.1.1.1
  have ok := T.1.2.1
  have hJ := JN_le (S := S) n0 n1
  refine eX10_round (sX10_round_0 ⟨by rw [s_347 c], sp_best c T D (fun h1 g1 W1 => ⟨fun z => ?_, fun z => ?_⟩)⟩)
  · rw [b01_ne] at z
    have z := of_decide_eq_true z
    have g1' : Cg rmD h h1 := g1.mono (fun id j q => by unfold bsD at q; unfold rmD; omega)
    have D1 : shareM h1 (bNk (S.1 0)) (bNk (S.1 1)) S.2.2.2 tm := D.cg g1 (fun id j q => by unfold bsD at q; omega)
    have zA := (dlA_ok okA ok (JN S) (Nat.le_refl _)).2
    -- settling
    have fin : ∀ (d a : Nat) (h' : Hp), a + d = bNk (S.1 0) → Cg rmD h h' → dlM h' (bNk (S.1 0)) (dlA S (JN S)) → (∀ x, x < bNk (S.1 0) → hI h' 361 x = tm x) → (∀ x b, x < bNk (S.1 0) → (b < bNk (S.1 1) ∨ b = 40) → hI h' 362 (41 * x + b) = if x < a then rnd S tm x b else S.2.2.2 x b) → AW w mX10_round 0 0 (rI Q) 0 0 142 [some (.ref 347), some (.int (nI a)), none, none, none, none] [] h' := by
      intro d
      induction d with
      | zero =>
        intro a h' ha g E et e
        have c' : Lay L h' := g.lay c (fun id j q => by unfold rmD at q; omega)
        have T' : lyM h' S := T.cg g (fun id j q => by unfold rmD at q; omega)
        have e56 : hI h' 356 0 = nI (bNk (S.1 0)) := T'.1.1.2.2.2.1
        refine sX10_round_142 ?_
        rw [s_347 c', r_347_10 c', s_356 c', e0c, e56]
        refine ⟨rfl, by first | decide | exact vp_nI (j := 0) (by decide) (by decide) | exact vp_nI (j := 1) (by decide) (by decide), rfl, by first | decide | exact vp_nI (j := 0) (by decide) (by decide) | exact vp_nI (j := 1) (by decide) (by decide), fun _ => K1 z h' g ⟨rnd_ok okA ok D.1, fun x hx => ⟨et x hx, ?_, fun b hb => ?_⟩⟩, fun y => absurd ?_ y⟩
        · rw [e x 40 hx (Or.inr rfl), if_pos (by omega)]
        · rw [e x b hx (Or.inl hb), if_pos (by omega)]
        · rw [ti_le, nI_toInt (by omega), nI_toInt (by omega)]; omega
      | succ d ih =>
        intro a h' ha g E et e
        have c' : Lay L h' := g.lay c (fun id j q => by unfold rmD at q; omega)
        have T' : lyM h' S := T.cg g (fun id j q => by unfold rmD at q; omega)
        have e56 : hI h' 356 0 = nI (bNk (S.1 0)) := T'.1.1.2.2.2.1
        have hA := allN_lt okA ok a
        have tie : ∀ h2, Cg (fun id j => id = 362 ∧ 41 * a ≤ j ∧ j < 41 * a + 41) h' h2 → (tm a = -1 → ∀ b, (b < bNk (S.1 1) ∨ b = 40) → hI h2 362 (41 * a + b) = rnd S tm a b) → AC w mX10_tie 0 0 (rV fun h2 => AW w mX10_round 0 0 (rI Q) 0 0 142 [some (.ref 347), some (.int (nI (a + 1))), none, none, none, none] [] h2) [.ref 347, .int (nI a)] h2 := by
          intro h2 g2 e2
          have c2 : Lay L h2 := g2.lay c' (fun id j q => by omega)
          have t2 : hI h2 361 a = tm a := by rw [g2.i (by omega)]; exact et a (by omega)
          have same : ∀ h3, Cg (fun id j => id = 362 ∧ 41 * a ≤ j ∧ j < 41 * a + 41) h2 h3 → (∀ b, (b < bNk (S.1 1) ∨ b = 40) → hI h3 362 (41 * a + b) = rnd S tm a b) → AW w mX10_round 0 0 (rI Q) 0 0 142 [some (.ref 347), some (.int (nI (a + 1))), none, none, none, none] [] h3 := by
            intro h3 g3 e3
            have g23 := g2.trans g3
            refine ih (a + 1) h3 (by omega) (g.trans (g23.mono (fun id j q => by unfold rmD; omega))) (fun x b hx hb => by rw [g23.l (by omega)]; exact E x b hx hb) (fun x hx => by rw [g23.i (by omega)]; exact et x hx) (fun x b hx hb => ?_)
            by_cases y : x = a
            · subst y; rw [if_pos (by omega)]; exact e3 b hb
            · rw [g23.i (by omega), e x b hx hb]
              by_cases u : x < a
              · rw [if_pos u, if_pos (by omega)]
              · rw [if_neg u, if_neg (by omega)]
          rcases (D.1.2.2 a (by omega)).1 with q | ⟨b, hb, q⟩
          · refine eX10_tie (sX10_tie_0 (sX10_tie_2 ⟨fun y => absurd y (by decide), fun _ => ?_⟩))
            rw [s_347 c2, r_347_17 c2, s_361 c2, cl_nI (by omega), t2, q]
            exact ⟨rfl, by first | decide | exact vp_nI (j := 0) (by decide) (by decide) | exact vp_nI (j := 1) (by decide) (by decide), rfl, vp_nI (by omega) (by decide), fun _ => same h2 (Cg.rfl' h2) (e2 q), fun y => absurd (by decide) y⟩
          · refine eX10_tie (sX10_tie_0 (tieM_loop (b := b) c2 (by omega) (by omega) (by rw [t2]; exact q) (fun h3 g3 gl e3 o3 => ?_) 41 0 h2 (by omega) (Chg.rfl' h2) rfl (fun y hy => by omega) (fun x hx => rfl)))
            refine same h3 ⟨g3.1, g3.2.1, g3.2.2.1, fun id j hd => ?_⟩ (fun y hy => ?_)
            · by_cases i2 : id = 362
              · subst i2
                exact ⟨o3 j (by (try dsimp only at hd); omega), by rw [gl]⟩
              · exact g3.2.2.2 id i2 j
            · rw [e3 y (by omega)]
              exact rnd_t q (by omega) (by omega)
        have put : 0 < allN (dlA S (JN S)) (bNk (S.1 1)) a → ∀ (d2 k : Nat) (h2 : Hp), k + d2 = 41 → Cg (fun id j => id = 362 ∧ 41 * a ≤ j ∧ j < 41 * a + 41) h' h2 → (∀ b, b < k → hI h2 362 (41 * a + b) = nI (1048576 * dlA S (JN S) a b / allN (dlA S (JN S)) (bNk (S.1 1)) a)) → AW w mX10_round 0 0 (rI Q) 0 0 188 [some (.ref 347), some (.int (nI a)), some (.long (lN (allN (dlA S (JN S)) (bNk (S.1 1)) a))), none, some (.int (nI k)), none] [] h2 := by
          intro hp d2
          have v3 : ¬ lN (allN (dlA S (JN S)) (bNk (S.1 1)) a) = 0 := lN_ne0 (by omega) hp
          induction d2 with
          | zero =>
            intro k h2 hk g2 e2
            have hk : k = 41 := by omega
            subst hk
            have c2 : Lay L h2 := g2.lay c' (fun id j q => by omega)
            refine sX10_round_188 ⟨fun _ => ⟨by rw [s_347 c2], ?_⟩, fun y => absurd (by decide) y⟩
            rw [nI_1]
            refine tie h2 g2 (fun q b hb => ?_)
            rw [e2 b (by omega)]
            unfold rnd
            rw [if_pos q, if_pos hp]
          | succ d2 ih2 =>
            intro k h2 hk g2 e2
            have c2 : Lay L h2 := g2.lay c' (fun id j q => by omega)
            have dv : hL h2 376 (41 * a + k) = lN (dlA S (JN S) a k) := by rw [g2.l (by omega)]; exact E a k (by omega) (by omega)
            have bd := dlA_bd okA ok (Nat.le_refl (JN S)) a k
            have val : ((1048576 : Int64) * lN (dlA S (JN S) a k) / lN (allN (dlA S (JN S)) (bNk (S.1 1)) a)).toInt32 = nI (1048576 * dlA S (JN S) a k / allN (dlA S (JN S)) (bNk (S.1 1)) a) := by
              rw [show (1048576 : Int64) = lN 1048576 from rfl, lN_mul, lN_divB (by omega) hp (by omega), lN_i]
            refine sX10_round_188 ⟨fun y => ?_, fun _ => ⟨fun y => ?_, fun _ => ?_⟩⟩
            · rw [ti_lt, t_40, nI_toInt (by omega)] at y; omega
            · rw [lg_cmp_le] at y
              have := (lN_pos (show allN (dlA S (JN S)) (bNk (S.1 1)) a < 4611686018427387904 by omega)).mpr hp
              exact absurd this (lg_le_not_lt y)
            · rw [s_347 c2, r_347_18 c2, r_347_46 c2, s_376 c2, s_362 c2, m_41, nI_add, cl_nI (by omega), dv, val, nI_1]
              refine ⟨rfl, by first | decide | exact vp_nI (j := 0) (by decide) (by decide) | exact vp_nI (j := 1) (by decide) (by decide), by first | decide | exact vp_nI (j := 0) (by decide) (by decide) | exact vp_nI (j := 1) (by decide) (by decide), rfl, vp_nI (by omega) (by decide), v3, rfl, vp_nI (by omega) (by decide), fun h3 e3 => ?_⟩
              subst e3
              refine ih2 (k + 1) _ (by omega) (g2.sI (by omega)) (fun b hb => ?_)
              by_cases q : b = k
              · subst q; rw [hI_eq]
              · rw [hI_ne (Or.inr (by omega))]; exact e2 b (by omega)
        have add : ∀ (d2 k : Nat), k + d2 = 41 → AW w mX10_round 0 0 (rI Q) 0 0 157 [some (.ref 347), some (.int (nI a)), some (.long (lN (sm (dlA S (JN S) a) 0 k))), none, some (.int (nI k)), none] [] h' := by
          intro d2
          induction d2 with
          | zero =>
            intro k hk
            have hk : k = 41 := by omega
            subst hk
            rw [all41 zA k1 a]
            refine sX10_round_157 ⟨fun _ => ?_, fun y => absurd (by decide) y⟩
            by_cases hp : 0 < allN (dlA S (JN S)) (bNk (S.1 1)) a
            · exact put hp 41 0 h' (by omega) (Cg.rfl' h') (fun b hb => by omega)
            · refine sX10_round_188 ⟨fun y => absurd y (by decide), fun _ => ⟨fun _ => ⟨by rw [s_347 c'], ?_⟩, fun y => absurd ?_ y⟩⟩
              · rw [nI_1]
                refine tie h' (Cg.rfl' h') (fun q b hb => ?_)
                rw [e a b (by omega) hb, if_neg (by omega)]
                unfold rnd
                rw [if_pos q, if_neg hp]
              · rw [lg_cmp_le]
                have : allN (dlA S (JN S)) (bNk (S.1 1)) a = 0 := by omega
                rw [this]
                exact Int64.le_iff_toInt_le.mpr (by decide)
          | succ d2 ih2 =>
            intro k hk
            have nx := ih2 (k + 1) (by omega)
            have e1 : sm (dlA S (JN S) a) 0 (k + 1) = sm (dlA S (JN S) a) 0 k + dlA S (JN S) a k := by
              show sm _ 0 k + dlA S (JN S) a (0 + k) = _
              rw [Nat.zero_add]
            rw [e1] at nx
            refine sX10_round_157 ⟨fun y => ?_, fun _ => ?_⟩
            · rw [ti_lt, t_40, nI_toInt (by omega)] at y; omega
            · rw [s_347 c', r_347_46 c', s_376 c', m_41, nI_add, cl_nI (by omega), E a k (by omega) (by omega), lN_add, nI_1]
              exact ⟨rfl, by first | decide | exact vp_nI (j := 0) (by decide) (by decide) | exact vp_nI (j := 1) (by decide) (by decide), rfl, vp_nI (by omega) (by decide), nx⟩
        refine sX10_round_142 ?_
        rw [s_347 c', r_347_10 c', s_356 c', e0c, e56]
        refine ⟨rfl, by first | decide | exact vp_nI (j := 0) (by decide) (by decide) | exact vp_nI (j := 1) (by decide) (by decide), rfl, by first | decide | exact vp_nI (j := 0) (by decide) (by decide) | exact vp_nI (j := 1) (by decide) (by decide), fun y => ?_, fun _ => add 41 0 (by omega)⟩
        rw [ti_le, nI_toInt (by omega), nI_toInt (by omega)] at y; omega
    -- dealing
    have dj : ∀ (d m : Nat) (h' : Hp), m + d = JN S → Cg (fun id _ => id = 376) h1 h' → dlM h' (bNk (S.1 0)) (dlA S m) → AW w mX10_round 0 0 (rI Q) 0 0 33 [some (.ref 347), some (.int (nI m)), none, none, none, none] [] h' := by
      intro d
      induction d with
      | zero =>
        intro m h' hm g E
        have hm : m = JN S := by omega
        have gg : Cg rmD h h' := g1'.trans (g.mono (fun id j q => by unfold rmD; omega))
        have c' : Lay L h' := gg.lay c (fun id j q => by unfold rmD at q; omega)
        have W' : WM h' S := W1.cg g (fun id j q => by omega)
        have D' : shareM h' (bNk (S.1 0)) (bNk (S.1 1)) S.2.2.2 tm := D1.cg g (fun id j q => by omega)
        rw [hm] at E ⊢
        refine sX10_round_33 ?_
        rw [s_347 c', W'.2.2.1]
        refine ⟨rfl, fun _ => fin (bNk (S.1 0)) 0 h' (by omega) gg E (fun x hx => (D'.2 x hx).1) (fun x b hx hb => ?_), fun y => absurd ?_ y⟩
        · rw [if_neg (by omega)]
          rcases hb with q | q
          · exact (D'.2 x hx).2.2 b q
          · subst q; exact (D'.2 x hx).2.1
        · rw [ti_le]; omega
      | succ d ih =>
        intro m h' hm g E
        have gg : Cg rmD h h' := g1'.trans (g.mono (fun id j q => by unfold rmD; omega))
        have c' : Lay L h' := gg.lay c (fun id j q => by unfold rmD at q; omega)
        have W' : WM h' S := W1.cg g (fun id j q => by omega)
        have B' : booksM h' S.1 := T.1.cg gg (fun id j q => by unfold rmD at q; omega)
        have D' : shareM h' (bNk (S.1 0)) (bNk (S.1 1)) S.2.2.2 tm := D1.cg g (fun id j q => by omega)
        have hmJ : m < JN S := by omega
        obtain ⟨j1, j2, j3⟩ := W'.2.2.2 m hmJ
        obtain ⟨o1, o2, o3, o4⟩ := JN_ok (S := S) n0 n1 hmJ
        have l2 := lS_le (JK S m)
        have r2 := rS_le (JK S m)
        have v : vp_in (nI m) 40 := vp_nI (by omega) (by decide)
        have nx : ∀ h2, Cg (fun id _ => id = 376) h' h2 → dlM h2 (bNk (S.1 0)) (dlJ S (JK S m) (JL S m) (JR S m) (dlA S m)) → AW w mX10_round 0 0 (rI Q) 0 0 33 [some (.ref 347), some (.int (nI (m + 1))), none, none, none, none] [] h2 := fun h2 g2 E2 => ih (m + 1) h2 (by omega) (g.trans g2) E2
        have n12 : JK S m = 1 ∨ JK S m = 2 → AW w mX10_round 0 0 (rI Q) 0 0 33 [some (.ref 347), some (.int (nI (m + 1))), none, none, none, none] [] h' := fun q => nx h' (Cg.rfl' h') (by
          unfold dlJ
          rw [if_neg (by omega), if_pos q]; exact E)
        refine sX10_round_33 ?_
        rw [s_347 c', W'.2.2.1, r_347_42 c', s_373 c', r_347_43 c', s_374 c', r_347_44 c', s_375 c', cl_nI (by omega), j1, j2, j3, nI_1]
        refine ⟨rfl, fun y => ?_, fun _ => ⟨by first | decide | exact vp_nI (j := 0) (by decide) (by decide) | exact vp_nI (j := 1) (by decide) (by decide), rfl, v, by first | decide | exact vp_nI (j := 0) (by decide) (by decide) | exact vp_nI (j := 1) (by decide) (by decide), rfl, v, by first | decide | exact vp_nI (j := 0) (by decide) (by decide) | exact vp_nI (j := 1) (by decide) (by decide), rfl, v, fun z6 => ⟨fun z1 => n12 (Or.inl ?_), fun z1 => ⟨fun z2 => n12 (Or.inr ?_), fun z2 => ?_⟩⟩, fun z6 => ?_⟩⟩
        · rw [ti_le, nI_toInt (by omega), nI_toInt (by omega)] at y; omega
        · rw [show (1 : Int32) = nI 1 from rfl, nI_inj (by omega) (by omega)] at z1; exact z1
        · rw [show (2 : Int32) = nI 2 from rfl, nI_inj (by omega) (by omega)] at z2; exact z2
        · rw [show (1 : Int32) = nI 1 from rfl, nI_inj (by omega) (by omega)] at z1
          rw [show (2 : Int32) = nI 2 from rfl, nI_inj (by omega) (by omega)] at z2
          rw [show (6 : Int32) = nI 6 from rfl, nI_inj (by omega) (by omega)] at z6
          have e : dlJ S (JK S m) (JL S m) (JR S m) (dlA S m) = dlB S.2.2.2 (S.1 0) (S.1 1) (JL S m) (JR S m) (rS (JK S m)) (dlA S m) (lS (JK S m)) := by unfold dlJ; rw [if_neg z6, if_neg (by omega)]
          rw [e] at nx
          have ls : ∀ (d2 k : Nat) (h2 : Hp), k + d2 = lS (JK S m) → Cg (fun id _ => id = 376) h' h2 → dlM h2 (bNk (S.1 0)) (dlB S.2.2.2 (S.1 0) (S.1 1) (JL S m) (JR S m) (rS (JK S m)) (dlA S m) k) → AW w mX10_round 0 0 (rI Q) 0 0 105 [some (.ref 347), some (.int (nI m)), some (.int (nI (JK S m))), some (.int (nI (JL S m))), some (.int (nI (JR S m))), some (.int (nI (JL S m + k)))] [] h2 := by
            intro d2
            induction d2 with
            | zero =>
              intro k h2 hk g2 E2
              have hk : k = lS (JK S m) := by omega
              rw [hk] at E2 ⊢
              refine sX10_round_105 (sp_leftOf o1 ⟨fun _ => ?_, fun y => absurd ?_ y⟩)
              · rw [nI_1]; exact nx h2 g2 E2
              · rw [nI_add, ti_le]; omega
            | succ d2 ih2 =>
              intro k h2 hk g2 E2
              have c2 : Lay L h2 := g2.lay c' (fun id j q => by omega)
              have B2 : booksM h2 S.1 := B'.cg g2 (fun id j q => by omega)
              have D2 : shareM h2 (bNk (S.1 0)) (bNk (S.1 1)) S.2.2.2 tm := D'.cg g2 (fun id j q => by omega)
              refine sX10_round_105 (sp_leftOf o1 ⟨fun y => ?_, fun _ => sp_rightOf o1 ⟨by rw [s_347 c2], sp_dealM c2 B2 D2 E2 (by omega) o3 r2 (fun h3 g3 E3 => ?_)⟩⟩)
              · rw [nI_add, ti_le, nI_toInt (by omega), nI_toInt (by omega)] at y; omega
              · rw [nI_1]; exact ih2 (k + 1) h3 (by omega) (g2.trans g3) E3
          exact ls (lS (JK S m)) 0 h' (by omega) (Cg.rfl' h') E
        · rw [show (6 : Int32) = nI 6 from rfl, nI_inj (by omega) (by omega)] at z6
          rw [z6] at o2 o3
          have o2 : JL S m + 2 ≤ bNs (S.1 0) := o2
          have o3 : JR S m + 2 ≤ bNs (S.1 1) := o3
          have e : dlJ S (JK S m) (JL S m) (JR S m) (dlA S m) = dlB S.2.2.2 (S.1 0) (S.1 1) (JL S m + 1) (JR S m) 1 (dlB S.2.2.2 (S.1 0) (S.1 1) (JL S m) (JR S m + 1) 1 (dlA S m) 1) 1 := by unfold dlJ; rw [if_pos z6]
          rw [e] at nx
          rw [show (1 : Int32) = nI 1 from rfl, nI_add, nI_add]
          refine sp_dealM c' B' D' E (by omega) (by omega) (by decide) (fun h2 g2 E2 => ?_)
          have c2 : Lay L h2 := g2.lay c' (fun id j q => by omega)
          exact ⟨by rw [s_347 c2], sp_dealM c2 (B'.cg g2 (fun id j q => by omega)) (D'.cg g2 (fun id j q => by omega)) E2 (by omega) (by omega) (by decide) (fun h3 g3 E3 => nx h3 (g2.trans g3) E3)⟩
    -- zero
    have zr : ∀ (d k : Nat) (h' : Hp), k + d = 1640 → Cg (fun id _ => id = 376) h1 h' → (∀ x, x < k → hL h' 376 x = lN 0) → AW w mX10_round 0 0 (rI Q) 0 0 11 [some (.ref 347), some (.int (nI k)), none, none, none, none] [] h' := by
      intro d
      induction d with
      | zero =>
        intro k h' hk g e
        refine sX10_round_11 ⟨fun _ => dj (JN S) 0 h' (by omega) g (fun a b ha hb => e _ (by omega)), fun y => absurd ?_ y⟩
        rw [ti_le, show (1640 : Int32).toInt = 1640 by first | decide | exact vp_nI (j := 0) (by decide) (by decide) | exact vp_nI (j := 1) (by decide) (by decide), nI_toInt (by omega)]; omega
      | succ d ih =>
        intro k h' hk g e
        have c' : Lay L h' := (g1'.trans (g.mono (E := rmD) (fun id j q => by unfold rmD; omega))).lay c (fun id j q => by unfold rmD at q; omega)
        refine sX10_round_11 ⟨fun y => ?_, fun _ => ?_⟩
        · rw [ti_le, show (1640 : Int32).toInt = 1640 by first | decide | exact vp_nI (j := 0) (by decide) (by decide) | exact vp_nI (j := 1) (by decide) (by decide), nI_toInt (by omega)] at y; omega
        · rw [s_347 c', r_347_46 c', s_376 c', cl_nI (by omega), nI_1]
          refine ⟨rfl, by first | decide | exact vp_nI (j := 0) (by decide) (by decide) | exact vp_nI (j := 1) (by decide) (by decide), rfl, vp_nI (by omega) (by decide), fun h2 e2 => ?_⟩
          subst e2
          refine ih (k + 1) _ (by omega) (g.sL rfl) (fun x hx => ?_)
          by_cases q : x = k
          · subst q; rw [hL_eq]; rfl
          · rw [hL_ne (Or.inr q)]; exact e x (by omega)
    exact zr 1640 0 h1 (by omega) (Cg.rfl' h1) (fun x hx => by omega)
  · rw [b01_eq] at z
    exact K0 (of_decide_eq_false z) h1 (g1.mono (fun id j q => by unfold bsD at q; unfold rmD; omega)) (D.cg g1 (fun id j q => by unfold bsD at q; omega))
theorem sp_roundsM {Q : Int32 → Hp → Prop} {n : Int32} (c : Lay L h) (T : lyM h S) (D : shareM h (bNk (S.1 0)) (bNk (S.1 1)) S.2.2.2 tm) (K : ∀ h', Cg rmD h h' → shareM h' (bNk (S.1 0)) (bNk (S.1 1)) (fRounds S tm n).2 tm → Q (fRounds S tm n).1 h') : AC w mX10_rounds 0 0 (rI Q) [.ref 347, .int n] h := by
  have n0 := T.1.1.1.1
  have n1 := T.1.2.1.1
  refine eX10_rounds (sX10_rounds_0 (sp_in32 (n := 11) (by decide) (by decide) ⟨fun z => ?_, fun z => ?_⟩))
  · rw [b01_ne] at z
    have hin := z
    obtain ⟨x, hx, rfl⟩ := inR_nI z (by decide)
    by_cases y : LSs S 0 0 < 1000000000
    · have e : fRounds S tm (nI x) = (nI x, rnds S.1 S.2.1 S.2.2.1 tm S.2.2.2 x) := by rw [fRounds, if_pos hin, if_pos y, cl_nI (by omega)]
      rw [e] at K
      have lp : ∀ (d k : Nat) (h' : Hp), k + d = x → Cg rmD h h' → shareM h' (bNk (S.1 0)) (bNk (S.1 1)) (rnds S.1 S.2.1 S.2.2.1 tm S.2.2.2 k) tm → AW w mX10_rounds 0 0 (rI Q) 0 0 17 [some (.ref 347), some (.int (nI x)), some (.int (nI k))] [] h' := by
        intro d
        induction d with
        | zero =>
          intro k h' hk g2 D2
          have hk : k = x := by omega
          subst hk
          exact sX10_rounds_17 ⟨fun _ => K h' g2 D2, fun q => absurd (by rw [ti_le]; omega) q⟩
        | succ d ih =>
          intro k h' hk g2 D2
          have c2 : Lay L h' := g2.lay c (fun id j q => by unfold rmD at q; omega)
          have T2 : lyM h' (S.1, S.2.1, S.2.2.1, rnds S.1 S.2.1 S.2.2.1 tm S.2.2.2 k) := T.cg g2 (fun id j q => by unfold rmD at q; omega)
          have fk : LSs (S.1, S.2.1, S.2.2.1, rnds S.1 S.2.1 S.2.2.1 tm S.2.2.2 k) 0 0 < 1000000000 := found_sh _ n0 n1 y
          refine sX10_rounds_17 ⟨fun q => ?_, fun _ => ⟨by rw [s_347 c2], sp_round (S := (S.1, S.2.1, S.2.2.1, rnds S.1 S.2.1 S.2.2.1 tm S.2.2.2 k)) c2 T2 D2 (fun q => absurd fk q) (fun _ h3 g3 D3 => ⟨fun q => absurd q (by decide), fun _ => ?_⟩)⟩⟩
          · rw [ti_le, nI_toInt (by omega), nI_toInt (by omega)] at q; omega
          · rw [nI_1]
            exact ih (k + 1) h3 (by omega) (g2.trans g3) D3
      exact lp x 0 h (by omega) (Cg.rfl' h) D
    · have e : fRounds S tm (nI x) = (0, S.2.2.2) := by rw [fRounds, if_pos hin, if_neg y]
      rw [e] at K
      refine sX10_rounds_17 ⟨fun _ => K h (Cg.rfl' h) D, fun _ => ⟨by rw [s_347 c], sp_round c T D (fun _ h3 g3 D3 => ⟨fun _ => K h3 g3 D3, fun q => absurd rfl q⟩) (fun q => absurd q y)⟩⟩
  · rw [b01_eq] at z
    have e : fRounds S tm n = (-100002, S.2.2.2) := by rw [fRounds, z]; rfl
    rw [e] at K
    exact K h (Cg.rfl' h) D
end RM
