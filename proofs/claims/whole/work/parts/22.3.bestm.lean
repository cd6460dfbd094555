/-! ===== the best way, the reference ===== -/
def bsD (id j : Nat) : Prop := (369 ≤ id ∧ id ≤ 375) ∨ (id = 347 ∧ (j = 35 ∨ j = 36 ∨ j = 39 ∨ j = 40 ∨ j = 41 ∨ j = 45))
def jsM (h : Hp) (S : Ly) : Prop := ∀ m, m < JN S → hI h 373 m = nI (JK S m) ∧ hI h 374 m = nI (JL S m) ∧ hI h 375 m = nI (JR S m)
def WM (h : Hp) (S : Ly) : Prop := msM h S ∧ lsM h 371 (lst (cst S) (bNs (S.1 0)) (bNs (S.1 1))) (bNs (S.1 0)) (bNs (S.1 1)) ∧ hI h 347 45 = nI (JN S) ∧ jsM h S
theorem WM.cg {D : Nat → Nat → Prop} {h h' : Hp} {S : Ly} (T : WM h S) (g : Cg D h h') (hd : ∀ id j, D id j → ¬ (369 ≤ id ∧ id ≤ 375) ∧ ¬ (id = 347 ∧ (j = 35 ∨ j = 36 ∨ j = 45))) : WM h' S := by
  obtain ⟨a1, a2, a3, a4⟩ := T
  refine ⟨a1.cg g (fun id j q => by have := hd id j q; omega), a2.cg g (fun id j q => by have := hd id j q; omega), ?_, fun m hm => ?_⟩
  · rw [g.i (fun q => by have := hd _ _ q; omega)]; exact a3
  · rw [g.i (fun q => by have := hd _ _ q; omega), g.i (fun q => by have := hd _ _ q; omega), g.i (fun q => by have := hd _ _ q; omega)]; exact a4 m hm
section MD
variable {w : Wd} {L : Nat} {h : Hp} {S : Ly} {Q : Int32 → Hp → Prop} {tm : Nat → Int32}
theorem sp_best (c : Lay L h) (T : lyM h S) (D : shareM h (bNk (S.1 0)) (bNk (S.1 1)) S.2.2.2 tm) (K : ∀ h', Cg bsD h h' → WM h' S → Q (b01 (decide (LSs S 0 0 < 1000000000))) h') : AC w mX10_best 0 0 (rI Q) [.ref 347] h := by
  have oc := cst_ok S
  have h0 := T.1.1.1.1
  have h1 := T.1.2.1.1
  have b00 : LSs S 0 0 = 1000000000 ∨ (-3600 ≤ LSs S 0 0 ∧ LSs S 0 0 ≤ 52000) := lst_bd oc h0 h1 (Nat.zero_le (bNs (S.1 0))) (Nat.zero_le (bNs (S.1 1)))
  refine eX10_best (sX10_best_0 ⟨by rw [s_347 c], fun ha ea => ?_⟩)
  subst ea
  have ga : Cg bsD h (sI h 347 39 (-1)) := (Cg.rfl' h).sI (by unfold bsD; omega)
  have ca : Lay L (sI h 347 39 (-1)) := c.sI (by decide)
  refine sp_work ca (T.cg ga (fun id j q => by unfold bsD at q; omega)) (D.cg ga (fun id j q => by unfold bsD at q; omega)) oc (fun k i j hk hi hj => ⟨fun q => ?_, fun _ => rfl⟩) (fun hb gb Mb lb nb => ?_)
  · have := q.1
    rw [hI_eq] at this
    exact absurd this (nI_m1 (by omega))
  have gb' : Cg bsD h hb := ga.trans (gb.mono (fun id j q => by unfold wkD at q; unfold bsD; omega))
  have cb : Lay L hb := gb'.lay c (fun id j q => by unfold bsD at q; omega)
  rw [s_347 cb, r_347_37 cb, s_371 cb]
  refine ⟨rfl, fun hc ec => ?_⟩
  subst ec
  have gc : Cg bsD h (sI hb 347 45 0) := gb'.sI (by unfold bsD; omega)
  have g1c : Cg (fun id j => id = 347 ∧ j = 45) hb (sI hb 347 45 0) := (Cg.rfl' hb).sI (D := fun id j => id = 347 ∧ j = 45) ⟨rfl, rfl⟩
  have t00 : hI (sI hb 347 45 0) 371 (0 : Int32).toNatClampNeg = iI (LSs S 0 0) := by
    rw [hI_ne (Or.inl (by decide)), e0c]
    exact lb 0 0 (Nat.zero_le _) (Nat.zero_le _)
  rw [t00]
  have lp : LSs S 0 0 < 1000000000 → ∀ (d m : Nat) (h' : Hp), m + d = 40 → onW (cst S) (bNs (S.1 0)) (bNs (S.1 1)) m → jnF (cst S) (lst (cst S) (bNs (S.1 0)) (bNs (S.1 1))) (bNs (S.1 0)) (bNs (S.1 1)) d m = JN S → Cg bsD h h' → msM h' S → lsM h' 371 (lst (cst S) (bNs (S.1 0)) (bNs (S.1 1))) (bNs (S.1 0)) (bNs (S.1 1)) → hI h' 347 45 = nI m → (∀ x, x < m → hI h' 373 x = nI (JK S x) ∧ hI h' 374 x = nI (JL S x) ∧ hI h' 375 x = nI (JR S x)) →
      AW w mX10_best 0 0 (rI Q) 0 0 32 [some (.ref 347), some (.int (nI (psn (cst S) (lst (cst S) (bNs (S.1 0)) (bNs (S.1 1))) m).1)), some (.int (nI (psn (cst S) (lst (cst S) (bNs (S.1 0)) (bNs (S.1 1))) m).2)), none, none, none] [] h' := by
    intro hf d
    induction d with
    | zero =>
      intro m h' hm ow e g M' l' q45 dn
      have c' : Lay L h' := g.lay c (fun id j q => by unfold bsD at q; omega)
      have T' : lyM h' S := T.cg g (fun id j q => by unfold bsD at q; omega)
      have hm : m = 40 := by omega
      have e : m = JN S := e
      have p1 := ow.1
      have p2 := ow.2.1
      have p3 := ow.2.2.1
      have KK := K h' g ⟨M', l', by rw [q45, ← e], fun x hx => dn x (by rw [e]; exact hx)⟩
      rw [decide_eq_true hf] at KK
      have KK : Q 1 h' := KK
      have g0 : hI h' 351 0 = nI (bNs (S.1 0)) := T'.1.1.2.1
      have g1 : hI h' 351 1 = nI (bNs (S.1 1)) := T'.1.2.2.1
      refine sX10_best_32 ?_
      simp (disch := omega) only [s_347 c', r_347_5 c', s_351 c', e0c, e1c, g0, g1, ti_lt, ti_le, nI_toInt]
      repeat' (first | exact trivial | (with_reducible refine And.intro ?_ ?_) | exact vp_nI (by omega) (by omega) | exact vp_nI (j := 0) (by decide) (by decide) | exact vp_nI (j := 1) (by decide) (by decide) | decide | (exact KK) | (with_reducible intro z1; first | exact absurd trivial z1 | exact z1.elim) | (with_reducible intro z1) | omega)
    | succ d ih =>
      intro m h' hm ow e g M' l' q45 dn
      have c' : Lay L h' := g.lay c (fun id j q => by unfold bsD at q; omega)
      have T' : lyM h' S := T.cg g (fun id j q => by unfold bsD at q; omega)
      have e : (if (psn (cst S) (lst (cst S) (bNs (S.1 0)) (bNs (S.1 1))) m).1 < bNs (S.1 0) ∨ (psn (cst S) (lst (cst S) (bNs (S.1 0)) (bNs (S.1 1))) m).2 < bNs (S.1 1) then jnF (cst S) (lst (cst S) (bNs (S.1 0)) (bNs (S.1 1))) (bNs (S.1 0)) (bNs (S.1 1)) d (m + 1) else m) = JN S := e
      have p1 := ow.1
      have p2 := ow.2.1
      have p4 := ow.2.2.2
      have stop : ¬ ((psn (cst S) (lst (cst S) (bNs (S.1 0)) (bNs (S.1 1))) m).1 < bNs (S.1 0) ∨ (psn (cst S) (lst (cst S) (bNs (S.1 0)) (bNs (S.1 1))) m).2 < bNs (S.1 1)) → Q 1 h' := fun z => by
        rw [if_neg z] at e
        have KK := K h' g ⟨M', l', by rw [q45, e], fun x hx => dn x (by rw [e]; exact hx)⟩
        rw [decide_eq_true hf] at KK
        exact KK
      have goon : ((psn (cst S) (lst (cst S) (bNs (S.1 0)) (bNs (S.1 1))) m).1 < bNs (S.1 0) ∨ (psn (cst S) (lst (cst S) (bNs (S.1 0)) (bNs (S.1 1))) m).2 < bNs (S.1 1)) → AW w mX10_best 0 0 (rI Q) 0 0 58 [some (.ref 347), some (.int (nI (psn (cst S) (lst (cst S) (bNs (S.1 0)) (bNs (S.1 1))) m).1)), some (.int (nI (psn (cst S) (lst (cst S) (bNs (S.1 0)) (bNs (S.1 1))) m).2)), some (.int (-1)), some (.int 6), none] [] h' := fun z => by
        rw [if_pos z] at e
        have nx := fun h2 g2 M2 l2 q2 d2 => ih (m + 1) h2 (by omega) (onW_s oc h0 h1 ow z) e g2 M2 l2 q2 d2
        have ok := bK_ok oc h0 h1 p1 p2 p4 z
        have hk := bK_lt (c := cst S) (lst (cst S) (bNs (S.1 0)) (bNs (S.1 1))) (psn (cst S) (lst (cst S) (bNs (S.1 0)) (bNs (S.1 1))) m).1 (psn (cst S) (lst (cst S) (bNs (S.1 0)) (bNs (S.1 1))) m).2
        have hsp := fK_spec (f := fun k => sB (cst S) (lst (cst S) (bNs (S.1 0)) (bNs (S.1 1))) k (psn (cst S) (lst (cst S) (bNs (S.1 0)) (bNs (S.1 1))) m).1 (psn (cst S) (lst (cst S) (bNs (S.1 0)) (bNs (S.1 1))) m).2) (v := lst (cst S) (bNs (S.1 0)) (bNs (S.1 1)) (psn (cst S) (lst (cst S) (bNs (S.1 0)) (bNs (S.1 1))) m).1 (psn (cst S) (lst (cst S) (bNs (S.1 0)) (bNs (S.1 1))) m).2) 6 0
        have hmin : ∀ x, x < bK (cst S) (lst (cst S) (bNs (S.1 0)) (bNs (S.1 1))) (psn (cst S) (lst (cst S) (bNs (S.1 0)) (bNs (S.1 1))) m).1 (psn (cst S) (lst (cst S) (bNs (S.1 0)) (bNs (S.1 1))) m).2 → sB (cst S) (lst (cst S) (bNs (S.1 0)) (bNs (S.1 1))) x (psn (cst S) (lst (cst S) (bNs (S.1 0)) (bNs (S.1 1))) m).1 (psn (cst S) (lst (cst S) (bNs (S.1 0)) (bNs (S.1 1))) m).2 ≠ lst (cst S) (bNs (S.1 0)) (bNs (S.1 1)) (psn (cst S) (lst (cst S) (bNs (S.1 0)) (bNs (S.1 1))) m).1 (psn (cst S) (lst (cst S) (bNs (S.1 0)) (bNs (S.1 1))) m).2 := fun x hx => hsp.2.2.1 x (Nat.zero_le x) hx
        have edK : JK S m = bK (cst S) (lst (cst S) (bNs (S.1 0)) (bNs (S.1 1))) (psn (cst S) (lst (cst S) (bNs (S.1 0)) (bNs (S.1 1))) m).1 (psn (cst S) (lst (cst S) (bNs (S.1 0)) (bNs (S.1 1))) m).2 := rfl
        have edL : JL S m = (psn (cst S) (lst (cst S) (bNs (S.1 0)) (bNs (S.1 1))) m).1 := rfl
        have edR : JR S m = (psn (cst S) (lst (cst S) (bNs (S.1 0)) (bNs (S.1 1))) m).2 := rfl
        have ep : psn (cst S) (lst (cst S) (bNs (S.1 0)) (bNs (S.1 1))) (m + 1) = ((psn (cst S) (lst (cst S) (bNs (S.1 0)) (bNs (S.1 1))) m).1 + lS (bK (cst S) (lst (cst S) (bNs (S.1 0)) (bNs (S.1 1))) (psn (cst S) (lst (cst S) (bNs (S.1 0)) (bNs (S.1 1))) m).1 (psn (cst S) (lst (cst S) (bNs (S.1 0)) (bNs (S.1 1))) m).2), (psn (cst S) (lst (cst S) (bNs (S.1 0)) (bNs (S.1 1))) m).2 + rS (bK (cst S) (lst (cst S) (bNs (S.1 0)) (bNs (S.1 1))) (psn (cst S) (lst (cst S) (bNs (S.1 0)) (bNs (S.1 1))) m).1 (psn (cst S) (lst (cst S) (bNs (S.1 0)) (bNs (S.1 1))) m).2)) := rfl
        rw [ep, ← edK] at nx
        rw [← edK] at ok hk hmin
        generalize hkk : JK S m = kk at *
        generalize (psn (cst S) (lst (cst S) (bNs (S.1 0)) (bNs (S.1 1))) m).1 = ii at *
        generalize (psn (cst S) (lst (cst S) (bNs (S.1 0)) (bNs (S.1 1))) m).2 = jj at *
        have lk : ∀ (r : Nat) (y : Int32), r ≤ 7 → ((y = -1 ∧ ∀ k, r ≤ k → k < 7 → sB (cst S) (lst (cst S) (bNs (S.1 0)) (bNs (S.1 1))) k ii jj ≠ lst (cst S) (bNs (S.1 0)) (bNs (S.1 1)) ii jj) ∨ ∃ k, r ≤ k ∧ k < 7 ∧ y = nI k ∧ sB (cst S) (lst (cst S) (bNs (S.1 0)) (bNs (S.1 1))) k ii jj = lst (cst S) (bNs (S.1 0)) (bNs (S.1 1)) ii jj ∧ ∀ k', r ≤ k' → k' < k → sB (cst S) (lst (cst S) (bNs (S.1 0)) (bNs (S.1 1))) k' ii jj ≠ lst (cst S) (bNs (S.1 0)) (bNs (S.1 1)) ii jj) → AW w mX10_best 0 0 (rI Q) 0 0 58 [some (.ref 347), some (.int (nI ii)), some (.int (nI jj)), some (.int y), some (.int (iI ((r : Int) - 1))), none] [] h' := by
          intro r
          induction r with
          | zero =>
            intro y _ hy
            have ey : y = nI kk := by
              rcases hy with ⟨_, hy⟩ | ⟨k, _, hk7, e1, e2, e3⟩
              · exact absurd ok (hy kk (Nat.zero_le _) hk)
              · rcases Nat.lt_trichotomy k kk with t | t | t
                · exact absurd e2 (hmin k t)
                · rw [e1, t]
                · exact absurd ok (e3 kk (Nat.zero_le _) t)
            subst ey
            refine sX10_best_58 ⟨fun _ => ?_, fun t => absurd (by decide) t⟩
            have N := nx (sI (sI (sI (sI h' 373 m (nI kk)) 374 m (nI ii)) 375 m (nI jj)) 347 45 (nI (m + 1))) ((((g.sI (by unfold bsD; omega)).sI (by unfold bsD; omega)).sI (by unfold bsD; omega)).sI (by unfold bsD; omega)) (M'.cg (((((Cg.rfl' h').sI (D := fun id j => (373 ≤ id ∧ id ≤ 375) ∨ (id = 347 ∧ j = 45)) (by omega)).sI (by omega)).sI (by omega)).sI (by omega)) (fun id j q => by omega)) (l'.cg (((((Cg.rfl' h').sI (D := fun id j => (373 ≤ id ∧ id ≤ 375) ∨ (id = 347 ∧ j = 45)) (by omega)).sI (by omega)).sI (by omega)).sI (by omega)) (fun id j q => by omega)) hI_eq (fun x hx => by
              by_cases q : x = m
              · subst q
                rw [hkk, edL, edR]
                refine ⟨?_, ?_, ?_⟩ <;> simp (disch := omega) only [hI_ne, hI_eq]
              · refine ⟨?_, ?_, ?_⟩ <;> simp (disch := omega) only [hI_ne]
                · exact (dn x (by omega)).1
                · exact (dn x (by omega)).2.1
                · exact (dn x (by omega)).2.2)
            simp (disch := omega) only [s_347 c', r_347_42 c', s_373 c', r_347_43 c', s_374 c', r_347_44 c', s_375 c', q45, cl_nI, forall_eq, hI_ne, nI_1]
            have v : vp_in (nI m) 40 := vp_nI (by omega) (by decide)
            have go : AC w mX10_leftOf 0 0 (rI fun r1 h5 => AC w mX10_rightOf 0 0 (rI fun r2 h6 => AW w mX10_best 0 0 (rI Q) 0 0 32 [some (.ref 347), some (.int (nI ii + r1)), some (.int (nI jj + r2)), none, none, none] [] h6) [.int (nI kk)] h5) [.int (nI kk)] (sI (sI (sI (sI h' 373 m (nI kk)) 374 m (nI ii)) 375 m (nI jj)) 347 45 (nI (m + 1))) := sp_leftOf hk (sp_rightOf hk (by rw [nI_add, nI_add]; exact N))
            repeat' (first | exact trivial | (with_reducible refine And.intro ?_ ?_) | exact vp_nI (by omega) (by omega) | exact vp_nI (j := 0) (by decide) (by decide) | exact vp_nI (j := 1) (by decide) (by decide) | decide | (exact v) | (exact go) | (with_reducible intro z1; first | exact absurd trivial z1 | exact z1.elim) | (with_reducible intro z1) | omega)
          | succ r ihr =>
            intro y hr7 hy
            have keep : sB (cst S) (lst (cst S) (bNs (S.1 0)) (bNs (S.1 1))) r ii jj ≠ lst (cst S) (bNs (S.1 0)) (bNs (S.1 1)) ii jj → AW w mX10_best 0 0 (rI Q) 0 0 58 [some (.ref 347), some (.int (nI ii)), some (.int (nI jj)), some (.int y), some (.int (iI ((r : Int) - 1))), none] [] h' := fun ne => ihr y (by omega) (by
              rcases hy with ⟨hy, hy2⟩ | ⟨k, a1, a2, a3, a4, a5⟩
              · refine Or.inl ⟨hy, fun k b1 b2 => ?_⟩
                by_cases t : k = r
                · rw [t]; exact ne
                · exact hy2 k (by omega) b2
              · refine Or.inr ⟨k, by omega, a2, a3, a4, fun k' b1 b2 => ?_⟩
                by_cases t : k' = r
                · rw [t]; exact ne
                · exact a5 k' (by omega) b2)
            have take : sB (cst S) (lst (cst S) (bNs (S.1 0)) (bNs (S.1 1))) r ii jj = lst (cst S) (bNs (S.1 0)) (bNs (S.1 1)) ii jj → AW w mX10_best 0 0 (rI Q) 0 0 58 [some (.ref 347), some (.int (nI ii)), some (.int (nI jj)), some (.int (nI r)), some (.int (iI ((r : Int) - 1))), none] [] h' := fun eq => ihr (nI r) (by omega) (Or.inr ⟨r, Nat.le_refl r, by omega, rfl, eq, fun k' b1 b2 => by omega⟩)
            refine sX10_best_58 ?_
            rw [iI_p1, iI_m1]
            refine ⟨fun t => ?_, fun _ => ⟨by rw [s_347 c'], sp_may c' T' (by omega) p1 p2 (fun my => ⟨fun t => absurd t (by decide), fun _ => sp_leftOf (by omega) (sp_rightOf (by omega) ?_)⟩) (fun my => ⟨fun _ => keep ?_, fun t => absurd rfl t⟩)⟩⟩
            · rw [ti_lt, t_0, nI_toInt (by omega)] at t; omega
            · have pb := prcN_bd S r ii jj
              have l2 := lS_le r
              have r2 := rS_le r
              have m1 := my.1
              have m2 := my.2.1
              have ec := cst_y (show r < 7 by omega) my
              have t1 := l' (ii + lS r) (jj + rS r) m1 m2
              have t2 := l' ii jj p1 p2
              have lb1 := lst_bd oc h0 h1 m1 m2
              have lb2 := lst_bd oc h0 h1 p1 p2
              rw [s_347 c', r_347_37 c', s_371 c', nI_add, m_21, m_21, nI_add, nI_add, nI_add, show 21 * (ii + lS r) + jj + rS r = 21 * (ii + lS r) + (jj + rS r) by omega, cl_nI (by omega), cl_nI (by omega), t1]
              refine ⟨rfl, by first | decide | exact vp_nI (j := 0) (by decide) (by decide) | exact vp_nI (j := 1) (by decide) (by decide), rfl, vp_nI (by omega) (by decide), fun t => keep ?_, fun t => sp_priceOf c' T'.1 M' (by omega) m1 m2 ?_⟩
              · rw [iI_leF (by omega) (by omega)] at t
                have : sB (cst S) (lst (cst S) (bNs (S.1 0)) (bNs (S.1 1))) r ii jj = 1000000000 := by unfold sB; rw [if_pos (by omega), if_neg (by omega)]
                omega
              · rw [iI_leF (by omega) (by omega)] at t
                have es : sB (cst S) (lst (cst S) (bNs (S.1 0)) (bNs (S.1 1))) r ii jj = prcN S r ii jj + lst (cst S) (bNs (S.1 0)) (bNs (S.1 1)) (ii + lS r) (jj + rS r) := by unfold sB; rw [if_pos (by omega), if_pos (by omega), ec]
                rw [s_347 c', r_347_37 c', s_371 c', t1, t2, iI_add, ← es]
                refine ⟨rfl, by first | decide | exact vp_nI (j := 0) (by decide) (by decide) | exact vp_nI (j := 1) (by decide) (by decide), rfl, vp_nI (by omega) (by decide), vp_nI (by omega) (by decide), fun u => keep ?_, fun u => take ?_⟩
                · rw [iI_eq (by omega) (by omega) (by omega) (by omega)] at u; exact u
                · rw [iI_eq (by omega) (by omega) (by omega) (by omega)] at u; exact u
            · rw [sB_far (cst_n my)]; omega
        have := lk 7 (-1) (Nat.le_refl 7) (Or.inl ⟨rfl, fun k a1 a2 => by omega⟩)
        exact this
      have g0 : hI h' 351 0 = nI (bNs (S.1 0)) := T'.1.1.2.1
      have g1 : hI h' 351 1 = nI (bNs (S.1 1)) := T'.1.2.2.1
      refine sX10_best_32 ?_
      simp (disch := omega) only [s_347 c', r_347_5 c', s_351 c', e0c, e1c, g0, g1, ti_lt, ti_le, nI_toInt]
      repeat' (first | exact trivial | (with_reducible refine And.intro ?_ ?_) | exact vp_nI (by omega) (by omega) | exact vp_nI (j := 0) (by decide) (by decide) | exact vp_nI (j := 1) (by decide) (by decide) | decide | (exact goon (Or.inl (by omega))) | (exact goon (Or.inr (by omega))) | (exact stop (by omega)) | (with_reducible intro z1; first | exact absurd trivial z1 | exact z1.elim) | (with_reducible intro z1) | omega)
  have l1c := lb.cg g1c (fun id j q => by omega)
  have M1c := Mb.cg g1c (fun id j q => by omega)
  refine ⟨by first | decide | exact vp_nI (j := 0) (by decide) (by decide) | exact vp_nI (j := 1) (by decide) (by decide), rfl, vp_nI (j := 0) (by decide) (by decide), fun z => ?_, fun z => ?_⟩
  · rw [iI_ltF (by omega) (by omega)] at z
    have ej : JN S = jnF (cst S) (lst (cst S) (bNs (S.1 0)) (bNs (S.1 1))) (bNs (S.1 0)) (bNs (S.1 1)) 40 0 := if_pos z
    exact lp z 40 0 _ (by omega) (onW_0 z) ej.symm gc M1c l1c hI_eq (fun x hx => by omega)
  · rw [iI_ltF (by omega) (by omega)] at z
    have ej : JN S = 0 := if_neg z
    have KK := K _ gc ⟨M1c, l1c, by rw [hI_eq, ej]; rfl, fun x hx => by omega⟩
    rw [decide_eq_false z] at KK
    exact KK
theorem sp_layM (c : Lay L h) (T : lyM h S) (D : shareM h (bNk (S.1 0)) (bNk (S.1 1)) S.2.2.2 tm) (K : ∀ h', Cg bsD h h' → Q (fLay S) h') : AC w mX10_lay 0 0 (rI Q) [.ref 347] h := by
  refine eX10_lay (sX10_lay_0 ⟨by rw [s_347 c], sp_best c T D (fun h1 g W1 => ⟨fun z => ?_, fun z => ?_⟩)⟩)
  · rw [b01_eq] at z
    exact Qto (K h1 g) (if_neg (of_decide_eq_false z))
  · rw [b01_ne] at z
    have c1 : Lay L h1 := g.lay c (fun id j q => by unfold bsD at q; omega)
    rw [s_347 c1, W1.2.2.1]
    exact ⟨rfl, Qto (K h1 g) (if_pos (of_decide_eq_true z))⟩
theorem sp_isJointM {k : Int32} (c : Lay L h) (T : lyM h S) (D : shareM h (bNk (S.1 0)) (bNk (S.1 1)) S.2.2.2 tm) (K : ∀ h', Cg bsD h h' → WM h' S → Q (b01 (inR k (JN S))) h') : AC w mX10_isJoint 0 0 (rI Q) [.ref 347, .int k] h := by
  have hJ := JN_le (S := S) T.1.1.1.1 T.1.2.1.1
  refine eX10_isJoint (sX10_isJoint_0 ⟨by rw [s_347 c], sp_best c T D (fun h1 g W1 => ⟨fun z => ?_, fun z => ?_⟩)⟩)
  · rw [b01_eq] at z
    have ej : JN S = 0 := if_neg (of_decide_eq_false z)
    refine Qto (K h1 g W1) ?_
    rw [ej, inR_f (by omega)]; rfl
  · have c1 : Lay L h1 := g.lay c (fun id j q => by unfold bsD at q; omega)
    rw [s_347 c1, W1.2.2.1]
    have e1 : (nI (JN S) - 1).toInt64.toInt = (JN S : Int) - 1 := by
      rw [Jvm.Kit.i64_of_i32, show (1 : Int32) = nI 1 from rfl, ti_subN (by omega) (by omega)]; rfl
    refine ⟨rfl, sp_in32 (n := JN S) (by decide) e1 (b01_id (K h1 g W1))⟩
theorem sp_jointM {k x : Int32} (c : Lay L h) (T : lyM h S) (D : shareM h (bNk (S.1 0)) (bNk (S.1 1)) S.2.2.2 tm) (K : ∀ h', Cg bsD h h' → Q (fJoint S k x) h') : AC w mX10_joint 0 0 (rI Q) [.ref 347, .int k, .int x] h := by
  have hJ := JN_le (S := S) T.1.1.1.1 T.1.2.1.1
  have n0 := T.1.1.1.1
  have n1 := T.1.2.1.1
  refine eX10_joint (sX10_joint_0 ⟨by rw [s_347 c], sp_isJointM c T D (fun h1 g W1 => ⟨fun z => ?_, fun z => ?_⟩)⟩)
  · rw [b01_ne] at z
    have z' := z
    have c1 : Lay L h1 := g.lay c (fun id j q => by unfold bsD at q; omega)
    have T1 : lyM h1 S := T.cg g (fun id j q => by unfold bsD at q; omega)
    obtain ⟨m, hm, rfl⟩ := inR_nI z (by omega)
    obtain ⟨j1, j2, j3⟩ := W1.2.2.2 m hm
    obtain ⟨o1, o2, o3, o4⟩ := JN_ok (S := S) n0 n1 hm
    have KK := K h1 g
    have e : fJoint S (nI m) x = (if x.toInt = 0 then nI (JK S m) else if x.toInt = 1 then nI (JL S m) else if x.toInt = 2 then nI (JR S m) else if x.toInt = 3 then iI (cst S (JK S m) (JL S m) (JR S m)) else -100002) := by rw [fJoint, if_pos z', cl_nI (by omega)]
    rw [e] at KK
    have v : vp_in (nI m) 40 := vp_nI (by omega) (by decide)
    rw [s_347 c1, r_347_42 c1, s_373 c1, r_347_43 c1, s_374 c1, r_347_44 c1, s_375 c1, cl_nI (by omega), j1, j2, j3]
    have t0 : x = 0 ↔ x.toInt = 0 := by rw [ti_eq, t_0]
    have t1 : x = 1 ↔ x.toInt = 1 := by rw [ti_eq, t_1]
    have t2 : x = 2 ↔ x.toInt = 2 := by rw [ti_eq, t_2]
    have t3 : x = 3 ↔ x.toInt = 3 := by rw [ti_eq, t_3]
    refine ⟨fun q0 => ⟨fun q1 => ⟨fun q2 => ⟨fun q3 => ?_, fun q3 => ?_⟩, fun q2 => ?_⟩, fun q1 => ?_⟩, fun q0 => ?_⟩
    · rw [t0] at q0; rw [t1] at q1; rw [t2] at q2; rw [t3] at q3
      rw [if_neg q0, if_neg q1, if_neg q2, if_neg q3] at KK; exact KK
    · rw [t0] at q0; rw [t1] at q1; rw [t2] at q2; rw [t3] at q3
      rw [if_neg q0, if_neg q1, if_neg q2, if_pos q3, (cst_lt o4).2] at KK
      exact ⟨rfl, by first | decide | exact vp_nI (j := 0) (by decide) (by decide) | exact vp_nI (j := 1) (by decide) (by decide), rfl, v, by first | decide | exact vp_nI (j := 0) (by decide) (by decide) | exact vp_nI (j := 1) (by decide) (by decide), rfl, v, by first | decide | exact vp_nI (j := 0) (by decide) (by decide) | exact vp_nI (j := 1) (by decide) (by decide), rfl, v, sp_priceOf c1 T1.1 W1.1 o1 o2 o3 KK⟩
    · rw [t0] at q0; rw [t1] at q1; rw [t2] at q2
      rw [if_neg q0, if_neg q1, if_pos q2] at KK; exact ⟨rfl, by first | decide | exact vp_nI (j := 0) (by decide) (by decide) | exact vp_nI (j := 1) (by decide) (by decide), rfl, v, KK⟩
    · rw [t0] at q0; rw [t1] at q1
      rw [if_neg q0, if_pos q1] at KK; exact ⟨rfl, by first | decide | exact vp_nI (j := 0) (by decide) (by decide) | exact vp_nI (j := 1) (by decide) (by decide), rfl, v, KK⟩
    · rw [t0] at q0
      rw [if_pos q0] at KK; exact ⟨rfl, by first | decide | exact vp_nI (j := 0) (by decide) (by decide) | exact vp_nI (j := 1) (by decide) (by decide), rfl, v, KK⟩
  · rw [b01_eq] at z
    exact Qto (K h1 g) (by rw [fJoint, z]; rfl)
theorem sp_priceM {k i j : Int32} (c : Lay L h) (T : lyM h S) (D : shareM h (bNk (S.1 0)) (bNk (S.1 1)) S.2.2.2 tm) (K : ∀ h', Cg bsD h h' → Q (fPrice S k i j) h') : AC w mX10_price 0 0 (rI Q) [.ref 347, .int k, .int i, .int j] h := by
  have n0 := T.1.1.1.1
  have n1 := T.1.2.1.1
  have K0 := K h (Cg.rfl' h)
  refine eX10_price (sX10_price_0 (sp_in32 (n := 7) (by decide) (by decide) ⟨fun z => ?_, fun z => ?_⟩))
  · rw [b01_ne] at z
    have hin := z
    obtain ⟨q, hq, rfl⟩ := inR_nI z (by decide)
    have l2 := lS_le q
    have r2 := rS_le q
    have e : fPrice S (nI q) i j = (if (hasRn (S.1 0) i (nI (lS q)) && hasRn (S.1 1) j (nI (rS q))) = true then iI (prcN S q i.toNatClampNeg j.toNatClampNeg) else -100001) := by rw [fPrice, if_pos hin, cl_nI (by omega)]
    have rn : ∀ (B : Bk) (x : Int32) (n : Nat), n ≤ 2 → (hasRn B x (nI n) = true ↔ ((n : Int) = 0 ∨ (0 ≤ x.toInt ∧ x.toInt + n ≤ bNs B))) := fun B x n hn => by
      unfold hasRn
      rw [nI_toInt (by omega), decide_eq_true_iff]
    have g0 : hI h 351 0 = nI (bNs (S.1 0)) := T.1.1.2.1
    have g1 : hI h 351 1 = nI (bNs (S.1 1)) := T.1.2.2.1
    have k80 : ∀ y : Int32, (y = 0 ∧ (hasRn (S.1 0) i (nI (lS q)) && hasRn (S.1 1) j (nI (rS q))) = false) ∨ (y = 1 ∧ (hasRn (S.1 0) i (nI (lS q)) && hasRn (S.1 1) j (nI (rS q))) = true) → AW w mX10_price 0 0 (rI Q) 0 0 80 [some (.ref 347), some (.int (nI q)), some (.int i), some (.int j), none] [.int y] h := by
      intro y hy
      refine sX10_price_80 ⟨by rw [s_347 c], sp_prepare c T.1 D (fun h1 g M1 => ?_)⟩
      have c1 : Lay L h1 := g.lay c (fun id j q => by unfold prD at q; omega)
      have g' : Cg bsD h h1 := g.mono (fun id j q => by unfold prD at q; unfold bsD; omega)
      have T1 : lyM h1 S := T.cg g' (fun id j q => by unfold bsD at q; omega)
      have KK := K h1 g'
      rw [e] at KK
      rcases hy with ⟨rfl, hy⟩ | ⟨rfl, hy⟩
      · rw [hy] at KK
        exact ⟨fun _ => KK, fun x => absurd rfl x⟩
      · refine ⟨fun x => absurd x (by decide), fun _ => ⟨by rw [s_347 c1], ?_⟩⟩
        rw [hy, if_pos rfl] at KK
        rw [Bool.and_eq_true] at hy
        by_cases q12 : q = 1 ∨ q = 2
        · have : prcN S q i.toNatClampNeg j.toNatClampNeg = 450 := by unfold prcN; rw [if_pos q12]
          rw [this] at KK
          exact sp_priceOf12 q12 KK
        · have hl : 0 < lS q := k7 (P := fun k => ¬ (k = 1 ∨ k = 2) → 0 < lS k) (by decide) (by decide) (by decide) (by decide) (by decide) (by decide) (by decide) hq q12
          have hr : 0 < rS q := k7 (P := fun k => ¬ (k = 1 ∨ k = 2) → 0 < rS k) (by decide) (by decide) (by decide) (by decide) (by decide) (by decide) (by decide) hq q12
          obtain ⟨i', rfl, hi'⟩ := hasRn_nI n0 hl l2 hy.1
          obtain ⟨j', rfl, hj'⟩ := hasRn_nI n1 hr r2 hy.2
          rw [cl_nI (by omega), cl_nI (by omega)] at KK
          exact sp_priceOf c1 T1.1 M1 hq hi' hj' KK
    have k45 : hasRn (S.1 0) i (nI (lS q)) = true → AW w mX10_price 0 0 (rI Q) 0 0 45 [some (.ref 347), some (.int (nI q)), some (.int i), some (.int j), none] [] h := fun y0 => by
      have t80 : hasRn (S.1 1) j (nI (rS q)) = true → AW w mX10_price 0 0 (rI Q) 0 0 80 [some (.ref 347), some (.int (nI q)), some (.int i), some (.int j), none] [.int 1] h := fun x => k80 1 (Or.inr ⟨rfl, by rw [y0, x]; rfl⟩)
      have f80 : ¬ hasRn (S.1 1) j (nI (rS q)) = true → AW w mX10_price 0 0 (rI Q) 0 0 80 [some (.ref 347), some (.int (nI q)), some (.int i), some (.int j), none] [.int 0] h := fun x => k80 0 (Or.inl ⟨rfl, by rw [Bool.eq_false_iff.mpr x, Bool.and_false]⟩)
      rw [rn _ _ _ r2] at t80 f80
      refine sX10_price_45 (sp_rightOf hq ⟨fun x => t80 ?_, fun x => ⟨fun x2 => f80 ?_, fun x2 => sp_rightOf hq ?_⟩⟩)
      · rw [nI_0' (by omega)] at x; omega
      · rw [nI_0' (by omega)] at x; rw [ti_lt, t_0] at x2; omega
      · rw [nI_0' (by omega)] at x; rw [ti_lt, t_0] at x2
        rw [s_347 c, r_347_5 c, s_351 c, e1c, g1, lg_cmp_gt, Int64.lt_iff_toInt_lt, lg_i2l_add, Jvm.Kit.i64_of_i32, nI_toInt (by omega), nI_toInt (by omega)]
        exact ⟨rfl, by first | decide | exact vp_nI (j := 0) (by decide) (by decide) | exact vp_nI (j := 1) (by decide) (by decide), rfl, by first | decide | exact vp_nI (j := 0) (by decide) (by decide) | exact vp_nI (j := 1) (by decide) (by decide), fun x3 => f80 (by omega), fun x3 => t80 (by omega)⟩
    have f80 : ¬ hasRn (S.1 0) i (nI (lS q)) = true → AW w mX10_price 0 0 (rI Q) 0 0 80 [some (.ref 347), some (.int (nI q)), some (.int i), some (.int j), none] [.int 0] h := fun x => k80 0 (Or.inl ⟨rfl, by rw [Bool.eq_false_iff.mpr x, Bool.false_and]⟩)
    rw [rn _ _ _ l2] at k45 f80
    refine sp_leftOf hq ⟨fun x => k45 ?_, fun x => ⟨fun x2 => f80 ?_, fun x2 => sp_leftOf hq ?_⟩⟩
    · rw [nI_0' (by omega)] at x; omega
    · rw [nI_0' (by omega)] at x; rw [ti_lt, t_0] at x2; omega
    · rw [nI_0' (by omega)] at x; rw [ti_lt, t_0] at x2
      rw [s_347 c, r_347_5 c, s_351 c, e0c, g0, lg_cmp_gt, Int64.lt_iff_toInt_lt, lg_i2l_add, Jvm.Kit.i64_of_i32, nI_toInt (by omega), nI_toInt (by omega)]
      exact ⟨rfl, by first | decide | exact vp_nI (j := 0) (by decide) (by decide) | exact vp_nI (j := 1) (by decide) (by decide), rfl, by first | decide | exact vp_nI (j := 0) (by decide) (by decide) | exact vp_nI (j := 1) (by decide) (by decide), fun x3 => f80 (by omega), fun x3 => k45 (by omega)⟩
  · rw [b01_eq] at z
    exact Qto K0 (by rw [fPrice, z]; rfl)
theorem sp_restM {i j : Int32} (c : Lay L h) (T : lyM h S) (D : shareM h (bNk (S.1 0)) (bNk (S.1 1)) S.2.2.2 tm) (K : ∀ h', Cg bsD h h' → Q (fRest S i j) h') : AC w mX10_rest 0 0 (rI Q) [.ref 347, .int i, .int j] h := by
  have n0 := T.1.1.1.1
  have n1 := T.1.2.1.1
  have K0 := K h (Cg.rfl' h)
  have oc := cst_ok S
  have g0 : hI h 351 0 = nI (bNs (S.1 0)) := T.1.1.2.1
  have g1 : hI h 351 1 = nI (bNs (S.1 1)) := T.1.2.2.1
  have e64 : ∀ n : Nat, n ≤ 20 → (nI n).toInt64.toInt = ((n + 1 : Nat) : Int) - 1 := fun n hn => by rw [Jvm.Kit.i64_of_i32, nI_toInt (by omega)]; omega
  refine eX10_rest (sX10_rest_0 ?_)
  rw [s_347 c, r_347_5 c, s_351 c, e0c, g0]
  refine ⟨rfl, by first | decide | exact vp_nI (j := 0) (by decide) (by decide) | exact vp_nI (j := 1) (by decide) (by decide), rfl, by first | decide | exact vp_nI (j := 0) (by decide) (by decide) | exact vp_nI (j := 1) (by decide) (by decide), sp_in32 (n := bNs (S.1 0) + 1) (by decide) (e64 _ n0) ⟨fun z => ?_, fun z => ?_⟩⟩
  · rw [b01_eq] at z
    rw [fRest, z] at K0; exact K0
  · rw [b01_ne] at z
    rw [s_347 c, r_347_5 c, s_351 c, e1c, g1]
    refine ⟨rfl, by first | decide | exact vp_nI (j := 0) (by decide) (by decide) | exact vp_nI (j := 1) (by decide) (by decide), rfl, by first | decide | exact vp_nI (j := 0) (by decide) (by decide) | exact vp_nI (j := 1) (by decide) (by decide), sp_in32 (n := bNs (S.1 1) + 1) (by decide) (e64 _ n1) ⟨fun y => ?_, fun y => ?_⟩⟩
    · rw [b01_ne] at y
      have hin : (inR i (bNs (S.1 0) + 1) && inR j (bNs (S.1 1) + 1)) = true := by rw [z, y]; rfl
      obtain ⟨a, ha, rfl⟩ := inR_nI z (by omega)
      obtain ⟨b, hb, rfl⟩ := inR_nI y (by omega)
      refine ⟨by rw [s_347 c], fun h2 e2 => ?_⟩
      subst e2
      have ga : Cg bsD h (sI h 347 39 (-1)) := (Cg.rfl' h).sI (by unfold bsD; omega)
      refine sp_work (c.sI (by decide)) (T.cg ga (fun id j q => by unfold bsD at q; omega)) (D.cg ga (fun id j q => by unfold bsD at q; omega)) oc (fun k i j hk hi hj => ⟨fun q => ?_, fun _ => rfl⟩) (fun h4 g4 M4 l4 _ => ?_)
      · have := q.1
        rw [hI_eq] at this
        exact absurd this (nI_m1 (by omega))
      have g5 : Cg bsD h h4 := ga.trans (g4.mono (fun id j q => by unfold wkD at q; unfold bsD; omega))
      have c4 : Lay L h4 := g5.lay c (fun id j q => by unfold bsD at q; omega)
      have KK := K h4 g5
      rw [fRest, if_pos hin, cl_nI (by omega), cl_nI (by omega)] at KK
      have bd : LSs S a b = 1000000000 ∨ (-3600 ≤ LSs S a b ∧ LSs S a b ≤ 52000) := lst_bd oc n0 n1 (show a ≤ bNs (S.1 0) by omega) (show b ≤ bNs (S.1 1) by omega)
      have l4' : hI h4 371 (21 * a + b) = iI (LSs S a b) := l4 a b (by omega) (by omega)
      rw [s_347 c4, r_347_37 c4, s_371 c4, m_21, nI_add, cl_nI (by omega), l4']
      refine ⟨rfl, by first | decide | exact vp_nI (j := 0) (by decide) (by decide) | exact vp_nI (j := 1) (by decide) (by decide), rfl, vp_nI (by omega) (by decide), fun x => ?_, fun x => ?_⟩
      · rw [iI_leF (by omega) (by omega)] at x
        rw [if_neg (by omega)] at KK; exact KK
      · rw [iI_leF (by omega) (by omega)] at x
        rw [if_pos (by omega)] at KK; exact KK
    · rw [b01_eq] at y
      rw [fRest, y, Bool.and_false] at K0; exact K0
theorem sp_secondM (c : Lay L h) (T : lyM h S) (D : shareM h (bNk (S.1 0)) (bNk (S.1 1)) S.2.2.2 tm) (K : ∀ h', Cg bsD h h' → Q (fSecond S) h') : AC w mX10_second 0 0 (rI Q) [.ref 347] h := by
  have n0 := T.1.1.1.1
  have n1 := T.1.2.1.1
  have oc := cst_ok S
  refine eX10_second (sX10_second_0 ⟨by rw [s_347 c], fun h2 e2 => ?_⟩)
  subst e2
  have ga : Cg bsD h (sI h 347 39 (-1)) := (Cg.rfl' h).sI (by unfold bsD; omega)
  refine sp_work (c.sI (by decide)) (T.cg ga (fun id j q => by unfold bsD at q; omega)) (D.cg ga (fun id j q => by unfold bsD at q; omega)) oc (fun k i j hk hi hj => ⟨fun q => ?_, fun _ => rfl⟩) (fun h4 g4 M4 _ l4 => ?_)
  · have := q.1
    rw [hI_eq] at this
    exact absurd this (nI_m1 (by omega))
  have g5 : Cg bsD h h4 := ga.trans (g4.mono (fun id j q => by unfold wkD at q; unfold bsD; omega))
  have c4 : Lay L h4 := g5.lay c (fun id j q => by unfold bsD at q; omega)
  have KK := K h4 g5
  have bd := nxt_bd oc n0 n1 (Nat.zero_le _) (Nat.zero_le _)
  have t0 : hI h4 372 0 = iI (nxt (cst S) (bNs (S.1 0)) (bNs (S.1 1)) 0 0) := l4 0 0 (Nat.zero_le _) (Nat.zero_le _)
  rw [s_347 c4, r_347_38 c4, s_372 c4, e0c, t0]
  refine ⟨rfl, by first | decide | exact vp_nI (j := 0) (by decide) (by decide) | exact vp_nI (j := 1) (by decide) (by decide), rfl, by first | decide | exact vp_nI (j := 0) (by decide) (by decide) | exact vp_nI (j := 1) (by decide) (by decide), fun x => ?_, fun x => ?_⟩
  · rw [iI_leF (by omega) (by omega)] at x
    rw [fSecond, if_neg (by omega)] at KK; exact KK
  · rw [iI_leF (by omega) (by omega)] at x
    rw [fSecond, if_pos (by omega)] at KK; exact KK
theorem sp_sureM {k d : Int32} (c : Lay L h) (T : lyM h S) (D : shareM h (bNk (S.1 0)) (bNk (S.1 1)) S.2.2.2 tm) (K : ∀ h', Cg bsD h h' → Q (fSure S k d) h') : AC w mX10_sure 0 0 (rI Q) [.ref 347, .int k, .int d] h := by
  have n0 := T.1.1.1.1
  have n1 := T.1.2.1.1
  have oc := cst_ok S
  have hJ := JN_le (S := S) n0 n1
  refine eX10_sure (sX10_sure_0 ⟨by rw [s_347 c], sp_isJointM c T D (fun h1 g W1 => ⟨fun z => ?_, fun z => ?_⟩)⟩)
  · rw [b01_ne] at z
    have z' := z
    have c1 : Lay L h1 := g.lay c (fun id j q => by unfold bsD at q; omega)
    have KK := K h1 g
    obtain ⟨m, hm, rfl⟩ := inR_nI z (by omega)
    obtain ⟨j1, j2, j3⟩ := W1.2.2.2 m hm
    obtain ⟨o1, o2, o3, o4⟩ := JN_ok (S := S) n0 n1 hm
    have e : fSure S (nI m) d = (if inR d 10001 = true then (if LSs S 0 0 + d.toInt < LB S m then 1 else 0) else -100002) := by rw [fSure, if_pos z', cl_nI (by omega)]
    have b1 : LSs S 0 0 = 1000000000 ∨ (-3600 ≤ LSs S 0 0 ∧ LSs S 0 0 ≤ 52000) := lst_bd oc n0 n1 (Nat.zero_le _) (Nat.zero_le _)
    have b2 := lst_bd (ban_ok (k := JK S m) (i := JL S m) (j := JR S m) oc) n0 n1 (Nat.zero_le _) (Nat.zero_le _)
    have b2' : LB S m = 1000000000 ∨ (-3600 ≤ LB S m ∧ LB S m ≤ 52000) := b2
    have fnd : LSs S 0 0 < 1000000000 := by
      rcases Classical.em (LSs S 0 0 < 1000000000) with q | q
      · exact q
      · have : JN S = 0 := if_neg q
        omega
    refine sp_in32 (n := 10001) (by decide) (by decide) ⟨fun y => ?_, fun y => ?_⟩
    · rw [b01_ne] at y
      have yi := of_decide_eq_true y
      have t0 : hI h1 371 0 = iI (LSs S 0 0) := W1.2.1 0 0 (Nat.zero_le _) (Nat.zero_le _)
      have v : vp_in (nI m) 40 := vp_nI (by omega) (by decide)
      rw [s_347 c1, r_347_37 c1, s_371 c1, r_347_42 c1, s_373 c1, r_347_43 c1, s_374 c1, r_347_44 c1, s_375 c1, cl_nI (by omega), e0c, t0, j1]
      refine ⟨rfl, by first | decide | exact vp_nI (j := 0) (by decide) (by decide) | exact vp_nI (j := 1) (by decide) (by decide), rfl, by first | decide | exact vp_nI (j := 0) (by decide) (by decide) | exact vp_nI (j := 1) (by decide) (by decide), by first | decide | exact vp_nI (j := 0) (by decide) (by decide) | exact vp_nI (j := 1) (by decide) (by decide), rfl, v, fun h3 e3 => ⟨by first | decide | exact vp_nI (j := 0) (by decide) (by decide) | exact vp_nI (j := 1) (by decide) (by decide), rfl, v, fun h4 e4 => ⟨by first | decide | exact vp_nI (j := 0) (by decide) (by decide) | exact vp_nI (j := 1) (by decide) (by decide), rfl, v, fun h5 e5 => ?_⟩⟩⟩
      subst e3
      rw [hI_ne (Or.inl (by decide)), j2] at e4
      subst e4
      rw [hI_ne (Or.inl (by decide)), hI_ne (Or.inl (by decide)), j3] at e5
      subst e5
      have g5 : Cg bsD h (sI (sI (sI h1 347 39 (nI (JK S m))) 347 40 (nI (JL S m))) 347 41 (nI (JR S m))) := ((g.sI (by unfold bsD; omega)).sI (by unfold bsD; omega)).sI (by unfold bsD; omega)
      have c5 : Lay L (sI (sI (sI h1 347 39 (nI (JK S m))) 347 40 (nI (JL S m))) 347 41 (nI (JR S m))) := g5.lay c (fun id j q => by unfold bsD at q; omega)
      have x39 : hI (sI (sI (sI h1 347 39 (nI (JK S m))) 347 40 (nI (JL S m))) 347 41 (nI (JR S m))) 347 39 = nI (JK S m) := by simp (disch := omega) only [hI_ne, hI_eq]
      have x40 : hI (sI (sI (sI h1 347 39 (nI (JK S m))) 347 40 (nI (JL S m))) 347 41 (nI (JR S m))) 347 40 = nI (JL S m) := by simp (disch := omega) only [hI_ne, hI_eq]
      have x41 : hI (sI (sI (sI h1 347 39 (nI (JK S m))) 347 40 (nI (JL S m))) 347 41 (nI (JR S m))) 347 41 = nI (JR S m) := hI_eq
      refine sp_work (cc := ban (cst S) (JK S m) (JL S m) (JR S m)) c5 (T.cg g5 (fun id j q => by unfold bsD at q; omega)) (D.cg g5 (fun id j q => by unfold bsD at q; omega)) (ban_ok oc) (fun k i j hk hi hj => ?_) (fun h6 g6 M6 l6 _ => ?_)
      · rw [x39, x40, x41, nI_inj (by omega) (by omega), nI_inj (by omega) (by omega), nI_inj (by omega) (by omega)]
        exact ⟨fun q => if_pos q, fun q => if_neg q⟩
      have g7 : Cg bsD h (sI h6 347 39 (-1)) := (g5.trans (g6.mono (fun id j q => by unfold wkD at q; unfold bsD; omega))).sI (by unfold bsD; omega)
      have c6 : Lay L h6 := (g5.trans (g6.mono (E := bsD) (fun id j q => by unfold wkD at q; unfold bsD; omega))).lay c (fun id j q => by unfold bsD at q; omega)
      have K7 := K _ g7
      rw [e, y, if_pos rfl] at K7
      rw [s_347 c6, r_347_37 c6, s_371 c6]
      refine ⟨rfl, fun h7 e7 => ?_⟩
      subst e7
      have t6 : hI (sI h6 347 39 (-1)) 371 0 = iI (LB S m) := by
        rw [hI_ne (Or.inl (by decide))]
        exact l6 0 0 (Nat.zero_le _) (Nat.zero_le _)
      rw [t6]
      have es : (iI (LSs S 0 0) + d).toInt = LSs S 0 0 + d.toInt := by rw [ti_add] <;> rw [iI_toInt (by omega) (by omega)] <;> omega
      have el : (iI (LB S m)).toInt = LB S m := iI_toInt (by omega) (by omega)
      refine ⟨by first | decide | exact vp_nI (j := 0) (by decide) (by decide) | exact vp_nI (j := 1) (by decide) (by decide), rfl, by first | decide | exact vp_nI (j := 0) (by decide) (by decide) | exact vp_nI (j := 1) (by decide) (by decide), fun x => ?_, fun x => ⟨fun x2 => ?_, fun x2 => ?_⟩⟩
      · rw [iI_leF (by omega) (by omega)] at x
        rw [if_pos (by omega)] at K7; exact K7
      · rw [ti_le, es, el] at x2
        rw [if_neg (by omega)] at K7; exact K7
      · rw [ti_le, es, el] at x2
        rw [if_pos (by omega)] at K7; exact K7
    · rw [b01_eq] at y
      rw [e, y] at KK; exact KK
  · rw [b01_eq] at z
    exact Qto (K h1 g) (by rw [fSure, z]; rfl)
end MD
