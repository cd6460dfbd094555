/-! ===== the best way, the class ===== -/
theorem JN_le {S : Ly} (h0 : bNs (S.1 0) ≤ 20) (h1 : bNs (S.1 1) ≤ 20) : JN S ≤ 40 := jN_le (cst_ok S) h0 h1
theorem JN_ok {S : Ly} (h0 : bNs (S.1 0) ≤ 20) (h1 : bNs (S.1 1) ≤ 20) {m : Nat} (hm : m < JN S) : JK S m < 7 ∧ JL S m + lS (JK S m) ≤ bNs (S.1 0) ∧ JR S m + rS (JK S m) ≤ bNs (S.1 1) ∧ cst S (JK S m) (JL S m) (JR S m) < 1000000000 := jN_ok (cst_ok S) h0 h1 hm
def wyE (id j : Nat) : Prop := (312 ≤ id ∧ id ≤ 322) ∨ (id = 311 ∧ (j = 11 ∨ j = 12)) ∨ (id = 5 ∧ j = 11)
theorem lsC.cg {D : Nat → Nat → Prop} {h h' : Hp} {a n0 n1 : Nat} {cc : Nat → Nat → Nat → Int} (T : lsC h a cc n0 n1) (g : Cg D h h') (hd : ∀ id j, D id j → id ≠ a) : lsC h' a cc n0 n1 := fun i j hi hj => by rw [g.i (fun q => hd _ _ q rfl)]; exact T i j hi hj
theorem csC.cg {D : Nat → Nat → Prop} {h h' : Hp} {S : Ly} (T : csC h S) (g : Cg D h h') (hd : ∀ id j, D id j → id ≠ 316) : csC h' S := fun k i j hk hi hj => by rw [g.i (fun q => hd _ _ q rfl)]; exact T k i j hk hi hj
theorem WC.cg {D : Nat → Nat → Prop} {h h' : Hp} {S : Ly} (T : WC h S) (g : Cg D h h') (hd : ∀ id j, D id j → ¬ (312 ≤ id ∧ id ≤ 317) ∧ ¬ (319 ≤ id ∧ id ≤ 322) ∧ ¬ (id = 311 ∧ (j = 11 ∨ j = 12))) : WC h' S := by
  obtain ⟨a1, a2, a3, a4, a5, a6⟩ := T
  refine ⟨a1.cg g (fun id j q => by have := hd id j q; omega), a2.cg g (fun id j q => by have := hd id j q; omega), a3.cg g (fun id j q => by have := hd id j q; omega), ?_, ?_, fun m hm => ?_⟩
  · rw [g.i (fun q => by have := hd _ _ q; omega)]; exact a4
  · rw [g.i (fun q => by have := hd _ _ q; omega)]; exact a5
  · rw [g.i (fun q => by have := hd _ _ q; omega), g.i (fun q => by have := hd _ _ q; omega), g.i (fun q => by have := hd _ _ q; omega), g.i (fun q => by have := hd _ _ q; omega)]; exact a6 m hm
section WE
variable {w : Wd} {L : Nat} {h : Hp} {o : Nat → Nat} {S : Ly}
theorem sp_firstBest {Q : Int32 → Hp → Prop} {i j : Nat} (c : Lay L h) (h0 : bNs (S.1 0) ≤ 20) (h1 : bNs (S.1 1) ≤ 20) (C : csC h S) (T : lsC h 317 (cst S) (bNs (S.1 0)) (bNs (S.1 1))) (hi : i ≤ bNs (S.1 0)) (hj : j ≤ bNs (S.1 1)) (K : Q (nI (bK (cst S) (lst (cst S) (bNs (S.1 0)) (bNs (S.1 1))) i j)) h) : AC w mX7_firstBestKind 0 0 (rI Q) [.ref 311, .int (nI i), .int (nI j)] h := by
  have oc := cst_ok S
  have lp : ∀ (d k : Nat), k + d = 6 → fK (fun k => sB (cst S) (lst (cst S) (bNs (S.1 0)) (bNs (S.1 1))) k i j) (lst (cst S) (bNs (S.1 0)) (bNs (S.1 1)) i j) d k = bK (cst S) (lst (cst S) (bNs (S.1 0)) (bNs (S.1 1))) i j → AW w mX7_firstBestKind 0 0 (rI Q) 0 0 2 [some (.ref 311), some (.int (nI i)), some (.int (nI j)), some (.int (nI k))] [] h := by
    intro d
    induction d with
    | zero =>
      intro k hk e
      have hk : k = 6 := by omega
      subst hk
      have e : 6 = bK (cst S) (lst (cst S) (bNs (S.1 0)) (bNs (S.1 1))) i j := e
      refine sX7_firstBestKind_2 ⟨fun _ => by rw [e]; exact K, fun z => absurd (by decide) z⟩
    | succ d ih =>
      intro k hk e
      have e : (if sB (cst S) (lst (cst S) (bNs (S.1 0)) (bNs (S.1 1))) k i j = lst (cst S) (bNs (S.1 0)) (bNs (S.1 1)) i j then k else fK (fun k => sB (cst S) (lst (cst S) (bNs (S.1 0)) (bNs (S.1 1))) k i j) (lst (cst S) (bNs (S.1 0)) (bNs (S.1 1)) i j) d (k + 1)) = bK (cst S) (lst (cst S) (bNs (S.1 0)) (bNs (S.1 1))) i j := e
      refine sX7_firstBestKind_2 ⟨fun z => ?_, fun _ => ⟨by rw [s_311 c], by rw [r_311_9 c]; decide, ?_⟩⟩
      · rw [ti_le, t_6, nI_toInt (by omega)] at z; omega
      rw [r_311_9 c]
      refine sp_sumBy (U := lst (cst S) (bNs (S.1 0)) (bNs (S.1 1))) c oc h0 h1 (Or.inl rfl) (by omega) hi hj (C k i j (by omega) hi hj) (fun lt => ?_) (fun i j hi hj => lst_bd oc h0 h1 hi hj) ⟨by rw [s_311 c], by rw [r_311_9 c]; decide, sp_placeOf ?_⟩
      · rcases oc k i j with q | q
        · omega
        · exact T _ _ q.2.2.1 q.2.2.2
      · rw [r_311_9 c, s_317 c, cl_nI (by omega), T i j hi hj, nI_1]
        have b1 := sB_bd oc h0 h1 (k := k) (i := i) (j := j)
        have b2 := lst_bd oc h0 h1 hi hj
        refine ⟨rfl, vp_nI (by omega) (by decide), fun z => ?_, fun z => ?_⟩
        · rw [iI_eq (by omega) (by omega) (by omega) (by omega)] at z
          rw [if_pos z] at e
          rw [e]; exact K
        · rw [iI_eq (by omega) (by omega) (by omega) (by omega)] at z
          rw [if_neg z] at e
          exact ih (k + 1) (by omega) e
  exact eX7_firstBestKind (sX7_firstBestKind_0 (lp 6 0 (by omega) rfl))
theorem sp_traceBest {Q : Hp → Prop} (c : Lay L h) (B : booksC h o S.1) (C : csC h S) (T : lsC h 317 (cst S) (bNs (S.1 0)) (bNs (S.1 1))) (hf : LSs S 0 0 < 1000000000) (h12 : hI h 311 12 = 0) (K : ∀ h', Cg (fun id j => (319 ≤ id ∧ id ≤ 322) ∨ (id = 311 ∧ j = 12)) h h' → hI h' 311 12 = nI (JN S) → jsC h' S → Q h') : AC w mX7_traceBest 0 0 (rV Q) [.ref 311] h := by
  have oc := cst_ok S
  have h0 := B.2.1.1.1
  have h1 := B.2.2.1.1
  have hb0 := B.1.2.1
  have hb1 := B.1.2.2.1
  have b0 := isBk_223 hb0
  have b1 := isBk_223 hb1
  have ej : JN S = jnF (cst S) (lst (cst S) (bNs (S.1 0)) (bNs (S.1 1))) (bNs (S.1 0)) (bNs (S.1 1)) 40 0 := if_pos hf
  have lp : ∀ (d m : Nat) (h' : Hp), m + d = 40 → onW (cst S) (bNs (S.1 0)) (bNs (S.1 1)) m → jnF (cst S) (lst (cst S) (bNs (S.1 0)) (bNs (S.1 1))) (bNs (S.1 0)) (bNs (S.1 1)) d m = JN S → Cg (fun id j => (319 ≤ id ∧ id ≤ 322) ∨ (id = 311 ∧ j = 12)) h h' → hI h' 311 12 = nI m → (∀ x, x < m → hI h' 319 x = nI (JK S x) ∧ hI h' 320 x = nI (JL S x) ∧ hI h' 321 x = nI (JR S x) ∧ hI h' 322 x = iI (cst S (JK S x) (JL S x) (JR S x))) →
      AW w mX7_traceBest 0 0 (rV Q) 0 0 6 [some (.ref 311), some (.int (nI (psn (cst S) (lst (cst S) (bNs (S.1 0)) (bNs (S.1 1))) m).1)), some (.int (nI (psn (cst S) (lst (cst S) (bNs (S.1 0)) (bNs (S.1 1))) m).2)), some (.int (nI m)), none] [] h' := by
    intro d
    induction d with
    | zero =>
      intro m h' hm ow e g q12 dn
      have hm : m = 40 := by omega
      subst hm
      have e : 40 = JN S := e
      refine sX7_traceBest_6 ⟨fun _ => K h' g (by rw [q12, ← e]) (fun x hx => dn x (by rw [e]; exact hx)), fun z => absurd (by decide) z⟩
    | succ d ih =>
      intro m h' hm ow e g q12 dn
      have c' : Lay L h' := g.lay c (fun id j q => by omega)
      have B' : booksC h' o S.1 := B.cg g (fun id j q => by omega)
      have C' : csC h' S := C.cg g (fun id j q => by omega)
      have T' : lsC h' 317 (cst S) (bNs (S.1 0)) (bNs (S.1 1)) := T.cg g (fun id j q => by omega)
      have e : (if (psn (cst S) (lst (cst S) (bNs (S.1 0)) (bNs (S.1 1))) m).1 < bNs (S.1 0) ∨ (psn (cst S) (lst (cst S) (bNs (S.1 0)) (bNs (S.1 1))) m).2 < bNs (S.1 1) then jnF (cst S) (lst (cst S) (bNs (S.1 0)) (bNs (S.1 1))) (bNs (S.1 0)) (bNs (S.1 1)) d (m + 1) else m) = JN S := e
      have p1 := ow.1
      have p2 := ow.2.1
      have stop : ¬ ((psn (cst S) (lst (cst S) (bNs (S.1 0)) (bNs (S.1 1))) m).1 < bNs (S.1 0) ∨ (psn (cst S) (lst (cst S) (bNs (S.1 0)) (bNs (S.1 1))) m).2 < bNs (S.1 1)) → Q h' := fun z => by
        rw [if_neg z] at e
        exact K h' g (by rw [q12, e]) (fun x hx => dn x (by rw [e]; exact hx))
      have goon : ((psn (cst S) (lst (cst S) (bNs (S.1 0)) (bNs (S.1 1))) m).1 < bNs (S.1 0) ∨ (psn (cst S) (lst (cst S) (bNs (S.1 0)) (bNs (S.1 1))) m).2 < bNs (S.1 1)) → AW w mX7_traceBest 0 0 (rV Q) 0 0 38 [some (.ref 311), some (.int (nI (psn (cst S) (lst (cst S) (bNs (S.1 0)) (bNs (S.1 1))) m).1)), some (.int (nI (psn (cst S) (lst (cst S) (bNs (S.1 0)) (bNs (S.1 1))) m).2)), some (.int (nI m)), none] [] h' := fun z => by
        rw [if_pos z] at e
        refine sX7_traceBest_38 ⟨by rw [s_311 c'], sp_firstBest c' h0 h1 C' T' p1 p2 ?_⟩
        have hk := bK_lt (c := cst S) (lst (cst S) (bNs (S.1 0)) (bNs (S.1 1))) (psn (cst S) (lst (cst S) (bNs (S.1 0)) (bNs (S.1 1))) m).1 (psn (cst S) (lst (cst S) (bNs (S.1 0)) (bNs (S.1 1))) m).2
        have l2 := lS_le (bK (cst S) (lst (cst S) (bNs (S.1 0)) (bNs (S.1 1))) (psn (cst S) (lst (cst S) (bNs (S.1 0)) (bNs (S.1 1))) m).1 (psn (cst S) (lst (cst S) (bNs (S.1 0)) (bNs (S.1 1))) m).2)
        have r2 := rS_le (bK (cst S) (lst (cst S) (bNs (S.1 0)) (bNs (S.1 1))) (psn (cst S) (lst (cst S) (bNs (S.1 0)) (bNs (S.1 1))) m).1 (psn (cst S) (lst (cst S) (bNs (S.1 0)) (bNs (S.1 1))) m).2)
        have cv := C' _ _ _ hk p1 p2
        have nx := ih (m + 1) (sI (sI (sI (sI (sI h' 319 m (nI (JK S m))) 320 m (nI (JL S m))) 321 m (nI (JR S m))) 322 m (iI (cst S (JK S m) (JL S m) (JR S m)))) 311 12 (nI (m + 1))) (by omega) (onW_s oc h0 h1 ow z) e (((((g.sI (by omega)).sI (by omega)).sI (by omega)).sI (by omega)).sI (by omega)) hI_eq (fun x hx => by
          simp (disch := omega) only [hI_ne]
          by_cases q : x = m
          · subst q
            refine ⟨?_, ?_, ?_, ?_⟩ <;> simp (disch := omega) only [hI_ne, hI_eq]
          · refine ⟨?_, ?_, ?_, ?_⟩ <;> simp (disch := omega) only [hI_ne]
            · exact (dn x (by omega)).1
            · exact (dn x (by omega)).2.1
            · exact (dn x (by omega)).2.2.1
            · exact (dn x (by omega)).2.2.2)
        have c7 : Lay L (sI (sI (sI (sI (sI h' 319 m (nI (JK S m))) 320 m (nI (JL S m))) 321 m (nI (JR S m))) 322 m (iI (cst S (JK S m) (JL S m) (JR S m)))) 311 12 (nI (m + 1))) := ((((c'.sI (by decide)).sI (by decide)).sI (by decide)).sI (by decide)).sI (by decide)
        simp (disch := omega) only [s_311 c', r_311_13 c', s_319 c', r_311_14 c', s_320 c', r_311_15 c', s_321 c', r_311_16 c', r_311_8 c', cl_nI]
        refine ⟨trivial, by first | decide | exact vp_nI (j := 0) (by decide) (by decide) | exact vp_nI (j := 1) (by decide) (by decide), trivial, vp_nI (by omega) (by decide), fun h2 e2 => ⟨by first | decide | exact vp_nI (j := 0) (by decide) (by decide) | exact vp_nI (j := 1) (by decide) (by decide), trivial, vp_nI (by omega) (by decide), fun h3 e3 => ⟨by first | decide | exact vp_nI (j := 0) (by decide) (by decide) | exact vp_nI (j := 1) (by decide) (by decide), trivial, vp_nI (by omega) (by decide), fun h4 e4 => ⟨by first | decide | exact vp_nI (j := 0) (by decide) (by decide) | exact vp_nI (j := 1) (by decide) (by decide), by first | decide | exact vp_nI (j := 0) (by decide) (by decide) | exact vp_nI (j := 1) (by decide) (by decide), sp_costIndex ?_⟩⟩⟩⟩
        subst e2 e3 e4
        simp (disch := omega) only [hs_sI, s_316 c', s_322 c', s_311 c', cl_nI, hI_ne, cv]
        refine ⟨trivial, vp_nI (by omega) (by decide), trivial, vp_nI (by omega) (by decide), fun h6 e6 => ⟨trivial, fun h7 e7 => ?_⟩⟩
        subst e6
        rw [nI_1] at e7 ⊢
        subst e7
        have x1 := l_1 c7 hk
        have x2 := l_2 c7 hk
        rw [s_1 c', s_2 c']
        refine ⟨rfl, vp_nI (by omega) (by decide), rfl, vp_nI (by omega) (by decide), ?_⟩
        have x1' : hI (sI (sI (sI (sI (sI h' 319 m (nI (bK (cst S) (lst (cst S) (bNs (S.1 0)) (bNs (S.1 1))) (psn (cst S) (lst (cst S) (bNs (S.1 0)) (bNs (S.1 1))) m).1 (psn (cst S) (lst (cst S) (bNs (S.1 0)) (bNs (S.1 1))) m).2))) 320 m (nI (psn (cst S) (lst (cst S) (bNs (S.1 0)) (bNs (S.1 1))) m).1)) 321 m (nI (psn (cst S) (lst (cst S) (bNs (S.1 0)) (bNs (S.1 1))) m).2)) 322 m (iI (cst S (bK (cst S) (lst (cst S) (bNs (S.1 0)) (bNs (S.1 1))) (psn (cst S) (lst (cst S) (bNs (S.1 0)) (bNs (S.1 1))) m).1 (psn (cst S) (lst (cst S) (bNs (S.1 0)) (bNs (S.1 1))) m).2) (psn (cst S) (lst (cst S) (bNs (S.1 0)) (bNs (S.1 1))) m).1 (psn (cst S) (lst (cst S) (bNs (S.1 0)) (bNs (S.1 1))) m).2))) 311 12 (nI (m + 1))) 1 (bK (cst S) (lst (cst S) (bNs (S.1 0)) (bNs (S.1 1))) (psn (cst S) (lst (cst S) (bNs (S.1 0)) (bNs (S.1 1))) m).1 (psn (cst S) (lst (cst S) (bNs (S.1 0)) (bNs (S.1 1))) m).2) = _ := x1
        have x2' : hI (sI (sI (sI (sI (sI h' 319 m (nI (bK (cst S) (lst (cst S) (bNs (S.1 0)) (bNs (S.1 1))) (psn (cst S) (lst (cst S) (bNs (S.1 0)) (bNs (S.1 1))) m).1 (psn (cst S) (lst (cst S) (bNs (S.1 0)) (bNs (S.1 1))) m).2))) 320 m (nI (psn (cst S) (lst (cst S) (bNs (S.1 0)) (bNs (S.1 1))) m).1)) 321 m (nI (psn (cst S) (lst (cst S) (bNs (S.1 0)) (bNs (S.1 1))) m).2)) 322 m (iI (cst S (bK (cst S) (lst (cst S) (bNs (S.1 0)) (bNs (S.1 1))) (psn (cst S) (lst (cst S) (bNs (S.1 0)) (bNs (S.1 1))) m).1 (psn (cst S) (lst (cst S) (bNs (S.1 0)) (bNs (S.1 1))) m).2) (psn (cst S) (lst (cst S) (bNs (S.1 0)) (bNs (S.1 1))) m).1 (psn (cst S) (lst (cst S) (bNs (S.1 0)) (bNs (S.1 1))) m).2))) 311 12 (nI (m + 1))) 2 (bK (cst S) (lst (cst S) (bNs (S.1 0)) (bNs (S.1 1))) (psn (cst S) (lst (cst S) (bNs (S.1 0)) (bNs (S.1 1))) m).1 (psn (cst S) (lst (cst S) (bNs (S.1 0)) (bNs (S.1 1))) m).2) = _ := x2
        rw [x1', x2', nI_add, nI_add]
        exact nx
      refine sX7_traceBest_6 ?_
      have r0 : hR h' 19 0 = o 0 := B'.1.1.1
      have r1 : hR h' 19 1 = o 1 := B'.1.1.2
      simp (disch := omega) only [s_311 c', r_311_0 c', s_19 c', e0c, e1c, r0, r1, sb_this c' hb0, sb_this c' hb1, B'.2.1.2.1, B'.2.2.2.1, ti_lt, ti_le, nI_toInt, t_40]
      repeat' (first | exact trivial | (with_reducible refine And.intro ?_ ?_) | exact vp_nI (by omega) (by omega) | exact vp_nI (j := 0) (by decide) (by decide) | exact vp_nI (j := 1) (by decide) (by decide) | decide | (exact goon (Or.inl (by omega))) | (exact goon (Or.inr (by omega))) | (exact stop (by omega)) | (with_reducible intro z1; first | exact absurd trivial z1 | exact z1.elim) | (with_reducible intro z1) | omega)
  refine eX7_traceBest (sX7_traceBest_0 (lp 40 0 h (by omega) (onW_0 hf) ej.symm (Cg.rfl' h) h12 (fun x hx => by omega)))
theorem sp_choose {Q : Hp → Prop} (c : Lay L h) (T : booksC h o S.1) (C : csC h S) (K : ∀ h', Cg (fun id j => (id = 317 ∨ (319 ≤ id ∧ id ≤ 322)) ∨ (id = 311 ∧ (j = 11 ∨ j = 12))) h h' → lsC h' 317 (cst S) (bNs (S.1 0)) (bNs (S.1 1)) → hI h' 311 11 = b01 (decide (LSs S 0 0 < 1000000000)) → hI h' 311 12 = nI (JN S) → jsC h' S → Q h') : AC w mX7_choose 0 0 (rV Q) [.ref 311] h := by
  have oc := cst_ok S
  have h0 := T.2.1.1.1
  have h1 := T.2.2.1.1
  refine eX7_choose (sX7_choose_0 ⟨by rw [s_311 c], by rw [r_311_9 c]; decide, ?_⟩)
  rw [r_311_9 c]
  refine sp_fillLeast c T oc rfl rfl (Or.inl rfl) (fun k i j hk hi hj => ⟨fun q => absurd q (nI_m1 (by omega)), fun _ => C k i j hk hi hj⟩) (fun h2 g t2 => ?_)
  have c2 : Lay L h2 := g.lay c (fun id j q => by omega)
  have t00 : hI h2 317 0 = iI (LSs S 0 0) := t2 0 0 (Nat.zero_le _) (Nat.zero_le _)
  have b00 : LSs S 0 0 = 1000000000 ∨ (-3600 ≤ LSs S 0 0 ∧ LSs S 0 0 ≤ 52000) := lst_bd oc h0 h1 (Nat.zero_le (bNs (S.1 0))) (Nat.zero_le (bNs (S.1 1)))
  rw [s_311 c2, r_311_9 c2, s_317 c2, e0c, t00]
  refine ⟨rfl, by first | decide | exact vp_nI (j := 0) (by decide) (by decide) | exact vp_nI (j := 1) (by decide) (by decide), rfl, vp_nI (j := 0) (by decide) (by decide), fun z h3 e3 h4 e4 => ?_, fun z h3 e3 h4 e4 => ?_⟩
  · subst e3 e4
    rw [iI_leF (by omega) (by omega)] at z
    have ej : JN S = 0 := if_neg (show ¬ LSs S 0 0 < 1000000000 by omega)
    refine ⟨fun _ => K _ (((g.mono (fun id j q => by omega)).sI (by omega)).sI (by omega)) (t2.cg (((Cg.rfl' h2).sI (D := fun id j => id = 311) rfl).sI rfl) (fun id j q => by omega)) ?_ ?_ (fun m hm => by omega), fun z2 => absurd ?_ z2⟩
    · rw [hI_ne (Or.inr (by decide)), hI_eq, decide_eq_false (by omega)]; rfl
    · rw [hI_eq, ej]; rfl
    · rw [hI_ne (Or.inr (by decide)), hI_eq]
  · subst e3 e4
    rw [iI_leF (by omega) (by omega)] at z
    have z : LSs S 0 0 < 1000000000 := by omega
    have c4 : Lay L (sI (sI h2 311 11 1) 311 12 0) := (c2.sI (by decide)).sI (by decide)
    have g4 : Cg (fun id j => id = 311) h2 (sI (sI h2 311 11 1) 311 12 0) := ((Cg.rfl' h2).sI (D := fun id j => id = 311) rfl).sI rfl
    have g5 : Cg (fun id j => id = 317 ∨ id = 311) h (sI (sI h2 311 11 1) 311 12 0) := (g.mono (fun id j q => Or.inl q)).trans (g4.mono (fun id j q => Or.inr q))
    refine ⟨fun z2 => absurd z2 ?_, fun _ => sp_traceBest c4 (T.cg g5 (fun id j q => by omega)) (C.cg g5 (fun id j q => by omega)) (t2.cg g4 (fun id j q => by omega)) z hI_eq (fun h5 g6 q12 js => K h5 ?_ ?_ ?_ q12 js)⟩
    · rw [hI_ne (Or.inr (by decide)), hI_eq]; decide
    · exact (((g.mono (fun id j q => by omega)).sI (by omega)).sI (by omega)).trans (g6.mono (fun id j q => by omega))
    · exact (t2.cg g4 (fun id j q => by omega)).cg g6 (fun id j q => by omega)
    · rw [g6.i (by omega), hI_ne (Or.inr (by decide)), hI_eq, decide_eq_true z]; rfl
theorem sp_layAnew {Q : Hp → Prop} {tm : Nat → Int32} (c : Lay L h) (T : lyC h o S) (D : shareC h (bNk (S.1 0)) (bNk (S.1 1)) S.2.2.2 tm) (W : hI h 5 11 = 0 → WC h S) (K : ∀ h', Cg wyE h h' → hI h' 5 11 = 0 → WC h' S → Q h') : AC w mX9_layAnew 0 0 (rV Q) [.ref 5] h := by
  refine eX9_layAnew (sX9_layAnew_0 ?_)
  rw [s_5 c, r_5_7 c, s_311 c]
  refine ⟨rfl, fun z => K h (Cg.rfl' h) z (W z), fun _ => ⟨by first | decide | exact vp_nI (j := 0) (by decide) (by decide) | exact vp_nI (j := 1) (by decide) (by decide), rfl, sp_measure c T.1 D (fun h1 g1 m1 => ?_)⟩⟩
  have c1 : Lay L h1 := g1.lay c (fun id j q => by omega)
  have T1 : lyC h1 o S := T.cg g1 (fun id j q => by omega)
  rw [s_5 c1, r_5_7 c1, s_311 c1]
  refine ⟨rfl, by first | decide | exact vp_nI (j := 0) (by decide) (by decide) | exact vp_nI (j := 1) (by decide) (by decide), rfl, sp_fillCosts c1 T1 m1 (fun h2 g2 m2 => ?_)⟩
  have c2 : Lay L h2 := g2.lay c1 (fun id j q => by omega)
  have T2 : lyC h2 o S := T1.cg g2 (fun id j q => by omega)
  rw [s_5 c2, r_5_7 c2, s_311 c2]
  refine ⟨rfl, by first | decide | exact vp_nI (j := 0) (by decide) (by decide) | exact vp_nI (j := 1) (by decide) (by decide), rfl, sp_choose c2 T2.1 m2 (fun h3 g3 t3 q11 q12 js => ?_)⟩
  have c3 : Lay L h3 := g3.lay c2 (fun id j q => by omega)
  have W3 : WC h3 S := ⟨(m1.cg g2 (fun id j q => by omega)).cg g3 (fun id j q => by omega), m2.cg g3 (fun id j q => by omega), t3, q11, q12, js⟩
  rw [s_5 c3]
  refine ⟨rfl, fun h4 e4 => ?_⟩
  subst e4
  refine K _ ?_ hI_eq (W3.cg ((Cg.rfl' h3).sI (D := fun id j => id = 5) rfl) (fun id j q => by omega))
  exact (((g1.mono (fun id j q => by unfold wyE; omega)).trans (g2.mono (fun id j q => by unfold wyE; omega))).trans (g3.mono (fun id j q => by unfold wyE; omega))).sI (by unfold wyE; omega)
end WE
