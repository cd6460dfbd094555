/-! ===== the least sums, the reference ===== -/
def wkD (id j : Nat) : Prop := (369 ≤ id ∧ id ≤ 372) ∨ (id = 347 ∧ (j = 35 ∨ j = 36))
def lsM (h : Hp) (a : Nat) (f : Nat → Nat → Int) (n0 n1 : Nat) : Prop := ∀ i j, i ≤ n0 → j ≤ n1 → hI h a (21 * i + j) = iI (f i j)
theorem lsM.cg {D : Nat → Nat → Prop} {h h' : Hp} {a n0 n1 : Nat} {f : Nat → Nat → Int} (T : lsM h a f n0 n1) (g : Cg D h h') (hd : ∀ id j, D id j → id ≠ a) : lsM h' a f n0 n1 := fun i j hi hj => by rw [g.i (fun q => hd _ _ q rfl)]; exact T i j hi hj
theorem iI_le {x y : Int} (h1 : -1000000 ≤ x) (h2 : x ≤ 1000000000) (h3 : -1000000 ≤ y) (h4 : y ≤ 1000000000) : iI x ≤ iI y ↔ x ≤ y := by rw [ti_le, iI_toInt (by omega) (by omega), iI_toInt (by omega) (by omega)]
theorem bB_bd {c : Nat → Nat → Nat → Int} {n0 n1 : Nat} (o : okC c n0 n1) (h0 : n0 ≤ 20) (h1 : n1 ≤ 20) (k i j : Nat) : bB c (lst c n0 n1) (nxt c n0 n1) k i j = 1000000000 ∨ (-10000 ≤ bB c (lst c n0 n1) (nxt c n0 n1) k i j ∧ bB c (lst c n0 n1) (nxt c n0 n1) k i j ≤ 112000) := by
  unfold bB
  by_cases z : sB c (lst c n0 n1) k i j < 1000000000
  · rw [if_pos z]
    obtain ⟨g1, g2, g3⟩ := sB_lt z
    rcases o k i j with y | y
    · omega
    · have := nxt_bd o h0 h1 y.2.2.1 y.2.2.2
      split
      · right; omega
      · left; rfl
  · rw [if_neg z]; left; rfl
theorem f2_bd {a b : Nat → Int} {e : Int} {n : Nat} (he : e = 0 ∨ e = 1000000000) (ha : ∀ k, a k = 1000000000 ∨ (-10000 ≤ a k ∧ a k ≤ 112000)) (hb : ∀ k, b k = 1000000000 ∨ (-10000 ≤ b k ∧ b k ≤ 112000)) : (-1000000 ≤ (f2 a b e n).1 ∧ (f2 a b e n).1 ≤ 1000000000) ∧ (-1000000 ≤ (f2 a b e n).2 ∧ (f2 a b e n).2 ≤ 1000000000) := by
  obtain ⟨m1, m2⟩ := f2_mem (a := a) (b := b) (e := e) (n := n)
  refine ⟨?_, ?_⟩
  · clear m2
    rcases m1 with q | ⟨k, hk, q⟩
    · rw [q]; omega
    · rw [q]; have := ha k; omega
  · clear m1
    rcases m2 with q | q | ⟨k, hk, q⟩ | ⟨k, hk, hk2, q⟩
    · rw [q]; omega
    · rw [q]; omega
    · rw [q]; have := ha k; omega
    · rw [q]; have := hb k; omega
section MC
variable {w : Wd} {L : Nat} {h : Hp} {S : Ly} {cc : Nat → Nat → Nat → Int}
theorem sp_work {Q : Hp → Prop} {tm : Nat → Int32} (c : Lay L h) (T : lyM h S) (D : shareM h (bNk (S.1 0)) (bNk (S.1 1)) S.2.2.2 tm) (o' : okC cc (bNs (S.1 0)) (bNs (S.1 1)))
    (hc : ∀ k i j, k < 7 → i ≤ bNs (S.1 0) → j ≤ bNs (S.1 1) → ((nI k = hI h 347 39 ∧ nI i = hI h 347 40 ∧ nI j = hI h 347 41) → cc k i j = 1000000000) ∧ (¬ (nI k = hI h 347 39 ∧ nI i = hI h 347 40 ∧ nI j = hI h 347 41) → cc k i j = cst S k i j))
    (K : ∀ h', Cg wkD h h' → msM h' S → lsM h' 371 (lst cc (bNs (S.1 0)) (bNs (S.1 1))) (bNs (S.1 0)) (bNs (S.1 1)) → lsM h' 372 (nxt cc (bNs (S.1 0)) (bNs (S.1 1))) (bNs (S.1 0)) (bNs (S.1 1)) → Q h') : AC w mX10_work 0 0 (rV Q) [.ref 347] h := by
  have h0 := T.1.1.1.1
  have h1 := T.1.2.1.1
  refine eX10_work (sX10_work_0 ⟨by rw [s_347 c], sp_prepare c T.1 D (fun hp gp Mp => ?_)⟩)
  have gp' : Cg wkD h hp := gp.mono (fun id j q => by unfold prD at q; unfold wkD; omega)
  have kin : ∀ (i j : Nat), i ≤ bNs (S.1 0) → j ≤ bNs (S.1 1) → ∀ (h' : Hp), Cg wkD h h' → msM h' S → (∀ i' j', i' ≤ bNs (S.1 0) → j' ≤ bNs (S.1 1) → (i < i' ∨ (i' = i ∧ j < j')) → hI h' 371 (21 * i' + j') = iI (lst cc (bNs (S.1 0)) (bNs (S.1 1)) i' j') ∧ hI h' 372 (21 * i' + j') = iI (nxt cc (bNs (S.1 0)) (bNs (S.1 1)) i' j')) →
      (AW w mX10_work 0 0 (rV Q) 0 0 22 [some (.ref 347), some (.int (nI i)), some (.int (iI ((j : Int) - 1))), none, none, none, none, none, none, none, none] [] (sI (sI h' 371 (21 * i + j) (iI (lst cc (bNs (S.1 0)) (bNs (S.1 1)) i j))) 372 (21 * i + j) (iI (nxt cc (bNs (S.1 0)) (bNs (S.1 1)) i j)))) →
      ∀ (d q : Nat), q + d = 7 → AW w mX10_work 0 0 (rV Q) 0 0 60 [some (.ref 347), some (.int (nI i)), some (.int (nI j)), some (.int (iI (f2 (fun k => sB cc (lst cc (bNs (S.1 0)) (bNs (S.1 1))) k i j) (fun k => bB cc (lst cc (bNs (S.1 0)) (bNs (S.1 1))) (nxt cc (bNs (S.1 0)) (bNs (S.1 1))) k i j) (enT (bNs (S.1 0)) (bNs (S.1 1)) i j) q).1)), some (.int (iI (f2 (fun k => sB cc (lst cc (bNs (S.1 0)) (bNs (S.1 1))) k i j) (fun k => bB cc (lst cc (bNs (S.1 0)) (bNs (S.1 1))) (nxt cc (bNs (S.1 0)) (bNs (S.1 1))) k i j) (enT (bNs (S.1 0)) (bNs (S.1 1)) i j) q).2)), some (.int (nI q)), none, none, none, none, none] [] h' := by
    intro i j hi hj h' g M' dn Kc d
    have c' : Lay L h' := g.lay c (fun id j q => by unfold wkD at q; omega)
    have T' : lyM h' S := T.cg g (fun id j q => by unfold wkD at q; omega)
    have o39 : hI h' 347 39 = hI h 347 39 := g.i (by unfold wkD; omega)
    have o40 : hI h' 347 40 = hI h 347 40 := g.i (by unfold wkD; omega)
    have o41 : hI h' 347 41 = hI h 347 41 := g.i (by unfold wkD; omega)
    induction d with
    | zero =>
      intro q hq
      have hq : q = 7 := by omega
      subst hq
      have e1 : (f2 (fun k => sB cc (lst cc (bNs (S.1 0)) (bNs (S.1 1))) k i j) (fun k => bB cc (lst cc (bNs (S.1 0)) (bNs (S.1 1))) (nxt cc (bNs (S.1 0)) (bNs (S.1 1))) k i j) (enT (bNs (S.1 0)) (bNs (S.1 1)) i j) 7).1 = lst cc (bNs (S.1 0)) (bNs (S.1 1)) i j := by
        rw [f2_1 (by have := en_or (bNs (S.1 0)) (bNs (S.1 1)) i j; omega), lst_eq o' h0 h1 hi hj]
      have e2 := (nxt_eq o' h0 h1 hi hj).symm
      rw [e1, e2]
      refine sX10_work_60 ⟨fun _ => ?_, fun z => absurd (by decide) z⟩
      rw [s_347 c', r_347_37 c', s_371 c', r_347_38 c', s_372 c', m_21, nI_add, cl_nI (by omega), iI_m1]
      exact ⟨rfl, by first | decide | exact vp_nI (j := 0) (by decide) (by decide) | exact vp_nI (j := 1) (by decide) (by decide), rfl, vp_nI (by omega) (by decide), fun h2 e2 => ⟨by first | decide | exact vp_nI (j := 0) (by decide) (by decide) | exact vp_nI (j := 1) (by decide) (by decide), rfl, vp_nI (by omega) (by decide), fun h3 e3 => by rw [e3, e2]; exact Kc⟩⟩
    | succ d ih =>
      intro q hq
      have nx := ih (q + 1) (by omega)
      have ef : f2 (fun k => sB cc (lst cc (bNs (S.1 0)) (bNs (S.1 1))) k i j) (fun k => bB cc (lst cc (bNs (S.1 0)) (bNs (S.1 1))) (nxt cc (bNs (S.1 0)) (bNs (S.1 1))) k i j) (enT (bNs (S.1 0)) (bNs (S.1 1)) i j) (q + 1) = if sB cc (lst cc (bNs (S.1 0)) (bNs (S.1 1))) q i j < 1000000000 then (if sB cc (lst cc (bNs (S.1 0)) (bNs (S.1 1))) q i j < (f2 (fun k => sB cc (lst cc (bNs (S.1 0)) (bNs (S.1 1))) k i j) (fun k => bB cc (lst cc (bNs (S.1 0)) (bNs (S.1 1))) (nxt cc (bNs (S.1 0)) (bNs (S.1 1))) k i j) (enT (bNs (S.1 0)) (bNs (S.1 1)) i j) q).1 then (sB cc (lst cc (bNs (S.1 0)) (bNs (S.1 1))) q i j, if (f2 (fun k => sB cc (lst cc (bNs (S.1 0)) (bNs (S.1 1))) k i j) (fun k => bB cc (lst cc (bNs (S.1 0)) (bNs (S.1 1))) (nxt cc (bNs (S.1 0)) (bNs (S.1 1))) k i j) (enT (bNs (S.1 0)) (bNs (S.1 1)) i j) q).1 < bB cc (lst cc (bNs (S.1 0)) (bNs (S.1 1))) (nxt cc (bNs (S.1 0)) (bNs (S.1 1))) q i j then (f2 (fun k => sB cc (lst cc (bNs (S.1 0)) (bNs (S.1 1))) k i j) (fun k => bB cc (lst cc (bNs (S.1 0)) (bNs (S.1 1))) (nxt cc (bNs (S.1 0)) (bNs (S.1 1))) k i j) (enT (bNs (S.1 0)) (bNs (S.1 1)) i j) q).1 else bB cc (lst cc (bNs (S.1 0)) (bNs (S.1 1))) (nxt cc (bNs (S.1 0)) (bNs (S.1 1))) q i j) else ((f2 (fun k => sB cc (lst cc (bNs (S.1 0)) (bNs (S.1 1))) k i j) (fun k => bB cc (lst cc (bNs (S.1 0)) (bNs (S.1 1))) (nxt cc (bNs (S.1 0)) (bNs (S.1 1))) k i j) (enT (bNs (S.1 0)) (bNs (S.1 1)) i j) q).1, if sB cc (lst cc (bNs (S.1 0)) (bNs (S.1 1))) q i j < (f2 (fun k => sB cc (lst cc (bNs (S.1 0)) (bNs (S.1 1))) k i j) (fun k => bB cc (lst cc (bNs (S.1 0)) (bNs (S.1 1))) (nxt cc (bNs (S.1 0)) (bNs (S.1 1))) k i j) (enT (bNs (S.1 0)) (bNs (S.1 1)) i j) q).2 then sB cc (lst cc (bNs (S.1 0)) (bNs (S.1 1))) q i j else (f2 (fun k => sB cc (lst cc (bNs (S.1 0)) (bNs (S.1 1))) k i j) (fun k => bB cc (lst cc (bNs (S.1 0)) (bNs (S.1 1))) (nxt cc (bNs (S.1 0)) (bNs (S.1 1))) k i j) (enT (bNs (S.1 0)) (bNs (S.1 1)) i j) q).2)) else f2 (fun k => sB cc (lst cc (bNs (S.1 0)) (bNs (S.1 1))) k i j) (fun k => bB cc (lst cc (bNs (S.1 0)) (bNs (S.1 1))) (nxt cc (bNs (S.1 0)) (bNs (S.1 1))) k i j) (enT (bNs (S.1 0)) (bNs (S.1 1)) i j) q := rfl
      have bd := f2_bd (a := fun k => sB cc (lst cc (bNs (S.1 0)) (bNs (S.1 1))) k i j) (b := fun k => bB cc (lst cc (bNs (S.1 0)) (bNs (S.1 1))) (nxt cc (bNs (S.1 0)) (bNs (S.1 1))) k i j) (n := q) (en_or (bNs (S.1 0)) (bNs (S.1 1)) i j) (fun k => by have := sB_bd o' h0 h1 (k := k) (i := i) (j := j); (try dsimp only); omega) (fun k => bB_bd o' h0 h1 k i j)
      have sb := sB_bd o' h0 h1 (k := q) (i := i) (j := j)
      have bb := bB_bd o' h0 h1 q i j
      have hcq := hc q i j (by omega) hi hj
      rw [ef] at nx
      generalize f2 (fun k => sB cc (lst cc (bNs (S.1 0)) (bNs (S.1 1))) k i j) (fun k => bB cc (lst cc (bNs (S.1 0)) (bNs (S.1 1))) (nxt cc (bNs (S.1 0)) (bNs (S.1 1))) k i j) (enT (bNs (S.1 0)) (bNs (S.1 1)) i j) q = F at nx bd
      have skip : cc q i j = 1000000000 → AW w mX10_work 0 0 (rV Q) 0 0 60 [some (.ref 347), some (.int (nI i)), some (.int (nI j)), some (.int (iI F.1)), some (.int (iI F.2)), some (.int (nI (q + 1))), none, none, none, none, none] [] h' := fun z => by
        rw [if_neg (by rw [sB_far z]; omega)] at nx
        exact nx
      have no : cc q i j = 1000000000 → AW w mX10_work 0 0 (rV Q) 0 0 108 [some (.ref 347), some (.int (nI i)), some (.int (nI j)), some (.int (iI F.1)), some (.int (iI F.2)), some (.int (nI q)), none, none, none, none, none] [.int 0] h' := fun z => by
        refine sX10_work_108 ⟨fun _ => sX10_work_137 ⟨fun _ => ?_, fun y => absurd rfl y⟩, fun y => absurd rfl y⟩
        rw [nI_1]; exact skip z
      have yes : mayP S q i j → cc q i j = prcN S q i j → AW w mX10_work 0 0 (rV Q) 0 0 108 [some (.ref 347), some (.int (nI i)), some (.int (nI j)), some (.int (iI F.1)), some (.int (iI F.2)), some (.int (nI q)), none, none, none, none, none] [.int 1] h' := fun m z => by
        have pb := prcN_bd S q i j
        have l2 := lS_le q
        have r2 := rS_le q
        have lr := lrS q
        have m1 := m.1
        have m2 := m.2.1
        have t1 := dn (i + lS q) (j + rS q) m1 m2 (by omega)
        have lb := lst_bd o' h0 h1 m1 m2
        have nb := nxt_bd o' h0 h1 m1 m2
        refine sX10_work_108 ⟨fun y => absurd y (by decide), fun _ => sp_leftOf (by omega) (sp_rightOf (by omega) ?_)⟩
        rw [nI_add, m_21, nI_add, nI_add, show 21 * (i + lS q) + j + rS q = 21 * (i + lS q) + (j + rS q) by omega]
        refine sX10_work_137 ⟨fun y => absurd y (by decide), fun _ => ?_⟩
        rw [s_347 c', r_347_37 c', s_371 c', cl_nI (by omega), t1.1, nI_1]
        refine ⟨rfl, by first | decide | exact vp_nI (j := 0) (by decide) (by decide) | exact vp_nI (j := 1) (by decide) (by decide), rfl, vp_nI (by omega) (by decide), fun y => ?_, fun y => ?_⟩
        · rw [iI_leF (by omega) (by omega)] at y
          have : sB cc (lst cc (bNs (S.1 0)) (bNs (S.1 1))) q i j = 1000000000 := by unfold sB; rw [if_pos (by omega), if_neg (by omega)]
          rw [if_neg (by omega)] at nx
          exact nx
        · rw [iI_leF (by omega) (by omega)] at y
          have es : sB cc (lst cc (bNs (S.1 0)) (bNs (S.1 1))) q i j = prcN S q i j + lst cc (bNs (S.1 0)) (bNs (S.1 1)) (i + lS q) (j + rS q) := by unfold sB; rw [if_pos (by omega), if_pos (by omega), z]
          rw [if_pos (by omega)] at nx
          have k208 : ∀ v, v = bB cc (lst cc (bNs (S.1 0)) (bNs (S.1 1))) (nxt cc (bNs (S.1 0)) (bNs (S.1 1))) q i j → AW w mX10_work 0 0 (rV Q) 0 0 208 [some (.ref 347), some (.int (nI i)), some (.int (nI j)), some (.int (iI F.1)), some (.int (iI F.2)), some (.int (nI q)), none, none, none, some (.int (iI (sB cc (lst cc (bNs (S.1 0)) (bNs (S.1 1))) q i j))), none] [.int (iI v)] h' := by
            intro v hv
            rw [← hv] at nx bb
            refine sX10_work_208 ?_
            simp only [iI_le bd.1.1 bd.1.2 (show -1000000 ≤ sB cc (lst cc (bNs (S.1 0)) (bNs (S.1 1))) q i j by omega) (by omega), iI_le bd.2.1 bd.2.2 (show -1000000 ≤ sB cc (lst cc (bNs (S.1 0)) (bNs (S.1 1))) q i j by omega) (by omega), iI_le (show -1000000 ≤ v by omega) (by omega) bd.1.1 bd.1.2]
            have le2 := iI_le bd.1.1 bd.1.2 (show -1000000 ≤ sB cc (lst cc (bNs (S.1 0)) (bNs (S.1 1))) q i j by omega) (by omega)
            refine ⟨fun z1 => ⟨fun z2 => ?_, fun z2 => ?_⟩, fun z1 => ⟨fun z2 => ?_, fun z2 => ?_⟩⟩
            · rw [if_neg (by omega), if_neg (by omega)] at nx
              refine sX10_work_245 ⟨fun _ => ?_, fun z3 => absurd (le2.mpr z1) z3⟩
              rw [nI_1]; exact nx
            · rw [if_neg (by omega), if_pos (by omega)] at nx
              refine sX10_work_245 ⟨fun _ => ?_, fun z3 => absurd (le2.mpr z1) z3⟩
              rw [nI_1]; exact nx
            · rw [if_pos (by omega), if_neg (by omega)] at nx
              refine sX10_work_245 ⟨fun z3 => absurd (le2.mp z3) z1, fun _ => ?_⟩
              rw [nI_1]; exact nx
            · rw [if_pos (by omega), if_pos (by omega)] at nx
              refine sX10_work_245 ⟨fun z3 => absurd (le2.mp z3) z1, fun _ => ?_⟩
              rw [nI_1]; exact nx
          refine sp_priceOf c' T'.1 M' (by omega) m1 m2 ?_
          rw [s_347 c', r_347_37 c', s_371 c', r_347_38 c', s_372 c', t1.1, t1.2, iI_add, iI_add, ← es]
          refine ⟨rfl, by first | decide | exact vp_nI (j := 0) (by decide) (by decide) | exact vp_nI (j := 1) (by decide) (by decide), rfl, vp_nI (by omega) (by decide), by first | decide | exact vp_nI (j := 0) (by decide) (by decide) | exact vp_nI (j := 1) (by decide) (by decide), rfl, vp_nI (by omega) (by decide), fun x => ?_, fun x => ?_⟩
          · rw [iI_leF (by omega) (by omega)] at x
            refine k208 1000000000 ?_
            unfold bB
            rw [if_pos (by omega), if_neg (by omega)]
          · rw [iI_leF (by omega) (by omega)] at x
            refine k208 _ ?_
            unfold bB
            rw [if_pos (by omega), if_pos (by omega), z]
      refine sX10_work_60 ⟨fun z => ?_, fun _ => ⟨by rw [s_347 c'], sp_may c' T' (by omega) hi hj (fun m => ⟨fun z => absurd z (by decide), fun _ => ?_⟩) (fun m => ⟨fun _ => no ?_, fun z => absurd rfl z⟩)⟩⟩
      · rw [ti_le, t_7, nI_toInt (by omega)] at z; omega
      · rw [s_347 c', o39, o40, o41]
        refine ⟨rfl, fun z1 => yes m ?_, fun z1 => ⟨fun z2 => yes m ?_, fun z2 => ⟨fun z3 => no (hcq.1 ⟨z1, z2, z3⟩), fun z3 => yes m ?_⟩⟩⟩
        · rw [hcq.2 (fun e => z1 e.1), cst_y (by omega) m]
        · rw [hcq.2 (fun e => z2 e.2.1), cst_y (by omega) m]
        · rw [hcq.2 (fun e => z3 e.2.2), cst_y (by omega) m]
      · rcases Classical.em (nI q = hI h 347 39 ∧ nI i = hI h 347 40 ∧ nI j = hI h 347 41) with z | z
        · exact hcq.1 z
        · rw [hcq.2 z, cst_n m]
  have jin : ∀ (i : Nat), i ≤ bNs (S.1 0) → (∀ h', Cg wkD h h' → msM h' S → (∀ i' j', i' ≤ bNs (S.1 0) → j' ≤ bNs (S.1 1) → i ≤ i' → hI h' 371 (21 * i' + j') = iI (lst cc (bNs (S.1 0)) (bNs (S.1 1)) i' j') ∧ hI h' 372 (21 * i' + j') = iI (nxt cc (bNs (S.1 0)) (bNs (S.1 1)) i' j')) → AW w mX10_work 0 0 (rV Q) 0 0 11 [some (.ref 347), some (.int (iI ((i : Int) - 1))), none, none, none, none, none, none, none, none, none] [] h') →
      ∀ (s : Nat) (h' : Hp), s ≤ bNs (S.1 1) + 1 → Cg wkD h h' → msM h' S → (∀ i' j', i' ≤ bNs (S.1 0) → j' ≤ bNs (S.1 1) → (i < i' ∨ (i' = i ∧ s ≤ j')) → hI h' 371 (21 * i' + j') = iI (lst cc (bNs (S.1 0)) (bNs (S.1 1)) i' j') ∧ hI h' 372 (21 * i' + j') = iI (nxt cc (bNs (S.1 0)) (bNs (S.1 1)) i' j')) → AW w mX10_work 0 0 (rV Q) 0 0 22 [some (.ref 347), some (.int (nI i)), some (.int (iI ((s : Int) - 1))), none, none, none, none, none, none, none, none] [] h' := by
    intro i hi Kc s
    induction s with
    | zero =>
      intro h' hs g M' dn
      refine sX10_work_22 ?_
      have KK := Kc h' g M' (fun i' j' a2 a3 a4 => dn i' j' a2 a3 (by omega))
      rw [iI_m1]
      exact ⟨fun _ => KK, fun z => absurd (by decide) z⟩
    | succ s ih =>
      intro h' hs g M' dn
      have c' : Lay L h' := g.lay c (fun id j q => by unfold wkD at q; omega)
      have T' : lyM h' S := T.cg g (fun id j q => by unfold wkD at q; omega)
      have N : AW w mX10_work 0 0 (rV Q) 0 0 22 [some (.ref 347), some (.int (nI i)), some (.int (iI ((s : Int) - 1))), none, none, none, none, none, none, none, none] [] (sI (sI h' 371 (21 * i + s) (iI (lst cc (bNs (S.1 0)) (bNs (S.1 1)) i s))) 372 (21 * i + s) (iI (nxt cc (bNs (S.1 0)) (bNs (S.1 1)) i s))) := by
        have gg : Cg (fun id j => id = 371 ∨ id = 372) h' (sI (sI h' 371 (21 * i + s) (iI (lst cc (bNs (S.1 0)) (bNs (S.1 1)) i s))) 372 (21 * i + s) (iI (nxt cc (bNs (S.1 0)) (bNs (S.1 1)) i s))) := ((Cg.rfl' h').sI (D := fun id j => id = 371 ∨ id = 372) (Or.inl rfl)).sI (Or.inr rfl)
        refine ih _ (by omega) ((g.sI (by unfold wkD; omega)).sI (by unfold wkD; omega)) (M'.cg gg (fun id j q => by omega)) (fun i' j' a2 a3 a4 => ?_)
        by_cases q : i' = i ∧ j' = s
        · obtain ⟨rfl, rfl⟩ := q
          rw [hI_ne (Or.inl (by decide)), hI_eq, hI_eq]; exact ⟨rfl, rfl⟩
        · rw [hI_ne (Or.inl (by decide)), hI_ne (Or.inr (by omega)), hI_ne (Or.inr (by omega)), hI_ne (Or.inl (by decide))]; exact dn i' j' a2 a3 (by omega)
      have go := kin i s hi (by omega) h' g M' (fun i' j' a2 a3 a4 => dn i' j' a2 a3 (by omega)) N 7 0 (by omega)
      have g0 : hI h' 351 0 = nI (bNs (S.1 0)) := T'.1.1.2.1
      have g1 : hI h' 351 1 = nI (bNs (S.1 1)) := T'.1.2.2.1
      have e00 : f2 (fun k => sB cc (lst cc (bNs (S.1 0)) (bNs (S.1 1))) k i s) (fun k => bB cc (lst cc (bNs (S.1 0)) (bNs (S.1 1))) (nxt cc (bNs (S.1 0)) (bNs (S.1 1))) k i s) (enT (bNs (S.1 0)) (bNs (S.1 1)) i s) 0 = (enT (bNs (S.1 0)) (bNs (S.1 1)) i s, 1000000000) := rfl
      rw [e00] at go
      refine sX10_work_22 ?_
      rw [iI_p1, s_347 c', r_347_5 c', s_351 c', e0c, e1c, g0, g1]
      refine ⟨fun z => ?_, fun _ => ⟨rfl, by first | decide | exact vp_nI (j := 0) (by decide) (by decide) | exact vp_nI (j := 1) (by decide) (by decide), rfl, by first | decide | exact vp_nI (j := 0) (by decide) (by decide) | exact vp_nI (j := 1) (by decide) (by decide), fun z => ?_, fun z => ⟨by first | decide | exact vp_nI (j := 0) (by decide) (by decide) | exact vp_nI (j := 1) (by decide) (by decide), fun z2 => ?_, fun z2 => ?_⟩⟩⟩
      · rw [ti_lt, t_0, nI_toInt (by omega)] at z; omega
      · rw [nI_inj (by omega) (by omega)] at z
        rw [show enT (bNs (S.1 0)) (bNs (S.1 1)) i s = 1000000000 from if_neg (fun q => z q.1)] at go
        exact go
      · rw [nI_inj (by omega) (by omega)] at z2
        rw [show enT (bNs (S.1 0)) (bNs (S.1 1)) i s = 1000000000 from if_neg (fun q => z2 q.2)] at go
        exact go
      · rw [nI_inj (by omega) (by omega)] at z z2
        rw [show enT (bNs (S.1 0)) (bNs (S.1 1)) i s = 0 from if_pos ⟨z, z2⟩] at go
        exact go
  have out : ∀ (r : Nat) (h' : Hp), r ≤ bNs (S.1 0) + 1 → Cg wkD h h' → msM h' S → (∀ i' j', i' ≤ bNs (S.1 0) → j' ≤ bNs (S.1 1) → r ≤ i' → hI h' 371 (21 * i' + j') = iI (lst cc (bNs (S.1 0)) (bNs (S.1 1)) i' j') ∧ hI h' 372 (21 * i' + j') = iI (nxt cc (bNs (S.1 0)) (bNs (S.1 1)) i' j')) → AW w mX10_work 0 0 (rV Q) 0 0 11 [some (.ref 347), some (.int (iI ((r : Int) - 1))), none, none, none, none, none, none, none, none, none] [] h' := by
    intro r
    induction r with
    | zero =>
      intro h' hr g M' dn
      exact sX10_work_11 ⟨fun _ => K h' g M' (fun i' j' a2 a3 => (dn i' j' a2 a3 (by omega)).1) (fun i' j' a2 a3 => (dn i' j' a2 a3 (by omega)).2), fun z => absurd (by decide) z⟩
    | succ r ih =>
      intro h' hr g M' dn
      have c' : Lay L h' := g.lay c (fun id j q => by unfold wkD at q; omega)
      have T' : lyM h' S := T.cg g (fun id j q => by unfold wkD at q; omega)
      have g1 : hI h' 351 1 = nI (bNs (S.1 1)) := T'.1.2.2.1
      refine sX10_work_11 ?_
      rw [iI_p1, s_347 c', r_347_5 c', s_351 c', e1c, g1]
      refine ⟨fun z => ?_, fun _ => ⟨rfl, by first | decide | exact vp_nI (j := 0) (by decide) (by decide) | exact vp_nI (j := 1) (by decide) (by decide), rfl, by first | decide | exact vp_nI (j := 0) (by decide) (by decide) | exact vp_nI (j := 1) (by decide) (by decide), ?_⟩⟩
      · rw [ti_lt, t_0, nI_toInt (by omega)] at z; omega
      · have := jin r (by omega) (fun h2 g2 M2 d2 => ih h2 (by omega) g2 M2 d2) (bNs (S.1 1) + 1) h' (Nat.le_refl _) g M' (fun i' j' a2 a3 a4 => dn i' j' a2 a3 (by omega))
        rw [iI_p1] at this
        exact this
  have c' : Lay L hp := gp'.lay c (fun id j q => by unfold wkD at q; omega)
  have T' : lyM hp S := T.cg gp' (fun id j q => by unfold wkD at q; omega)
  have g0 : hI hp 351 0 = nI (bNs (S.1 0)) := T'.1.1.2.1
  have st := out (bNs (S.1 0) + 1) hp (Nat.le_refl _) gp' Mp (fun i' j' a2 a3 a4 => by omega)
  rw [iI_p1] at st
  rw [s_347 c', r_347_5 c', s_351 c', e0c, g0]
  exact ⟨rfl, by first | decide | exact vp_nI (j := 0) (by decide) (by decide) | exact vp_nI (j := 1) (by decide) (by decide), rfl, by first | decide | exact vp_nI (j := 0) (by decide) (by decide) | exact vp_nI (j := 1) (by decide) (by decide), st⟩
end MC
