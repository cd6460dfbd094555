/-! ===== the tables of the class ===== -/
noncomputable abbrev LSs (S : Ly) (i j : Nat) : Int := lst (cst S) (bNs (S.1 0)) (bNs (S.1 1)) i j
noncomputable abbrev JN (S : Ly) : Nat := jN (cst S) (bNs (S.1 0)) (bNs (S.1 1))
noncomputable abbrev JK (S : Ly) (m : Nat) : Nat := jK (cst S) (bNs (S.1 0)) (bNs (S.1 1)) m
noncomputable abbrev JL (S : Ly) (m : Nat) : Nat := jL (cst S) (bNs (S.1 0)) (bNs (S.1 1)) m
noncomputable abbrev JR (S : Ly) (m : Nat) : Nat := jR (cst S) (bNs (S.1 0)) (bNs (S.1 1)) m
def csC (h : Hp) (S : Ly) : Prop := ∀ k i j, k < 7 → i ≤ bNs (S.1 0) → j ≤ bNs (S.1 1) → hI h 316 (k * 441 + i * 21 + j) = iI (cst S k i j)
def lsC (h : Hp) (a : Nat) (c : Nat → Nat → Nat → Int) (n0 n1 : Nat) : Prop := ∀ i j, i ≤ n0 → j ≤ n1 → hI h a (i * 21 + j) = iI (lst c n0 n1 i j)
def jsC (h : Hp) (S : Ly) : Prop := ∀ m, m < JN S → hI h 319 m = nI (JK S m) ∧ hI h 320 m = nI (JL S m) ∧ hI h 321 m = nI (JR S m) ∧ hI h 322 m = iI (cst S (JK S m) (JL S m) (JR S m))
/-- all that layAnew lays -/
def WC (h : Hp) (S : Ly) : Prop := msC h S ∧ csC h S ∧ lsC h 317 (cst S) (bNs (S.1 0)) (bNs (S.1 1)) ∧ hI h 311 11 = b01 (decide (LSs S 0 0 < 1000000000)) ∧ hI h 311 12 = nI (JN S) ∧ jsC h S
theorem r_441 (j : Nat) : nI j * 441 = nI (j * 441) := by rw [show (441 : Int32) = nI 441 from rfl, pk_mul]
theorem r_21 (j : Nat) : nI j * 21 = nI (j * 21) := by rw [show (21 : Int32) = nI 21 from rfl, pk_mul]
theorem iI_lt {x y : Int} (h1 : -1000000 ≤ x) (h2 : x ≤ 1000000000) (h3 : -1000000 ≤ y) (h4 : y ≤ 1000000000) : iI x < iI y ↔ x < y := by rw [ti_lt, iI_toInt (by omega) (by omega), iI_toInt (by omega) (by omega)]
theorem iI_eq {x y : Int} (h1 : -1000000 ≤ x) (h2 : x ≤ 1000000000) (h3 : -1000000 ≤ y) (h4 : y ≤ 1000000000) : iI x = iI y ↔ x = y := by rw [ti_eq, iI_toInt (by omega) (by omega), iI_toInt (by omega) (by omega)]
theorem iI_F : iI 1000000000 = 1000000000 := rfl
theorem iI_ltF {x : Int} (h1 : -1000000 ≤ x) (h2 : x ≤ 1000000000) : iI x < 1000000000 ↔ x < 1000000000 := by rw [← iI_F, iI_lt h1 h2 (by omega) (by omega)]
theorem iI_leF {x : Int} (h1 : -1000000 ≤ x) (h2 : x ≤ 1000000000) : 1000000000 ≤ iI x ↔ 1000000000 ≤ x := by rw [← iI_F, ti_le, iI_toInt (by omega) (by omega), iI_toInt (by omega) (by omega)]
theorem iI_m1 (r : Nat) : nI r + (-1) = iI ((r : Int) - 1) := by rw [iI_n, show (-1 : Int32) = iI (-1) from rfl, iI_add]; rfl
theorem iI_p1 (r : Nat) : iI (((r + 1 : Nat) : Int) - 1) = nI r := by rw [iI_n]; congr 1; omega
section WD
variable {w : Wd} {L : Nat} {h : Hp} {o : Nat → Nat} {S : Ly}
theorem sp_placeOf {Q : Int32 → Hp → Prop} {i j : Nat} (K : Q (nI (i * 21 + j)) h) : AC w mX7_placeOf 0 0 (rI Q) [.int (nI i), .int (nI j)] h := by
  refine eX7_placeOf (sX7_placeOf_0 ?_)
  rw [r_21, nI_add]; exact K
theorem sp_costIndex {Q : Int32 → Hp → Prop} {k i j : Nat} (K : Q (nI (k * 441 + i * 21 + j)) h) : AC w mX7_costIndex 0 0 (rI Q) [.int (nI k), .int (nI i), .int (nI j)] h := by
  refine eX7_costIndex (sX7_costIndex_0 ?_)
  rw [r_21, r_441, nI_add, nI_add]; exact K
theorem sp_fillCosts {Q : Hp → Prop} (c : Lay L h) (T : lyC h o S) (M : msC h S) (K : ∀ h', Cg (fun id _ => id = 316) h h' → csC h' S → Q h') : AC w mX7_fillCosts 0 0 (rV Q) [.ref 311] h := by
  have n0 := T.1.2.1.1.1
  have n1 := T.1.2.2.1.1
  have hb0 := T.1.1.2.1
  have hb1 := T.1.1.2.2.1
  have b0 := isBk_223 hb0
  have b1 := isBk_223 hb1
  have inn : ∀ (k i : Nat), k < 7 → i ≤ bNs (S.1 0) → (∀ h', Cg (fun id _ => id = 316) h h' → (∀ k' i' j', k' < 7 → i' ≤ bNs (S.1 0) → j' ≤ bNs (S.1 1) → (k' < k ∨ (k' = k ∧ i' < i + 1)) → hI h' 316 (k' * 441 + i' * 21 + j') = iI (cst S k' i' j')) → AW w mX7_fillCosts 0 0 (rV Q) 0 0 10 [some (.ref 311), some (.int (nI k)), some (.int (nI (i + 1))), none] [] h') →
      ∀ (d j : Nat) (h' : Hp), j + d = bNs (S.1 1) + 1 → Cg (fun id _ => id = 316) h h' → (∀ k' i' j', k' < 7 → i' ≤ bNs (S.1 0) → j' ≤ bNs (S.1 1) → (k' < k ∨ (k' = k ∧ (i' < i ∨ (i' = i ∧ j' < j)))) → hI h' 316 (k' * 441 + i' * 21 + j') = iI (cst S k' i' j')) → AW w mX7_fillCosts 0 0 (rV Q) 0 0 25 [some (.ref 311), some (.int (nI k)), some (.int (nI i)), some (.int (nI j))] [] h' := by
    intro k i hk hi Kc d
    induction d with
    | zero =>
      intro j h' hj g dn
      have c' : Lay L h' := g.lay c (fun id j q => by omega)
      have T' : lyC h' o S := T.cg g (fun id j q => by omega)
      have e1 : hR h' 19 1 = o 1 := T'.1.1.1.2
      refine sX7_fillCosts_25 ?_
      have KK := Kc h' g (fun k' i' j' a1 a2 a3 a4 => dn k' i' j' a1 a2 a3 (by omega))
      simp (disch := omega) only [s_311 c', r_311_0 c', s_19 c', e1c, e1, sb_this c' hb1, T'.1.2.2.2.1, ti_lt, nI_toInt, nI_1]
      repeat' (first | exact trivial | (with_reducible refine And.intro ?_ ?_) | exact vp_nI (by omega) (by omega) | exact vp_nI (j := 0) (by decide) (by decide) | exact vp_nI (j := 1) (by decide) (by decide) | decide | (exact KK) | (with_reducible intro z1; first | exact absurd trivial z1 | exact z1.elim) | (with_reducible intro z1) | omega)
    | succ d ih =>
      intro j h' hj g dn
      have c' : Lay L h' := g.lay c (fun id j q => by omega)
      have T' : lyC h' o S := T.cg g (fun id j q => by omega)
      have M' : msC h' S := M.cg g (fun id j q => by omega)
      have e1 : hR h' 19 1 = o 1 := T'.1.1.1.2
      refine sX7_fillCosts_25 ?_
      have nx : ∀ v, v = iI (cst S k i j) → AW w mX7_fillCosts 0 0 (rV Q) 0 0 25 [some (.ref 311), some (.int (nI k)), some (.int (nI i)), some (.int (nI (j + 1)))] [] (sI h' 316 (k * 441 + i * 21 + j) v) := fun v hv => ih (j + 1) _ (by omega) (g.sI rfl) (fun k' i' j' a1 a2 a3 a4 => by
        by_cases q : k' = k ∧ i' = i ∧ j' = j
        · obtain ⟨rfl, rfl, rfl⟩ := q; rw [hI_eq]; exact hv
        · rw [hI_ne (Or.inr (by omega))]; exact dn k' i' j' a1 a2 a3 (by omega))
      simp (disch := omega) only [s_311 c', r_311_0 c', s_19 c', e1c, e1, sb_this c' hb1, r_311_8 c']
      refine ⟨trivial, by first | decide | exact vp_nI (j := 0) (by decide) (by decide) | exact vp_nI (j := 1) (by decide) (by decide), trivial, by first | decide | exact vp_nI (j := 0) (by decide) (by decide) | exact vp_nI (j := 1) (by decide) (by decide), by omega, trivial, fun z => ?_, fun _ => ⟨by first | decide | exact vp_nI (j := 0) (by decide) (by decide) | exact vp_nI (j := 1) (by decide) (by decide), sp_costIndex ⟨by rw [s_311 c'], sp_mayStand c' T' hk hi (by omega) (fun m => ⟨fun z => absurd z (by decide), fun _ => ⟨by rw [s_311 c'], sp_priceAt c' T'.1 M' hk m.1 m.2.1 ?_⟩⟩) (fun m => ⟨fun _ => ?_, fun z => absurd rfl z⟩)⟩⟩⟩
      · rw [T'.1.2.2.2.1, ti_lt, nI_toInt (by omega), nI_toInt (by omega)] at z; omega
      · have N := nx (iI (prcN S k i j)) (by rw [cst_y hk m])
        simp (disch := omega) only [s_316 c', cl_nI, nI_1, forall_eq]
        exact ⟨trivial, vp_nI (by omega) (by decide), N⟩
      · have N := nx 1000000000 (by rw [cst_n m]; rfl)
        simp (disch := omega) only [s_316 c', cl_nI, nI_1, forall_eq]
        exact ⟨trivial, vp_nI (by omega) (by decide), N⟩
  have mid : ∀ (k : Nat), k < 7 → (∀ h', Cg (fun id _ => id = 316) h h' → (∀ k' i' j', k' < 7 → i' ≤ bNs (S.1 0) → j' ≤ bNs (S.1 1) → k' < k + 1 → hI h' 316 (k' * 441 + i' * 21 + j') = iI (cst S k' i' j')) → AW w mX7_fillCosts 0 0 (rV Q) 0 0 2 [some (.ref 311), some (.int (nI (k + 1))), none, none] [] h') →
      ∀ (d i : Nat) (h' : Hp), i + d = bNs (S.1 0) + 1 → Cg (fun id _ => id = 316) h h' → (∀ k' i' j', k' < 7 → i' ≤ bNs (S.1 0) → j' ≤ bNs (S.1 1) → (k' < k ∨ (k' = k ∧ i' < i)) → hI h' 316 (k' * 441 + i' * 21 + j') = iI (cst S k' i' j')) → AW w mX7_fillCosts 0 0 (rV Q) 0 0 10 [some (.ref 311), some (.int (nI k)), some (.int (nI i)), none] [] h' := by
    intro k hk Kc d
    induction d with
    | zero =>
      intro i h' hi g dn
      have c' : Lay L h' := g.lay c (fun id j q => by omega)
      have T' : lyC h' o S := T.cg g (fun id j q => by omega)
      have e0 : hR h' 19 0 = o 0 := T'.1.1.1.1
      refine sX7_fillCosts_10 ?_
      have KK := Kc h' g (fun k' i' j' a1 a2 a3 a4 => dn k' i' j' a1 a2 a3 (by omega))
      simp (disch := omega) only [s_311 c', r_311_0 c', s_19 c', e0c, e0, sb_this c' hb0, T'.1.2.1.2.1, ti_lt, nI_toInt, nI_1]
      repeat' (first | exact trivial | (with_reducible refine And.intro ?_ ?_) | exact vp_nI (by omega) (by omega) | exact vp_nI (j := 0) (by decide) (by decide) | exact vp_nI (j := 1) (by decide) (by decide) | decide | (exact KK) | (with_reducible intro z1; first | exact absurd trivial z1 | exact z1.elim) | (with_reducible intro z1) | omega)
    | succ d ih =>
      intro i h' hi g dn
      have c' : Lay L h' := g.lay c (fun id j q => by omega)
      have T' : lyC h' o S := T.cg g (fun id j q => by omega)
      have e0 : hR h' 19 0 = o 0 := T'.1.1.1.1
      refine sX7_fillCosts_10 ?_
      have KK := inn k i hk (by omega) (fun h2 g2 d2 => ih (i + 1) h2 (by omega) g2 d2) (bNs (S.1 1) + 1) 0 h' (by omega) g (fun k' i' j' a1 a2 a3 a4 => dn k' i' j' a1 a2 a3 (by omega))
      simp (disch := omega) only [s_311 c', r_311_0 c', s_19 c', e0c, e0, sb_this c' hb0, T'.1.2.1.2.1, ti_lt, nI_toInt]
      repeat' (first | exact trivial | (with_reducible refine And.intro ?_ ?_) | exact vp_nI (by omega) (by omega) | exact vp_nI (j := 0) (by decide) (by decide) | exact vp_nI (j := 1) (by decide) (by decide) | decide | (exact KK) | (with_reducible intro z1; first | exact absurd trivial z1 | exact z1.elim) | (with_reducible intro z1) | omega)
  have out : ∀ (d k : Nat) (h' : Hp), k + d = 7 → Cg (fun id _ => id = 316) h h' → (∀ k' i' j', k' < 7 → i' ≤ bNs (S.1 0) → j' ≤ bNs (S.1 1) → k' < k → hI h' 316 (k' * 441 + i' * 21 + j') = iI (cst S k' i' j')) → AW w mX7_fillCosts 0 0 (rV Q) 0 0 2 [some (.ref 311), some (.int (nI k)), none, none] [] h' := by
    intro d
    induction d with
    | zero =>
      intro k h' hk g dn
      refine sX7_fillCosts_2 ?_
      have KK := K h' g (fun k' i' j' a1 a2 a3 => dn k' i' j' a1 a2 a3 (by omega))
      simp (disch := omega) only [ti_le, nI_toInt, t_7]
      repeat' (first | exact trivial | (with_reducible refine And.intro ?_ ?_) | exact vp_nI (by omega) (by omega) | exact vp_nI (j := 0) (by decide) (by decide) | exact vp_nI (j := 1) (by decide) (by decide) | decide | (exact KK) | (with_reducible intro z1; first | exact absurd trivial z1 | exact z1.elim) | (with_reducible intro z1) | omega)
    | succ d ih =>
      intro k h' hk g dn
      refine sX7_fillCosts_2 ?_
      have KK := mid k (by omega) (fun h2 g2 d2 => ih (k + 1) h2 (by omega) g2 d2) (bNs (S.1 0) + 1) 0 h' (by omega) g (fun k' i' j' a1 a2 a3 a4 => dn k' i' j' a1 a2 a3 (by omega))
      simp (disch := omega) only [ti_le, nI_toInt, t_7]
      repeat' (first | exact trivial | (with_reducible refine And.intro ?_ ?_) | exact vp_nI (by omega) (by omega) | exact vp_nI (j := 0) (by decide) (by decide) | exact vp_nI (j := 1) (by decide) (by decide) | decide | (exact KK) | (with_reducible intro z1; first | exact absurd trivial z1 | exact z1.elim) | (with_reducible intro z1) | omega)
  exact eX7_fillCosts (sX7_fillCosts_0 (out 7 0 h (by omega) (Cg.rfl' h) (fun k' i' j' a1 a2 a3 a4 => by omega)))
variable {cc : Nat → Nat → Nat → Int} {n0 n1 a1 : Nat}
theorem sp_sumBy {Q : Int32 → Hp → Prop} {k i j : Nat} {U : Nat → Nat → Int} (c : Lay L h) (o' : okC cc n0 n1) (h0 : n0 ≤ 20) (h1 : n1 ≤ 20) (ha : a1 = 317 ∨ a1 = 318) (hk : k < 7) (hi : i ≤ n0) (hj : j ≤ n1) (hc : hI h 316 (k * 441 + i * 21 + j) = iI (cc k i j)) (ht : cc k i j < 1000000000 → hI h a1 ((i + lS k) * 21 + (j + rS k)) = iI (U (i + lS k) (j + rS k))) (bd : ∀ i j, i ≤ n0 → j ≤ n1 → U i j = 1000000000 ∨ (-3600 ≤ U i j ∧ U i j ≤ 52000)) (K : Q (iI (sB cc U k i j)) h) : AC w mX7_sumBy 0 0 (rI Q) [.ref 311, .ref a1, .int (nI k), .int (nI i), .int (nI j)] h := by
  have sa : hs h a1 = (1, 441) := by rcases ha with e | e <;> subst e <;> first | exact s_317 c | exact s_318 c
  have l2 := lS_le k
  have r2 := rS_le k
  refine eX7_sumBy (sX7_sumBy_0 ?_)
  rw [s_311 c, r_311_8 c]
  refine ⟨rfl, by first | decide | exact vp_nI (j := 0) (by decide) (by decide) | exact vp_nI (j := 1) (by decide) (by decide), sp_costIndex ?_⟩
  simp (disch := omega) only [s_316 c, cl_nI, hc]
  rcases o' k i j with q | q
  · have e : sB cc U k i j = 1000000000 := sB_far q
    rw [e] at K
    rw [q]
    exact ⟨trivial, vp_nI (by omega) (by decide), fun z => absurd z (by decide), fun _ => K⟩
  · have ht' := ht (by omega)
    refine ⟨trivial, vp_nI (by omega) (by decide), fun _ => ?_, fun z => absurd ((iI_ltF (by omega) (by omega)).mpr (by omega)) z⟩
    rw [s_1 c, s_2 c, l_1 c hk, l_2 c hk, nI_add, nI_add]
    refine ⟨rfl, vp_nI (by omega) (by decide), rfl, vp_nI (by omega) (by decide), sp_placeOf ?_⟩
    rw [sa, cl_nI (by omega), ht']
    have hb := bd _ _ q.2.2.1 q.2.2.2
    refine ⟨rfl, vp_nI (by omega) (by decide), fun z => ?_, fun z => ?_⟩
    · rw [iI_ltF (by omega) (by omega)] at z
      refine Qto K ?_
      unfold sB
      rw [if_pos (by omega), if_pos z, iI_add]
    · rw [iI_ltF (by omega) (by omega)] at z
      refine Qto K ?_
      unfold sB
      rw [if_pos (by omega), if_neg z]
      rfl
theorem mn_bd {f : Nat → Int} {e : Int} {n : Nat} (he : e = 0 ∨ e = 1000000000) (hf : ∀ k, f k = 1000000000 ∨ (-3690 ≤ f k ∧ f k ≤ 53300)) : -1000000 ≤ mnK f e n ∧ mnK f e n ≤ 1000000000 := by
  rcases mnK_mem (f := f) (a := e) (n := n) with q | ⟨k, hk, q⟩
  · rw [q]; omega
  · rw [q]; have := hf k; omega
theorem en_or (n0 n1 i j : Nat) : enT n0 n1 i j = 0 ∨ enT n0 n1 i j = 1000000000 := by unfold enT; split <;> simp
theorem sp_fillLeast {Q : Hp → Prop} {bn : Int32} (c : Lay L h) (T : booksC h o S.1) (o' : okC cc n0 n1) (e0 : n0 = bNs (S.1 0)) (e1 : n1 = bNs (S.1 1)) (ha : a1 = 317 ∨ a1 = 318)
    (hc : ∀ k i j, k < 7 → i ≤ n0 → j ≤ n1 → (nI (k * 441 + i * 21 + j) = bn → cc k i j = 1000000000) ∧ (¬ nI (k * 441 + i * 21 + j) = bn → hI h 316 (k * 441 + i * 21 + j) = iI (cc k i j))) (K : ∀ h', Cg (fun id _ => id = a1) h h' → lsC h' a1 cc n0 n1 → Q h') : AC w mX7_fillLeast 0 0 (rV Q) [.ref 311, .ref a1, .int bn] h := by
  have h0 : n0 ≤ 20 := by rw [e0]; exact T.2.1.1.1
  have h1 : n1 ≤ 20 := by rw [e1]; exact T.2.2.1.1
  have hb0 := T.1.2.1
  have hb1 := T.1.2.2.1
  have b0 := isBk_223 hb0
  have b1 := isBk_223 hb1
  have sa : ∀ {h' : Hp}, Lay L h' → hs h' a1 = (1, 441) := fun c' => by rcases ha with e | e <;> subst e <;> first | exact s_317 c' | exact s_318 c'
  have kin : ∀ (i j : Nat), i ≤ n0 → j ≤ n1 → ∀ (h' : Hp), Cg (fun id _ => id = a1) h h' → (∀ i' j', i' ≤ n0 → j' ≤ n1 → (i < i' ∨ (i' = i ∧ j < j')) → hI h' a1 (i' * 21 + j') = iI (lst cc n0 n1 i' j')) → (AW w mX7_fillLeast 0 0 (rV Q) 0 0 33 [some (.ref 311), some (.ref a1), some (.int bn), some (.int (nI n0)), some (.int (nI n1)), some (.int (nI i)), some (.int (iI ((j : Int) - 1))), none, none] [] (sI h' a1 (i * 21 + j) (iI (lst cc n0 n1 i j)))) →
      ∀ (d q : Nat), q + d = 7 → AW w mX7_fillLeast 0 0 (rV Q) 0 0 62 [some (.ref 311), some (.ref a1), some (.int bn), some (.int (nI n0)), some (.int (nI n1)), some (.int (nI i)), some (.int (nI j)), some (.int (iI (mnK (fun k => sB cc (lst cc n0 n1) k i j) (enT n0 n1 i j) q))), some (.int (nI q))] [] h' := by
    intro i j hi hj h' g dn Kc d
    have c' : Lay L h' := g.lay c (fun id j q => by omega)
    induction d with
    | zero =>
      intro q hq
      have hq : q = 7 := by omega
      subst hq
      refine sX7_fillLeast_62 ?_
      have el := lst_eq o' h0 h1 hi hj
      rw [← el]
      refine ⟨fun _ => sp_placeOf ?_, fun z => absurd (by decide) z⟩
      rw [sa c', cl_nI (by omega), iI_m1]
      exact ⟨rfl, vp_nI (by omega) (by decide), fun h2 e => by rw [e]; exact Kc⟩
    | succ d ih =>
      intro q hq
      have hcq := hc q i j (by omega) hi hj
      have nx := ih (q + 1) (by omega)
      have em : mnK (fun k => sB cc (lst cc n0 n1) k i j) (enT n0 n1 i j) (q + 1) = if sB cc (lst cc n0 n1) q i j < mnK (fun k => sB cc (lst cc n0 n1) k i j) (enT n0 n1 i j) q then sB cc (lst cc n0 n1) q i j else mnK (fun k => sB cc (lst cc n0 n1) k i j) (enT n0 n1 i j) q := rfl
      rw [em] at nx
      have mb := mn_bd (f := fun k => sB cc (lst cc n0 n1) k i j) (n := q) (en_or n0 n1 i j) (fun k => sB_bd o' h0 h1)
      have sb := sB_bd o' h0 h1 (k := q) (i := i) (j := j)
      refine sX7_fillLeast_62 ?_
      rw [nI_1]
      refine ⟨fun z => ?_, fun _ => sp_costIndex ⟨fun z => ?_, fun z => ⟨by rw [s_311 c'], ?_⟩⟩⟩
      · rw [ti_le, t_7, nI_toInt (by omega)] at z; omega
      · have cf := hcq.1 z
        rw [sB_far cf, if_neg (by omega)] at nx
        exact nx
      · have cv := hcq.2 z
        have l2 := lrS q
        refine sp_sumBy c' o' h0 h1 ha (by omega) hi hj (by rw [g.i (by omega)]; exact cv) (fun lt => ?_) (fun i j hi hj => lst_bd o' h0 h1 hi hj) ?_
        · rcases o' q i j with y | y
          · omega
          · exact dn _ _ y.2.2.1 y.2.2.2 (by omega)
        · by_cases y : sB cc (lst cc n0 n1) q i j < mnK (fun k => sB cc (lst cc n0 n1) k i j) (enT n0 n1 i j) q
          · rw [if_pos y] at nx
            rw [if_pos ((iI_lt (by omega) (by omega) mb.1 mb.2).mpr y)]
            exact nx
          · rw [if_neg y] at nx
            rw [if_neg (fun x => y ((iI_lt (by omega) (by omega) mb.1 mb.2).mp x))]
            exact nx
  have jin : ∀ (i : Nat), i ≤ n0 → (∀ h', Cg (fun id _ => id = a1) h h' → (∀ i' j', i' ≤ n0 → j' ≤ n1 → i ≤ i' → hI h' a1 (i' * 21 + j') = iI (lst cc n0 n1 i' j')) → AW w mX7_fillLeast 0 0 (rV Q) 0 0 24 [some (.ref 311), some (.ref a1), some (.int bn), some (.int (nI n0)), some (.int (nI n1)), some (.int (iI ((i : Int) - 1))), none, none, none] [] h') →
      ∀ (s : Nat) (h' : Hp), s ≤ n1 + 1 → Cg (fun id _ => id = a1) h h' → (∀ i' j', i' ≤ n0 → j' ≤ n1 → (i < i' ∨ (i' = i ∧ s ≤ j')) → hI h' a1 (i' * 21 + j') = iI (lst cc n0 n1 i' j')) → AW w mX7_fillLeast 0 0 (rV Q) 0 0 33 [some (.ref 311), some (.ref a1), some (.int bn), some (.int (nI n0)), some (.int (nI n1)), some (.int (nI i)), some (.int (iI ((s : Int) - 1))), none, none] [] h' := by
    intro i hi Kc s
    induction s with
    | zero =>
      intro h' hs g dn
      refine sX7_fillLeast_33 ?_
      have KK := Kc h' g (fun i' j' a2 a3 a4 => dn i' j' a2 a3 (by omega))
      rw [iI_m1]
      refine ⟨fun _ => KK, fun z => absurd (by decide) z⟩
    | succ s ih =>
      intro h' hs g dn
      have N : AW w mX7_fillLeast 0 0 (rV Q) 0 0 33 [some (.ref 311), some (.ref a1), some (.int bn), some (.int (nI n0)), some (.int (nI n1)), some (.int (nI i)), some (.int (iI ((s : Int) - 1))), none, none] [] (sI h' a1 (i * 21 + s) (iI (lst cc n0 n1 i s))) := ih _ (by omega) (g.sI rfl) (fun i' j' a2 a3 a4 => by
        by_cases q : i' = i ∧ j' = s
        · obtain ⟨rfl, rfl⟩ := q; rw [hI_eq]
        · rw [hI_ne (Or.inr (by omega))]; exact dn i' j' a2 a3 (by omega))
      have go := kin i s hi (by omega) h' g (fun i' j' a2 a3 a4 => dn i' j' a2 a3 (by omega)) N 7 0 (by omega)
      have e00 : mnK (fun k => sB cc (lst cc n0 n1) k i s) (enT n0 n1 i s) 0 = enT n0 n1 i s := rfl
      rw [e00] at go
      refine sX7_fillLeast_33 ?_
      rw [iI_p1]
      refine ⟨fun z => ?_, fun _ => ⟨fun z => ?_, fun z => ⟨fun z2 => ?_, fun z2 => ?_⟩⟩⟩
      · rw [ti_lt, t_0, nI_toInt (by omega)] at z; omega
      · rw [nI_inj (by omega) (by omega)] at z
        rw [show enT n0 n1 i s = 1000000000 from if_neg (fun q => z q.1)] at go
        exact go
      · rw [nI_inj (by omega) (by omega)] at z2
        rw [show enT n0 n1 i s = 1000000000 from if_neg (fun q => z2 q.2)] at go
        exact go
      · rw [nI_inj (by omega) (by omega)] at z z2
        rw [show enT n0 n1 i s = 0 from if_pos ⟨z, z2⟩] at go
        exact go
  have out : ∀ (r : Nat) (h' : Hp), r ≤ n0 + 1 → Cg (fun id _ => id = a1) h h' → (∀ i' j', i' ≤ n0 → j' ≤ n1 → r ≤ i' → hI h' a1 (i' * 21 + j') = iI (lst cc n0 n1 i' j')) → AW w mX7_fillLeast 0 0 (rV Q) 0 0 24 [some (.ref 311), some (.ref a1), some (.int bn), some (.int (nI n0)), some (.int (nI n1)), some (.int (iI ((r : Int) - 1))), none, none, none] [] h' := by
    intro r
    induction r with
    | zero =>
      intro h' hr g dn
      refine sX7_fillLeast_24 ⟨fun _ => K h' g (fun i' j' a2 a3 => dn i' j' a2 a3 (by omega)), fun z => absurd (by decide) z⟩
    | succ r ih =>
      intro h' hr g dn
      refine sX7_fillLeast_24 ?_
      rw [iI_p1]
      refine ⟨fun z => ?_, fun _ => ?_⟩
      · rw [ti_lt, t_0, nI_toInt (by omega)] at z; omega
      · have := jin r (by omega) (fun h2 g2 d2 => ih h2 (by omega) g2 d2) (n1 + 1) h' (Nat.le_refl _) g (fun i' j' a2 a3 a4 => dn i' j' a2 a3 (by omega))
        rw [iI_p1] at this
        exact this
  refine eX7_fillLeast (sX7_fillLeast_0 ?_)
  have r0 : hR h 19 0 = o 0 := T.1.1.1
  have r1 : hR h 19 1 = o 1 := T.1.1.2
  have st := out (n0 + 1) h (Nat.le_refl _) (Cg.rfl' h) (fun i' j' a2 a3 a4 => by omega)
  rw [iI_p1] at st
  subst e0 e1
  simp (disch := omega) only [s_311 c, r_311_0 c, s_19 c, e0c, e1c, r0, r1, sb_this c hb0, sb_this c hb1, T.2.1.2.1, T.2.2.2.1]
  repeat' (first | exact trivial | (with_reducible refine And.intro ?_ ?_) | exact vp_nI (by omega) (by omega) | exact vp_nI (j := 0) (by decide) (by decide) | exact vp_nI (j := 1) (by decide) (by decide) | decide | (exact st) | (with_reducible intro z1; first | exact absurd trivial z1 | exact z1.elim) | (with_reducible intro z1) | omega)
end WD
