/-! ===== the calls of laying, the class ===== -/
noncomputable def fLay (S : Ly) : Int32 := if LSs S 0 0 < 1000000000 then nI (JN S) else -1
noncomputable def fJoint (S : Ly) (k x : Int32) : Int32 := if inR k (JN S) = true then (if x.toInt = 0 then nI (JK S k.toNatClampNeg) else if x.toInt = 1 then nI (JL S k.toNatClampNeg) else if x.toInt = 2 then nI (JR S k.toNatClampNeg) else if x.toInt = 3 then iI (cst S (JK S k.toNatClampNeg) (JL S k.toNatClampNeg) (JR S k.toNatClampNeg)) else -100002) else -100001
def fPrice (S : Ly) (k i j : Int32) : Int32 := if inR k 7 = true then (if (hasRn (S.1 0) i (nI (lS k.toNatClampNeg)) && hasRn (S.1 1) j (nI (rS k.toNatClampNeg))) = true then iI (prcN S k.toNatClampNeg i.toNatClampNeg j.toNatClampNeg) else -100001) else -100002
noncomputable def fRest (S : Ly) (i j : Int32) : Int32 := if (inR i (bNs (S.1 0) + 1) && inR j (bNs (S.1 1) + 1)) = true then (if LSs S i.toNatClampNeg j.toNatClampNeg < 1000000000 then iI (LSs S i.toNatClampNeg j.toNatClampNeg) else -100003) else -100001
noncomputable def fSecond (S : Ly) : Int32 := if nxt (cst S) (bNs (S.1 0)) (bNs (S.1 1)) 0 0 < 1000000000 then iI (nxt (cst S) (bNs (S.1 0)) (bNs (S.1 1)) 0 0) else -100003
/-- without the joint of kind k at i, j -/
def ban (c : Nat → Nat → Nat → Int) (k i j : Nat) : Nat → Nat → Nat → Int := fun k' i' j' => if k' = k ∧ i' = i ∧ j' = j then 1000000000 else c k' i' j'
theorem ban_ok {c : Nat → Nat → Nat → Int} {n0 n1 k i j : Nat} (o : okC c n0 n1) : okC (ban c k i j) n0 n1 := by
  intro k' i' j'
  unfold ban
  split
  · exact Or.inl rfl
  · exact o k' i' j'
noncomputable def LB (S : Ly) (m : Nat) : Int := lst (ban (cst S) (JK S m) (JL S m) (JR S m)) (bNs (S.1 0)) (bNs (S.1 1)) 0 0
noncomputable def fSure (S : Ly) (k d : Int32) : Int32 := if inR k (JN S) = true then (if inR d 10001 = true then (if LSs S 0 0 + d.toInt < LB S k.toNatClampNeg then 1 else 0) else -100002) else -100001
noncomputable def fPutJ (S : Ly) (dk : Nat → Dk) (s k : Int32) : Int32 × (Nat → Dk) := if (inR s 8 && inR k (JN S)) = true then (1, setD dk s.toNatClampNeg (2, 0, fun _ => 0, iI (cst S (JK S k.toNatClampNeg) (JL S k.toNatClampNeg) (JR S k.toNatClampNeg)), nI (sm (bWc (S.1 0)) (JL S k.toNatClampNeg) (lS (JK S k.toNatClampNeg))))) else (-100001, dk)
section WF
variable {w : Wd} {L : Nat} {h : Hp} {o : Nat → Nat} {S : Ly} {Q : Int32 → Hp → Prop} {tm : Nat → Int32}
theorem sp_hasJoint {x : Int32} {n : Nat} (c : Lay L h) (hn : n ≤ 40) (q12 : hI h 311 12 = nI n) (K : Q (b01 (inR x n)) h) : AC w mX7_hasJoint 0 0 (rI Q) [.ref 311, .int x] h := by
  refine eX7_hasJoint (sX7_hasJoint_0 ?_)
  have K0 : ¬ (0 ≤ x.toInt ∧ x.toInt < n) → Q 0 h := fun z => Qto K (b0 (inR_f z))
  have K1 : 0 ≤ x.toInt → x.toInt < n → Q 1 h := fun y z => Qto K (b1 (inR_t y z))
  simp (disch := omega) only [s_311 c, q12, ti_lt, ti_le, nI_toInt, t_0]
  repeat' (first | exact trivial | (with_reducible refine And.intro ?_ ?_) | exact vp_nI (by omega) (by omega) | exact vp_nI (j := 0) (by decide) (by decide) | exact vp_nI (j := 1) (by decide) (by decide) | decide | (exact K0 (by omega)) | (exact K1 (by omega) (by omega)) | (with_reducible intro z1; first | exact absurd trivial z1 | exact z1.elim) | (with_reducible intro z1) | omega)
theorem sp_lay (c : Lay L h) (T : lyC h o S) (D : shareC h (bNk (S.1 0)) (bNk (S.1 1)) S.2.2.2 tm) (W : hI h 5 11 = 0 → WC h S) (K : ∀ h', Cg wyE h h' → (hI h' 5 11 = 0 → WC h' S) → Q (fLay S) h') : AC w mX9_lay 0 0 (rI Q) [.ref 5] h := by
  refine eX9_lay (sX9_lay_0 ⟨by rw [s_5 c], sp_layAnew c T D W (fun h1 g st W1 => ?_)⟩)
  have c1 : Lay L h1 := g.lay c (fun id j q => by unfold wyE at q; omega)
  have KK := K h1 g (fun _ => W1)
  rw [s_5 c1, r_5_7 c1, s_311 c1, W1.2.2.2.1, W1.2.2.2.2.1]
  refine ⟨rfl, by first | decide | exact vp_nI (j := 0) (by decide) (by decide) | exact vp_nI (j := 1) (by decide) (by decide), rfl, fun z => ?_, fun z => ?_⟩
  · rw [b01_eq] at z
    exact Qto KK (if_neg (of_decide_eq_false z))
  · rw [b01_ne] at z
    exact Qto KK (if_pos (of_decide_eq_true z))
theorem sp_joint {k x : Int32} (c : Lay L h) (T : lyC h o S) (D : shareC h (bNk (S.1 0)) (bNk (S.1 1)) S.2.2.2 tm) (W : hI h 5 11 = 0 → WC h S) (K : ∀ h', Cg wyE h h' → (hI h' 5 11 = 0 → WC h' S) → Q (fJoint S k x) h') : AC w mX9_joint 0 0 (rI Q) [.ref 5, .int k, .int x] h := by
  have hJ := JN_le (S := S) T.1.2.1.1.1 T.1.2.2.1.1
  refine eX9_joint (sX9_joint_0 ⟨by rw [s_5 c], sp_layAnew c T D W (fun h1 g st W1 => ?_)⟩)
  have c1 : Lay L h1 := g.lay c (fun id j q => by unfold wyE at q; omega)
  have KK := K h1 g (fun _ => W1)
  rw [s_5 c1, r_5_7 c1, s_311 c1]
  refine ⟨rfl, by first | decide | exact vp_nI (j := 0) (by decide) (by decide) | exact vp_nI (j := 1) (by decide) (by decide), rfl, sp_hasJoint c1 hJ W1.2.2.2.2.1 ⟨fun z => ?_, fun z => ?_⟩⟩
  · rw [b01_ne] at z
    have z' := z
    obtain ⟨m, hm, rfl⟩ := inR_nI z (by omega)
    obtain ⟨j1, j2, j3, j4⟩ := W1.2.2.2.2.2 m hm
    have e : fJoint S (nI m) x = (if x.toInt = 0 then nI (JK S m) else if x.toInt = 1 then nI (JL S m) else if x.toInt = 2 then nI (JR S m) else if x.toInt = 3 then iI (cst S (JK S m) (JL S m) (JR S m)) else -100002) := by rw [fJoint, if_pos z', cl_nI (by omega)]
    rw [e] at KK
    have v : vp_in (nI m) 40 := vp_nI (by omega) (by decide)
    simp (disch := omega) only [s_5 c1, r_5_7 c1, s_311 c1, r_311_13 c1, r_311_14 c1, r_311_15 c1, r_311_16 c1, s_319 c1, s_320 c1, s_321 c1, s_322 c1, cl_nI, j1, j2, j3, j4]
    refine ⟨fun q => ?_, fun q => ?_, fun q => ?_, fun q => ?_, fun q => ?_⟩
    · rw [if_neg (by omega), if_neg (by omega), if_neg (by omega), if_neg (by omega)] at KK
      exact KK
    · rw [if_pos q] at KK
      exact ⟨trivial, by first | decide | exact vp_nI (j := 0) (by decide) (by decide) | exact vp_nI (j := 1) (by decide) (by decide), trivial, by first | decide | exact vp_nI (j := 0) (by decide) (by decide) | exact vp_nI (j := 1) (by decide) (by decide), trivial, v, KK⟩
    · rw [if_neg (by omega), if_pos q] at KK
      exact ⟨trivial, by first | decide | exact vp_nI (j := 0) (by decide) (by decide) | exact vp_nI (j := 1) (by decide) (by decide), trivial, by first | decide | exact vp_nI (j := 0) (by decide) (by decide) | exact vp_nI (j := 1) (by decide) (by decide), trivial, v, KK⟩
    · rw [if_neg (by omega), if_neg (by omega), if_pos q] at KK
      exact ⟨trivial, by first | decide | exact vp_nI (j := 0) (by decide) (by decide) | exact vp_nI (j := 1) (by decide) (by decide), trivial, by first | decide | exact vp_nI (j := 0) (by decide) (by decide) | exact vp_nI (j := 1) (by decide) (by decide), trivial, v, KK⟩
    · rw [if_neg (by omega), if_neg (by omega), if_neg (by omega), if_pos q] at KK
      exact ⟨trivial, by first | decide | exact vp_nI (j := 0) (by decide) (by decide) | exact vp_nI (j := 1) (by decide) (by decide), trivial, by first | decide | exact vp_nI (j := 0) (by decide) (by decide) | exact vp_nI (j := 1) (by decide) (by decide), trivial, v, KK⟩
  · rw [b01_eq] at z
    exact Qto KK (by rw [fJoint, z]; rfl)
theorem hasRn_nI {B : Bk} {x : Int32} {n : Nat} (h20 : bNs B ≤ 20) (hn0 : 0 < n) (hn2 : n ≤ 2) (h : hasRn B x (nI n) = true) : ∃ i : Nat, x = nI i ∧ i + n ≤ bNs B := by
  have := of_decide_eq_true h
  rw [nI_toInt (by omega)] at this
  obtain ⟨j, hj, e⟩ := ti_nI (x := x) (n := bNs B) (by omega) (by omega) (by omega)
  subst e
  rw [nI_toInt (by omega)] at this
  exact ⟨j, rfl, by omega⟩
theorem sp_price {k i j : Int32} (c : Lay L h) (T : lyC h o S) (D : shareC h (bNk (S.1 0)) (bNk (S.1 1)) S.2.2.2 tm) (W : hI h 5 11 = 0 → WC h S) (K : ∀ h', Cg wyE h h' → (hI h' 5 11 = 0 → WC h' S) → Q (fPrice S k i j) h') : AC w mX9_price 0 0 (rI Q) [.ref 5, .int k, .int i, .int j] h := by
  have K0 := K h (Cg.rfl' h) W
  have n0 := T.1.2.1.1.1
  have n1 := T.1.2.2.1.1
  have hb0 := T.1.1.2.1
  have hb1 := T.1.1.2.2.1
  have e0 : hR h 19 0 = o 0 := T.1.1.1.1
  have e1 : hR h 19 1 = o 1 := T.1.1.1.2
  have b0 := isBk_223 hb0
  have b1 := isBk_223 hb1
  refine eX9_price (sX9_price_0 ⟨fun z => ?_, fun z => ⟨fun z2 => ?_, fun z2 => ?_⟩⟩)
  · rw [ti_lt, t_0] at z
    exact Qto K0 (by rw [fPrice, inR_f (by omega)]; rfl)
  · rw [ti_lt, t_0] at z
    rw [ti_lt, t_7] at z2
    have hin : inR k 7 = true := inR_t (by omega) (by omega)
    obtain ⟨q, hq, rfl⟩ := inR_nI hin (by decide)
    have l2 := lS_le q
    have r2 := rS_le q
    have e : fPrice S (nI q) i j = (if (hasRn (S.1 0) i (nI (lS q)) && hasRn (S.1 1) j (nI (rS q))) = true then iI (prcN S q i.toNatClampNeg j.toNatClampNeg) else -100001) := by rw [fPrice, if_pos hin, cl_nI (by omega)]
    rw [e] at K0 K
    simp (disch := omega) only [s_5 c, r_5_3 c, s_19 c, e0c, e0, s_1 c, sb_this c hb0, cl_nI, l_1 c hq]
    refine ⟨trivial, by first | decide | exact vp_nI (j := 0) (by decide) (by decide) | exact vp_nI (j := 1) (by decide) (by decide), trivial, by first | decide | exact vp_nI (j := 0) (by decide) (by decide) | exact vp_nI (j := 1) (by decide) (by decide), by omega, trivial, vp_nI (by omega) (by decide), trivial, sp_hasRun c hb0 T.1.2.1 l2 ⟨fun y => ?_, fun y => ?_⟩⟩
    · rw [b01_eq] at y
      rw [y] at K0; exact K0
    · rw [b01_ne] at y
      simp (disch := omega) only [s_5 c, r_5_3 c, s_19 c, e1c, e1, s_2 c, sb_this c hb1, cl_nI, l_2 c hq]
      refine ⟨trivial, by first | decide | exact vp_nI (j := 0) (by decide) (by decide) | exact vp_nI (j := 1) (by decide) (by decide), trivial, by first | decide | exact vp_nI (j := 0) (by decide) (by decide) | exact vp_nI (j := 1) (by decide) (by decide), by omega, trivial, vp_nI (by omega) (by decide), trivial, sp_hasRun c hb1 T.1.2.2 r2 ⟨fun y2 => ?_, fun y2 => ?_⟩⟩
      · rw [b01_ne] at y2
        refine ⟨by rw [s_5 c], sp_layAnew c T D W (fun h1 g st W1 => ?_)⟩
        have c1 : Lay L h1 := g.lay c (fun id j q => by unfold wyE at q; omega)
        have T1 : lyC h1 o S := T.cg g (fun id j q => by unfold wyE at q; omega)
        have KK := K h1 g (fun _ => W1)
        rw [y, y2, Bool.and_true, if_pos rfl] at KK
        rw [s_5 c1, r_5_7 c1, s_311 c1]
        refine ⟨rfl, by first | decide | exact vp_nI (j := 0) (by decide) (by decide) | exact vp_nI (j := 1) (by decide) (by decide), rfl, ?_⟩
        by_cases q12 : q = 1 ∨ q = 2
        · refine sp_price12 c1 q12 ?_
          have : prcN S q i.toNatClampNeg j.toNatClampNeg = 450 := by unfold prcN; rw [if_pos q12]
          rw [this] at KK
          exact KK
        · have hl : 0 < lS q := k7 (P := fun k => ¬ (k = 1 ∨ k = 2) → 0 < lS k) (by decide) (by decide) (by decide) (by decide) (by decide) (by decide) (by decide) hq q12
          have hr : 0 < rS q := k7 (P := fun k => ¬ (k = 1 ∨ k = 2) → 0 < rS k) (by decide) (by decide) (by decide) (by decide) (by decide) (by decide) (by decide) hq q12
          obtain ⟨i', rfl, hi'⟩ := hasRn_nI n0 hl l2 y
          obtain ⟨j', rfl, hj'⟩ := hasRn_nI n1 hr r2 y2
          rw [cl_nI (by omega), cl_nI (by omega)] at KK
          exact sp_priceAt c1 T1.1 W1.1 hq hi' hj' KK
      · rw [b01_eq] at y2
        rw [y2, Bool.and_false] at K0
        exact K0
  · rw [ti_lt, t_7] at z2
    exact Qto K0 (by rw [fPrice, inR_f (by omega)]; rfl)
theorem sp_leastFrom {i j : Nat} (c : Lay L h) (h0 : bNs (S.1 0) ≤ 20) (h1 : bNs (S.1 1) ≤ 20) (W : lsC h 317 (cst S) (bNs (S.1 0)) (bNs (S.1 1))) (hi : i ≤ bNs (S.1 0)) (hj : j ≤ bNs (S.1 1)) (K : Q (iI (LSs S i j)) h) : AC w mX7_leastFrom 0 0 (rI Q) [.ref 311, .int (nI i), .int (nI j)] h := by
  refine eX7_leastFrom (sX7_leastFrom_0 ?_)
  rw [s_311 c, r_311_9 c]
  refine ⟨rfl, by first | decide | exact vp_nI (j := 0) (by decide) (by decide) | exact vp_nI (j := 1) (by decide) (by decide), sp_placeOf ?_⟩
  rw [s_317 c, cl_nI (by omega), W i j hi hj]
  exact ⟨rfl, vp_nI (by omega) (by decide), K⟩
theorem sp_rest {i j : Int32} (c : Lay L h) (T : lyC h o S) (D : shareC h (bNk (S.1 0)) (bNk (S.1 1)) S.2.2.2 tm) (W : hI h 5 11 = 0 → WC h S) (K : ∀ h', Cg wyE h h' → (hI h' 5 11 = 0 → WC h' S) → Q (fRest S i j) h') : AC w mX9_rest 0 0 (rI Q) [.ref 5, .int i, .int j] h := by
  have K0 := K h (Cg.rfl' h) W
  have n0 := T.1.2.1.1.1
  have n1 := T.1.2.2.1.1
  have hb0 := T.1.1.2.1
  have hb1 := T.1.1.2.2.1
  have e0 : hR h 19 0 = o 0 := T.1.1.1.1
  have e1 : hR h 19 1 = o 1 := T.1.1.1.2
  have b0 := isBk_223 hb0
  have b1 := isBk_223 hb1
  have bad : (inR i (bNs (S.1 0) + 1) && inR j (bNs (S.1 1) + 1)) = false → Q (-100001) h := fun z => by
    rw [fRest, z] at K0; exact K0
  have bad0 : ¬ (0 ≤ i.toInt ∧ i.toInt < bNs (S.1 0) + 1) → Q (-100001) h := fun z => bad (by rw [inR_f (by omega)]; rfl)
  have bad1 : ¬ (0 ≤ j.toInt ∧ j.toInt < bNs (S.1 1) + 1) → Q (-100001) h := fun z => bad (by rw [inR_f (x := j) (by omega), Bool.and_false])
  have good : 0 ≤ i.toInt → i.toInt < bNs (S.1 0) + 1 → 0 ≤ j.toInt → j.toInt < bNs (S.1 1) + 1 → AC w mX9_layAnew 0 0 (rV fun h1 => (hs h1 5).1 = 29 ∧ hR h1 5 7 ≠ 0 ∧ (hs h1 (hR h1 5 7)).1 = 27 ∧ AC w mX7_leastFrom 0 0 (rI fun r2 h2 => ((r2 < 1000000000 → Q r2 h2) ∧ (¬ r2 < 1000000000 → Q (-100003) h2))) [.ref (hR h1 5 7), .int i, .int j] h1) [.ref 5] h := fun i1 i2 j1 j2 => by
    have hi : inR i (bNs (S.1 0) + 1) = true := inR_t i1 (by omega)
    have hj : inR j (bNs (S.1 1) + 1) = true := inR_t j1 (by omega)
    have hin : (inR i (bNs (S.1 0) + 1) && inR j (bNs (S.1 1) + 1)) = true := by rw [hi, hj]; rfl
    obtain ⟨x, hx, rfl⟩ := inR_nI hi (by omega)
    obtain ⟨y, hy, rfl⟩ := inR_nI hj (by omega)
    refine sp_layAnew c T D W (fun h1 g st W1 => ?_)
    have c1 : Lay L h1 := g.lay c (fun id j q => by unfold wyE at q; omega)
    have KK := K h1 g (fun _ => W1)
    rw [fRest, if_pos hin, cl_nI (by omega), cl_nI (by omega)] at KK
    rw [s_5 c1, r_5_7 c1, s_311 c1]
    have bd : LSs S x y = 1000000000 ∨ (-3600 ≤ LSs S x y ∧ LSs S x y ≤ 52000) := lst_bd (cst_ok S) n0 n1 (show x ≤ bNs (S.1 0) by omega) (show y ≤ bNs (S.1 1) by omega)
    refine ⟨rfl, by first | decide | exact vp_nI (j := 0) (by decide) (by decide) | exact vp_nI (j := 1) (by decide) (by decide), rfl, sp_leastFrom c1 n0 n1 W1.2.2.1 (by omega) (by omega) ⟨fun z => ?_, fun z => ?_⟩⟩
    · rw [iI_ltF (by omega) (by omega)] at z
      rw [if_pos z] at KK; exact KK
    · rw [iI_ltF (by omega) (by omega)] at z
      rw [if_neg z] at KK; exact KK
  refine eX9_rest (sX9_rest_0 ?_)
  simp (disch := omega) only [s_5 c, r_5_3 c, s_19 c, e0c, e1c, e0, e1, sb_this c hb0, sb_this c hb1, T.1.2.1.2.1, T.1.2.2.2.1, ti_lt, ti_le, nI_toInt, t_0, tm_100003, t_1000000000] at good ⊢
  repeat' (first | exact trivial | (with_reducible refine And.intro ?_ ?_) | exact vp_nI (by omega) (by omega) | exact vp_nI (j := 0) (by decide) (by decide) | exact vp_nI (j := 1) (by decide) (by decide) | decide | (exact bad0 (by omega)) | (exact bad1 (by omega)) | (exact good (by omega) (by omega) (by omega) (by omega)) | (with_reducible intro z1; first | exact absurd trivial z1 | exact z1.elim) | (with_reducible intro z1) | omega)
theorem sp_leastBut (c : Lay L h) (h0 : bNs (S.1 0) ≤ 20) (h1 : bNs (S.1 1) ≤ 20) (W : WC h S) (K : Q (iI (zO (cst S) (bNs (S.1 0)) (bNs (S.1 1)) (JN S))) h) : AC w mX7_leastButBest 0 0 (rI Q) [.ref 311] h := by
  have oc := cst_ok S
  have hJ := JN_le (S := S) h0 h1
  have inn : ∀ m, m < JN S → (AW w mX7_leastButBest 0 0 (rI Q) 0 0 7 [some (.ref 311), some (.int (iI (zO (cst S) (bNs (S.1 0)) (bNs (S.1 1)) (m + 1)))), some (.int (iI (aS (cst S) (bNs (S.1 0)) (bNs (S.1 1)) (m + 1)))), some (.int (nI (m + 1))), none, none] [] h) →
      ∀ (d q : Nat), q + d = 7 → AW w mX7_leastButBest 0 0 (rI Q) 0 0 18 [some (.ref 311), some (.int (iI (zI (zO (cst S) (bNs (S.1 0)) (bNs (S.1 1)) m) (aS (cst S) (bNs (S.1 0)) (bNs (S.1 1)) m) (fun k => sB (cst S) (lst (cst S) (bNs (S.1 0)) (bNs (S.1 1))) k (JL S m) (JR S m)) (JK S m) q))), some (.int (iI (aS (cst S) (bNs (S.1 0)) (bNs (S.1 1)) m))), some (.int (nI m)), some (.int (nI q)), none] [] h := by
    intro m hm Kc d
    obtain ⟨j1, j2, j3, j4⟩ := W.2.2.2.2.2 m hm
    obtain ⟨o1, o2, o3, o4⟩ := JN_ok (S := S) h0 h1 hm
    have zb := (zO_inv oc h0 h1 m (Nat.le_of_lt hm)).2
    have ab := aS_bd oc h0 h1 m (Nat.le_of_lt hm)
    induction d with
    | zero =>
      intro q hq
      have hq : q = 7 := by omega
      subst hq
      refine sX7_leastButBest_18 ?_
      rw [s_311 c, r_311_16 c, s_322 c, cl_nI (by omega), j4, iI_add, nI_1]
      exact ⟨fun _ => ⟨rfl, by first | decide | exact vp_nI (j := 0) (by decide) (by decide) | exact vp_nI (j := 1) (by decide) (by decide), rfl, vp_nI (by omega) (by decide), Kc⟩, fun z => absurd (by decide) z⟩
    | succ d ih =>
      intro q hq
      have nx := ih (q + 1) (by omega)
      have ez : zI (zO (cst S) (bNs (S.1 0)) (bNs (S.1 1)) m) (aS (cst S) (bNs (S.1 0)) (bNs (S.1 1)) m) (fun k => sB (cst S) (lst (cst S) (bNs (S.1 0)) (bNs (S.1 1))) k (JL S m) (JR S m)) (JK S m) (q + 1) = if q = JK S m then zI (zO (cst S) (bNs (S.1 0)) (bNs (S.1 1)) m) (aS (cst S) (bNs (S.1 0)) (bNs (S.1 1)) m) (fun k => sB (cst S) (lst (cst S) (bNs (S.1 0)) (bNs (S.1 1))) k (JL S m) (JR S m)) (JK S m) q else if sB (cst S) (lst (cst S) (bNs (S.1 0)) (bNs (S.1 1))) q (JL S m) (JR S m) < 1000000000 then (if aS (cst S) (bNs (S.1 0)) (bNs (S.1 1)) m + sB (cst S) (lst (cst S) (bNs (S.1 0)) (bNs (S.1 1))) q (JL S m) (JR S m) < zI (zO (cst S) (bNs (S.1 0)) (bNs (S.1 1)) m) (aS (cst S) (bNs (S.1 0)) (bNs (S.1 1)) m) (fun k => sB (cst S) (lst (cst S) (bNs (S.1 0)) (bNs (S.1 1))) k (JL S m) (JR S m)) (JK S m) q then aS (cst S) (bNs (S.1 0)) (bNs (S.1 1)) m + sB (cst S) (lst (cst S) (bNs (S.1 0)) (bNs (S.1 1))) q (JL S m) (JR S m) else zI (zO (cst S) (bNs (S.1 0)) (bNs (S.1 1)) m) (aS (cst S) (bNs (S.1 0)) (bNs (S.1 1)) m) (fun k => sB (cst S) (lst (cst S) (bNs (S.1 0)) (bNs (S.1 1))) k (JL S m) (JR S m)) (JK S m) q) else zI (zO (cst S) (bNs (S.1 0)) (bNs (S.1 1)) m) (aS (cst S) (bNs (S.1 0)) (bNs (S.1 1)) m) (fun k => sB (cst S) (lst (cst S) (bNs (S.1 0)) (bNs (S.1 1))) k (JL S m) (JR S m)) (JK S m) q := rfl
      rw [ez] at nx
      have zq := zI_eq (z := zO (cst S) (bNs (S.1 0)) (bNs (S.1 1)) m) (A := aS (cst S) (bNs (S.1 0)) (bNs (S.1 1)) m) (a := fun k => sB (cst S) (lst (cst S) (bNs (S.1 0)) (bNs (S.1 1))) k (JL S m) (JR S m)) (s := JK S m) (by omega) (by omega) (fun k => by have := sB_bd oc h0 h1 (k := k) (i := JL S m) (j := JR S m); (try dsimp only); omega) q
      have zb2 : -1000000 ≤ zI (zO (cst S) (bNs (S.1 0)) (bNs (S.1 1)) m) (aS (cst S) (bNs (S.1 0)) (bNs (S.1 1)) m) (fun k => sB (cst S) (lst (cst S) (bNs (S.1 0)) (bNs (S.1 1))) k (JL S m) (JR S m)) (JK S m) q ∧ zI (zO (cst S) (bNs (S.1 0)) (bNs (S.1 1)) m) (aS (cst S) (bNs (S.1 0)) (bNs (S.1 1)) m) (fun k => sB (cst S) (lst (cst S) (bNs (S.1 0)) (bNs (S.1 1))) k (JL S m) (JR S m)) (JK S m) q ≤ 1000000000 := by
        rw [zq.1]
        have z2 := zq.2
        generalize mnK (wo (fun k => sB (cst S) (lst (cst S) (bNs (S.1 0)) (bNs (S.1 1))) k (JL S m) (JR S m)) (JK S m)) 1000000000 q = v at z2
        unfold mn2 adF
        repeat' split
        all_goals omega
      have sb := sB_bd oc h0 h1 (k := q) (i := JL S m) (j := JR S m)
      generalize zI (zO (cst S) (bNs (S.1 0)) (bNs (S.1 1)) m) (aS (cst S) (bNs (S.1 0)) (bNs (S.1 1)) m) (fun k => sB (cst S) (lst (cst S) (bNs (S.1 0)) (bNs (S.1 1))) k (JL S m) (JR S m)) (JK S m) q = Z at nx zb2
      have k63 : ∀ v : Int, (q = JK S m ∧ v = 1000000000) ∨ (q ≠ JK S m ∧ v = sB (cst S) (lst (cst S) (bNs (S.1 0)) (bNs (S.1 1))) q (JL S m) (JR S m)) → AW w mX7_leastButBest 0 0 (rI Q) 0 0 63 [some (.ref 311), some (.int (iI Z)), some (.int (iI (aS (cst S) (bNs (S.1 0)) (bNs (S.1 1)) m))), some (.int (nI m)), some (.int (nI q)), none] [.int (iI v)] h := by
        intro v hv
        refine sX7_leastButBest_63 ?_
        rw [nI_1, iI_add]
        rcases hv with ⟨hq2, rfl⟩ | ⟨hq2, rfl⟩
        · rw [if_pos hq2] at nx
          exact ⟨fun _ => nx, fun z => absurd ((iI_leF (by omega) (by omega)).mpr (by omega)) z⟩
        · rw [if_neg hq2] at nx
          refine ⟨fun z => ?_, fun z => ?_⟩
          · rw [iI_leF (by omega) (by omega)] at z
            rw [if_neg (by omega)] at nx
            exact nx
          · rw [iI_leF (by omega) (by omega)] at z
            rw [if_pos (by omega)] at nx
            by_cases y : aS (cst S) (bNs (S.1 0)) (bNs (S.1 1)) m + sB (cst S) (lst (cst S) (bNs (S.1 0)) (bNs (S.1 1))) q (JL S m) (JR S m) < Z
            · rw [if_pos y] at nx
              rw [if_pos ((iI_lt (by omega) (by omega) zb2.1 zb2.2).mpr y)]
              exact nx
            · rw [if_neg y] at nx
              rw [if_neg (fun x => y ((iI_lt (by omega) (by omega) zb2.1 zb2.2).mp x))]
              exact nx
      refine sX7_leastButBest_18 ?_
      rw [s_311 c, r_311_13 c, s_319 c, r_311_9 c, r_311_14 c, s_320 c, r_311_15 c, s_321 c, cl_nI (by omega), j1, j2, j3]
      refine ⟨fun z => ?_, fun _ => ⟨rfl, by first | decide | exact vp_nI (j := 0) (by decide) (by decide) | exact vp_nI (j := 1) (by decide) (by decide), rfl, vp_nI (by omega) (by decide), fun z => ⟨by first | decide | exact vp_nI (j := 0) (by decide) (by decide) | exact vp_nI (j := 1) (by decide) (by decide), by first | decide | exact vp_nI (j := 0) (by decide) (by decide) | exact vp_nI (j := 1) (by decide) (by decide), rfl, vp_nI (by omega) (by decide), by first | decide | exact vp_nI (j := 0) (by decide) (by decide) | exact vp_nI (j := 1) (by decide) (by decide), rfl, vp_nI (by omega) (by decide), ?_⟩, fun z => ?_⟩⟩
      · rw [ti_le, t_7, nI_toInt (by omega)] at z; omega
      · rw [nI_inj (by omega) (by omega)] at z
        refine sp_sumBy (U := lst (cst S) (bNs (S.1 0)) (bNs (S.1 1))) c oc h0 h1 (Or.inl rfl) (by omega) (by omega) (by omega) (W.2.1 q _ _ (by omega) (by omega) (by omega)) (fun lt => ?_) (fun i j hi hj => lst_bd oc h0 h1 hi hj) (k63 _ (Or.inr ⟨z, rfl⟩))
        rcases oc q (JL S m) (JR S m) with y | y
        · omega
        · exact W.2.2.1 _ _ y.2.2.1 y.2.2.2
      · rw [nI_inj (by omega) (by omega)] at z
        exact k63 1000000000 (Or.inl ⟨z, rfl⟩)
  have lp : ∀ (d m : Nat), m + d = JN S → AW w mX7_leastButBest 0 0 (rI Q) 0 0 7 [some (.ref 311), some (.int (iI (zO (cst S) (bNs (S.1 0)) (bNs (S.1 1)) m))), some (.int (iI (aS (cst S) (bNs (S.1 0)) (bNs (S.1 1)) m))), some (.int (nI m)), none, none] [] h := by
    intro d
    induction d with
    | zero =>
      intro m hm
      have hm : m = JN S := by omega
      refine sX7_leastButBest_7 ?_
      rw [s_311 c, W.2.2.2.2.1]
      refine ⟨rfl, fun _ => by rw [hm]; exact K, fun z => absurd ?_ z⟩
      rw [hm, ti_le]
      omega
    | succ d ih =>
      intro m hm
      refine sX7_leastButBest_7 ?_
      rw [s_311 c, W.2.2.2.2.1]
      refine ⟨rfl, fun z => ?_, fun _ => inn m (by omega) (ih (m + 1) (by omega)) 7 0 (by omega)⟩
      rw [ti_le, nI_toInt (by omega), nI_toInt (by omega)] at z; omega
  exact eX7_leastButBest (sX7_leastButBest_0 (lp (JN S) 0 (by omega)))
theorem sp_second (c : Lay L h) (T : lyC h o S) (D : shareC h (bNk (S.1 0)) (bNk (S.1 1)) S.2.2.2 tm) (W : hI h 5 11 = 0 → WC h S) (K : ∀ h', Cg wyE h h' → (hI h' 5 11 = 0 → WC h' S) → Q (fSecond S) h') : AC w mX9_second 0 0 (rI Q) [.ref 5] h := by
  have n0 := T.1.2.1.1.1
  have n1 := T.1.2.2.1.1
  have oc := cst_ok S
  refine eX9_second (sX9_second_0 ⟨by rw [s_5 c], sp_layAnew c T D W (fun h1 g st W1 => ?_)⟩)
  have c1 : Lay L h1 := g.lay c (fun id j q => by unfold wyE at q; omega)
  have KK := K h1 g (fun _ => W1)
  rw [s_5 c1, r_5_7 c1, s_311 c1]
  have bd := nxt_bd oc n0 n1 (Nat.zero_le _) (Nat.zero_le _)
  refine ⟨rfl, by first | decide | exact vp_nI (j := 0) (by decide) (by decide) | exact vp_nI (j := 1) (by decide) (by decide), rfl, sp_leastBut c1 n0 n1 W1 ?_⟩
  rw [zO_nxt oc n0 n1]
  refine ⟨fun z => ?_, fun z => ?_⟩
  · rw [iI_ltF (by omega) (by omega)] at z
    rw [fSecond, if_pos z] at KK; exact KK
  · rw [iI_ltF (by omega) (by omega)] at z
    rw [fSecond, if_neg z] at KK; exact KK
theorem sp_leastWithout {m : Nat} (c : Lay L h) (B : booksC h o S.1) (W : WC h S) (hm : m < JN S) (K : ∀ h', Cg (fun id j => id = 318) h h' → Q (iI (LB S m)) h') : AC w mX7_leastWithout 0 0 (rI Q) [.ref 311, .int (nI m)] h := by
  have oc := cst_ok S
  have h0 := B.2.1.1.1
  have h1 := B.2.2.1.1
  have hJ := JN_le (S := S) h0 h1
  obtain ⟨j1, j2, j3, j4⟩ := W.2.2.2.2.2 m hm
  obtain ⟨o1, o2, o3, o4⟩ := JN_ok (S := S) h0 h1 hm
  refine eX7_leastWithout (sX7_leastWithout_0 ?_)
  rw [s_311 c, r_311_13 c, s_319 c, r_311_10 c, r_311_14 c, s_320 c, r_311_15 c, s_321 c, cl_nI (by omega), j1, j2, j3]
  refine ⟨rfl, by first | decide | exact vp_nI (j := 0) (by decide) (by decide) | exact vp_nI (j := 1) (by decide) (by decide), by first | decide | exact vp_nI (j := 0) (by decide) (by decide) | exact vp_nI (j := 1) (by decide) (by decide), rfl, vp_nI (by omega) (by decide), by first | decide | exact vp_nI (j := 0) (by decide) (by decide) | exact vp_nI (j := 1) (by decide) (by decide), rfl, vp_nI (by omega) (by decide), by first | decide | exact vp_nI (j := 0) (by decide) (by decide) | exact vp_nI (j := 1) (by decide) (by decide), rfl, vp_nI (by omega) (by decide), sp_costIndex ⟨by rw [s_311 c], ?_⟩⟩
  refine sp_fillLeast (cc := ban (cst S) (JK S m) (JL S m) (JR S m)) c B (ban_ok oc) rfl rfl (Or.inr rfl) (fun k i j hk hi hj => ⟨fun q => ?_, fun q => ?_⟩) (fun h2 g t2 => ?_)
  · rw [nI_inj (by omega) (by omega)] at q
    exact if_pos (by omega)
  · rw [nI_inj (by omega) (by omega)] at q
    rw [W.2.1 k i j hk hi hj]
    have : ban (cst S) (JK S m) (JL S m) (JR S m) k i j = cst S k i j := if_neg (fun e => q (by rw [e.1, e.2.1, e.2.2]))
    rw [this]
  · have c2 : Lay L h2 := g.lay c (fun id j q => by omega)
    have t00 : hI h2 318 0 = iI (LB S m) := t2 0 0 (Nat.zero_le _) (Nat.zero_le _)
    rw [s_311 c2, r_311_10 c2, s_318 c2, e0c, t00]
    exact ⟨rfl, by first | decide | exact vp_nI (j := 0) (by decide) (by decide) | exact vp_nI (j := 1) (by decide) (by decide), rfl, vp_nI (j := 0) (by decide) (by decide), K h2 g⟩
theorem sp_sure {k d : Int32} (c : Lay L h) (T : lyC h o S) (D : shareC h (bNk (S.1 0)) (bNk (S.1 1)) S.2.2.2 tm) (W : hI h 5 11 = 0 → WC h S) (K : ∀ h', Cg wyE h h' → (hI h' 5 11 = 0 → WC h' S) → Q (fSure S k d) h') : AC w mX9_sure 0 0 (rI Q) [.ref 5, .int k, .int d] h := by
  have n0 := T.1.2.1.1.1
  have n1 := T.1.2.2.1.1
  have oc := cst_ok S
  have hJ := JN_le (S := S) n0 n1
  refine eX9_sure (sX9_sure_0 ⟨by rw [s_5 c], sp_layAnew c T D W (fun h1 g st W1 => ?_)⟩)
  have c1 : Lay L h1 := g.lay c (fun id j q => by unfold wyE at q; omega)
  have T1 : lyC h1 o S := T.cg g (fun id j q => by unfold wyE at q; omega)
  have KK := K h1 g (fun _ => W1)
  rw [s_5 c1, r_5_7 c1, s_311 c1]
  refine ⟨rfl, by first | decide | exact vp_nI (j := 0) (by decide) (by decide) | exact vp_nI (j := 1) (by decide) (by decide), rfl, sp_hasJoint c1 hJ W1.2.2.2.2.1 ⟨fun z => ?_, fun z => ?_⟩⟩
  · rw [b01_ne] at z
    have z' := z
    obtain ⟨m, hm, rfl⟩ := inR_nI z (by omega)
    have e : fSure S (nI m) d = (if inR d 10001 = true then (if LSs S 0 0 + d.toInt < LB S m then 1 else 0) else -100002) := by rw [fSure, if_pos z', cl_nI (by omega)]
    rw [e] at KK
    have b1 : LSs S 0 0 = 1000000000 ∨ (-3600 ≤ LSs S 0 0 ∧ LSs S 0 0 ≤ 52000) := lst_bd oc n0 n1 (Nat.zero_le _) (Nat.zero_le _)
    have b2 := lst_bd (ban_ok (k := JK S m) (i := JL S m) (j := JR S m) oc) n0 n1 (Nat.zero_le _) (Nat.zero_le _)
    have b2' : LB S m = 1000000000 ∨ (-3600 ≤ LB S m ∧ LB S m ≤ 52000) := b2
    have fnd : LSs S 0 0 < 1000000000 := by
      rcases Classical.em (LSs S 0 0 < 1000000000) with q | q
      · exact q
      · have : JN S = 0 := if_neg q
        omega
    refine ⟨fun y => ?_, fun y => ⟨fun y2 => ?_, fun y2 => ?_⟩⟩
    · rw [ti_lt, t_0] at y
      rw [inR_f (by omega)] at KK; exact KK
    · rw [ti_lt, t_0] at y
      rw [ti_le, t_10000] at y2
      rw [inR_t (by omega) (by omega), if_pos rfl] at KK
      rw [s_5 c1, r_5_7 c1, s_311 c1]
      refine ⟨rfl, by first | decide | exact vp_nI (j := 0) (by decide) (by decide) | exact vp_nI (j := 1) (by decide) (by decide), rfl, sp_leastWithout c1 T1.1 W1 hm (fun h2 g2 => ?_)⟩
      have c2 : Lay L h2 := g2.lay c1 (fun id j q => by omega)
      have W2 : WC h2 S := W1.cg g2 (fun id j q => by omega)
      have K2 := K h2 (g.trans (g2.mono (fun id j q => by unfold wyE; omega))) (fun _ => W2)
      rw [e, inR_t (by omega) (by omega), if_pos rfl] at K2
      rw [s_5 c2, r_5_7 c2, s_311 c2]
      refine ⟨rfl, by first | decide | exact vp_nI (j := 0) (by decide) (by decide) | exact vp_nI (j := 1) (by decide) (by decide), rfl, sp_leastFrom (i := 0) (j := 0) c2 n0 n1 W2.2.2.1 (Nat.zero_le _) (Nat.zero_le _) ?_⟩
      have es : (iI (LSs S 0 0) + d).toInt = LSs S 0 0 + d.toInt := by rw [ti_add] <;> rw [iI_toInt (by omega) (by omega)] <;> omega
      have el : (iI (LB S m)).toInt = LB S m := iI_toInt (by omega) (by omega)
      refine ⟨fun y3 => ?_, fun y3 => ?_⟩
      · rw [ti_le, es, el] at y3
        rw [if_neg (by omega)] at K2; exact K2
      · rw [ti_le, es, el] at y3
        rw [if_pos (by omega)] at K2; exact K2
    · rw [ti_le, t_10000] at y2
      rw [inR_f (by omega)] at KK; exact KK
  · rw [b01_eq] at z
    exact Qto KK (by rw [fSure, z]; rfl)
theorem sp_putJoint {dk : Nat → Dk} {cd s k : Int32} (c : Lay L h) (T : lyC h o S) (D : shareC h (bNk (S.1 0)) (bNk (S.1 1)) S.2.2.2 tm) (W : hI h 5 11 = 0 → WC h S) (E : deskC h dk) (hc : hI h 5 10 = cd) (K : ∀ h', Cg (fun id j => wyE id j ∨ (331 ≤ id ∧ id ≤ 346)) h h' → (hI h' 5 11 = 0 → WC h' S) → deskC h' (fPutJ S dk s k).2 → hI h' 5 10 = cd → Q (fPutJ S dk s k).1 h') : AC w mX9_putJoint 0 0 (rI Q) [.ref 5, .int s, .int k] h := by
  have n0 := T.1.2.1.1.1
  have n1 := T.1.2.2.1.1
  have oc := cst_ok S
  have hJ := JN_le (S := S) n0 n1
  have hb0 := T.1.1.2.1
  have b0 := isBk_223 hb0
  refine eX9_putJoint (sX9_putJoint_0 ⟨by rw [s_5 c], sp_layAnew c T D W (fun h1 g st W1 => ?_)⟩)
  have c1 : Lay L h1 := g.lay c (fun id j q => by unfold wyE at q; omega)
  have T1 : lyC h1 o S := T.cg g (fun id j q => by unfold wyE at q; omega)
  have E1 : deskC h1 dk := fun t ht => by
    obtain ⟨x1, x2, x3, x4⟩ := E t ht
    refine ⟨x1, by rw [g.i (by unfold wyE; omega)]; exact x2, fun z => ⟨by rw [g.i (by unfold wyE; omega)]; exact (x3 z).1, fun i hi => by rw [g.i (by unfold wyE; omega)]; exact (x3 z).2 i hi⟩, fun z => ⟨by rw [g.i (by unfold wyE; omega)]; exact (x4 z).1, by rw [g.i (by unfold wyE; omega)]; exact (x4 z).2⟩⟩
  have hc1 : hI h1 5 10 = cd := by rw [g.i (by unfold wyE; omega)]; exact hc
  have bad : (inR s 8 && inR k (JN S)) = false → Q (-100001) h1 := fun z => by
    have e : fPutJ S dk s k = (-100001, dk) := by rw [fPutJ, z]; rfl
    rw [e] at K
    exact K h1 (g.mono (fun id j q => Or.inl q)) (fun _ => W1) E1 hc1
  refine ⟨by rw [s_5 c1], sp_isSlot ⟨fun z => ?_, fun z => ?_⟩⟩
  · rw [b01_eq] at z
    exact bad (by rw [z]; rfl)
  · rw [b01_ne] at z
    rw [s_5 c1, r_5_7 c1, s_311 c1]
    refine ⟨rfl, by first | decide | exact vp_nI (j := 0) (by decide) (by decide) | exact vp_nI (j := 1) (by decide) (by decide), rfl, sp_hasJoint c1 hJ W1.2.2.2.2.1 ⟨fun y => ?_, fun y => ?_⟩⟩
    · rw [b01_ne] at y
      have hin : (inR s 8 && inR k (JN S)) = true := by rw [z, y]; rfl
      obtain ⟨t, ht, rfl⟩ := inR_nI z (by decide)
      obtain ⟨m, hm, rfl⟩ := inR_nI y (by omega)
      have e : fPutJ S dk (nI t) (nI m) = (1, setD dk t (2, 0, fun _ => 0, iI (cst S (JK S m) (JL S m) (JR S m)), nI (sm (bWc (S.1 0)) (JL S m) (lS (JK S m))))) := by rw [fPutJ, if_pos hin, cl_nI (by omega), cl_nI (by omega)]
      rw [e] at K
      obtain ⟨j1, j2, j3, j4⟩ := W1.2.2.2.2.2 m hm
      obtain ⟨o1, o2, o3, o4⟩ := JN_ok (S := S) n0 n1 hm
      have e0 : hR h1 19 0 = o 0 := T1.1.1.1.1
      simp (disch := omega) only [s_5 c1, r_5_3 c1, r_5_7 c1, s_19 c1, e0c, e0, s_311 c1, r_311_13 c1, r_311_14 c1, s_319 c1, s_320 c1, cl_nI, j1, j2, s_1 c1, l_1 c1 o1, sb_this c1 hb0]
      have v : vp_in (nI m) 40 := vp_nI (by omega) (by decide)
      have v7 : vp_in (nI (JK S m)) 7 := vp_nI (by omega) (by decide)
      have go : AC w mX0_wordsOf 0 0 (rI fun r4 h4 => (hs h4 5).1 = 29 ∧ hR h4 5 9 ≠ 0 ∧ (hs h4 (hR h4 5 9)).1 = 10 ∧ vp_in (nI t) (hs h4 (hR h4 5 9)).2 ∧ hR h4 (hR h4 5 9) t ≠ 0 ∧ hR h4 5 7 ≠ 0 ∧ (hs h4 (hR h4 5 7)).1 = 27 ∧ hR h4 (hR h4 5 7) 16 ≠ 0 ∧ (hs h4 (hR h4 (hR h4 5 7) 16)).1 = 1 ∧ vp_in (nI m) (hs h4 (hR h4 (hR h4 5 7) 16)).2 ∧ (hs h4 (hR h4 (hR h4 5 9) t)).1 = 25 ∧ AC w mX5_holdJoint 0 0 (rV fun h5 => Q 1 h5) [.ref (hR h4 (hR h4 5 9) t), .int (hI h4 (hR h4 (hR h4 5 7) 16) m), .int r4] h4) [.ref (o 0), .int (nI (JL S m)), .int (nI (lS (JK S m)))] h1 := by
        refine sp_wordsOf c1 hb0 T1.1.2.1 (by omega) ?_
        simp (disch := omega) only [s_5 c1, r_5_9 c1, s_330 c1, cl_nI, r_desk c1 ht, r_5_7 c1, s_311 c1, r_311_16 c1, s_322 c1, s_slot c1 ht, j4]
        refine ⟨trivial, by first | decide | exact vp_nI (j := 0) (by decide) (by decide) | exact vp_nI (j := 1) (by decide) (by decide), trivial, vp_nI ht (by decide), by omega, by first | decide | exact vp_nI (j := 0) (by decide) (by decide) | exact vp_nI (j := 1) (by decide) (by decide), trivial, by first | decide | exact vp_nI (j := 0) (by decide) (by decide) | exact vp_nI (j := 1) (by decide) (by decide), trivial, v, trivial, eX5_holdJoint (sX5_holdJoint_0 ⟨by rw [s_slot c1 ht], fun h2 e2 h3 e3 h4 e4 h5 e5 => ?_⟩)⟩
        subst e2 e3 e4 e5
        have gg : Cg (fun id j => 331 ≤ id ∧ id ≤ 346) h1 (sI (sI (sI (sI h1 (331 + 2 * t) 0 2) (331 + 2 * t) 1 0) (331 + 2 * t) 3 (iI (cst S (JK S m) (JL S m) (JR S m)))) (331 + 2 * t) 4 (nI (sm (bWc (S.1 0)) (JL S m) (lS (JK S m))))) := ((((Cg.rfl' h1).sI (by omega)).sI (by omega)).sI (by omega)).sI (by omega)
        refine K _ ((g.mono (fun id j q => Or.inl q)).trans (gg.mono (fun id j q => Or.inr q))) (fun _ => W1.cg gg (fun id j q => by omega)) (E1.upd (fun u hu hne j => ?_) ⟨⟨by show 2 ≤ 3; omega, by show 0 ≤ 30; omega⟩, ?_, fun q => ?_, fun _ => ⟨?_, ?_⟩⟩) (by rw [gg.i (by omega)]; exact hc1)
        · constructor <;> simp (disch := omega) only [hI_ne]
        · simp (disch := omega) only [hI_ne, hI_eq]; rfl
        · (try dsimp only at q); omega
        · simp (disch := omega) only [hI_ne, hI_eq]
        · rw [hI_eq]
      repeat' (first | exact trivial | (with_reducible refine And.intro ?_ ?_) | exact vp_nI (by omega) (by omega) | exact vp_nI (j := 0) (by decide) (by decide) | exact vp_nI (j := 1) (by decide) (by decide) | decide | (exact v) | (exact v7) | (exact go) | (with_reducible intro z1; first | exact absurd trivial z1 | exact z1.elim) | (with_reducible intro z1) | omega)
    · rw [b01_eq] at y
      exact bad (by rw [y, Bool.and_false])
end WF
