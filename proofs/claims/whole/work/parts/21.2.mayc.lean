/-! ===== which joints may stand, the class ===== -/
section WC
variable {w : Wd} {L : Nat} {h : Hp} {o : Nat → Nat} {S : Ly} {Q : Int32 → Hp → Prop} {p : Pr}
theorem sp_goTogether {k : Nat} {x y : Int32} (c : Lay L h) (hk : k < 7) (K1 : gT k x.toInt y.toInt → Q 1 h) (K0 : ¬ gT k x.toInt y.toInt → Q 0 h) : AC w mX3_goTogether 0 0 (rI Q) [.int (nI k), .int x, .int y] h := by
  have l2 := lS_le k
  have r2 := rS_le k
  have k31 : ∀ z : Int32, (z = 0 ∧ ¬ (0 ≤ x.toInt ∧ x.toInt < lS k ∧ 0 ≤ y.toInt ∧ y.toInt < rS k)) ∨ (z = 1 ∧ (0 ≤ x.toInt ∧ x.toInt < lS k ∧ 0 ≤ y.toInt ∧ y.toInt < rS k)) → AW w mX3_goTogether 0 0 (rI Q) 0 0 31 [some (.int (nI k)), some (.int x), some (.int y), none] [.int z] h := by
    intro z hz
    refine sX3_goTogether_31 ?_
    rcases hz with ⟨rfl, hz⟩ | ⟨rfl, hz⟩
    · exact ⟨fun _ => K0 (fun g => hz ⟨g.1, g.2.1, g.2.2.1, g.2.2.2.1⟩), fun q => absurd rfl q⟩
    · refine ⟨fun q => absurd q (by decide), fun _ => ⟨fun q => K1 ⟨hz.1, hz.2.1, hz.2.2.1, hz.2.2.2, fun e => absurd (by rw [e]; rfl) q⟩, fun q => ⟨fun r => K0 (fun g => ?_), fun r => K1 ⟨hz.1, hz.2.1, hz.2.2.1, hz.2.2.2, fun _ e => r (ti_eq.mpr e)⟩⟩⟩⟩
      have : k = 6 := by
        have := ti_eq.mp q
        rw [nI_toInt (by omega), t_6] at this
        omega
      exact g.2.2.2.2 this (ti_eq.mp r)
  refine eX3_goTogether (sX3_goTogether_0 ?_)
  simp (disch := omega) only [s_1 c, s_2 c, l_1 c hk, l_2 c hk, cl_nI, ti_lt, ti_le, nI_toInt, t_0]
  repeat' (first | exact trivial | (with_reducible refine And.intro ?_ ?_) | exact vp_nI (by omega) (by omega) | exact vp_nI (j := 0) (by decide) (by decide) | exact vp_nI (j := 1) (by decide) (by decide) | decide | (exact k31 0 (Or.inl ⟨rfl, by omega⟩)) | (exact k31 1 (Or.inr ⟨rfl, by omega⟩)) | (with_reducible intro z1; first | exact absurd trivial z1 | exact z1.elim) | (with_reducible intro z1) | omega)
theorem okP_bd {p : Pr} (ok : okP p) {i : Nat} (hi : i < 20) : (-1 ≤ (p.1 i).toInt ∧ (p.1 i).toInt < 20) ∧ (-1 ≤ (p.2 i).toInt ∧ (p.2 i).toInt < 20) := by
  refine ⟨?_, ?_⟩
  · rcases (ok i hi).1 with q | ⟨j, hj, q⟩
    · rw [q, tm_1]; omega
    · rw [q, nI_toInt (by omega)]; omega
  · rcases (ok i hi).2 with q | ⟨j, hj, q⟩
    · rw [q, tm_1]; omega
    · rw [q, nI_toInt (by omega)]; omega
theorem sp_allow {k i j : Nat} (c : Lay L h) (P : pairC h p) (hk : k < 7) (hi : i + lS k ≤ 20) (hj : j + rS k ≤ 20) (hi2 : i ≤ 20) (hj2 : j ≤ 20) (K1 : fastP p k i j → Q 1 h) (K0 : ¬ fastP p k i j → Q 0 h) : AC w mX3_allow 0 0 (rI Q) [.ref 224, .int (nI k), .int (nI i), .int (nI j)] h := by
  have l2 := lS_le k
  have r2 := rS_le k
  have lr : (∀ u, u < lS k → p.1 (i + u) = -1 ∨ gT k u ((p.1 (i + u)).toInt - j)) → ∀ (d v : Nat), v + d = rS k → (∀ u, u < v → p.2 (j + u) = -1 ∨ gT k ((p.2 (j + u)).toInt - i) u) → AW w mX3_allow 0 0 (rI Q) 0 0 54 [some (.ref 224), some (.int (nI k)), some (.int (nI i)), some (.int (nI j)), some (.int (nI v)), none] [] h := by
    intro hl d
    induction d with
    | zero =>
      intro v hv hr
      have hv : v = rS k := by omega
      refine sX3_allow_54 ?_
      have KK := K1 ⟨hl, fun u hu => hr u (by omega)⟩
      simp (disch := omega) only [s_2 c, l_2 c hk, cl_nI, ti_le, nI_toInt]
      repeat' (first | exact trivial | (with_reducible refine And.intro ?_ ?_) | exact vp_nI (by omega) (by omega) | exact vp_nI (j := 0) (by decide) (by decide) | exact vp_nI (j := 1) (by decide) (by decide) | decide | (exact KK) | (with_reducible intro z1; first | exact absurd trivial z1 | exact z1.elim) | (with_reducible intro z1) | omega)
    | succ d ih =>
      intro v hv hr
      refine sX3_allow_54 ?_
      have hp := (P.2.2 (j + v) (by omega)).2
      have bd := (okP_bd P.1 (show j + v < 20 by omega)).2
      have es : (p.2 (j + v) - nI i).toInt = (p.2 (j + v)).toInt - i := by rw [ti_sub] <;> rw [nI_toInt (by omega)] <;> omega
      have nx : (p.2 (j + v) = -1 ∨ gT k ((p.2 (j + v)).toInt - i) v) → AW w mX3_allow 0 0 (rI Q) 0 0 54 [some (.ref 224), some (.int (nI k)), some (.int (nI i)), some (.int (nI j)), some (.int (nI (v + 1))), none] [] h := fun q => ih (v + 1) (by omega) (fun u hu => by
        by_cases e : u = v
        · subst e; exact q
        · exact hr u (by omega))
      simp (disch := omega) only [s_224 c, r_224_1 c, s_226 c, s_2 c, l_2 c hk, nI_add, nI_1, cl_nI, hp]
      refine ⟨trivial, vp_nI (by omega) (by decide), fun z => ?_, fun _ => ⟨trivial, by first | decide | exact vp_nI (j := 0) (by decide) (by decide) | exact vp_nI (j := 1) (by decide) (by decide), trivial, vp_nI (by omega) (by decide), fun q => nx (Or.inl q), fun q => sp_goTogether c hk (fun g => ?_) (fun g => ?_)⟩⟩
      · rw [ti_le, nI_toInt (by omega), nI_toInt (by omega)] at z; omega
      · rw [es, nI_toInt (by omega)] at g
        exact ⟨fun _ => nx (Or.inr g), fun z => absurd z (by decide)⟩
      · rw [es, nI_toInt (by omega)] at g
        exact ⟨fun z => absurd rfl z, fun _ => K0 (fun f => (f.2 v (by omega)).elim q g)⟩
  have lp : ∀ (d v : Nat), v + d = lS k → (∀ u, u < v → p.1 (i + u) = -1 ∨ gT k u ((p.1 (i + u)).toInt - j)) → AW w mX3_allow 0 0 (rI Q) 0 0 3 [some (.ref 224), some (.int (nI k)), some (.int (nI i)), some (.int (nI j)), some (.int (nI v)), none] [] h := by
    intro d
    induction d with
    | zero =>
      intro v hv hl
      have hv : v = lS k := by omega
      refine sX3_allow_3 ?_
      have KK := lr (fun u hu => hl u (by omega)) (rS k) 0 (by omega) (fun u hu => by omega)
      simp (disch := omega) only [s_1 c, l_1 c hk, cl_nI, ti_le, nI_toInt]
      repeat' (first | exact trivial | (with_reducible refine And.intro ?_ ?_) | exact vp_nI (by omega) (by omega) | exact vp_nI (j := 0) (by decide) (by decide) | exact vp_nI (j := 1) (by decide) (by decide) | decide | (exact KK) | (with_reducible intro z1; first | exact absurd trivial z1 | exact z1.elim) | (with_reducible intro z1) | omega)
    | succ d ih =>
      intro v hv hl
      refine sX3_allow_3 ?_
      have hp := (P.2.2 (i + v) (by omega)).1
      have bd := (okP_bd P.1 (show i + v < 20 by omega)).1
      have es : (p.1 (i + v) - nI j).toInt = (p.1 (i + v)).toInt - j := by rw [ti_sub] <;> rw [nI_toInt (by omega)] <;> omega
      have nx : (p.1 (i + v) = -1 ∨ gT k v ((p.1 (i + v)).toInt - j)) → AW w mX3_allow 0 0 (rI Q) 0 0 3 [some (.ref 224), some (.int (nI k)), some (.int (nI i)), some (.int (nI j)), some (.int (nI (v + 1))), none] [] h := fun q => ih (v + 1) (by omega) (fun u hu => by
        by_cases e : u = v
        · subst e; exact q
        · exact hl u (by omega))
      simp (disch := omega) only [s_224 c, r_224_0 c, s_225 c, s_1 c, l_1 c hk, nI_add, nI_1, cl_nI, hp]
      refine ⟨trivial, vp_nI (by omega) (by decide), fun z => ?_, fun _ => ⟨trivial, by first | decide | exact vp_nI (j := 0) (by decide) (by decide) | exact vp_nI (j := 1) (by decide) (by decide), trivial, vp_nI (by omega) (by decide), fun q => nx (Or.inl q), fun q => sp_goTogether c hk (fun g => ?_) (fun g => ?_)⟩⟩
      · rw [ti_le, nI_toInt (by omega), nI_toInt (by omega)] at z; omega
      · rw [es, nI_toInt (by omega)] at g
        exact ⟨fun _ => nx (Or.inr g), fun z => absurd z (by decide)⟩
      · rw [es, nI_toInt (by omega)] at g
        exact ⟨fun z => absurd rfl z, fun _ => K0 (fun f => (f.1 v (by omega)).elim q g)⟩
  exact eX3_allow (sX3_allow_0 (lp (lS k) 0 (by omega) (fun u hu => by omega)))
theorem upT_le {B : Bk} (q : Nat) : upT B q ≤ bNs B := by
  have : upT B q ≤ bNs B * 1 := sm_le (fun i _ => by (try dsimp only); split <;> omega)
  omega
theorem sp_keepsPar {i j i2 j2 : Nat} (c : Lay L h) (T : booksC h o S.1) (h1 : i < 1000) (h2 : j < 1000) (h3 : i2 < 1000) (h4 : j2 < 1000) (K1 : parP S.1 i j i2 j2 → Q 1 h) (K0 : ¬ parP S.1 i j i2 j2 → Q 0 h) : AC w mX7_keepsParagraphs 0 0 (rI Q) [.ref 311, .int (nI i), .int (nI j), .int (nI i2), .int (nI j2)] h := by
  have hb0 := T.1.2.1
  have hb1 := T.1.2.2.1
  have n0 := T.2.1.1.1
  have n1 := T.2.2.1.1
  have m0 := T.2.1.1.2.2.1
  have m1 := T.2.2.1.2.2.1
  have e0 : hR h 19 0 = o 0 := T.1.1.1
  have e1 : hR h 19 1 = o 1 := T.1.1.2
  have b0 := isBk_223 hb0
  have b1 := isBk_223 hb1
  have lp : ∀ (M : Nat), (M = bNp (S.1 0) ∨ M = bNp (S.1 1)) → M ≤ bNp (S.1 0) → M ≤ bNp (S.1 1) → ∀ (d q : Nat), q + d = M → (∀ u, u < q → (i2 ≤ upT (S.1 0) u ∧ j2 ≤ upT (S.1 1) u) ∨ (upT (S.1 0) u ≤ i ∧ upT (S.1 1) u ≤ j)) → AW w mX7_keepsParagraphs 0 0 (rI Q) 0 0 26 [some (.ref 311), some (.int (nI i)), some (.int (nI j)), some (.int (nI i2)), some (.int (nI j2)), some (.int (nI M)), some (.int (nI q)), none, none, none, none] [] h := by
    intro M hM hM0 hM1 d
    induction d with
    | zero =>
      intro q hq hl
      have hq : q = M := by omega
      refine sX7_keepsParagraphs_26 ?_
      have KK := K1 (fun u u0 u1 => hl u (by omega))
      refine ⟨fun _ => KK, fun z => absurd (by rw [hq]; rw [ti_le]; omega) z⟩
    | succ d ih =>
      intro q hq hl
      have v0 := T.2.1.2.2.2.2.2.2 q (by omega)
      have v1 := T.2.2.2.2.2.2.2.2 q (by omega)
      have u0 := upT_le (B := S.1 0) q
      have u1 := upT_le (B := S.1 1) q
      have nx : ((i2 ≤ upT (S.1 0) q ∧ j2 ≤ upT (S.1 1) q) ∨ (upT (S.1 0) q ≤ i ∧ upT (S.1 1) q ≤ j)) → AW w mX7_keepsParagraphs 0 0 (rI Q) 0 0 26 [some (.ref 311), some (.int (nI i)), some (.int (nI j)), some (.int (nI i2)), some (.int (nI j2)), some (.int (nI M)), some (.int (nI (q + 1))), none, none, none, none] [] h := fun z => ih (q + 1) (by omega) (fun u hu => by
        by_cases e : u = q
        · subst e; exact z
        · exact hl u (by omega))
      have no : ¬ ((i2 ≤ upT (S.1 0) q ∧ j2 ≤ upT (S.1 1) q) ∨ (upT (S.1 0) q ≤ i ∧ upT (S.1 1) q ≤ j)) → Q 0 h := fun z => K0 (fun f => z (f q (by omega) (by omega)))
      have k79 : ∀ y : Int32, (y = 1 ∧ i2 ≤ upT (S.1 0) q ∧ j2 ≤ upT (S.1 1) q) ∨ (y = 0 ∧ ¬ (i2 ≤ upT (S.1 0) q ∧ j2 ≤ upT (S.1 1) q)) → AW w mX7_keepsParagraphs 0 0 (rI Q) 0 0 79 [some (.ref 311), some (.int (nI i)), some (.int (nI j)), some (.int (nI i2)), some (.int (nI j2)), some (.int (nI M)), some (.int (nI q)), some (.int (nI (upT (S.1 0) q))), some (.int (nI (upT (S.1 1) q))), none, none] [.int y] h := by
        intro y hy
        refine sX7_keepsParagraphs_79 ?_
        rw [nI_1]
        rcases hy with ⟨rfl, hy⟩ | ⟨rfl, hy⟩
        · have N := nx (Or.inl hy)
          exact ⟨fun _ => ⟨fun _ => N, fun z => absurd z (by decide)⟩, fun _ => ⟨fun _ => ⟨fun _ => N, fun z => absurd z (by decide)⟩, fun _ => ⟨fun _ => N, fun z => absurd z (by decide)⟩⟩⟩
        · refine ⟨fun z1 => ⟨fun z => absurd rfl z, fun _ => no ?_⟩, fun z1 => ⟨fun z2 => ⟨fun z => absurd rfl z, fun _ => no ?_⟩, fun z2 => ⟨fun z => absurd rfl z, fun _ => nx (Or.inr ?_)⟩⟩⟩
          · rw [ti_lt, nI_toInt (by omega), nI_toInt (by omega)] at z1; omega
          · rw [ti_lt, nI_toInt (by omega), nI_toInt (by omega)] at z2; omega
          · rw [ti_lt, nI_toInt (by omega), nI_toInt (by omega)] at z1 z2; omega
      refine sX7_keepsParagraphs_26 ?_
      simp (disch := omega) only [s_311 c, r_311_0 c, s_19 c, e0c, e1c, e0, e1, sb_this c hb0, sb_this c hb1, show hR h (o 0) 4 = o 0 + 67 from rb_0_4 c hb0, show hR h (o 1) 4 = o 1 + 67 from rb_0_4 c hb1, sb_67 c hb0, sb_67 c hb1, cl_nI, v0, v1, ti_le, ti_lt, nI_toInt]
      repeat' (first | exact trivial | (with_reducible refine And.intro ?_ ?_) | exact vp_nI (by omega) (by omega) | exact vp_nI (j := 0) (by decide) (by decide) | exact vp_nI (j := 1) (by decide) (by decide) | decide | (exact k79 0 (Or.inr ⟨rfl, by omega⟩)) | (exact k79 1 (Or.inl ⟨rfl, by omega, by omega⟩)) | (with_reducible intro z1; first | exact absurd trivial z1 | exact z1.elim) | (with_reducible intro z1) | omega)
  refine eX7_keepsParagraphs (sX7_keepsParagraphs_0 ?_)
  have g0 := T.2.1.2.2.1
  have g1 := T.2.2.2.2.1
  simp (disch := omega) only [s_311 c, r_311_0 c, s_19 c, e0c, e1c, e0, e1, sb_this c hb0, sb_this c hb1, g0, g1]
  refine ⟨trivial, by first | decide | exact vp_nI (j := 0) (by decide) (by decide) | exact vp_nI (j := 1) (by decide) (by decide), trivial, by first | decide | exact vp_nI (j := 0) (by decide) (by decide) | exact vp_nI (j := 1) (by decide) (by decide), by omega, trivial, by first | decide | exact vp_nI (j := 0) (by decide) (by decide) | exact vp_nI (j := 1) (by decide) (by decide), by omega, trivial, ?_⟩
  by_cases z : nI (bNp (S.1 1)) < nI (bNp (S.1 0))
  · rw [if_pos z]
    rw [ti_lt, nI_toInt (by omega), nI_toInt (by omega)] at z
    exact lp (bNp (S.1 1)) (Or.inr rfl) (by omega) (Nat.le_refl _) _ 0 (Nat.zero_add _) (fun u hu => by omega)
  · rw [if_neg z]
    rw [ti_lt, nI_toInt (by omega), nI_toInt (by omega)] at z
    exact lp (bNp (S.1 0)) (Or.inl rfl) (Nat.le_refl _) (by omega) _ 0 (Nat.zero_add _) (fun u hu => by omega)
theorem hasRn_iff {B : Bk} {i n : Nat} (hi : i ≤ bNs B) (h20 : bNs B ≤ 20) (hn : n ≤ 2) : hasRn B (nI i) (nI n) = true ↔ i + n ≤ bNs B := by
  unfold hasRn
  rw [nI_toInt (by omega), nI_toInt (by omega), decide_eq_true_iff]
  omega
theorem sp_mayStand {k i j : Nat} (c : Lay L h) (T : lyC h o S) (hk : k < 7) (hi : i ≤ bNs (S.1 0)) (hj : j ≤ bNs (S.1 1)) (K1 : mayP S k i j → Q 1 h) (K0 : ¬ mayP S k i j → Q 0 h) : AC w mX7_mayStand 0 0 (rI Q) [.ref 311, .int (nI k), .int (nI i), .int (nI j)] h := by
  obtain ⟨T, P, kp⟩ := T
  have hb0 := T.1.2.1
  have hb1 := T.1.2.2.1
  have n0 := T.2.1.1.1
  have n1 := T.2.2.1.1
  have e0 : hR h 19 0 = o 0 := T.1.1.1
  have e1 : hR h 19 1 = o 1 := T.1.1.2
  have b0 := isBk_223 hb0
  have b1 := isBk_223 hb1
  have l2 := lS_le k
  have r2 := rS_le k
  refine eX7_mayStand (sX7_mayStand_0 ?_)
  simp (disch := omega) only [s_311 c, r_311_0 c, s_19 c, e0c, e0, s_1 c, sb_this c hb0, cl_nI, l_1 c hk]
  refine ⟨trivial, by first | decide | exact vp_nI (j := 0) (by decide) (by decide) | exact vp_nI (j := 1) (by decide) (by decide), trivial, by first | decide | exact vp_nI (j := 0) (by decide) (by decide) | exact vp_nI (j := 1) (by decide) (by decide), by omega, trivial, vp_nI (by omega) (by decide), trivial, sp_hasRun c hb0 T.2.1 l2 ⟨fun q => ?_, fun q => ?_⟩⟩
  · rw [b01_eq] at q
    exact K0 (fun m => by rw [(hasRn_iff hi n0 l2).mpr m.1] at q; cases q)
  · rw [b01_ne, hasRn_iff hi n0 l2] at q
    simp (disch := omega) only [s_311 c, r_311_0 c, s_19 c, e1c, e1, s_2 c, sb_this c hb1, cl_nI, l_2 c hk]
    refine ⟨trivial, by first | decide | exact vp_nI (j := 0) (by decide) (by decide) | exact vp_nI (j := 1) (by decide) (by decide), trivial, by first | decide | exact vp_nI (j := 0) (by decide) (by decide) | exact vp_nI (j := 1) (by decide) (by decide), by omega, trivial, vp_nI (by omega) (by decide), trivial, sp_hasRun c hb1 T.2.2 r2 ⟨fun q2 => ?_, fun q2 => ?_⟩⟩
    · rw [b01_eq] at q2
      exact K0 (fun m => by rw [(hasRn_iff hj n1 r2).mpr m.2.1] at q2; cases q2)
    · rw [b01_ne, hasRn_iff hj n1 r2] at q2
      simp (disch := omega) only [s_311 c, r_311_1 c, s_224 c]
      refine ⟨trivial, by first | decide | exact vp_nI (j := 0) (by decide) (by decide) | exact vp_nI (j := 1) (by decide) (by decide), trivial, sp_allow c P hk (by omega) (by omega) (by omega) (by omega) (fun f => ⟨fun z => absurd z (by decide), fun _ => ?_⟩) (fun f => ⟨fun _ => K0 (fun m => f m.2.2.1), fun z => absurd rfl z⟩)⟩
      rw [kp, s_311 c]
      refine ⟨rfl, fun z => ?_, fun z => ?_⟩
      · rw [b01_eq] at z
        exact K1 ⟨q, q2, f, fun y => by rw [z] at y; cases y⟩
      · rw [b01_ne] at z
        simp (disch := omega) only [s_1 c, s_2 c, l_1 c hk, l_2 c hk, cl_nI, nI_add]
        refine ⟨trivial, vp_nI (by omega) (by decide), trivial, vp_nI (by omega) (by decide), sp_keepsPar c T (by omega) (by omega) (by omega) (by omega) (fun g => ⟨fun z => absurd z (by decide), fun _ => K1 ⟨q, q2, f, fun _ => g⟩⟩) (fun g => ⟨fun _ => K0 (fun m => g (m.2.2.2 z)), fun z => absurd rfl z⟩)⟩
end WC
