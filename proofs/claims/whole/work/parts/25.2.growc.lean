/-! ===== links, the class: growing ===== -/
def tC (h : Hp) (nl nr : Nat) (tR tL : Nat → Option Nat) : Prop := (∀ x b, tR x = some b → b < nr) ∧ (∀ y b, tL y = some b → b < nl) ∧ (∀ x, x < nl → hI h 326 x = oI (tR x)) ∧ ∀ y, y < nr → hI h 327 y = oI (tL y)
theorem tC.cg {D : Nat → Nat → Prop} {h h' : Hp} {nl nr : Nat} {tR tL : Nat → Option Nat} (T : tC h nl nr tR tL) (g : Cg D h h') (hd : ∀ id j, D id j → id ≠ 326 ∧ id ≠ 327) : tC h' nl nr tR tL :=
  ⟨T.1, T.2.1, fun x hx => by rw [g.i (fun q => (hd _ _ q).1 rfl)]; exact T.2.2.1 x hx, fun y hy => by rw [g.i (fun q => (hd _ _ q).2 rfl)]; exact T.2.2.2 y hy⟩
def gC (h : Hp) (nl nr : Nat) (g : Nat → Nat → Bool) : Prop := okG g nl nr ∧ (∀ x, x < nl → ib (hI h 328 x) (fun p => g x p)) ∧ ∀ y, y < nr → ib (hI h 329 y) (fun p => g p y)
theorem oI_eq {o : Option Nat} {y n : Nat} (h : ∀ b, o = some b → b < n) (hn : n ≤ 20) (hy : y < 1000) : oI o = nI y ↔ o = some y := by
  cases o with
  | none => exact ⟨fun q => absurd q.symm (nI_m1 (by omega)), fun q => by cases q⟩
  | some b =>
    have := h b rfl
    show nI b = nI y ↔ some b = some y
    rw [nI_inj (by omega) (by omega)]
    exact ⟨fun q => by rw [q], fun q => by cases q; rfl⟩
section LB
variable {w : Wd} {L : Nat} {h : Hp} {nl nr : Nat} {lk rk : Nat → Nat} {tR tL : Nat → Option Nat} {G : Nat → Nat → Bool}
theorem sp_isBothC {Q : Int32 → Hp → Prop} {x y : Nat} (c : Lay L h) (T : lkC h nl nr lk rk) (R : tC h nl nr tR tL) (hx : x < nl) (hy : y < nr) (K : Q (b01 (bth tR tL x y)) h) : AC w mX2_isBoth 0 0 (rI Q) [.ref 323, .int (nI x), .int (nI y)] h := by
  have t1 := T.1.1
  have t2 := T.1.2
  have i1 := oI_eq (y := y) (R.1 x) t2 (by omega)
  have i2 := oI_eq (y := x) (R.2.1 y) t1 (by omega)
  refine eX2_isBoth (sX2_isBoth_0 ?_)
  rw [s_323 c, r_323_7 c, s_326 c, cl_nI (by omega), R.2.2.1 x hx, r_323_8 c, s_327 c, cl_nI (by omega), R.2.2.2 y hy]
  refine ⟨rfl, by first | decide | exact vp_nI (j := 0) (by decide) (by decide) | exact vp_nI (j := 1) (by decide) (by decide), rfl, vp_nI (by omega) (by decide), fun z => Qto K (b0 ?_), fun z => ⟨by first | decide | exact vp_nI (j := 0) (by decide) (by decide) | exact vp_nI (j := 1) (by decide) (by decide), rfl, vp_nI (by omega) (by decide), fun z2 => Qto K (b0 ?_), fun z2 => Qto K (b1 ?_)⟩⟩
  · unfold bth
    rw [show (tR x == some y) = false by simpa using fun q => z (i1.mpr q)]; rfl
  · unfold bth
    rw [show (tL y == some x) = false by simpa using fun q => z2 (i2.mpr q), Bool.and_false]
  · unfold bth
    rw [i1.mp z, i2.mp z2]; simp
theorem sp_isGrownC {Q : Int32 → Hp → Prop} {x y : Nat} (c : Lay L h) (T : lkC h nl nr lk rk) (E : gC h nl nr G) (hx : x < nl) (hy : y < nr) (K : Q (b01 (G x y)) h) : AC w mX2_isGrown 0 0 (rI Q) [.ref 323, .int (nI x), .int (nI y)] h := by
  have t1 := T.1.1
  have t2 := T.1.2
  refine eX2_isGrown (sX2_isGrown_0 ?_)
  rw [s_323 c, r_323_9 c, s_328 c, cl_nI (by omega), ib_t (E.2.1 x hx) (by omega)]
  refine ⟨rfl, by first | decide | exact vp_nI (j := 0) (by decide) (by decide) | exact vp_nI (j := 1) (by decide) (by decide), rfl, vp_nI (by omega) (by decide), fun z => Qto K (b0 z), fun z => Qto K (b1 (by simpa using z))⟩
theorem sp_addGrown {Q : Hp → Prop} {x y : Nat} (c : Lay L h) (T : lkC h nl nr lk rk) (E : gC h nl nr G) (hx : x < nl) (hy : y < nr) (K : ∀ h', Cg (fun id _ => id = 328 ∨ id = 329) h h' → gC h' nl nr (setG G x y) → Q h') : AC w mX2_addGrown 0 0 (rV Q) [.ref 323, .int (nI x), .int (nI y)] h := by
  have t1 := T.1.1
  have t2 := T.1.2
  refine eX2_addGrown (sX2_addGrown_0 ?_)
  rw [s_323 c, r_323_9 c, s_328 c, r_323_10 c, s_329 c, cl_nI (show x < 2147483648 by omega), cl_nI (show y < 2147483648 by omega)]
  refine ⟨rfl, by first | decide | exact vp_nI (j := 0) (by decide) (by decide) | exact vp_nI (j := 1) (by decide) (by decide), rfl, vp_nI (by omega) (by decide), fun h1 e1 => ⟨by first | decide | exact vp_nI (j := 0) (by decide) (by decide) | exact vp_nI (j := 1) (by decide) (by decide), rfl, vp_nI (by omega) (by decide), fun h2 e2 => ?_⟩⟩
  subst e1
  rw [hI_ne (Or.inl (by decide))] at e2
  subst e2
  refine K _ (((Cg.rfl' h).sI (D := fun id _ => id = 328 ∨ id = 329) (Or.inl rfl)).sI (Or.inr rfl)) ⟨E.1.set hx hy, fun u hu => ?_, fun v hv => ?_⟩
  · rw [hI_ne (Or.inl (by decide))]
    by_cases q : u = x
    · subst q
      rw [hI_eq]
      refine ib_e (ib_or (E.2.1 u hu) (ib_1 (show y < 20 by omega))) (fun p hp => ?_)
      show (G u p || y == p) = setG G u y u p
      unfold setG
      by_cases e : p = y
      · subst e; rw [if_pos ⟨rfl, rfl⟩]; simp
      · rw [if_neg (fun z => e z.2), show (y == p) = false by simpa using fun z => e z.symm, Bool.or_false]
    · rw [hI_ne (Or.inr q)]
      refine ib_e (E.2.1 u hu) (fun p hp => ?_)
      exact (if_neg (fun z => q z.1)).symm
  · by_cases q : v = y
    · subst q
      rw [hI_eq]
      refine ib_e (ib_or (E.2.2 v hv) (ib_1 (show x < 20 by omega))) (fun p hp => ?_)
      show (G p v || x == p) = setG G x v p v
      unfold setG
      by_cases e : p = x
      · subst e; rw [if_pos ⟨rfl, rfl⟩]; simp
      · rw [if_neg (fun z => e z.1), show (x == p) = false by simpa using fun z => e z.symm, Bool.or_false]
    · rw [hI_ne (Or.inr q), hI_ne (Or.inl (by decide))]
      refine ib_e (E.2.2 v hv) (fun p hp => ?_)
      exact (if_neg (fun z => q z.2)).symm
theorem setG_bth {k : Nat} (x y : Nat) : (bth tR tL k y = true) → (∀ z, bth tR tL k z = true → z = y) → setG (fun u v => bth tR tL u v && decide (u < k)) k y x = fun v => bth tR tL x v && decide (x < k + 1) := fun hy hu => by
  funext v
  unfold setG
  by_cases e : x = k ∧ v = y
  · obtain ⟨rfl, rfl⟩ := e
    rw [if_pos ⟨rfl, rfl⟩, hy]; simp
  · rw [if_neg e]
    by_cases q : x = k
    · subst q
      have : bth tR tL x v = false := by
        cases r : bth tR tL x v with
        | false => rfl
        | true => exact absurd ⟨rfl, hu v r⟩ e
      rw [this]; simp
    · have : decide (x < k) = decide (x < k + 1) := by
        by_cases u : x < k
        · rw [decide_eq_true u, decide_eq_true (by omega)]
        · rw [decide_eq_false u, decide_eq_false (by omega)]
      show (bth tR tL x v && decide (x < k)) = _
      rw [this]
theorem bth_some {x y : Nat} : bth tR tL x y = true ↔ tR x = some y ∧ tL y = some x := by
  unfold bth
  rw [Bool.and_eq_true, beq_iff_eq, beq_iff_eq]
theorem sp_growBoth {Q : Hp → Prop} (c : Lay L h) (T : lkC h nl nr lk rk) (R : tC h nl nr tR tL) (E : gC h nl nr (fun _ _ => false)) (K : ∀ h', Cg (fun id _ => id = 328 ∨ id = 329) h h' → gC h' nl nr (bth tR tL) → Q h') : AC w mX2_growBoth 0 0 (rV Q) [.ref 323] h := by
  have t1 := T.1.1
  have t2 := T.1.2
  have lp : ∀ (d k : Nat) (h' : Hp), k + d = nl → Cg (fun id _ => id = 328 ∨ id = 329) h h' → gC h' nl nr (fun u v => bth tR tL u v && decide (u < k)) → AW w mX2_growBoth 0 0 (rV Q) 0 0 2 [some (.ref 323), some (.int (nI k)), none] [] h' := by
    intro d
    induction d with
    | zero =>
      intro k h' hk g E'
      have hk : k = nl := by omega
      subst hk
      have c' : Lay L h' := g.lay c (fun id j q => by omega)
      have T' : lkC h' k nr lk rk := T.cg g (fun id j q => by omega)
      have e : (fun u v => bth tR tL u v && decide (u < k)) = bth tR tL := by
        funext u v
        cases r : bth tR tL u v with
        | false => rfl
        | true =>
          have := R.2.1 _ _ (bth_some.mp r).2
          rw [decide_eq_true this]; rfl
      rw [e] at E'
      refine sX2_growBoth_2 ?_
      rw [s_323 c', T'.2.1]
      exact ⟨rfl, fun _ => K h' g E', fun z => absurd (by rw [ti_le]; omega) z⟩
    | succ d ih =>
      intro k h' hk g E'
      have c' : Lay L h' := g.lay c (fun id j q => by omega)
      have T' : lkC h' nl nr lk rk := T.cg g (fun id j q => by omega)
      have R' : tC h' nl nr tR tL := R.cg g (fun id j q => by omega)
      have skip : (∀ v, bth tR tL k v = false) → gC h' nl nr (fun u v => bth tR tL u v && decide (u < k + 1)) := fun q => by
        have e : (fun u v => bth tR tL u v && decide (u < k)) = (fun u v => bth tR tL u v && decide (u < k + 1)) := by
          funext u v
          by_cases x : u = k
          · subst x; rw [q v]; rfl
          · by_cases y : u < k
            · rw [decide_eq_true y, decide_eq_true (by omega)]
            · rw [decide_eq_false y, decide_eq_false (by omega)]
        rw [← e]; exact E'
      refine sX2_growBoth_2 ?_
      rw [s_323 c', T'.2.1, r_323_7 c', s_326 c', cl_nI (by omega), R'.2.2.1 k (by omega), nI_1]
      refine ⟨rfl, fun z => ?_, fun _ => ⟨by first | decide | exact vp_nI (j := 0) (by decide) (by decide) | exact vp_nI (j := 1) (by decide) (by decide), rfl, vp_nI (by omega) (by decide), fun z => ?_, fun z => ?_⟩⟩
      · rw [ti_le, nI_toInt (by omega), nI_toInt (by omega)] at z; omega
      · rw [oI_n (fun b hb => by have := R.1 _ _ hb; omega)] at z
        refine ih (k + 1) h' (by omega) g (skip (fun v => ?_))
        cases r : bth tR tL k v with
        | false => rfl
        | true => rw [(bth_some.mp r).1] at z; cases z
      · cases q : tR k with
        | none => rw [q] at z; exact absurd rfl z
        | some y =>
          have hy := R.1 _ _ q
          show AC w mX2_isBoth 0 0 _ [.ref 323, .int (nI k), .int (nI y)] h'
          refine sp_isBothC c' T' R' (by omega) hy ⟨fun u => ?_, fun u => ?_⟩
          · rw [b01_eq] at u
            refine ih (k + 1) h' (by omega) g (skip (fun v => ?_))
            cases r : bth tR tL k v with
            | false => rfl
            | true =>
              have := (bth_some.mp r).1
              rw [q] at this
              cases this
              rw [u] at r; cases r
          · rw [b01_ne] at u
            refine ⟨by rw [s_323 c'], ?_⟩
            show AC w mX2_addGrown 0 0 _ [.ref 323, .int (nI k), .int (nI y)] h'
            refine sp_addGrown c' T' E' (by omega) hy (fun h2 g2 E2 => ih (k + 1) h2 (by omega) (g.trans g2) ?_)
            have e : setG (fun u v => bth tR tL u v && decide (u < k)) k y = (fun u v => bth tR tL u v && decide (u < k + 1)) := by
              funext x
              exact setG_bth x y u (fun v r => by
                have := (bth_some.mp r).1
                rw [q] at this
                cases this; rfl)
            rw [← e]; exact E2
  exact eX2_growBoth (sX2_growBoth_0 (lp nl 0 h (by omega) (Cg.rfl' h) (by
    have e : (fun u v => bth tR tL u v && decide (u < 0)) = (fun _ _ => false) := by
      funext u v
      rw [decide_eq_false (by omega), Bool.and_false]
    rw [e]; exact E)))
theorem sp_touches {Q : Int32 → Hp → Prop} {x y : Nat} (c : Lay L h) (T : lkC h nl nr lk rk) (E : gC h nl nr G) (hx : x < nl) (hy : y < nr) (K1 : nearP G nl nr x y → Q 1 h) (K0 : ¬ nearP G nl nr x y → Q 0 h) : AC w mX2_touchesGrown 0 0 (rI Q) [.ref 323, .int (nI x), .int (nI y)] h := by
  have t1 := T.1.1
  have t2 := T.1.2
  have i7 := ib_7 (show y < 20 by omega)
  refine eX2_touchesGrown (sX2_touchesGrown_0 ?_)
  generalize ((((7 : Int32) <<< (nI y &&& 31)).toUInt32 >>> ((1 : Int32).toUInt32 &&& Int32.toUInt32 31)).toInt32) = m7 at i7 ⊢
  have row : ∀ u, u < nl → (hI h 328 u &&& m7 = 0 ↔ ∀ v, v < nr → v ≤ y + 1 → y ≤ v + 1 → G u v = false) := fun u hu => by
    rw [ib_z (ib_and (E.2.1 u hu) i7)]
    refine ⟨fun q v hv h1 h2 => ?_, fun q p hp => ?_⟩
    · have := q v (by omega)
      (try dsimp only at this)
      rw [decide_eq_true ⟨h1, h2⟩, Bool.and_true] at this; exact this
    · (try dsimp only)
      by_cases r : p ≤ y + 1 ∧ y ≤ p + 1
      · rw [decide_eq_true r, Bool.and_true]
        cases e : G u p with
        | false => rfl
        | true => rw [q p (E.1 u p e).2 r.1 r.2] at e; cases e
      · rw [decide_eq_false r, Bool.and_false]
  have lp : ∀ (d u : Nat), u + d = x + 2 → x ≤ u + 1 → (∀ u', u' < u → u' < nl → x ≤ u' + 1 → ∀ v, v < nr → v ≤ y + 1 → y ≤ v + 1 → G u' v = false) → AW w mX2_touchesGrown 0 0 (rI Q) 0 0 16 [some (.ref 323), some (.int (nI x)), none, some (.int m7), some (.int (nI u))] [] h := by
    intro d
    induction d with
    | zero =>
      intro u hu hxu hn
      refine sX2_touchesGrown_16 ⟨fun _ => K0 (fun ⟨a, b, p1, p2, p3, p4, p5, p6, p7⟩ => by rw [hn a (by omega) p1 p4 b p2 p5 p6] at p7; cases p7), fun z => absurd ?_ z⟩
      rw [nI_1, ti_lt, nI_toInt (by omega), nI_toInt (by omega)]; omega
    | succ d ih =>
      intro u hu hxu hn
      refine sX2_touchesGrown_16 ?_
      rw [nI_1, nI_1, s_323 c, T.2.1, r_323_9 c, s_328 c, cl_nI (by omega)]
      refine ⟨fun z => ?_, fun _ => ⟨rfl, fun z => K0 (fun ⟨a, b, p1, p2, p3, p4, p5, p6, p7⟩ => ?_), fun z => ?_⟩⟩
      · rw [ti_lt, nI_toInt (by omega), nI_toInt (by omega)] at z; omega
      · rw [ti_le, nI_toInt (by omega), nI_toInt (by omega)] at z
        rw [hn a (by omega) p1 p4 b p2 p5 p6] at p7; cases p7
      · rw [ti_le, nI_toInt (by omega), nI_toInt (by omega)] at z
        refine ⟨by first | decide | exact vp_nI (j := 0) (by decide) (by decide) | exact vp_nI (j := 1) (by decide) (by decide), rfl, vp_nI (by omega) (by decide), fun q => ?_, fun q => K1 ?_⟩
        · rw [row u (by omega)] at q
          refine ih (u + 1) (by omega) (by omega) (fun u' h1 h2 h3 v hv h4 h5 => ?_)
          by_cases e : u' = u
          · subst e; exact q v hv h4 h5
          · exact hn u' (by omega) h2 h3 v hv h4 h5
        · rw [row u (by omega)] at q
          refine Classical.byContradiction (fun ne => q (fun v hv h4 h5 => ?_))
          cases e : G u v with
          | false => rfl
          | true => exact absurd ⟨u, v, by omega, hv, by omega, by omega, h4, h5, e⟩ ne
  by_cases q : x = 0
  · subst q
    have : (if nI 0 - 1 < (0 : Int32) then 0 else nI 0 - 1) = nI 0 := by decide
    rw [this]
    exact lp 2 0 (by omega) (by omega) (fun u' h1 => by omega)
  · have e : nI x - 1 = nI (x - 1) := nI_sub1 (by omega)
    rw [e, if_neg (by rw [ti_lt, t_0, nI_toInt (by omega)]; omega)]
    exact lp 3 (x - 1) (by omega) (by omega) (fun u' h1 h2 h3 => by omega)
theorem sp_mayGrow {Q : Int32 → Hp → Prop} {x y : Nat} (c : Lay L h) (T : lkC h nl nr lk rk) (R : tC h nl nr tR tL) (E : gC h nl nr G) (hx : x < nl) (hy : y < nr) (K1 : mayG tR tL nl nr G x y → Q 1 h) (K0 : ¬ mayG tR tL nl nr G x y → Q 0 h) : AC w mX2_mayGrow 0 0 (rI Q) [.ref 323, .int (nI x), .int (nI y)] h := by
  have t1 := T.1.1
  have t2 := T.1.2
  have i1 := oI_eq (y := y) (R.1 x) t2 (by omega)
  have i2 := oI_eq (y := x) (R.2.1 y) t1 (by omega)
  have k49 : ∀ a b : Int32, (a = 0 → ¬ (tR x = some y ∨ tL y = some x)) → (¬ a = 0 → (tR x = some y ∨ tL y = some x)) → (b = 0 → ¬ freeP G nl nr x y) → (¬ b = 0 → freeP G nl nr x y) → AW w mX2_mayGrow 0 0 (rI Q) 0 0 49 [some (.ref 323), some (.int (nI x)), some (.int (nI y)), some (.int a), none] [.int b] h := fun a b a0 a1 b0 b1 => by
    refine sX2_mayGrow_49 ⟨fun z => K0 (fun m => a0 z m.1), fun z => ⟨fun z2 => K0 (fun m => b0 z2 m.2.2.2), fun z2 => ⟨by rw [s_323 c], sp_isGrownC c T E hx hy ⟨fun z3 => ?_, fun z3 => ⟨by rw [s_323 c], sp_touches c T E hx hy (fun z4 => ⟨fun u => absurd u (by decide), fun _ => K1 ⟨a1 z, ?_, z4, b1 z2⟩⟩) (fun z4 => ⟨fun _ => K0 (fun m => z4 m.2.2.1), fun u => absurd rfl u⟩)⟩⟩⟩⟩⟩
    · rw [b01_ne] at z3
      exact K0 (fun m => by rw [m.2.1] at z3; cases z3)
    · rw [b01_eq] at z3; exact z3
  have fr1 : hI h 328 x = 0 ↔ ∀ v, v < nr → G x v = false := by
    rw [ib_z (E.2.1 x hx)]
    refine ⟨fun q v hv => q v (by omega), fun q p hp => ?_⟩
    (try dsimp only)
    cases e : G x p with
    | false => rfl
    | true => rw [q p (E.1 x p e).2] at e; cases e
  have fr2 : hI h 329 y = 0 ↔ ∀ u, u < nl → G u y = false := by
    rw [ib_z (E.2.2 y hy)]
    refine ⟨fun q v hv => q v (by omega), fun q p hp => ?_⟩
    (try dsimp only)
    cases e : G p y with
    | false => rfl
    | true => rw [q p (E.1 p y e).1] at e; cases e
  have k25 : ∀ a : Int32, (a = 0 → ¬ (tR x = some y ∨ tL y = some x)) → (¬ a = 0 → (tR x = some y ∨ tL y = some x)) → AW w mX2_mayGrow 0 0 (rI Q) 0 0 25 [some (.ref 323), some (.int (nI x)), some (.int (nI y)), none, none] [.int a] h := fun a a0 a1 => by
    refine sX2_mayGrow_25 ?_
    rw [s_323 c, r_323_9 c, s_328 c, cl_nI (by omega), r_323_10 c, s_329 c, cl_nI (by omega), fr1, fr2]
    refine ⟨rfl, by first | decide | exact vp_nI (j := 0) (by decide) (by decide) | exact vp_nI (j := 1) (by decide) (by decide), rfl, vp_nI (by omega) (by decide), fun z => k49 a 1 a0 a1 (fun u => absurd u (by decide)) (fun _ => Or.inl z), fun z => ⟨by first | decide | exact vp_nI (j := 0) (by decide) (by decide) | exact vp_nI (j := 1) (by decide) (by decide), rfl, vp_nI (by omega) (by decide), fun z2 => k49 a 0 a0 a1 (fun _ f => f.elim z z2) (fun u => absurd rfl u), fun z2 => k49 a 1 a0 a1 (fun u => absurd u (by decide)) (fun _ => Or.inr z2)⟩⟩
  refine eX2_mayGrow (sX2_mayGrow_0 ?_)
  rw [s_323 c, r_323_7 c, s_326 c, cl_nI (by omega), R.2.2.1 x hx, r_323_8 c, s_327 c, cl_nI (by omega), R.2.2.2 y hy, i1, i2]
  refine ⟨rfl, by first | decide | exact vp_nI (j := 0) (by decide) (by decide) | exact vp_nI (j := 1) (by decide) (by decide), rfl, vp_nI (by omega) (by decide), fun z => k25 1 (fun u => absurd u (by decide)) (fun _ => Or.inl z), fun z => ⟨by first | decide | exact vp_nI (j := 0) (by decide) (by decide) | exact vp_nI (j := 1) (by decide) (by decide), rfl, vp_nI (by omega) (by decide), fun z2 => k25 0 (fun _ f => f.elim z z2) (fun u => absurd rfl u), fun z2 => k25 1 (fun u => absurd u (by decide)) (fun _ => Or.inr z2)⟩⟩
theorem sp_growOnce {Q : Int32 → Hp → Prop} (c : Lay L h) (T : lkC h nl nr lk rk) (R : tC h nl nr tR tL) (E : gC h nl nr G) (K : ∀ h', Cg (fun id _ => id = 328 ∨ id = 329) h h' → gC h' nl nr (pasG tR tL nl nr G).1 → Q (b01 (pasG tR tL nl nr G).2) h') : AC w mX2_growOnce 0 0 (rI Q) [.ref 323] h := by
  have t1 := T.1.1
  have t2 := T.1.2
  have inn : ∀ (x : Nat) (q : (Nat → Nat → Bool) × Bool), x < nl → (∀ h', Cg (fun id _ => id = 328 ∨ id = 329) h h' → gC h' nl nr (rwG tR tL nl nr q x nr).1 → AW w mX2_growOnce 0 0 (rI Q) 0 0 4 [some (.ref 323), some (.int (b01 (rwG tR tL nl nr q x nr).2)), some (.int (nI (x + 1))), none] [] h') →
      ∀ (d y : Nat) (h' : Hp), y + d = nr → Cg (fun id _ => id = 328 ∨ id = 329) h h' → gC h' nl nr (rwG tR tL nl nr q x y).1 → AW w mX2_growOnce 0 0 (rI Q) 0 0 14 [some (.ref 323), some (.int (b01 (rwG tR tL nl nr q x y).2)), some (.int (nI x)), some (.int (nI y))] [] h' := by
    intro x q hx Kc d
    induction d with
    | zero =>
      intro y h' hy g E'
      have hy : y = nr := by omega
      subst hy
      have c' : Lay L h' := g.lay c (fun id j q => by omega)
      have T' := T.cg g (fun id j q => by omega)
      refine sX2_growOnce_14 ?_
      rw [s_323 c', T'.2.2.1, nI_1]
      exact ⟨rfl, fun _ => Kc h' g E', fun z => absurd (by rw [ti_le]; omega) z⟩
    | succ d ih =>
      intro y h' hy g E'
      have c' : Lay L h' := g.lay c (fun id j q => by omega)
      have T' := T.cg g (fun id j q => by omega)
      have R' := R.cg g (fun id j q => by omega)
      have es : rwG tR tL nl nr q x (y + 1) = stG tR tL nl nr (rwG tR tL nl nr q x y) x y := rfl
      have nx := fun h2 => ih (y + 1) h2 (by omega)
      rw [es] at nx
      refine sX2_growOnce_14 ?_
      rw [s_323 c', T'.2.2.1, nI_1 y]
      refine ⟨rfl, fun z => ?_, fun _ => sp_mayGrow c' T' R' E' hx (by omega) (fun m => ⟨fun u => absurd u (by decide), fun _ => ⟨by rw [s_323 c'], sp_addGrown c' T' E' hx (by omega) (fun h2 g2 E2 => ?_)⟩⟩) (fun m => ⟨fun _ => ?_, fun u => absurd rfl u⟩)⟩
      · rw [ti_le, nI_toInt (by omega), nI_toInt (by omega)] at z; omega
      · have N := nx h2 (g.trans g2)
        rw [stG_y m] at N
        exact N E2
      · have N := nx h' g
        rw [stG_n m] at N
        exact N E'
  have lp : ∀ (d x : Nat) (h' : Hp), x + d = nl → Cg (fun id _ => id = 328 ∨ id = 329) h h' → gC h' nl nr (psG tR tL nl nr (G, false) x).1 → AW w mX2_growOnce 0 0 (rI Q) 0 0 4 [some (.ref 323), some (.int (b01 (psG tR tL nl nr (G, false) x).2)), some (.int (nI x)), none] [] h' := by
    intro d
    induction d with
    | zero =>
      intro x h' hx g E'
      have hx : x = nl := by omega
      have c' : Lay L h' := g.lay c (fun id j q => by omega)
      have T' := T.cg g (fun id j q => by omega)
      rw [hx] at E' ⊢
      refine sX2_growOnce_4 ?_
      rw [s_323 c', T'.2.1]
      exact ⟨rfl, fun _ => ⟨b01_or _, K h' g E'⟩, fun z => absurd (by rw [ti_le]; omega) z⟩
    | succ d ih =>
      intro x h' hx g E'
      have c' : Lay L h' := g.lay c (fun id j q => by omega)
      have T' := T.cg g (fun id j q => by omega)
      refine sX2_growOnce_4 ?_
      rw [s_323 c', T'.2.1]
      refine ⟨rfl, fun z => ?_, fun _ => inn x (psG tR tL nl nr (G, false) x) (by omega) (fun h2 g2 E2 => ih (x + 1) h2 (by omega) g2 E2) nr 0 h' (by omega) g E'⟩
      rw [ti_le, nI_toInt (by omega), nI_toInt (by omega)] at z; omega
  exact eX2_growOnce (sX2_growOnce_0 (lp nl 0 h (by omega) (Cg.rfl' h) E))
variable {n0 n1 : Nat} {sh : Sh} {tm : Nat → Int32}
theorem tRf_lt {x b : Nat} (h : tRf sh lk rk nr x = some b) : b < nr := ldF_lt h
theorem tLf_lt {y b : Nat} (h : tLf sh lk rk nl y = some b) : b < nl := ldF_lt h
noncomputable def grn (sh : Sh) (lk rk : Nat → Nat) (nl nr : Nat) : Nat → Nat → Bool := itG (tRf sh lk rk nr) (tLf sh lk rk nl) nl nr 400 (bth (tRf sh lk rk nr) (tLf sh lk rk nl))
theorem sp_workC {Q : Hp → Prop} (c : Lay L h) (D : shareC h n0 n1 sh tm) (T : lkC h nl nr lk rk) (hl : ∀ x, x < nl → lk x < n0) (hr : ∀ y, y < nr → rk y < n1) (K : ∀ h', Cg (fun id _ => 326 ≤ id ∧ id ≤ 329) h h' → tC h' nl nr (tRf sh lk rk nr) (tLf sh lk rk nl) → gC h' nl nr (grn sh lk rk nl nr) → Q h') : AC w mX2_work 0 0 (rV Q) [.ref 323] h := by
  have t1 := T.1.1
  have t2 := T.1.2
  have it : ∀ (d t : Nat) (h' : Hp) (G : Nat → Nat → Bool), t + d = 400 → itG (tRf sh lk rk nr) (tLf sh lk rk nl) nl nr d G = grn sh lk rk nl nr → Cg (fun id _ => 326 ≤ id ∧ id ≤ 329) h h' → tC h' nl nr (tRf sh lk rk nr) (tLf sh lk rk nl) → gC h' nl nr G → AW w mX2_work 0 0 (rV Q) 0 0 76 [some (.ref 323), some (.int 1), some (.int (nI t))] [] h' := by
    intro d
    induction d with
    | zero =>
      intro t h' G ht e g R E
      have ht : t = 400 := by omega
      subst ht
      have e : G = grn sh lk rk nl nr := e
      rw [e] at E
      exact sX2_work_76 ⟨fun z => absurd z (by decide), fun _ => ⟨fun _ => K h' g R E, fun z => absurd (by decide) z⟩⟩
    | succ d ih =>
      intro t h' G ht e g R E
      have c' : Lay L h' := g.lay c (fun id j q => by omega)
      have T' := T.cg g (fun id j q => by omega)
      have e : (if (pasG (tRf sh lk rk nr) (tLf sh lk rk nl) nl nr G).2 = true then itG (tRf sh lk rk nr) (tLf sh lk rk nl) nl nr d (pasG (tRf sh lk rk nr) (tLf sh lk rk nl) nl nr G).1 else (pasG (tRf sh lk rk nr) (tLf sh lk rk nl) nl nr G).1) = grn sh lk rk nl nr := e
      refine sX2_work_76 ⟨fun z => absurd z (by decide), fun _ => ⟨fun z => ?_, fun _ => ⟨by rw [s_323 c'], sp_growOnce c' T' R E (fun h2 g2 E2 => ?_)⟩⟩⟩
      · rw [ti_le, t_400, nI_toInt (by omega)] at z; omega
      · have g3 : Cg (fun id _ => 326 ≤ id ∧ id ≤ 329) h h2 := g.trans (g2.mono (fun id j q => by omega))
        have R2 := R.cg g2 (fun id j q => by omega)
        rw [nI_1]
        cases f : (pasG (tRf sh lk rk nr) (tLf sh lk rk nl) nl nr G).2 with
        | false =>
          rw [f] at e
          have e : (pasG (tRf sh lk rk nr) (tLf sh lk rk nl) nl nr G).1 = grn sh lk rk nl nr := e
          rw [e] at E2
          exact sX2_work_76 ⟨fun _ => K h2 g3 R2 E2, fun z => absurd rfl z⟩
        | true =>
          rw [f] at e
          exact ih (t + 1) h2 _ (by omega) e g3 R2 E2
  have rr : ∀ (d y : Nat) (h' : Hp), y + d = nr → Cg (fun id _ => 326 ≤ id ∧ id ≤ 329) h h' → (∀ x, x < nl → hI h' 326 x = oI (tRf sh lk rk nr x) ∧ hI h' 328 x = 0) → (∀ v, v < y → hI h' 327 v = oI (tLf sh lk rk nl v) ∧ hI h' 329 v = 0) → AW w mX2_work 0 0 (rV Q) 0 0 36 [some (.ref 323), some (.int (nI y)), none] [] h' := by
    intro d
    induction d with
    | zero =>
      intro y h' hy g e1 e2
      have hy : y = nr := by omega
      subst hy
      have c' : Lay L h' := g.lay c (fun id j q => by omega)
      have T' := T.cg g (fun id j q => by omega)
      have R' : tC h' nl y (tRf sh lk rk y) (tLf sh lk rk nl) := ⟨fun x b q => tRf_lt q, fun v b q => tLf_lt q, fun x hx => (e1 x hx).1, fun v hv => (e2 v hv).1⟩
      have E' : gC h' nl y (fun _ _ => false) := ⟨fun _ _ q => (by cases q), fun x hx => by rw [(e1 x hx).2]; exact ib_0, fun v hv => by rw [(e2 v hv).2]; exact ib_0⟩
      refine sX2_work_36 ?_
      rw [s_323 c', T'.2.2.1]
      refine ⟨rfl, fun _ => sp_growBoth c' T' R' E' (fun h2 g2 E2 => ?_), fun z => absurd (by rw [ti_le]; omega) z⟩
      exact it 400 0 h2 _ (by omega) rfl (g.trans (g2.mono (fun id j q => by omega))) (R'.cg g2 (fun id j q => by omega)) E2
    | succ d ih =>
      intro y h' hy g e1 e2
      have c' : Lay L h' := g.lay c (fun id j q => by omega)
      have T' := T.cg g (fun id j q => by omega)
      have D' := D.cg g (fun id j q => by omega)
      refine sX2_work_36 ?_
      rw [s_323 c', T'.2.2.1, r_323_8 c', nI_1]
      refine ⟨rfl, fun z => ?_, fun _ => ⟨by first | decide | exact vp_nI (j := 0) (by decide) (by decide) | exact vp_nI (j := 1) (by decide) (by decide), sp_leadRight c' D' T' hl hr (by omega) ?_⟩⟩
      · rw [ti_le, nI_toInt (by omega), nI_toInt (by omega)] at z; omega
      · rw [s_327 c', cl_nI (by omega), s_323 c', r_323_10 c', s_329 c']
        refine ⟨rfl, vp_nI (by omega) (by decide), fun h2 q2 => ⟨rfl, by first | decide | exact vp_nI (j := 0) (by decide) (by decide) | exact vp_nI (j := 1) (by decide) (by decide), rfl, vp_nI (by omega) (by decide), fun h3 q3 => ?_⟩⟩
        subst q2 q3
        refine ih (y + 1) _ (by omega) ((g.sI (by omega)).sI (by omega)) (fun x hx => by simp (disch := omega) only [hI_ne]; exact e1 x hx) (fun v hv => ?_)
        by_cases q : v = y
        · subst q
          constructor <;> simp (disch := omega) only [hI_ne, hI_eq]
        · simp (disch := omega) only [hI_ne]; exact e2 v (by omega)
  have ll : ∀ (d x : Nat) (h' : Hp), x + d = nl → Cg (fun id _ => 326 ≤ id ∧ id ≤ 329) h h' → (∀ u, u < x → hI h' 326 u = oI (tRf sh lk rk nr u) ∧ hI h' 328 u = 0) → AW w mX2_work 0 0 (rV Q) 0 0 2 [some (.ref 323), some (.int (nI x)), none] [] h' := by
    intro d
    induction d with
    | zero =>
      intro x h' hx g e1
      have hx : x = nl := by omega
      subst hx
      have c' : Lay L h' := g.lay c (fun id j q => by omega)
      have T' := T.cg g (fun id j q => by omega)
      refine sX2_work_2 ?_
      rw [s_323 c', T'.2.1]
      exact ⟨rfl, fun _ => rr nr 0 h' (by omega) g e1 (fun v hv => absurd hv (Nat.not_lt_zero v)), fun z => absurd (by rw [ti_le]; omega) z⟩
    | succ d ih =>
      intro x h' hx g e1
      have c' : Lay L h' := g.lay c (fun id j q => by omega)
      have T' := T.cg g (fun id j q => by omega)
      have D' := D.cg g (fun id j q => by omega)
      refine sX2_work_2 ?_
      rw [s_323 c', T'.2.1, r_323_7 c', nI_1]
      refine ⟨rfl, fun z => ?_, fun _ => ⟨by first | decide | exact vp_nI (j := 0) (by decide) (by decide) | exact vp_nI (j := 1) (by decide) (by decide), sp_leadLeft c' D' T' hl hr (by omega) ?_⟩⟩
      · rw [ti_le, nI_toInt (by omega), nI_toInt (by omega)] at z; omega
      · rw [s_326 c', cl_nI (by omega), s_323 c', r_323_9 c', s_328 c']
        refine ⟨rfl, vp_nI (by omega) (by decide), fun h2 q2 => ⟨rfl, by first | decide | exact vp_nI (j := 0) (by decide) (by decide) | exact vp_nI (j := 1) (by decide) (by decide), rfl, vp_nI (by omega) (by decide), fun h3 q3 => ?_⟩⟩
        subst q2 q3
        refine ih (x + 1) _ (by omega) ((g.sI (by omega)).sI (by omega)) (fun u hu => ?_)
        by_cases q : u = x
        · subst q
          constructor <;> simp (disch := omega) only [hI_ne, hI_eq]
        · simp (disch := omega) only [hI_ne]; exact e1 u (by omega)
  exact eX2_work (sX2_work_0 (ll nl 0 h (by omega) (Cg.rfl' h) (fun u hu => absurd hu (Nat.not_lt_zero u))))
end LB
