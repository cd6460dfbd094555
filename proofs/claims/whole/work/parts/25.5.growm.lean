/-! ===== links, the reference: growing ===== -/
def gM (h : Hp) (nl nr : Nat) (g : Nat → Nat → Bool) : Prop := okG g nl nr ∧ ∀ x y, x < nl → y < nr → hI h 381 (20 * x + y) = b01 (g x y)
theorem nar_b (p : Bool) : vp_nar .boolean (b01 p) = b01 p := by cases p <;> rfl
def nvP (G : Nat → Nat → Bool) (nl nr x y : Nat) (u v : Int) : Prop := ∀ a b, a < nl → b < nr → a ≤ x + 1 → x ≤ a + 1 → b ≤ y + 1 → y ≤ b + 1 → ((a : Int) < u ∨ ((a : Int) = u ∧ (b : Int) < v)) → G a b = false
section LE
variable {w : Wd} {L : Nat} {h : Hp} {nl nr : Nat} {lk rk : Nat → Nat} {tR tL : Nat → Option Nat} {G : Nat → Nat → Bool}
theorem sp_isBothM {Q : Int32 → Hp → Prop} {x y : Nat} (c : Lay L h) (T : lkM h nl nr lk rk) (R : tM h nl nr tR tL) (hx : x < nl) (hy : y < nr) (K : Q (b01 (bth tR tL x y)) h) : AC w mX10_isBoth 0 0 (rI Q) [.ref 347, .int (nI x), .int (nI y)] h := by
  have t1 := T.1.1
  have t2 := T.1.2
  have i1 := oI_eq (y := y) (R.1 x) t2 (by omega)
  have i2 := oI_eq (y := x) (R.2.1 y) t1 (by omega)
  refine eX10_isBoth (sX10_isBoth_0 ?_)
  rw [s_347 c, r_347_51 c, s_379 c, cl_nI (by omega), R.2.2.1 x hx, r_347_52 c, s_380 c, cl_nI (by omega), R.2.2.2 y hy]
  refine ⟨rfl, by first | decide | exact vp_nI (j := 0) (by decide) (by decide) | exact vp_nI (j := 1) (by decide) (by decide), rfl, vp_nI (by omega) (by decide), fun z => Qto K (b0 ?_), fun z => ⟨by first | decide | exact vp_nI (j := 0) (by decide) (by decide) | exact vp_nI (j := 1) (by decide) (by decide), rfl, vp_nI (by omega) (by decide), fun z2 => Qto K (b0 ?_), fun z2 => Qto K (b1 ?_)⟩⟩
  · unfold bth
    rw [show (tR x == some y) = false by simpa using fun q => z (i1.mpr q)]; rfl
  · unfold bth
    rw [show (tL y == some x) = false by simpa using fun q => z2 (i2.mpr q), Bool.and_false]
  · unfold bth
    rw [i1.mp z, i2.mp z2]; simp
theorem sp_hasNear {Q : Int32 → Hp → Prop} {x y : Nat} (c : Lay L h) (T : lkM h nl nr lk rk) (E : gM h nl nr G) (hx : x < nl) (hy : y < nr) (K1 : nearP G nl nr x y → Q 1 h) (K0 : ¬ nearP G nl nr x y → Q 0 h) : AC w mX10_hasNear 0 0 (rI Q) [.ref 347, .int (nI x), .int (nI y)] h := by
  have t1 := T.1.1
  have t2 := T.1.2
  have e1 : ∀ u : Int, iI u + 1 = iI (u + 1) := fun u => by rw [show (1 : Int32) = iI 1 from rfl, iI_add]
  have em : ∀ x : Nat, nI x - 1 = iI ((x : Int) - 1) := fun x => by rw [iI_n, show (1 : Int32) = iI 1 from rfl, iI_sub]
  have ex : nI x + 1 = iI ((x : Int) + 1) := by rw [iI_n, e1]
  have ey : nI y + 1 = iI ((y : Int) + 1) := by rw [iI_n, e1]
  have inn : ∀ (u : Int), (x : Int) - 1 ≤ u → u ≤ x + 1 → (∀ x3 : Int32, ((x3 = 1 ∧ nearP G nl nr x y) ∨ (x3 = 0 ∧ nvP G nl nr x y (u + 1) (y - 1))) → AW w mX10_hasNear 0 0 (rI Q) 0 0 7 [some (.ref 347), some (.int (nI x)), some (.int (nI y)), some (.int x3), some (.int (iI (u + 1))), none] [] h) →
      ∀ (d : Nat) (v : Int) (x3 : Int32), v + d = y + 2 → (y : Int) - 1 ≤ v → ((x3 = 1 ∧ nearP G nl nr x y) ∨ (x3 = 0 ∧ nvP G nl nr x y u v)) → AW w mX10_hasNear 0 0 (rI Q) 0 0 20 [some (.ref 347), some (.int (nI x)), some (.int (nI y)), some (.int x3), some (.int (iI u)), some (.int (iI v))] [] h := by
    intro u hu1 hu2 Kc d
    induction d with
    | zero =>
      intro v x3 hv hv1 hR
      refine sX10_hasNear_20 ?_
      rw [ey, e1 u, iI_lt (by omega) (by omega) (by omega) (by omega)]
      refine ⟨fun _ => Kc x3 (hR.imp id (fun q => ⟨q.1, fun a b p1 p2 p3 p4 p5 p6 p7 => q.2 a b p1 p2 p3 p4 p5 p6 (by omega)⟩)), fun z => absurd (by omega) z⟩
    | succ d ih =>
      intro v x3 hv hv1 hR
      refine sX10_hasNear_20 ?_
      rw [ey, e1 v, iI_lt (by omega) (by omega) (by omega) (by omega)]
      refine ⟨fun z => by omega, fun _ => ⟨fun z => ?_, fun z => ?_⟩⟩
      · rcases hR with q | q
        · exact ih (v + 1) 1 (by omega) (by omega) (Or.inl ⟨rfl, q.2⟩)
        · exact absurd q.1 z
      · rcases hR with q | q
        · exact absurd (q.1.symm.trans z) (by decide)
        · have no : (¬ (0 ≤ u ∧ u < nl) ∨ ¬ (0 ≤ v ∧ v < nr) ∨ ∀ a b : Nat, (a : Int) = u → (b : Int) = v → G a b = false) → nvP G nl nr x y u (v + 1) := fun cs a b p1 p2 p3 p4 p5 p6 p7 => by
            by_cases eq : (a : Int) = u ∧ (b : Int) = v
            · rcases cs with r | r | r
              · omega
              · omega
              · exact r a b eq.1 eq.2
            · exact q.2 a b p1 p2 p3 p4 p5 p6 (by omega)
          have N0 := fun cs => ih (v + 1) 0 (by omega) (by omega) (Or.inr ⟨rfl, no cs⟩)
          rw [s_347 c, T.2.1]
          refine ⟨rfl, sp_in32 (n := nl) (by decide) (toI64_sub1 (by omega)) ⟨fun r => N0 (Or.inl ?_), fun r => ?_⟩⟩
          · rw [b01_eq] at r
            have r := of_decide_eq_false r
            rw [iI_toInt (by omega) (by omega)] at r
            exact r
          · rw [b01_ne] at r
            have r := of_decide_eq_true r
            rw [iI_toInt (by omega) (by omega)] at r
            rw [s_347 c, T.2.2.1]
            refine ⟨rfl, sp_in32 (n := nr) (by decide) (toI64_sub1 (by omega)) ⟨fun s => N0 (Or.inr (Or.inl ?_)), fun s => ?_⟩⟩
            · rw [b01_eq] at s
              have s := of_decide_eq_false s
              rw [iI_toInt (by omega) (by omega)] at s
              exact s
            · rw [b01_ne] at s
              have s := of_decide_eq_true s
              rw [iI_toInt (by omega) (by omega)] at s
              obtain ⟨a, rfl⟩ := Int.eq_ofNat_of_zero_le r.1
              obtain ⟨b, rfl⟩ := Int.eq_ofNat_of_zero_le s.1
              have v0 := E.2 a b (by omega) (by omega)
              have N1 := fun g : G a b = true => ih ((b : Int) + 1) 1 (by omega) (by omega) (Or.inl ⟨rfl, a, b, by omega, by omega, by omega, by omega, by omega, by omega, g⟩)
              rw [← iI_n a, ← iI_n b] at *
              rw [s_347 c, r_347_53 c, s_381 c, m_20, nI_add, cl_nI (by omega), v0]
              refine ⟨rfl, by first | decide | exact vp_nI (j := 0) (by decide) (by decide) | exact vp_nI (j := 1) (by decide) (by decide), rfl, vp_nI (by omega) (by decide), fun t => N0 (Or.inr (Or.inr (fun a' b' e1 e2 => ?_))), fun t => N1 ?_⟩
              · rw [b01_eq] at t
                rw [show a' = a by omega, show b' = b by omega]; exact t
              · rw [b01_ne] at t; exact t
  have lp : ∀ (d : Nat) (u : Int) (x3 : Int32), u + d = x + 2 → (x : Int) - 1 ≤ u → ((x3 = 1 ∧ nearP G nl nr x y) ∨ (x3 = 0 ∧ nvP G nl nr x y u (y - 1))) → AW w mX10_hasNear 0 0 (rI Q) 0 0 7 [some (.ref 347), some (.int (nI x)), some (.int (nI y)), some (.int x3), some (.int (iI u)), none] [] h := by
    intro d
    induction d with
    | zero =>
      intro u x3 hu hu1 hR
      refine sX10_hasNear_7 ?_
      rw [ex, iI_lt (by omega) (by omega) (by omega) (by omega)]
      refine ⟨fun _ => ?_, fun z => absurd (by omega) z⟩
      rcases hR with ⟨rfl, q⟩ | ⟨rfl, q⟩
      · exact ⟨Or.inr rfl, K1 q⟩
      · exact ⟨Or.inl rfl, K0 (fun ⟨a, b, p1, p2, p3, p4, p5, p6, p7⟩ => by rw [q a b p1 p2 p3 p4 p5 p6 (by omega)] at p7; cases p7)⟩
    | succ d ih =>
      intro u x3 hu hu1 hR
      refine sX10_hasNear_7 ?_
      rw [ex, em, iI_lt (by omega) (by omega) (by omega) (by omega)]
      exact ⟨fun z => by omega, fun _ => inn u hu1 (by omega) (fun y3 hR' => ih (u + 1) y3 (by omega) (by omega) hR') 3 ((y : Int) - 1) x3 (by omega) (by omega) hR⟩
  have := lp 3 ((x : Int) - 1) 0 (by omega) (by omega) (Or.inr ⟨rfl, fun a b p1 p2 p3 p4 p5 p6 p7 => by omega⟩)
  rw [← em] at this
  exact eX10_hasNear (sX10_hasNear_0 this)
theorem sp_isFree {Q : Int32 → Hp → Prop} {x y : Nat} (c : Lay L h) (T : lkM h nl nr lk rk) (E : gM h nl nr G) (hx : x < nl) (hy : y < nr) (K1 : freeP G nl nr x y → Q 1 h) (K0 : ¬ freeP G nl nr x y → Q 0 h) : AC w mX10_isFree 0 0 (rI Q) [.ref 347, .int (nI x), .int (nI y)] h := by
  have t1 := T.1.1
  have t2 := T.1.2
  have f1 : anyN (fun v => G x v) 0 nr = false ↔ ∀ v, v < nr → G x v = false := by
    rw [← Bool.not_eq_true, anyN_iff]
    refine ⟨fun q v hv => ?_, fun q ⟨i, hi, e⟩ => ?_⟩
    · cases e : G x v with
      | false => rfl
      | true => exact absurd ⟨v, hv, by (try dsimp only); rw [Nat.zero_add]; exact e⟩ q
    · (try dsimp only at e)
      rw [Nat.zero_add, q i hi] at e; cases e
  have f2 : anyN (fun u => G u y) 0 nl = false ↔ ∀ u, u < nl → G u y = false := by
    rw [← Bool.not_eq_true, anyN_iff]
    refine ⟨fun q v hv => ?_, fun q ⟨i, hi, e⟩ => ?_⟩
    · cases e : G v y with
      | false => rfl
      | true => exact absurd ⟨v, hv, by (try dsimp only); rw [Nat.zero_add]; exact e⟩ q
    · (try dsimp only at e)
      rw [Nat.zero_add, q i hi] at e; cases e
  have lp2 : ∀ (d k : Nat), k + d = nl → AW w mX10_isFree 0 0 (rI Q) 0 0 51 [some (.ref 347), none, some (.int (nI y)), some (.int (b01 (!anyN (fun v => G x v) 0 nr))), some (.int (b01 (!anyN (fun u => G u y) 0 k))), some (.int (nI k))] [] h := by
    intro d
    induction d with
    | zero =>
      intro k hk
      have hk : k = nl := by omega
      subst hk
      refine sX10_isFree_51 ?_
      rw [s_347 c, T.2.1]
      refine ⟨rfl, fun _ => ⟨fun z => K1 (Or.inl (f1.mp ?_)), fun z => ⟨fun z2 => K0 (fun f => ?_), fun z2 => K1 (Or.inr (f2.mp ?_))⟩⟩, fun z => absurd (by rw [ti_le]; omega) z⟩
      · rw [b01_ne] at z; simpa using z
      · rw [b01_eq] at z z2
        rcases f with f | f
        · rw [f1.mpr f] at z; cases z
        · rw [f2.mpr f] at z2; cases z2
      · rw [b01_ne] at z2; simpa using z2
    | succ d ih =>
      intro k hk
      have v0 := E.2 k y (by omega) hy
      have nx := ih (k + 1) (by omega)
      have es : anyN (fun u => G u y) 0 (k + 1) = (anyN (fun u => G u y) 0 k || G k y) := by
        show (anyN _ 0 k || G (0 + k) y) = _
        rw [Nat.zero_add]
      rw [es] at nx
      generalize anyN (fun u => G u y) 0 k = A at nx ⊢
      refine sX10_isFree_51 ?_
      rw [s_347 c, T.2.1, r_347_53 c, s_381 c, m_20, nI_add, cl_nI (by omega), v0, nI_1]
      refine ⟨rfl, fun z => ?_, fun _ => ⟨fun z => ?_, fun z => ⟨by first | decide | exact vp_nI (j := 0) (by decide) (by decide) | exact vp_nI (j := 1) (by decide) (by decide), rfl, vp_nI (by omega) (by decide), fun z2 => ?_, fun z2 => ?_⟩⟩⟩
      · rw [ti_le, nI_toInt (by omega), nI_toInt (by omega)] at z; omega
      · rw [b01_eq] at z
        have z : A = true := by simpa using z
        subst z; exact nx
      · rw [b01_ne] at z2
        rw [z2, Bool.or_true] at nx; exact nx
      · rw [b01_ne] at z
        have z : A = false := by simpa using z
        rw [b01_eq] at z2
        rw [z2, z] at nx; exact nx
  have lp1 : ∀ (d k : Nat), k + d = nr → AW w mX10_isFree 0 0 (rI Q) 0 0 8 [some (.ref 347), some (.int (nI x)), some (.int (nI y)), some (.int (b01 (!anyN (fun v => G x v) 0 k))), some (.int 1), some (.int (nI k))] [] h := by
    intro d
    induction d with
    | zero =>
      intro k hk
      have hk : k = nr := by omega
      subst hk
      refine sX10_isFree_8 ?_
      rw [s_347 c, T.2.2.1]
      exact ⟨rfl, fun _ => lp2 nl 0 (by omega), fun z => absurd (by rw [ti_le]; omega) z⟩
    | succ d ih =>
      intro k hk
      have v0 := E.2 x k hx (by omega)
      have nx := ih (k + 1) (by omega)
      have es : anyN (fun v => G x v) 0 (k + 1) = (anyN (fun v => G x v) 0 k || G x k) := by
        show (anyN _ 0 k || G x (0 + k)) = _
        rw [Nat.zero_add]
      rw [es] at nx
      generalize anyN (fun v => G x v) 0 k = A at nx ⊢
      refine sX10_isFree_8 ?_
      rw [s_347 c, T.2.2.1, r_347_53 c, s_381 c, m_20, nI_add, cl_nI (by omega), v0, nI_1]
      refine ⟨rfl, fun z => ?_, fun _ => ⟨fun z => ?_, fun z => ⟨by first | decide | exact vp_nI (j := 0) (by decide) (by decide) | exact vp_nI (j := 1) (by decide) (by decide), rfl, vp_nI (by omega) (by decide), fun z2 => ?_, fun z2 => ?_⟩⟩⟩
      · rw [ti_le, nI_toInt (by omega), nI_toInt (by omega)] at z; omega
      · rw [b01_eq] at z
        have z : A = true := by simpa using z
        subst z; exact nx
      · rw [b01_ne] at z2
        rw [z2, Bool.or_true] at nx; exact nx
      · rw [b01_ne] at z
        have z : A = false := by simpa using z
        rw [b01_eq] at z2
        rw [z2, z] at nx; exact nx
  exact eX10_isFree (sX10_isFree_0 (lp1 nr 0 (by omega)))
theorem gM.set {x y : Nat} (E : gM h nl nr G) (h1 : nl ≤ 20) (h2 : nr ≤ 20) (hx : x < nl) (hy : y < nr) : gM (sI h 381 (20 * x + y) 1) nl nr (setG G x y) := by
  refine ⟨E.1.set hx hy, fun u v hu hv => ?_⟩
  unfold setG
  by_cases e : u = x ∧ v = y
  · rw [if_pos e, e.1, e.2, hI_eq]; rfl
  · rw [if_neg e, hI_ne (Or.inr (by omega))]; exact E.2 u v hu hv
theorem sp_growPass {Q : Hp → Prop} (c : Lay L h) (T : lkM h nl nr lk rk) (R : tM h nl nr tR tL) (E : gM h nl nr G) (K : ∀ h', Cg (fun id _ => id = 381) h h' → gM h' nl nr (pasG tR tL nl nr G).1 → AW w mX10_grow 0 0 (rV Q) 0 0 51 [some (.ref 347), some (.int (b01 (pasG tR tL nl nr G).2)), none, none] [] h') : AW w mX10_grow 0 0 (rV Q) 0 0 51 [some (.ref 347), some (.int 1), none, none] [] h := by
  have t1 := T.1.1
  have t2 := T.1.2
  have inn : ∀ (x : Nat) (q : (Nat → Nat → Bool) × Bool), x < nl → (∀ h', Cg (fun id _ => id = 381) h h' → gM h' nl nr (rwG tR tL nl nr q x nr).1 → AW w mX10_grow 0 0 (rV Q) 0 0 59 [some (.ref 347), some (.int (b01 (rwG tR tL nl nr q x nr).2)), some (.int (nI (x + 1))), none] [] h') →
      ∀ (d y : Nat) (h' : Hp), y + d = nr → Cg (fun id _ => id = 381) h h' → gM h' nl nr (rwG tR tL nl nr q x y).1 → AW w mX10_grow 0 0 (rV Q) 0 0 69 [some (.ref 347), some (.int (b01 (rwG tR tL nl nr q x y).2)), some (.int (nI x)), some (.int (nI y))] [] h' := by
    intro x q hx Kc d
    induction d with
    | zero =>
      intro y h' hy g E'
      have hy : y = nr := by omega
      subst hy
      have c' : Lay L h' := g.lay c (fun id j q => by omega)
      have T' := T.cg g (fun id j q => by omega)
      refine sX10_grow_69 ?_
      rw [s_347 c', T'.2.2.1, nI_1]
      exact ⟨rfl, fun _ => Kc h' g E', fun z => absurd (by rw [ti_le]; omega) z⟩
    | succ d ih =>
      intro y h' hy g E'
      have c' : Lay L h' := g.lay c (fun id j q => by omega)
      have T' := T.cg g (fun id j q => by omega)
      have R' := R.cg g (fun id j q => by omega)
      have es : rwG tR tL nl nr q x (y + 1) = stG tR tL nl nr (rwG tR tL nl nr q x y) x y := rfl
      have nx := fun h2 => ih (y + 1) h2 (by omega)
      rw [es] at nx
      have i1 := oI_eq (y := y) (R.1 x) t2 (by omega)
      have i2 := oI_eq (y := x) (R.2.1 y) t1 (by omega)
      have v0 := E'.2 x y hx (by omega)
      generalize rwG tR tL nl nr q x y = st at nx E' v0 ⊢
      have no : ¬ mayG tR tL nl nr st.1 x y → AW w mX10_grow 0 0 (rV Q) 0 0 69 [some (.ref 347), some (.int (b01 st.2)), some (.int (nI x)), some (.int (nI (y + 1)))] [] h' := fun m => by
        have N := nx h' g
        rw [stG_n m] at N
        exact N E'
      have k97 : (tR x = some y ∨ tL y = some x) → AW w mX10_grow 0 0 (rV Q) 0 0 97 [some (.ref 347), some (.int (b01 st.2)), some (.int (nI x)), some (.int (nI y))] [] h' := fun m1 => by
        refine sX10_grow_97 ?_
        rw [s_347 c', r_347_53 c', s_381 c', m_20, nI_add, cl_nI (show 20 * x + y < 2147483648 by omega), v0, nI_1 y]
        refine ⟨rfl, by first | decide | exact vp_nI (j := 0) (by decide) (by decide) | exact vp_nI (j := 1) (by decide) (by decide), rfl, vp_nI (by omega) (by decide), fun z => no (fun m => ?_), fun z => sp_hasNear c' T' E' hx (by omega) (fun nr1 => ⟨fun u => absurd u (by decide), fun _ => ⟨by rw [s_347 c'], sp_isFree c' T' E' hx (by omega) (fun fr => ⟨fun u => absurd u (by decide), fun _ => ?_⟩) (fun fr => ⟨fun _ => no (fun m => fr m.2.2.2), fun u => absurd rfl u⟩)⟩⟩) (fun nr1 => ⟨fun _ => no (fun m => nr1 m.2.2.1), fun u => absurd rfl u⟩)⟩
        · rw [b01_ne, m.2.1] at z; cases z
        · rw [b01_eq] at z
          have m : mayG tR tL nl nr st.1 x y := ⟨m1, z, nr1, fr⟩
          have N := nx (sI h' 381 (20 * x + y) 1) (g.sI rfl)
          rw [stG_y m] at N
          rw [s_347 c', r_347_53 c', s_381 c']
          refine ⟨rfl, by first | decide | exact vp_nI (j := 0) (by decide) (by decide) | exact vp_nI (j := 1) (by decide) (by decide), rfl, vp_nI (by omega) (by decide), fun h3 e3 => ?_⟩
          rw [show vp_nar .boolean 1 = 1 from nar_b true] at e3
          rw [e3]
          exact N (E'.set t1 t2 hx (by omega))
      refine sX10_grow_69 ?_
      rw [s_347 c', T'.2.2.1, r_347_51 c', s_379 c', cl_nI (by omega), R'.2.2.1 x hx, r_347_52 c', s_380 c', cl_nI (by omega), R'.2.2.2 y (by omega), i1, i2, nI_1 y]
      refine ⟨rfl, fun z => ?_, fun _ => ⟨by first | decide | exact vp_nI (j := 0) (by decide) (by decide) | exact vp_nI (j := 1) (by decide) (by decide), rfl, vp_nI (by omega) (by decide), fun z => k97 (Or.inl z), fun z => ⟨by first | decide | exact vp_nI (j := 0) (by decide) (by decide) | exact vp_nI (j := 1) (by decide) (by decide), rfl, vp_nI (by omega) (by decide), fun z2 => no (fun m => m.1.elim z z2), fun z2 => k97 (Or.inr z2)⟩⟩⟩
      rw [ti_le, nI_toInt (by omega), nI_toInt (by omega)] at z; omega
  have lp : ∀ (d x : Nat) (h' : Hp), x + d = nl → Cg (fun id _ => id = 381) h h' → gM h' nl nr (psG tR tL nl nr (G, false) x).1 → AW w mX10_grow 0 0 (rV Q) 0 0 59 [some (.ref 347), some (.int (b01 (psG tR tL nl nr (G, false) x).2)), some (.int (nI x)), none] [] h' := by
    intro d
    induction d with
    | zero =>
      intro x h' hx g E'
      have hx : x = nl := by omega
      have c' : Lay L h' := g.lay c (fun id j q => by omega)
      have T' := T.cg g (fun id j q => by omega)
      rw [hx] at E' ⊢
      refine sX10_grow_59 ?_
      rw [s_347 c', T'.2.1]
      exact ⟨rfl, fun _ => K h' g E', fun z => absurd (by rw [ti_le]; omega) z⟩
    | succ d ih =>
      intro x h' hx g E'
      have c' : Lay L h' := g.lay c (fun id j q => by omega)
      have T' := T.cg g (fun id j q => by omega)
      refine sX10_grow_59 ?_
      rw [s_347 c', T'.2.1]
      refine ⟨rfl, fun z => ?_, fun _ => inn x (psG tR tL nl nr (G, false) x) (by omega) (fun h2 g2 E2 => ih (x + 1) h2 (by omega) g2 E2) nr 0 h' (by omega) g E'⟩
      rw [ti_le, nI_toInt (by omega), nI_toInt (by omega)] at z; omega
  exact sX10_grow_51 ⟨fun z => absurd z (by decide), fun _ => lp nl 0 h (by omega) (Cg.rfl' h) E⟩
theorem sp_growM {Q : Hp → Prop} (c : Lay L h) (T : lkM h nl nr lk rk) (R : tM h nl nr tR tL) (K : ∀ h', Cg (fun id _ => id = 381) h h' → gM h' nl nr (itG tR tL nl nr 400 (bth tR tL)) → Q h') : AC w mX10_grow 0 0 (rV Q) [.ref 347] h := by
  have t1 := T.1.1
  have t2 := T.1.2
  have it : ∀ (d : Nat) (h' : Hp) (G : Nat → Nat → Bool), 401 ≤ cntG G + d → itG tR tL nl nr d G = itG tR tL nl nr 400 (bth tR tL) → Cg (fun id _ => id = 381) h h' → gM h' nl nr G → AW w mX10_grow 0 0 (rV Q) 0 0 51 [some (.ref 347), some (.int 1), none, none] [] h' := by
    intro d
    induction d with
    | zero =>
      intro h' G hc
      have := cntG_le G
      omega
    | succ d ih =>
      intro h' G hc e g E
      have c' : Lay L h' := g.lay c (fun id j q => by omega)
      have T' := T.cg g (fun id j q => by omega)
      have R' := R.cg g (fun id j q => by omega)
      have e : (if (pasG tR tL nl nr G).2 = true then itG tR tL nl nr d (pasG tR tL nl nr G).1 else (pasG tR tL nl nr G).1) = itG tR tL nl nr 400 (bth tR tL) := e
      refine sp_growPass c' T' R' E (fun h2 g2 E2 => ?_)
      by_cases q : (pasG tR tL nl nr G).2 = true
      · rw [if_pos q] at e
        have pc := pas_cnt t1 t2 q
        rw [q]
        exact ih h2 _ (by omega) e (g.trans g2) E2
      · rw [if_neg q] at e
        rw [e] at E2
        rw [Bool.eq_false_iff.mpr q]
        exact sX10_grow_51 ⟨fun _ => K h2 (g.trans g2) E2, fun z => absurd rfl z⟩
  have st : ∀ h', Cg (fun id _ => id = 381) h h' → gM h' nl nr (bth tR tL) → AW w mX10_grow 0 0 (rV Q) 0 0 51 [some (.ref 347), some (.int 1), none, none] [] h' := fun h' g E => by
    by_cases z : cntG (bth tR tL) = 0
    · have c' : Lay L h' := g.lay c (fun id j q => by omega)
      have T' := T.cg g (fun id j q => by omega)
      have R' := R.cg g (fun id j q => by omega)
      have p0 := pas_0 (tR := tR) (tL := tL) t1 t2 z
      have e : itG tR tL nl nr 400 (bth tR tL) = bth tR tL := by
        show (if (pasG tR tL nl nr (bth tR tL)).2 = true then _ else (pasG tR tL nl nr (bth tR tL)).1) = _
        rw [p0]; rfl
      rw [e] at K
      refine sp_growPass c' T' R' E (fun h2 g2 E2 => ?_)
      rw [p0] at E2 ⊢
      exact sX10_grow_51 ⟨fun _ => K h2 (g.trans g2) E2, fun z => absurd rfl z⟩
    · exact it 400 h' _ (by omega) rfl g E
  have ob : okG (bth tR tL) nl nr := okG.bth R.1 R.2.1
  have inn : ∀ (x : Nat), x < nl → (∀ h', Cg (fun id _ => id = 381) h h' → (∀ a b, a < nl → b < nr → a < x + 1 → hI h' 381 (20 * a + b) = b01 (bth tR tL a b)) → AW w mX10_grow 0 0 (rV Q) 0 0 2 [some (.ref 347), some (.int (nI (x + 1))), none, none] [] h') →
      ∀ (d y : Nat) (h' : Hp), y + d = nr → Cg (fun id _ => id = 381) h h' → (∀ a b, a < nl → b < nr → (a < x ∨ (a = x ∧ b < y)) → hI h' 381 (20 * a + b) = b01 (bth tR tL a b)) → AW w mX10_grow 0 0 (rV Q) 0 0 12 [some (.ref 347), some (.int (nI x)), some (.int (nI y)), none] [] h' := by
    intro x hx Kc d
    induction d with
    | zero =>
      intro y h' hy g E'
      have hy : y = nr := by omega
      subst hy
      have c' : Lay L h' := g.lay c (fun id j q => by omega)
      have T' := T.cg g (fun id j q => by omega)
      refine sX10_grow_12 ?_
      rw [s_347 c', T'.2.2.1, nI_1]
      exact ⟨rfl, fun _ => Kc h' g (fun a b p1 p2 p3 => E' a b p1 p2 (by omega)), fun z => absurd (by rw [ti_le]; omega) z⟩
    | succ d ih =>
      intro y h' hy g E'
      have c' : Lay L h' := g.lay c (fun id j q => by omega)
      have T' := T.cg g (fun id j q => by omega)
      have R' := R.cg g (fun id j q => by omega)
      have nx := ih (y + 1) (sI h' 381 (20 * x + y) (b01 (bth tR tL x y))) (by omega) (g.sI rfl) (fun a b p1 p2 p3 => by
        by_cases e : a = x ∧ b = y
        · rw [e.1, e.2, hI_eq]
        · rw [hI_ne (Or.inr (by omega))]; exact E' a b p1 p2 (by omega))
      refine sX10_grow_12 ?_
      rw [s_347 c', T'.2.2.1, r_347_53 c', nI_1 y, m_20, nI_add (20 * x) y, cl_nI (show 20 * x + y < 2147483648 by omega)]
      refine ⟨rfl, fun z => ?_, fun _ => ⟨by first | decide | exact vp_nI (j := 0) (by decide) (by decide) | exact vp_nI (j := 1) (by decide) (by decide), sp_isBothM c' T' R' hx (by omega) ⟨by rw [s_381 c'], ?_, fun h2 e2 => ?_⟩⟩⟩
      · rw [ti_le, nI_toInt (by omega), nI_toInt (by omega)] at z; omega
      · rw [s_381 c']; exact vp_nI (by omega) (by decide)
      · rw [e2, nar_b]; exact nx
  have lp : ∀ (d x : Nat) (h' : Hp), x + d = nl → Cg (fun id _ => id = 381) h h' → (∀ a b, a < nl → b < nr → a < x → hI h' 381 (20 * a + b) = b01 (bth tR tL a b)) → AW w mX10_grow 0 0 (rV Q) 0 0 2 [some (.ref 347), some (.int (nI x)), none, none] [] h' := by
    intro d
    induction d with
    | zero =>
      intro x h' hx g E'
      have hx : x = nl := by omega
      subst hx
      have c' : Lay L h' := g.lay c (fun id j q => by omega)
      have T' := T.cg g (fun id j q => by omega)
      refine sX10_grow_2 ?_
      rw [s_347 c', T'.2.1]
      exact ⟨rfl, fun _ => st h' g ⟨ob, fun a b p1 p2 => E' a b p1 p2 p1⟩, fun z => absurd (by rw [ti_le]; omega) z⟩
    | succ d ih =>
      intro x h' hx g E'
      have c' : Lay L h' := g.lay c (fun id j q => by omega)
      have T' := T.cg g (fun id j q => by omega)
      refine sX10_grow_2 ?_
      rw [s_347 c', T'.2.1]
      refine ⟨rfl, fun z => ?_, fun _ => inn x (by omega) (fun h2 g2 E2 => ih (x + 1) h2 (by omega) g2 E2) nr 0 h' (by omega) g (fun a b p1 p2 p3 => E' a b p1 p2 (by omega))⟩
      rw [ti_le, nI_toInt (by omega), nI_toInt (by omega)] at z; omega
  exact eX10_grow (sX10_grow_0 (lp nl 0 h (by omega) (Cg.rfl' h) (fun a b _ _ p => absurd p (Nat.not_lt_zero a))))
end LE
