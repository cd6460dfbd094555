/-! ===== links, the reference: rows that go together, the calls ===== -/
theorem b01_iff {p q : Prop} [Decidable p] [Decidable q] : b01 (decide p) = b01 (decide q) ↔ (p ↔ q) := by
  by_cases a : p
  · by_cases b : q
    · rw [decide_eq_true a, decide_eq_true b]
      exact ⟨fun _ => ⟨fun _ => b, fun _ => a⟩, fun _ => rfl⟩
    · rw [decide_eq_true a, decide_eq_false b]
      exact ⟨fun z => absurd z (by decide), fun z => absurd (z.mp a) b⟩
  · by_cases b : q
    · rw [decide_eq_false a, decide_eq_true b]
      exact ⟨fun z => absurd z (by decide), fun z => absurd (z.mpr b) a⟩
    · rw [decide_eq_false a, decide_eq_false b]
      exact ⟨fun _ => ⟨fun z => absurd z a, fun z => absurd z b⟩, fun _ => rfl⟩
def gvP (G : Nat → Nat → Bool) (nl nr x m y n : Nat) (x5 : Int32) (u v : Nat) : Prop := (∀ a b, a < nl → b < nr → (a < u ∨ (a = u ∧ b < v)) → G a b = true → ((x ≤ a ∧ a ≤ x + m) ↔ (y ≤ b ∧ b ≤ y + n))) ∧ ((x5 = 1 ∧ ∃ a b, G a b = true ∧ x ≤ a ∧ a ≤ x + m) ∨ (x5 = 0 ∧ ∀ a b, a < nl → b < nr → (a < u ∨ (a = u ∧ b < v)) → G a b = true → ¬ (x ≤ a ∧ a ≤ x + m)))
theorem deskM.cg' {D : Nat → Nat → Prop} {h h' : Hp} {dk : Nat → Dk} (E : deskM h dk) (g : Cg D h h') (hd : ∀ id j, D id j → ¬ (382 ≤ id ∧ id ≤ 384)) : deskM h' dk := fun t ht => by
  obtain ⟨x1, x2, x3, x4⟩ := E t ht
  have e : ∀ id j, 382 ≤ id → id ≤ 384 → hI h' id j = hI h id j := fun id j a b => g.i (fun q => hd id j q ⟨a, b⟩)
  refine ⟨x1, by rw [e 382 t (by omega) (by omega)]; exact x2, fun z => ⟨by rw [e 383 t (by omega) (by omega)]; exact (x3 z).1, fun i hi => by rw [e 384 _ (by omega) (by omega)]; exact (x3 z).2 i hi⟩, fun z => ⟨by rw [e 384 _ (by omega) (by omega)]; exact (x4 z).1, by rw [e 384 _ (by omega) (by omega)]; exact (x4 z).2⟩⟩
section LF
variable {w : Wd} {L : Nat} {h : Hp} {nl nr : Nat} {lk rk : Nat → Nat} {tR tL : Nat → Option Nat} {G : Nat → Nat → Bool} {Q : Int32 → Hp → Prop}
theorem sp_goM {x m y n : Nat} (c : Lay L h) (T : lkM h nl nr lk rk) (E : gM h nl nr G) (hx : x + m < nl) (hy : y + n < nr) (K1 : goP G x m y n → Q 1 h) (K0 : ¬ goP G x m y n → Q 0 h) : AC w mX10_goTogether 0 0 (rI Q) [.ref 347, .int (nI x), .int (nI m), .int (nI y), .int (nI n)] h := by
  have t1 := T.1.1
  have t2 := T.1.2
  have inn : ∀ u, u < nl → (∀ x5, gvP G nl nr x m y n x5 (u + 1) 0 → AW w mX10_goTogether 0 0 (rI Q) 0 0 6 [some (.ref 347), some (.int (nI x)), some (.int (nI m)), some (.int (nI y)), some (.int (nI n)), some (.int x5), some (.int (nI (u + 1))), none, none, none] [] h) →
      ∀ (d v : Nat) (x5 : Int32), v + d = nr → gvP G nl nr x m y n x5 u v → AW w mX10_goTogether 0 0 (rI Q) 0 0 18 [some (.ref 347), some (.int (nI x)), some (.int (nI m)), some (.int (nI y)), some (.int (nI n)), some (.int x5), some (.int (nI u)), some (.int (nI v)), none, none] [] h := by
    intro u hu Kc d
    induction d with
    | zero =>
      intro v x5 hv I
      have hv : v = nr := by omega
      refine sX10_goTogether_18 ?_
      rw [s_347 c, T.2.2.1, nI_1 u]
      exact ⟨rfl, fun _ => Kc x5 ⟨fun a b p1 p2 p3 => I.1 a b p1 p2 (by omega), I.2.imp id (fun q => ⟨q.1, fun a b p1 p2 p3 => q.2 a b p1 p2 (by omega)⟩)⟩, fun z => absurd (by rw [ti_le, hv]; omega) z⟩
    | succ d ih =>
      intro v x5 hv I
      have v0 := E.2 u v hu (by omega)
      have nx := fun x5 => ih (v + 1) x5 (by omega)
      have k95 : (G u v = true → ((x ≤ u ∧ u ≤ x + m) ↔ (y ≤ v ∧ v ≤ y + n))) → AW w mX10_goTogether 0 0 (rI Q) 0 0 95 [some (.ref 347), some (.int (nI x)), some (.int (nI m)), some (.int (nI y)), some (.int (nI n)), some (.int x5), some (.int (nI u)), some (.int (nI v)), some (.int (b01 (decide (x ≤ u ∧ u ≤ x + m)))), none] [] h := fun R => by
        have R' : ∀ a b, a < nl → b < nr → (a < u ∨ (a = u ∧ b < v + 1)) → G a b = true → ((x ≤ a ∧ a ≤ x + m) ↔ (y ≤ b ∧ b ≤ y + n)) := fun a b p1 p2 p3 p4 => by
          by_cases e : a = u ∧ b = v
          · rw [e.1, e.2] at p4 ⊢; exact R p4
          · exact I.1 a b p1 p2 (by omega) p4
        have N0 : x5 = 0 → (G u v = true → ¬ (x ≤ u ∧ u ≤ x + m)) → gvP G nl nr x m y n 0 u (v + 1) := fun z nn => by
          rcases I.2 with q | q
          · exact absurd (q.1.symm.trans z) (by decide)
          · refine ⟨R', Or.inr ⟨rfl, fun a b p1 p2 p3 p4 => ?_⟩⟩
            by_cases e : a = u ∧ b = v
            · rw [e.1, e.2] at p4; rw [e.1]; exact nn p4
            · exact q.2 a b p1 p2 (by omega) p4
        refine sX10_goTogether_95 ?_
        rw [s_347 c, r_347_53 c, s_381 c, m_20, nI_add, cl_nI (show 20 * u + v < 2147483648 by omega), v0, nI_1 v]
        refine ⟨fun z => nx 1 ⟨R', Or.inl ⟨rfl, ?_⟩⟩, fun z => ⟨rfl, by first | decide | exact vp_nI (j := 0) (by decide) (by decide) | exact vp_nI (j := 1) (by decide) (by decide), rfl, vp_nI (by omega) (by decide), fun z2 => nx 0 (N0 z (fun g => ?_)), fun z2 => ⟨fun z3 => nx 0 (N0 z (fun g => ?_)), fun z3 => nx 1 ⟨R', Or.inl ⟨rfl, u, v, ?_, ?_⟩⟩⟩⟩⟩
        · rcases I.2 with q | q
          · exact q.2
          · exact absurd q.1 z
        · rw [b01_eq, g] at z2; cases z2
        · rw [b01_eq] at z3; exact of_decide_eq_false z3
        · rw [b01_ne] at z2; exact z2
        · rw [b01_ne] at z3; exact of_decide_eq_true z3
      have k68 : AW w mX10_goTogether 0 0 (rI Q) 0 0 68 [some (.ref 347), some (.int (nI x)), some (.int (nI m)), some (.int (nI y)), some (.int (nI n)), some (.int x5), some (.int (nI u)), some (.int (nI v)), some (.int (b01 (decide (x ≤ u ∧ u ≤ x + m)))), none] [.int (b01 (decide (y ≤ v ∧ v ≤ y + n)))] h := by
        refine sX10_goTogether_68 ?_
        rw [s_347 c, r_347_53 c, s_381 c, m_20, nI_add, cl_nI (show 20 * u + v < 2147483648 by omega), v0, b01_iff]
        refine ⟨rfl, by first | decide | exact vp_nI (j := 0) (by decide) (by decide) | exact vp_nI (j := 1) (by decide) (by decide), rfl, vp_nI (by omega) (by decide), fun z => k95 (fun g => ?_), fun z => ⟨fun z2 => k95 (fun _ => z2), fun z2 => K0 (fun g => z2 (g.2 u v ?_))⟩⟩
        · rw [b01_eq, g] at z; cases z
        · rw [b01_ne] at z; exact z
      have k46 : AW w mX10_goTogether 0 0 (rI Q) 0 0 46 [some (.ref 347), some (.int (nI x)), some (.int (nI m)), some (.int (nI y)), some (.int (nI n)), some (.int x5), some (.int (nI u)), some (.int (nI v)), none, none] [.int (b01 (decide (x ≤ u ∧ u ≤ x + m)))] h := by
        refine sX10_goTogether_46 ?_
        rw [nI_add, ti_lt, ti_lt, nI_toInt (show v < 2147483648 by omega), nI_toInt (show y < 2147483648 by omega), nI_toInt (show y + n < 2147483648 by omega)]
        by_cases r : y ≤ v ∧ v ≤ y + n
        · rw [decide_eq_true r] at k68
          exact ⟨fun z => by omega, fun _ => ⟨fun z => by omega, fun _ => k68⟩⟩
        · rw [decide_eq_false r] at k68
          exact ⟨fun _ => k68, fun z => ⟨fun _ => k68, fun z2 => absurd ⟨by omega, by omega⟩ r⟩⟩
      refine sX10_goTogether_18 ?_
      rw [s_347 c, T.2.2.1, nI_1 u, nI_add, ti_le, ti_lt, ti_lt, nI_toInt (show v < 2147483648 by omega), nI_toInt (show nr < 2147483648 by omega), nI_toInt (show u < 2147483648 by omega), nI_toInt (show x < 2147483648 by omega), nI_toInt (show x + m < 2147483648 by omega)]
      by_cases r : x ≤ u ∧ u ≤ x + m
      · rw [decide_eq_true r] at k46
        exact ⟨rfl, fun z => by omega, fun _ => ⟨fun z => by omega, fun _ => ⟨fun z => by omega, fun _ => k46⟩⟩⟩
      · rw [decide_eq_false r] at k46
        exact ⟨rfl, fun z => by omega, fun _ => ⟨fun _ => k46, fun z => ⟨fun _ => k46, fun z2 => absurd ⟨by omega, by omega⟩ r⟩⟩⟩
  have lp : ∀ (d u : Nat) (x5 : Int32), u + d = nl → gvP G nl nr x m y n x5 u 0 → AW w mX10_goTogether 0 0 (rI Q) 0 0 6 [some (.ref 347), some (.int (nI x)), some (.int (nI m)), some (.int (nI y)), some (.int (nI n)), some (.int x5), some (.int (nI u)), none, none, none] [] h := by
    intro d
    induction d with
    | zero =>
      intro u x5 hu I
      have hu : u = nl := by omega
      refine sX10_goTogether_6 ?_
      rw [s_347 c, T.2.1]
      refine ⟨rfl, fun _ => ?_, fun z => absurd (by rw [ti_le, hu]; omega) z⟩
      obtain ⟨I1, ⟨rfl, q⟩ | ⟨rfl, q⟩⟩ := I
      · exact ⟨Or.inr rfl, K1 ⟨q, fun a b g => I1 a b (E.1 a b g).1 (E.1 a b g).2 (Or.inl (by have := (E.1 a b g).1; omega)) g⟩⟩
      · exact ⟨Or.inl rfl, K0 (fun ⟨⟨a, b, g, r⟩, _⟩ => q a b (E.1 a b g).1 (E.1 a b g).2 (Or.inl (by have := (E.1 a b g).1; omega)) g r)⟩
    | succ d ih =>
      intro u x5 hu I
      refine sX10_goTogether_6 ?_
      rw [s_347 c, T.2.1]
      refine ⟨rfl, fun z => ?_, fun _ => inn u (by omega) (fun y5 I' => ih (u + 1) y5 (by omega) I') nr 0 x5 (by omega) I⟩
      rw [ti_le, nI_toInt (by omega), nI_toInt (by omega)] at z; omega
  exact eX10_goTogether (sX10_goTogether_0 (lp nl 0 0 (by omega) ⟨fun a b _ _ p3 => by omega, Or.inr ⟨rfl, fun a b _ _ p3 => by omega⟩⟩))
theorem sp_phr39 (c : Lay L h) (T : lkM h nl nr lk rk) (E : gM h nl nr G) (K : Q (nI (phN G nl nr)) h) : AW w mX10_phrases 0 0 (rI Q) 0 0 39 [some (.ref 347), none, some (.int 0), some (.int 0), none, none, none] [] h := by
  have t1 := T.1.1
  have t2 := T.1.2
  have l82 : ∀ (x m y a : Nat), x + m < nl → y < nr → AW w mX10_phrases 0 0 (rI Q) 0 0 70 [some (.ref 347), none, some (.int (nI (a + cYn G nr x m y))), some (.int (nI x)), some (.int (nI m)), some (.int (nI (y + 1))), none] [] h →
      ∀ (d n : Nat), n + d = mm4 nr y → AW w mX10_phrases 0 0 (rI Q) 0 0 82 [some (.ref 347), none, some (.int (nI (a + sm (fun n => goN G x m y n) 0 n))), some (.int (nI x)), some (.int (nI m)), some (.int (nI y)), some (.int (nI n))] [] h := by
    intro x m y a hx hy Kc d
    induction d with
    | zero =>
      intro n hn
      have hn : n = mm4 nr y := by omega
      have KK : AW w mX10_phrases 0 0 (rI Q) 0 0 70 [some (.ref 347), none, some (.int (nI (a + sm (fun n => goN G x m y n) 0 n))), some (.int (nI x)), some (.int (nI m)), some (.int (nI (y + 1))), none] [] h := by rw [hn]; exact Kc
      have hd : 4 ≤ n ∨ nr ≤ y + n := by rw [hn]; unfold mm4; split <;> omega
      have h4 : n ≤ 4 := by rw [hn]; unfold mm4; split <;> omega
      refine sX10_phrases_82 ?_
      rw [nI_1 y, s_347 c, T.2.2.1, nI_add]
      refine ⟨fun _ => KK, fun z => ⟨rfl, fun _ => KK, fun z2 => ?_⟩⟩
      rw [ti_le, t_4, nI_toInt (by omega)] at z
      rw [ti_le, nI_toInt (by omega), nI_toInt (by omega)] at z2
      omega
    | succ d ih =>
      intro n hn
      have hd : n < 4 ∧ y + n < nr := by unfold mm4 at hn; split at hn <;> omega
      have N := ih (n + 1) (by omega)
      rw [sm_s, ← Nat.add_assoc] at N
      refine sX10_phrases_82 ?_
      rw [s_347 c, T.2.2.1, nI_add y n]
      refine ⟨fun z => ?_, fun _ => ⟨rfl, fun z => ?_, fun _ => sp_goM c T E hx hd.2 (fun g => ⟨fun z => absurd z (by decide), fun _ => ?_⟩) (fun g => ⟨fun _ => ?_, fun z => absurd rfl z⟩)⟩⟩
      · rw [ti_le, t_4, nI_toInt (by omega)] at z; omega
      · rw [ti_le, nI_toInt (by omega), nI_toInt (by omega)] at z; omega
      · rw [nI_1 (a + _), nI_1 n]
        rw [goN_y g] at N; exact N
      · rw [Int32.add_zero, nI_1 n]
        rw [goN_n g] at N; exact N
  have l70 : ∀ (x m a : Nat), x + m < nl → AW w mX10_phrases 0 0 (rI Q) 0 0 50 [some (.ref 347), none, some (.int (nI (a + cXn G nr x m))), some (.int (nI x)), some (.int (nI (m + 1))), none, none] [] h →
      ∀ (d y : Nat), y + d = nr → AW w mX10_phrases 0 0 (rI Q) 0 0 70 [some (.ref 347), none, some (.int (nI (a + sm (fun y => cYn G nr x m y) 0 y))), some (.int (nI x)), some (.int (nI m)), some (.int (nI y)), none] [] h := by
    intro x m a hx Kc d
    induction d with
    | zero =>
      intro y hy
      have hy : y = nr := by omega
      subst hy
      refine sX10_phrases_70 ?_
      rw [s_347 c, T.2.2.1, nI_1 m]
      exact ⟨rfl, fun _ => Kc, fun z => absurd (by rw [ti_le]; omega) z⟩
    | succ d ih =>
      intro y hy
      have N := ih (y + 1) (by omega)
      rw [sm_s, ← Nat.add_assoc] at N
      refine sX10_phrases_70 ?_
      rw [s_347 c, T.2.2.1]
      refine ⟨rfl, fun z => ?_, fun _ => l82 x m y _ hx (by omega) N (mm4 nr y) 0 (by omega)⟩
      rw [ti_le, nI_toInt (by omega), nI_toInt (by omega)] at z; omega
  have l50 : ∀ (x a : Nat), x < nl → AW w mX10_phrases 0 0 (rI Q) 0 0 39 [some (.ref 347), none, some (.int (nI (a + cRn G nl nr x))), some (.int (nI (x + 1))), none, none, none] [] h →
      ∀ (d m : Nat), m + d = mm4 nl x → AW w mX10_phrases 0 0 (rI Q) 0 0 50 [some (.ref 347), none, some (.int (nI (a + sm (fun m => cXn G nr x m) 0 m))), some (.int (nI x)), some (.int (nI m)), none, none] [] h := by
    intro x a hx Kc d
    induction d with
    | zero =>
      intro m hm
      have hm : m = mm4 nl x := by omega
      have KK : AW w mX10_phrases 0 0 (rI Q) 0 0 39 [some (.ref 347), none, some (.int (nI (a + sm (fun m => cXn G nr x m) 0 m))), some (.int (nI (x + 1))), none, none, none] [] h := by rw [hm]; exact Kc
      have hd : 4 ≤ m ∨ nl ≤ x + m := by rw [hm]; unfold mm4; split <;> omega
      have h4 : m ≤ 4 := by rw [hm]; unfold mm4; split <;> omega
      refine sX10_phrases_50 ?_
      rw [nI_1 x, s_347 c, T.2.1, nI_add]
      refine ⟨fun _ => KK, fun z => ⟨rfl, fun _ => KK, fun z2 => ?_⟩⟩
      rw [ti_le, t_4, nI_toInt (by omega)] at z
      rw [ti_le, nI_toInt (by omega), nI_toInt (by omega)] at z2
      omega
    | succ d ih =>
      intro m hm
      have hd : m < 4 ∧ x + m < nl := by unfold mm4 at hm; split at hm <;> omega
      have N := ih (m + 1) (by omega)
      rw [sm_s, ← Nat.add_assoc] at N
      refine sX10_phrases_50 ?_
      rw [s_347 c, T.2.1, nI_add x m]
      refine ⟨fun z => ?_, fun _ => ⟨rfl, fun z => ?_, fun _ => l70 x m _ hd.2 N nr 0 (by omega)⟩⟩
      · rw [ti_le, t_4, nI_toInt (by omega)] at z; omega
      · rw [ti_le, nI_toInt (by omega), nI_toInt (by omega)] at z; omega
  have lp : ∀ (d x : Nat), x + d = nl → AW w mX10_phrases 0 0 (rI Q) 0 0 39 [some (.ref 347), none, some (.int (nI (sm (fun x => cRn G nl nr x) 0 x))), some (.int (nI x)), none, none, none] [] h := by
    intro d
    induction d with
    | zero =>
      intro x hx
      have hx : x = nl := by omega
      subst hx
      refine sX10_phrases_39 ?_
      rw [s_347 c, T.2.1]
      exact ⟨rfl, fun _ => K, fun z => absurd (by rw [ti_le]; omega) z⟩
    | succ d ih =>
      intro x hx
      have N := ih (x + 1) (by omega)
      rw [sm_s] at N
      refine sX10_phrases_39 ?_
      rw [s_347 c, T.2.1]
      refine ⟨rfl, fun z => ?_, fun _ => l50 x _ (by omega) N (mm4 nl x) 0 (by omega)⟩
      rw [ti_le, nI_toInt (by omega), nI_toInt (by omega)] at z; omega
  exact lp nl 0 (by omega)
variable {S : Ly} {tm : Nat → Int32}
theorem sp_isLinkableM {m : Nat} (c : Lay L h) (n0 : bNs (S.1 0) ≤ 20) (n1 : bNs (S.1 1) ≤ 20) (J : jsM h S) (hm : m < JN S) (K : Q (b01 (lnB (JK S m))) h) : AC w mX10_isLinkable 0 0 (rI Q) [.ref 347, .int (nI m)] h := by
  have hJ := JN_le (S := S) n0 n1
  obtain ⟨j1, j2, j3⟩ := J m hm
  obtain ⟨o1, o2, o3, o4⟩ := JN_ok (S := S) n0 n1 hm
  refine eX10_isLinkable (sX10_isLinkable_0 ?_)
  rw [s_347 c, r_347_42 c, s_373 c, cl_nI (by omega), j1]
  generalize JK S m = k at o1 K ⊢
  have t3 : (3 : Int64).toInt = 3 := by decide
  have t5 : (5 : Int64).toInt = 5 := by decide
  have tk : (nI k).toInt64.toInt = (k : Int) := by rw [Int32.toInt_toInt64, nI_toInt (by omega)]
  refine ⟨rfl, by first | decide | exact vp_nI (j := 0) (by decide) (by decide) | exact vp_nI (j := 1) (by decide) (by decide), rfl, vp_nI (by omega) (by decide), fun z => Qto K (b1 (decide_eq_true ?_)), fun z => sp_in (b01_id (Qto K (congrArg b01 (decide_eq_decide.mpr ?_))))⟩
  · rw [show (0 : Int32) = nI 0 from rfl, nI_inj (by omega) (by omega)] at z
    omega
  · rw [show (0 : Int32) = nI 0 from rfl, nI_inj (by omega) (by omega)] at z
    rw [t3, t5, tk]; omega
def lmE (id j : Nat) : Prop := bsD id j ∨ lmD id j ∨ (379 ≤ id ∧ id ≤ 381)
theorem lmE5 {id j : Nat} (q : lmE id j) : 347 ≤ id := by unfold lmE bsD lmD at q; omega
theorem sp_linkM {k x2 x : Int32} (c : Lay L h) (T : lyM h S) (D : shareM h (bNk (S.1 0)) (bNk (S.1 1)) S.2.2.2 tm) (K : ∀ h', Cg lmE h h' → Q (fLink S k x2 x) h') : AC w mX10_link 0 0 (rI Q) [.ref 347, .int k, .int x2, .int x] h := by
  have n0 := T.1.1.1.1
  have n1 := T.1.2.1.1
  have hJ := JN_le (S := S) n0 n1
  refine eX10_link (sX10_link_0 ⟨by rw [s_347 c], sp_isJointM c T D (fun h1 g W1 => ?_)⟩)
  have g' : Cg lmE h h1 := g.mono (fun id j q => Or.inl q)
  have c1 : Lay L h1 := g'.lay c (fun id j q => by have := lmE5 q; omega)
  have T1 : lyM h1 S := T.cg g (fun id j q => by unfold bsD at q; omega)
  have D1 : shareM h1 (bNk (S.1 0)) (bNk (S.1 1)) S.2.2.2 tm := D.cg g (fun id j q => by unfold bsD at q; omega)
  have KK := K h1 g'
  refine ⟨fun z => ?_, fun z => ?_⟩
  · rw [b01_ne] at z
    have z' := z
    obtain ⟨m, hm, rfl⟩ := inR_nI z (by omega)
    have e : fLink S (nI m) x2 x = (if inR x2 2 = true then (if inR x (if x2 = 0 then LN S m else RN S m) = true then (if lnB (JK S m) = true then oI (if x2 = 0 then TR S m x.toNatClampNeg else TL S m x.toNatClampNeg) else -100003) else -100001) else -100002) := by rw [fLink, if_pos z', cl_nI (by omega)]
    rw [e] at K KK
    obtain ⟨o1, o2, o3, o4⟩ := JN_ok (S := S) n0 n1 hm
    have l2 := lS_le (JK S m)
    have r2 := rS_le (JK S m)
    have okA := T.1.1.1
    have okR := T.1.2.1
    have nl20 : LN S m ≤ 20 := gN_le okA o2 l2
    have nr20 : RN S m ≤ 20 := gN_le okR o3 r2
    refine sp_in32 (n := 2) (by decide) (by decide) ⟨fun hin => ?_, fun hin => ?_⟩
    · rw [b01_ne] at hin
      rw [hin, if_pos rfl] at K
      refine ⟨by rw [s_347 c1], sp_gatherM c1 T1.1 W1.2.2.2 hm (fun h2 g2 A2 => ?_)⟩
      have g2' : Cg lmE h h2 := g'.trans (g2.mono (fun id j q => Or.inr (Or.inl q)))
      have c2 : Lay L h2 := g2'.lay c (fun id j q => by have := lmE5 q; omega)
      have W2 : WM h2 S := W1.cg g2 (fun id j q => by unfold lmD at q; omega)
      have D2 : shareM h2 (bNk (S.1 0)) (bNk (S.1 1)) S.2.2.2 tm := D1.cg g2 (fun id j q => by unfold lmD at q; omega)
      have K2 := K h2 g2'
      have k47 : ∀ N : Nat, N ≤ 20 → (if x2 = 0 then LN S m else RN S m) = N → AW w mX10_link 0 0 (rI Q) 0 0 47 [some (.ref 347), some (.int (nI m)), some (.int x2), some (.int x)] [.int (nI N), .long 0, .long x.toInt64] h2 := fun N hN20 hN => by
        rw [hN] at K K2
        refine sX10_link_47 (sp_in32 (n := N) (by decide) (toI64_sub1 (by omega)) ⟨fun y => ?_, fun y => ?_⟩)
        · rw [b01_ne] at y
          have y' := y
          rw [y, if_pos rfl] at K K2
          obtain ⟨t, ht, rfl⟩ := inR_nI y (by omega)
          rw [cl_nI (by omega)] at K K2
          refine ⟨by rw [s_347 c2], sp_isLinkableM c2 n0 n1 W2.2.2.2 hm ⟨fun p => ?_, fun p => ?_⟩⟩
          · rw [b01_ne] at p
            rw [p, if_pos rfl] at K
            refine ⟨by rw [s_347 c2], sp_linkAll c2 D2 A2 (fun x hx => gW_lt okA o2 hx) (fun y hy => gW_lt okR o3 hy) (fun h3 g3 R3 => ?_)⟩
            have g3' : Cg lmE h h3 := g2'.trans (g3.mono (fun id j q => Or.inr (Or.inr (by omega))))
            have c3 : Lay L h3 := g3'.lay c (fun id j q => by have := lmE5 q; omega)
            have K3 := K h3 g3'
            rw [s_347 c3, r_347_52 c3, r_347_51 c3, s_380 c3, s_379 c3, cl_nI (by omega)]
            refine ⟨fun u => ?_, fun u => ?_⟩
            · rw [if_neg u] at K3 hN
              rw [R3.2.2.2 t (by rw [hN]; exact ht)]
              exact ⟨rfl, by first | decide | exact vp_nI (j := 0) (by decide) (by decide) | exact vp_nI (j := 1) (by decide) (by decide), rfl, vp_nI (by omega) (by decide), K3⟩
            · rw [if_pos u] at K3 hN
              rw [R3.2.2.1 t (by rw [hN]; exact ht)]
              exact ⟨rfl, by first | decide | exact vp_nI (j := 0) (by decide) (by decide) | exact vp_nI (j := 1) (by decide) (by decide), rfl, vp_nI (by omega) (by decide), K3⟩
          · rw [b01_eq] at p
            rw [p] at K2; exact K2
        · rw [b01_eq] at y
          rw [y] at K2; exact K2
      rw [s_347 c2, A2.2.1, A2.2.2.1]
      exact ⟨fun u => ⟨rfl, k47 _ nr20 (if_neg u)⟩, fun u => ⟨rfl, k47 _ nl20 (if_pos u)⟩⟩
    · rw [b01_eq] at hin
      rw [hin] at KK; exact KK
  · rw [b01_eq] at z
    exact Qto KK (by rw [fLink, z]; rfl)
theorem sp_linkedM {k x2 x y : Int32} (c : Lay L h) (T : lyM h S) (D : shareM h (bNk (S.1 0)) (bNk (S.1 1)) S.2.2.2 tm) (K : ∀ h', Cg lmE h h' → Q (fLinked S k x2 x y) h') : AC w mX10_linked 0 0 (rI Q) [.ref 347, .int k, .int x2, .int x, .int y] h := by
  have n0 := T.1.1.1.1
  have n1 := T.1.2.1.1
  have hJ := JN_le (S := S) n0 n1
  refine eX10_linked (sX10_linked_0 ⟨by rw [s_347 c], sp_isJointM c T D (fun h1 g W1 => ?_)⟩)
  have g' : Cg lmE h h1 := g.mono (fun id j q => Or.inl q)
  have c1 : Lay L h1 := g'.lay c (fun id j q => by have := lmE5 q; omega)
  have T1 : lyM h1 S := T.cg g (fun id j q => by unfold bsD at q; omega)
  have D1 : shareM h1 (bNk (S.1 0)) (bNk (S.1 1)) S.2.2.2 tm := D.cg g (fun id j q => by unfold bsD at q; omega)
  have KK := K h1 g'
  refine ⟨fun z => ?_, fun z => ?_⟩
  · rw [b01_ne] at z
    have z' := z
    obtain ⟨m, hm, rfl⟩ := inR_nI z (by omega)
    have e : fLinked S (nI m) x2 x y = (if (inR x (LN S m) && inR y (RN S m)) = true then (if inR x2 2 = true then (if lnB (JK S m) = true then (if x2 = 0 then b01 (bth (TR S m) (TL S m) x.toNatClampNeg y.toNatClampNeg) else b01 (GR S m x.toNatClampNeg y.toNatClampNeg)) else -100003) else -100002) else -100001) := by rw [fLinked, if_pos z', cl_nI (by omega)]
    rw [e] at K KK
    obtain ⟨o1, o2, o3, o4⟩ := JN_ok (S := S) n0 n1 hm
    have l2 := lS_le (JK S m)
    have r2 := rS_le (JK S m)
    have okA := T.1.1.1
    have okR := T.1.2.1
    have nl20 : LN S m ≤ 20 := gN_le okA o2 l2
    have nr20 : RN S m ≤ 20 := gN_le okR o3 r2
    refine ⟨by rw [s_347 c1], sp_gatherM c1 T1.1 W1.2.2.2 hm (fun h2 g2 A2 => ?_)⟩
    have g2' : Cg lmE h h2 := g'.trans (g2.mono (fun id j q => Or.inr (Or.inl q)))
    have c2 : Lay L h2 := g2'.lay c (fun id j q => by have := lmE5 q; omega)
    have W2 : WM h2 S := W1.cg g2 (fun id j q => by unfold lmD at q; omega)
    have D2 : shareM h2 (bNk (S.1 0)) (bNk (S.1 1)) S.2.2.2 tm := D1.cg g2 (fun id j q => by unfold lmD at q; omega)
    have K2 := K h2 g2'
    rw [s_347 c2, A2.2.1]
    refine ⟨rfl, sp_in32 (n := LN S m) (by decide) (toI64_sub1 (by omega)) ⟨fun p => ?_, fun p => ?_⟩⟩
    · rw [b01_eq] at p
      rw [p] at K2; exact K2
    rw [b01_ne] at p
    rw [s_347 c2, A2.2.2.1]
    refine ⟨rfl, sp_in32 (n := RN S m) (by decide) (toI64_sub1 (by omega)) ⟨fun q => ?_, fun q => ?_⟩⟩
    · rw [b01_ne] at q
      rw [p, q, Bool.and_true, if_pos rfl] at K K2
      obtain ⟨tx, htx, rfl⟩ := inR_nI p (by omega)
      obtain ⟨ty, hty, rfl⟩ := inR_nI q (by omega)
      rw [cl_nI (by omega), cl_nI (by omega)] at K K2
      refine sp_in32 (n := 2) (by decide) (by decide) ⟨fun hin => ?_, fun hin => ?_⟩
      · rw [b01_ne] at hin
        rw [hin, if_pos rfl] at K K2
        refine ⟨by rw [s_347 c2], sp_isLinkableM c2 n0 n1 W2.2.2.2 hm ⟨fun r => ?_, fun r => ?_⟩⟩
        · rw [b01_ne] at r
          rw [r, if_pos rfl] at K
          refine ⟨by rw [s_347 c2], sp_linkAll c2 D2 A2 (fun x hx => gW_lt okA o2 hx) (fun y hy => gW_lt okR o3 hy) (fun h3 g3 R3 => ?_)⟩
          have g3' : Cg lmE h h3 := g2'.trans (g3.mono (fun id j q => Or.inr (Or.inr (by omega))))
          have c3 : Lay L h3 := g3'.lay c (fun id j q => by have := lmE5 q; omega)
          have A3 := A2.cg g3 (fun id j q => by omega)
          refine ⟨by rw [s_347 c3], sp_growM c3 A3 R3 (fun h4 g4 E4 => ?_)⟩
          have g4' : Cg lmE h h4 := g3'.trans (g4.mono (fun id j q => Or.inr (Or.inr (by omega))))
          have c4 : Lay L h4 := g4'.lay c (fun id j q => by have := lmE5 q; omega)
          have A4 := A3.cg g4 (fun id j q => by omega)
          have R4 := R3.cg g4 (fun id j q => by omega)
          have K4 := K h4 g4'
          have v0 := E4.2 tx ty htx hty
          refine ⟨fun u => ?_, fun u => ⟨by rw [s_347 c4], sp_isBothM c4 A4 R4 htx hty (b01_id ?_)⟩⟩
          · rw [if_neg u] at K4
            rw [s_347 c4, r_347_53 c4, s_381 c4, m_20, nI_add, cl_nI (show 20 * tx + ty < 2147483648 by omega), v0]
            exact ⟨rfl, by first | decide | exact vp_nI (j := 0) (by decide) (by decide) | exact vp_nI (j := 1) (by decide) (by decide), rfl, vp_nI (by omega) (by decide), b01_id K4⟩
          · rw [if_pos u] at K4; exact K4
        · rw [b01_eq] at r
          rw [r] at K2; exact K2
      · rw [b01_eq] at hin
        rw [hin] at K2; exact K2
    · rw [b01_eq] at q
      rw [q, Bool.and_false] at K2; exact K2
  · rw [b01_eq] at z
    exact Qto KK (by rw [fLinked, z]; rfl)
theorem sp_phrasesM {k : Int32} (c : Lay L h) (T : lyM h S) (D : shareM h (bNk (S.1 0)) (bNk (S.1 1)) S.2.2.2 tm) (K : ∀ h', Cg lmE h h' → Q (fPhr S k) h') : AC w mX10_phrases 0 0 (rI Q) [.ref 347, .int k] h := by
  have n0 := T.1.1.1.1
  have n1 := T.1.2.1.1
  have hJ := JN_le (S := S) n0 n1
  refine eX10_phrases (sX10_phrases_0 ⟨by rw [s_347 c], sp_isJointM c T D (fun h1 g W1 => ?_)⟩)
  have g' : Cg lmE h h1 := g.mono (fun id j q => Or.inl q)
  have c1 : Lay L h1 := g'.lay c (fun id j q => by have := lmE5 q; omega)
  have T1 : lyM h1 S := T.cg g (fun id j q => by unfold bsD at q; omega)
  have D1 : shareM h1 (bNk (S.1 0)) (bNk (S.1 1)) S.2.2.2 tm := D.cg g (fun id j q => by unfold bsD at q; omega)
  have KK := K h1 g'
  refine ⟨fun z => ?_, fun z => ?_⟩
  · rw [b01_ne] at z
    have z' := z
    obtain ⟨m, hm, rfl⟩ := inR_nI z (by omega)
    have e : fPhr S (nI m) = (if lnB (JK S m) = true then nI (phN (GR S m) (LN S m) (RN S m)) else -100003) := by rw [fPhr, if_pos z', cl_nI (by omega)]
    rw [e] at K KK
    obtain ⟨o1, o2, o3, o4⟩ := JN_ok (S := S) n0 n1 hm
    have okA := T.1.1.1
    have okR := T.1.2.1
    refine ⟨by rw [s_347 c1], sp_isLinkableM c1 n0 n1 W1.2.2.2 hm ⟨fun r => ?_, fun r => ?_⟩⟩
    · rw [b01_ne] at r
      rw [r, if_pos rfl] at K
      refine ⟨by rw [s_347 c1], sp_gatherM c1 T1.1 W1.2.2.2 hm (fun h2 g2 A2 => ?_)⟩
      have g2' : Cg lmE h h2 := g'.trans (g2.mono (fun id j q => Or.inr (Or.inl q)))
      have c2 : Lay L h2 := g2'.lay c (fun id j q => by have := lmE5 q; omega)
      have D2 : shareM h2 (bNk (S.1 0)) (bNk (S.1 1)) S.2.2.2 tm := D1.cg g2 (fun id j q => by unfold lmD at q; omega)
      refine ⟨by rw [s_347 c2], sp_linkAll c2 D2 A2 (fun x hx => gW_lt okA o2 hx) (fun y hy => gW_lt okR o3 hy) (fun h3 g3 R3 => ?_)⟩
      have g3' : Cg lmE h h3 := g2'.trans (g3.mono (fun id j q => Or.inr (Or.inr (by omega))))
      have c3 : Lay L h3 := g3'.lay c (fun id j q => by have := lmE5 q; omega)
      have A3 := A2.cg g3 (fun id j q => by omega)
      refine ⟨by rw [s_347 c3], sp_growM c3 A3 R3 (fun h4 g4 E4 => ?_)⟩
      have g4' : Cg lmE h h4 := g3'.trans (g4.mono (fun id j q => Or.inr (Or.inr (by omega))))
      have c4 : Lay L h4 := g4'.lay c (fun id j q => by have := lmE5 q; omega)
      exact sp_phr39 c4 (A3.cg g4 (fun id j q => by omega)) E4 (K h4 g4')
    · rw [b01_eq] at r
      rw [r] at KK; exact KK
  · rw [b01_eq] at z
    exact Qto KK (by rw [fPhr, z]; rfl)
theorem sp_putJointM {dk : Nat → Dk} {s k : Int32} (c : Lay L h) (T : lyM h S) (D : shareM h (bNk (S.1 0)) (bNk (S.1 1)) S.2.2.2 tm) (E : deskM h dk) (K : ∀ h', Cg (fun id j => lmE id j ∨ (382 ≤ id ∧ id ≤ 384)) h h' → deskM h' (fPutJ S dk s k).2 → Q (fPutJ S dk s k).1 h') : AC w mX10_putJoint 0 0 (rI Q) [.ref 347, .int s, .int k] h := by
  have n0 := T.1.1.1.1
  have n1 := T.1.2.1.1
  have hJ := JN_le (S := S) n0 n1
  refine eX10_putJoint (sX10_putJoint_0 (sp_isSlotM ⟨fun z => ?_, fun z => ⟨by rw [s_347 c], sp_isJointM c T D (fun h1 g W1 => ?_)⟩⟩))
  · rw [b01_eq] at z
    have e : fPutJ S dk s k = (-100001, dk) := by rw [fPutJ, z]; rfl
    rw [e] at K
    exact K h (Cg.rfl' h) E
  rw [b01_ne] at z
  have g' : Cg lmE h h1 := g.mono (fun id j q => Or.inl q)
  have c1 : Lay L h1 := g'.lay c (fun id j q => by have := lmE5 q; omega)
  have T1 : lyM h1 S := T.cg g (fun id j q => by unfold bsD at q; omega)
  have E1 : deskM h1 dk := E.cg' g (fun id j q => by unfold bsD at q; omega)
  refine ⟨fun y => ?_, fun y => ?_⟩
  · rw [b01_ne] at y
    have hin : (inR s 8 && inR k (JN S)) = true := by rw [z, y]; rfl
    obtain ⟨t, ht, rfl⟩ := inR_nI z (by decide)
    obtain ⟨m, hm, rfl⟩ := inR_nI y (by omega)
    have e : fPutJ S dk (nI t) (nI m) = (1, setD dk t (2, 0, fun _ => 0, iI (cst S (JK S m) (JL S m) (JR S m)), nI (sm (bWc (S.1 0)) (JL S m) (lS (JK S m))))) := by rw [fPutJ, if_pos hin, cl_nI (by omega), cl_nI (by omega)]
    rw [e] at K
    obtain ⟨o1, o2, o3, o4⟩ := JN_ok (S := S) n0 n1 hm
    have pc := (cst_lt o4).2
    refine ⟨by rw [s_347 c1], sp_gatherM c1 T1.1 W1.2.2.2 hm (fun h2 g2 A2 => ?_)⟩
    have g2' : Cg lmE h h2 := g'.trans (g2.mono (fun id j q => Or.inr (Or.inl q)))
    have c2 : Lay L h2 := g2'.lay c (fun id j q => by have := lmE5 q; omega)
    have W2 : WM h2 S := W1.cg g2 (fun id j q => by unfold lmD at q; omega)
    have T2 : lyM h2 S := T1.cg g2 (fun id j q => by unfold lmD at q; omega)
    have E2 : deskM h2 dk := E1.cg' g2 (fun id j q => by unfold lmD at q; omega)
    obtain ⟨j1, j2, j3⟩ := W2.2.2.2 m hm
    have v : vp_in (nI m) 40 := vp_nI (by omega) (by decide)
    rw [s_347 c2, r_347_54 c2, s_382 c2, r_347_56 c2, r_347_42 c2, s_373 c2, r_347_43 c2, s_374 c2, r_347_44 c2, s_375 c2, cl_nI (show t < 2147483648 by omega), cl_nI (show m < 2147483648 by omega)]
    refine ⟨rfl, by first | decide | exact vp_nI (j := 0) (by decide) (by decide) | exact vp_nI (j := 1) (by decide) (by decide), rfl, vp_nI (by omega) (by decide), fun h3 e3 => ⟨by first | decide | exact vp_nI (j := 0) (by decide) (by decide) | exact vp_nI (j := 1) (by decide) (by decide), by first | decide | exact vp_nI (j := 0) (by decide) (by decide) | exact vp_nI (j := 1) (by decide) (by decide), rfl, v, by first | decide | exact vp_nI (j := 0) (by decide) (by decide) | exact vp_nI (j := 1) (by decide) (by decide), rfl, v, by first | decide | exact vp_nI (j := 0) (by decide) (by decide) | exact vp_nI (j := 1) (by decide) (by decide), rfl, v, ?_⟩⟩
    have g3 : Cg (fun id j => id = 382) h2 h3 := by rw [e3]; exact (Cg.rfl' h2).sI rfl
    have c3 : Lay L h3 := g3.lay c2 (fun id j q => by omega)
    have T3 : lyM h3 S := T2.cg g3 (fun id j q => by omega)
    have W3 : WM h3 S := W2.cg g3 (fun id j q => by omega)
    rw [g3.i (by omega), g3.i (by omega), g3.i (by omega), j1, j2, j3]
    refine sp_priceOf c3 T3.1 W3.1 o1 o2 o3 ?_
    rw [s_384 c3, s_347 c3, r_347_56 c3, s_384 c3, e30', nI_1 (30 * t), cl_nI (show 30 * t < 2147483648 by omega), cl_nI (show 30 * t + 1 < 2147483648 by omega)]
    refine ⟨rfl, vp_nI (by omega) (by decide), fun h4 e4 => ⟨rfl, by first | decide | exact vp_nI (j := 0) (by decide) (by decide) | exact vp_nI (j := 1) (by decide) (by decide), rfl, vp_nI (by omega) (by decide), fun h5 e5 => ?_⟩⟩
    have x48 : hI h4 347 48 = nI (LN S m) := by rw [e4, hI_ne (by omega), g3.i (by omega)]; exact A2.2.1
    rw [x48] at e5
    subst e3 e4 e5
    have gg : Cg (fun id j => 382 ≤ id ∧ id ≤ 384) h2 (sI (sI (sI h2 382 t 2) 384 (30 * t) (iI (prcN S (JK S m) (JL S m) (JR S m)))) 384 (30 * t + 1) (nI (LN S m))) := (((Cg.rfl' h2).sI (by omega)).sI (by omega)).sI (by omega)
    refine K _ ((g2'.mono (fun id j q => Or.inl q)).trans (gg.mono (fun id j q => Or.inr q))) (E2.upd (fun u hu hne => ⟨?_, ?_, fun j hj => ?_⟩) ⟨⟨by show 2 ≤ 3; omega, by show 0 ≤ 30; omega⟩, ?_, fun q => ?_, fun _ => ⟨?_, ?_⟩⟩)
    · simp (disch := omega) only [hI_ne]
    · simp (disch := omega) only [hI_ne]
    · simp (disch := omega) only [hI_ne]
    · simp (disch := omega) only [hI_ne, hI_eq]; rfl
    · (try dsimp only at q); omega
    · rw [hI_ne (by omega), hI_eq, pc]
    · rw [hI_eq]
  · rw [b01_eq] at y
    have e : fPutJ S dk s k = (-100001, dk) := by rw [fPutJ, y, Bool.and_false]; rfl
    rw [e] at K
    exact K h1 (g'.mono (fun id j q => Or.inl q)) E1
end LF
