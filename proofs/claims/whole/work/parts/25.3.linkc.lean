/-! ===== rows that go together, and the calls of links, the class ===== -/
def goP (g : Nat → Nat → Bool) (x m y n : Nat) : Prop := (∃ u v, g u v = true ∧ x ≤ u ∧ u ≤ x + m) ∧ ∀ u v, g u v = true → ((x ≤ u ∧ u ≤ x + m) ↔ (y ≤ v ∧ v ≤ y + n))
noncomputable def goN (g : Nat → Nat → Bool) (x m y n : Nat) : Nat := @ite _ (goP g x m y n) (Classical.propDecidable _) 1 0
def mm4 (n x : Nat) : Nat := if n - x < 4 then n - x else 4
noncomputable def cYn (g : Nat → Nat → Bool) (nr x m y : Nat) : Nat := sm (fun n => goN g x m y n) 0 (mm4 nr y)
noncomputable def cXn (g : Nat → Nat → Bool) (nr x m : Nat) : Nat := sm (fun y => cYn g nr x m y) 0 nr
noncomputable def cRn (g : Nat → Nat → Bool) (nl nr x : Nat) : Nat := sm (fun m => cXn g nr x m) 0 (mm4 nl x)
noncomputable def phN (g : Nat → Nat → Bool) (nl nr : Nat) : Nat := sm (fun x => cRn g nl nr x) 0 nl
theorem goN_y {g : Nat → Nat → Bool} {x m y n : Nat} (h : goP g x m y n) : goN g x m y n = 1 := if_pos h
theorem goN_n {g : Nat → Nat → Bool} {x m y n : Nat} (h : ¬ goP g x m y n) : goN g x m y n = 0 := if_neg h
theorem sm_s (f : Nat → Nat) (n : Nat) : sm f 0 (n + 1) = sm f 0 n + f n := by
  show sm f 0 n + f (0 + n) = _
  rw [Nat.zero_add]
theorem anyN_iff {f : Nat → Bool} {a : Nat} : ∀ {n : Nat}, anyN f a n = true ↔ ∃ i, i < n ∧ f (a + i) = true
  | 0 => ⟨fun q => (by cases q), fun ⟨i, hi, _⟩ => absurd hi (Nat.not_lt_zero i)⟩
  | n + 1 => by
    show (anyN f a n || f (a + n)) = true ↔ _
    rw [Bool.or_eq_true, anyN_iff]
    constructor
    · rintro (⟨i, hi, q⟩ | q)
      · exact ⟨i, by omega, q⟩
      · exact ⟨n, by omega, q⟩
    · rintro ⟨i, hi, q⟩
      by_cases e : i = n
      · subst e; exact Or.inr q
      · exact Or.inl ⟨i, by omega, q⟩
def lnB (k : Nat) : Bool := decide (¬ (k = 1 ∨ k = 2) ∧ k ≠ 6)
noncomputable abbrev TR (S : Ly) (m : Nat) : Nat → Option Nat := tRf S.2.2.2 (LK S m) (RK S m) (RN S m)
noncomputable abbrev TL (S : Ly) (m : Nat) : Nat → Option Nat := tLf S.2.2.2 (LK S m) (RK S m) (LN S m)
noncomputable abbrev GR (S : Ly) (m : Nat) : Nat → Nat → Bool := grn S.2.2.2 (LK S m) (RK S m) (LN S m) (RN S m)
noncomputable def fLink (S : Ly) (k x2 x : Int32) : Int32 := if inR k (JN S) = true then (if inR x2 2 = true then (if inR x (if x2 = 0 then LN S k.toNatClampNeg else RN S k.toNatClampNeg) = true then (if lnB (JK S k.toNatClampNeg) = true then oI (if x2 = 0 then TR S k.toNatClampNeg x.toNatClampNeg else TL S k.toNatClampNeg x.toNatClampNeg) else -100003) else -100001) else -100002) else -100001
noncomputable def fLinked (S : Ly) (k x2 x y : Int32) : Int32 := if inR k (JN S) = true then (if (inR x (LN S k.toNatClampNeg) && inR y (RN S k.toNatClampNeg)) = true then (if inR x2 2 = true then (if lnB (JK S k.toNatClampNeg) = true then (if x2 = 0 then b01 (bth (TR S k.toNatClampNeg) (TL S k.toNatClampNeg) x.toNatClampNeg y.toNatClampNeg) else b01 (GR S k.toNatClampNeg x.toNatClampNeg y.toNatClampNeg)) else -100003) else -100002) else -100001) else -100001
noncomputable def fPhr (S : Ly) (k : Int32) : Int32 := if inR k (JN S) = true then (if lnB (JK S k.toNatClampNeg) = true then nI (phN (GR S k.toNatClampNeg) (LN S k.toNatClampNeg) (RN S k.toNatClampNeg)) else -100003) else -100001
section LC
variable {w : Wd} {L : Nat} {h : Hp} {nl nr : Nat} {lk rk : Nat → Nat} {G : Nat → Nat → Bool} {Q : Int32 → Hp → Prop}
theorem sp_union {a f m N : Nat} {P : Nat → Nat → Bool} (c : Lay L h) (ha : a = 328 ∨ a = 329) (hN : N ≤ 20) (hib : ∀ x, x < N → ib (hI h a x) (P x)) (hf : f + m < N) (K : ∀ v, ib v (fun p => anyN (fun u => P u p) f (m + 1)) → Q v h) : AC w mX2_union 0 0 (rI Q) [.ref a, .int (nI f), .int (nI m)] h := by
  have sa : hs h a = (1, 20) := by rcases ha with e | e <;> subst e <;> first | exact s_328 c | exact s_329 c
  have lp : ∀ (d k : Nat) (v : Int32), k + d = m + 1 → ib v (fun p => anyN (fun u => P u p) f k) → AW w mX2_union 0 0 (rI Q) 0 0 5 [some (.ref a), some (.int (nI f)), some (.int (nI m)), some (.int v), some (.int (nI (f + k)))] [] h := by
    intro d
    induction d with
    | zero =>
      intro k v hk hv
      have hk : k = m + 1 := by omega
      subst hk
      refine sX2_union_5 ⟨fun _ => K v hv, fun z => absurd ?_ z⟩
      rw [nI_add, ti_lt, nI_toInt (by omega), nI_toInt (by omega)]; omega
    | succ d ih =>
      intro k v hk hv
      refine sX2_union_5 ?_
      rw [sa, cl_nI (by omega), nI_1]
      refine ⟨fun z => ?_, fun _ => ⟨rfl, vp_nI (by omega) (by decide), ih (k + 1) _ (by omega) (ib_or hv (hib (f + k) (by omega)))⟩⟩
      rw [nI_add, ti_lt, nI_toInt (by omega), nI_toInt (by omega)] at z; omega
  exact eX2_union (sX2_union_0 (lp (m + 1) 0 0 (by omega) ib_0))
theorem sp_rowBits {f m : Nat} (hf : f < 20) (hm : m < 4) (K : ∀ v, ib v (fun p => decide (f ≤ p ∧ p ≤ f + m)) → Q v h) : AC w mX2_rowBits 0 0 (rI Q) [.int (nI f), .int (nI m)] h := eX2_rowBits (sX2_rowBits_0 (K _ (ib_r hf hm)))
theorem stay_iff {v r : Int32} {P : Nat → Bool} {f m : Nat} (hv : ib v P) (hr : ib r (fun p => decide (f ≤ p ∧ p ≤ f + m))) : v &&& (r ^^^ (-1)) = 0 ↔ ∀ p, p < 32 → P p = true → f ≤ p ∧ p ≤ f + m := by
  rw [ib_z (ib_and hv (ib_not hr))]
  refine ⟨fun q p hp e => ?_, fun q p hp => ?_⟩
  · have := q p hp
    (try dsimp only at this)
    rw [e, Bool.true_and] at this
    by_cases x : f ≤ p ∧ p ≤ f + m
    · exact x
    · rw [decide_eq_false x] at this; cases this
  · (try dsimp only)
    cases e : P p with
    | false => rfl
    | true => rw [decide_eq_true (q p hp e)]; rfl
theorem sp_countPartners {x m : Nat} (c : Lay L h) (T : lkC h nl nr lk rk) (E : gC h nl nr G) (hx : x + m < nl) (hm : m < 4) (K : Q (nI (cXn G nr x m)) h) : AC w mX2_countPartners 0 0 (rI Q) [.ref 323, .int (nI x), .int (nI m)] h := by
  have t1 := T.1.1
  have t2 := T.1.2
  refine eX2_countPartners (sX2_countPartners_0 ?_)
  rw [s_323 c, r_323_9 c]
  refine ⟨rfl, by first | decide | exact vp_nI (j := 0) (by decide) (by decide) | exact vp_nI (j := 1) (by decide) (by decide), sp_union (P := fun u p => G u p) c (Or.inl rfl) t1 E.2.1 hx (fun v hv => ⟨fun z => ?_, fun z => ?_⟩)⟩
  · have some1 : ∃ u b, G u b = true ∧ x ≤ u ∧ u ≤ x + m := Classical.byContradiction (fun ne => z ((ib_z hv).mpr (fun p hp => by
      (try dsimp only)
      cases e : anyN (fun u => G u p) x (m + 1) with
      | false => rfl
      | true =>
        obtain ⟨i, hi, q⟩ := anyN_iff.mp e
        exact absurd ⟨x + i, p, q, by omega, by omega⟩ ne)))
    have step : ∀ (y n : Nat), y + n < nr → n < 4 → ∀ (a : Nat), (AW w mX2_countPartners 0 0 (rI Q) 0 0 34 [some (.ref 323), some (.int (nI x)), some (.int (nI m)), some (.int v), some (.int (nI (a + goN G x m y n))), some (.int (nI y)), some (.int (nI (n + 1))), none] [] h) → AC w mX2_rowBits 0 0 (rI fun r1 h1 => ((¬ (v &&& (r1 ^^^ (-1))) = 0 → AW w mX2_countPartners 0 0 (rI Q) 0 0 71 [some (.ref 323), some (.int (nI x)), some (.int (nI m)), some (.int v), some (.int (nI a)), some (.int (nI y)), some (.int (nI n)), none] [.int 0] h1) ∧ ((v &&& (r1 ^^^ (-1))) = 0 → AW w mX2_countPartners 0 0 (rI Q) 0 0 71 [some (.ref 323), some (.int (nI x)), some (.int (nI m)), some (.int v), some (.int (nI a)), some (.int (nI y)), some (.int (nI n)), none] [.int 1] h1))) [.int (nI y), .int (nI n)] h := by
      intro y n hy hn a N
      have no : ¬ goP G x m y n → AW w mX2_countPartners 0 0 (rI Q) 0 0 34 [some (.ref 323), some (.int (nI x)), some (.int (nI m)), some (.int v), some (.int (nI a)), some (.int (nI y)), some (.int (nI (n + 1))), none] [] h := fun q => by
        rw [goN_n q] at N; exact N
      have yes : goP G x m y n → AW w mX2_countPartners 0 0 (rI Q) 0 0 34 [some (.ref 323), some (.int (nI x)), some (.int (nI m)), some (.int v), some (.int (nI (a + 1))), some (.int (nI y)), some (.int (nI (n + 1))), none] [] h := fun q => by
        rw [goN_y q] at N; exact N
      refine sp_rowBits (by omega) hn (fun r hr => ⟨fun z1 => sX2_countPartners_71 ⟨fun _ => ?_, fun u => absurd rfl u⟩, fun z1 => sX2_countPartners_71 ⟨fun u => absurd u (by decide), fun _ => ?_⟩⟩)
      · rw [nI_1]
        refine no (fun g => z1 ((stay_iff hv hr).mpr (fun p hp e => ?_)))
        obtain ⟨i, hi, q⟩ := anyN_iff.mp e
        exact (g.2 _ _ q).mp (by omega)
      · have z1 := (stay_iff hv hr).mp z1
        rw [s_323 c, r_323_10 c]
        refine ⟨rfl, by first | decide | exact vp_nI (j := 0) (by decide) (by decide) | exact vp_nI (j := 1) (by decide) (by decide), sp_union (P := fun v p => G p v) c (Or.inr rfl) t2 E.2.2 hy (fun v2 hv2 => sp_rowBits (by omega) hm (fun r2 hr2 => ⟨fun z2 => ?_, fun z2 => ?_⟩))⟩
        · rw [nI_1]
          refine no (fun g => z2 ((stay_iff hv2 hr2).mpr (fun p hp e => ?_)))
          obtain ⟨i, hi, q⟩ := anyN_iff.mp e
          exact (g.2 _ _ q).mpr (by omega)
        · have z2 := (stay_iff hv2 hr2).mp z2
          rw [nI_1, nI_1]
          refine yes ⟨some1, fun u b q => ⟨fun p => ?_, fun p => ?_⟩⟩
          · have o := E.1 u b q
            exact z1 b (by omega) (anyN_iff.mpr ⟨u - x, by omega, by rw [show x + (u - x) = u by omega]; exact q⟩)
          · have o := E.1 u b q
            exact z2 u (by omega) (anyN_iff.mpr ⟨b - y, by omega, by rw [show y + (b - y) = b by omega]; exact q⟩)
    have inn : ∀ (y a : Nat), y < nr → AW w mX2_countPartners 0 0 (rI Q) 0 0 22 [some (.ref 323), some (.int (nI x)), some (.int (nI m)), some (.int v), some (.int (nI (a + cYn G nr x m y))), some (.int (nI (y + 1))), none, none] [] h →
        ∀ (d n : Nat), n + d = mm4 nr y → AW w mX2_countPartners 0 0 (rI Q) 0 0 34 [some (.ref 323), some (.int (nI x)), some (.int (nI m)), some (.int v), some (.int (nI (a + sm (fun n => goN G x m y n) 0 n))), some (.int (nI y)), some (.int (nI n)), none] [] h := by
      intro y a hy Kc d
      induction d with
      | zero =>
        intro n hn
        have hn : n = mm4 nr y := by omega
        have KK : AW w mX2_countPartners 0 0 (rI Q) 0 0 22 [some (.ref 323), some (.int (nI x)), some (.int (nI m)), some (.int v), some (.int (nI (a + sm (fun n => goN G x m y n) 0 n))), some (.int (nI (y + 1))), none, none] [] h := by rw [hn]; exact Kc
        have hd : 3 < n ∨ nr ≤ y + n := by rw [hn]; unfold mm4; split <;> omega
        have h4 : n ≤ 4 := by rw [hn]; unfold mm4; split <;> omega
        refine sX2_countPartners_34 ?_
        rw [nI_1 y, s_323 c, T.2.2.1, nI_add]
        refine ⟨fun _ => KK, fun z => ⟨rfl, fun _ => KK, fun z2 => ?_⟩⟩
        rw [ti_lt, t_3, nI_toInt (by omega)] at z
        rw [ti_le, nI_toInt (by omega), nI_toInt (by omega)] at z2
        omega
      | succ d ih =>
        intro n hn
        have hd : n < 4 ∧ y + n < nr := by unfold mm4 at hn; split at hn <;> omega
        have N := ih (n + 1) (by omega)
        rw [sm_s, ← Nat.add_assoc] at N
        refine sX2_countPartners_34 ?_
        rw [s_323 c, T.2.2.1, nI_add]
        refine ⟨fun z => ?_, fun _ => ⟨rfl, fun z => ?_, fun _ => step y n hd.2 hd.1 _ N⟩⟩
        · rw [ti_lt, t_3, nI_toInt (by omega)] at z; omega
        · rw [ti_le, nI_toInt (by omega), nI_toInt (by omega)] at z; omega
    have lp : ∀ (d y : Nat), y + d = nr → AW w mX2_countPartners 0 0 (rI Q) 0 0 22 [some (.ref 323), some (.int (nI x)), some (.int (nI m)), some (.int v), some (.int (nI (sm (fun y => cYn G nr x m y) 0 y))), some (.int (nI y)), none, none] [] h := by
      intro d
      induction d with
      | zero =>
        intro y hy
        have hy : y = nr := by omega
        subst hy
        refine sX2_countPartners_22 ?_
        rw [s_323 c, T.2.2.1]
        exact ⟨rfl, fun _ => K, fun z => absurd (by rw [ti_le]; omega) z⟩
      | succ d ih =>
        intro y hy
        have N := ih (y + 1) (by omega)
        rw [sm_s] at N
        refine sX2_countPartners_22 ?_
        rw [s_323 c, T.2.2.1]
        refine ⟨rfl, fun z => ?_, fun _ => inn y _ (by omega) N (mm4 nr y) 0 (by omega)⟩
        rw [ti_le, nI_toInt (by omega), nI_toInt (by omega)] at z; omega
    exact lp nr 0 (by omega)
  · have none1 := (ib_z hv).mp z
    have e : cXn G nr x m = 0 := sm_zero (fun y _ => sm_zero (fun n _ => goN_n (fun g => by
      obtain ⟨u, b, q, h1, h2⟩ := g.1
      have o := E.1 u b q
      have := none1 b (by omega)
      (try dsimp only at this)
      rw [anyN_iff.mpr ⟨u - x, by omega, by rw [show x + (u - x) = u by omega]; exact q⟩] at this
      cases this)))
    rw [e] at K
    exact K
theorem sp_countRows (c : Lay L h) (T : lkC h nl nr lk rk) (E : gC h nl nr G) (K : Q (nI (phN G nl nr)) h) : AC w mX2_countRowPairs 0 0 (rI Q) [.ref 323] h := by
  have t1 := T.1.1
  have t2 := T.1.2
  have inn : ∀ (x a : Nat), x < nl → AW w mX2_countRowPairs 0 0 (rI Q) 0 0 4 [some (.ref 323), some (.int (nI (a + cRn G nl nr x))), some (.int (nI (x + 1))), none] [] h →
      ∀ (d m : Nat), m + d = mm4 nl x → AW w mX2_countRowPairs 0 0 (rI Q) 0 0 14 [some (.ref 323), some (.int (nI (a + sm (fun m => cXn G nr x m) 0 m))), some (.int (nI x)), some (.int (nI m))] [] h := by
    intro x a hx Kc d
    induction d with
    | zero =>
      intro m hm
      have hm : m = mm4 nl x := by omega
      have KK : AW w mX2_countRowPairs 0 0 (rI Q) 0 0 4 [some (.ref 323), some (.int (nI (a + sm (fun m => cXn G nr x m) 0 m))), some (.int (nI (x + 1))), none] [] h := by rw [hm]; exact Kc
      have hd : 3 < m ∨ nl ≤ x + m := by rw [hm]; unfold mm4; split <;> omega
      have h4 : m ≤ 4 := by rw [hm]; unfold mm4; split <;> omega
      refine sX2_countRowPairs_14 ?_
      rw [nI_1 x, s_323 c, T.2.1, nI_add]
      refine ⟨fun _ => KK, fun z => ⟨rfl, fun _ => KK, fun z2 => ?_⟩⟩
      rw [ti_lt, t_3, nI_toInt (by omega)] at z
      rw [ti_le, nI_toInt (by omega), nI_toInt (by omega)] at z2
      omega
    | succ d ih =>
      intro m hm
      have hd : m < 4 ∧ x + m < nl := by unfold mm4 at hm; split at hm <;> omega
      have N := ih (m + 1) (by omega)
      rw [sm_s, ← Nat.add_assoc, ← nI_add _ (cXn G nr x m)] at N
      refine sX2_countRowPairs_14 ?_
      rw [s_323 c, T.2.1, nI_add x m, nI_1 m]
      refine ⟨fun z => ?_, fun _ => ⟨rfl, fun z => ?_, fun _ => sp_countPartners c T E hd.2 hd.1 N⟩⟩
      · rw [ti_lt, t_3, nI_toInt (by omega)] at z; omega
      · rw [ti_le, nI_toInt (by omega), nI_toInt (by omega)] at z; omega
  have lp : ∀ (d x : Nat), x + d = nl → AW w mX2_countRowPairs 0 0 (rI Q) 0 0 4 [some (.ref 323), some (.int (nI (sm (fun x => cRn G nl nr x) 0 x))), some (.int (nI x)), none] [] h := by
    intro d
    induction d with
    | zero =>
      intro x hx
      have hx : x = nl := by omega
      subst hx
      refine sX2_countRowPairs_4 ?_
      rw [s_323 c, T.2.1]
      exact ⟨rfl, fun _ => K, fun z => absurd (by rw [ti_le]; omega) z⟩
    | succ d ih =>
      intro x hx
      have N := ih (x + 1) (by omega)
      rw [sm_s] at N
      refine sX2_countRowPairs_4 ?_
      rw [s_323 c, T.2.1]
      refine ⟨rfl, fun z => ?_, fun _ => inn x _ (by omega) N (mm4 nl x) 0 (by omega)⟩
      rw [ti_le, nI_toInt (by omega), nI_toInt (by omega)] at z; omega
  exact eX2_countRowPairs (sX2_countRowPairs_0 (lp nl 0 (by omega)))
variable {S : Ly} {o : Nat → Nat} {tm : Nat → Int32}
theorem sp_isLinkable {m : Nat} (c : Lay L h) (n0 : bNs (S.1 0) ≤ 20) (n1 : bNs (S.1 1) ≤ 20) (J : jsC h S) (hm : m < JN S) (K : Q (b01 (lnB (JK S m))) h) : AC w mX9_isLinkable 0 0 (rI Q) [.ref 5, .int (nI m)] h := by
  have hJ := JN_le (S := S) n0 n1
  obtain ⟨j1, j2, j3, -⟩ := J m hm
  obtain ⟨o1, o2, o3, o4⟩ := JN_ok (S := S) n0 n1 hm
  have v : vp_in (nI m) 40 := vp_nI (by omega) (by decide)
  refine eX9_isLinkable (sX9_isLinkable_0 ?_)
  rw [s_5 c, r_5_7 c, s_311 c, r_311_13 c, s_319 c, cl_nI (by omega), j1]
  refine ⟨rfl, by first | decide | exact vp_nI (j := 0) (by decide) (by decide) | exact vp_nI (j := 1) (by decide) (by decide), rfl, by first | decide | exact vp_nI (j := 0) (by decide) (by decide) | exact vp_nI (j := 1) (by decide) (by decide), rfl, v, sp_hasBoth o1 ⟨fun z => Qto K (b0 (decide_eq_false ?_)), fun z => ?_⟩⟩
  · rw [b01_eq] at z
    exact fun q => of_decide_eq_false z q.1
  · rw [b01_ne] at z
    have z := of_decide_eq_true z
    rw [s_5 c, r_5_7 c, s_311 c, r_311_13 c, s_319 c, j1]
    refine ⟨rfl, by first | decide | exact vp_nI (j := 0) (by decide) (by decide) | exact vp_nI (j := 1) (by decide) (by decide), rfl, by first | decide | exact vp_nI (j := 0) (by decide) (by decide) | exact vp_nI (j := 1) (by decide) (by decide), rfl, v, fun y => Qto K (b0 (decide_eq_false ?_)), fun y => Qto K (b1 (decide_eq_true ⟨z, fun e => y (by rw [e]; rfl)⟩))⟩
    rw [show (6 : Int32) = nI 6 from rfl, nI_inj (by omega) (by omega)] at y
    exact fun q => q.2 y
def lkD (id j : Nat) : Prop := wyE id j ∨ (324 ≤ id ∧ id ≤ 329) ∨ (id = 323 ∧ (j = 5 ∨ j = 6))
theorem lkD5 {id j : Nat} (q : lkD id j) : 5 ≤ id := by unfold lkD wyE at q; omega
theorem sp_link {k x2 x : Int32} (c : Lay L h) (T : lyC h o S) (D : shareC h (bNk (S.1 0)) (bNk (S.1 1)) S.2.2.2 tm) (W : hI h 5 11 = 0 → WC h S) (K : ∀ h', Cg lkD h h' → (hI h' 5 11 = 0 → WC h' S) → Q (fLink S k x2 x) h') : AC w mX9_link 0 0 (rI Q) [.ref 5, .int k, .int x2, .int x] h := by
  have n0 := T.1.2.1.1.1
  have n1 := T.1.2.2.1.1
  have hJ := JN_le (S := S) n0 n1
  refine eX9_link (sX9_link_0 ⟨by rw [s_5 c], sp_layAnew c T D W (fun h1 g st W1 => ?_)⟩)
  have g' : Cg lkD h h1 := g.mono (fun id j q => Or.inl q)
  have c1 : Lay L h1 := g'.lay c (fun id j q => lkD5 q)
  have T1 : lyC h1 o S := T.cg g (fun id j q => by unfold wyE at q; omega)
  have D1 : shareC h1 (bNk (S.1 0)) (bNk (S.1 1)) S.2.2.2 tm := D.cg g (fun id j q => by unfold wyE at q; omega)
  have KK := K h1 g' (fun _ => W1)
  rw [s_5 c1, r_5_7 c1, s_311 c1]
  refine ⟨rfl, by first | decide | exact vp_nI (j := 0) (by decide) (by decide) | exact vp_nI (j := 1) (by decide) (by decide), rfl, sp_hasJoint c1 hJ W1.2.2.2.2.1 ⟨fun z => ?_, fun z => ?_⟩⟩
  · rw [b01_ne] at z
    have z' := z
    obtain ⟨m, hm, rfl⟩ := inR_nI z (by omega)
    have e : fLink S (nI m) x2 x = (if inR x2 2 = true then (if inR x (if x2 = 0 then LN S m else RN S m) = true then (if lnB (JK S m) = true then oI (if x2 = 0 then TR S m x.toNatClampNeg else TL S m x.toNatClampNeg) else -100003) else -100001) else -100002) := by rw [fLink, if_pos z', cl_nI (by omega)]
    rw [e] at K KK
    obtain ⟨o1, o2, o3, o4⟩ := JN_ok (S := S) n0 n1 hm
    have l2 := lS_le (JK S m)
    have r2 := rS_le (JK S m)
    have okA := T1.1.2.1.1
    have okR := T1.1.2.2.1
    have nl20 : LN S m ≤ 20 := gN_le okA o2 l2
    have nr20 : RN S m ≤ 20 := gN_le okR o3 r2
    have k30 : inR x2 2 = true → AW w mX9_link 0 0 (rI Q) 0 0 30 [some (.ref 5), some (.int (nI m)), some (.int x2), some (.int x), none] [] h1 := fun hin => by
      rw [hin, if_pos rfl] at K
      have b2 := of_decide_eq_true hin
      refine sX9_link_30 ?_
      rw [s_5 c1, r_5_8 c1, s_323 c1]
      refine ⟨rfl, by first | decide | exact vp_nI (j := 0) (by decide) (by decide) | exact vp_nI (j := 1) (by decide) (by decide), rfl, sp_gatherC c1 T1.1 W1.2.2.2.2.2 hm (fun h2 g2 A2 => ?_)⟩
      have g2' : Cg lkD h h2 := g'.trans (g2.mono (fun id j q => by unfold lkD; omega))
      have c2 : Lay L h2 := g2'.lay c (fun id j q => lkD5 q)
      have W2 : WC h2 S := W1.cg g2 (fun id j q => by omega)
      have D2 : shareC h2 (bNk (S.1 0)) (bNk (S.1 1)) S.2.2.2 tm := D1.cg g2 (fun id j q => by omega)
      have K2 := K h2 g2' (fun _ => W2)
      have k61 : ∀ N : Nat, N ≤ 20 → (if x2 = 0 then LN S m else RN S m) = N → AW w mX9_link 0 0 (rI Q) 0 0 61 [some (.ref 5), some (.int (nI m)), some (.int x2), some (.int x), none] [.int (b01 (inR x N))] h2 := fun N hN20 hN => by
        rw [hN] at K K2
        refine sX9_link_61 ⟨fun y => ?_, fun y => ?_⟩
        · rw [b01_ne] at y
          have y' := y
          rw [y, if_pos rfl] at K K2
          obtain ⟨t, ht, rfl⟩ := inR_nI y (by omega)
          rw [cl_nI (by omega)] at K K2
          refine ⟨by rw [s_5 c2], sp_isLinkable c2 n0 n1 W2.2.2.2.2.2 hm ⟨fun p => ?_, fun p => ?_⟩⟩
          · rw [b01_ne] at p
            rw [p, if_pos rfl] at K
            rw [s_5 c2, r_5_8 c2, s_323 c2]
            refine ⟨rfl, by first | decide | exact vp_nI (j := 0) (by decide) (by decide) | exact vp_nI (j := 1) (by decide) (by decide), rfl, sp_workC c2 D2 A2 (fun x hx => gW_lt okA o2 hx) (fun y hy => gW_lt okR o3 hy) (fun h3 g3 R3 E3 => ?_)⟩
            have g3' : Cg lkD h h3 := g2'.trans (g3.mono (fun id j q => by unfold lkD; omega))
            have c3 : Lay L h3 := g3'.lay c (fun id j q => lkD5 q)
            have K3 := K h3 g3' (fun _ => W2.cg g3 (fun id j q => by omega))
            rw [s_5 c3, r_5_8 c3, s_323 c3, r_323_8 c3, s_327 c3, r_323_7 c3, s_326 c3, cl_nI (by omega)]
            refine ⟨fun u => ?_, fun u => ?_⟩
            · rw [if_neg u] at K3 hN
              rw [R3.2.2.2 t (by rw [hN]; exact ht)]
              exact ⟨rfl, by first | decide | exact vp_nI (j := 0) (by decide) (by decide) | exact vp_nI (j := 1) (by decide) (by decide), rfl, by first | decide | exact vp_nI (j := 0) (by decide) (by decide) | exact vp_nI (j := 1) (by decide) (by decide), rfl, vp_nI (by omega) (by decide), K3⟩
            · rw [if_pos u] at K3 hN
              rw [R3.2.2.1 t (by rw [hN]; exact ht)]
              exact ⟨rfl, by first | decide | exact vp_nI (j := 0) (by decide) (by decide) | exact vp_nI (j := 1) (by decide) (by decide), rfl, by first | decide | exact vp_nI (j := 0) (by decide) (by decide) | exact vp_nI (j := 1) (by decide) (by decide), rfl, vp_nI (by omega) (by decide), K3⟩
          · rw [b01_eq] at p
            rw [p] at K2; exact K2
        · rw [b01_eq] at y
          rw [y] at K2; exact K2
      rw [s_5 c2, r_5_8 c2, s_323 c2]
      refine ⟨fun u => ⟨rfl, by first | decide | exact vp_nI (j := 0) (by decide) (by decide) | exact vp_nI (j := 1) (by decide) (by decide), rfl, sp_hasRight c2 A2 (k61 _ nr20 (if_neg u))⟩, fun u => ⟨rfl, by first | decide | exact vp_nI (j := 0) (by decide) (by decide) | exact vp_nI (j := 1) (by decide) (by decide), rfl, sp_hasLeft c2 A2 (k61 _ nl20 (if_pos u))⟩⟩
    refine ⟨fun u => k30 (by rw [u]; decide), fun u => ⟨fun u2 => k30 (by rw [u2]; decide), fun u2 => ?_⟩⟩
    have : inR x2 2 = false := inR_f (fun q => by
      rw [ti_eq, t_0] at u
      rw [ti_eq, t_1] at u2
      omega)
    rw [this] at KK; exact KK
  · rw [b01_eq] at z
    exact Qto KK (by rw [fLink, z]; rfl)
theorem sp_linked {k x2 x y : Int32} (c : Lay L h) (T : lyC h o S) (D : shareC h (bNk (S.1 0)) (bNk (S.1 1)) S.2.2.2 tm) (W : hI h 5 11 = 0 → WC h S) (K : ∀ h', Cg lkD h h' → (hI h' 5 11 = 0 → WC h' S) → Q (fLinked S k x2 x y) h') : AC w mX9_linked 0 0 (rI Q) [.ref 5, .int k, .int x2, .int x, .int y] h := by
  have n0 := T.1.2.1.1.1
  have n1 := T.1.2.2.1.1
  have hJ := JN_le (S := S) n0 n1
  refine eX9_linked (sX9_linked_0 ⟨by rw [s_5 c], sp_layAnew c T D W (fun h1 g st W1 => ?_)⟩)
  have g' : Cg lkD h h1 := g.mono (fun id j q => Or.inl q)
  have c1 : Lay L h1 := g'.lay c (fun id j q => lkD5 q)
  have T1 : lyC h1 o S := T.cg g (fun id j q => by unfold wyE at q; omega)
  have D1 : shareC h1 (bNk (S.1 0)) (bNk (S.1 1)) S.2.2.2 tm := D.cg g (fun id j q => by unfold wyE at q; omega)
  have KK := K h1 g' (fun _ => W1)
  rw [s_5 c1, r_5_7 c1, s_311 c1]
  refine ⟨rfl, by first | decide | exact vp_nI (j := 0) (by decide) (by decide) | exact vp_nI (j := 1) (by decide) (by decide), rfl, sp_hasJoint c1 hJ W1.2.2.2.2.1 ⟨fun z => ?_, fun z => ?_⟩⟩
  · rw [b01_ne] at z
    have z' := z
    obtain ⟨m, hm, rfl⟩ := inR_nI z (by omega)
    have e : fLinked S (nI m) x2 x y = (if (inR x (LN S m) && inR y (RN S m)) = true then (if inR x2 2 = true then (if lnB (JK S m) = true then (if x2 = 0 then b01 (bth (TR S m) (TL S m) x.toNatClampNeg y.toNatClampNeg) else b01 (GR S m x.toNatClampNeg y.toNatClampNeg)) else -100003) else -100002) else -100001) := by rw [fLinked, if_pos z', cl_nI (by omega)]
    rw [e] at K KK
    obtain ⟨o1, o2, o3, o4⟩ := JN_ok (S := S) n0 n1 hm
    have l2 := lS_le (JK S m)
    have r2 := rS_le (JK S m)
    have okA := T1.1.2.1.1
    have okR := T1.1.2.2.1
    have nl20 : LN S m ≤ 20 := gN_le okA o2 l2
    have nr20 : RN S m ≤ 20 := gN_le okR o3 r2
    rw [s_5 c1, r_5_8 c1, s_323 c1]
    refine ⟨rfl, by first | decide | exact vp_nI (j := 0) (by decide) (by decide) | exact vp_nI (j := 1) (by decide) (by decide), rfl, sp_gatherC c1 T1.1 W1.2.2.2.2.2 hm (fun h2 g2 A2 => ?_)⟩
    have g2' : Cg lkD h h2 := g'.trans (g2.mono (fun id j q => by unfold lkD; omega))
    have c2 : Lay L h2 := g2'.lay c (fun id j q => lkD5 q)
    have W2 : WC h2 S := W1.cg g2 (fun id j q => by omega)
    have D2 : shareC h2 (bNk (S.1 0)) (bNk (S.1 1)) S.2.2.2 tm := D1.cg g2 (fun id j q => by omega)
    have K2 := K h2 g2' (fun _ => W2)
    rw [s_5 c2, r_5_8 c2, s_323 c2]
    refine ⟨rfl, by first | decide | exact vp_nI (j := 0) (by decide) (by decide) | exact vp_nI (j := 1) (by decide) (by decide), rfl, sp_hasLeft c2 A2 ⟨fun p => ?_, fun p => ?_⟩⟩
    · rw [b01_eq] at p
      rw [p] at K2; exact K2
    rw [b01_ne] at p
    rw [s_5 c2, r_5_8 c2, s_323 c2]
    refine ⟨rfl, by first | decide | exact vp_nI (j := 0) (by decide) (by decide) | exact vp_nI (j := 1) (by decide) (by decide), rfl, sp_hasRight c2 A2 ⟨fun q => ?_, fun q => ?_⟩⟩
    · rw [b01_ne] at q
      rw [p, q, Bool.and_true, if_pos rfl] at K2
      have K3 := fun h' a b => K h' a b
      rw [p, q, Bool.and_true, if_pos rfl] at K3
      obtain ⟨tx, htx, rfl⟩ := inR_nI p (by omega)
      obtain ⟨ty, hty, rfl⟩ := inR_nI q (by omega)
      rw [cl_nI (by omega), cl_nI (by omega)] at K2 K3
      have k64 : inR x2 2 = true → AW w mX9_linked 0 0 (rI Q) 0 0 64 [some (.ref 5), some (.int (nI m)), some (.int x2), some (.int (nI tx)), some (.int (nI ty)), none] [] h2 := fun hin => by
        rw [hin, if_pos rfl] at K2 K3
        refine sX9_linked_64 ⟨by rw [s_5 c2], sp_isLinkable c2 n0 n1 W2.2.2.2.2.2 hm ⟨fun r => ?_, fun r => ?_⟩⟩
        · rw [b01_ne] at r
          rw [r, if_pos rfl] at K3
          rw [s_5 c2, r_5_8 c2, s_323 c2]
          refine ⟨rfl, by first | decide | exact vp_nI (j := 0) (by decide) (by decide) | exact vp_nI (j := 1) (by decide) (by decide), rfl, sp_workC c2 D2 A2 (fun x hx => gW_lt okA o2 hx) (fun y hy => gW_lt okR o3 hy) (fun h3 g3 R3 E3 => ?_)⟩
          have g3' : Cg lkD h h3 := g2'.trans (g3.mono (fun id j q => by unfold lkD; omega))
          have c3 : Lay L h3 := g3'.lay c (fun id j q => lkD5 q)
          have A3 := A2.cg g3 (fun id j q => by omega)
          have K4 := K3 h3 g3' (fun _ => W2.cg g3 (fun id j q => by omega))
          rw [s_5 c3, r_5_8 c3, s_323 c3]
          refine ⟨fun u => ⟨rfl, by first | decide | exact vp_nI (j := 0) (by decide) (by decide) | exact vp_nI (j := 1) (by decide) (by decide), rfl, sp_isGrownC c3 A3 E3 htx hty (b01_id ?_)⟩, fun u => ⟨rfl, by first | decide | exact vp_nI (j := 0) (by decide) (by decide) | exact vp_nI (j := 1) (by decide) (by decide), rfl, sp_isBothC c3 A3 R3 htx hty (b01_id ?_)⟩⟩
          · rw [if_neg u] at K4; exact K4
          · rw [if_pos u] at K4; exact K4
        · rw [b01_eq] at r
          rw [r] at K2; exact K2
      refine ⟨fun u => k64 (by rw [u]; decide), fun u => ⟨fun u2 => k64 (by rw [u2]; decide), fun u2 => ?_⟩⟩
      have : inR x2 2 = false := inR_f (fun q => by
        rw [ti_eq, t_0] at u
        rw [ti_eq, t_1] at u2
        omega)
      rw [this] at K2; exact K2
    · rw [b01_eq] at q
      rw [q, Bool.and_false] at K2; exact K2
  · rw [b01_eq] at z
    exact Qto KK (by rw [fLinked, z]; rfl)
theorem sp_phrases {k : Int32} (c : Lay L h) (T : lyC h o S) (D : shareC h (bNk (S.1 0)) (bNk (S.1 1)) S.2.2.2 tm) (W : hI h 5 11 = 0 → WC h S) (K : ∀ h', Cg lkD h h' → (hI h' 5 11 = 0 → WC h' S) → Q (fPhr S k) h') : AC w mX9_phrases 0 0 (rI Q) [.ref 5, .int k] h := by
  have n0 := T.1.2.1.1.1
  have n1 := T.1.2.2.1.1
  have hJ := JN_le (S := S) n0 n1
  refine eX9_phrases (sX9_phrases_0 ⟨by rw [s_5 c], sp_layAnew c T D W (fun h1 g st W1 => ?_)⟩)
  have g' : Cg lkD h h1 := g.mono (fun id j q => Or.inl q)
  have c1 : Lay L h1 := g'.lay c (fun id j q => lkD5 q)
  have T1 : lyC h1 o S := T.cg g (fun id j q => by unfold wyE at q; omega)
  have D1 : shareC h1 (bNk (S.1 0)) (bNk (S.1 1)) S.2.2.2 tm := D.cg g (fun id j q => by unfold wyE at q; omega)
  have KK := K h1 g' (fun _ => W1)
  rw [s_5 c1, r_5_7 c1, s_311 c1]
  refine ⟨rfl, by first | decide | exact vp_nI (j := 0) (by decide) (by decide) | exact vp_nI (j := 1) (by decide) (by decide), rfl, sp_hasJoint c1 hJ W1.2.2.2.2.1 ⟨fun z => ?_, fun z => ?_⟩⟩
  · rw [b01_ne] at z
    have z' := z
    obtain ⟨m, hm, rfl⟩ := inR_nI z (by omega)
    have e : fPhr S (nI m) = (if lnB (JK S m) = true then nI (phN (GR S m) (LN S m) (RN S m)) else -100003) := by rw [fPhr, if_pos z', cl_nI (by omega)]
    rw [e] at K KK
    obtain ⟨o1, o2, o3, o4⟩ := JN_ok (S := S) n0 n1 hm
    have l2 := lS_le (JK S m)
    have r2 := rS_le (JK S m)
    have okA := T1.1.2.1.1
    have okR := T1.1.2.2.1
    refine ⟨by rw [s_5 c1], sp_isLinkable c1 n0 n1 W1.2.2.2.2.2 hm ⟨fun r => ?_, fun r => ?_⟩⟩
    · rw [b01_ne] at r
      rw [r, if_pos rfl] at K
      rw [s_5 c1, r_5_8 c1, s_323 c1]
      refine ⟨rfl, by first | decide | exact vp_nI (j := 0) (by decide) (by decide) | exact vp_nI (j := 1) (by decide) (by decide), rfl, sp_gatherC c1 T1.1 W1.2.2.2.2.2 hm (fun h2 g2 A2 => ?_)⟩
      have g2' : Cg lkD h h2 := g'.trans (g2.mono (fun id j q => by unfold lkD; omega))
      have c2 : Lay L h2 := g2'.lay c (fun id j q => lkD5 q)
      have W2 : WC h2 S := W1.cg g2 (fun id j q => by omega)
      have D2 : shareC h2 (bNk (S.1 0)) (bNk (S.1 1)) S.2.2.2 tm := D1.cg g2 (fun id j q => by omega)
      rw [s_5 c2, r_5_8 c2, s_323 c2]
      refine ⟨rfl, by first | decide | exact vp_nI (j := 0) (by decide) (by decide) | exact vp_nI (j := 1) (by decide) (by decide), rfl, sp_workC c2 D2 A2 (fun x hx => gW_lt okA o2 hx) (fun y hy => gW_lt okR o3 hy) (fun h3 g3 R3 E3 => ?_)⟩
      have g3' : Cg lkD h h3 := g2'.trans (g3.mono (fun id j q => by unfold lkD; omega))
      have c3 : Lay L h3 := g3'.lay c (fun id j q => lkD5 q)
      have A3 := A2.cg g3 (fun id j q => by omega)
      have K4 := K h3 g3' (fun _ => W2.cg g3 (fun id j q => by omega))
      rw [s_5 c3, r_5_8 c3, s_323 c3]
      exact ⟨rfl, by first | decide | exact vp_nI (j := 0) (by decide) (by decide) | exact vp_nI (j := 1) (by decide) (by decide), rfl, sp_countRows c3 A3 E3 K4⟩
    · rw [b01_eq] at r
      rw [r] at KK; exact KK
  · rw [b01_eq] at z
    exact Qto KK (by rw [fPhr, z]; rfl)
end LC
