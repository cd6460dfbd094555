/-! ===== prices, the reference ===== -/
theorem nI_a0 (n : Nat) : nI n + 0 = nI n := by rw [show (0 : Int32) = nI 0 from rfl, nI_add]; rfl
theorem lN_div {a b : Nat} (ha : a < 2147483648) (h0 : 0 < b) (hb : b < 2147483648) : lN a / lN b = lN (a / b) := by
  have hd : a / b ≤ a := Nat.div_le_self a b
  apply Int64.toInt_inj.mp
  rw [lg_ldiv_nonneg (by rw [lN_toInt (by omega)]; omega) (by rw [lN_toInt (by omega)]; omega), lN_toInt (by omega), lN_toInt (by omega), lN_toInt (by omega)]
  first | rfl | exact (Int.natCast_ediv _ _).symm | simp
theorem lN_subI {x y : Nat} (hx : x < 2147483648) (hy : y < 2147483648) : (lN x - lN y).toInt = (x : Int) - y := by
  rw [← nI_l hx, ← nI_l hy, lg_i2l_sub, nI_toInt hx, nI_toInt hy]
theorem booksM.cg {D : Nat → Nat → Prop} {h h' : Hp} {bk : Nat → Bk} (B : booksM h bk) (a : Cg D h h') (hd : ∀ id j, D id j → ¬ (351 ≤ id ∧ id ≤ 358)) : booksM h' bk :=
  ⟨B.1.cg a (fun id j q z => hd id j q (by unfold tmD at z; omega)), B.2.cg a (fun id j q z => hd id j q (by unfold tmD at z; omega))⟩
theorem pairM.cg {D : Nat → Nat → Prop} {h h' : Hp} {p : Pr} (T : pairM h p) (a : Cg D h h') (hd : ∀ id j, D id j → ¬ (id = 359 ∨ id = 360 ∨ (id = 347 ∧ j = 15))) : pairM h' p :=
  ⟨T.1, by rw [a.i (fun q => hd _ _ q (by omega))]; exact T.2.1, fun i hi => ⟨by rw [a.i (fun q => hd _ _ q (by omega))]; exact (T.2.2 i hi).1, by rw [a.i (fun q => hd _ _ q (by omega))]; exact (T.2.2 i hi).2⟩⟩
theorem shareM.cg {D : Nat → Nat → Prop} {h h' : Hp} {n0 n1 : Nat} {sh : Sh} {tm : Nat → Int32} (T : shareM h n0 n1 sh tm) (a : Cg D h h') (hd : ∀ id j, D id j → ¬ (id = 361 ∨ id = 362)) : shareM h' n0 n1 sh tm :=
  ⟨T.1, fun x hx => ⟨by rw [a.i (fun q => hd _ _ q (by omega))]; exact (T.2 x hx).1, by rw [a.i (fun q => hd _ _ q (by omega))]; exact (T.2 x hx).2.1, fun y hy => by rw [a.i (fun q => hd _ _ q (by omega))]; exact (T.2 x hx).2.2 y hy⟩⟩
def lyM (h : Hp) (S : Ly) : Prop := booksM h S.1 ∧ pairM h S.2.1 ∧ hI h 347 16 = b01 S.2.2.1
theorem lyM.cg {D : Nat → Nat → Prop} {h h' : Hp} {S : Ly} (T : lyM h S) (a : Cg D h h') (hd : ∀ id j, D id j → ¬ (351 ≤ id ∧ id ≤ 360) ∧ ¬ (id = 347 ∧ (j = 15 ∨ j = 16))) : lyM h' S :=
  ⟨T.1.cg a (fun id j q z => (hd id j q).1 (by omega)), T.2.1.cg a (fun id j q z => by have := hd id j q; omega), by rw [a.i (fun q => by have := hd _ _ q; omega)]; exact T.2.2⟩
def msM (h : Hp) (S : Ly) : Prop := (∀ a, a < bNk (S.1 0) → hI h 369 a = pOf S.2.2.2 a (bNk (S.1 1))) ∧ (∀ s, s < bNs (S.1 0) → hI h 370 s = nI (sLen (S.1 0) s)) ∧ (∀ s, s < bNs (S.1 1) → hI h 370 (20 + s) = nI (sLen (S.1 1) s)) ∧ hL h 347 35 = lN (sm (sLen (S.1 0)) 0 (bNs (S.1 0))) ∧ hL h 347 36 = lN (sm (sLen (S.1 1)) 0 (bNs (S.1 1)))
theorem msM.cg {D : Nat → Nat → Prop} {h h' : Hp} {S : Ly} (T : msM h S) (a : Cg D h h') (hd : ∀ id j, D id j → ¬ (id = 369 ∨ id = 370 ∨ (id = 347 ∧ (j = 35 ∨ j = 36)))) : msM h' S :=
  ⟨fun x hx => by rw [a.i (fun q => hd _ _ q (by omega))]; exact T.1 x hx, fun s hs => by rw [a.i (fun q => hd _ _ q (by omega))]; exact T.2.1 s hs, fun s hs => by rw [a.i (fun q => hd _ _ q (by omega))]; exact T.2.2.1 s hs, by rw [a.l (fun q => hd _ _ q (by omega))]; exact T.2.2.2.1, by rw [a.l (fun q => hd _ _ q (by omega))]; exact T.2.2.2.2⟩
section MA
variable {w : Wd} {L : Nat} {h : Hp} {S : Ly} {Q : Int32 → Hp → Prop}
theorem sp_leftOf {k : Nat} (hk : k < 7) (K : Q (nI (lS k)) h) : AC w mX10_leftOf 0 0 (rI Q) [.int (nI k)] h := by
  refine eX10_leftOf (sX10_leftOf_0 ?_)
  simp (disch := omega) only [ti_eq, ti_le, nI_toInt, t_2, t_3, t_4]
  exact k7 (P := fun k => Q (nI (lS k)) h → (¬ (k : Int) = 2 → ((k : Int) = 3 → Q 2 h) ∧ (¬ (k : Int) = 3 → ((k : Int) ≤ 4 → Q 1 h) ∧ (¬ (k : Int) ≤ 4 → Q 2 h))) ∧ ((k : Int) = 2 → Q 0 h)) (fun K => ⟨fun _ => ⟨fun z => by omega, fun _ => ⟨fun _ => K, fun z => by omega⟩⟩, fun z => by omega⟩) (fun K => ⟨fun _ => ⟨fun z => by omega, fun _ => ⟨fun _ => K, fun z => by omega⟩⟩, fun z => by omega⟩) (fun K => ⟨fun z => by omega, fun _ => K⟩) (fun K => ⟨fun _ => ⟨fun _ => K, fun z => by omega⟩, fun z => by omega⟩) (fun K => ⟨fun _ => ⟨fun z => by omega, fun _ => ⟨fun _ => K, fun z => by omega⟩⟩, fun z => by omega⟩) (fun K => ⟨fun _ => ⟨fun z => by omega, fun _ => ⟨fun z => by omega, fun _ => K⟩⟩, fun z => by omega⟩) (fun K => ⟨fun _ => ⟨fun z => by omega, fun _ => ⟨fun z => by omega, fun _ => K⟩⟩, fun z => by omega⟩) hk K
theorem sp_rightOf {k : Nat} (hk : k < 7) (K : Q (nI (rS k)) h) : AC w mX10_rightOf 0 0 (rI Q) [.int (nI k)] h := by
  refine eX10_rightOf (sX10_rightOf_0 ?_)
  simp (disch := omega) only [ti_eq, ti_le, nI_toInt, t_1, t_3]
  exact k7 (P := fun k => Q (nI (rS k)) h → (¬ (k : Int) = 1 → ((k : Int) ≤ 3 → Q 1 h) ∧ (¬ (k : Int) ≤ 3 → Q 2 h)) ∧ ((k : Int) = 1 → Q 0 h)) (fun K => ⟨fun _ => ⟨fun _ => K, fun z => by omega⟩, fun z => by omega⟩) (fun K => ⟨fun z => by omega, fun _ => K⟩) (fun K => ⟨fun _ => ⟨fun _ => K, fun z => by omega⟩, fun z => by omega⟩) (fun K => ⟨fun _ => ⟨fun _ => K, fun z => by omega⟩, fun z => by omega⟩) (fun K => ⟨fun _ => ⟨fun z => by omega, fun _ => K⟩, fun z => by omega⟩) (fun K => ⟨fun _ => ⟨fun z => by omega, fun _ => K⟩, fun z => by omega⟩) (fun K => ⟨fun _ => ⟨fun z => by omega, fun _ => K⟩, fun z => by omega⟩) hk K
theorem sp_price0 {k : Nat} (hk : k < 7) (K : Q (nI (bP k)) h) : AC w mX10_price0 0 0 (rI Q) [.int (nI k)] h := by
  refine eX10_price0 (sX10_price0_0 ?_)
  simp (disch := omega) only [ti_eq, ti_le, nI_toInt, t_0, t_3, t_5]
  exact k7 (P := fun k => Q (nI (bP k)) h → (¬ (k : Int) = 0 → (3 ≤ (k : Int) → (5 ≤ (k : Int) → (¬ (k : Int) = 5 → Q 480 h) ∧ ((k : Int) = 5 → Q 440 h)) ∧ (¬ 5 ≤ (k : Int) → Q 230 h)) ∧ (¬ 3 ≤ (k : Int) → Q 450 h)) ∧ ((k : Int) = 0 → Q 0 h)) (fun K => ⟨fun z => by omega, fun _ => K⟩) (fun K => ⟨fun _ => ⟨fun z => by omega, fun _ => K⟩, fun z => by omega⟩) (fun K => ⟨fun _ => ⟨fun z => by omega, fun _ => K⟩, fun z => by omega⟩) (fun K => ⟨fun _ => ⟨fun _ => ⟨fun z => by omega, fun _ => K⟩, fun z => by omega⟩, fun z => by omega⟩) (fun K => ⟨fun _ => ⟨fun _ => ⟨fun z => by omega, fun _ => K⟩, fun z => by omega⟩, fun z => by omega⟩) (fun K => ⟨fun _ => ⟨fun _ => ⟨fun _ => ⟨fun z => by omega, fun _ => K⟩, fun z => by omega⟩, fun z => by omega⟩, fun z => by omega⟩) (fun K => ⟨fun _ => ⟨fun _ => ⟨fun _ => ⟨fun _ => K, fun z => by omega⟩, fun z => by omega⟩, fun z => by omega⟩, fun z => by omega⟩) hk K
theorem sp_square {l r a b : Nat} (c : Lay L h) (e35 : hL h 347 35 = lN a) (e36 : hL h 347 36 = lN b) (x1 : l * b ≤ 400000) (x2 : r * a ≤ 400000) (x3 : 1 ≤ l * b) (K : Q (nI (dstN (l * b) (r * a) * dstN (l * b) (r * a))) h) : AC w mX10_square 0 0 (rI Q) [.ref 347, .long (lN l), .long (lN r)] h := by
  have k38 : AW w mX10_square 0 0 (rI Q) 0 0 38 [none, some (.long (lN l)), none, some (.long (lN r)), none, some (.long (lN a)), none, some (.long (lN b)), none, none, none, none, none] [.long (lN ((l * b - r * a) + (r * a - l * b)))] h := by
    refine sX10_square_38 ?_
    rw [lN_mul, lN_mul, lN_add, show (20 : Int64) = lN 20 from rfl, lN_mul, lN_div (by omega) (by omega) (by omega), lN_mul, lN_i]
    refine ⟨fun z => ?_, K⟩
    rw [show (0 : Int64) = lN 0 from rfl, lN_eq (by omega) (by omega)] at z
    omega
  refine eX10_square (sX10_square_0 ?_)
  rw [e35, e36, lN_mul, lN_mul, s_347 c, lg_cmp_ge]
  have ei := lN_subI (x := l * b) (y := r * a) (by omega) (by omega)
  have t0 : (0 : Int64).toInt = 0 := by decide
  rw [Int64.le_iff_toInt_le, ei, t0]
  refine ⟨rfl, fun z => ?_, fun z => ?_⟩
  · rw [lN_sub (by omega)]
    rw [show l * b - r * a + (r * a - l * b) = l * b - r * a by omega] at k38
    exact k38
  · have : -(lN (l * b) - lN (r * a)) = lN (r * a) - lN (l * b) := by
      rw [Int64.neg_sub]
    rw [this, lN_sub (by omega)]
    rw [show l * b - r * a + (r * a - l * b) = r * a - l * b by omega] at k38
    exact k38
theorem sp_hasWord {b j m p : Nat} {B : Bk} (c : Lay L h) (hb : b < 2) (D : bookM h b B) (hj : j + m ≤ bNs B) (hp : p < 40) (K : Q (b01 (kIn B j m p)) h) : AC w mX10_hasWord 0 0 (rI Q) [.ref 347, .int (nI b), .int (nI j), .int (nI m), .int (nI p)] h := by
  have n20 := D.1.1
  have k40 := D.1.2.1
  have inn : ∀ (s : Nat) (v : Bool), s < bNs B → AW w mX10_hasWord 0 0 (rI Q) 0 0 6 [some (.ref 347), some (.int (nI b)), some (.int (nI j)), some (.int (nI m)), some (.int (nI p)), some (.int (b01 (v || kI1 B s p))), some (.int (nI (s + 1))), none] [] h →
      ∀ (d k : Nat), k + d = bWc B s → AW w mX10_hasWord 0 0 (rI Q) 0 0 17 [some (.ref 347), some (.int (nI b)), some (.int (nI j)), some (.int (nI m)), some (.int (nI p)), some (.int (b01 (v || anyN (fun y => bWd B s y == p) 0 k))), some (.int (nI s)), some (.int (nI k))] [] h := by
    intro s v hs Kc d
    have hv := D.2.2.2.2.1 s hs
    have hw := D.1.2.2.2.1 s hs
    induction d with
    | zero =>
      intro k hk
      have hk : k = bWc B s := by omega
      refine sX10_hasWord_17 ?_
      have KK := Kc
      rw [show kI1 B s p = anyN (fun y => bWd B s y == p) 0 k by rw [hk]; rfl] at KK
      simp (disch := omega) only [s_347 c, r_347_6 c, s_352 c, m_20, hv.1, nI_add, nI_1, cl_nI, ti_le, nI_toInt]
      repeat' (first | exact trivial | (with_reducible refine And.intro ?_ ?_) | exact vp_nI (by omega) (by omega) | exact vp_nI (j := 0) (by decide) (by decide) | exact vp_nI (j := 1) (by decide) (by decide) | decide | (exact KK) | (with_reducible intro z1; first | exact absurd trivial z1 | exact z1.elim) | (with_reducible intro z1) | omega)
    | succ d ih =>
      intro k hk
      have hk40 := hw.2.2.2 k (by omega)
      have nx := ih (k + 1) (by omega)
      have en : (v || anyN (fun y => bWd B s y == p) 0 (k + 1)) = ((v || anyN (fun y => bWd B s y == p) 0 k) || bWd B s k == p) := by
        show (v || (anyN (fun y => bWd B s y == p) 0 k || bWd B s (0 + k) == p)) = _
        rw [Nat.zero_add, Bool.or_assoc]
      rw [en] at nx
      generalize (v || anyN (fun y => bWd B s y == p) 0 k) = u at nx
      refine sX10_hasWord_17 ?_
      simp (disch := omega) only [s_347 c, r_347_6 c, s_352 c, m_20, hv.1, nI_add, nI_1, cl_nI]
      refine ⟨trivial, by first | decide | exact vp_nI (j := 0) (by decide) (by decide) | exact vp_nI (j := 1) (by decide) (by decide), trivial, vp_nI (by omega) (by decide), fun z => ?_, fun _ => ⟨fun z => ?_, fun z => sp_kindOf c hb D hs (by omega) ⟨fun y => ?_, fun y => ?_⟩⟩⟩
      · rw [ti_le, nI_toInt (by omega), nI_toInt (by omega)] at z; omega
      · rw [b01_ne] at z
        rw [z, Bool.true_or] at nx; exact nx
      · rw [b01_eq] at z
        rw [nI_inj (by omega) (by omega)] at y
        rw [z, Bool.false_or, show (bWd B s k == p) = false from by simpa using y] at nx
        exact nx
      · rw [b01_eq] at z
        rw [nI_inj (by omega) (by omega)] at y
        rw [z, Bool.false_or, show (bWd B s k == p) = true from by simpa using y] at nx
        exact nx
  have lp : ∀ (d k : Nat), k + d = m → AW w mX10_hasWord 0 0 (rI Q) 0 0 6 [some (.ref 347), some (.int (nI b)), some (.int (nI j)), some (.int (nI m)), some (.int (nI p)), some (.int (b01 (kIn B j k p))), some (.int (nI (j + k))), none] [] h := by
    intro d
    induction d with
    | zero =>
      intro k hk
      have hk : k = m := by omega
      refine sX10_hasWord_6 ⟨fun _ => ⟨b01_or _, by rw [hk]; exact K⟩, fun z => absurd ?_ z⟩
      rw [nI_add, hk, ti_le]; omega
    | succ d ih =>
      intro k hk
      refine sX10_hasWord_6 ⟨fun z => ?_, fun _ => ?_⟩
      · rw [nI_add, ti_le, nI_toInt (by omega), nI_toInt (by omega)] at z; omega
      · have := inn (j + k) (kIn B j k p) (by omega) (ih (k + 1) (by omega)) (bWc B (j + k)) 0 (by omega)
        rw [show (kIn B j k p || anyN (fun y => bWd B (j + k) y == p) 0 0) = kIn B j k p from Bool.or_false _] at this
        exact this
  exact eX10_hasWord (sX10_hasWord_0 (lp m 0 (by omega)))
theorem sp_known {i n j m : Nat} (c : Lay L h) (T : booksM h S.1) (M : msM h S) (hi : i + n ≤ bNs (S.1 0)) (hj : j + m ≤ bNs (S.1 1)) (hn : n ≤ 2) (hm : m ≤ 2) (K : Q (nI (frds S i n j m)) h) : AC w mX10_known 0 0 (rI Q) [.ref 347, .int (nI i), .int (nI n), .int (nI j), .int (nI m)] h := by
  have n0 := T.1.1.1
  have n1 := T.2.1.1
  have k0 := T.1.1.2.1
  have k1 := T.2.1.2.1
  have inn : ∀ (s a : Nat), s < bNs (S.1 0) → AW w mX10_known 0 0 (rI Q) 0 0 6 [some (.ref 347), some (.int (nI i)), some (.int (nI n)), some (.int (nI j)), some (.int (nI m)), some (.int (nI (a + frd S s (kIn (S.1 1) j m)))), some (.int (nI (s + 1))), none, none] [] h →
      ∀ (d k : Nat), k + d = bWc (S.1 0) s → AW w mX10_known 0 0 (rI Q) 0 0 17 [some (.ref 347), some (.int (nI i)), some (.int (nI n)), some (.int (nI j)), some (.int (nI m)), some (.int (nI (a + sm (fun x => if hasP S (bWd (S.1 0) s x) (kIn (S.1 1) j m) = true then 1 else 0) 0 k))), some (.int (nI s)), some (.int (nI k)), none] [] h := by
    intro s a hs Kc d
    have hv := T.1.2.2.2.2.1 s hs
    have hv1 : hI h 352 s = nI (bWc (S.1 0) s) := by have := hv.1; rw [show 20 * 0 + s = s by omega] at this; exact this
    have hw := T.1.1.2.2.2.1 s hs
    induction d with
    | zero =>
      intro k hk
      have hk : k = bWc (S.1 0) s := by omega
      refine sX10_known_17 ?_
      have KK := Kc
      rw [show frd S s (kIn (S.1 1) j m) = sm (fun x => if hasP S (bWd (S.1 0) s x) (kIn (S.1 1) j m) = true then 1 else 0) 0 k by rw [hk]; rfl] at KK
      simp (disch := omega) only [s_347 c, r_347_6 c, s_352 c, hv1, nI_1, cl_nI, ti_le, nI_toInt]
      repeat' (first | exact trivial | (with_reducible refine And.intro ?_ ?_) | exact vp_nI (by omega) (by omega) | exact vp_nI (j := 0) (by decide) (by decide) | exact vp_nI (j := 1) (by decide) (by decide) | decide | (exact KK) | (with_reducible intro z1; first | exact absurd trivial z1 | exact z1.elim) | (with_reducible intro z1) | omega)
    | succ d ih =>
      intro k hk
      have hk40 := hw.2.2.2 k (by omega)
      have nx := ih (k + 1) (by omega)
      rw [frd_s] at nx
      have m1 := M.1 _ hk40
      refine sX10_known_17 ?_
      simp (disch := omega) only [s_347 c, r_347_6 c, s_352 c, r_347_33 c, hv1, nI_1, nI_a0, cl_nI]
      refine ⟨trivial, by first | decide | exact vp_nI (j := 0) (by decide) (by decide) | exact vp_nI (j := 1) (by decide) (by decide), trivial, vp_nI (by omega) (by decide), fun z => ?_, fun _ => ⟨by first | decide | exact vp_nI (j := 0) (by decide) (by decide) | exact vp_nI (j := 1) (by decide) (by decide), ?_⟩⟩
      · rw [ti_le, nI_toInt (by omega), nI_toInt (by omega)] at z; omega
      refine sp_kindOf (b := 0) c (by decide) T.1 hs (by omega) ?_
      rw [s_369 c, cl_nI (by omega), m1]
      refine ⟨rfl, vp_nI (by omega) (by decide), fun z => ?_, fun z => ?_⟩
      · have : hasP S (bWd (S.1 0) s k) (kIn (S.1 1) j m) = false := by
          rcases pOf_or S.2.2.2 (bWd (S.1 0) s k) (bNk (S.1 1)) with y | ⟨b, hb, y⟩
          · exact hasP_n y
          · rw [y, ti_lt, t_0, nI_toInt (by omega)] at z; omega
        rw [this] at nx; exact nx
      · rcases pOf_or S.2.2.2 (bWd (S.1 0) s k) (bNk (S.1 1)) with y | ⟨b, hb, y⟩
        · rw [y] at z; exact absurd (by decide) z
        · rw [y]
          refine ⟨by rw [s_347 c], sp_hasWord (b := 1) c (by decide) T.2 hj (by omega) ⟨fun x => ?_, fun x => ?_⟩⟩
          · rw [b01_eq] at x
            rw [hasP_s y (by omega), x] at nx; exact nx
          · rw [b01_ne] at x
            rw [hasP_s y (by omega), x] at nx; exact nx
  have lp : ∀ (d k : Nat), k + d = n → AW w mX10_known 0 0 (rI Q) 0 0 6 [some (.ref 347), some (.int (nI i)), some (.int (nI n)), some (.int (nI j)), some (.int (nI m)), some (.int (nI (frds S i k j m))), some (.int (nI (i + k))), none, none] [] h := by
    intro d
    induction d with
    | zero =>
      intro k hk
      have hk : k = n := by omega
      refine sX10_known_6 ⟨fun _ => by rw [hk]; exact K, fun z => absurd ?_ z⟩
      rw [nI_add, hk, ti_le]; omega
    | succ d ih =>
      intro k hk
      refine sX10_known_6 ⟨fun z => ?_, fun _ => inn (i + k) (frds S i k j m) (by omega) (ih (k + 1) (by omega)) (bWc (S.1 0) (i + k)) 0 (by omega)⟩
      rw [nI_add, ti_le, nI_toInt (by omega), nI_toInt (by omega)] at z; omega
  exact eX10_known (sX10_known_0 (lp n 0 (by omega)))
theorem priceOf_194 {x : Int32} {n : Nat} (hn : n < 1000000) (K : Q (x - 15 * nI (min6 n)) h) : AW w mX10_priceOf 0 0 (rI Q) 0 0 194 [none, none, none, none, some (.int x), some (.int (nI n)), none, none] [] h := by
  refine sX10_priceOf_194 ⟨fun z => ?_, fun z => ?_⟩
  · rw [ti_le, t_6, nI_toInt (by omega)] at z
    have : min6 n = 6 := by unfold min6; split <;> omega
    rw [this] at K; exact K
  · rw [ti_le, t_6, nI_toInt (by omega)] at z
    have : min6 n = n := by unfold min6; rw [if_neg (by omega)]
    rw [this] at K; exact K
theorem sm_2 (f : Nat → Nat) (a : Nat) : sm f a 2 = f a + f (a + 1) := by show 0 + f (a + 0) + f (a + 1) = _; rw [Nat.zero_add, Nat.add_zero]
theorem sp_priceOf12 {k : Nat} {x y : Int32} (hk : k = 1 ∨ k = 2) (K : Q 450 h) : AC w mX10_priceOf 0 0 (rI Q) [.ref 347, .int (nI k), .int x, .int y] h := by
  refine eX10_priceOf (sX10_priceOf_0 (sp_price0 (by omega) ?_))
  rcases hk with rfl | rfl
  · exact ⟨fun _ => K, fun z => absurd rfl z⟩
  · exact ⟨fun z => absurd z (by decide), fun _ => ⟨fun z => absurd rfl z, fun _ => K⟩⟩
theorem sp_priceOf {k i j : Nat} (c : Lay L h) (T : booksM h S.1) (M : msM h S) (hk : k < 7) (hi : i + lS k ≤ bNs (S.1 0)) (hj : j + rS k ≤ bNs (S.1 1)) (K : Q (iI (prcN S k i j)) h) : AC w mX10_priceOf 0 0 (rI Q) [.ref 347, .int (nI k), .int (nI i), .int (nI j)] h := by
  have n0 := T.1.1.1
  have n1 := T.2.1.1
  by_cases q : k = 1 ∨ k = 2
  · have : prcN S k i j = 450 := by unfold prcN; rw [if_pos q]
    rw [this] at K
    exact sp_priceOf12 q K
  have la := sLens_le T.1.1 (show 0 + bNs (S.1 0) ≤ bNs (S.1 0) by omega)
  have lb := sLens_le T.2.1 (show 0 + bNs (S.1 1) ≤ bNs (S.1 1) by omega)
  obtain ⟨m1, m2, m3, m4, m5⟩ := M
  have M : msM h S := ⟨m1, m2, m3, m4, m5⟩
  have sq : ∀ {Q' : Int32 → Hp → Prop} {x n y m : Nat}, x + n ≤ bNs (S.1 0) → y + m ≤ bNs (S.1 1) → 0 < n → n ≤ 2 → 0 < m → m ≤ 2 → Q' (nI (strN S x n y m)) h → AC w mX10_square 0 0 (rI Q') [.ref 347, .long (lN (sm (sLen (S.1 0)) x n)), .long (lN (sm (sLen (S.1 1)) y m))] h := by
    intro Q' x n y m hx hy hn hn2 hm hm2 KK
    have l1 := sLens_le T.1.1 hx
    have l2 := sLens_le T.2.1 hy
    have p1 := sLens_pos T.1.1 hx hn
    have p4 := sLens_pos T.2.1 (show 0 + bNs (S.1 1) ≤ bNs (S.1 1) by omega) (by omega)
    exact sp_square c m4 m5 (Nat.mul_le_mul (show sm (sLen (S.1 0)) x n ≤ 200 by omega) (show sm (sLen (S.1 1)) 0 (bNs (S.1 1)) ≤ 2000 by omega)) (Nat.mul_le_mul (show sm (sLen (S.1 1)) y m ≤ 200 by omega) (show sm (sLen (S.1 0)) 0 (bNs (S.1 0)) ≤ 2000 by omega)) (Nat.mul_le_mul p1 p4) KK
  refine eX10_priceOf (sX10_priceOf_0 (sp_price0 hk ?_))
  refine ⟨fun z => ?_, fun _ => ⟨fun _ => ⟨fun z => ?_, fun z => ?_⟩, fun z => ?_⟩⟩
  · rw [show (1 : Int32) = nI 1 from rfl, nI_inj (by omega) (by omega)] at z; omega
  · have z : ¬ k = 6 := fun e => z (by rw [e]; rfl)
    have hl : 0 < lS k := k7 (P := fun k => ¬ (k = 1 ∨ k = 2) → 0 < lS k) (by decide) (by decide) (by decide) (by decide) (by decide) (by decide) (by decide) hk q
    have hr : 0 < rS k := k7 (P := fun k => ¬ (k = 1 ∨ k = 2) → 0 < rS k) (by decide) (by decide) (by decide) (by decide) (by decide) (by decide) (by decide) hk q
    have l2 := lS_le k
    have r2 := rS_le k
    have e : prcN S k i j = (bP k : Int) + (strN S i (lS k) j (rS k) : Int) - 15 * (min6 (frds S i (lS k) j (rS k)) : Int) := by unfold prcN; rw [if_neg q, if_neg z]
    have sl := sLens_le T.1.1 hi
    have sr := sLens_le T.2.1 hj
    have k160 : ∀ y0 y1 : Int32, y0 + y1 = nI (sm (sLen (S.1 1)) j (rS k)) → AW w mX10_priceOf 0 0 (rI Q) 0 0 160 [some (.ref 347), some (.int (nI k)), some (.int (nI i)), some (.int (nI j)), some (.int (nI (bP k))), none, some (.int (nI (sm (sLen (S.1 0)) i (lS k)))), none] [.int y1, .int y0] h := fun y0 y1 ey => by
      refine sX10_priceOf_160 ?_
      rw [ey, nI_l (by omega), nI_l (by omega), s_347 c]
      refine ⟨rfl, sq hi hj hl l2 hr r2 (sp_leftOf hk (sp_rightOf hk ⟨by rw [s_347 c], sp_known c T M hi hj l2 r2 (priceOf_194 (by have := frds_le (j := j) (m := rS k) T.1.1 hi; omega) ?_)⟩))⟩
      refine Qto K ?_
      rw [e, show (15 : Int32) = iI 15 from rfl, iI_n, iI_n, iI_n, iI_add, iI_mul, iI_sub]
    have k127 : ∀ y0 y1 : Int32, y0 + y1 = nI (sm (sLen (S.1 0)) i (lS k)) → AW w mX10_priceOf 0 0 (rI Q) 0 0 127 [some (.ref 347), some (.int (nI k)), some (.int (nI i)), some (.int (nI j)), some (.int (nI (bP k))), none, none, none] [.int y1, .int y0] h := fun y0 y1 ey => by
      refine sX10_priceOf_127 ?_
      have v0 := m3 j (by omega)
      rw [ey, s_347 c, r_347_34 c, s_370 c, show (20 : Int32) = nI 20 from rfl, show (21 : Int32) = nI 21 from rfl, nI_add, nI_add, cl_nI (by omega), v0]
      refine ⟨rfl, by first | decide | exact vp_nI (j := 0) (by decide) (by decide) | exact vp_nI (j := 1) (by decide) (by decide), rfl, vp_nI (by omega) (by decide), sp_rightOf hk ⟨fun x => ?_, fun x => ?_⟩⟩
      · rw [show (2 : Int32) = nI 2 from rfl, nI_inj (by omega) (by omega)] at x
        refine k160 _ _ ?_
        rw [nI_a0, show rS k = 1 by omega, sm_1]
      · rw [show (2 : Int32) = nI 2 from rfl, nI_inj (by omega) (by omega)] at x
        have v1 := m3 (j + 1) (by omega)
        rw [s_347 c, r_347_34 c, s_370 c, cl_nI (by omega), show 21 + j = 20 + (j + 1) by omega, v1]
        refine ⟨rfl, by first | decide | exact vp_nI (j := 0) (by decide) (by decide) | exact vp_nI (j := 1) (by decide) (by decide), rfl, vp_nI (by omega) (by decide), k160 _ _ ?_⟩
        rw [nI_add, x, sm_2]
    have v0 := m2 i (by omega)
    rw [s_347 c, r_347_34 c, s_370 c, cl_nI (by omega), v0]
    refine ⟨rfl, by first | decide | exact vp_nI (j := 0) (by decide) (by decide) | exact vp_nI (j := 1) (by decide) (by decide), rfl, vp_nI (by omega) (by decide), sp_leftOf hk ⟨fun x => ?_, fun x => ?_⟩⟩
    · rw [show (2 : Int32) = nI 2 from rfl, nI_inj (by omega) (by omega)] at x
      refine k127 _ _ ?_
      rw [nI_a0, show lS k = 1 by omega, sm_1]
    · rw [show (2 : Int32) = nI 2 from rfl, nI_inj (by omega) (by omega)] at x
      have v1 := m2 (i + 1) (by omega)
      rw [s_347 c, r_347_34 c, s_370 c, nI_1, cl_nI (by omega), v1]
      refine ⟨rfl, by first | decide | exact vp_nI (j := 0) (by decide) (by decide) | exact vp_nI (j := 1) (by decide) (by decide), rfl, vp_nI (by omega) (by decide), k127 _ _ ?_⟩
      rw [nI_add, x, sm_2]
  · have z : k = 6 := by
      rw [show (6 : Int32) = nI 6 from rfl, nI_inj (by omega) (by omega)] at z; exact z
    subst z
    have hi' : i + 2 ≤ bNs (S.1 0) := hi
    have hj' : j + 2 ≤ bNs (S.1 1) := hj
    have e : prcN S 6 i j = 480 + ((strN S i 1 (j + 1) 1 + strN S (i + 1) 1 j 1 : Nat) : Int) - 15 * (min6 (frds S i 1 (j + 1) 1 + frds S (i + 1) 1 j 1) : Int) := by unfold prcN; rw [if_neg q, if_pos rfl]
    have g1 := frds_le (j := j + 1) (m := 1) T.1.1 (show i + 1 ≤ bNs (S.1 0) by omega)
    have g2 := frds_le (j := j) (m := 1) T.1.1 (show i + 1 + 1 ≤ bNs (S.1 0) by omega)
    have v0 := m2 i (by omega)
    have v1 := m2 (i + 1) (by omega)
    have u0 := m3 j (by omega)
    have u1 := m3 (j + 1) (by omega)
    have b0 := sLen_le T.1.1 (show i < bNs (S.1 0) by omega)
    have b1 := sLen_le T.1.1 (show i + 1 < bNs (S.1 0) by omega)
    have b2 := sLen_le T.2.1 (show j < bNs (S.1 1) by omega)
    have b3 := sLen_le T.2.1 (show j + 1 < bNs (S.1 1) by omega)
    rw [s_347 c, r_347_34 c, s_370 c, show (20 : Int32) = nI 20 from rfl, show (21 : Int32) = nI 21 from rfl, show (1 : Int32) = nI 1 from rfl, nI_add, nI_add, nI_add, nI_add, show 21 + j = 20 + (j + 1) by omega, cl_nI (show i < 2147483648 by omega), cl_nI (show 20 + (j + 1) < 2147483648 by omega), v0, u1, nI_l (by omega), nI_l (by omega)]
    have s1 := sq (Q' := fun r3 h3 => (hs h3 347).1 = 30 ∧ hR h3 347 34 ≠ 0 ∧ (hs h3 (hR h3 347 34)).1 = 1 ∧ vp_in (nI (i + 1)) (hs h3 (hR h3 347 34)).2 ∧ vp_in (nI (20 + j)) (hs h3 (hR h3 347 34)).2 ∧ AC w mX10_square 0 0 (rI fun r4 h4 => (hs h4 347).1 = 30 ∧ AC w mX10_known 0 0 (rI fun r5 h5 => (hs h5 347).1 = 30 ∧ AC w mX10_known 0 0 (rI fun r6 h6 => AW w mX10_priceOf 0 0 (rI Q) 0 0 194 [none, none, none, none, some (.int (nI (bP 6) + (r3 + r4))), some (.int (r5 + r6)), none, none] [] h6) [.ref 347, .int (nI (i + 1)), .int (nI 1), .int (nI j), .int (nI 1)] h5) [.ref 347, .int (nI i), .int (nI 1), .int (nI (j + 1)), .int (nI 1)] h4) [.ref 347, .long ((hI h3 (hR h3 347 34) (nI (i + 1)).toNatClampNeg).toInt64), .long ((hI h3 (hR h3 347 34) (nI (20 + j)).toNatClampNeg).toInt64)] h3) (x := i) (n := 1) (y := j + 1) (m := 1) (by omega) (by omega) (by decide) (by decide) (by decide) (by decide)
    rw [sm_1, sm_1] at s1
    refine ⟨rfl, by first | decide | exact vp_nI (j := 0) (by decide) (by decide) | exact vp_nI (j := 1) (by decide) (by decide), rfl, vp_nI (by omega) (by decide), vp_nI (by omega) (by decide), s1 ?_⟩
    rw [s_347 c, r_347_34 c, s_370 c, cl_nI (by omega), cl_nI (by omega), v1, u0, nI_l (by omega), nI_l (by omega)]
    have s2 := sq (Q' := fun r4 h4 => (hs h4 347).1 = 30 ∧ AC w mX10_known 0 0 (rI fun r5 h5 => (hs h5 347).1 = 30 ∧ AC w mX10_known 0 0 (rI fun r6 h6 => AW w mX10_priceOf 0 0 (rI Q) 0 0 194 [none, none, none, none, some (.int (nI (bP 6) + (nI (strN S i 1 (j + 1) 1) + r4))), some (.int (r5 + r6)), none, none] [] h6) [.ref 347, .int (nI (i + 1)), .int (nI 1), .int (nI j), .int (nI 1)] h5) [.ref 347, .int (nI i), .int (nI 1), .int (nI (j + 1)), .int (nI 1)] h4) (x := i + 1) (n := 1) (y := j) (m := 1) (by omega) (by omega) (by decide) (by decide) (by decide) (by decide)
    rw [sm_1, sm_1] at s2
    refine ⟨rfl, by first | decide | exact vp_nI (j := 0) (by decide) (by decide) | exact vp_nI (j := 1) (by decide) (by decide), rfl, vp_nI (by omega) (by decide), vp_nI (by omega) (by decide), s2 ⟨by rw [s_347 c], sp_known c T M (by omega) (by omega) (by decide) (by decide) ⟨by rw [s_347 c], sp_known c T M (by omega) (by omega) (by decide) (by decide) ?_⟩⟩⟩
    rw [nI_add (strN S i 1 (j + 1) 1), nI_add (frds S i 1 (j + 1) 1)]
    refine priceOf_194 (by omega) ?_
    refine Qto K ?_
    rw [e, show (15 : Int32) = iI 15 from rfl, show nI (bP 6) = iI 480 from rfl, iI_n, iI_n, iI_add, iI_mul, iI_sub]
  · rw [show (2 : Int32) = nI 2 from rfl, nI_inj (by omega) (by omega)] at z; omega
end MA
