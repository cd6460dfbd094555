/-! ===== prices, the class ===== -/
theorem nI_abs {x y : Nat} (hx : x < 1000000) (hy : y < 1000000) : (if (0 : Int32) ≤ nI x - nI y then nI x - nI y else 0 - (nI x - nI y)) = nI ((x - y) + (y - x)) := by
  have e := ti_subN hx hy
  by_cases q : y ≤ x
  · rw [if_pos (by rw [ti_le, e, t_0]; omega), pk_sub q, show x - y + (y - x) = x - y by omega]
  · rw [if_neg (by rw [ti_le, e, t_0]; omega), ti_eq, ti_sub (by rw [t_0, e]; omega) (by rw [t_0, e]; omega), e, t_0, nI_toInt (by omega)]
    omega
theorem nI_dst {x y : Nat} (hx : x < 1000000) (hy : y < 1000000) (h0 : 0 < x + y) : (if (0 : Int32) ≤ nI x - nI y then nI x - nI y else 0 - (nI x - nI y)) * 20 / (nI x + nI y) = nI (dstN x y) := by
  rw [nI_abs hx hy, show (20 : Int32) = nI 20 from rfl, pk_mul, nI_add, pk_div (by omega) h0 (by omega)]
  rfl
theorem sm_sub (f : Nat → Nat) (i n : Nat) : nI (sm f 0 (i + n)) - nI (sm f 0 i) = nI (sm f i n) := by
  have := sm_add f i n
  rw [pk_sub (by omega), this]
  congr 1
  omega
section WB
variable {w : Wd} {L : Nat} {h : Hp} {o : Nat → Nat} {S : Ly} {Q : Int32 → Hp → Prop}
theorem sp_stretch {i n j m : Nat} (c : Lay L h) (T : booksC h o S.1) (M : msC h S) (hi : i + n ≤ bNs (S.1 0)) (hj : j + m ≤ bNs (S.1 1)) (hn : 0 < n) (hn2 : n ≤ 2) (hm : 0 < m) (hm2 : m ≤ 2) (K : Q (nI (strN S i n j m)) h) : AC w mX7_stretch 0 0 (rI Q) [.ref 311, .int (nI i), .int (nI n), .int (nI j), .int (nI m)] h := by
  have hb0 := T.1.2.1
  have hb1 := T.1.2.2.1
  have n0 := T.2.1.1.1
  have n1 := T.2.2.1.1
  have e0 : hR h 19 0 = o 0 := T.1.1.1
  have e1 : hR h 19 1 = o 1 := T.1.1.2
  have b0 := isBk_223 hb0
  have b1 := isBk_223 hb1
  have a1 := M.1 (i + n) (by omega)
  have a2 := M.1 i (by omega)
  have a3 := M.1 (bNs (S.1 0)) (Nat.le_refl _)
  have a4 := M.2.1 (j + m) (by omega)
  have a5 := M.2.1 j (by omega)
  have a6 := M.2.1 (bNs (S.1 1)) (Nat.le_refl _)
  have l1 := sLens_le T.2.1.1 hi
  have l2 := sLens_le T.2.2.1 hj
  have l3 := sLens_le T.2.1.1 (show 0 + bNs (S.1 0) ≤ bNs (S.1 0) by omega)
  have l4 := sLens_le T.2.2.1 (show 0 + bNs (S.1 1) ≤ bNs (S.1 1) by omega)
  have p1 := sLens_pos T.2.1.1 hi hn
  have p4 := sLens_pos T.2.2.1 (show 0 + bNs (S.1 1) ≤ bNs (S.1 1) by omega) (by omega)
  have x1 : sm (sLen (S.1 0)) i n * sm (sLen (S.1 1)) 0 (bNs (S.1 1)) ≤ 200 * 2000 := Nat.mul_le_mul (by omega) (by omega)
  have x2 : sm (sLen (S.1 1)) j m * sm (sLen (S.1 0)) 0 (bNs (S.1 0)) ≤ 200 * 2000 := Nat.mul_le_mul (by omega) (by omega)
  have x3 : 1 * 1 ≤ sm (sLen (S.1 0)) i n * sm (sLen (S.1 1)) 0 (bNs (S.1 1)) := Nat.mul_le_mul p1 p4
  have K' : Q (nI (dstN (sm (sLen (S.1 0)) i n * sm (sLen (S.1 1)) 0 (bNs (S.1 1))) (sm (sLen (S.1 1)) j m * sm (sLen (S.1 0)) 0 (bNs (S.1 0)))) * nI (dstN (sm (sLen (S.1 0)) i n * sm (sLen (S.1 1)) 0 (bNs (S.1 1))) (sm (sLen (S.1 1)) j m * sm (sLen (S.1 0)) 0 (bNs (S.1 0))))) h := by rw [pk_mul]; exact K
  refine eX7_stretch (sX7_stretch_0 ?_)
  simp (disch := omega) only [s_311 c, r_311_0 c, s_19 c, r_311_4 c, r_311_5 c, s_312 c, s_313 c, e0c, e1c, e0, e1, sb_this c hb0, sb_this c hb1, T.2.1.2.1, T.2.2.2.1, nI_add, cl_nI, a1, a2, a3, a4, a5, a6, sm_sub, pk_mul]
  generalize sm (sLen (S.1 0)) i n * sm (sLen (S.1 1)) 0 (bNs (S.1 1)) = X at *
  generalize sm (sLen (S.1 1)) j m * sm (sLen (S.1 0)) 0 (bNs (S.1 0)) = Y at *
  have ed := nI_dst (x := X) (y := Y) (by omega) (by omega) (by omega)
  rw [nI_add] at ed
  rw [ed]
  have z1 : (0 : Int32) < nI (X + Y) := by rw [ti_lt, t_0, nI_toInt (by omega)]; omega
  have z2 : ¬ nI (X + Y) = 0 := by rw [ti_eq, t_0, nI_toInt (by omega)]; omega
  have v1 : vp_in (nI (i + n)) 21 := vp_nI (by omega) (by decide)
  have v2 : vp_in (nI i) 21 := vp_nI (by omega) (by decide)
  have v3 : vp_in (nI (bNs (S.1 0))) 21 := vp_nI (by omega) (by decide)
  have v4 : vp_in (nI (j + m)) 21 := vp_nI (by omega) (by decide)
  have v5 : vp_in (nI j) 21 := vp_nI (by omega) (by decide)
  have v6 : vp_in (nI (bNs (S.1 1))) 21 := vp_nI (by omega) (by decide)
  repeat' (first | exact trivial | (with_reducible refine And.intro ?_ ?_) | exact vp_nI (by omega) (by omega) | exact vp_nI (j := 0) (by decide) (by decide) | exact vp_nI (j := 1) (by decide) (by decide) | decide | (exact K') | (exact z2) | (exact v1) | (exact v2) | (exact v3) | (exact v4) | (exact v5) | (exact v6) | ((intro q; exact absurd z1 q)) | ((intro _; exact ⟨z2, K'⟩)) | (with_reducible intro z1; first | exact absurd trivial z1 | exact z1.elim) | (with_reducible intro z1) | omega)
theorem frd_s (S : Ly) (s : Nat) (P : Nat → Bool) (k : Nat) : sm (fun x => if hasP S (bWd (S.1 0) s x) P = true then 1 else 0) 0 (k + 1) = sm (fun x => if hasP S (bWd (S.1 0) s x) P = true then 1 else 0) 0 k + (if hasP S (bWd (S.1 0) s k) P = true then 1 else 0) := by
  show sm (fun x => if hasP S (bWd (S.1 0) s x) P = true then 1 else 0) 0 k + (if hasP S (bWd (S.1 0) s (0 + k)) P = true then 1 else 0) = _
  rw [Nat.zero_add]
theorem sp_countFriends {s : Nat} {x : Int64} {P : Nat → Bool} (c : Lay L h) (T : booksC h o S.1) (M : msC h S) (hs : s < bNs (S.1 0)) (hx : bits x P) (K : Q (nI (frd S s P)) h) : AC w mX7_countFriends 0 0 (rI Q) [.ref 311, .int (nI s), .long x] h := by
  have hb0 := T.1.2.1
  have n0 := T.2.1.1.1
  have k0 := T.2.1.1.2.1
  have k1 := T.2.2.1.2.1
  have e0 : hR h 19 0 = o 0 := T.1.1.1
  have b0 := isBk_223 hb0
  have hw := T.2.1.1.2.2.2.1 s hs
  have hv := T.2.1.2.2.2.2.1 s hs
  have lp : ∀ (d k : Nat), k + d = bWc (S.1 0) s → AW w mX7_countFriends 0 0 (rI Q) 0 0 6 [some (.ref 311), some (.int (nI s)), some (.long x), none, some (.int (nI (sm (fun x => if hasP S (bWd (S.1 0) s x) P = true then 1 else 0) 0 k))), some (.int (nI k))] [] h := by
    intro d
    induction d with
    | zero =>
      intro k hk
      have hk : k = bWc (S.1 0) s := by omega
      refine sX7_countFriends_6 ?_
      have KK : Q (nI (sm (fun x => if hasP S (bWd (S.1 0) s x) P = true then 1 else 0) 0 k)) h := by rw [hk]; exact K
      simp (disch := omega) only [s_311 c, r_311_0 c, s_19 c, e0c, e0, sb_this c hb0, show hR h (o 0) 2 = o 0 + 65 from rb_0_2 c hb0, sb_65 c hb0, hv.1, cl_nI, ti_le, nI_toInt]
      exact ⟨trivial, by first | decide | exact vp_nI (j := 0) (by decide) (by decide) | exact vp_nI (j := 1) (by decide) (by decide), trivial, by first | decide | exact vp_nI (j := 0) (by decide) (by decide) | exact vp_nI (j := 1) (by decide) (by decide), by omega, trivial, by omega, trivial, vp_nI (by omega) (by decide), fun _ => KK, fun z => absurd (by omega) z⟩
    | succ d ih =>
      intro k hk
      have hd := hv.2.2 k (by omega)
      have hk40 := hw.2.2.2 k (by omega)
      have nx := ih (k + 1) (by omega)
      rw [frd_s] at nx
      have m3 := M.2.2.1 _ hk40
      have n1 : hL h 314 (bWd (S.1 0) s k) &&& x = 0 → AW w mX7_countFriends 0 0 (rI Q) 0 0 6 [some (.ref 311), some (.int (nI s)), some (.long x), none, some (.int (nI (sm (fun x => if hasP S (bWd (S.1 0) s x) P = true then 1 else 0) 0 k))), some (.int (nI (k + 1)))] [] h := fun q => by
        have : hasP S (bWd (S.1 0) s k) P = false := by
          rcases pOf_or S.2.2.2 (bWd (S.1 0) s k) (bNk (S.1 1)) with z | ⟨b, hb, z⟩
          · exact hasP_n z
          · rw [m3.2 b hb z, bits_t hx (by omega)] at q
            rw [hasP_s z (by omega)]; exact q
        rw [this] at nx; exact nx
      have n2 : ¬ hL h 314 (bWd (S.1 0) s k) &&& x = 0 → AW w mX7_countFriends 0 0 (rI Q) 0 0 6 [some (.ref 311), some (.int (nI s)), some (.long x), none, some (.int (nI (sm (fun x => if hasP S (bWd (S.1 0) s x) P = true then 1 else 0) 0 k + 1))), some (.int (nI (k + 1)))] [] h := fun q => by
        have : hasP S (bWd (S.1 0) s k) P = true := by
          rcases pOf_or S.2.2.2 (bWd (S.1 0) s k) (bNk (S.1 1)) with z | ⟨b, hb, z⟩
          · rw [m3.1 z] at q
            exact absurd (Int64.toBitVec_inj.mp (by rw [Int64.toBitVec_and]; show 0#64 &&& _ = 0#64; exact BitVec.zero_and)) q
          · rw [m3.2 b hb z, bits_t hx (by omega)] at q
            rw [hasP_s z (by omega)]; simpa using q
        rw [this] at nx; exact nx
      refine sX7_countFriends_6 ?_
      simp (disch := omega) only [s_311 c, r_311_0 c, s_19 c, e0c, e0, sb_this c hb0, show hR h (o 0) 2 = o 0 + 65 from rb_0_2 c hb0, sb_65 c hb0, show hR h (o 0) 1 = o 0 + 44 from rb_0_1 c hb0, sb_44 c hb0, rb_wd c hb0 (show s < 20 by omega), sb_wd c hb0 (show s < 20 by omega), r_311_6 c, s_314 c, hv.1, hd, lg_cmp_eq, ti_le, nI_toInt, cl_nI, nI_1]
      exact ⟨trivial, by first | decide | exact vp_nI (j := 0) (by decide) (by decide) | exact vp_nI (j := 1) (by decide) (by decide), trivial, by first | decide | exact vp_nI (j := 0) (by decide) (by decide) | exact vp_nI (j := 1) (by decide) (by decide), by omega, trivial, by omega, trivial, vp_nI (by omega) (by decide), fun z => absurd z (by omega), fun _ => ⟨by first | decide | exact vp_nI (j := 0) (by decide) (by decide) | exact vp_nI (j := 1) (by decide) (by decide), by omega, trivial, vp_nI (by omega) (by decide), by omega, trivial, vp_nI (by omega) (by decide), trivial, vp_nI (by omega) (by decide), n1, n2⟩⟩
  exact eX7_countFriends (sX7_countFriends_0 (lp (bWc (S.1 0) s) 0 (by omega)))
theorem kIn_s (B : Bk) (j m p : Nat) : kIn B j (m + 1) p = (kIn B j m p || kIn B (j + m) 1 p) := by
  show (anyN _ j m || kI1 B (j + m) p) = (anyN _ j m || (false || kI1 B (j + m + 0) p))
  rw [Bool.false_or, Nat.add_zero]
theorem sp_friendsOf {k i j : Nat} (c : Lay L h) (T : booksC h o S.1) (M : msC h S) (hk : k < 7) (hi : i + lS k ≤ bNs (S.1 0)) (hj : j + rS k ≤ bNs (S.1 1)) (K : Q (nI (frds S i (lS k) j (rS k))) h) : AC w mX7_friendsOf 0 0 (rI Q) [.ref 311, .int (nI k), .int (nI i), .int (nI j)] h := by
  have n0 := T.2.1.1.1
  have n1 := T.2.2.1.1
  have l2 := lS_le k
  have r2 := rS_le k
  have lq : ∀ (x : Int64), bits x (kIn (S.1 1) j (rS k)) → ∀ (d u : Nat), u + d = lS k → AW w mX7_friendsOf 0 0 (rI Q) 0 0 42 [some (.ref 311), some (.int (nI k)), some (.int (nI i)), none, some (.long x), none, some (.int (nI (frds S i u j (rS k)))), some (.int (nI (i + u)))] [] h := by
    intro x hx d
    induction d with
    | zero =>
      intro u hu
      have hu : u = lS k := by omega
      refine sX7_friendsOf_42 ?_
      have KK : Q (nI (frds S i u j (rS k))) h := by rw [hu]; exact K
      simp (disch := omega) only [s_1 c, l_1 c hk, forall_eq, hs_sI, hs_sL, hR_sI, hR_sL, hI_eq, hI_ne, hI_sL, hL_sI, ti_lt, ti_le, ti_eq, nI_toInt, cl_nI, nI_1, nI_add, t_0, t_1, t_2, t_3, t_4, t_5, t_6, t_7, t_8, t_9, t_10, t_12, t_15, t_16, t_20, t_21, t_24, t_26, t_30, t_31, t_32, t_33, t_39, t_40, t_41, t_45, t_46, t_47, t_48, t_57, t_60, t_63, t_65, t_90, t_97, t_100, t_122, t_200, t_230, t_240, t_255, t_400, t_440, t_441, t_450, t_480, t_1580, t_1600, t_10000, t_131071, t_131072, t_1048576, t_1000000000, tm_1, tm_100001, tm_100002, tm_100003, tm_100004]
      repeat' (first | exact trivial | (with_reducible refine And.intro ?_ ?_) | exact vp_nI (by omega) (by omega) | exact vp_nI (j := 0) (by decide) (by decide) | exact vp_nI (j := 1) (by decide) (by decide) | decide | (exact KK) | (with_reducible intro z1; first | exact absurd trivial z1 | exact z1.elim) | (with_reducible intro z1) | omega)
    | succ d ih =>
      intro u hu
      refine sX7_friendsOf_42 ?_
      have nx := ih (u + 1) (by omega)
      have e : frds S i (u + 1) j (rS k) = frds S i u j (rS k) + frd S (i + u) (kIn (S.1 1) j (rS k)) := rfl
      rw [e] at nx
      have go : AC w mX7_countFriends 0 0 (rI fun r1 h1 => AW w mX7_friendsOf 0 0 (rI Q) 0 0 42 [some (.ref 311), some (.int (nI k)), some (.int (nI i)), none, some (.long x), none, some (.int (nI (frds S i u j (rS k)) + r1)), some (.int (nI (i + u + 1)))] [] h1) [.ref 311, .int (nI (i + u)), .long x] h := sp_countFriends c T M (by omega) hx (by rw [nI_add]; exact nx)
      simp (disch := omega) only [s_1 c, s_311 c, l_1 c hk, ti_le, nI_toInt, nI_add, nI_1, cl_nI] at go ⊢
      repeat' (first | exact trivial | (with_reducible refine And.intro ?_ ?_) | exact vp_nI (by omega) (by omega) | exact vp_nI (j := 0) (by decide) (by decide) | exact vp_nI (j := 1) (by decide) (by decide) | decide | (exact go) | (with_reducible intro z1; first | exact absurd trivial z1 | exact z1.elim) | (with_reducible intro z1) | omega)
  have lp : ∀ (d u : Nat) (x : Int64), u + d = rS k → bits x (kIn (S.1 1) j u) → AW w mX7_friendsOf 0 0 (rI Q) 0 0 6 [some (.ref 311), some (.int (nI k)), some (.int (nI i)), some (.int (nI j)), some (.long x), none, some (.int (nI (j + u))), none] [] h := by
    intro d
    induction d with
    | zero =>
      intro u x hu hx
      have hu : u = rS k := by omega
      rw [hu] at hx
      refine sX7_friendsOf_6 ?_
      have go := lq x hx (lS k) 0 (by omega)
      simp (disch := omega) only [s_2 c, l_2 c hk, forall_eq, hs_sI, hs_sL, hR_sI, hR_sL, hI_eq, hI_ne, hI_sL, hL_sI, ti_lt, ti_le, ti_eq, nI_toInt, cl_nI, nI_1, nI_add, t_0, t_1, t_2, t_3, t_4, t_5, t_6, t_7, t_8, t_9, t_10, t_12, t_15, t_16, t_20, t_21, t_24, t_26, t_30, t_31, t_32, t_33, t_39, t_40, t_41, t_45, t_46, t_47, t_48, t_57, t_60, t_63, t_65, t_90, t_97, t_100, t_122, t_200, t_230, t_240, t_255, t_400, t_440, t_441, t_450, t_480, t_1580, t_1600, t_10000, t_131071, t_131072, t_1048576, t_1000000000, tm_1, tm_100001, tm_100002, tm_100003, tm_100004]
      repeat' (first | exact trivial | (with_reducible refine And.intro ?_ ?_) | exact vp_nI (by omega) (by omega) | exact vp_nI (j := 0) (by decide) (by decide) | exact vp_nI (j := 1) (by decide) (by decide) | decide | (exact go) | (with_reducible intro z1; first | exact absurd trivial z1 | exact z1.elim) | (with_reducible intro z1) | omega)
    | succ d ih =>
      intro u x hu hx
      refine sX7_friendsOf_6 ?_
      have nx := ih (u + 1) (x ||| hL h 315 (j + u)) (by omega) (bits_e (bits_or hx (M.2.2.2 (j + u) (by omega))) (fun p _ => (kIn_s (S.1 1) j u p).symm))
      simp (disch := omega) only [s_2 c, s_311 c, r_311_7 c, s_315 c, l_2 c hk, forall_eq, hs_sI, hs_sL, hR_sI, hR_sL, hI_eq, hI_ne, hI_sL, hL_sI, ti_lt, ti_le, ti_eq, nI_toInt, cl_nI, nI_1, nI_add, t_0, t_1, t_2, t_3, t_4, t_5, t_6, t_7, t_8, t_9, t_10, t_12, t_15, t_16, t_20, t_21, t_24, t_26, t_30, t_31, t_32, t_33, t_39, t_40, t_41, t_45, t_46, t_47, t_48, t_57, t_60, t_63, t_65, t_90, t_97, t_100, t_122, t_200, t_230, t_240, t_255, t_400, t_440, t_441, t_450, t_480, t_1580, t_1600, t_10000, t_131071, t_131072, t_1048576, t_1000000000, tm_1, tm_100001, tm_100002, tm_100003, tm_100004]
      repeat' (first | exact trivial | (with_reducible refine And.intro ?_ ?_) | exact vp_nI (by omega) (by omega) | exact vp_nI (j := 0) (by decide) (by decide) | exact vp_nI (j := 1) (by decide) (by decide) | decide | (exact nx) | (with_reducible intro z1; first | exact absurd trivial z1 | exact z1.elim) | (with_reducible intro z1) | omega)
  exact eX7_friendsOf (sX7_friendsOf_0 (lp (rS k) 0 0 (by omega) bits_0))
theorem sp_hasBoth {k : Nat} (hk : k < 7) (K : Q (b01 (decide (¬ (k = 1 ∨ k = 2)))) h) : AC w mX9_hasBothSides 0 0 (rI Q) [.int (nI k)] h := by
  refine eX9_hasBothSides (sX9_hasBothSides_0 ?_)
  have K1 : (k = 1 ∨ k = 2) → Q 0 h := fun q => Qto K (b0 (decide_eq_false (fun z => z q)))
  have K2 : ¬ (k = 1 ∨ k = 2) → Q 1 h := fun q => Qto K (b1 (decide_eq_true q))
  simp (disch := omega) only [ti_eq, nI_toInt, t_1, t_2]
  exact ⟨fun z => K1 (by omega), fun z => ⟨fun z2 => K1 (by omega), fun z2 => K2 (by omega)⟩⟩
theorem min6_nI {n : Nat} (hn : n < 1000000) : (if (6 : Int32) < nI n then 6 else nI n) = nI (min6 n) := by
  unfold min6
  by_cases q : 6 < n
  · rw [if_pos q, if_pos (by rw [ti_lt, t_6, nI_toInt (by omega)]; omega)]; rfl
  · rw [if_neg q, if_neg (by rw [ti_lt, t_6, nI_toInt (by omega)]; omega)]
theorem frd_le {S : Ly} (ok : okB (S.1 0)) {s : Nat} (hs : s < bNs (S.1 0)) (P : Nat → Bool) : frd S s P ≤ 10 := by
  have h1 := (ok.2.2.2.1 s hs).2.1
  have : frd S s P ≤ bWc (S.1 0) s * 1 := sm_le (fun i _ => by (try dsimp only); split <;> omega)
  omega
theorem frds_le {S : Ly} (ok : okB (S.1 0)) {i n j m : Nat} (hi : i + n ≤ bNs (S.1 0)) : frds S i n j m ≤ n * 10 := sm_le (fun x hx => frd_le ok (by omega) _)
theorem frds_1 (S : Ly) (i j : Nat) : frds S i 1 j 1 = frd S i (kIn (S.1 1) j 1) := sm_1 _ i
theorem sp_priceAt {k i j : Nat} (c : Lay L h) (T : booksC h o S.1) (M : msC h S) (hk : k < 7) (hi : i + lS k ≤ bNs (S.1 0)) (hj : j + rS k ≤ bNs (S.1 1)) (K : Q (iI (prcN S k i j)) h) : AC w mX7_priceAt 0 0 (rI Q) [.ref 311, .int (nI k), .int (nI i), .int (nI j)] h := by
  have n0 := T.2.1.1.1
  have n1 := T.2.2.1.1
  have l2 := lS_le k
  have r2 := rS_le k
  refine eX7_priceAt (sX7_priceAt_0 ?_)
  refine ⟨by rw [s_3 c], by rw [s_3 c]; exact vp_nI (by omega) (by decide), sp_hasBoth hk ⟨fun q => ?_, fun q => ?_⟩⟩
  · rw [b01_ne] at q
    have q := of_decide_eq_true q
    refine ⟨fun z => ?_, fun z => ?_⟩
    · have z : ¬ k = 6 := fun e => z (by rw [e]; rfl)
      have hl : 0 < lS k := k7 (P := fun k => ¬ (k = 1 ∨ k = 2) → 0 < lS k) (by decide) (by decide) (by decide) (by decide) (by decide) (by decide) (by decide) hk q
      have hr : 0 < rS k := k7 (P := fun k => ¬ (k = 1 ∨ k = 2) → 0 < rS k) (by decide) (by decide) (by decide) (by decide) (by decide) (by decide) (by decide) hk q
      have e : prcN S k i j = (bP k : Int) + (strN S i (lS k) j (rS k) : Int) - 15 * (min6 (frds S i (lS k) j (rS k)) : Int) := by unfold prcN; rw [if_neg q, if_neg z]
      simp (disch := omega) only [s_311 c, s_1 c, s_2 c, l_1 c hk, l_2 c hk, l_3 c hk, cl_nI]
      refine ⟨trivial, vp_nI (by omega) (by decide), trivial, vp_nI (by omega) (by decide), trivial, sp_stretch c T M hi hj hl l2 hr r2 ⟨by rw [s_311 c], sp_friendsOf c T M hk hi hj ?_⟩⟩
      refine Qto K ?_
      rw [e, min6_nI (by have := frds_le (j := j) (m := rS k) T.2.1.1 hi; omega), show (15 : Int32) = iI 15 from rfl, iI_n, iI_n, iI_n, iI_add, iI_mul, iI_sub]
    · have z : k = 6 := by
        have := ti_eq.mp z
        rw [nI_toInt (by omega), t_6] at this
        omega
      subst z
      have hi' : i + 2 ≤ bNs (S.1 0) := hi
      have hj' : j + 2 ≤ bNs (S.1 1) := hj
      have e : prcN S 6 i j = 480 + ((strN S i 1 (j + 1) 1 + strN S (i + 1) 1 j 1 : Nat) : Int) - 15 * (min6 (frds S i 1 (j + 1) 1 + frds S (i + 1) 1 j 1) : Int) := by unfold prcN; rw [if_neg q, if_pos rfl]
      have f1 := frds_1 S i (j + 1)
      have f2 := frds_1 S (i + 1) j
      have f3 := frd_le T.2.1.1 (show i < bNs (S.1 0) by omega) (kIn (S.1 1) (j + 1) 1)
      have f4 := frd_le T.2.1.1 (show i + 1 < bNs (S.1 0) by omega) (kIn (S.1 1) j 1)
      refine ⟨by rw [s_311 c], ?_⟩
      rw [show (1 : Int32) = nI 1 from rfl, nI_add, nI_add]
      refine sp_stretch c T M (by omega) (by omega) (by decide) (by decide) (by decide) (by decide) ⟨by rw [s_311 c], sp_stretch c T M (by omega) (by omega) (by decide) (by decide) (by decide) (by decide) ?_⟩
      simp (disch := omega) only [s_311 c, r_311_7 c, s_315 c, cl_nI]
      refine ⟨trivial, by first | decide | exact vp_nI (j := 0) (by decide) (by decide) | exact vp_nI (j := 1) (by decide) (by decide), trivial, vp_nI (by omega) (by decide), sp_countFriends c T M (by omega) (M.2.2.2 (j + 1) (by omega)) ?_⟩
      simp (disch := omega) only [s_311 c, r_311_7 c, s_315 c, cl_nI]
      refine ⟨trivial, by first | decide | exact vp_nI (j := 0) (by decide) (by decide) | exact vp_nI (j := 1) (by decide) (by decide), trivial, vp_nI (by omega) (by decide), sp_countFriends c T M (by omega) (M.2.2.2 j (by omega)) ?_⟩
      refine Qto K ?_
      rw [e, f1, f2, nI_add, nI_add, min6_nI (by omega), l_3 c (show 6 < 7 by decide), show (15 : Int32) = iI 15 from rfl, show nI (bP 6) = iI 480 from rfl, iI_n, iI_n, iI_add, iI_mul, iI_sub]
  · rw [b01_eq] at q
    have q : k = 1 ∨ k = 2 := by
      have := of_decide_eq_false q
      omega
    refine Qto K ?_
    rw [cl_nI (by omega), l_3 c hk]
    have e : prcN S k i j = 450 := by unfold prcN; rw [if_pos q]
    rw [e]
    rcases q with q | q <;> subst q <;> rfl
theorem sp_price12 {k : Nat} {x y : Int32} (c : Lay L h) (hk : k = 1 ∨ k = 2) (K : Q 450 h) : AC w mX7_priceAt 0 0 (rI Q) [.ref 311, .int (nI k), .int x, .int y] h := by
  refine eX7_priceAt (sX7_priceAt_0 ?_)
  refine ⟨by rw [s_3 c], by rw [s_3 c]; exact vp_nI (by omega) (by decide), sp_hasBoth (by omega) ⟨fun q => ?_, fun q => ?_⟩⟩
  · rw [b01_ne] at q
    exact absurd hk (of_decide_eq_true q)
  · refine Qto K ?_
    rw [cl_nI (by omega), l_3 c (by omega)]
    rcases hk with q | q <;> subst q <;> rfl
end WB
