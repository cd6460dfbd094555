/-! ===== broken ===== -/
theorem ush_n : ∀ t, t < 40 → (((nI t).toInt64.toUInt64 &&& Int64.toUInt64 63).toBitVec % 64).toNat = t := by decide +kernel
theorem bits_s {x : Int64} {P : Nat → Bool} {t : Nat} (h : bits x P) (ht : t < 40) : (x.toUInt64 >>> ((nI t).toInt64.toUInt64 &&& Int64.toUInt64 63)).toInt64 &&& 1 = 0 ↔ P t = false := by
  rw [← Int64.toBitVec_inj, Int64.toBitVec_and]
  have e : (x.toUInt64 >>> ((nI t).toInt64.toUInt64 &&& Int64.toUInt64 63)).toInt64.toBitVec = x.toBitVec >>> t := by
    show (x.toUInt64 >>> ((nI t).toInt64.toUInt64 &&& Int64.toUInt64 63)).toBitVec = _
    rw [UInt64.toBitVec_shiftRight, BitVec.ushiftRight_eq', ush_n t ht]
    rfl
  have e1 : (1 : Int64).toBitVec = BitVec.twoPow 64 0 := by decide
  rw [e, e1, BitVec.and_twoPow, BitVec.getLsbD_ushiftRight, Nat.add_zero, h t ht]
  cases P t with
  | false => simp
  | true => exact ⟨fun q => absurd q (by decide), fun q => by cases q⟩
def wdB (S : Ly) (tm : Nat → Int32) (j m s x : Nat) : Bool := !(tm (bWd (S.1 0) s x) == -1) && !(kIn (S.1 1) j m (tm (bWd (S.1 0) s x)).toNatClampNeg)
def snB (S : Ly) (tm : Nat → Int32) (j m s : Nat) : Bool := anyN (fun x => wdB S tm j m s x) 0 (bWc (S.1 0) s)
def brB (S : Ly) (tm : Nat → Int32) (k i j : Nat) : Bool := !(decide (k = 1 ∨ k = 2)) && anyN (fun s => snB S tm j (rS k) s) i (lS k)
noncomputable def brk (S : Ly) (tm : Nat → Int32) (n : Nat) : Nat := sm (fun m => if brB S tm (JK S m) (JL S m) (JR S m) = true then 1 else 0) 0 n
theorem anyN_t {f : Nat → Bool} {a : Nat} : ∀ {n i : Nat}, i < n → f (a + i) = true → anyN f a n = true
  | 0, i, h, _ => by omega
  | n + 1, i, h, q => by
    show (anyN f a n || f (a + n)) = true
    by_cases e : i = n
    · subst e; rw [q, Bool.or_true]
    · rw [@anyN_t f a n i (by omega) q, Bool.true_or]
theorem anyN_f {f : Nat → Bool} {a : Nat} : ∀ {n : Nat}, (∀ i, i < n → f (a + i) = false) → anyN f a n = false
  | 0, _ => rfl
  | n + 1, h => by
    show (anyN f a n || f (a + n)) = false
    rw [anyN_f (fun i hi => h i (by omega)), h n (by omega)]; rfl
theorem wdB_n {S : Ly} {tm : Nat → Int32} {j m s x : Nat} (h : tm (bWd (S.1 0) s x) = -1) : wdB S tm j m s x = false := by unfold wdB; rw [h]; rfl
theorem wdB_s {S : Ly} {tm : Nat → Int32} {j m s x t : Nat} (h : tm (bWd (S.1 0) s x) = nI t) (ht : t < 40) : wdB S tm j m s x = !(kIn (S.1 1) j m t) := by
  unfold wdB
  rw [h, cl_nI (by omega)]
  have : (nI t == -1) = false := by simpa using nI_m1 (show t < 2147483648 by omega)
  rw [this]; rfl
section BRC
variable {w : Wd} {L : Nat} {h : Hp} {o : Nat → Nat} {S : Ly} {Q : Int32 → Hp → Prop} {tm : Nat → Int32}
theorem sp_breaksTerm {m : Nat} (c : Lay L h) (B : booksC h o S.1) (T : shareC h (bNk (S.1 0)) (bNk (S.1 1)) S.2.2.2 tm) (J : jsC h S) (hm : m < JN S) (K : Q (b01 (brB S tm (JK S m) (JL S m) (JR S m))) h) : AC w mX9_breaksTerm 0 0 (rI Q) [.ref 5, .int (nI m)] h := by
  have n0 := B.2.1.1.1
  have n1 := B.2.2.1.1
  have k0 := B.2.1.1.2.1
  have k1 := B.2.2.1.2.1
  have hJ := JN_le (S := S) n0 n1
  obtain ⟨j1, j2, j3, -⟩ := J m hm
  obtain ⟨o1, o2, o3, o4⟩ := JN_ok (S := S) n0 n1 hm
  have l2 := lS_le (JK S m)
  have r2 := rS_le (JK S m)
  have v : vp_in (nI m) 40 := vp_nI (by omega) (by decide)
  have v7 : vp_in (nI (JK S m)) 7 := vp_nI (by omega) (by decide)
  have hb0 := B.1.2.1
  have hb1 := B.1.2.2.1
  have b0 := isBk_223 hb0
  have b1 := isBk_223 hb1
  have e0 : hR h 19 0 = o 0 := B.1.1.1
  have e1 : hR h 19 1 = o 1 := B.1.1.2
  refine eX9_breaksTerm (sX9_breaksTerm_0 ?_)
  rw [s_5 c, r_5_7 c, s_311 c, r_311_13 c, s_319 c, cl_nI (by omega), j1]
  refine ⟨rfl, by first | decide | exact vp_nI (j := 0) (by decide) (by decide) | exact vp_nI (j := 1) (by decide) (by decide), rfl, by first | decide | exact vp_nI (j := 0) (by decide) (by decide) | exact vp_nI (j := 1) (by decide) (by decide), rfl, v, sp_hasBoth o1 ⟨fun y => ?_, fun y => ?_⟩⟩
  · rw [b01_ne] at y
    have y := of_decide_eq_true y
    have eb : brB S tm (JK S m) (JL S m) (JR S m) = anyN (fun s => snB S tm (JR S m) (rS (JK S m)) s) (JL S m) (lS (JK S m)) := by
      unfold brB; rw [decide_eq_false y]; rfl
    rw [eb] at K
    rw [s_5 c, r_5_3 c, s_19 c, e1c, e1, r_5_7 c, s_311 c, r_311_15 c, s_321 c, s_2 c, sb_this c hb1, cl_nI (show JK S m < 2147483648 by omega), l_2 c o1, j3]
    refine ⟨rfl, by first | decide | exact vp_nI (j := 0) (by decide) (by decide) | exact vp_nI (j := 1) (by decide) (by decide), rfl, by first | decide | exact vp_nI (j := 0) (by decide) (by decide) | exact vp_nI (j := 1) (by decide) (by decide), by omega, by first | decide | exact vp_nI (j := 0) (by decide) (by decide) | exact vp_nI (j := 1) (by decide) (by decide), rfl, by first | decide | exact vp_nI (j := 0) (by decide) (by decide) | exact vp_nI (j := 1) (by decide) (by decide), rfl, v, rfl, v7, rfl, sp_kindsIn c hb1 B.2.2 o3 (fun x hx => ?_)⟩
    rw [s_5 c, r_5_7 c, s_311 c, r_311_14 c, s_320 c, j2]
    refine ⟨rfl, by first | decide | exact vp_nI (j := 0) (by decide) (by decide) | exact vp_nI (j := 1) (by decide) (by decide), rfl, by first | decide | exact vp_nI (j := 0) (by decide) (by decide) | exact vp_nI (j := 1) (by decide) (by decide), rfl, v, ?_⟩
    have inn : ∀ (u : Nat), u < lS (JK S m) → (snB S tm (JR S m) (rS (JK S m)) (JL S m + u) = false → AW w mX9_breaksTerm 0 0 (rI Q) 0 0 58 [some (.ref 5), none, some (.int (nI (JK S m))), some (.long x), none, some (.int (nI (JL S m))), some (.int (nI (JL S m + u + 1))), none, none] [] h) →
        ∀ (d k : Nat), k + d = bWc (S.1 0) (JL S m + u) → (∀ i, i < k → wdB S tm (JR S m) (rS (JK S m)) (JL S m + u) i = false) → AW w mX9_breaksTerm 0 0 (rI Q) 0 0 74 [some (.ref 5), none, some (.int (nI (JK S m))), some (.long x), none, some (.int (nI (JL S m))), some (.int (nI (JL S m + u))), some (.int (nI k)), none] [] h := by
      intro u hu Kc d
      have hs : JL S m + u < bNs (S.1 0) := by omega
      have hw := B.2.1.1.2.2.2.1 (JL S m + u) hs
      have hv := B.2.1.2.2.2.2.1 (JL S m + u) hs
      induction d with
      | zero =>
        intro k hk hf
        have KK := Kc (anyN_f (fun i hi => by rw [Nat.zero_add]; exact hf i (by omega)))
        refine sX9_breaksTerm_74 ?_
        simp (disch := omega) only [s_5 c, r_5_3 c, s_19 c, e0c, e0, sb_this c hb0, show hR h (o 0) 2 = o 0 + 65 from rb_0_2 c hb0, sb_65 c hb0, hv.1, nI_1, cl_nI, ti_le, nI_toInt]
        exact ⟨trivial, by first | decide | exact vp_nI (j := 0) (by decide) (by decide) | exact vp_nI (j := 1) (by decide) (by decide), trivial, by first | decide | exact vp_nI (j := 0) (by decide) (by decide) | exact vp_nI (j := 1) (by decide) (by decide), by omega, trivial, by omega, trivial, vp_nI (by omega) (by decide), fun _ => KK, fun z => absurd (by omega) z⟩
      | succ d ih =>
        intro k hk hf
        have hd := hv.2.2 k (by omega)
        have hk40 := hw.2.2.2 k (by omega)
        have ht := (T.2.2.2 _ hk40).1
        have nx : wdB S tm (JR S m) (rS (JK S m)) (JL S m + u) k = false → AW w mX9_breaksTerm 0 0 (rI Q) 0 0 74 [some (.ref 5), none, some (.int (nI (JK S m))), some (.long x), none, some (.int (nI (JL S m))), some (.int (nI (JL S m + u))), some (.int (nI (k + 1))), none] [] h := fun q => ih (k + 1) (by omega) (fun i hi => by
          by_cases e : i = k
          · subst e; exact q
          · exact hf i (by omega))
        have yes : wdB S tm (JR S m) (rS (JK S m)) (JL S m + u) k = true → Q 1 h := fun q => by
          have : anyN (fun s => snB S tm (JR S m) (rS (JK S m)) s) (JL S m) (lS (JK S m)) = true := anyN_t hu (anyN_t (show k < bWc (S.1 0) (JL S m + u) by omega) (by rw [Nat.zero_add]; exact q))
          rw [this] at K; exact K
        have c1 : tm (bWd (S.1 0) (JL S m + u) k) = -1 → AW w mX9_breaksTerm 0 0 (rI Q) 0 0 74 [some (.ref 5), none, some (.int (nI (JK S m))), some (.long x), none, some (.int (nI (JL S m))), some (.int (nI (JL S m + u))), some (.int (nI (k + 1))), none] [] h := fun q => nx (wdB_n q)
        have c2 : ¬ tm (bWd (S.1 0) (JL S m + u) k) = -1 → (¬ (lg_cmp (((x.toUInt64 >>> ((tm (bWd (S.1 0) (JL S m + u) k)).toInt64.toUInt64 &&& Int64.toUInt64 63)).toInt64) &&& 1) 0) = 0 → AW w mX9_breaksTerm 0 0 (rI Q) 0 0 74 [some (.ref 5), none, some (.int (nI (JK S m))), some (.long x), none, some (.int (nI (JL S m))), some (.int (nI (JL S m + u))), some (.int (nI (k + 1))), none] [] h) ∧ ((lg_cmp (((x.toUInt64 >>> ((tm (bWd (S.1 0) (JL S m + u) k)).toInt64.toUInt64 &&& Int64.toUInt64 63)).toInt64) &&& 1) 0) = 0 → Q 1 h) := fun q => by
          obtain ⟨t, ht, et⟩ := (T.1.2.2 _ hk40).1.resolve_left q
          rw [lg_cmp_eq, et, bits_s hx (by omega)]
          have ew := wdB_s (S := S) (tm := tm) (j := JR S m) (m := rS (JK S m)) et (by omega)
          refine ⟨fun z => nx ?_, fun z => yes ?_⟩
          · rw [ew, show kIn (S.1 1) (JR S m) (rS (JK S m)) t = true by simpa using z]; rfl
          · rw [ew, z]; rfl
        refine sX9_breaksTerm_74 ?_
        rw [s_5 c, r_5_3 c, s_19 c, e0c, e0, sb_this c hb0, show hR h (o 0) 2 = o 0 + 65 from rb_0_2 c hb0, sb_65 c hb0, cl_nI (show JL S m + u < 2147483648 by omega), hv.1, r_5_6 c, s_227 c, r_227_2 c, show hR h (o 0) 1 = o 0 + 44 from rb_0_1 c hb0, sb_44 c hb0, rb_wd c hb0 (show JL S m + u < 20 by omega), sb_wd c hb0 (show JL S m + u < 20 by omega), cl_nI (show k < 2147483648 by omega), hd, s_310 c, cl_nI (show bWd (S.1 0) (JL S m + u) k < 2147483648 by omega), ht, nI_1 k]
        refine ⟨rfl, by first | decide | exact vp_nI (j := 0) (by decide) (by decide) | exact vp_nI (j := 1) (by decide) (by decide), rfl, by first | decide | exact vp_nI (j := 0) (by decide) (by decide) | exact vp_nI (j := 1) (by decide) (by decide), by omega, rfl, by omega, rfl, vp_nI (by omega) (by decide), fun z => ?_, fun _ => ⟨by first | decide | exact vp_nI (j := 0) (by decide) (by decide) | exact vp_nI (j := 1) (by decide) (by decide), rfl, by first | decide | exact vp_nI (j := 0) (by decide) (by decide) | exact vp_nI (j := 1) (by decide) (by decide), by omega, rfl, vp_nI (by omega) (by decide), by omega, rfl, vp_nI (by omega) (by decide), rfl, vp_nI (by omega) (by decide), c1, c2⟩⟩
        rw [ti_le, nI_toInt (by omega), nI_toInt (by omega)] at z; omega
    have lp : ∀ (d u : Nat), u + d = lS (JK S m) → (∀ i, i < u → snB S tm (JR S m) (rS (JK S m)) (JL S m + i) = false) → AW w mX9_breaksTerm 0 0 (rI Q) 0 0 58 [some (.ref 5), none, some (.int (nI (JK S m))), some (.long x), none, some (.int (nI (JL S m))), some (.int (nI (JL S m + u))), none, none] [] h := by
      intro d
      induction d with
      | zero =>
        intro u hu hf
        have hu : u = lS (JK S m) := by omega
        rw [anyN_f (fun i hi => hf i (by omega))] at K
        refine sX9_breaksTerm_58 ?_
        rw [s_1 c, cl_nI (by omega), l_1 c o1, nI_add]
        exact ⟨rfl, v7, fun _ => K, fun z => absurd (by rw [hu, ti_le]; omega) z⟩
      | succ d ih =>
        intro u hu hf
        refine sX9_breaksTerm_58 ?_
        rw [s_1 c, cl_nI (by omega), l_1 c o1, nI_add]
        refine ⟨rfl, v7, fun z => ?_, fun _ => inn u (by omega) (fun q => ih (u + 1) (by omega) (fun i hi => ?_)) (bWc (S.1 0) (JL S m + u)) 0 (by omega) (fun i hi => by omega)⟩
        · rw [ti_le, nI_toInt (by omega), nI_toInt (by omega)] at z; omega
        · by_cases e : i = u
          · subst e; exact q
          · exact hf i (by omega)
    exact lp (lS (JK S m)) 0 (by omega) (fun i hi => by omega)
  · rw [b01_eq] at y
    have y : JK S m = 1 ∨ JK S m = 2 := by have := of_decide_eq_false y; omega
    refine Qto K ?_
    unfold brB
    rw [decide_eq_true y]; rfl
theorem brk_s (S : Ly) (tm : Nat → Int32) (n : Nat) : brk S tm (n + 1) = brk S tm n + (if brB S tm (JK S n) (JL S n) (JR S n) = true then 1 else 0) := by
  show sm _ 0 n + (if brB S tm (JK S (0 + n)) (JL S (0 + n)) (JR S (0 + n)) = true then 1 else 0) = _
  rw [Nat.zero_add]; rfl
theorem sp_broken (c : Lay L h) (T : lyC h o S) (D : shareC h (bNk (S.1 0)) (bNk (S.1 1)) S.2.2.2 tm) (W : hI h 5 11 = 0 → WC h S) (K : ∀ h', Cg wyE h h' → (hI h' 5 11 = 0 → WC h' S) → Q (nI (brk S tm (JN S))) h') : AC w mX9_broken 0 0 (rI Q) [.ref 5] h := by
  have hJ := JN_le (S := S) T.1.2.1.1.1 T.1.2.2.1.1
  refine eX9_broken (sX9_broken_0 ⟨by rw [s_5 c], sp_layAnew c T D W (fun h1 g st W1 => ?_)⟩)
  have c1 : Lay L h1 := g.lay c (fun id j q => by unfold wyE at q; omega)
  have T1 : lyC h1 o S := T.cg g (fun id j q => by unfold wyE at q; omega)
  have D1 : shareC h1 (bNk (S.1 0)) (bNk (S.1 1)) S.2.2.2 tm := D.cg g (fun id j q => by unfold wyE at q; omega)
  have KK := K h1 g (fun _ => W1)
  have lp : ∀ (d m : Nat), m + d = JN S → AW w mX9_broken 0 0 (rI Q) 0 0 8 [some (.ref 5), some (.int (nI (brk S tm m))), some (.int (nI m))] [] h1 := by
    intro d
    induction d with
    | zero =>
      intro m hm
      have hm : m = JN S := by omega
      refine sX9_broken_8 ?_
      rw [s_5 c1, r_5_7 c1, s_311 c1, W1.2.2.2.2.1, hm]
      exact ⟨rfl, by first | decide | exact vp_nI (j := 0) (by decide) (by decide) | exact vp_nI (j := 1) (by decide) (by decide), rfl, fun _ => KK, fun z => absurd (by rw [ti_le]; omega) z⟩
    | succ d ih =>
      intro m hm
      have nx := ih (m + 1) (by omega)
      rw [brk_s] at nx
      refine sX9_broken_8 ?_
      rw [s_5 c1, r_5_7 c1, s_311 c1, W1.2.2.2.2.1]
      refine ⟨rfl, by first | decide | exact vp_nI (j := 0) (by decide) (by decide) | exact vp_nI (j := 1) (by decide) (by decide), rfl, fun z => ?_, fun _ => sp_breaksTerm c1 T1.1 D1 W1.2.2.2.2.2 (by omega) ?_⟩
      · rw [ti_le, nI_toInt (by omega), nI_toInt (by omega)] at z; omega
      · rw [nI_1, nI_1]
        refine ⟨fun z => ?_, fun z => ?_⟩
        · rw [b01_eq] at z
          rw [z] at nx; exact nx
        · rw [b01_ne] at z
          rw [z] at nx; exact nx
  exact lp (JN S) 0 (by omega)
theorem sp_brokenM (c : Lay L h) (T : lyM h S) (D : shareM h (bNk (S.1 0)) (bNk (S.1 1)) S.2.2.2 tm) (K : ∀ h', Cg bsD h h' → Q (nI (brk S tm (JN S))) h') : AC w mX10_broken 0 0 (rI Q) [.ref 347] h := by
  have n0 := T.1.1.1.1
  have n1 := T.1.2.1.1
  have k0 := T.1.1.1.2.1
  have k1 := T.1.2.1.2.1
  have hJ := JN_le (S := S) n0 n1
  refine eX10_broken (sX10_broken_0 ⟨by rw [s_347 c], sp_best c T D (fun h1 g W1 => ⟨fun z => ?_, fun z => ?_⟩)⟩)
  · have c1 : Lay L h1 := g.lay c (fun id j q => by unfold bsD at q; omega)
    have T1 : lyM h1 S := T.cg g (fun id j q => by unfold bsD at q; omega)
    have D1 : shareM h1 (bNk (S.1 0)) (bNk (S.1 1)) S.2.2.2 tm := D.cg g (fun id j q => by unfold bsD at q; omega)
    have KK := K h1 g
    have one : ∀ (m a : Nat), m < JN S → AW w mX10_broken 0 0 (rI Q) 0 0 13 [some (.ref 347), some (.int (nI (a + (if brB S tm (JK S m) (JL S m) (JR S m) = true then 1 else 0)))), some (.int (nI (m + 1))), none, none, none, none, none] [] h1 → AW w mX10_broken 0 0 (rI Q) 0 0 39 [some (.ref 347), some (.int (nI a)), some (.int (nI m)), some (.int (nI (JK S m))), some (.int 0), some (.int (nI (JL S m))), none, none] [] h1 := by
      intro m a hm Kc
      obtain ⟨j1, j2, j3⟩ := W1.2.2.2 m hm
      obtain ⟨o1, o2, o3, o4⟩ := JN_ok (S := S) n0 n1 hm
      have l2 := lS_le (JK S m)
      have r2 := rS_le (JK S m)
      have v : vp_in (nI m) 40 := vp_nI (by omega) (by decide)
      have r0 : rS (JK S m) = 0 → JK S m = 1 := k7 (P := fun k => rS k = 0 → k = 1) (by decide) (by decide) (by decide) (by decide) (by decide) (by decide) (by decide) o1
      have fin : ∀ b : Bool, b = brB S tm (JK S m) (JL S m) (JR S m) → AW w mX10_broken 0 0 (rI Q) 0 0 142 [some (.ref 347), some (.int (nI a)), some (.int (nI m)), none, some (.int (b01 b)), none, none, none] [] h1 := fun b hb => by
        rw [← hb] at Kc
        refine sX10_broken_142 ?_
        rw [nI_a0, nI_1, nI_1]
        refine ⟨fun y => ?_, fun y => ?_⟩
        · rw [b01_eq] at y
          rw [y] at Kc; exact Kc
        · rw [b01_ne] at y
          rw [y] at Kc; exact Kc
      by_cases q12 : JK S m = 1 ∨ JK S m = 2
      · have eb : brB S tm (JK S m) (JL S m) (JR S m) = false := by unfold brB; rw [decide_eq_true q12]; rfl
        refine sX10_broken_39 ?_
        rw [s_347 c1, r_347_43 c1, s_374 c1, cl_nI (by omega), j2]
        refine ⟨rfl, by first | decide | exact vp_nI (j := 0) (by decide) (by decide) | exact vp_nI (j := 1) (by decide) (by decide), rfl, v, sp_leftOf o1 ⟨fun _ => fin false eb.symm, fun y => sp_rightOf o1 ⟨fun _ => fin false eb.symm, fun y2 => ?_⟩⟩⟩
        rcases q12 with e | e
        · rw [e] at y2; exact absurd (by decide) y2
        · rw [e, nI_add, ti_le] at y
          exact absurd (by show (nI (JL S m + 0)).toInt ≤ _; rw [Nat.add_zero]; omega) y
      · have eb : brB S tm (JK S m) (JL S m) (JR S m) = anyN (fun s => snB S tm (JR S m) (rS (JK S m)) s) (JL S m) (lS (JK S m)) := by unfold brB; rw [decide_eq_false q12]; rfl
        have hr : 0 < rS (JK S m) := by
          rcases Nat.eq_zero_or_pos (rS (JK S m)) with y | y
          · exact absurd (Or.inl (r0 y)) q12
          · exact y
        have inn : ∀ (s : Nat) (v0 : Bool), s < bNs (S.1 0) → AW w mX10_broken 0 0 (rI Q) 0 0 39 [some (.ref 347), some (.int (nI a)), some (.int (nI m)), some (.int (nI (JK S m))), some (.int (b01 (v0 || snB S tm (JR S m) (rS (JK S m)) s))), some (.int (nI (s + 1))), none, none] [] h1 →
            ∀ (d k : Nat), k + d = bWc (S.1 0) s → AW w mX10_broken 0 0 (rI Q) 0 0 65 [some (.ref 347), some (.int (nI a)), some (.int (nI m)), some (.int (nI (JK S m))), some (.int (b01 (v0 || anyN (fun x => wdB S tm (JR S m) (rS (JK S m)) s x) 0 k))), some (.int (nI s)), some (.int (nI k)), none] [] h1 := by
          intro s v0 hs Ks d
          have hw := T1.1.1.1.2.2.2.1 s hs
          have hv1 : hI h1 352 s = nI (bWc (S.1 0) s) := by have := (T1.1.1.2.2.2.2.1 s hs).1; rw [show 20 * 0 + s = s by omega] at this; exact this
          induction d with
          | zero =>
            intro k hk
            have hk : k = bWc (S.1 0) s := by omega
            subst hk
            refine sX10_broken_65 ?_
            rw [s_347 c1, r_347_6 c1, s_352 c1, cl_nI (by omega), hv1, nI_1]
            exact ⟨rfl, by first | decide | exact vp_nI (j := 0) (by decide) (by decide) | exact vp_nI (j := 1) (by decide) (by decide), rfl, vp_nI (by omega) (by decide), fun _ => Ks, fun y => absurd (by rw [ti_le]; omega) y⟩
          | succ d ih =>
            intro k hk
            have hk40 := hw.2.2.2 k (by omega)
            have nx := ih (k + 1) (by omega)
            have en : (v0 || anyN (fun x => wdB S tm (JR S m) (rS (JK S m)) s x) 0 (k + 1)) = ((v0 || anyN (fun x => wdB S tm (JR S m) (rS (JK S m)) s x) 0 k) || wdB S tm (JR S m) (rS (JK S m)) s k) := by
              show (v0 || (anyN _ 0 k || wdB S tm (JR S m) (rS (JK S m)) s (0 + k))) = _
              rw [Nat.zero_add, Bool.or_assoc]
            rw [en] at nx
            generalize (v0 || anyN (fun x => wdB S tm (JR S m) (rS (JK S m)) s x) 0 k) = u at nx
            have tv := (D1.2 _ hk40).1
            refine sX10_broken_65 ?_
            rw [s_347 c1, r_347_6 c1, s_352 c1, cl_nI (by omega), hv1, r_347_17 c1, nI_1 k]
            refine ⟨rfl, by first | decide | exact vp_nI (j := 0) (by decide) (by decide) | exact vp_nI (j := 1) (by decide) (by decide), rfl, vp_nI (by omega) (by decide), fun y => ?_, fun _ => ⟨by first | decide | exact vp_nI (j := 0) (by decide) (by decide) | exact vp_nI (j := 1) (by decide) (by decide), sp_kindOf (b := 0) c1 (by decide) T1.1.1 hs (by omega) ?_⟩⟩
            · rw [ti_le, nI_toInt (by omega), nI_toInt (by omega)] at y; omega
            rw [s_361 c1, cl_nI (by omega), tv]
            refine ⟨rfl, vp_nI (by omega) (by decide), fun y => ?_, fun y => ⟨fun x => ?_, fun x => ?_⟩⟩
            · rw [b01_ne] at y
              rw [y, Bool.true_or] at nx; exact nx
            · rw [b01_eq] at y
              have e : tm (bWd (S.1 0) s k) = -1 := by
                rcases (D1.1.2.2 _ hk40).1 with q | ⟨t, ht, q⟩
                · exact q
                · rw [q, ti_lt, t_0, nI_toInt (by omega)] at x; omega
              rw [y, Bool.false_or, wdB_n e] at nx; exact nx
            · rw [b01_eq] at y
              rcases (D1.1.2.2 _ hk40).1 with q | ⟨t, ht, q⟩
              · rw [q] at x; exact absurd (by decide) x
              · rw [y, Bool.false_or, wdB_s q (by omega)] at nx
                rw [s_347 c1, r_347_44 c1, s_375 c1, cl_nI (by omega), j3, q]
                refine ⟨rfl, by first | decide | exact vp_nI (j := 0) (by decide) (by decide) | exact vp_nI (j := 1) (by decide) (by decide), rfl, v, sp_rightOf o1 ⟨by rw [s_347 c1], sp_hasWord (b := 1) c1 (by decide) T1.1.2 o3 (by omega) ⟨fun p => ?_, fun p => ?_⟩⟩⟩
                · rw [b01_ne] at p
                  rw [p] at nx; exact nx
                · rw [b01_eq] at p
                  rw [p] at nx; exact nx
        have lp : ∀ (d u : Nat), u + d = lS (JK S m) → AW w mX10_broken 0 0 (rI Q) 0 0 39 [some (.ref 347), some (.int (nI a)), some (.int (nI m)), some (.int (nI (JK S m))), some (.int (b01 (anyN (fun s => snB S tm (JR S m) (rS (JK S m)) s) (JL S m) u))), some (.int (nI (JL S m + u))), none, none] [] h1 := by
          intro d
          induction d with
          | zero =>
            intro u hu
            have hu : u = lS (JK S m) := by omega
            refine sX10_broken_39 ?_
            rw [s_347 c1, r_347_43 c1, s_374 c1, cl_nI (by omega), j2]
            refine ⟨rfl, by first | decide | exact vp_nI (j := 0) (by decide) (by decide) | exact vp_nI (j := 1) (by decide) (by decide), rfl, v, sp_leftOf o1 ⟨fun _ => fin _ (by rw [hu]; exact eb.symm), fun y => absurd ?_ y⟩⟩
            rw [nI_add, hu, ti_le]; omega
          | succ d ih =>
            intro u hu
            refine sX10_broken_39 ?_
            rw [s_347 c1, r_347_43 c1, s_374 c1, cl_nI (by omega), j2]
            refine ⟨rfl, by first | decide | exact vp_nI (j := 0) (by decide) (by decide) | exact vp_nI (j := 1) (by decide) (by decide), rfl, v, sp_leftOf o1 ⟨fun y => ?_, fun _ => sp_rightOf o1 ⟨fun y => ?_, fun _ => ?_⟩⟩⟩
            · rw [nI_add, ti_le, nI_toInt (by omega), nI_toInt (by omega)] at y; omega
            · rw [ti_le, t_0, nI_toInt (by omega)] at y; omega
            · have := inn (JL S m + u) (anyN (fun s => snB S tm (JR S m) (rS (JK S m)) s) (JL S m) u) (by omega) (ih (u + 1) (by omega)) (bWc (S.1 0) (JL S m + u)) 0 (by omega)
              rw [show (anyN (fun s => snB S tm (JR S m) (rS (JK S m)) s) (JL S m) u || anyN (fun x => wdB S tm (JR S m) (rS (JK S m)) (JL S m + u) x) 0 0) = anyN (fun s => snB S tm (JR S m) (rS (JK S m)) s) (JL S m) u from Bool.or_false _] at this
              exact this
        exact lp (lS (JK S m)) 0 (by omega)
    have lp : ∀ (d m : Nat), m + d = JN S → AW w mX10_broken 0 0 (rI Q) 0 0 13 [some (.ref 347), some (.int (nI (brk S tm m))), some (.int (nI m)), none, none, none, none, none] [] h1 := by
      intro d
      induction d with
      | zero =>
        intro m hm
        have hm : m = JN S := by omega
        refine sX10_broken_13 ?_
        rw [s_347 c1, W1.2.2.1, hm]
        exact ⟨rfl, fun _ => KK, fun y => absurd (by rw [ti_le]; omega) y⟩
      | succ d ih =>
        intro m hm
        have nx := ih (m + 1) (by omega)
        rw [brk_s] at nx
        have hmJ : m < JN S := by omega
        obtain ⟨j1, j2, j3⟩ := W1.2.2.2 m hmJ
        have v : vp_in (nI m) 40 := vp_nI (by omega) (by decide)
        refine sX10_broken_13 ?_
        rw [s_347 c1, W1.2.2.1, r_347_42 c1, s_373 c1, r_347_43 c1, s_374 c1, cl_nI (by omega), j1, j2]
        refine ⟨rfl, fun y => ?_, fun _ => ⟨by first | decide | exact vp_nI (j := 0) (by decide) (by decide) | exact vp_nI (j := 1) (by decide) (by decide), rfl, v, by first | decide | exact vp_nI (j := 0) (by decide) (by decide) | exact vp_nI (j := 1) (by decide) (by decide), rfl, v, one m (brk S tm m) hmJ nx⟩⟩
        rw [ti_le, nI_toInt (by omega), nI_toInt (by omega)] at y; omega
    exact lp (JN S) 0 (by omega)
  · rw [b01_eq] at z
    have ej : JN S = 0 := if_neg (of_decide_eq_false z)
    exact Qto (K h1 g) (by rw [ej]; rfl)
end BRC
