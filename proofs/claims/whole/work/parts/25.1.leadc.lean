/-! ===== links, the class: gathering, leading ===== -/
def lkC (h : Hp) (nl nr : Nat) (lk rk : Nat → Nat) : Prop := (nl ≤ 20 ∧ nr ≤ 20) ∧ hI h 323 5 = nI nl ∧ hI h 323 6 = nI nr ∧ (∀ x, x < nl → hI h 324 x = nI (lk x)) ∧ ∀ y, y < nr → hI h 325 y = nI (rk y)
theorem lkC.cg {D : Nat → Nat → Prop} {h h' : Hp} {nl nr : Nat} {lk rk : Nat → Nat} (T : lkC h nl nr lk rk) (g : Cg D h h') (hd : ∀ id j, D id j → id ≠ 323 ∧ id ≠ 324 ∧ id ≠ 325) : lkC h' nl nr lk rk :=
  ⟨T.1, by rw [g.i (fun q => (hd _ _ q).1 rfl)]; exact T.2.1, by rw [g.i (fun q => (hd _ _ q).1 rfl)]; exact T.2.2.1, fun x hx => by rw [g.i (fun q => (hd _ _ q).2.1 rfl)]; exact T.2.2.2.1 x hx, fun y hy => by rw [g.i (fun q => (hd _ _ q).2.2 rfl)]; exact T.2.2.2.2 y hy⟩
section LA
variable {w : Wd} {L : Nat} {h : Hp} {o : Nat → Nat} {B : Bk} {b : Nat} {nl nr n0 n1 : Nat} {lk rk : Nat → Nat} {sh : Sh} {tm : Nat → Int32}
theorem sp_gatherSide {Q : Int32 → Hp → Prop} {f n a3 : Nat} (c : Lay L h) (hb : isBk b) (D : bookC h b B) (hf : f + n ≤ bNs B) (hn : n ≤ 2) (ha : a3 = 324 ∨ a3 = 325) (K : ∀ h', Cg (fun id _ => id = a3) h h' → (∀ x, x < sm (bWc B) f n → hI h' a3 x = nI (gW B f n x)) → Q (nI (sm (bWc B) f n)) h') : AC w mX2_gatherSide 0 0 (rI Q) [.ref b, .int (nI f), .int (nI n), .ref a3] h := by
  have hB := D.1.1
  have bb := isBk_223 hb
  have sa : ∀ {h' : Hp}, Lay L h' → hs h' a3 = (1, 20) := fun c' => by rcases ha with e | e <;> subst e <;> first | exact s_324 c' | exact s_325 c'
  have tot := gN_le D.1 hf hn
  have inn : ∀ (k : Nat), k < n → (∀ h', Cg (fun id _ => id = a3) h h' → (∀ x, x < sm (bWc B) f (k + 1) → hI h' a3 x = nI (gW B f (k + 1) x)) → AW w mX2_gatherSide 0 0 (rI Q) 0 0 6 [some (.ref b), some (.int (nI f)), some (.int (nI n)), some (.ref a3), some (.int (nI (sm (bWc B) f (k + 1)))), some (.int (nI (f + k + 1))), none] [] h') →
      ∀ (d i : Nat) (h' : Hp), i + d = bWc B (f + k) → Cg (fun id _ => id = a3) h h' → (∀ x, x < sm (bWc B) f k + i → hI h' a3 x = nI (gW B f (k + 1) x)) → AW w mX2_gatherSide 0 0 (rI Q) 0 0 17 [some (.ref b), some (.int (nI f)), some (.int (nI n)), some (.ref a3), some (.int (nI (sm (bWc B) f k + i))), some (.int (nI (f + k))), some (.int (nI i))] [] h' := by
    intro k hk Kc d
    have hs : f + k < bNs B := by omega
    have hw := D.1.2.2.2.1 (f + k) hs
    have le1 : sm (bWc B) f (k + 1) ≤ sm (bWc B) f n := by
      have key : ∀ m, k + 1 + m ≤ n → sm (bWc B) f (k + 1) ≤ sm (bWc B) f (k + 1 + m) := fun m => by
        induction m with
        | zero => intro _; exact Nat.le_refl _
        | succ m ih => intro hm; exact Nat.le_trans (ih (by omega)) (Nat.le_add_right _ _)
      have := key (n - (k + 1)) (by omega)
      rw [show k + 1 + (n - (k + 1)) = n by omega] at this
      exact this
    have es : sm (bWc B) f (k + 1) = sm (bWc B) f k + bWc B (f + k) := rfl
    induction d with
    | zero =>
      intro i h' hi g e
      have hi : i = bWc B (f + k) := by omega
      have c' : Lay L h' := g.lay c (fun id j q => by omega)
      have D' : bookC h' b B := D.chg (fun id h1 h2 i => g.i (by omega))
      have hv := D'.2.2.2.2.1 (f + k) hs
      rw [hi] at e ⊢
      have KK := Kc h' g e
      refine sX2_gatherSide_17 ?_
      rw [sb_this c' hb, show hR h' b 2 = b + 65 from rb_0_2 c' hb, sb_65 c' hb, cl_nI (by omega), hv.1, nI_1]
      exact ⟨rfl, by omega, rfl, vp_nI (by omega) (by decide), fun _ => KK, fun z => absurd (by rw [ti_le]; omega) z⟩
    | succ d ih =>
      intro i h' hi g e
      have c' : Lay L h' := g.lay c (fun id j q => by omega)
      have D' : bookC h' b B := D.chg (fun id h1 h2 i => g.i (by omega))
      have hv := D'.2.2.2.2.1 (f + k) hs
      have hd := hv.2.2 i (by omega)
      have nx := ih (i + 1) (sI h' a3 (sm (bWc B) f k + i) (nI (bWd B (f + k) i))) (by omega) (g.sI rfl) (fun x hx => by
        by_cases q : x = sm (bWc B) f k + i
        · subst q
          rw [hI_eq]
          show _ = nI (if sm (bWc B) f k + i < sm (bWc B) f k then _ else bWd B (f + k) (sm (bWc B) f k + i - sm (bWc B) f k))
          rw [if_neg (by omega), Nat.add_sub_cancel_left]
        · rw [hI_ne (Or.inr q)]; exact e x (by omega))
      refine sX2_gatherSide_17 ?_
      rw [sb_this c' hb, show hR h' b 2 = b + 65 from rb_0_2 c' hb, sb_65 c' hb, cl_nI (show f + k < 2147483648 by omega), hv.1, show hR h' b 1 = b + 44 from rb_0_1 c' hb, sb_44 c' hb, rb_wd c' hb (by omega), sb_wd c' hb (by omega), cl_nI (show i < 2147483648 by omega), hd, sa c', cl_nI (show sm (bWc B) f k + i < 2147483648 by omega), nI_1 (sm (bWc B) f k + i), nI_1 i]
      refine ⟨rfl, by omega, rfl, vp_nI (by omega) (by decide), fun z => ?_, fun _ => ⟨fun z => ?_, fun _ => ⟨by omega, rfl, vp_nI (by omega) (by decide), by omega, rfl, vp_nI (by omega) (by decide), rfl, vp_nI (by omega) (by decide), fun h2 e2 => by rw [e2]; exact nx⟩⟩⟩
      · rw [ti_le, nI_toInt (by omega), nI_toInt (by omega)] at z; omega
      · rw [ti_le, t_20, nI_toInt (by omega)] at z; omega
  have lp : ∀ (d k : Nat) (h' : Hp), k + d = n → Cg (fun id _ => id = a3) h h' → (∀ x, x < sm (bWc B) f k → hI h' a3 x = nI (gW B f k x)) → AW w mX2_gatherSide 0 0 (rI Q) 0 0 6 [some (.ref b), some (.int (nI f)), some (.int (nI n)), some (.ref a3), some (.int (nI (sm (bWc B) f k))), some (.int (nI (f + k))), none] [] h' := by
    intro d
    induction d with
    | zero =>
      intro k h' hk g e
      have hk : k = n := by omega
      subst hk
      exact sX2_gatherSide_6 ⟨fun _ => K h' g e, fun z => absurd (by rw [nI_add, ti_le]; omega) z⟩
    | succ d ih =>
      intro k h' hk g e
      refine sX2_gatherSide_6 ⟨fun z => ?_, fun _ => inn k (by omega) (fun h2 g2 e2 => ih (k + 1) h2 (by omega) g2 e2) (bWc B (f + k)) 0 h' (by omega) g (fun x hx => ?_)⟩
      · rw [nI_add, ti_le, nI_toInt (by omega), nI_toInt (by omega)] at z; omega
      · rw [e x (by omega)]
        show _ = nI (if x < sm (bWc B) f k then gW B f k x else _)
        rw [if_pos (by omega)]
  exact eX2_gatherSide (sX2_gatherSide_0 (lp n 0 h (by omega) (Cg.rfl' h) (fun x hx => absurd hx (Nat.not_lt_zero x))))
noncomputable abbrev LN (S : Ly) (m : Nat) : Nat := sm (bWc (S.1 0)) (JL S m) (lS (JK S m))
noncomputable abbrev RN (S : Ly) (m : Nat) : Nat := sm (bWc (S.1 1)) (JR S m) (rS (JK S m))
noncomputable abbrev LK (S : Ly) (m x : Nat) : Nat := gW (S.1 0) (JL S m) (lS (JK S m)) x
noncomputable abbrev RK (S : Ly) (m x : Nat) : Nat := gW (S.1 1) (JR S m) (rS (JK S m)) x
variable {S : Ly}
theorem sp_gatherC {Q : Hp → Prop} {m : Nat} (c : Lay L h) (Bk2 : booksC h o S.1) (J : jsC h S) (hm : m < JN S) (K : ∀ h', Cg (fun id j => id = 324 ∨ id = 325 ∨ (id = 323 ∧ (j = 5 ∨ j = 6))) h h' → lkC h' (LN S m) (RN S m) (LK S m) (RK S m) → Q h') : AC w mX2_gather 0 0 (rV Q) [.ref 323, .int (nI m)] h := by
  have n0 := Bk2.2.1.1.1
  have n1 := Bk2.2.2.1.1
  have hJ := JN_le (S := S) n0 n1
  obtain ⟨j1, j2, j3, -⟩ := J m hm
  obtain ⟨o1, o2, o3, o4⟩ := JN_ok (S := S) n0 n1 hm
  have l2 := lS_le (JK S m)
  have r2 := rS_le (JK S m)
  have v : vp_in (nI m) 40 := vp_nI (by omega) (by decide)
  have v7 : vp_in (nI (JK S m)) 7 := vp_nI (by omega) (by decide)
  have hb0 := Bk2.1.2.1
  have hb1 := Bk2.1.2.2.1
  have b0 := isBk_223 hb0
  have b1 := isBk_223 hb1
  have e0 : hR h 19 0 = o 0 := Bk2.1.1.1
  refine eX2_gather (sX2_gather_0 ?_)
  rw [s_323 c, r_323_1 c, s_311 c, r_311_13 c, s_319 c, r_323_0 c, s_19 c, e0c, e0, r_311_14 c, s_320 c, s_1 c, r_323_3 c, cl_nI (show m < 2147483648 by omega), j1, j2, cl_nI (show JK S m < 2147483648 by omega), l_1 c o1]
  refine ⟨rfl, by first | decide | exact vp_nI (j := 0) (by decide) (by decide) | exact vp_nI (j := 1) (by decide) (by decide), rfl, by first | decide | exact vp_nI (j := 0) (by decide) (by decide) | exact vp_nI (j := 1) (by decide) (by decide), rfl, v, by first | decide | exact vp_nI (j := 0) (by decide) (by decide) | exact vp_nI (j := 1) (by decide) (by decide), rfl, by first | decide | exact vp_nI (j := 0) (by decide) (by decide) | exact vp_nI (j := 1) (by decide) (by decide), by omega, by first | decide | exact vp_nI (j := 0) (by decide) (by decide) | exact vp_nI (j := 1) (by decide) (by decide), rfl, v, rfl, v7, by first | decide | exact vp_nI (j := 0) (by decide) (by decide) | exact vp_nI (j := 1) (by decide) (by decide), sp_gatherSide c hb0 Bk2.2.1 o2 l2 (Or.inl rfl) (fun h1 g1 q1 => ?_)⟩
  have c1 : Lay L h1 := g1.lay c (fun id j q => by omega)
  have g2 : Cg (fun id j => id = 324 ∨ id = 325 ∨ (id = 323 ∧ (j = 5 ∨ j = 6))) h (sI h1 323 5 (nI (LN S m))) := (g1.mono (fun id j q => by omega)).sI (by omega)
  have c2 : Lay L (sI h1 323 5 (nI (LN S m))) := c1.sI (by decide)
  have B2 : booksC (sI h1 323 5 (nI (LN S m))) o S.1 := Bk2.cg g2 (fun id j q => by omega)
  have e1 : hR h1 19 1 = o 1 := by rw [g1.2.2.1]; exact Bk2.1.1.2
  have j3' : hI (sI h1 323 5 (nI (LN S m))) 321 m = nI (JR S m) := by rw [g2.i (by omega)]; exact j3
  rw [s_323 c1, r_323_0 c1, s_19 c1, e1c, e1, r_323_1 c1, s_311 c1, r_311_15 c1, s_321 c1, s_2 c1, r_323_4 c1]
  refine ⟨rfl, fun h2 e2 => ⟨by first | decide | exact vp_nI (j := 0) (by decide) (by decide) | exact vp_nI (j := 1) (by decide) (by decide), rfl, by first | decide | exact vp_nI (j := 0) (by decide) (by decide) | exact vp_nI (j := 1) (by decide) (by decide), by omega, by first | decide | exact vp_nI (j := 0) (by decide) (by decide) | exact vp_nI (j := 1) (by decide) (by decide), rfl, by first | decide | exact vp_nI (j := 0) (by decide) (by decide) | exact vp_nI (j := 1) (by decide) (by decide), rfl, v, rfl, v7, by first | decide | exact vp_nI (j := 0) (by decide) (by decide) | exact vp_nI (j := 1) (by decide) (by decide), ?_⟩⟩
  subst e2
  rw [j3', l_2 c2 o1]
  refine sp_gatherSide c2 hb1 B2.2.2 o3 r2 (Or.inr rfl) (fun h3 g3 q3 => ?_)
  have c3 : Lay L h3 := g3.lay c2 (fun id j q => by omega)
  refine ⟨by rw [s_323 c3], fun h4 e4 => ?_⟩
  subst e4
  refine K _ ((g2.trans (g3.mono (fun id j q => by omega))).sI (by omega)) ⟨⟨gN_le Bk2.2.1.1 o2 l2, gN_le Bk2.2.2.1 o3 r2⟩, ?_, hI_eq, fun x hx => ?_, fun y hy => ?_⟩
  · rw [hI_ne (Or.inr (by decide)), g3.i (by omega), hI_eq]
  · rw [hI_ne (Or.inl (by decide)), g3.i (by omega), hI_ne (Or.inl (by decide))]; exact q1 x hx
  · rw [hI_ne (Or.inl (by decide))]; exact q3 y hy
theorem sp_hasLeft {Q : Int32 → Hp → Prop} {x : Int32} (c : Lay L h) (T : lkC h nl nr lk rk) (K : Q (b01 (inR x nl)) h) : AC w mX2_hasLeft 0 0 (rI Q) [.ref 323, .int x] h := by
  have h20 := T.1.1
  refine eX2_hasLeft (sX2_hasLeft_0 ?_)
  rw [s_323 c, T.2.1]
  refine ⟨fun z => Qto K (b0 (inR_f ?_)), fun z => ⟨rfl, fun y => Qto K (b0 (inR_f ?_)), fun y => Qto K (b1 (inR_t ?_ ?_))⟩⟩
  · rw [ti_lt, t_0] at z; omega
  · rw [ti_le, nI_toInt (by omega)] at y; omega
  · rw [ti_lt, t_0] at z; omega
  · rw [ti_le, nI_toInt (by omega)] at y; omega
theorem sp_hasRight {Q : Int32 → Hp → Prop} {x : Int32} (c : Lay L h) (T : lkC h nl nr lk rk) (K : Q (b01 (inR x nr)) h) : AC w mX2_hasRight 0 0 (rI Q) [.ref 323, .int x] h := by
  have h20 := T.1.2
  refine eX2_hasRight (sX2_hasRight_0 ?_)
  rw [s_323 c, T.2.2.1]
  refine ⟨fun z => Qto K (b0 (inR_f ?_)), fun z => ⟨rfl, fun y => Qto K (b0 (inR_f ?_)), fun y => Qto K (b1 (inR_t ?_ ?_))⟩⟩
  · rw [ti_lt, t_0] at z; omega
  · rw [ti_le, nI_toInt (by omega)] at y; omega
  · rw [ti_lt, t_0] at z; omega
  · rw [ti_le, nI_toInt (by omega)] at y; omega
theorem sp_isNearer {Q : Int32 → Hp → Prop} {a b d : Nat} (ha : a < 1000) (hb : b < 1000) (hd : d < 1000) (K1 : dN a b < dN a d → Q 1 h) (K0 : ¬ dN a b < dN a d → Q 0 h) : AC w mX2_isNearer 0 0 (rI Q) [.int (nI a), .int (nI b), .int (nI d)] h := by
  refine eX2_isNearer (sX2_isNearer_0 ?_)
  rw [nI_abs (by omega) (by omega), nI_abs (by omega) (by omega)]
  unfold dN at K1 K0
  refine ⟨fun z => K0 ?_, fun z => K1 ?_⟩
  · rw [ti_le, nI_toInt (by omega), nI_toInt (by omega)] at z; omega
  · rw [ti_le, nI_toInt (by omega), nI_toInt (by omega)] at z; omega
/-- one step of leading -/
theorem cL_step {f d : Nat → Nat} {z k M : Nat} {P : Int32 → Int32 → Prop} (hk : k < 1000) (hM : (cL f d z k).2 < 2147483648) (hf : f k < 2147483648) (N : P (oI (cL f d z (k + 1)).1) (nI (cL f d z (k + 1)).2)) :
    (nI (cL f d z k).2 < nI (f k) → P (nI k) (nI (f k))) ∧ (¬ nI (cL f d z k).2 < nI (f k) → (oI (cL f d z k).1 = -1 → P (oI (cL f d z k).1) (nI (cL f d z k).2)) ∧ (¬ oI (cL f d z k).1 = -1 → (¬ nI (f k) = nI (cL f d z k).2 → P (oI (cL f d z k).1) (nI (cL f d z k).2)) ∧ (nI (f k) = nI (cL f d z k).2 → ∃ b, b < k ∧ oI (cL f d z k).1 = nI b ∧ (¬ d k < d b → P (oI (cL f d z k).1) (nI (cL f d z k).2)) ∧ (d k < d b → P (nI k) (nI (f k)))))) := by
  rw [cL_s] at N
  refine ⟨fun q => ?_, fun q => ?_⟩
  · rw [ti_lt, nI_toInt (by omega), nI_toInt (by omega)] at q
    rw [if_pos (by omega)] at N; exact N
  · rw [ti_lt, nI_toInt (by omega), nI_toInt (by omega)] at q
    rw [if_neg (by omega)] at N
    cases e : (cL f d z k).1 with
    | none =>
      rw [e] at N
      refine ⟨fun _ => ?_, fun y => absurd rfl y⟩
      have N : P (oI (cL f d z k).1) (nI (cL f d z k).2) := N
      rw [e] at N; exact N
    | some b =>
      have hb := cL_lt e
      rw [e] at N
      have N : P (oI (if f k = (cL f d z k).2 ∧ d k < d b then (some k, f k) else cL f d z k).1) (nI (if f k = (cL f d z k).2 ∧ d k < d b then (some k, f k) else cL f d z k).2) := N
      refine ⟨fun y => absurd y (nI_m1 (show b < 2147483648 by omega)), fun _ => ⟨fun y => ?_, fun y => ⟨b, hb, rfl, fun x => ?_, fun x => ?_⟩⟩⟩
      · rw [nI_inj (by omega) (by omega)] at y
        rw [if_neg (fun u => y u.1), e] at N; exact N
      · rw [if_neg (fun u => x u.2), e] at N; exact N
      · rw [nI_inj (by omega) (by omega)] at y
        rw [if_pos ⟨y, x⟩] at N; exact N
def prN (sh : Sh) (lk rk : Nat → Nat) (x y : Nat) : Nat := sN sh (lk x) (rk y)
def tRf (sh : Sh) (lk rk : Nat → Nat) (nr x : Nat) : Option Nat := ldF (fun y => prN sh lk rk x y) (fun y => dN x y) (sN sh (lk x) 40) nr
def tLf (sh : Sh) (lk rk : Nat → Nat) (nl y : Nat) : Option Nat := ldF (fun x => prN sh lk rk x y) (fun x => dN y x) 0 nl
theorem sp_leadLeft {Q : Int32 → Hp → Prop} {x : Nat} (c : Lay L h) (D : shareC h n0 n1 sh tm) (T : lkC h nl nr lk rk) (hl : ∀ x, x < nl → lk x < n0) (hr : ∀ y, y < nr → rk y < n1) (hx : x < nl) (K : Q (oI (tRf sh lk rk nr x)) h) : AC w mX2_leadFromLeft 0 0 (rI Q) [.ref 323, .int (nI x)] h := by
  have h0 := D.1.1
  have h1 := D.1.2.1
  have t1 := T.1.1
  have t2 := T.1.2
  have ha := hl x hx
  have z20 := (okS_sN D.1 ha (Or.inr rfl)).2
  have lp : ∀ (d k : Nat), k + d = nr → (cL (fun y => prN sh lk rk x y) (fun y => dN x y) (sN sh (lk x) 40) k).2 < 2147483648 → AW w mX2_leadFromLeft 0 0 (rI Q) 0 0 23 [some (.ref 323), some (.int (nI x)), some (.int (oI (cL (fun y => prN sh lk rk x y) (fun y => dN x y) (sN sh (lk x) 40) k).1)), some (.int (nI (cL (fun y => prN sh lk rk x y) (fun y => dN x y) (sN sh (lk x) 40) k).2)), some (.int (nI k)), none] [] h := by
    intro d
    induction d with
    | zero =>
      intro k hk hM
      have hk : k = nr := by omega
      subst hk
      refine sX2_leadFromLeft_23 ?_
      rw [s_323 c, T.2.2.1]
      exact ⟨rfl, fun _ => K, fun z => absurd (by rw [ti_le]; omega) z⟩
    | succ d ih =>
      intro k hk hM
      have hb := hr k (by omega)
      have hv := shareC_at D ha (Or.inl hb)
      have hf : prN sh lk rk x k ≤ 1048576 := (okS_sN D.1 ha (Or.inl hb)).2
      have nxt' : (cL (fun y => prN sh lk rk x y) (fun y => dN x y) (sN sh (lk x) 40) (k + 1)).2 < 2147483648 := by
        rw [cL_s]
        split
        · show prN sh lk rk x k < _; omega
        · split
          · exact hM
          · split
            · show prN sh lk rk x k < _; omega
            · exact hM
      have st := cL_step (f := fun y => prN sh lk rk x y) (d := fun y => dN x y) (z := sN sh (lk x) 40) (M := 0) (P := fun a e => AW w mX2_leadFromLeft 0 0 (rI Q) 0 0 23 [some (.ref 323), some (.int (nI x)), some (.int a), some (.int e), some (.int (nI (k + 1))), none] [] h) (show k < 1000 by omega) hM (by (try dsimp only); omega) (ih (k + 1) (by omega) nxt')
      generalize cL (fun y => prN sh lk rk x y) (fun y => dN x y) (sN sh (lk x) 40) k = C at st hM
      have hv' : hI h (229 + lk x) (rk k) = nI (prN sh lk rk x k) := hv
      refine sX2_leadFromLeft_23 ?_
      rw [s_323 c, T.2.2.1, r_323_2 c, s_227 c, r_227_0 c, r_323_3 c, s_324 c, cl_nI (show x < 2147483648 by omega), T.2.2.2.1 x hx, s_228 c, cl_nI (show lk x < 2147483648 by omega), r_pt c (by omega), r_323_4 c, s_325 c, cl_nI (show k < 2147483648 by omega), T.2.2.2.2 k (by omega), s_pt c (by omega), cl_nI (show rk k < 2147483648 by omega), hv', nI_1 k]
      refine ⟨rfl, fun z => ?_, fun _ => ⟨by first | decide | exact vp_nI (j := 0) (by decide) (by decide) | exact vp_nI (j := 1) (by decide) (by decide), rfl, by first | decide | exact vp_nI (j := 0) (by decide) (by decide) | exact vp_nI (j := 1) (by decide) (by decide), by first | decide | exact vp_nI (j := 0) (by decide) (by decide) | exact vp_nI (j := 1) (by decide) (by decide), rfl, vp_nI (by omega) (by decide), rfl, vp_nI (by omega) (by decide), by omega, by first | decide | exact vp_nI (j := 0) (by decide) (by decide) | exact vp_nI (j := 1) (by decide) (by decide), rfl, vp_nI (by omega) (by decide), rfl, vp_nI (by omega) (by decide), st.1, fun z1 => ⟨fun z2 => (st.2 z1).1 z2, fun z2 => ⟨fun z3 => ((st.2 z1).2 z2).1 z3, fun z3 => ?_⟩⟩⟩⟩
      · rw [ti_le, nI_toInt (by omega), nI_toInt (by omega)] at z; omega
      · obtain ⟨b, hb2, eb, p0, p1⟩ := ((st.2 z1).2 z2).2 z3
        rw [eb] at p0 ⊢
        exact sp_isNearer (by omega) (by omega) (by omega) (fun y => ⟨fun u => absurd u (by decide), fun _ => p1 y⟩) (fun y => ⟨fun _ => p0 y, fun u => absurd rfl u⟩)
  refine eX2_leadFromLeft (sX2_leadFromLeft_0 ?_)
  have hv := shareC_at D ha (Or.inr rfl)
  have st := lp nr 0 (by omega) (by show sN sh (lk x) 40 < _; omega)
  rw [s_323 c, r_323_2 c, s_227 c, r_227_0 c, r_323_3 c, s_324 c, cl_nI (show x < 2147483648 by omega), T.2.2.2.1 x hx, s_228 c, cl_nI (show lk x < 2147483648 by omega), r_pt c (by omega), s_pt c (by omega), e40c, hv]
  exact ⟨rfl, by first | decide | exact vp_nI (j := 0) (by decide) (by decide) | exact vp_nI (j := 1) (by decide) (by decide), rfl, by first | decide | exact vp_nI (j := 0) (by decide) (by decide) | exact vp_nI (j := 1) (by decide) (by decide), by first | decide | exact vp_nI (j := 0) (by decide) (by decide) | exact vp_nI (j := 1) (by decide) (by decide), rfl, vp_nI (by omega) (by decide), rfl, vp_nI (by omega) (by decide), by omega, rfl, vp_nI (j := 40) (by decide) (by decide), st⟩
theorem sp_leadRight {Q : Int32 → Hp → Prop} {y : Nat} (c : Lay L h) (D : shareC h n0 n1 sh tm) (T : lkC h nl nr lk rk) (hl : ∀ x, x < nl → lk x < n0) (hr : ∀ y, y < nr → rk y < n1) (hy : y < nr) (K : Q (oI (tLf sh lk rk nl y)) h) : AC w mX2_leadFromRight 0 0 (rI Q) [.ref 323, .int (nI y)] h := by
  have h0 := D.1.1
  have h1 := D.1.2.1
  have t1 := T.1.1
  have t2 := T.1.2
  have hb := hr y hy
  have lp : ∀ (d k : Nat), k + d = nl → (cL (fun x => prN sh lk rk x y) (fun x => dN y x) 0 k).2 < 2147483648 → AW w mX2_leadFromRight 0 0 (rI Q) 0 0 7 [some (.ref 323), some (.int (nI y)), some (.int (oI (cL (fun x => prN sh lk rk x y) (fun x => dN y x) 0 k).1)), some (.int (nI (cL (fun x => prN sh lk rk x y) (fun x => dN y x) 0 k).2)), some (.int (nI k)), none] [] h := by
    intro d
    induction d with
    | zero =>
      intro k hk hM
      have hk : k = nl := by omega
      subst hk
      refine sX2_leadFromRight_7 ?_
      rw [s_323 c, T.2.1]
      exact ⟨rfl, fun _ => K, fun z => absurd (by rw [ti_le]; omega) z⟩
    | succ d ih =>
      intro k hk hM
      have ha := hl k (by omega)
      have hv := shareC_at D ha (Or.inl hb)
      have hf : prN sh lk rk k y ≤ 1048576 := (okS_sN D.1 ha (Or.inl hb)).2
      have nxt' : (cL (fun x => prN sh lk rk x y) (fun x => dN y x) 0 (k + 1)).2 < 2147483648 := by
        rw [cL_s]
        split
        · show prN sh lk rk k y < _; omega
        · split
          · exact hM
          · split
            · show prN sh lk rk k y < _; omega
            · exact hM
      have st := cL_step (f := fun x => prN sh lk rk x y) (d := fun x => dN y x) (z := 0) (M := 0) (P := fun a e => AW w mX2_leadFromRight 0 0 (rI Q) 0 0 7 [some (.ref 323), some (.int (nI y)), some (.int a), some (.int e), some (.int (nI (k + 1))), none] [] h) (show k < 1000 by omega) hM (by (try dsimp only); omega) (ih (k + 1) (by omega) nxt')
      generalize cL (fun x => prN sh lk rk x y) (fun x => dN y x) 0 k = C at st hM
      have hv' : hI h (229 + lk k) (rk y) = nI (prN sh lk rk k y) := hv
      refine sX2_leadFromRight_7 ?_
      rw [s_323 c, T.2.1, r_323_2 c, s_227 c, r_227_0 c, r_323_3 c, s_324 c, cl_nI (show k < 2147483648 by omega), T.2.2.2.1 k (by omega), s_228 c, cl_nI (show lk k < 2147483648 by omega), r_pt c (by omega), r_323_4 c, s_325 c, cl_nI (show y < 2147483648 by omega), T.2.2.2.2 y hy, s_pt c (by omega), cl_nI (show rk y < 2147483648 by omega), hv', nI_1 k]
      refine ⟨rfl, fun z => ?_, fun _ => ⟨by first | decide | exact vp_nI (j := 0) (by decide) (by decide) | exact vp_nI (j := 1) (by decide) (by decide), rfl, by first | decide | exact vp_nI (j := 0) (by decide) (by decide) | exact vp_nI (j := 1) (by decide) (by decide), by first | decide | exact vp_nI (j := 0) (by decide) (by decide) | exact vp_nI (j := 1) (by decide) (by decide), rfl, vp_nI (by omega) (by decide), rfl, vp_nI (by omega) (by decide), by omega, by first | decide | exact vp_nI (j := 0) (by decide) (by decide) | exact vp_nI (j := 1) (by decide) (by decide), rfl, vp_nI (by omega) (by decide), rfl, vp_nI (by omega) (by decide), st.1, fun z1 => ⟨fun z2 => (st.2 z1).1 z2, fun z2 => ⟨fun z3 => ((st.2 z1).2 z2).1 z3, fun z3 => ?_⟩⟩⟩⟩
      · rw [ti_le, nI_toInt (by omega), nI_toInt (by omega)] at z; omega
      · obtain ⟨b, hb2, eb, p0, p1⟩ := ((st.2 z1).2 z2).2 z3
        rw [eb] at p0 ⊢
        exact sp_isNearer (by omega) (by omega) (by omega) (fun y => ⟨fun u => absurd u (by decide), fun _ => p1 y⟩) (fun y => ⟨fun _ => p0 y, fun u => absurd rfl u⟩)
  exact eX2_leadFromRight (sX2_leadFromRight_0 (lp nl 0 (by omega) (by show (0 : Nat) < _; omega)))
end LA
