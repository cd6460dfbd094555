/-! ===== rounds, the class ===== -/
def dlC (h : Hp) (n0 n1 : Nat) (D : Nat → Nat → Nat) : Prop := ∀ a b, a < n0 → (b < n1 ∨ b = 40) → hL h (270 + a) b = lN (D a b)
def ddD (id j : Nat) : Prop := 270 ≤ id ∧ id ≤ 309
section RC
variable {w : Wd} {L : Nat} {h : Hp} {o : Nat → Nat} {bk : Nat → Bk} {sh : Sh} {tm : Nat → Int32} {n0 n1 : Nat}
theorem sp_fillL {Q : Hp → Prop} {a N : Nat} {x : Int64} (hN : N < 2147483648) (hsa : hs h a = (5, N)) (K : ∀ h', Cg (fun id _ => id = a) h h' → (∀ j, j < N → hL h' a j = x) → Q h') : AC w mJ7_fill_d0a16 0 0 (rV Q) [.ref a, .long x] h := by
  have lp : ∀ (d i : Nat) (h' : Hp), i + d = N → Cg (fun id _ => id = a) h h' → (∀ j, j < i → hL h' a j = x) → AW w mJ7_fill_d0a16 0 0 (rV Q) 0 0 6 [some (.ref a), some (.long x), none, some (.int (nI i)), some (.int (nI N))] [] h' := by
    intro d
    induction d with
    | zero =>
      intro i h' hi g e
      refine sJ7_fill_d0a16_6 ⟨fun _ => K h' g (fun j hj => e j (by omega)), fun z => absurd ?_ z⟩
      rw [ti_le, nI_toInt (by omega), nI_toInt (by omega)]; omega
    | succ d ih =>
      intro i h' hi g e
      have hs' : hs h' a = (5, N) := by rw [g.2.1]; exact hsa
      refine sJ7_fill_d0a16_6 ⟨fun z => ?_, fun _ => ⟨by rw [hs'], by rw [hs']; exact vp_nI (by omega) hN, fun h1 e1 => ?_⟩⟩
      · rw [ti_le, nI_toInt (by omega), nI_toInt (by omega)] at z; omega
      · rw [nI_1]
        rw [cl_nI (by omega)] at e1
        subst e1
        refine ih (i + 1) _ (by omega) (g.sL rfl) (fun j hj => ?_)
        by_cases q : j = i
        · subst q; rw [hL_eq]
        · rw [hL_ne (Or.inr q)]; exact e j (by omega)
  refine eJ7_fill_d0a16 (sJ7_fill_d0a16_0 ⟨by rw [hsa], ?_⟩)
  rw [hsa]
  exact lp N 0 h (by omega) (Cg.rfl' h) (fun j hj => by omega)
theorem sp_startDealing {Q : Hp → Prop} (c : Lay L h) (T : shareC h n0 n1 sh tm) (K : ∀ h', Cg ddD h h' → dlC h' n0 n1 (fun _ _ => 0) → Q h') : AC w mX4_startDealing 0 0 (rV Q) [.ref 227] h := by
  have h0 := T.1.1
  have h1 := T.1.2.1
  have lp : ∀ (d k : Nat) (h' : Hp), k + d = n0 → Cg ddD h h' → (∀ a b, a < k → b < 41 → hL h' (270 + a) b = lN 0) → AW w mX4_startDealing 0 0 (rV Q) 0 0 2 [some (.ref 227), some (.int (nI k))] [] h' := by
    intro d
    induction d with
    | zero =>
      intro k h' hk g e
      have c' : Lay L h' := g.lay c (fun id j q => by unfold ddD at q; omega)
      have e3 : hI h' 227 3 = nI n0 := by rw [g.i (by unfold ddD; omega)]; exact T.2.1
      refine sX4_startDealing_2 ?_
      rw [s_227 c', e3]
      refine ⟨rfl, fun _ => K h' g (fun a b ha hb => e a b (by omega) (by omega)), fun z => absurd ?_ z⟩
      rw [ti_le, nI_toInt (by omega), nI_toInt (by omega)]; omega
    | succ d ih =>
      intro k h' hk g e
      have c' : Lay L h' := g.lay c (fun id j q => by unfold ddD at q; omega)
      have e3 : hI h' 227 3 = nI n0 := by rw [g.i (by unfold ddD; omega)]; exact T.2.1
      refine sX4_startDealing_2 ?_
      rw [s_227 c', e3, r_227_1 c', s_269 c', cl_nI (by omega), r_dl c' (by omega), nI_1]
      refine ⟨rfl, fun z => ?_, fun _ => ⟨by first | decide | exact vp_nI (j := 0) (by decide) (by decide) | exact vp_nI (j := 1) (by decide) (by decide), rfl, vp_nI (by omega) (by decide), by omega, sp_fillL (N := 41) (by decide) (s_dl c' (by omega)) (fun h2 g2 e2 => ?_)⟩⟩
      · rw [ti_le, nI_toInt (by omega), nI_toInt (by omega)] at z; omega
      · refine ih (k + 1) h2 (by omega) (g.trans (g2.mono (fun id j q => by unfold ddD; omega))) (fun a b ha hb => ?_)
        by_cases q : a = k
        · subst q; exact e2 b hb
        · rw [g2.l (by omega)]; exact e a b (by omega) hb
  exact eX4_startDealing (sX4_startDealing_0 (lp n0 0 h (by omega) (Cg.rfl' h) (fun a b ha => by omega)))
theorem okS_sN (o : okS n0 n1 sh tm) {a b : Nat} (ha : a < n0) (hb : b < n1 ∨ b = 40) : sh a b = nI (sN sh a b) ∧ sN sh a b ≤ 1048576 := by
  rcases hb with q | q
  · exact sN_in ((o.2.2 a ha).2.2 b q)
  · subst q; exact sN_in (o.2.2 a ha).2.1
theorem shareC_at (T : shareC h n0 n1 sh tm) {a b : Nat} (ha : a < n0) (hb : b < n1 ∨ b = 40) : hI h (229 + a) b = nI (sN sh a b) := by
  rw [← (okS_sN T.1 ha hb).1]
  rcases hb with q | q
  · exact (T.2.2.2 a ha).2.2 b q
  · subst q; exact (T.2.2.2 a ha).2.1
theorem sp_dealPart {Q : Hp → Prop} {a b t : Nat} {D : Nat → Nat → Nat} (c : Lay L h) (T : shareC h n0 n1 sh tm) (E : dlC h n0 n1 D) (ha : a < n0) (hb : b < n1 ∨ b = 40) (h0 : 0 < t) (ht : t < 4611686018427387904) (K : ∀ h', Cg ddD h h' → dlC h' n0 n1 (adP D a b (qN sh a b t)) → Q h') : AC w mX4_dealPart 0 0 (rV Q) [.ref 227, .int (nI a), .int (nI b), .long (lN t)] h := by
  have a0 := T.1.1
  have a1 := T.1.2.1
  have hp := shareC_at T ha hb
  have hn := (okS_sN T.1 ha hb).2
  have hd := E a b ha hb
  refine eX4_dealPart (sX4_dealPart_0 ?_)
  have nx : ∀ h1, h1 = sL h (270 + a) b (lN (D a b + qN sh a b t)) → Q h1 := fun h1 e1 => by
    subst e1
    refine K _ ((Cg.rfl' h).sL (by unfold ddD; omega)) (fun x y hx hy => ?_)
    unfold adP
    by_cases q : x = a ∧ y = b
    · obtain ⟨rfl, rfl⟩ := q; rw [if_pos ⟨rfl, rfl⟩, hL_eq]
    · rw [if_neg q, hL_ne (by omega)]; exact E x y hx hy
  have ev : hL h (270 + a) b + 1048576 * (hI h (229 + a) b).toInt64 / lN t = lN (D a b + qN sh a b t) := by
    rw [hd, hp, nI_l (by omega), show (1048576 : Int64) = lN 1048576 from rfl, lN_mul, lN_divB (by omega) h0 ht, lN_add]
    rfl
  have v1 : vp_in (nI a) 40 := vp_nI (by omega) (by decide)
  have v2 : vp_in (nI b) 41 := vp_nI (by omega) (by decide)
  have v3 : ¬ lN t = 0 := lN_ne0 ht h0
  rw [s_227 c, r_227_1 c, s_269 c, cl_nI (show a < 2147483648 by omega), r_dl c (by omega), s_dl c (by omega), r_227_0 c, s_228 c, r_pt c (by omega), s_pt c (by omega), cl_nI (show b < 2147483648 by omega), ev]
  exact ⟨rfl, by first | decide | exact vp_nI (j := 0) (by decide) (by decide) | exact vp_nI (j := 1) (by decide) (by decide), rfl, v1, by omega, rfl, v2, by first | decide | exact vp_nI (j := 0) (by decide) (by decide) | exact vp_nI (j := 1) (by decide) (by decide), rfl, v1, by omega, rfl, v2, v3, nx⟩
theorem totN_lt (o : okS n0 n1 sh tm) {B : Bk} (ok : okB B) (hn : bNk B = n1) {a j m : Nat} (ha : a < n0) (hj : j + m ≤ bNs B) (hm : m ≤ 2) : totN sh B a j m ≤ 22020096 := by
  have h1 := (okS_sN o ha (Or.inr rfl)).2
  have h2 : sm (fun s => sm (fun x => sN sh a (bWd B s x)) 0 (bWc B s)) j m ≤ m * 10485760 := sm_le (fun i hi => by
    have hb := ok.2.2.2.1 (j + i) (by omega)
    have : sm (fun x => sN sh a (bWd B (j + i) x)) 0 (bWc B (j + i)) ≤ bWc B (j + i) * 1048576 := sm_le (fun x hx => by
      (try dsimp only)
      rw [Nat.zero_add]
      exact (okS_sN o ha (Or.inl (by rw [← hn]; exact hb.2.2.2 x hx))).2)
    have h3 : bWc B (j + i) * 1048576 ≤ 10485760 := Nat.mul_le_mul_right _ hb.2.1
    omega)
  have h3 : m * 10485760 ≤ 2 * 10485760 := Nat.mul_le_mul_right _ hm
  unfold totN
  omega
theorem sp_dealWord {Q : Hp → Prop} {a j m : Nat} {D : Nat → Nat → Nat} (c : Lay L h) (Bk2 : booksC h o bk) (T : shareC h n0 (bNk (bk 1)) sh tm) (E : dlC h n0 (bNk (bk 1)) D) (ha : a < n0) (hj : j + m ≤ bNs (bk 1)) (hm : m ≤ 2) (K : ∀ h', Cg ddD h h' → dlC h' n0 (bNk (bk 1)) (dlW sh (bk 1) a j m D) → Q h') : AC w mX4_dealWord 0 0 (rV Q) [.ref 227, .int (nI a), .ref (o 1), .int (nI j), .int (nI m)] h := by
  have a0 := T.1.1
  have a1 := T.1.2.1
  have hb1 := Bk2.1.2.2.1
  have b1 := isBk_223 hb1
  have n20 := Bk2.2.2.1.1
  have ok := Bk2.2.2.1
  have tl := totN_lt T.1 ok rfl ha hj hm
  have two : 0 < totN sh (bk 1) a j m → AW w mX4_dealWord 0 0 (rV Q) 0 0 85 [some (.ref 227), some (.int (nI a)), some (.ref (o 1)), some (.int (nI j)), some (.int (nI m)), some (.long (lN (totN sh (bk 1) a j m))), none, some (.int (nI j)), none] [] h := by
    intro hp
    have inn : ∀ (s : Nat) (D0 : Nat → Nat → Nat), s < bNs (bk 1) → (∀ h', Cg ddD h h' → dlC h' n0 (bNk (bk 1)) (dlS sh (bk 1) (totN sh (bk 1) a j m) a s D0 (bWc (bk 1) s)) → AW w mX4_dealWord 0 0 (rV Q) 0 0 85 [some (.ref 227), some (.int (nI a)), some (.ref (o 1)), some (.int (nI j)), some (.int (nI m)), some (.long (lN (totN sh (bk 1) a j m))), none, some (.int (nI (s + 1))), none] [] h') →
        ∀ (d k : Nat) (h' : Hp), k + d = bWc (bk 1) s → Cg ddD h h' → dlC h' n0 (bNk (bk 1)) (dlS sh (bk 1) (totN sh (bk 1) a j m) a s D0 k) → AW w mX4_dealWord 0 0 (rV Q) 0 0 97 [some (.ref 227), some (.int (nI a)), some (.ref (o 1)), some (.int (nI j)), some (.int (nI m)), some (.long (lN (totN sh (bk 1) a j m))), none, some (.int (nI s)), some (.int (nI k))] [] h' := by
      intro s D0 hs Kc d
      have hw := ok.2.2.2.1 s hs
      induction d with
      | zero =>
        intro k h' hk g E'
        have hk : k = bWc (bk 1) s := by omega
        have c' : Lay L h' := g.lay c (fun id j q => by unfold ddD at q; omega)
        have B' : booksC h' o bk := Bk2.cg g (fun id j q => by unfold ddD at q; omega)
        have hv := B'.2.2.2.2.2.2.1 s hs
        rw [hk] at E'
        have KK := Kc h' g E'
        refine sX4_dealWord_97 ?_
        simp (disch := omega) only [sb_this c' hb1, show hR h' (o 1) 2 = o 1 + 65 from rb_0_2 c' hb1, sb_65 c' hb1, hv.1, nI_1, cl_nI, ti_le, nI_toInt]
        exact ⟨trivial, by omega, trivial, vp_nI (by omega) (by decide), fun _ => KK, fun z => absurd (by omega) z⟩
      | succ d ih =>
        intro k h' hk g E'
        have c' : Lay L h' := g.lay c (fun id j q => by unfold ddD at q; omega)
        have B' : booksC h' o bk := Bk2.cg g (fun id j q => by unfold ddD at q; omega)
        have T' : shareC h' n0 (bNk (bk 1)) sh tm := T.cg g (fun id j q => by unfold ddD at q; omega)
        have hv := B'.2.2.2.2.2.2.1 s hs
        have hd := hv.2.2 k (by omega)
        have hk40 := hw.2.2.2 k (by omega)
        have go : AC w mX4_dealPart 0 0 (rV fun h1 => AW w mX4_dealWord 0 0 (rV Q) 0 0 97 [some (.ref 227), some (.int (nI a)), some (.ref (o 1)), some (.int (nI j)), some (.int (nI m)), some (.long (lN (totN sh (bk 1) a j m))), none, some (.int (nI s)), some (.int (nI (k + 1)))] [] h1) [.ref 227, .int (nI a), .int (nI (bWd (bk 1) s k)), .long (lN (totN sh (bk 1) a j m))] h' := sp_dealPart c' T' E' ha (Or.inl hk40) hp (by omega) (fun h2 g2 E2 => ih (k + 1) h2 (by omega) (g.trans g2) E2)
        refine sX4_dealWord_97 ?_
        simp (disch := omega) only [sb_this c' hb1, show hR h' (o 1) 2 = o 1 + 65 from rb_0_2 c' hb1, show hR h' (o 1) 1 = o 1 + 44 from rb_0_1 c' hb1, sb_44 c' hb1, sb_65 c' hb1, rb_wd c' hb1 (show s < 20 by omega), sb_wd c' hb1 (show s < 20 by omega), s_227 c', hv.1, hd, nI_1, cl_nI, ti_le, nI_toInt]
        exact ⟨trivial, by omega, trivial, vp_nI (by omega) (by decide), fun z => absurd z (by omega), fun _ => ⟨by omega, trivial, vp_nI (by omega) (by decide), by omega, trivial, vp_nI (by omega) (by decide), trivial, go⟩⟩
    have lp : ∀ (d k : Nat) (h' : Hp), k + d = m → Cg ddD h h' → dlC h' n0 (bNk (bk 1)) (dlR sh (bk 1) (totN sh (bk 1) a j m) a j D k) → AW w mX4_dealWord 0 0 (rV Q) 0 0 85 [some (.ref 227), some (.int (nI a)), some (.ref (o 1)), some (.int (nI j)), some (.int (nI m)), some (.long (lN (totN sh (bk 1) a j m))), none, some (.int (nI (j + k))), none] [] h' := by
      intro d
      induction d with
      | zero =>
        intro k h' hk g E'
        have hk : k = m := by omega
        rw [hk] at E' ⊢
        have c' : Lay L h' := g.lay c (fun id j q => by unfold ddD at q; omega)
        have T' : shareC h' n0 (bNk (bk 1)) sh tm := T.cg g (fun id j q => by unfold ddD at q; omega)
        refine sX4_dealWord_85 ⟨fun _ => ⟨by rw [s_227 c'], sp_dealPart (b := 40) c' T' E' ha (Or.inr rfl) hp (by omega) (fun h2 g2 E2 => K h2 (g.trans g2) ?_)⟩, fun z => absurd ?_ z⟩
        · unfold dlW; rw [if_pos hp]; exact E2
        · rw [nI_add, ti_le]; omega
      | succ d ih =>
        intro k h' hk g E'
        refine sX4_dealWord_85 ⟨fun z => ?_, fun _ => ?_⟩
        · rw [nI_add, ti_le, nI_toInt (by omega), nI_toInt (by omega)] at z; omega
        · exact inn (j + k) _ (by omega) (fun h2 g2 E2 => ih (k + 1) h2 (by omega) g2 E2) (bWc (bk 1) (j + k)) 0 h' (by omega) g E'
    exact lp m 0 h (by omega) (Cg.rfl' h) E
  have si : ∀ (s b0 : Nat), s < bNs (bk 1) → AW w mX4_dealWord 0 0 (rV Q) 0 0 15 [some (.ref 227), some (.int (nI a)), some (.ref (o 1)), some (.int (nI j)), some (.int (nI m)), some (.long (lN (b0 + sm (fun x => sN sh a (bWd (bk 1) s x)) 0 (bWc (bk 1) s)))), none, some (.int (nI (s + 1))), none] [] h →
      ∀ (d k : Nat), k + d = bWc (bk 1) s → AW w mX4_dealWord 0 0 (rV Q) 0 0 27 [some (.ref 227), some (.int (nI a)), some (.ref (o 1)), some (.int (nI j)), some (.int (nI m)), some (.long (lN (b0 + sm (fun x => sN sh a (bWd (bk 1) s x)) 0 k))), none, some (.int (nI s)), some (.int (nI k))] [] h := by
    intro s b0 hs Kc d
    have hw := ok.2.2.2.1 s hs
    have hv := Bk2.2.2.2.2.2.2.1 s hs
    induction d with
    | zero =>
      intro k hk
      have hk : k = bWc (bk 1) s := by omega
      subst hk
      refine sX4_dealWord_27 ?_
      simp (disch := omega) only [sb_this c hb1, show hR h (o 1) 2 = o 1 + 65 from rb_0_2 c hb1, sb_65 c hb1, hv.1, nI_1, cl_nI, ti_le, nI_toInt]
      exact ⟨trivial, by omega, trivial, vp_nI (by omega) (by decide), fun _ => Kc, fun z => absurd (by omega) z⟩
    | succ d ih =>
      intro k hk
      have hd := hv.2.2 k (by omega)
      have hk40 := hw.2.2.2 k (by omega)
      have nx := ih (k + 1) (by omega)
      have hp := shareC_at T ha (Or.inl hk40)
      have hn := (okS_sN T.1 ha (Or.inl hk40)).2
      have e1 : lN (b0 + sm (fun x => sN sh a (bWd (bk 1) s x)) 0 (k + 1)) = lN (b0 + sm (fun x => sN sh a (bWd (bk 1) s x)) 0 k) + (nI (sN sh a (bWd (bk 1) s k))).toInt64 := by
        rw [nI_l (by omega), lN_add]
        congr 1
        show b0 + (sm _ 0 k + sN sh a (bWd (bk 1) s (0 + k))) = _
        rw [Nat.zero_add]; omega
      rw [e1] at nx
      have v1 : vp_in (nI a) 40 := vp_nI (by omega) (by decide)
      have v2 : vp_in (nI (bWd (bk 1) s k)) 41 := vp_nI (by omega) (by decide)
      refine sX4_dealWord_27 ?_
      simp (disch := omega) only [sb_this c hb1, show hR h (o 1) 2 = o 1 + 65 from rb_0_2 c hb1, show hR h (o 1) 1 = o 1 + 44 from rb_0_1 c hb1, sb_44 c hb1, sb_65 c hb1, rb_wd c hb1 (show s < 20 by omega), sb_wd c hb1 (show s < 20 by omega), s_227 c, r_227_0 c, s_228 c, r_pt c (show a < 40 by omega), s_pt c (show a < 40 by omega), hv.1, hd, hp, nI_1, cl_nI, ti_le, nI_toInt]
      exact ⟨trivial, by omega, trivial, vp_nI (by omega) (by decide), fun z => absurd z (by omega), fun _ => ⟨trivial, by first | decide | exact vp_nI (j := 0) (by decide) (by decide) | exact vp_nI (j := 1) (by decide) (by decide), trivial, v1, by omega, by omega, trivial, vp_nI (by omega) (by decide), by omega, trivial, vp_nI (by omega) (by decide), trivial, v2, nx⟩⟩
  have sl : ∀ (d k : Nat), k + d = m → AW w mX4_dealWord 0 0 (rV Q) 0 0 15 [some (.ref 227), some (.int (nI a)), some (.ref (o 1)), some (.int (nI j)), some (.int (nI m)), some (.long (lN (sN sh a 40 + sm (fun s => sm (fun x => sN sh a (bWd (bk 1) s x)) 0 (bWc (bk 1) s)) j k))), none, some (.int (nI (j + k))), none] [] h := by
    intro d
    induction d with
    | zero =>
      intro k hk
      have hk : k = m := by omega
      subst hk
      refine sX4_dealWord_15 ⟨fun _ => ⟨fun z => two ?_, fun z => K h (Cg.rfl' h) ?_⟩, fun z => absurd ?_ z⟩
      · rw [lg_cmp_gt] at z
        exact (lN_pos (show totN sh (bk 1) a j k < 4611686018427387904 by omega)).mp z
      · rw [lg_cmp_gt] at z
        have : ¬ 0 < totN sh (bk 1) a j k := fun y => z ((lN_pos (show totN sh (bk 1) a j k < 4611686018427387904 by omega)).mpr y)
        unfold dlW
        rw [if_neg this]; exact E
      · rw [nI_add, ti_le]; omega
    | succ d ih =>
      intro k hk
      refine sX4_dealWord_15 ⟨fun z => ?_, fun _ => ?_⟩
      · rw [nI_add, ti_le, nI_toInt (by omega), nI_toInt (by omega)] at z; omega
      · refine si (j + k) _ (by omega) ?_ (bWc (bk 1) (j + k)) 0 (by omega)
        have := ih (k + 1) (by omega)
        have e : sN sh a 40 + sm (fun s => sm (fun x => sN sh a (bWd (bk 1) s x)) 0 (bWc (bk 1) s)) j (k + 1) = sN sh a 40 + sm (fun s => sm (fun x => sN sh a (bWd (bk 1) s x)) 0 (bWc (bk 1) s)) j k + sm (fun x => sN sh a (bWd (bk 1) (j + k) x)) 0 (bWc (bk 1) (j + k)) := by
          show sN sh a 40 + (sm _ j k + sm (fun x => sN sh a (bWd (bk 1) (j + k) x)) 0 (bWc (bk 1) (j + k))) = _
          omega
        rw [e] at this
        exact this
  refine eX4_dealWord (sX4_dealWord_0 ?_)
  have hp := shareC_at T ha (Or.inr rfl)
  have hn := (okS_sN T.1 ha (Or.inr rfl)).2
  have st := sl m 0 (by omega)
  have v1 : vp_in (nI a) 40 := vp_nI (by omega) (by decide)
  rw [s_227 c, r_227_0 c, s_228 c, cl_nI (show a < 2147483648 by omega), r_pt c (by omega), s_pt c (by omega), e40c, hp, nI_l (by omega)]
  exact ⟨rfl, by first | decide | exact vp_nI (j := 0) (by decide) (by decide) | exact vp_nI (j := 1) (by decide) (by decide), rfl, v1, by omega, rfl, vp_nI (j := 40) (by decide) (by decide), st⟩
theorem sp_deal {Q : Hp → Prop} {i n j m : Nat} {D : Nat → Nat → Nat} (c : Lay L h) (B : booksC h o bk) (T : shareC h (bNk (bk 0)) (bNk (bk 1)) sh tm) (E : dlC h (bNk (bk 0)) (bNk (bk 1)) D) (hi : i + n ≤ bNs (bk 0)) (hn2 : n ≤ 2) (hj : j + m ≤ bNs (bk 1)) (hm : m ≤ 2) (K : ∀ h', Cg ddD h h' → dlC h' (bNk (bk 0)) (bNk (bk 1)) (dlB sh (bk 0) (bk 1) i j m D n) → Q h') : AC w mX4_deal 0 0 (rV Q) [.ref 227, .ref (o 0), .int (nI i), .int (nI n), .ref (o 1), .int (nI j), .int (nI m)] h := by
  have hb0 := B.1.2.1
  have b0 := isBk_223 hb0
  have n20 := B.2.1.1.1
  have ok := B.2.1.1
  have inn : ∀ (s : Nat) (D0 : Nat → Nat → Nat), s < bNs (bk 0) → (∀ h', Cg ddD h h' → dlC h' (bNk (bk 0)) (bNk (bk 1)) (dlL sh (bk 0) (bk 1) s j m D0 (bWc (bk 0) s)) → AW w mX4_deal 0 0 (rV Q) 0 0 3 [some (.ref 227), some (.ref (o 0)), some (.int (nI i)), some (.int (nI n)), some (.ref (o 1)), some (.int (nI j)), some (.int (nI m)), some (.int (nI (s + 1))), none] [] h') →
      ∀ (d k : Nat) (h' : Hp), k + d = bWc (bk 0) s → Cg ddD h h' → dlC h' (bNk (bk 0)) (bNk (bk 1)) (dlL sh (bk 0) (bk 1) s j m D0 k) → AW w mX4_deal 0 0 (rV Q) 0 0 14 [some (.ref 227), some (.ref (o 0)), some (.int (nI i)), some (.int (nI n)), some (.ref (o 1)), some (.int (nI j)), some (.int (nI m)), some (.int (nI s)), some (.int (nI k))] [] h' := by
    intro s D0 hs Kc d
    have hw := ok.2.2.2.1 s hs
    induction d with
    | zero =>
      intro k h' hk g E'
      have hk : k = bWc (bk 0) s := by omega
      have c' : Lay L h' := g.lay c (fun id j q => by unfold ddD at q; omega)
      have B' : booksC h' o bk := B.cg g (fun id j q => by unfold ddD at q; omega)
      have hv := B'.2.1.2.2.2.2.1 s hs
      rw [hk] at E'
      have KK := Kc h' g E'
      refine sX4_deal_14 ?_
      simp (disch := omega) only [sb_this c' hb0, show hR h' (o 0) 2 = o 0 + 65 from rb_0_2 c' hb0, sb_65 c' hb0, hv.1, nI_1, cl_nI, ti_le, nI_toInt]
      exact ⟨trivial, by omega, trivial, vp_nI (by omega) (by decide), fun _ => KK, fun z => absurd (by omega) z⟩
    | succ d ih =>
      intro k h' hk g E'
      have c' : Lay L h' := g.lay c (fun id j q => by unfold ddD at q; omega)
      have B' : booksC h' o bk := B.cg g (fun id j q => by unfold ddD at q; omega)
      have T' : shareC h' (bNk (bk 0)) (bNk (bk 1)) sh tm := T.cg g (fun id j q => by unfold ddD at q; omega)
      have hv := B'.2.1.2.2.2.2.1 s hs
      have hd := hv.2.2 k (by omega)
      have hk40 := hw.2.2.2 k (by omega)
      have go : AC w mX4_dealWord 0 0 (rV fun h1 => AW w mX4_deal 0 0 (rV Q) 0 0 14 [some (.ref 227), some (.ref (o 0)), some (.int (nI i)), some (.int (nI n)), some (.ref (o 1)), some (.int (nI j)), some (.int (nI m)), some (.int (nI s)), some (.int (nI (k + 1)))] [] h1) [.ref 227, .int (nI (bWd (bk 0) s k)), .ref (o 1), .int (nI j), .int (nI m)] h' := sp_dealWord c' B' T' E' hk40 hj hm (fun h2 g2 E2 => ih (k + 1) h2 (by omega) (g.trans g2) E2)
      refine sX4_deal_14 ?_
      simp (disch := omega) only [sb_this c' hb0, show hR h' (o 0) 2 = o 0 + 65 from rb_0_2 c' hb0, show hR h' (o 0) 1 = o 0 + 44 from rb_0_1 c' hb0, sb_44 c' hb0, sb_65 c' hb0, rb_wd c' hb0 (show s < 20 by omega), sb_wd c' hb0 (show s < 20 by omega), s_227 c', hv.1, hd, nI_1, cl_nI, ti_le, nI_toInt]
      exact ⟨trivial, by omega, trivial, vp_nI (by omega) (by decide), fun z => absurd z (by omega), fun _ => ⟨by omega, trivial, vp_nI (by omega) (by decide), by omega, trivial, vp_nI (by omega) (by decide), trivial, go⟩⟩
  have lp : ∀ (d k : Nat) (h' : Hp), k + d = n → Cg ddD h h' → dlC h' (bNk (bk 0)) (bNk (bk 1)) (dlB sh (bk 0) (bk 1) i j m D k) → AW w mX4_deal 0 0 (rV Q) 0 0 3 [some (.ref 227), some (.ref (o 0)), some (.int (nI i)), some (.int (nI n)), some (.ref (o 1)), some (.int (nI j)), some (.int (nI m)), some (.int (nI (i + k))), none] [] h' := by
    intro d
    induction d with
    | zero =>
      intro k h' hk g E'
      have hk : k = n := by omega
      rw [hk] at E' ⊢
      refine sX4_deal_3 ⟨fun _ => K h' g E', fun z => absurd ?_ z⟩
      rw [nI_add, ti_le]; omega
    | succ d ih =>
      intro k h' hk g E'
      refine sX4_deal_3 ⟨fun z => ?_, fun _ => inn (i + k) _ (by omega) (fun h2 g2 E2 => ih (k + 1) h2 (by omega) g2 E2) (bWc (bk 0) (i + k)) 0 h' (by omega) g E'⟩
      rw [nI_add, ti_le, nI_toInt (by omega), nI_toInt (by omega)] at z; omega
  exact eX4_deal (sX4_deal_0 (lp n 0 h (by omega) (Cg.rfl' h) E))
end RC
