/-! ===== rounds, the class: settling, playing ===== -/
theorem rnd_t {S : Ly} {tm : Nat → Int32} {a t y : Nat} (q : tm a = nI t) (ht : t < 1000) (hy : y < 1000) : (if y = t then (1048576 : Int32) else 0) = rnd S tm a y := by
  unfold rnd
  rw [if_neg (show ¬ tm a = -1 by rw [q]; exact nI_m1 (by omega)), q]
  by_cases u : y = t
  · rw [if_pos u, if_pos (by rw [u])]
  · rw [if_neg u, if_neg (by rw [nI_inj (by omega) (by omega)]; exact u)]
section RD
variable {w : Wd} {L : Nat} {h : Hp} {o : Nat → Nat} {S : Ly} {tm : Nat → Int32}
theorem sp_settleKind {Q : Hp → Prop} {a n0 n1 : Nat} {D : Nat → Nat → Nat} (c : Lay L h) (h0 : n0 ≤ 40) (h1 : n1 ≤ 40) (e4 : hI h 227 4 = nI n1) (E : dlC h n0 n1 D) (ha : a < n0) (hD : ∀ b, D a b ≤ 17616076800) (hA : allN D n1 a < 1000000000000)
    (K0 : ¬ 0 < allN D n1 a → Q h) (K1 : 0 < allN D n1 a → ∀ h', Cg (fun id _ => id = 229 + a) h h' → (∀ b, (b < n1 ∨ b = 40) → hI h' (229 + a) b = nI (1048576 * D a b / allN D n1 a)) → Q h') : AC w mX4_settleKind 0 0 (rV Q) [.ref 227, .int (nI a)] h := by
  have v1 : vp_in (nI a) 40 := vp_nI (by omega) (by decide)
  have v40 : vp_in 40 41 := vp_nI (j := 40) (by decide) (by decide)
  have put : 0 < allN D n1 a → ∀ (d k : Nat) (h' : Hp), k + d = n1 → Cg (fun id _ => id = 229 + a) h h' → (∀ b, b < k → hI h' (229 + a) b = nI (1048576 * D a b / allN D n1 a)) → AW w mX4_settleKind 0 0 (rV Q) 0 0 50 [some (.ref 227), some (.int (nI a)), some (.long (lN (allN D n1 a))), none, some (.int (nI k))] [] h' := by
    intro hp d
    have v3 : ¬ lN (allN D n1 a) = 0 := lN_ne0 (by omega) hp
    have val : ∀ b, ((1048576 : Int64) * lN (D a b) / lN (allN D n1 a)).toInt32 = nI (1048576 * D a b / allN D n1 a) := fun b => by
      have := hD b
      rw [show (1048576 : Int64) = lN 1048576 from rfl, lN_mul, lN_divB (by omega) hp (by omega), lN_i]
    induction d with
    | zero =>
      intro k h' hk g e
      have hk : k = n1 := by omega
      have c' : Lay L h' := g.lay c (fun id j q => by omega)
      have e4' : hI h' 227 4 = nI n1 := by rw [g.i (by omega)]; exact e4
      have d40 : hL h' (270 + a) 40 = lN (D a 40) := by rw [g.l (by omega)]; exact E a 40 ha (Or.inr rfl)
      refine sX4_settleKind_50 ?_
      rw [s_227 c', e4', r_227_0 c', s_228 c', cl_nI (show a < 2147483648 by omega), r_pt c' (by omega), r_227_1 c', s_269 c', r_dl c' (by omega), s_dl c' (by omega), s_pt c' (by omega), e40c, d40, val]
      refine ⟨rfl, fun _ => ⟨by first | decide | exact vp_nI (j := 0) (by decide) (by decide) | exact vp_nI (j := 1) (by decide) (by decide), rfl, v1, by omega, by first | decide | exact vp_nI (j := 0) (by decide) (by decide) | exact vp_nI (j := 1) (by decide) (by decide), rfl, v1, by omega, rfl, v40, v3, rfl, v40, fun h2 e2 => ?_⟩, fun z => absurd ?_ z⟩
      · subst e2
        refine K1 hp _ (g.sI rfl) (fun b hb => ?_)
        by_cases q : b = 40
        · subst q; rw [hI_eq]
        · rw [hI_ne (Or.inr q)]; exact e b (by omega)
      · rw [ti_le, nI_toInt (by omega), nI_toInt (by omega)]; omega
    | succ d ih =>
      intro k h' hk g e
      have c' : Lay L h' := g.lay c (fun id j q => by omega)
      have e4' : hI h' 227 4 = nI n1 := by rw [g.i (by omega)]; exact e4
      have dk : hL h' (270 + a) k = lN (D a k) := by rw [g.l (by omega)]; exact E a k ha (Or.inl (by omega))
      have vk : vp_in (nI k) 41 := vp_nI (by omega) (by decide)
      refine sX4_settleKind_50 ?_
      rw [s_227 c', e4', r_227_0 c', s_228 c', cl_nI (show a < 2147483648 by omega), r_pt c' (by omega), r_227_1 c', s_269 c', r_dl c' (by omega), s_dl c' (by omega), s_pt c' (by omega), cl_nI (show k < 2147483648 by omega), dk, val, nI_1]
      refine ⟨rfl, fun z => ?_, fun _ => ⟨by first | decide | exact vp_nI (j := 0) (by decide) (by decide) | exact vp_nI (j := 1) (by decide) (by decide), rfl, v1, by omega, by first | decide | exact vp_nI (j := 0) (by decide) (by decide) | exact vp_nI (j := 1) (by decide) (by decide), rfl, v1, by omega, rfl, vk, v3, rfl, vk, fun h2 e2 => ?_⟩⟩
      · rw [ti_le, nI_toInt (by omega), nI_toInt (by omega)] at z; omega
      · subst e2
        refine ih (k + 1) _ (by omega) (g.sI rfl) (fun b hb => ?_)
        by_cases q : b = k
        · subst q; rw [hI_eq]
        · rw [hI_ne (Or.inr q)]; exact e b (by omega)
  have add : ∀ (d k : Nat), k + d = n1 → AW w mX4_settleKind 0 0 (rV Q) 0 0 13 [some (.ref 227), some (.int (nI a)), some (.long (lN (D a 40 + sm (D a) 0 k))), none, some (.int (nI k))] [] h := by
    intro d
    induction d with
    | zero =>
      intro k hk
      have hk : k = n1 := by omega
      subst hk
      refine sX4_settleKind_13 ?_
      rw [s_227 c, e4]
      refine ⟨rfl, fun _ => ⟨fun z => ?_, fun z => K0 (fun y => z ?_)⟩, fun z => absurd ?_ z⟩
      · rw [lg_cmp_gt] at z
        have hp : 0 < allN D k a := (lN_pos (show allN D k a < 4611686018427387904 by omega)).mp z
        exact put hp k 0 h (by omega) (Cg.rfl' h) (fun b hb => by omega)
      · rw [lg_cmp_gt]; exact (lN_pos (show allN D k a < 4611686018427387904 by omega)).mpr y
      · rw [ti_le]; omega
    | succ d ih =>
      intro k hk
      have dk : hL h (270 + a) k = lN (D a k) := E a k ha (Or.inl (by omega))
      have nx := ih (k + 1) (by omega)
      have e1 : D a 40 + sm (D a) 0 (k + 1) = D a 40 + sm (D a) 0 k + D a k := by
        show D a 40 + (sm (D a) 0 k + D a (0 + k)) = _
        rw [Nat.zero_add]; omega
      rw [e1] at nx
      refine sX4_settleKind_13 ?_
      rw [s_227 c, e4, r_227_1 c, s_269 c, cl_nI (show a < 2147483648 by omega), r_dl c (by omega), s_dl c (by omega), cl_nI (show k < 2147483648 by omega), dk, lN_add, nI_1]
      refine ⟨rfl, fun z => ?_, fun _ => ⟨by first | decide | exact vp_nI (j := 0) (by decide) (by decide) | exact vp_nI (j := 1) (by decide) (by decide), rfl, v1, by omega, rfl, vp_nI (by omega) (by decide), nx⟩⟩
      rw [ti_le, nI_toInt (by omega), nI_toInt (by omega)] at z; omega
  have st := add n1 0 (by omega)
  refine eX4_settleKind (sX4_settleKind_0 ?_)
  rw [s_227 c, r_227_1 c, s_269 c, cl_nI (show a < 2147483648 by omega), r_dl c (by omega), s_dl c (by omega), e40c, E a 40 ha (Or.inr rfl)]
  exact ⟨rfl, by first | decide | exact vp_nI (j := 0) (by decide) (by decide) | exact vp_nI (j := 1) (by decide) (by decide), rfl, v1, by omega, rfl, v40, st⟩
theorem sp_obey0 {Q : Hp → Prop} {a : Nat} (c : Lay L h) (ha : a < 40) (ht : hI h 310 a = -1) (K : Q h) : AC w mX4_obeyTerm 0 0 (rV Q) [.ref 227, .int (nI a)] h := by
  refine eX4_obeyTerm (sX4_obeyTerm_0 ?_)
  rw [s_227 c, r_227_2 c, s_310 c, cl_nI (by omega), ht]
  exact ⟨rfl, by first | decide | exact vp_nI (j := 0) (by decide) (by decide) | exact vp_nI (j := 1) (by decide) (by decide), rfl, vp_nI ha (by decide), fun _ => K, fun z => absurd rfl z⟩
theorem sp_settle {Q : Hp → Prop} (c : Lay L h) (okA : okB (S.1 0)) (ok : okB (S.1 1)) (T : shareC h (bNk (S.1 0)) (bNk (S.1 1)) S.2.2.2 tm) (E : dlC h (bNk (S.1 0)) (bNk (S.1 1)) (dlA S (JN S))) (K : ∀ h', Cg (fun id _ => 229 ≤ id ∧ id ≤ 268) h h' → shareC h' (bNk (S.1 0)) (bNk (S.1 1)) (rnd S tm) tm → Q h') : AC w mX4_settle 0 0 (rV Q) [.ref 227] h := by
  have h0 := T.1.1
  have h1 := T.1.2.1
  have lp : ∀ (d k : Nat) (h' : Hp), k + d = bNk (S.1 0) → Cg (fun id _ => 229 ≤ id ∧ id ≤ 268) h h' → (∀ a b, a < bNk (S.1 0) → (b < bNk (S.1 1) ∨ b = 40) → hI h' (229 + a) b = if a < k then rnd S tm a b else S.2.2.2 a b) → AW w mX4_settle 0 0 (rV Q) 0 0 2 [some (.ref 227), some (.int (nI k))] [] h' := by
    intro d
    induction d with
    | zero =>
      intro k h' hk g e
      have c' : Lay L h' := g.lay c (fun id j q => by omega)
      have e3 : hI h' 227 3 = nI (bNk (S.1 0)) := by rw [g.i (by omega)]; exact T.2.1
      have e4 : hI h' 227 4 = nI (bNk (S.1 1)) := by rw [g.i (by omega)]; exact T.2.2.1
      refine sX4_settle_2 ?_
      rw [s_227 c', e3]
      refine ⟨rfl, fun _ => K h' g ⟨rnd_ok okA ok T.1, e3, e4, fun a ha => ⟨by rw [g.i (by omega)]; exact (T.2.2.2 a ha).1, ?_, fun b hb => ?_⟩⟩, fun z => absurd ?_ z⟩
      · rw [e a 40 ha (Or.inr rfl), if_pos (by omega)]
      · rw [e a b ha (Or.inl hb), if_pos (by omega)]
      · rw [ti_le, nI_toInt (by omega), nI_toInt (by omega)]; omega
    | succ d ih =>
      intro k h' hk g e
      have c' : Lay L h' := g.lay c (fun id j q => by omega)
      have e3 : hI h' 227 3 = nI (bNk (S.1 0)) := by rw [g.i (by omega)]; exact T.2.1
      have e4 : hI h' 227 4 = nI (bNk (S.1 1)) := by rw [g.i (by omega)]; exact T.2.2.1
      have E' : dlC h' (bNk (S.1 0)) (bNk (S.1 1)) (dlA S (JN S)) := fun a b ha hb => by rw [g.l (by omega)]; exact E a b ha hb
      have tk : hI h' 310 k = tm k := by rw [g.i (by omega)]; exact (T.2.2.2 k (by omega)).1
      have obey : ∀ h2, Cg (fun id _ => id = 229 + k) h' h2 → (tm k = -1 → ∀ b, (b < bNk (S.1 1) ∨ b = 40) → hI h2 (229 + k) b = rnd S tm k b) → AC w mX4_obeyTerm 0 0 (rV fun h2 => AW w mX4_settle 0 0 (rV Q) 0 0 2 [some (.ref 227), some (.int (nI (k + 1)))] [] h2) [.ref 227, .int (nI k)] h2 := by
        intro h2 g2 e2
        have c2 : Lay L h2 := g2.lay c' (fun id j q => by omega)
        have tk2 : hI h2 310 k = tm k := by rw [g2.i (by omega)]; exact tk
        rcases (T.1.2.2 k (by omega)).1 with q | ⟨b, hb, q⟩
        · refine sp_obey0 c2 (by omega) (by rw [tk2]; exact q) (ih (k + 1) h2 (by omega) (g.trans (g2.mono (fun id j q => by omega))) (fun a b ha hb => ?_))
          by_cases y : a = k
          · subst y; rw [if_pos (by omega)]; exact e2 q b hb
          · rw [g2.i (by omega), e a b ha hb]
            by_cases x : a < k
            · rw [if_pos x, if_pos (by omega)]
            · rw [if_neg x, if_neg (by omega)]
        · refine sp_obey (b := b) c2 (by omega) (by omega) (by rw [tk2]; exact q) (fun h3 g3 _ e3' => ?_)
          have g3' : Cg (fun id _ => id = 229 + k) h2 h3 := Cg.of g3 (fun id j q => q)
          refine ih (k + 1) h3 (by omega) (g.trans ((g2.trans g3').mono (fun id j q => by omega))) (fun x y hx hy => ?_)
          by_cases z : x = k
          · subst z
            rw [if_pos (by omega), e3' y (by omega)]
            exact rnd_t q (by omega) (by omega)
          · rw [g3'.i (by omega), g2.i (by omega), e x y hx hy]
            by_cases u : x < k
            · rw [if_pos u, if_pos (by omega)]
            · rw [if_neg u, if_neg (by omega)]
      refine sX4_settle_2 ?_
      rw [s_227 c', e3, nI_1]
      refine ⟨rfl, fun z => ?_, fun _ => sp_settleKind c' h0 h1 e4 E' (by omega) (fun b => by have := dlA_bd okA ok (Nat.le_refl (JN S)) k b; omega) (allN_lt okA ok k) (fun p => ⟨by rw [s_227 c'], obey h' (Cg.rfl' h') (fun q b hb => ?_)⟩) (fun p h2 g2 e2 => ⟨by rw [s_227 (g2.lay c' (fun id j q => by omega))], obey h2 g2 (fun q b hb => ?_)⟩)⟩
      · rw [ti_le, nI_toInt (by omega), nI_toInt (by omega)] at z; omega
      · rw [e k b (by omega) hb, if_neg (by omega)]
        unfold rnd
        rw [if_pos q, if_neg p]
      · rw [e2 b hb]
        unfold rnd
        rw [if_pos q, if_pos p]
  exact eX4_settle (sX4_settle_0 (lp (bNk (S.1 0)) 0 h (by omega) (Cg.rfl' h) (fun a b ha hb => by
    rw [if_neg (by omega)]
    rcases hb with q | q
    · exact (T.2.2.2 a ha).2.2 b q
    · subst q; exact (T.2.2.2 a ha).2.1)))
theorem sp_dealJoint {Q : Hp → Prop} {m : Nat} {D : Nat → Nat → Nat} (c : Lay L h) (B : booksC h o S.1) (T : shareC h (bNk (S.1 0)) (bNk (S.1 1)) S.2.2.2 tm) (J : jsC h S) (E : dlC h (bNk (S.1 0)) (bNk (S.1 1)) D) (hm : m < JN S) (K : ∀ h', Cg ddD h h' → dlC h' (bNk (S.1 0)) (bNk (S.1 1)) (dlJ S (JK S m) (JL S m) (JR S m) D) → Q h') : AC w mX9_dealJoint 0 0 (rV Q) [.ref 5, .int (nI m)] h := by
  have n0 := B.2.1.1.1
  have n1 := B.2.2.1.1
  have hJ := JN_le (S := S) n0 n1
  obtain ⟨j1, j2, j3, -⟩ := J m hm
  obtain ⟨o1, o2, o3, o4⟩ := JN_ok (S := S) n0 n1 hm
  have l2 := lS_le (JK S m)
  have r2 := rS_le (JK S m)
  have v : vp_in (nI m) 40 := vp_nI (by omega) (by decide)
  have v7 : vp_in (nI (JK S m)) 7 := vp_nI (by omega) (by decide)
  have b0 := isBk_223 B.1.2.1
  have b1 := isBk_223 B.1.2.2.1
  have e0 : hR h 19 0 = o 0 := B.1.1.1
  have e1 : hR h 19 1 = o 1 := B.1.1.2
  refine eX9_dealJoint (sX9_dealJoint_0 ?_)
  rw [s_5 c, r_5_7 c, s_311 c, r_311_13 c, s_319 c, r_311_14 c, s_320 c, r_311_15 c, s_321 c, cl_nI (by omega), j1, j2, j3]
  refine ⟨rfl, by first | decide | exact vp_nI (j := 0) (by decide) (by decide) | exact vp_nI (j := 1) (by decide) (by decide), rfl, by first | decide | exact vp_nI (j := 0) (by decide) (by decide) | exact vp_nI (j := 1) (by decide) (by decide), rfl, v, by first | decide | exact vp_nI (j := 0) (by decide) (by decide) | exact vp_nI (j := 1) (by decide) (by decide), rfl, v, by first | decide | exact vp_nI (j := 0) (by decide) (by decide) | exact vp_nI (j := 1) (by decide) (by decide), rfl, v, fun z => ?_, fun z => ?_⟩
  · have z : ¬ JK S m = 6 := fun e => z (by rw [e]; rfl)
    refine sp_hasBoth o1 ⟨fun y => ?_, fun y => ?_⟩
    · rw [b01_eq] at y
      have y : JK S m = 1 ∨ JK S m = 2 := by have := of_decide_eq_false y; omega
      refine K h (Cg.rfl' h) ?_
      unfold dlJ
      rw [if_neg z, if_pos y]; exact E
    · rw [b01_ne] at y
      have y := of_decide_eq_true y
      have e : dlJ S (JK S m) (JL S m) (JR S m) D = dlB S.2.2.2 (S.1 0) (S.1 1) (JL S m) (JR S m) (rS (JK S m)) D (lS (JK S m)) := by unfold dlJ; rw [if_neg z, if_neg y]
      rw [e] at K
      rw [s_5 c, r_5_6 c, r_5_3 c, s_19 c, e0c, e1c, e0, e1, s_1 c, s_2 c, s_227 c, cl_nI (by omega), l_1 c o1, l_2 c o1]
      exact ⟨rfl, by first | decide | exact vp_nI (j := 0) (by decide) (by decide) | exact vp_nI (j := 1) (by decide) (by decide), by first | decide | exact vp_nI (j := 0) (by decide) (by decide) | exact vp_nI (j := 1) (by decide) (by decide), rfl, by first | decide | exact vp_nI (j := 0) (by decide) (by decide) | exact vp_nI (j := 1) (by decide) (by decide), by omega, rfl, v7, by first | decide | exact vp_nI (j := 0) (by decide) (by decide) | exact vp_nI (j := 1) (by decide) (by decide), by omega, rfl, v7, rfl, sp_deal c B T E o2 l2 o3 r2 K⟩
  · have z : JK S m = 6 := by
      rw [show (6 : Int32) = nI 6 from rfl, nI_inj (by omega) (by omega)] at z; exact z
    rw [z] at o2 o3
    have o2 : JL S m + 2 ≤ bNs (S.1 0) := o2
    have o3 : JR S m + 2 ≤ bNs (S.1 1) := o3
    have e : dlJ S (JK S m) (JL S m) (JR S m) D = dlB S.2.2.2 (S.1 0) (S.1 1) (JL S m + 1) (JR S m) 1 (dlB S.2.2.2 (S.1 0) (S.1 1) (JL S m) (JR S m + 1) 1 D 1) 1 := by unfold dlJ; rw [if_pos z]
    rw [e] at K
    rw [r_5_6 c, r_5_3 c, s_19 c, e0c, e1c, e0, e1, s_227 c, show (1 : Int32) = nI 1 from rfl, nI_add, nI_add]
    refine ⟨by first | decide | exact vp_nI (j := 0) (by decide) (by decide) | exact vp_nI (j := 1) (by decide) (by decide), by first | decide | exact vp_nI (j := 0) (by decide) (by decide) | exact vp_nI (j := 1) (by decide) (by decide), rfl, by first | decide | exact vp_nI (j := 0) (by decide) (by decide) | exact vp_nI (j := 1) (by decide) (by decide), by omega, by first | decide | exact vp_nI (j := 0) (by decide) (by decide) | exact vp_nI (j := 1) (by decide) (by decide), by omega, rfl, sp_deal c B T E (by omega) (by decide) (by omega) (by decide) (fun h2 g2 E2 => ?_)⟩
    have c2 : Lay L h2 := g2.lay c (fun id j q => by unfold ddD at q; omega)
    have B2 : booksC h2 o S.1 := B.cg g2 (fun id j q => by unfold ddD at q; omega)
    have T2 : shareC h2 (bNk (S.1 0)) (bNk (S.1 1)) S.2.2.2 tm := T.cg g2 (fun id j q => by unfold ddD at q; omega)
    have x0 : hR h2 19 0 = o 0 := B2.1.1.1
    have x1 : hR h2 19 1 = o 1 := B2.1.1.2
    rw [s_5 c2, r_5_6 c2, r_5_3 c2, s_19 c2, x0, x1, s_227 c2]
    exact ⟨rfl, by first | decide | exact vp_nI (j := 0) (by decide) (by decide) | exact vp_nI (j := 1) (by decide) (by decide), by first | decide | exact vp_nI (j := 0) (by decide) (by decide) | exact vp_nI (j := 1) (by decide) (by decide), rfl, by first | decide | exact vp_nI (j := 0) (by decide) (by decide) | exact vp_nI (j := 1) (by decide) (by decide), by omega, by first | decide | exact vp_nI (j := 0) (by decide) (by decide) | exact vp_nI (j := 1) (by decide) (by decide), by omega, rfl, sp_deal c2 B2 T2 E2 (by omega) (by decide) (by omega) (by decide) (fun h3 g3 E3 => K h3 (g2.trans g3) E3)⟩
def rcD (id j : Nat) : Prop := (229 ≤ id ∧ id ≤ 268) ∨ (270 ≤ id ∧ id ≤ 309) ∨ (id = 5 ∧ j = 11)
theorem sp_playRound {Q : Hp → Prop} (c : Lay L h) (B : booksC h o S.1) (T : shareC h (bNk (S.1 0)) (bNk (S.1 1)) S.2.2.2 tm) (q12 : hI h 311 12 = nI (JN S)) (J : jsC h S) (K : ∀ h', Cg rcD h h' → hI h' 5 11 = 1 → shareC h' (bNk (S.1 0)) (bNk (S.1 1)) (rnd S tm) tm → Q h') : AC w mX9_playRound 0 0 (rV Q) [.ref 5] h := by
  have n0 := B.2.1.1.1
  have n1 := B.2.2.1.1
  have hJ := JN_le (S := S) n0 n1
  refine eX9_playRound (sX9_playRound_0 ?_)
  rw [s_5 c, r_5_6 c, s_227 c]
  refine ⟨rfl, by first | decide | exact vp_nI (j := 0) (by decide) (by decide) | exact vp_nI (j := 1) (by decide) (by decide), rfl, sp_startDealing c T (fun h1 g1 E1 => ?_)⟩
  have lp : ∀ (d m : Nat) (h' : Hp), m + d = JN S → Cg ddD h h' → dlC h' (bNk (S.1 0)) (bNk (S.1 1)) (dlA S m) → AW w mX9_playRound 0 0 (rV Q) 0 0 9 [some (.ref 5), some (.int (nI m))] [] h' := by
    intro d
    induction d with
    | zero =>
      intro m h' hm g E
      have hm : m = JN S := by omega
      have c' : Lay L h' := g.lay c (fun id j q => by unfold ddD at q; omega)
      have T' : shareC h' (bNk (S.1 0)) (bNk (S.1 1)) S.2.2.2 tm := T.cg g (fun id j q => by unfold ddD at q; omega)
      have e12 : hI h' 311 12 = nI (JN S) := by rw [g.i (by unfold ddD; omega)]; exact q12
      rw [hm] at E ⊢
      refine sX9_playRound_9 ?_
      rw [s_5 c', r_5_7 c', s_311 c', e12, r_5_6 c', s_227 c']
      refine ⟨rfl, by first | decide | exact vp_nI (j := 0) (by decide) (by decide) | exact vp_nI (j := 1) (by decide) (by decide), rfl, fun _ => ⟨by first | decide | exact vp_nI (j := 0) (by decide) (by decide) | exact vp_nI (j := 1) (by decide) (by decide), rfl, sp_settle c' B.2.1.1 B.2.2.1 T' E (fun h2 g2 T2 => ⟨by rw [s_5 (g2.lay c' (fun id j q => by omega))], fun h3 e3 => ?_⟩)⟩, fun z => absurd ?_ z⟩
      · subst e3
        have g3 : Cg rcD h (sI h2 5 11 1) := ((g.mono (fun id j q => by unfold ddD at q; unfold rcD; omega)).trans (g2.mono (fun id j q => by unfold rcD; omega))).sI (by unfold rcD; omega)
        exact K _ g3 hI_eq (T2.cg ((Cg.rfl' h2).sI (D := fun id j => id = 5) rfl) (fun id j q => by omega))
      · rw [ti_le]; omega
    | succ d ih =>
      intro m h' hm g E
      have c' : Lay L h' := g.lay c (fun id j q => by unfold ddD at q; omega)
      have T' : shareC h' (bNk (S.1 0)) (bNk (S.1 1)) S.2.2.2 tm := T.cg g (fun id j q => by unfold ddD at q; omega)
      have B' : booksC h' o S.1 := B.cg g (fun id j q => by unfold ddD at q; omega)
      have e12 : hI h' 311 12 = nI (JN S) := by rw [g.i (by unfold ddD; omega)]; exact q12
      have J' : jsC h' S := fun x hx => by
        rw [g.i (by unfold ddD; omega), g.i (by unfold ddD; omega), g.i (by unfold ddD; omega), g.i (by unfold ddD; omega)]; exact J x hx
      refine sX9_playRound_9 ?_
      rw [s_5 c', r_5_7 c', s_311 c', e12, nI_1]
      refine ⟨rfl, by first | decide | exact vp_nI (j := 0) (by decide) (by decide) | exact vp_nI (j := 1) (by decide) (by decide), rfl, fun z => ?_, fun _ => sp_dealJoint c' B' T' J' E (by omega) (fun h2 g2 E2 => ih (m + 1) h2 (by omega) (g.trans g2) E2)⟩
      rw [ti_le, nI_toInt (by omega), nI_toInt (by omega)] at z; omega
  exact lp (JN S) 0 h1 (by omega) g1 E1
noncomputable def fRounds (S : Ly) (tm : Nat → Int32) (n : Int32) : Int32 × Sh := if inR n 11 = true then (if LSs S 0 0 < 1000000000 then (n, rnds S.1 S.2.1 S.2.2.1 tm S.2.2.2 n.toNatClampNeg) else (0, S.2.2.2)) else (-100002, S.2.2.2)
def roD (id j : Nat) : Prop := (312 ≤ id ∧ id ≤ 322) ∨ (id = 311 ∧ (j = 11 ∨ j = 12)) ∨ (229 ≤ id ∧ id ≤ 268) ∨ (270 ≤ id ∧ id ≤ 309) ∨ (id = 5 ∧ j = 11)
theorem sp_rounds {Q : Int32 → Hp → Prop} {n : Int32} (c : Lay L h) (T : lyC h o S) (D : shareC h (bNk (S.1 0)) (bNk (S.1 1)) S.2.2.2 tm) (W : hI h 5 11 = 0 → WC h S) (K : ∀ h', Cg roD h h' → shareC h' (bNk (S.1 0)) (bNk (S.1 1)) (fRounds S tm n).2 tm → (hI h' 5 11 = 0 → WC h' (S.1, S.2.1, S.2.2.1, (fRounds S tm n).2)) → Q (fRounds S tm n).1 h') : AC w mX9_rounds 0 0 (rI Q) [.ref 5, .int n] h := by
  have n0 := T.1.2.1.1.1
  have n1 := T.1.2.2.1.1
  have bad : inR n 11 = false → Q (-100002) h := fun z => by
    have e : fRounds S tm n = (-100002, S.2.2.2) := by rw [fRounds, z]; rfl
    rw [e] at K
    exact K h (Cg.rfl' h) D W
  refine eX9_rounds (sX9_rounds_0 ⟨fun z => ?_, fun z => ⟨fun z2 => ?_, fun z2 => ?_⟩⟩)
  · rw [ti_lt, t_0] at z; exact bad (inR_f (by omega))
  · rw [ti_lt, t_0] at z
    rw [ti_le, t_10] at z2
    have hin : inR n 11 = true := inR_t (by omega) (by omega)
    obtain ⟨x, hx, rfl⟩ := inR_nI hin (by decide)
    refine ⟨by rw [s_5 c], sp_layAnew c T D W (fun h1 g st W1 => ?_)⟩
    have g' : Cg roD h h1 := g.mono (fun id j q => by unfold wyE at q; unfold roD; omega)
    have c1 : Lay L h1 := g'.lay c (fun id j q => by unfold roD at q; omega)
    have T1 : lyC h1 o S := T.cg g (fun id j q => by unfold wyE at q; omega)
    have D1 : shareC h1 (bNk (S.1 0)) (bNk (S.1 1)) S.2.2.2 tm := D.cg g (fun id j q => by unfold wyE at q; omega)
    rw [s_5 c1, r_5_7 c1, s_311 c1, W1.2.2.2.1]
    refine ⟨rfl, by first | decide | exact vp_nI (j := 0) (by decide) (by decide) | exact vp_nI (j := 1) (by decide) (by decide), rfl, fun y => ?_, fun y => ?_⟩
    · rw [b01_ne] at y
      have y := of_decide_eq_true y
      have e : fRounds S tm (nI x) = (nI x, rnds S.1 S.2.1 S.2.2.1 tm S.2.2.2 x) := by rw [fRounds, if_pos hin, if_pos y, cl_nI (by omega)]
      rw [e] at K
      have lp : ∀ (d k : Nat) (h' : Hp), k + d = x → Cg roD h h' → lyC h' o (S.1, S.2.1, S.2.2.1, rnds S.1 S.2.1 S.2.2.1 tm S.2.2.2 k) → shareC h' (bNk (S.1 0)) (bNk (S.1 1)) (rnds S.1 S.2.1 S.2.2.1 tm S.2.2.2 k) tm → (hI h' 5 11 = 0 → WC h' (S.1, S.2.1, S.2.2.1, rnds S.1 S.2.1 S.2.2.1 tm S.2.2.2 k)) → AW w mX9_rounds 0 0 (rI Q) 0 0 31 [some (.ref 5), some (.int (nI x)), some (.int (nI k))] [] h' := by
        intro d
        induction d with
        | zero =>
          intro k h' hk g2 T2 D2 W2
          have hk : k = x := by omega
          subst hk
          exact sX9_rounds_31 ⟨fun _ => K h' g2 D2 W2, fun q => absurd (by rw [ti_le]; omega) q⟩
        | succ d ih =>
          intro k h' hk g2 T2 D2 W2
          have c2 : Lay L h' := g2.lay c (fun id j q => by unfold roD at q; omega)
          refine sX9_rounds_31 ⟨fun q => ?_, fun _ => ⟨by rw [s_5 c2], sp_layAnew c2 T2 D2 W2 (fun h3 g3 st3 W3 => ?_)⟩⟩
          · rw [ti_le, nI_toInt (by omega), nI_toInt (by omega)] at q; omega
          have c3 : Lay L h3 := g3.lay c2 (fun id j q => by unfold wyE at q; omega)
          have T3 : lyC h3 o (S.1, S.2.1, S.2.2.1, rnds S.1 S.2.1 S.2.2.1 tm S.2.2.2 k) := T2.cg g3 (fun id j q => by unfold wyE at q; omega)
          have D3 : shareC h3 (bNk (S.1 0)) (bNk (S.1 1)) (rnds S.1 S.2.1 S.2.2.1 tm S.2.2.2 k) tm := D2.cg g3 (fun id j q => by unfold wyE at q; omega)
          refine ⟨by rw [s_5 c3], sp_playRound (S := (S.1, S.2.1, S.2.2.1, rnds S.1 S.2.1 S.2.2.1 tm S.2.2.2 k)) c3 T3.1 D3 W3.2.2.2.2.1 W3.2.2.2.2.2 (fun h4 g4 st4 D4 => ?_)⟩
          rw [nI_1]
          refine ih (k + 1) h4 (by omega) ((g2.trans (g3.mono (fun id j q => by unfold wyE at q; unfold roD; omega))).trans (g4.mono (fun id j q => by unfold rcD at q; unfold roD; omega))) (T3.cg g4 (fun id j q => by unfold rcD at q; omega)) D4 (fun q => by rw [st4] at q; exact absurd q (by decide))
      exact lp x 0 h1 (by omega) g' T1 D1 (fun _ => W1)
    · rw [b01_eq] at y
      have y := of_decide_eq_false y
      have e : fRounds S tm (nI x) = (0, S.2.2.2) := by rw [fRounds, if_pos hin, if_neg y]
      rw [e] at K
      exact K h1 g' D1 (fun _ => W1)
  · rw [ti_le, t_10] at z2; exact bad (inR_f (by omega))
end RD
