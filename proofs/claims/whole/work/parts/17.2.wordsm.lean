/-! ===== the reference: letters, words, short forms ===== -/
/-- nothing but the places D has changed -/
def Cg (D : Nat → Nat → Prop) (h h' : Hp) : Prop := h'.1 = h.1 ∧ hs h' = hs h ∧ hR h' = hR h ∧ ∀ id j, ¬ D id j → hI h' id j = hI h id j ∧ hL h' id j = hL h id j
theorem Cg.rfl' {D : Nat → Nat → Prop} (h : Hp) : Cg D h h := ⟨rfl, rfl, rfl, fun _ _ _ => ⟨rfl, rfl⟩⟩
theorem Cg.trans {D : Nat → Nat → Prop} {h h1 h2 : Hp} (a : Cg D h h1) (b : Cg D h1 h2) : Cg D h h2 := ⟨b.1.trans a.1, b.2.1.trans a.2.1, b.2.2.1.trans a.2.2.1, fun id j hd => ⟨(b.2.2.2 id j hd).1.trans (a.2.2.2 id j hd).1, (b.2.2.2 id j hd).2.trans (a.2.2.2 id j hd).2⟩⟩
theorem Cg.mono {D E : Nat → Nat → Prop} {h h' : Hp} (a : Cg D h h') (hd : ∀ id j, D id j → E id j) : Cg E h h' := ⟨a.1, a.2.1, a.2.2.1, fun id j he => a.2.2.2 id j (fun q => he (hd id j q))⟩
theorem Cg.sI {D : Nat → Nat → Prop} {h h' : Hp} (a : Cg D h h') {b i : Nat} {v : Int32} (hb : D b i) : Cg D h (sI h' b i v) := ⟨a.1, a.2.1, a.2.2.1, fun id j hd => ⟨by
  rw [hI_sI, u2_n (by
    by_cases e : id = b
    · right; intro e2; subst e e2; exact hd hb
    · exact Or.inl e)]
  exact (a.2.2.2 id j hd).1, (a.2.2.2 id j hd).2⟩⟩
theorem Cg.sL {D : Nat → Nat → Prop} {h h' : Hp} (a : Cg D h h') {b i : Nat} {v : Int64} (hb : D b i) : Cg D h (sL h' b i v) := ⟨a.1, a.2.1, a.2.2.1, fun id j hd => ⟨(a.2.2.2 id j hd).1, by
  rw [hL_sL, u2_n (by
    by_cases e : id = b
    · right; intro e2; subst e e2; exact hd hb
    · exact Or.inl e)]
  exact (a.2.2.2 id j hd).2⟩⟩
theorem Cg.of {D : Nat → Nat → Prop} {E : Nat → Prop} {h h' : Hp} (a : Chg E h h') (hd : ∀ id j, E id → D id j) : Cg D h h' := ⟨a.1, a.2.1, a.2.2.1, fun id j q => a.2.2.2 id (fun z => q (hd id j z)) j⟩
theorem Cg.lay {D : Nat → Nat → Prop} {h h' : Hp} {L : Nat} (a : Cg D h h') (c : Lay L h) (hD : ∀ id j, D id j → 5 ≤ id) : Lay L h' := ⟨⟨by rw [a.1]; exact c.1.1, by rw [a.2.1]; exact c.1.2.1, by rw [a.2.1]; exact c.1.2.2⟩, by rw [a.2.2.1]; exact c.2.1, fun b j h1 h2 => by rw [(a.2.2.2 b j (fun q => by have := hD b j q; omega)).1]; exact c.2.2 b j h1 h2⟩
theorem Cg.i {D : Nat → Nat → Prop} {h h' : Hp} (a : Cg D h h') {id j : Nat} (hd : ¬ D id j) : hI h' id j = hI h id j := (a.2.2.2 id j hd).1
def bufM (h : Hp) (W : Wr) : Prop := okW W ∧ hI h 347 21 = nI W.1 ∧ ∀ i, i < W.1 → hI h 363 i = nI (W.2 i)
def wlM (h : Hp) (A B R n : Nat) (z : Nat → Nat) (l : Nat → Nat → Nat) : Prop := n ≤ R ∧ (∀ k, k < n → z k ≤ 10 ∧ hI h A k = nI (z k)) ∧ ∀ k, k < n → ∀ i, i < z k → l k i < 128 ∧ hI h B (10 * k + i) = nI (l k i)
abbrev Sf : Type := Nat × (Nat → Nat) × (Nat → Nat → Nat)
def shortC (h : Hp) (sf : Sf) : Prop := wlC h 8 6 sf.1 sf.2.1 sf.2.2
def shortM (h : Hp) (sf : Sf) : Prop := hI h 347 4 = nI sf.1 ∧ wlM h 350 349 6 sf.1 sf.2.1 sf.2.2
def isSh (sf : Sf) (W : Wr) : Bool := (fW sf.2.1 sf.2.2 W sf.1).isSome
def cutR (t : Tp) : Nat → Nat → Wr → Nat × Wr
  | 0, p, W => (p, W)
  | d + 1, p, W => if ltr t p = 0 then (p, W) else cutR t d (p + 1) (wAdd W (ltr t p))
theorem ltr_out {t : Tp} {p : Nat} (h : t.1 ≤ p) : ltr t p = 0 := by rw [ltr, if_neg (by omega)]
theorem ltr_lt {t : Tp} {p : Nat} (h : ltr t p ≠ 0) : p < t.1 := by
  by_cases q : p < t.1
  · exact q
  · exact absurd (ltr_out (by omega)) h
theorem ltr_128 {t : Tp} {p : Nat} : ltr t p < 128 := by
  by_cases q : ltr t p = 0
  · omega
  · exact (sml_l q).2
section MW
variable {w : Wd} {L : Nat} {h : Hp} {Q : Int32 → Hp → Prop} {t : Tp} {W : Wr} {sf : Sf}
theorem sp_isDigitM {x : Int32} (c : Lay L h) (D : tapeM h t) (K : Q (b01 (dgI t x)) h) : AC w mX10_isDigit 0 0 (rI Q) [.ref 347, .int x] h := by
  have hn := D.1
  refine eX10_isDigit (sX10_isDigit_0 ?_)
  cases q : inR x t.1 with
  | false =>
    have K : Q 0 h := Qto K (by rw [dgI, q]; rfl)
    have q := of_decide_eq_false q
    simp (disch := omega) only [s_347 c, r_347_0 c, s_348 c, D.2.1, forall_eq, hs_sI, hs_sL, hR_sI, hR_sL, hI_eq, hI_ne, hI_sL, hL_sI, ti_lt, ti_le, ti_eq, nI_toInt, cl_nI, nI_1, nI_add, t_0, t_1, t_2, t_3, t_4, t_5, t_6, t_7, t_8, t_9, t_10, t_12, t_15, t_16, t_20, t_21, t_24, t_26, t_30, t_31, t_32, t_33, t_39, t_40, t_41, t_45, t_46, t_47, t_48, t_57, t_60, t_63, t_65, t_90, t_97, t_100, t_122, t_200, t_230, t_240, t_255, t_400, t_440, t_441, t_450, t_480, t_1580, t_1600, t_10000, t_131071, t_131072, t_1048576, t_1000000000, tm_1, tm_100001, tm_100002, tm_100003, tm_100004]
    exact ⟨fun _ => K, fun _ => ⟨trivial, fun _ => K, fun _ => by omega⟩⟩
  | true =>
    obtain ⟨p, hp, rfl⟩ := inR_nI q (by omega)
    obtain ⟨hb, hv⟩ := D.2.2 p hp
    have K' : Q (b01 (decide (48 ≤ t.2 p ∧ t.2 p ≤ 57))) h := Qto K (by rw [dgI, q, cl_nI (by omega), isDg]; simp [hp])
    simp (disch := omega) only [s_347 c, r_347_0 c, s_348 c, D.2.1, hv, forall_eq, hs_sI, hs_sL, hR_sI, hR_sL, hI_eq, hI_ne, hI_sL, hL_sI, ti_lt, ti_le, ti_eq, nI_toInt, cl_nI, nI_1, nI_add, t_0, t_1, t_2, t_3, t_4, t_5, t_6, t_7, t_8, t_9, t_10, t_12, t_15, t_16, t_20, t_21, t_24, t_26, t_30, t_31, t_32, t_33, t_39, t_40, t_41, t_45, t_46, t_47, t_48, t_57, t_60, t_63, t_65, t_90, t_97, t_100, t_122, t_200, t_230, t_240, t_255, t_400, t_440, t_441, t_450, t_480, t_1580, t_1600, t_10000, t_131071, t_131072, t_1048576, t_1000000000, tm_1, tm_100001, tm_100002, tm_100003, tm_100004]
    repeat' (first | exact trivial | (with_reducible refine And.intro ?_ ?_) | exact vp_nI (by omega) (by omega) | decide | (exact Qto K' (b0 (decide_eq_false (by omega)))) | (exact Qto K' (b1 (decide_eq_true (by omega)))) | (with_reducible intro z1; first | exact absurd trivial z1 | exact z1.elim) | (with_reducible intro z1) | omega)
theorem sp_letterOf {p : Nat} (c : Lay L h) (D : tapeM h t) (hp : p < 2147483647) (K : Q (nI (ltr t p)) h) : AC w mX10_letterOf 0 0 (rI Q) [.ref 347, .int (nI p)] h := by
  have hn := D.1
  refine eX10_letterOf (sX10_letterOf_0 ?_)
  by_cases q : p < t.1
  · obtain ⟨hb, hv⟩ := D.2.2 p q
    have hi : (65 ≤ t.2 p ∧ t.2 p ≤ 90) → Q (nI (t.2 p) + 32) h := fun z => Qto K (by rw [ltr, if_pos q, if_pos z, show (32 : Int32) = nI 32 from rfl, nI_add])
    have mid : ¬ (65 ≤ t.2 p ∧ t.2 p ≤ 90) → ((97 ≤ t.2 p ∧ t.2 p ≤ 122) ∨ (48 ≤ t.2 p ∧ t.2 p ≤ 57)) → Q (nI (t.2 p)) h := fun z y => Qto K (by rw [ltr, if_pos q, if_neg z, if_pos y])
    have low : ¬ (65 ≤ t.2 p ∧ t.2 p ≤ 90) → ¬ ((97 ≤ t.2 p ∧ t.2 p ≤ 122) ∨ (48 ≤ t.2 p ∧ t.2 p ≤ 57)) → AW w mX10_letterOf 0 0 (rI Q) 0 0 60 [some (.ref 347), some (.int (nI p)), some (.int (nI (t.2 p)))] [] h := fun z y => by
      have hl : ltr t p = if t.2 p = 46 ∧ p ≠ 0 ∧ isDg t (p - 1) = true ∧ isDg t (p + 1) = true then 46 else 0 := by rw [ltr, if_pos q, if_neg z, if_neg y]
      have K1 : ¬ (t.2 p = 46 ∧ p ≠ 0 ∧ isDg t (p - 1) = true ∧ isDg t (p + 1) = true) → Q 0 h := fun v => Qto K (by rw [hl, if_neg v]; rfl)
      refine sX10_letterOf_60 ?_
      rw [ti_eq, t_46, nI_toInt (by omega)]
      refine ⟨fun v => K1 (by omega), fun v => ⟨by rw [s_347 c], sp_isDigitM c D ?_⟩⟩
      rw [dg_m hn (by omega), b01_ne, b01_eq]
      refine ⟨fun v2 => K1 (fun z => ?_), fun v2 => ⟨by rw [s_347 c], ?_⟩⟩
      · rw [decide_eq_true z.2.1, z.2.2.1] at v2; cases v2
      · rw [nI_1]
        refine sp_isDigitM c D ?_
        rw [dg_n hn (by omega), b01_ne, b01_eq]
        rw [Bool.and_eq_true] at v2
        refine ⟨fun v3 => K1 (fun z => ?_), fun v3 => Qto K (by rw [hl, if_pos ⟨by omega, of_decide_eq_true v2.1, v2.2, v3⟩]; congr 1; omega)⟩
        rw [z.2.2.2] at v3; cases v3
    have m34 : ¬ (65 ≤ t.2 p ∧ t.2 p ≤ 90) → AW w mX10_letterOf 0 0 (rI Q) 0 0 34 [some (.ref 347), some (.int (nI p)), some (.int (nI (t.2 p)))] [] h := fun z => by
      refine sX10_letterOf_34 ?_
      simp (disch := omega) only [forall_eq, hs_sI, hs_sL, hR_sI, hR_sL, hI_eq, hI_ne, hI_sL, hL_sI, ti_lt, ti_le, ti_eq, nI_toInt, cl_nI, nI_1, nI_add, t_0, t_1, t_2, t_3, t_4, t_5, t_6, t_7, t_8, t_9, t_10, t_12, t_15, t_16, t_20, t_21, t_24, t_26, t_30, t_31, t_32, t_33, t_39, t_40, t_41, t_45, t_46, t_47, t_48, t_57, t_60, t_63, t_65, t_90, t_97, t_100, t_122, t_200, t_230, t_240, t_255, t_400, t_440, t_441, t_450, t_480, t_1580, t_1600, t_10000, t_131071, t_131072, t_1048576, t_1000000000, tm_1, tm_100001, tm_100002, tm_100003, tm_100004]
      repeat' (first | exact trivial | (with_reducible refine And.intro ?_ ?_) | exact vp_nI (by omega) (by omega) | decide | (exact low (by omega) (by omega)) | (exact mid (by omega) (by omega)) | (with_reducible intro z1; first | exact absurd trivial z1 | exact z1.elim) | (with_reducible intro z1) | omega)
    simp (disch := omega) only [s_347 c, r_347_0 c, s_348 c, D.2.1, hv, forall_eq, hs_sI, hs_sL, hR_sI, hR_sL, hI_eq, hI_ne, hI_sL, hL_sI, ti_lt, ti_le, ti_eq, nI_toInt, cl_nI, nI_1, nI_add, t_0, t_1, t_2, t_3, t_4, t_5, t_6, t_7, t_8, t_9, t_10, t_12, t_15, t_16, t_20, t_21, t_24, t_26, t_30, t_31, t_32, t_33, t_39, t_40, t_41, t_45, t_46, t_47, t_48, t_57, t_60, t_63, t_65, t_90, t_97, t_100, t_122, t_200, t_230, t_240, t_255, t_400, t_440, t_441, t_450, t_480, t_1580, t_1600, t_10000, t_131071, t_131072, t_1048576, t_1000000000, tm_1, tm_100001, tm_100002, tm_100003, tm_100004]
    repeat' (first | exact trivial | (with_reducible refine And.intro ?_ ?_) | exact vp_nI (by omega) (by omega) | decide | (exact m34 (by omega)) | (exact hi (by omega)) | (with_reducible intro z1; first | exact absurd trivial z1 | exact z1.elim) | (with_reducible intro z1) | omega)
  · have K : Q 0 h := Qto K (by rw [ltr, if_neg q]; rfl)
    simp (disch := omega) only [s_347 c, r_347_0 c, s_348 c, D.2.1, forall_eq, hs_sI, hs_sL, hR_sI, hR_sL, hI_eq, hI_ne, hI_sL, hL_sI, ti_lt, ti_le, ti_eq, nI_toInt, cl_nI, nI_1, nI_add, t_0, t_1, t_2, t_3, t_4, t_5, t_6, t_7, t_8, t_9, t_10, t_12, t_15, t_16, t_20, t_21, t_24, t_26, t_30, t_31, t_32, t_33, t_39, t_40, t_41, t_45, t_46, t_47, t_48, t_57, t_60, t_63, t_65, t_90, t_97, t_100, t_122, t_200, t_230, t_240, t_255, t_400, t_440, t_441, t_450, t_480, t_1580, t_1600, t_10000, t_131071, t_131072, t_1048576, t_1000000000, tm_1, tm_100001, tm_100002, tm_100003, tm_100004]
    repeat' (first | exact trivial | (with_reducible refine And.intro ?_ ?_) | exact vp_nI (by omega) (by omega) | decide | (exact K) | (with_reducible intro z1; first | exact absurd trivial z1 | exact z1.elim) | (with_reducible intro z1) | omega)
def cwD (id j : Nat) : Prop := (id = 347 ∧ (j = 21 ∨ j = 22)) ∨ id = 363
theorem cutWord_lp {Q : Hp → Prop} {p0 : Nat} (c : Lay L h) (D : tapeM h t) (K : ∀ h', Cg cwD h h' → hI h' 347 22 = nI (cutR t (t.1 - p0) p0 w0).1 → bufM h' (cutR t (t.1 - p0) p0 w0).2 → Q h') :
    ∀ (d p : Nat) (W : Wr) (h' : Hp), p + d = t.1 → cutR t d p W = cutR t (t.1 - p0) p0 w0 → Cg cwD h h' → hI h' 347 22 = nI p → bufM h' W → AW w mX10_cutWord 0 0 (rV Q) 0 0 5 [some (.ref 347)] [] h' := by
  have hn := D.1
  have tm : ∀ {h'}, Cg cwD h h' → tapeM h' t := fun a => ⟨D.1, by rw [a.i (by unfold cwD; omega)]; exact D.2.1, fun i hi => ⟨(D.2.2 i hi).1, by rw [a.i (by unfold cwD; omega)]; exact (D.2.2 i hi).2⟩⟩
  intro d
  induction d with
  | zero =>
    intro p W h' hp he a ha B
    have c' : Lay L h' := a.lay c (fun id j q => by unfold cwD at q; omega)
    refine sX10_cutWord_5 ⟨by rw [s_347 c'], ?_⟩
    rw [ha]
    refine sp_letterOf c' (tm a) (by omega) ?_
    rw [ltr_out (by omega)]
    refine ⟨fun _ => K h' a ?_ ?_, fun z => absurd rfl z⟩
    · rw [← he]; exact ha
    · rw [← he]; exact B
  | succ d ih =>
    intro p W h' hp he a ha B
    have c' : Lay L h' := a.lay c (fun id j q => by unfold cwD at q; omega)
    have h10 := B.1.1
    refine sX10_cutWord_5 ⟨by rw [s_347 c'], ?_⟩
    rw [ha]
    refine sp_letterOf c' (tm a) (by omega) ?_
    rw [nI_0' (Nat.lt_trans ltr_128 (by decide))]
    have e : cutR t (d + 1) p W = if ltr t p = 0 then (p, W) else cutR t d (p + 1) (wAdd W (ltr t p)) := rfl
    rw [e] at he
    refine ⟨fun z => ?_, fun z => ?_⟩
    · rw [if_pos z] at he
      exact K h' a (by rw [← he]; exact ha) (by rw [← he]; exact B)
    · rw [if_neg z] at he
      by_cases q : W.1 < 10
      · have e : wAdd W (ltr t p) = (W.1 + 1, fun i => if i = W.1 then ltr t p else W.2 i) := if_pos q
        have nx := ih (p + 1) (wAdd W (ltr t p)) (sI (sI (sI h' 363 W.1 (nI (ltr t p))) 347 21 (nI (W.1 + 1))) 347 22 (nI (p + 1))) (by omega) he (((a.sI (Or.inr rfl)).sI (Or.inl ⟨rfl, Or.inl rfl⟩)).sI (Or.inl ⟨rfl, Or.inr rfl⟩)) hI_eq (by
          have ok := B.1.add (c := ltr t p) ltr_128
          rw [e] at ok ⊢
          refine ⟨ok, by simp (disch := omega) only [hI_ne, hI_eq], fun i hi => ?_⟩
          have hi : i < W.1 + 1 := hi
          simp (disch := omega) only [hI_ne]
          show _ = nI (if i = W.1 then _ else _)
          by_cases r : i = W.1
          · subst r; rw [if_pos rfl, hI_eq]
          · rw [if_neg r, hI_ne (Or.inr r)]; exact B.2.2 i (by omega))
        simp (disch := omega) only [s_347 c', B.2.1, r_347_20 c', ha, forall_eq, hs_sI, hs_sL, hR_sI, hR_sL, hI_eq, hI_ne, hI_sL, hL_sI, ti_lt, ti_le, ti_eq, nI_toInt, cl_nI, nI_1, nI_add, t_0, t_1, t_2, t_3, t_4, t_5, t_6, t_7, t_8, t_9, t_10, t_12, t_15, t_16, t_20, t_21, t_24, t_26, t_30, t_31, t_32, t_33, t_39, t_40, t_41, t_45, t_46, t_47, t_48, t_57, t_60, t_63, t_65, t_90, t_97, t_100, t_122, t_200, t_230, t_240, t_255, t_400, t_440, t_441, t_450, t_480, t_1580, t_1600, t_10000, t_131071, t_131072, t_1048576, t_1000000000, tm_1, tm_100001, tm_100002, tm_100003, tm_100004]
        refine ⟨trivial, fun z => by omega, fun _ => ⟨by decide, sp_letterOf c' (tm a) (by omega) ?_⟩⟩
        simp (disch := omega) only [s_363 c', s_347 c', hI_ne, hI_eq, B.2.1, ha, forall_eq, hs_sI, hs_sL, hR_sI, hR_sL, hI_eq, hI_ne, hI_sL, hL_sI, ti_lt, ti_le, ti_eq, nI_toInt, cl_nI, nI_1, nI_add, t_0, t_1, t_2, t_3, t_4, t_5, t_6, t_7, t_8, t_9, t_10, t_12, t_15, t_16, t_20, t_21, t_24, t_26, t_30, t_31, t_32, t_33, t_39, t_40, t_41, t_45, t_46, t_47, t_48, t_57, t_60, t_63, t_65, t_90, t_97, t_100, t_122, t_200, t_230, t_240, t_255, t_400, t_440, t_441, t_450, t_480, t_1580, t_1600, t_10000, t_131071, t_131072, t_1048576, t_1000000000, tm_1, tm_100001, tm_100002, tm_100003, tm_100004]
        exact ⟨trivial, vp_nI (by omega) (by decide), trivial, nx⟩
      · have e : wAdd W (ltr t p) = W := if_neg q
        rw [e] at he
        have nx := ih (p + 1) W (sI h' 347 22 (nI (p + 1))) (by omega) he (a.sI (Or.inl ⟨rfl, Or.inr rfl⟩)) hI_eq ⟨B.1, by simp (disch := omega) only [hI_ne, B.2.1], fun i hi => by simp (disch := omega) only [hI_ne]; exact B.2.2 i hi⟩
        simp (disch := omega) only [s_347 c', B.2.1, ha, forall_eq, hs_sI, hs_sL, hR_sI, hR_sL, hI_eq, hI_ne, hI_sL, hL_sI, ti_lt, ti_le, ti_eq, nI_toInt, cl_nI, nI_1, nI_add, t_0, t_1, t_2, t_3, t_4, t_5, t_6, t_7, t_8, t_9, t_10, t_12, t_15, t_16, t_20, t_21, t_24, t_26, t_30, t_31, t_32, t_33, t_39, t_40, t_41, t_45, t_46, t_47, t_48, t_57, t_60, t_63, t_65, t_90, t_97, t_100, t_122, t_200, t_230, t_240, t_255, t_400, t_440, t_441, t_450, t_480, t_1580, t_1600, t_10000, t_131071, t_131072, t_1048576, t_1000000000, tm_1, tm_100001, tm_100002, tm_100003, tm_100004]
        exact ⟨trivial, fun _ => nx, fun z => by omega⟩
theorem sp_cutWord {Q : Hp → Prop} {p : Nat} (c : Lay L h) (D : tapeM h t) (hp : p ≤ t.1) (ha : hI h 347 22 = nI p) (K : ∀ h', Cg cwD h h' → hI h' 347 22 = nI (cutR t (t.1 - p) p w0).1 → bufM h' (cutR t (t.1 - p) p w0).2 → Q h') : AC w mX10_cutWord 0 0 (rV Q) [.ref 347] h := by
  refine eX10_cutWord (sX10_cutWord_0 ⟨by rw [s_347 c], fun h1 e1 => ?_⟩)
  subst e1
  have cg : Cg cwD h (sI h 347 21 0) := (Cg.rfl' h).sI (Or.inl ⟨rfl, Or.inl rfl⟩)
  exact cutWord_lp c D K (t.1 - p) p w0 _ (by omega) rfl cg (by rw [hI_ne (Or.inr (by decide))]; exact ha) ⟨⟨by decide, fun i hi => by cases hi⟩, hI_eq, fun i hi => by cases hi⟩
theorem sp_isShort (c : Lay L h) (D : shortM h sf) (B : bufM h W) (K : Q (b01 (isSh sf W)) h) : AC w mX10_isShort 0 0 (rI Q) [.ref 347] h := by
  obtain ⟨n, z, l⟩ := sf
  obtain ⟨d1, d2, d3, d4⟩ := D
  have h10 := B.1.1
  have d1 : hI h 347 4 = nI n := d1
  have d2 : n ≤ 6 := d2
  have d3 : ∀ k, k < n → z k ≤ 10 ∧ hI h 350 k = nI (z k) := d3
  have d4 : ∀ k, k < n → ∀ i, i < z k → l k i < 128 ∧ hI h 349 (10 * k + i) = nI (l k i) := d4
  have yes : ∀ k, k < n → fW z l W k = none → eqW z l W k = true → ∀ k', AW w mX10_isShort 0 0 (rI Q) 0 0 4 [some (.ref 347), some (.int 1), some (.int k'), none] [] h := by
    intro k hk hf he k'
    have := fW_s hf he (n - (k + 1))
    rw [show k + 1 + (n - (k + 1)) = n by omega] at this
    have K : Q 1 h := Qto K (b1 (by show (fW z l W n).isSome = true; rw [this]; rfl))
    refine sX10_isShort_4 ⟨by rw [s_347 c], fun _ => ⟨Or.inr rfl, K⟩, fun _ => ⟨fun _ => ⟨Or.inr rfl, K⟩, fun z => absurd z (by decide)⟩⟩
  have lp : ∀ (d k : Nat), k + d = n → fW z l W k = none → AW w mX10_isShort 0 0 (rI Q) 0 0 4 [some (.ref 347), some (.int 0), some (.int (nI k)), none] [] h := by
    intro d
    induction d with
    | zero =>
      intro k hk hf
      have hk : k = n := by omega
      subst hk
      have K : Q 0 h := Qto K (b0 (by show (fW z l W k).isSome = false; rw [hf]; rfl))
      refine sX10_isShort_4 ?_
      simp (disch := omega) only [s_347 c, d1, forall_eq, hs_sI, hs_sL, hR_sI, hR_sL, hI_eq, hI_ne, hI_sL, hL_sI, ti_lt, ti_le, ti_eq, nI_toInt, cl_nI, nI_1, nI_add, t_0, t_1, t_2, t_3, t_4, t_5, t_6, t_7, t_8, t_9, t_10, t_12, t_15, t_16, t_20, t_21, t_24, t_26, t_30, t_31, t_32, t_33, t_39, t_40, t_41, t_45, t_46, t_47, t_48, t_57, t_60, t_63, t_65, t_90, t_97, t_100, t_122, t_200, t_230, t_240, t_255, t_400, t_440, t_441, t_450, t_480, t_1580, t_1600, t_10000, t_131071, t_131072, t_1048576, t_1000000000, tm_1, tm_100001, tm_100002, tm_100003, tm_100004]
      exact ⟨trivial, fun _ => ⟨Or.inl trivial, K⟩, fun z => by omega⟩
    | succ d ih =>
      intro k hk hf
      have hk' : k < n := by omega
      obtain ⟨e1, e2⟩ := d3 k hk'
      have no : eqW z l W k = false → AW w mX10_isShort 0 0 (rI Q) 0 0 4 [some (.ref 347), some (.int 0), some (.int (nI (k + 1))), none] [] h := fun q => ih (k + 1) (by omega) (fW_n hf q)
      have out : ∀ i, eqW z l W k = false → AW w mX10_isShort 0 0 (rI Q) 0 0 37 [some (.ref 347), some (.int 0), some (.int (nI k)), some (.int i)] [] h := fun i q => by
        refine sX10_isShort_37 ?_
        rw [nI_1]
        exact ⟨by rw [s_347 c], fun _ => no q, fun _ => ⟨fun _ => no q, fun z => absurd rfl z⟩⟩
      have inn : z k = W.1 → ∀ (e i : Nat), i + e = W.1 → (∀ j, j < i → l k j = W.2 j) → AW w mX10_isShort 0 0 (rI Q) 0 0 37 [some (.ref 347), some (.int 1), some (.int (nI k)), some (.int (nI i))] [] h := by
        intro hz e
        induction e with
        | zero =>
          intro i hi hj
          have y := yes k hk' hf (decide_eq_true ⟨hz, fun j hj' => hj j (by omega)⟩) (nI (k + 1))
          refine sX10_isShort_37 ?_
          simp (disch := omega) only [s_347 c, B.2.1, forall_eq, hs_sI, hs_sL, hR_sI, hR_sL, hI_eq, hI_ne, hI_sL, hL_sI, ti_lt, ti_le, ti_eq, nI_toInt, cl_nI, nI_1, nI_add, t_0, t_1, t_2, t_3, t_4, t_5, t_6, t_7, t_8, t_9, t_10, t_12, t_15, t_16, t_20, t_21, t_24, t_26, t_30, t_31, t_32, t_33, t_39, t_40, t_41, t_45, t_46, t_47, t_48, t_57, t_60, t_63, t_65, t_90, t_97, t_100, t_122, t_200, t_230, t_240, t_255, t_400, t_440, t_441, t_450, t_480, t_1580, t_1600, t_10000, t_131071, t_131072, t_1048576, t_1000000000, tm_1, tm_100001, tm_100002, tm_100003, tm_100004]
          exact ⟨trivial, fun _ => y, fun z => by omega⟩
        | succ e ie =>
          intro i hi hj
          obtain ⟨a1, a2⟩ := d4 k hk' i (by omega)
          have a3 := B.2.2 i (by omega)
          have a4 := B.1.2 i (by omega)
          refine sX10_isShort_37 ?_
          simp (disch := omega) only [s_347 c, r_347_2 c, s_349 c, r_347_20 c, s_363 c, m_10, B.2.1, a2, a3, forall_eq, hs_sI, hs_sL, hR_sI, hR_sL, hI_eq, hI_ne, hI_sL, hL_sI, ti_lt, ti_le, ti_eq, nI_toInt, cl_nI, nI_1, nI_add, t_0, t_1, t_2, t_3, t_4, t_5, t_6, t_7, t_8, t_9, t_10, t_12, t_15, t_16, t_20, t_21, t_24, t_26, t_30, t_31, t_32, t_33, t_39, t_40, t_41, t_45, t_46, t_47, t_48, t_57, t_60, t_63, t_65, t_90, t_97, t_100, t_122, t_200, t_230, t_240, t_255, t_400, t_440, t_441, t_450, t_480, t_1580, t_1600, t_10000, t_131071, t_131072, t_1048576, t_1000000000, tm_1, tm_100001, tm_100002, tm_100003, tm_100004]
          repeat' (first | exact trivial | (with_reducible refine And.intro ?_ ?_) | exact vp_nI (by omega) (by omega) | decide | ((exact out _ (decide_eq_false (fun q => by have := q.2 i (by omega); omega)))) | ((intro z1; exact ie (i + 1) (by omega) (fun j hj' => if e : j = i then by subst e; omega else hj j (by omega)))) | (with_reducible intro z1; first | exact absurd trivial z1 | exact z1.elim) | (with_reducible intro z1) | omega)
      refine sX10_isShort_4 ?_
      simp (disch := omega) only [s_347 c, r_347_3 c, s_350 c, d1, B.2.1, e2, forall_eq, hs_sI, hs_sL, hR_sI, hR_sL, hI_eq, hI_ne, hI_sL, hL_sI, ti_lt, ti_le, ti_eq, nI_toInt, cl_nI, nI_1, nI_add, t_0, t_1, t_2, t_3, t_4, t_5, t_6, t_7, t_8, t_9, t_10, t_12, t_15, t_16, t_20, t_21, t_24, t_26, t_30, t_31, t_32, t_33, t_39, t_40, t_41, t_45, t_46, t_47, t_48, t_57, t_60, t_63, t_65, t_90, t_97, t_100, t_122, t_200, t_230, t_240, t_255, t_400, t_440, t_441, t_450, t_480, t_1580, t_1600, t_10000, t_131071, t_131072, t_1048576, t_1000000000, tm_1, tm_100001, tm_100002, tm_100003, tm_100004]
      repeat' (first | exact trivial | (with_reducible refine And.intro ?_ ?_) | exact vp_nI (by omega) (by omega) | decide | ((exact out _ (decide_eq_false (by omega)))) | ((exact inn (by omega) W.1 0 (by omega) (fun j hj => by omega))) | (with_reducible intro z1; first | exact absurd trivial z1 | exact z1.elim) | (with_reducible intro z1) | omega)
  exact eX10_isShort (sX10_isShort_0 (lp n 0 (by omega) rfl))
end MW
