/-! ===== words (how many letters, which) and lists of words ===== -/
abbrev Wr : Type := Nat × (Nat → Nat)
def okW (W : Wr) : Prop := W.1 ≤ 10 ∧ ∀ i, i < W.1 → W.2 i < 128
def wAdd (W : Wr) (c : Nat) : Wr := if W.1 < 10 then (W.1 + 1, fun i => if i = W.1 then c else W.2 i) else W
def w0 : Wr := (0, fun _ => 0)
theorem okW.add {W : Wr} {c : Nat} (o : okW W) (hc : c < 128) : okW (wAdd W c) := by
  unfold wAdd
  split
  · refine ⟨by show W.1 + 1 ≤ 10; omega, fun i hi => ?_⟩
    have hi : i < W.1 + 1 := hi
    show (if i = W.1 then c else W.2 i) < 128
    split
    · exact hc
    · exact o.2 i (by omega)
  · exact o
def eqW (z : Nat → Nat) (l : Nat → Nat → Nat) (W : Wr) (k : Nat) : Bool := decide (z k = W.1 ∧ ∀ i, i < W.1 → l k i = W.2 i)
def fW (z : Nat → Nat) (l : Nat → Nat → Nat) (W : Wr) : Nat → Option Nat
  | 0 => none
  | n + 1 => match fW z l W n with
    | some k => some k
    | none => if eqW z l W n = true then some n else none
theorem fW_s {z : Nat → Nat} {l : Nat → Nat → Nat} {W : Wr} {k : Nat} (h0 : fW z l W k = none) (h1 : eqW z l W k = true) : ∀ d, fW z l W (k + 1 + d) = some k
  | 0 => by show (match fW z l W k with | some k => some k | none => if eqW z l W k = true then some k else none) = some k; rw [h0, h1]; rfl
  | d + 1 => by show (match fW z l W (k + 1 + d) with | some k => some k | none => _) = some k; rw [fW_s h0 h1 d]
theorem fW_n {z : Nat → Nat} {l : Nat → Nat → Nat} {W : Wr} {k : Nat} (h0 : fW z l W k = none) (h1 : eqW z l W k = false) : fW z l W (k + 1) = none := by
  show (match fW z l W k with | some k => some k | none => if eqW z l W k = true then some k else none) = none
  rw [h0, h1]; rfl
theorem fW_lt {z : Nat → Nat} {l : Nat → Nat → Nat} {W : Wr} : ∀ {n k : Nat}, fW z l W n = some k → k < n
  | 0, k, h => by cases h
  | n + 1, k, h => by
    have e : fW z l W (n + 1) = match fW z l W n with | some k => some k | none => if eqW z l W n = true then some n else none := rfl
    rw [e] at h
    cases q : fW z l W n with
    | some j =>
      rw [q] at h
      have h : some j = some k := h
      cases h
      have := fW_lt q
      omega
    | none =>
      rw [q] at h
      by_cases r : eqW z l W n = true
      · have h : (if eqW z l W n = true then some n else none) = some k := h
        rw [if_pos r] at h; cases h; omega
      · have h : (if eqW z l W n = true then some n else none) = some k := h
        rw [if_neg r] at h; cases h
def oI (o : Option Nat) : Int32 := match o with
  | some k => nI k
  | none => -1
theorem oI_n {o : Option Nat} (h : ∀ k, o = some k → k < 2147483648) : oI o = -1 ↔ o = none := by
  cases o with
  | none => exact ⟨fun _ => rfl, fun _ => rfl⟩
  | some k => exact ⟨fun q => absurd q (nI_m1 (h k rfl)), fun q => by cases q⟩
def WL (h : Hp) (o R : Nat) : Prop := (hs h o = (28, 0) ∧ hR h o 1 = o + 1 ∧ hs h (o + 1) = (7, R)) ∧ (hR h o 2 = o + 2 + R ∧ hs h (o + 2 + R) = (1, R)) ∧ (∀ k, k < R → hR h (o + 1) k = o + 2 + k) ∧ ∀ k, k < R → hs h (o + 2 + k) = (2, 10)
def wlC (h : Hp) (o R n : Nat) (z : Nat → Nat) (l : Nat → Nat → Nat) : Prop := n ≤ R ∧ hI h o 0 = nI R ∧ hI h o 3 = nI n ∧ (∀ k, k < n → z k ≤ 10 ∧ hI h (o + 2 + R) k = nI (z k)) ∧ ∀ k, k < n → ∀ i, i < z k → l k i < 128 ∧ hI h (o + 2 + k) i = nI (l k i)
def bufC (h : Hp) (W : Wr) : Prop := okW W ∧ hI h 17 3 = nI W.1 ∧ ∀ i, i < W.1 → hI h 18 i = nI (W.2 i)
theorem WL_s {L : Nat} {h : Hp} (c : Lay L h) : WL h 8 6 := ⟨⟨s_8 c, r_8_1 c, s_9 c⟩, ⟨r_8_2 c, s_16 c⟩, fun k hk => r_sl c hk, fun k hk => s_sl c hk⟩
theorem WL_k {L : Nat} {h : Hp} (c : Lay L h) {b : Nat} (hb : isBk b) : WL h (b + 1) 40 := ⟨⟨sb_1 c hb, rb_1_1 c hb, sb_2 c hb⟩, ⟨by rw [rb_1_2 c hb], sb_43 c hb⟩, fun k hk => by rw [rb_kl c hb hk], fun k hk => sb_kl c hb hk⟩
section WC
variable {w : Wd} {L : Nat} {h : Hp} {Q : Int32 → Hp → Prop} {t : Tp} {W : Wr} {o R n : Nat} {z : Nat → Nat} {l : Nat → Nat → Nat}
theorem sp_isAt {k : Nat} (c : Lay L h) (hW : WL h o R) (hR : R ≤ 40) (D : wlC h o R n z l) (B : bufC h W) (hk : k < n) (K : Q (b01 (eqW z l W k)) h) : AC w mX8_isAt 0 0 (rI Q) [.ref o, .int (nI k), .ref 18, .int (nI W.1)] h := by
  have hn := D.1
  have h10 := B.1.1
  have hz := D.2.2.2.1 k hk
  have hl := D.2.2.2.2 k hk
  obtain ⟨⟨w1, w2, w3⟩, ⟨w4, w5⟩, w6, w7⟩ := hW
  have lp : z k = W.1 → ∀ (d i : Nat), i + d = W.1 → (∀ j, j < i → l k j = W.2 j) → AW w mX8_isAt 0 0 (rI Q) 0 0 15 [some (.ref o), some (.int (nI k)), some (.ref 18), some (.int (nI W.1)), some (.int (nI i))] [] h := by
    intro ez d
    induction d with
    | zero =>
      intro i hi hj
      refine sX8_isAt_15 ?_
      have K1 : Q 1 h := Qto K (b1 (decide_eq_true ⟨ez, fun j hj' => hj j (by omega)⟩))
      simp (disch := omega) only [forall_eq, hs_sI, hs_sL, hR_sI, hR_sL, hI_eq, hI_ne, hI_sL, hL_sI, ti_lt, ti_le, ti_eq, nI_toInt, cl_nI, nI_1, nI_add, t_0, t_1, t_2, t_3, t_4, t_5, t_6, t_7, t_8, t_9, t_10, t_12, t_15, t_16, t_20, t_21, t_24, t_26, t_30, t_31, t_32, t_33, t_39, t_40, t_41, t_45, t_46, t_47, t_48, t_57, t_60, t_63, t_65, t_90, t_97, t_100, t_122, t_200, t_230, t_240, t_255, t_400, t_440, t_441, t_450, t_480, t_1580, t_1600, t_10000, t_131071, t_131072, t_1048576, t_1000000000, tm_1, tm_100001, tm_100002, tm_100003, tm_100004]
      exact ⟨fun _ => K1, fun z => by omega⟩
    | succ d ih =>
      intro i hi hj
      refine sX8_isAt_15 ?_
      obtain ⟨a1, a2⟩ := hl i (by omega)
      have a3 := B.2.2 i (by omega)
      have a4 := B.1.2 i (by omega)
      simp (disch := omega) only [w1, w2, w3, w6, w7, s_18 c, a2, a3, forall_eq, hs_sI, hs_sL, hR_sI, hR_sL, hI_eq, hI_ne, hI_sL, hL_sI, ti_lt, ti_le, ti_eq, nI_toInt, cl_nI, nI_1, nI_add, t_0, t_1, t_2, t_3, t_4, t_5, t_6, t_7, t_8, t_9, t_10, t_12, t_15, t_16, t_20, t_21, t_24, t_26, t_30, t_31, t_32, t_33, t_39, t_40, t_41, t_45, t_46, t_47, t_48, t_57, t_60, t_63, t_65, t_90, t_97, t_100, t_122, t_200, t_230, t_240, t_255, t_400, t_440, t_441, t_450, t_480, t_1580, t_1600, t_10000, t_131071, t_131072, t_1048576, t_1000000000, tm_1, tm_100001, tm_100002, tm_100003, tm_100004]
      repeat' (first | exact trivial | (with_reducible refine And.intro ?_ ?_) | exact vp_nI (by omega) (by omega) | decide | ((intro z1; exact ih (i + 1) (by omega) (fun j hj' => if e : j = i then by subst e; omega else hj j (by omega)))) | (exact Qto K (b0 (decide_eq_false (fun q => by have := q.2 i (by omega); omega)))) | (with_reducible intro z1; first | exact absurd trivial z1 | exact z1.elim) | (with_reducible intro z1) | omega)
  refine eX8_isAt (sX8_isAt_0 ?_)
  simp (disch := omega) only [w1, w4, w5, hz.2, forall_eq, hs_sI, hs_sL, hR_sI, hR_sL, hI_eq, hI_ne, hI_sL, hL_sI, ti_lt, ti_le, ti_eq, nI_toInt, cl_nI, nI_1, nI_add, t_0, t_1, t_2, t_3, t_4, t_5, t_6, t_7, t_8, t_9, t_10, t_12, t_15, t_16, t_20, t_21, t_24, t_26, t_30, t_31, t_32, t_33, t_39, t_40, t_41, t_45, t_46, t_47, t_48, t_57, t_60, t_63, t_65, t_90, t_97, t_100, t_122, t_200, t_230, t_240, t_255, t_400, t_440, t_441, t_450, t_480, t_1580, t_1600, t_10000, t_131071, t_131072, t_1048576, t_1000000000, tm_1, tm_100001, tm_100002, tm_100003, tm_100004]
  repeat' (first | exact trivial | (with_reducible refine And.intro ?_ ?_) | exact vp_nI (by omega) (by omega) | decide | (exact lp (by omega) W.1 0 (by omega) (fun j hj => by omega)) | (exact Qto K (b0 (decide_eq_false (by omega)))) | (with_reducible intro z1; first | exact absurd trivial z1 | exact z1.elim) | (with_reducible intro z1) | omega)
theorem sp_indexOf (c : Lay L h) (hW : WL h o R) (hR : R ≤ 40) (D : wlC h o R n z l) (B : bufC h W) (K : Q (oI (fW z l W n)) h) : AC w mX8_indexOf 0 0 (rI Q) [.ref o, .ref 18, .int (nI W.1)] h := by
  have hn := D.1
  have lp : ∀ (d k : Nat), k + d = n → fW z l W k = none → AW w mX8_indexOf 0 0 (rI Q) 0 0 2 [some (.ref o), some (.ref 18), some (.int (nI W.1)), some (.int (nI k))] [] h := by
    intro d
    induction d with
    | zero =>
      intro k hk hf
      have hk : k = n := by omega
      subst hk
      rw [hf] at K
      refine sX8_indexOf_2 ?_
      simp (disch := omega) only [hW.1.1, D.2.2.1, forall_eq, hs_sI, hs_sL, hR_sI, hR_sL, hI_eq, hI_ne, hI_sL, hL_sI, ti_lt, ti_le, ti_eq, nI_toInt, cl_nI, nI_1, nI_add, t_0, t_1, t_2, t_3, t_4, t_5, t_6, t_7, t_8, t_9, t_10, t_12, t_15, t_16, t_20, t_21, t_24, t_26, t_30, t_31, t_32, t_33, t_39, t_40, t_41, t_45, t_46, t_47, t_48, t_57, t_60, t_63, t_65, t_90, t_97, t_100, t_122, t_200, t_230, t_240, t_255, t_400, t_440, t_441, t_450, t_480, t_1580, t_1600, t_10000, t_131071, t_131072, t_1048576, t_1000000000, tm_1, tm_100001, tm_100002, tm_100003, tm_100004]
      exact ⟨trivial, fun _ => K, fun z => by omega⟩
    | succ d ih =>
      intro k hk hf
      refine sX8_indexOf_2 ?_
      simp (disch := omega) only [hW.1.1, D.2.2.1, forall_eq, hs_sI, hs_sL, hR_sI, hR_sL, hI_eq, hI_ne, hI_sL, hL_sI, ti_lt, ti_le, ti_eq, nI_toInt, cl_nI, nI_1, nI_add, t_0, t_1, t_2, t_3, t_4, t_5, t_6, t_7, t_8, t_9, t_10, t_12, t_15, t_16, t_20, t_21, t_24, t_26, t_30, t_31, t_32, t_33, t_39, t_40, t_41, t_45, t_46, t_47, t_48, t_57, t_60, t_63, t_65, t_90, t_97, t_100, t_122, t_200, t_230, t_240, t_255, t_400, t_440, t_441, t_450, t_480, t_1580, t_1600, t_10000, t_131071, t_131072, t_1048576, t_1000000000, tm_1, tm_100001, tm_100002, tm_100003, tm_100004]
      refine ⟨trivial, fun _ => by omega, fun _ => sp_isAt c hW hR D B (by omega) ?_⟩
      rw [b01tn, b01t0]
      refine ⟨fun q => ih (k + 1) (by omega) (fW_n hf q), fun q => ?_⟩
      have := fW_s hf q (n - (k + 1))
      rw [show k + 1 + (n - (k + 1)) = n by omega] at this
      rw [this] at K
      exact K
  exact eX8_indexOf (sX8_indexOf_0 (lp n 0 (by omega) rfl))
theorem nar_nI {b : Nat} (h : b < 128) : vp_nar .byte (nI b) = nI b ∧ vp_nar .byte ((nI b).toInt8.toInt32) = nI b := by
  have : ∀ b, b < 128 → vp_nar .byte (nI b) = nI b ∧ vp_nar .byte ((nI b).toInt8.toInt32) = nI b := by decide +kernel
  exact this b h
theorem nI_inc1 (n : Nat) : nI (n + 1) - 1 = nI n := by rw [show (1 : Int32) = nI 1 from rfl, pk_sub (by omega)]; rfl
def zAdd (z : Nat → Nat) (n v : Nat) : Nat → Nat := fun k => if k = n then v else z k
def lAdd (l : Nat → Nat → Nat) (n : Nat) (v : Nat → Nat) : Nat → Nat → Nat := fun k => if k = n then v else l k
/-- behind a word's entering: which number, which list -/
def fEnter (R n : Nat) (z : Nat → Nat) (l : Nat → Nat → Nat) (W : Wr) : Option Nat × Nat × (Nat → Nat) × (Nat → Nat → Nat) := match fW z l W n with
  | some k => (some k, n, z, l)
  | none => if n < R then (some n, n + 1, zAdd z n W.1, lAdd l n W.2) else (none, n, z, l)
theorem sp_enter (c : Lay L h) (ho : (o = 8 ∧ R = 6) ∨ 21 ≤ o) (hW : WL h o R) (hR : R ≤ 40) (D : wlC h o R n z l) (B : bufC h W)
    (K : ∀ h', Chg (fun id => o ≤ id ∧ id ≤ o + 2 + R) h h' → hL h' = hL h → wlC h' o R (fEnter R n z l W).2.1 (fEnter R n z l W).2.2.1 (fEnter R n z l W).2.2.2 → Q (oI (fEnter R n z l W).1) h') : AC w mX8_enter 0 0 (rI Q) [.ref o, .ref 18, .int (nI W.1)] h := by
  have hn := D.1
  have h10 := B.1.1
  obtain ⟨⟨w1, w2, w3⟩, ⟨w4, w5⟩, w6, w7⟩ := hW
  have lp : fW z l W n = none → n < R → ∀ (d i : Nat) (h' : Hp), i + d = W.1 → Chg (fun id => o ≤ id ∧ id ≤ o + 2 + R) h h' → hL h' = hL h → wlC h' o R n z l → (∀ j, j < i → hI h' (o + 2 + n) j = nI (W.2 j)) → AW w mX8_enter 0 0 (rI Q) 0 0 30 [some (.ref o), some (.ref 18), some (.int (nI W.1)), none, some (.int (nI i))] [] h' := by
    intro hf hnR d
    induction d with
    | zero =>
      intro i h' hi hc hl' D' hj
      have e : fEnter R n z l W = (some n, n + 1, zAdd z n W.1, lAdd l n W.2) := by unfold fEnter; rw [hf]; show (if n < R then _ else _) = _; rw [if_pos hnR]
      rw [e] at K
      refine sX8_enter_30 ?_
      have KK : Q (nI n) (sI (sI h' (o + 2 + R) n (nI W.1)) o 3 (nI (n + 1))) := K _ ((hc.sI ⟨by omega, by omega⟩).sI ⟨by omega, by omega⟩) hl' ⟨hnR, by simp (disch := omega) only [hI_ne, D'.2.1], hI_eq, fun k hk => ?_, fun k hk j hj' => ?_⟩
      · simp (disch := omega) only [hc.2.1, hc.2.2.1, w1, w2, w3, w4, w5, w6, w7, D'.2.2.1, forall_eq, hs_sI, hs_sL, hR_sI, hR_sL, hI_eq, hI_ne, hI_sL, hL_sI, ti_lt, ti_le, ti_eq, nI_toInt, cl_nI, nI_1, nI_add, t_0, t_1, t_2, t_3, t_4, t_5, t_6, t_7, t_8, t_9, t_10, t_12, t_15, t_16, t_20, t_21, t_24, t_26, t_30, t_31, t_32, t_33, t_39, t_40, t_41, t_45, t_46, t_47, t_48, t_57, t_60, t_63, t_65, t_90, t_97, t_100, t_122, t_200, t_230, t_240, t_255, t_400, t_440, t_441, t_450, t_480, t_1580, t_1600, t_10000, t_131071, t_131072, t_1048576, t_1000000000, tm_1, tm_100001, tm_100002, tm_100003, tm_100004, nI_inc1]
        exact ⟨fun _ => ⟨trivial, by omega, trivial, vp_nI hnR (by omega), KK⟩, fun z => by omega⟩
      · have hk : k < n + 1 := hk
        show zAdd z n W.1 k ≤ 10 ∧ _ = nI (zAdd z n W.1 k)
        unfold zAdd
        by_cases q : k = n
        · subst q
          rw [if_pos rfl]
          exact ⟨h10, by simp (disch := omega) only [hI_ne, hI_eq]⟩
        · rw [if_neg q]
          have := D'.2.2.2.1 k (by omega)
          exact ⟨this.1, by simp (disch := omega) only [hI_ne]; exact this.2⟩
      · have hk : k < n + 1 := hk
        have hj' : j < zAdd z n W.1 k := hj'
        show lAdd l n W.2 k j < 128 ∧ _ = nI (lAdd l n W.2 k j)
        unfold zAdd at hj'
        unfold lAdd
        by_cases q : k = n
        · subst q
          rw [if_pos rfl] at hj' ⊢
          exact ⟨B.1.2 j hj', by simp (disch := omega) only [hI_ne]; exact hj j (by omega)⟩
        · rw [if_neg q] at hj' ⊢
          have := D'.2.2.2.2 k (by omega) j hj'
          exact ⟨this.1, by simp (disch := omega) only [hI_ne]; exact this.2⟩
    | succ d ih =>
      intro i h' hi hc hl' D' hj
      refine sX8_enter_30 ?_
      have a3 : hI h' 18 i = nI (W.2 i) := by rw [(hc.2.2.2 18 (by omega) i).1]; exact B.2.2 i (by omega)
      have a4 := B.1.2 i (by omega)
      have nx := ih (i + 1) (sI h' (o + 2 + n) i (nI (W.2 i))) (by omega) (hc.sI ⟨by omega, by omega⟩) hl' ⟨D'.1, by simp (disch := omega) only [hI_ne, D'.2.1], by simp (disch := omega) only [hI_ne, D'.2.2.1], fun k hk => ⟨(D'.2.2.2.1 k hk).1, by simp (disch := omega) only [hI_ne]; exact (D'.2.2.2.1 k hk).2⟩, fun k hk j hj' => ⟨(D'.2.2.2.2 k hk j hj').1, by simp (disch := omega) only [hI_ne]; exact (D'.2.2.2.2 k hk j hj').2⟩⟩ (fun j hj' => by
        by_cases q : j = i
        · subst q; exact hI_eq
        · rw [hI_ne (Or.inr q)]; exact hj j (by omega))
      simp (disch := omega) only [hc.2.1, hc.2.2.1, w1, w2, w3, w4, w5, w6, w7, s_18 c, D'.2.2.1, a3, (nar_nI a4).1, forall_eq, hs_sI, hs_sL, hR_sI, hR_sL, hI_eq, hI_ne, hI_sL, hL_sI, ti_lt, ti_le, ti_eq, nI_toInt, cl_nI, nI_1, nI_add, t_0, t_1, t_2, t_3, t_4, t_5, t_6, t_7, t_8, t_9, t_10, t_12, t_15, t_16, t_20, t_21, t_24, t_26, t_30, t_31, t_32, t_33, t_39, t_40, t_41, t_45, t_46, t_47, t_48, t_57, t_60, t_63, t_65, t_90, t_97, t_100, t_122, t_200, t_230, t_240, t_255, t_400, t_440, t_441, t_450, t_480, t_1580, t_1600, t_10000, t_131071, t_131072, t_1048576, t_1000000000, tm_1, tm_100001, tm_100002, tm_100003, tm_100004]
      exact ⟨fun z => by omega, fun _ => ⟨trivial, by omega, trivial, vp_nI hnR (by omega), by omega, trivial, vp_nI (by omega) (by omega), trivial, vp_nI (by omega) (by omega), nx⟩⟩
  refine eX8_enter (sX8_enter_0 ⟨by rw [w1], sp_indexOf c ⟨⟨w1, w2, w3⟩, ⟨w4, w5⟩, w6, w7⟩ hR D B ?_⟩)
  have lt : ∀ k, fW z l W n = some k → k < 2147483648 := fun k q => by have := fW_lt q; omega
  rw [oI_n lt, w1, D.2.1, D.2.2.1]
  simp (disch := omega) only [forall_eq, hs_sI, hs_sL, hR_sI, hR_sL, hI_eq, hI_ne, hI_sL, hL_sI, ti_lt, ti_le, ti_eq, nI_toInt, cl_nI, nI_1, nI_add, t_0, t_1, t_2, t_3, t_4, t_5, t_6, t_7, t_8, t_9, t_10, t_12, t_15, t_16, t_20, t_21, t_24, t_26, t_30, t_31, t_32, t_33, t_39, t_40, t_41, t_45, t_46, t_47, t_48, t_57, t_60, t_63, t_65, t_90, t_97, t_100, t_122, t_200, t_230, t_240, t_255, t_400, t_440, t_441, t_450, t_480, t_1580, t_1600, t_10000, t_131071, t_131072, t_1048576, t_1000000000, tm_1, tm_100001, tm_100002, tm_100003, tm_100004]
  refine ⟨fun q => ⟨trivial, fun r => ?_, fun r => ?_⟩, fun q => ?_⟩
  · exact lp q (by omega) W.1 0 h (by omega) (Chg.rfl' h) rfl D (fun j hj => by omega)
  · have e : fEnter R n z l W = (none, n, z, l) := by unfold fEnter; rw [q]; show (if n < R then _ else _) = _; rw [if_neg (by omega)]
    rw [e] at K
    exact K h (Chg.rfl' h) rfl D
  · cases q2 : fW z l W n with
    | none => exact absurd q2 q
    | some k =>
      have e : fEnter R n z l W = (some k, n, z, l) := by unfold fEnter; rw [q2]
      rw [e] at K
      exact K h (Chg.rfl' h) rfl D
/-- a letter more in the class's buffer -/
theorem sp_keepLetter {Q : Hp → Prop} {p : Nat} (c : Lay L h) (D : tapeC h t) (B : bufC h W) (hp : p < t.1) (hl : ltr t p ≠ 0) (K : ∀ h', Chg (fun id => id = 17 ∨ id = 18) h h' → hL h' = hL h → bufC h' (wAdd W (ltr t p)) → Q h') : AC w mX1_keepLetter 0 0 (rV Q) [.ref 17, .int (nI p)] h := by
  have h10 := B.1.1
  have hn := D.1
  obtain ⟨s1, s2⟩ := sml_l hl
  refine eX1_keepLetter (sX1_keepLetter_0 ?_)
  by_cases q : W.1 < 10
  · have e : wAdd W (ltr t p) = (W.1 + 1, fun i => if i = W.1 then ltr t p else W.2 i) := if_pos q
    have KK := K (sI (sI h 18 W.1 (nI (ltr t p))) 17 3 (nI (W.1 + 1))) (((Chg.rfl' h).sI (Or.inr rfl)).sI (Or.inl rfl)) rfl (by
      have ok := B.1.add s2
      rw [e] at ok ⊢
      refine ⟨ok, hI_eq, fun i hi => ?_⟩
      have hi : i < W.1 + 1 := hi
      rw [hI_ne (Or.inl (by decide))]
      show _ = nI (if i = W.1 then _ else _)
      by_cases r : i = W.1
      · subst r; rw [if_pos rfl, hI_eq]
      · rw [if_neg r, hI_ne (Or.inr r)]; exact B.2.2 i (by omega))
    simp (disch := omega) only [s_17 c, B.2.1, r_17_0 c, r_17_2 c, s_6 c, forall_eq, hs_sI, hs_sL, hR_sI, hR_sL, hI_eq, hI_ne, hI_sL, hL_sI, ti_lt, ti_le, ti_eq, nI_toInt, cl_nI, nI_1, nI_add, t_0, t_1, t_2, t_3, t_4, t_5, t_6, t_7, t_8, t_9, t_10, t_12, t_15, t_16, t_20, t_21, t_24, t_26, t_30, t_31, t_32, t_33, t_39, t_40, t_41, t_45, t_46, t_47, t_48, t_57, t_60, t_63, t_65, t_90, t_97, t_100, t_122, t_200, t_230, t_240, t_255, t_400, t_440, t_441, t_450, t_480, t_1580, t_1600, t_10000, t_131071, t_131072, t_1048576, t_1000000000, tm_1, tm_100001, tm_100002, tm_100003, tm_100004]
    refine ⟨trivial, fun z => by omega, fun _ => ⟨by decide, by decide, trivial, sp_smallAt c D (by omega) ?_⟩⟩
    rw [s1, (nar_nI s2).2]
    simp (disch := omega) only [s_18 c, s_17 c, hI_ne, B.2.1, forall_eq, hs_sI, hs_sL, hR_sI, hR_sL, hI_eq, hI_ne, hI_sL, hL_sI, ti_lt, ti_le, ti_eq, nI_toInt, cl_nI, nI_1, nI_add, t_0, t_1, t_2, t_3, t_4, t_5, t_6, t_7, t_8, t_9, t_10, t_12, t_15, t_16, t_20, t_21, t_24, t_26, t_30, t_31, t_32, t_33, t_39, t_40, t_41, t_45, t_46, t_47, t_48, t_57, t_60, t_63, t_65, t_90, t_97, t_100, t_122, t_200, t_230, t_240, t_255, t_400, t_440, t_441, t_450, t_480, t_1580, t_1600, t_10000, t_131071, t_131072, t_1048576, t_1000000000, tm_1, tm_100001, tm_100002, tm_100003, tm_100004]
    exact ⟨trivial, vp_nI (by omega) (by decide), trivial, KK⟩
  · have e : wAdd W (ltr t p) = W := if_neg q
    rw [e] at K
    simp (disch := omega) only [s_17 c, B.2.1, forall_eq, hs_sI, hs_sL, hR_sI, hR_sL, hI_eq, hI_ne, hI_sL, hL_sI, ti_lt, ti_le, ti_eq, nI_toInt, cl_nI, nI_1, nI_add, t_0, t_1, t_2, t_3, t_4, t_5, t_6, t_7, t_8, t_9, t_10, t_12, t_15, t_16, t_20, t_21, t_24, t_26, t_30, t_31, t_32, t_33, t_39, t_40, t_41, t_45, t_46, t_47, t_48, t_57, t_60, t_63, t_65, t_90, t_97, t_100, t_122, t_200, t_230, t_240, t_255, t_400, t_440, t_441, t_450, t_480, t_1580, t_1600, t_10000, t_131071, t_131072, t_1048576, t_1000000000, tm_1, tm_100001, tm_100002, tm_100003, tm_100004]
    exact ⟨trivial, fun _ => K h (Chg.rfl' h) rfl B, fun z => by omega⟩
end WC
