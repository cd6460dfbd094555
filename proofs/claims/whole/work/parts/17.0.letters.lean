/-! ===== bytes of the tape: digits, letters ===== -/
theorem b01tn {p : Bool} : (¬ (b01 p).toInt = 0) ↔ p = true := by cases p <;> simp [b01, t_0, t_1]
theorem b01t0 {p : Bool} : ((b01 p).toInt = 0) ↔ p = false := by cases p <;> simp [b01, t_0, t_1]
theorem sbI {b : Nat} (h : b < 256) : (b < 128 → (sb_b b).toInt = b) ∧ (128 ≤ b → (sb_b b).toInt = (b : Int) - 256) := by
  have : ∀ b, b < 256 → (b < 128 → (sb_b b).toInt = b) ∧ (128 ≤ b → (sb_b b).toInt = (b : Int) - 256) := by decide +kernel
  exact this b h
theorem sb_nI {b : Nat} (h : b < 128) : sb_b b = nI b := by
  have : ∀ b, b < 128 → sb_b b = nI b := by decide +kernel
  exact this b h
def isDg (t : Tp) (p : Nat) : Bool := decide (p < t.1 ∧ 48 ≤ t.2 p ∧ t.2 p ≤ 57)
def dgI (t : Tp) (x : Int32) : Bool := inR x t.1 && isDg t x.toNatClampNeg
/-- the letter at p, small; 0: none -/
def ltr (t : Tp) (p : Nat) : Nat := if p < t.1 then (if 65 ≤ t.2 p ∧ t.2 p ≤ 90 then t.2 p + 32 else if (97 ≤ t.2 p ∧ t.2 p ≤ 122) ∨ (48 ≤ t.2 p ∧ t.2 p ≤ 57) then t.2 p else if t.2 p = 46 ∧ p ≠ 0 ∧ isDg t (p - 1) = true ∧ isDg t (p + 1) = true then 46 else 0) else 0
section LT
variable {w : Wd} {L : Nat} {h : Hp} {Q : Int32 → Hp → Prop} {t : Tp}
theorem sp_isDigitAt {x : Int32} (c : Lay L h) (D : tapeC h t) (K : Q (b01 (dgI t x)) h) : AC w mX6_isDigitAt 0 0 (rI Q) [.ref 6, .int x] h := by
  have hn := D.1
  refine eX6_isDigitAt (sX6_isDigitAt_0 ?_)
  cases q : inR x t.1 with
  | false =>
    have K : Q 0 h := Qto K (by rw [dgI, q]; rfl)
    have q := of_decide_eq_false q
    simp (disch := omega) only [s_5 c, s_6 c, s_7 c, s_17 c, s_18 c, r_5_0 c, r_5_1 c, r_5_2 c, r_5_3 c, r_5_5 c, r_5_6 c, r_5_7 c, r_5_8 c, r_5_9 c, r_6_0 c, r_17_0 c, r_17_1 c, r_17_2 c, D.2.1, forall_eq, hs_sI, hs_sL, hR_sI, hR_sL, hI_eq, hI_ne, hI_sL, hL_sI, ti_lt, ti_le, ti_eq, nI_toInt, cl_nI, nI_1, nI_add, t_0, t_1, t_2, t_3, t_4, t_5, t_6, t_7, t_8, t_9, t_10, t_12, t_15, t_16, t_20, t_21, t_24, t_26, t_30, t_31, t_32, t_33, t_39, t_40, t_41, t_45, t_46, t_47, t_48, t_57, t_60, t_63, t_65, t_90, t_97, t_100, t_122, t_200, t_230, t_240, t_255, t_400, t_440, t_441, t_450, t_480, t_1580, t_1600, t_10000, t_131071, t_131072, t_1048576, t_1000000000, tm_1, tm_100001, tm_100002, tm_100003, tm_100004]
    exact ⟨fun _ => K, fun _ => ⟨trivial, fun _ => K, fun _ => by omega⟩⟩
  | true =>
    obtain ⟨p, hp, rfl⟩ := inR_nI q (by omega)
    obtain ⟨hb, hv⟩ := D.2.2 p hp
    have hs := sbI hb
    have K' : Q (b01 (decide (48 ≤ t.2 p ∧ t.2 p ≤ 57))) h := Qto K (by rw [dgI, q, cl_nI (by omega), isDg]; simp [hp])
    simp (disch := omega) only [s_5 c, s_6 c, s_7 c, s_17 c, s_18 c, r_5_0 c, r_5_1 c, r_5_2 c, r_5_3 c, r_5_5 c, r_5_6 c, r_5_7 c, r_5_8 c, r_5_9 c, r_6_0 c, r_17_0 c, r_17_1 c, r_17_2 c, D.2.1, hv, forall_eq, hs_sI, hs_sL, hR_sI, hR_sL, hI_eq, hI_ne, hI_sL, hL_sI, ti_lt, ti_le, ti_eq, nI_toInt, cl_nI, nI_1, nI_add, t_0, t_1, t_2, t_3, t_4, t_5, t_6, t_7, t_8, t_9, t_10, t_12, t_15, t_16, t_20, t_21, t_24, t_26, t_30, t_31, t_32, t_33, t_39, t_40, t_41, t_45, t_46, t_47, t_48, t_57, t_60, t_63, t_65, t_90, t_97, t_100, t_122, t_200, t_230, t_240, t_255, t_400, t_440, t_441, t_450, t_480, t_1580, t_1600, t_10000, t_131071, t_131072, t_1048576, t_1000000000, tm_1, tm_100001, tm_100002, tm_100003, tm_100004]
    repeat' (first | exact trivial | (with_reducible refine And.intro ?_ ?_) | exact vp_nI (by omega) (by omega) | decide | (exact Qto K' (b0 (decide_eq_false (by omega)))) | (exact Qto K' (b1 (decide_eq_true (by omega)))) | (with_reducible intro z1; first | exact absurd trivial z1 | exact z1.elim) | (with_reducible intro z1) | omega)
theorem nI_sub1 {p : Nat} (h0 : 0 < p) : nI p - 1 = nI (p - 1) := by rw [show (1 : Int32) = nI 1 from rfl, pk_sub (by omega)]
theorem dg_n {p : Nat} (hn : t.1 ≤ 1600) (hp : p < 2147483648) : dgI t (nI p) = isDg t p := by
  rw [dgI, cl_nI hp]
  by_cases q : p < t.1
  · rw [inR_lt q hp]; rfl
  · rw [inR_f (by rw [nI_toInt hp]; omega), isDg, decide_eq_false (by omega)]; rfl
theorem dg_m {p : Nat} (hn : t.1 ≤ 1600) (hp : p < 2147483648) : dgI t (nI p - 1) = (decide (p ≠ 0) && isDg t (p - 1)) := by
  by_cases q : p = 0
  · subst q; rw [dgI, inR_f (fun z => absurd z.1 (by decide))]; rfl
  · rw [nI_sub1 (by omega), dg_n hn (by omega), decide_eq_true q]; rfl
theorem sp_isLetterAt {p : Nat} (c : Lay L h) (D : tapeC h t) (hp : p < 2147483647) (K : Q (b01 (decide (ltr t p ≠ 0))) h) : AC w mX6_isLetterAt 0 0 (rI Q) [.ref 6, .int (nI p)] h := by
  have hn := D.1
  refine eX6_isLetterAt (sX6_isLetterAt_0 ?_)
  by_cases q : p < t.1
  · obtain ⟨hb, hv⟩ := D.2.2 p q
    have hs := sbI hb
    have low : ¬ ((65 ≤ t.2 p ∧ t.2 p ≤ 90) ∨ (97 ≤ t.2 p ∧ t.2 p ≤ 122)) → AW w mX6_isLetterAt 0 0 (rI Q) 0 0 45 [some (.ref 6), some (.int (nI p)), some (.int (sb_b (t.2 p)))] [] h := fun z => by
      refine sX6_isLetterAt_45 ⟨by rw [s_6 c], sp_isDigitAt c D ?_⟩
      rw [dg_n hn (by omega)]
      rw [b01_ne, b01_eq]
      have K0 : isDg t p = true → Q 1 h := fun u => Qto K (b1 (decide_eq_true (by
        have u := of_decide_eq_true u
        rw [ltr, if_pos q, if_neg (by omega), if_pos (by omega)]; omega)))
      refine ⟨K0, fun u => ?_⟩
      have u := of_decide_eq_false u
      have hl : ltr t p = if t.2 p = 46 ∧ p ≠ 0 ∧ isDg t (p - 1) = true ∧ isDg t (p + 1) = true then 46 else 0 := by rw [ltr, if_pos q, if_neg (by omega), if_neg (by omega)]
      have K1 : ¬ (t.2 p = 46 ∧ p ≠ 0 ∧ isDg t (p - 1) = true ∧ isDg t (p + 1) = true) → Q 0 h := fun v => Qto K (b0 (decide_eq_false (by rw [hl, if_neg v]; exact fun q => q rfl)))
      rw [ti_eq, t_46]
      refine ⟨fun v => K1 (by omega), fun v => ⟨by rw [s_6 c], sp_isDigitAt c D ?_⟩⟩
      rw [dg_m hn (by omega), b01_ne, b01_eq]
      refine ⟨fun v2 => K1 (fun z => ?_), fun v2 => ⟨by rw [s_6 c], ?_⟩⟩
      · rw [decide_eq_true z.2.1, z.2.2.1] at v2; cases v2
      · rw [nI_1]
        refine sp_isDigitAt c D ?_
        rw [dg_n hn (by omega), b01_ne, b01_eq]
        rw [Bool.and_eq_true] at v2
        refine ⟨fun v3 => K1 (fun z => ?_), fun v3 => Qto K (b1 (decide_eq_true (by rw [hl, if_pos ⟨by omega, of_decide_eq_true v2.1, v2.2, v3⟩]; decide)))⟩
        rw [z.2.2.2] at v3; cases v3
    have hi : ((65 ≤ t.2 p ∧ t.2 p ≤ 90) ∨ (97 ≤ t.2 p ∧ t.2 p ≤ 122)) → Q 1 h := fun z => Qto K (b1 (decide_eq_true (by
      rw [ltr, if_pos q]
      split
      · omega
      · rw [if_pos (by omega)]; omega)))
    simp (disch := omega) only [s_5 c, s_6 c, s_7 c, s_17 c, s_18 c, r_5_0 c, r_5_1 c, r_5_2 c, r_5_3 c, r_5_5 c, r_5_6 c, r_5_7 c, r_5_8 c, r_5_9 c, r_6_0 c, r_17_0 c, r_17_1 c, r_17_2 c, D.2.1, hv, forall_eq, hs_sI, hs_sL, hR_sI, hR_sL, hI_eq, hI_ne, hI_sL, hL_sI, ti_lt, ti_le, ti_eq, nI_toInt, cl_nI, nI_1, nI_add, t_0, t_1, t_2, t_3, t_4, t_5, t_6, t_7, t_8, t_9, t_10, t_12, t_15, t_16, t_20, t_21, t_24, t_26, t_30, t_31, t_32, t_33, t_39, t_40, t_41, t_45, t_46, t_47, t_48, t_57, t_60, t_63, t_65, t_90, t_97, t_100, t_122, t_200, t_230, t_240, t_255, t_400, t_440, t_441, t_450, t_480, t_1580, t_1600, t_10000, t_131071, t_131072, t_1048576, t_1000000000, tm_1, tm_100001, tm_100002, tm_100003, tm_100004]
    repeat' (first | exact trivial | (with_reducible refine And.intro ?_ ?_) | exact vp_nI (by omega) (by omega) | decide | (exact low (by omega)) | (exact hi (by omega)) | (with_reducible intro z1; first | exact absurd trivial z1 | exact z1.elim) | (with_reducible intro z1) | omega)
  · have K : Q 0 h := Qto K (by rw [ltr, if_neg q]; rfl)
    simp (disch := omega) only [s_5 c, s_6 c, s_7 c, s_17 c, s_18 c, r_5_0 c, r_5_1 c, r_5_2 c, r_5_3 c, r_5_5 c, r_5_6 c, r_5_7 c, r_5_8 c, r_5_9 c, r_6_0 c, r_17_0 c, r_17_1 c, r_17_2 c, D.2.1, forall_eq, hs_sI, hs_sL, hR_sI, hR_sL, hI_eq, hI_ne, hI_sL, hL_sI, ti_lt, ti_le, ti_eq, nI_toInt, cl_nI, nI_1, nI_add, t_0, t_1, t_2, t_3, t_4, t_5, t_6, t_7, t_8, t_9, t_10, t_12, t_15, t_16, t_20, t_21, t_24, t_26, t_30, t_31, t_32, t_33, t_39, t_40, t_41, t_45, t_46, t_47, t_48, t_57, t_60, t_63, t_65, t_90, t_97, t_100, t_122, t_200, t_230, t_240, t_255, t_400, t_440, t_441, t_450, t_480, t_1580, t_1600, t_10000, t_131071, t_131072, t_1048576, t_1000000000, tm_1, tm_100001, tm_100002, tm_100003, tm_100004]
    repeat' (first | exact trivial | (with_reducible refine And.intro ?_ ?_) | exact vp_nI (by omega) (by omega) | decide | (exact K) | (with_reducible intro z1; first | exact absurd trivial z1 | exact z1.elim) | (with_reducible intro z1) | omega)
theorem sp_isLetterAtm {p : Nat} (c : Lay L h) (D : tapeC h t) (hp : p < 2147483647) (K : Q (b01 (decide (p ≠ 0 ∧ ltr t (p - 1) ≠ 0))) h) : AC w mX6_isLetterAt 0 0 (rI Q) [.ref 6, .int (nI p - 1)] h := by
  by_cases q : p = 0
  · subst q
    refine eX6_isLetterAt (sX6_isLetterAt_0 ⟨fun _ => Qto K (by rfl), fun z => absurd (by decide) z⟩)
  · rw [nI_sub1 (by omega)]
    exact sp_isLetterAt c D (by omega) (Qto K (by simp [q]))
/-- a letter's own byte, or what another byte counts as -/
def sml (t : Tp) (p : Nat) : Int32 := if p < t.1 then (if 65 ≤ t.2 p ∧ t.2 p ≤ 90 then nI (t.2 p + 32) else sb_b (t.2 p)) else 0
theorem sml_l {p : Nat} (h : ltr t p ≠ 0) : sml t p = nI (ltr t p) ∧ ltr t p < 128 := by
  unfold ltr at h ⊢
  unfold sml
  by_cases q : p < t.1
  · rw [if_pos q] at h ⊢
    rw [if_pos q]
    by_cases z : 65 ≤ t.2 p ∧ t.2 p ≤ 90
    · rw [if_pos z] at h ⊢
      rw [if_pos z]
      exact ⟨rfl, by omega⟩
    · rw [if_neg z] at h ⊢
      rw [if_neg z]
      by_cases y : (97 ≤ t.2 p ∧ t.2 p ≤ 122) ∨ (48 ≤ t.2 p ∧ t.2 p ≤ 57)
      · rw [if_pos y]
        exact ⟨sb_nI (by omega), by omega⟩
      · rw [if_neg y] at h ⊢
        split at h
        · rename_i v
          rw [if_pos v, v.1]
          exact ⟨sb_nI (by decide), by decide⟩
        · exact absurd rfl h
  · rw [if_neg q] at h; exact absurd rfl h
theorem sml_o {p : Nat} (D : tapeC h t) (hp : p < t.1) (hl : ltr t p = 0) (k : Nat) (hk : k < 65) : sml t p = nI k ↔ t.2 p = k := by
  obtain ⟨hb, -⟩ := D.2.2 p hp
  have hs := sbI hb
  have h1 : ¬ (65 ≤ t.2 p ∧ t.2 p ≤ 90) := fun z => by rw [ltr, if_pos hp, if_pos z] at hl; omega
  rw [sml, if_pos hp, if_neg h1, ti_eq, nI_toInt (by omega)]
  omega
theorem sp_smallAt {p : Nat} (c : Lay L h) (D : tapeC h t) (hp : p < 2147483647) (K : Q (sml t p) h) : AC w mX6_smallAt 0 0 (rI Q) [.ref 6, .int (nI p)] h := by
  have hn := D.1
  refine eX6_smallAt (sX6_smallAt_0 ?_)
  by_cases q : p < t.1
  · obtain ⟨hb, hv⟩ := D.2.2 p q
    have hs := sbI hb
    have K1 : ¬ (65 ≤ t.2 p ∧ t.2 p ≤ 90) → Q (sb_b (t.2 p)) h := fun z => by rw [sml, if_pos q, if_neg z] at K; exact K
    have K2 : (65 ≤ t.2 p ∧ t.2 p ≤ 90) → Q (sb_b (t.2 p) - 65 + 97) h := fun z => by
      rw [sml, if_pos q, if_pos z] at K
      refine Qto K ?_
      rw [sb_nI (by omega), show (65 : Int32) = nI 65 from rfl, pk_sub (by omega), show (97 : Int32) = nI 97 from rfl, nI_add]
      congr 1; omega
    simp (disch := omega) only [s_5 c, s_6 c, s_7 c, s_17 c, s_18 c, r_5_0 c, r_5_1 c, r_5_2 c, r_5_3 c, r_5_5 c, r_5_6 c, r_5_7 c, r_5_8 c, r_5_9 c, r_6_0 c, r_17_0 c, r_17_1 c, r_17_2 c, D.2.1, hv, forall_eq, hs_sI, hs_sL, hR_sI, hR_sL, hI_eq, hI_ne, hI_sL, hL_sI, ti_lt, ti_le, ti_eq, nI_toInt, cl_nI, nI_1, nI_add, t_0, t_1, t_2, t_3, t_4, t_5, t_6, t_7, t_8, t_9, t_10, t_12, t_15, t_16, t_20, t_21, t_24, t_26, t_30, t_31, t_32, t_33, t_39, t_40, t_41, t_45, t_46, t_47, t_48, t_57, t_60, t_63, t_65, t_90, t_97, t_100, t_122, t_200, t_230, t_240, t_255, t_400, t_440, t_441, t_450, t_480, t_1580, t_1600, t_10000, t_131071, t_131072, t_1048576, t_1000000000, tm_1, tm_100001, tm_100002, tm_100003, tm_100004]
    repeat' (first | exact trivial | (with_reducible refine And.intro ?_ ?_) | exact vp_nI (by omega) (by omega) | decide | (exact K1 (by omega)) | (exact K2 (by omega)) | (with_reducible intro z1; first | exact absurd trivial z1 | exact z1.elim) | (with_reducible intro z1) | omega)
  · have K : Q 0 h := Qto K (by rw [sml, if_neg q])
    simp (disch := omega) only [s_5 c, s_6 c, s_7 c, s_17 c, s_18 c, r_5_0 c, r_5_1 c, r_5_2 c, r_5_3 c, r_5_5 c, r_5_6 c, r_5_7 c, r_5_8 c, r_5_9 c, r_6_0 c, r_17_0 c, r_17_1 c, r_17_2 c, D.2.1, forall_eq, hs_sI, hs_sL, hR_sI, hR_sL, hI_eq, hI_ne, hI_sL, hL_sI, ti_lt, ti_le, ti_eq, nI_toInt, cl_nI, nI_1, nI_add, t_0, t_1, t_2, t_3, t_4, t_5, t_6, t_7, t_8, t_9, t_10, t_12, t_15, t_16, t_20, t_21, t_24, t_26, t_30, t_31, t_32, t_33, t_39, t_40, t_41, t_45, t_46, t_47, t_48, t_57, t_60, t_63, t_65, t_90, t_97, t_100, t_122, t_200, t_230, t_240, t_255, t_400, t_440, t_441, t_450, t_480, t_1580, t_1600, t_10000, t_131071, t_131072, t_1048576, t_1000000000, tm_1, tm_100001, tm_100002, tm_100003, tm_100004]
    repeat' (first | exact trivial | (with_reducible refine And.intro ?_ ?_) | exact vp_nI (by omega) (by omega) | decide | (exact K) | (with_reducible intro z1; first | exact absurd trivial z1 | exact z1.elim) | (with_reducible intro z1) | omega)
end LT
