/-! ===== feed and cut, the reference ===== -/
def selV (a b d e f : Int32) (k : Nat) : Int32 := if k < 4 then a else if k < 8 then b else if k < 12 then d else if k < 16 then e else f
def tpK (t : Tp) (a b d e f : Int32) : Nat → Tp
  | 0 => t
  | k + 1 => tpAdd (tpK t a b d e f k) (byt (selV a b d e f k) (k % 4))
theorem tpK_20 (t : Tp) (a b d e f : Int32) : tpK t a b d e f 20 = tp20 t a b d e f := rfl
theorem tpK_n (t : Tp) (a b d e f : Int32) : ∀ k, (tpK t a b d e f k).1 = t.1 + k
  | 0 => rfl
  | k + 1 => by
    show (tpK t a b d e f k).1 + 1 = _
    rw [tpK_n t a b d e f k]; omega
def tmId (id : Nat) : Prop := id = 347 ∨ id = 348
def TMh (h h' : Hp) (t : Tp) : Prop := Chg tmId h h' ∧ (∀ k, k ≠ 1 → hI h' 347 k = hI h 347 k) ∧ hL h' = hL h ∧ tapeM h' t
section TM
variable {w : Wd} {L : Nat} {h : Hp} {Q : Int32 → Hp → Prop} {t : Tp} {a b d e f : Int32}
theorem sh_k (k : Nat) (hk : k < 20) : (((24 - (8 * (nI k - nI k / 4 * 4)) &&& 31 : Int32)).toBitVec.smod 32).toNat = 24 - 8 * (k % 4) := by
  have : ∀ k, k < 20 → (((24 - (8 * (nI k - nI k / 4 * 4)) &&& 31 : Int32)).toBitVec.smod 32).toNat = 24 - 8 * (k % 4) := by decide +kernel
  exact this k hk
theorem feedM_72 {k : Nat} (hk : k < 20) {h' : Hp} (c : Lay L h') (D : tapeM h' (tpK t a b d e f k)) (ht : t.1 ≤ 1580)
    (K : ∀ h2, Chg tmId h' h2 → (∀ q, q ≠ 1 → hI h2 347 q = hI h' 347 q) → hL h2 = hL h' → tapeM h2 (tpK t a b d e f (k + 1)) → AW w mX10_feed 0 0 (rI Q) 0 0 19 [some (.ref 347), some (.int a), some (.int b), some (.int d), some (.int e), some (.int f), some (.int (nI (k + 1))), none] [] h2) :
    AW w mX10_feed 0 0 (rI Q) 0 0 72 [some (.ref 347), some (.int a), some (.int b), some (.int d), some (.int e), some (.int f), some (.int (nI k)), none] [.int (selV a b d e f k)] h' := by
  have hn := tpK_n t a b d e f k
  refine sX10_feed_72 ?_
  simp only [s_347 c, r_347_0 c, s_348 c, D.2.1, hn, cl_nI (show t.1 + k < 2147483648 by omega), byteM (v := selV a b d e f k) (Nat.mod_lt k (by decide : 0 < 4)) (sh_k k hk), nI_1]
  refine ⟨trivial, by decide, trivial, vp_nI (by omega) (by decide), fun a1 e1 a2 e2 => ?_⟩
  subst e1 e2
  refine K _ (((Chg.rfl' h').sI (Or.inr rfl)).sI (Or.inl rfl)) (fun q hq => by rw [hI_ne (Or.inr hq), hI_ne (Or.inl (by decide))]) rfl ⟨by rw [tpK_n]; omega, ?_, fun i hi => ?_⟩
  · rw [hI_eq, hI_ne (Or.inl (by decide)), D.2.1, tpK_n, tpK_n, nI_1]; rfl
  · rw [tpK_n] at hi
    show (if i = (tpK t a b d e f k).1 then _ else _) < 256 ∧ _ = nI (if i = (tpK t a b d e f k).1 then _ else _)
    rw [hI_ne (Or.inl (by decide)), hn]
    by_cases e : i = t.1 + k
    · subst e
      rw [if_pos rfl, hI_eq]
      exact ⟨byt_lt _ _, rfl⟩
    · rw [if_neg e, hI_ne (Or.inr e)]
      exact D.2.2 i (by rw [hn]; omega)
theorem feedM_19 (c : Lay L h) (ht : t.1 ≤ 1580) (K : ∀ h', TMh h h' (tp20 t a b d e f) → Q (nI (t.1 + 20)) h') :
    ∀ (n k : Nat) (h' : Hp), k + n = 20 → TMh h h' (tpK t a b d e f k) → AW w mX10_feed 0 0 (rI Q) 0 0 19 [some (.ref 347), some (.int a), some (.int b), some (.int d), some (.int e), some (.int f), some (.int (nI k)), none] [] h' := by
  intro n
  induction n with
  | zero =>
    intro k h' hk hT
    have : k = 20 := by omega
    subst this
    have c' : Lay L h' := hT.1.lay c (fun id z => by unfold tmId at z; omega)
    refine sX10_feed_19 ⟨fun _ => ⟨by rw [s_347 c'], ?_⟩, fun z => absurd (by decide) z⟩
    rw [hT.2.2.2.2.1, tpK_n]
    exact K h' hT
  | succ n ih =>
    intro k h' hk hT
    have c' : Lay L h' := hT.1.lay c (fun id z => by unfold tmId at z; omega)
    have go := feedM_72 (w := w) (Q := Q) (k := k) (by omega) c' hT.2.2.2 ht (fun h2 q1 q2 q3 q4 => ih (k + 1) h2 (by omega) ⟨hT.1.trans q1, fun q hq => (q2 q hq).trans (hT.2.1 q hq), q3.trans hT.2.2.1, q4⟩)
    refine sX10_feed_19 ?_
    simp only [ti_le, t_20, t_4, t_8, t_12, t_16, nI_toInt (show k < 2 ^ 31 by omega)]
    refine ⟨fun z => by omega, fun _ => ⟨fun c1 => ⟨fun c2 => ⟨fun c3 => ⟨fun c4 => ?_, fun c4 => ?_⟩, fun c3 => ?_⟩, fun c2 => ?_⟩, fun c1 => ?_⟩⟩
    · rw [selV, if_neg (by omega), if_neg (by omega), if_neg (by omega), if_neg (by omega)] at go; exact go
    · rw [selV, if_neg (by omega), if_neg (by omega), if_neg (by omega), if_pos (by omega)] at go; exact go
    · rw [selV, if_neg (by omega), if_neg (by omega), if_pos (by omega)] at go; exact go
    · rw [selV, if_neg (by omega), if_pos (by omega)] at go; exact go
    · rw [selV, if_pos (by omega)] at go; exact go
theorem sp_feedM (c : Lay L h) (D : tapeM h t) (K : ∀ h', TMh h h' (fFeed t a b d e f).2 → Q (fFeed t a b d e f).1 h') : AC w mX10_feed 0 0 (rI Q) [.ref 347, .int a, .int b, .int d, .int e, .int f] h := by
  have hn := D.1
  refine eX10_feed (sX10_feed_0 ?_)
  have e20 : nI t.1 + 20 = nI (t.1 + 20) := by rw [show (20 : Int32) = nI 20 from rfl, nI_add]
  simp only [s_347 c, D.2.1, e20]
  refine ⟨trivial, fun c1 => ?_, fun c1 => ?_⟩
  · rw [ti_le, nI_toInt (by omega), t_1600] at c1
    have e0 : fFeed t a b d e f = (nI (t.1 + 20), tp20 t a b d e f) := by rw [fFeed, if_pos (by omega)]
    rw [e0] at K
    exact feedM_19 c (by omega) K 20 0 h (by omega) ⟨Chg.rfl' h, fun _ _ => rfl, rfl, D⟩
  · rw [ti_le, nI_toInt (by omega), t_1600] at c1
    have e0 : fFeed t a b d e f = (-100004, t) := by rw [fFeed, if_neg (by omega)]
    rw [e0] at K
    exact K h ⟨Chg.rfl' h, fun _ _ => rfl, rfl, D⟩
theorem sp_cutM {n : Int32} (c : Lay L h) (D : tapeM h t) (K : ∀ h', TMh h h' (fCut t n).2 → Q (fCut t n).1 h') : AC w mX10_cut 0 0 (rI Q) [.ref 347, .int n] h := by
  have hn := D.1
  refine eX10_cut (sX10_cut_0 ⟨by rw [s_347 c], ?_⟩)
  rw [D.2.1]
  refine sp_in32 (n := t.1 + 1) (by decide) (by rw [Int32.toInt_toInt64, nI_toInt (by omega)]; omega) ⟨fun c1 => ?_, fun c1 => ?_⟩
  · rw [b01_ne] at c1
    obtain ⟨m, hm, rfl⟩ := inR_nI c1 (by omega)
    have e0 : fCut t (nI m) = (nI (t.1 - m), (m, t.2)) := by rw [fCut, if_pos c1, cl_nI (by omega)]
    rw [e0] at K
    refine ⟨by rw [s_347 c], fun h2 e2 => ?_⟩
    subst e2
    rw [D.2.1, pk_sub (by omega)]
    refine K _ ⟨(Chg.rfl' h).sI (Or.inl rfl), fun q hq => hI_ne (Or.inr hq), rfl, by show m ≤ 1600; omega, hI_eq, fun i hi => ?_⟩
    rw [hI_ne (Or.inl (by decide))]
    exact D.2.2 i (by have : i < m := hi; omega)
  · rw [b01_eq] at c1
    have e0 : fCut t n = (-100002, t) := by rw [fCut, c1]; rfl
    rw [e0] at K
    exact K h ⟨Chg.rfl' h, fun _ _ => rfl, rfl, D⟩
end TM
