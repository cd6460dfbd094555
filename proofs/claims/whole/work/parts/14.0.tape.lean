/-! ===== the tape: how many bytes, and which (0 .. 255) ===== -/
abbrev Tp : Type := Nat × (Nat → Nat)
def tapeC (h : Hp) (t : Tp) : Prop := t.1 ≤ 1600 ∧ hI h 6 1 = nI t.1 ∧ ∀ i, i < t.1 → t.2 i < 256 ∧ hI h 7 i = sb_b (t.2 i)
def tapeM (h : Hp) (t : Tp) : Prop := t.1 ≤ 1600 ∧ hI h 347 1 = nI t.1 ∧ ∀ i, i < t.1 → t.2 i < 256 ∧ hI h 348 i = nI (t.2 i)
/-- byte q (0 the highest) of an int -/
def byt (v : Int32) (q : Nat) : Nat := v.toBitVec.toNat / 2 ^ (24 - 8 * q) % 256
def tpAdd (t : Tp) (b : Nat) : Tp := (t.1 + 1, fun i => if i = t.1 then b else t.2 i)
def tp4 (t : Tp) (v : Int32) : Tp := tpAdd (tpAdd (tpAdd (tpAdd t (byt v 0)) (byt v 1)) (byt v 2)) (byt v 3)
theorem byt_lt (v : Int32) (q : Nat) : byt v q < 256 := Nat.mod_lt _ (by decide)
theorem i8_eq {x y : Int32} (h : x.toBitVec.toNat % 256 = y.toBitVec.toNat % 256) : x.toInt8 = y.toInt8 := by
  apply Int8.toBitVec_inj.mp
  rw [Int32.toBitVec_toInt8, Int32.toBitVec_toInt8, BitVec.signExtend_eq_setWidth_of_le _ (by decide), BitVec.signExtend_eq_setWidth_of_le _ (by decide)]
  apply BitVec.eq_of_toNat_eq
  rw [BitVec.toNat_setWidth, BitVec.toNat_setWidth]
  exact h
theorem byteC {v s : Int32} {q : Nat} (hs : ((s.toUInt32 &&& Int32.toUInt32 31).toBitVec % 32).toNat = 24 - 8 * q) : vp_nar .byte (((v.toUInt32 >>> (s.toUInt32 &&& Int32.toUInt32 31)).toInt32).toInt8.toInt32) = sb_b (byt v q) := by
  rw [pk_vb]
  unfold sb_b
  congr 1
  refine i8_eq ?_
  rw [pk_ushr v s _ hs, pk_tn (by have := byt_lt v q; omega)]
  unfold byt
  omega
theorem byteM {v s : Int32} {q : Nat} (hq : q < 4) (hs : (s.toBitVec.smod 32).toNat = 24 - 8 * q) : (v >>> s) &&& 255 = nI (byt v q) := by
  rw [pk_and (v >>> s) 8 (by decide)]
  congr 1
  have h1 := pk_shr v s _ hs
  have e1 : (v >>> s).toInt = if 2 * (v >>> s).toBitVec.toNat < 4294967296 then ((v >>> s).toBitVec.toNat : Int) else ((v >>> s).toBitVec.toNat : Int) - 4294967296 := by
    show (v >>> s).toBitVec.toInt = _
    rw [BitVec.toInt_eq_toNat_cond]; rfl
  have e2 : v.toInt = if 2 * v.toBitVec.toNat < 4294967296 then (v.toBitVec.toNat : Int) else (v.toBitVec.toNat : Int) - 4294967296 := by
    show v.toBitVec.toInt = _
    rw [BitVec.toInt_eq_toNat_cond]; rfl
  have b1 := (v >>> s).toBitVec.isLt
  have b2 := v.toBitVec.isLt
  rw [Int.shiftRight_eq_div_pow] at h1
  unfold byt
  generalize (v >>> s).toBitVec.toNat = X at *
  generalize v.toBitVec.toNat = Y at *
  rcases (show q = 0 ∨ q = 1 ∨ q = 2 ∨ q = 3 by omega) with rfl | rfl | rfl | rfl <;> simp at h1 ⊢ <;> split at e1 <;> split at e2 <;> omega
section TC
variable {w : Wd} {L : Nat} {h : Hp}
def tcId (id : Nat) : Prop := id = 6 ∨ id = 7
theorem append_step {Q : Hp → Prop} {v x : Int32} {t : Tp} {q : Nat} (c : Lay L h) (D : tapeC h t) (hn : t.1 < 1600) (hx : ¬ x < 0) (hq : ((x.toUInt32 &&& Int32.toUInt32 31).toBitVec % 32).toNat = 24 - 8 * q)
    (K : ∀ h', Chg tcId h h' → hL h' = hL h → tapeC h' (tpAdd t (byt v q)) → AW w mX6_append 0 0 (rV Q) 0 0 3 [some (.ref 6), some (.int v), some (.int (x + (-8)))] [] h') : AW w mX6_append 0 0 (rV Q) 0 0 3 [some (.ref 6), some (.int v), some (.int x)] [] h := by
  refine sX6_append_3 ⟨fun c1 => absurd c1 hx, fun _ => ?_⟩
  simp only [s_6 c, r_6_0 c, s_7 c, D.2.1, cl_nI (show t.1 < 2147483648 by omega), byteC hq]
  refine ⟨trivial, fun c1 => ?_, fun _ => ⟨by decide, trivial, vp_nI hn (by decide), fun a1 e1 a2 e2 => ?_⟩⟩
  · rw [ti_le, t_1600, nI_toInt (by omega)] at c1
    omega
  · subst e1 e2
    refine K _ (((Chg.rfl' h).sI (Or.inr rfl)).sI (Or.inl rfl)) rfl ⟨by show t.1 + 1 ≤ 1600; omega, ?_, fun i hi => ?_⟩
    · rw [hI_eq, hI_ne (Or.inl (by decide)), D.2.1, nI_1]; rfl
    · have hi : i < t.1 + 1 := hi
      show (if i = t.1 then byt v q else t.2 i) < 256 ∧ _ = sb_b (if i = t.1 then byt v q else t.2 i)
      rw [hI_ne (Or.inl (by decide))]
      by_cases e : i = t.1
      · subst e
        rw [if_pos rfl, hI_eq]
        exact ⟨byt_lt v q, rfl⟩
      · rw [if_neg e, hI_ne (Or.inr e)]
        exact D.2.2 i (by omega)
theorem sp_append {Q : Hp → Prop} {v : Int32} {t : Tp} (c : Lay L h) (D : tapeC h t) (hn : t.1 + 4 ≤ 1600) (K : ∀ h', Chg tcId h h' → hL h' = hL h → tapeC h' (tp4 t v) → Q h') : AC w mX6_append 0 0 (rV Q) [.ref 6, .int v] h := by
  have ly : ∀ {a b : Hp}, Chg tcId a b → Lay L a → Lay L b := fun q y => q.lay y (fun id z => by unfold tcId at z; omega)
  refine eX6_append (sX6_append_0 ?_)
  refine append_step (q := 0) c D (by omega) (by decide) (by decide) (fun h1 a1 b1 d1 => ?_)
  refine append_step (q := 1) (ly a1 c) d1 (by show t.1 + 1 < 1600; omega) (by decide) (by decide) (fun h2 a2 b2 d2 => ?_)
  refine append_step (q := 2) (ly a2 (ly a1 c)) d2 (by show t.1 + 1 + 1 < 1600; omega) (by decide) (by decide) (fun h3 a3 b3 d3 => ?_)
  refine append_step (q := 3) (ly a3 (ly a2 (ly a1 c))) d3 (by show t.1 + 1 + 1 + 1 < 1600; omega) (by decide) (by decide) (fun h4 a4 b4 d4 => ?_)
  exact sX6_append_3 ⟨fun _ => K h4 (((a1.trans a2).trans a3).trans a4) (((b4.trans b3).trans b2).trans b1) d4, fun z => absurd (by decide) z⟩
def tp20 (t : Tp) (a b d e f : Int32) : Tp := tp4 (tp4 (tp4 (tp4 (tp4 t a) b) d) e) f
def fFeed (t : Tp) (a b d e f : Int32) : Int32 × Tp := if t.1 ≤ 1580 then (nI (t.1 + 20), tp20 t a b d e f) else (-100004, t)
def fCut (t : Tp) (n : Int32) : Int32 × Tp := if inR n (t.1 + 1) = true then (nI (t.1 - n.toNatClampNeg), (n.toNatClampNeg, t.2)) else (-100002, t)
def TCh (h h' : Hp) (t : Tp) : Prop := Chg tcId h h' ∧ hL h' = hL h ∧ tapeC h' t
theorem tp4_n (t : Tp) (v : Int32) : (tp4 t v).1 = t.1 + 4 := rfl
theorem sp_feed {Q : Int32 → Hp → Prop} {t : Tp} {a b d e f : Int32} (c : Lay L h) (D : tapeC h t) (K : ∀ h', TCh h h' (fFeed t a b d e f).2 → Q (fFeed t a b d e f).1 h') : AC w mX9_feed 0 0 (rI Q) [.ref 5, .int a, .int b, .int d, .int e, .int f] h := by
  have ly : ∀ {a b : Hp}, Chg tcId a b → Lay L a → Lay L b := fun q y => q.lay y (fun id z => by unfold tcId at z; omega)
  have hn := D.1
  refine eX9_feed (sX9_feed_0 ?_)
  simp only [s_5 c, r_5_0 c, s_6 c, D.2.1]
  refine ⟨trivial, by decide, trivial, fun c1 => ?_, fun c1 => ?_⟩
  · rw [ti_le, nI_toInt (by omega), t_1580] at c1
    have e0 : fFeed t a b d e f = (nI (t.1 + 20), tp20 t a b d e f) := by rw [fFeed, if_pos (by omega)]
    rw [e0] at K
    refine sp_append c D (by omega) (fun h1 a1 b1 d1 => ?_)
    have c1' := ly a1 c
    simp only [s_5 c1', r_5_0 c1', s_6 c1']
    refine ⟨trivial, by decide, trivial, sp_append c1' d1 (by rw [tp4_n]; omega) (fun h2 a2 b2 d2 => ?_)⟩
    have c2' := ly a2 c1'
    simp only [s_5 c2', r_5_0 c2', s_6 c2']
    refine ⟨trivial, by decide, trivial, sp_append c2' d2 (by simp only [tp4_n]; omega) (fun h3 a3 b3 d3 => ?_)⟩
    have c3' := ly a3 c2'
    simp only [s_5 c3', r_5_0 c3', s_6 c3']
    refine ⟨trivial, by decide, trivial, sp_append c3' d3 (by simp only [tp4_n]; omega) (fun h4 a4 b4 d4 => ?_)⟩
    have c4' := ly a4 c3'
    simp only [s_5 c4', r_5_0 c4', s_6 c4']
    refine ⟨trivial, by decide, trivial, sp_append c4' d4 (by simp only [tp4_n]; omega) (fun h5 a5 b5 d5 => ?_)⟩
    have c5' := ly a5 c4'
    simp only [s_5 c5', r_5_0 c5', s_6 c5']
    refine ⟨trivial, by decide, trivial, Qto (K h5 ⟨(((a1.trans a2).trans a3).trans a4).trans a5, (((b5.trans b4).trans b3).trans b2).trans b1, d5⟩) ?_⟩
    rw [d5.2.1]; rfl
  · rw [ti_le, nI_toInt (by omega), t_1580] at c1
    have e0 : fFeed t a b d e f = (-100004, t) := by rw [fFeed, if_neg (by omega)]
    rw [e0] at K
    exact K h ⟨Chg.rfl' h, rfl, D⟩
theorem sp_cut {Q : Int32 → Hp → Prop} {t : Tp} {n : Int32} (c : Lay L h) (D : tapeC h t) (K : ∀ h', TCh h h' (fCut t n).2 → Q (fCut t n).1 h') : AC w mX9_cut 0 0 (rI Q) [.ref 5, .int n] h := by
  have hn := D.1
  have bad : inR n (t.1 + 1) = false → Q (-100002) h := fun q => by
    have e0 : fCut t n = (-100002, t) := by rw [fCut, q]; rfl
    rw [e0] at K
    exact K h ⟨Chg.rfl' h, rfl, D⟩
  refine eX9_cut (sX9_cut_0 ⟨fun c1 => ?_, fun c1 => ?_⟩)
  · rw [ti_lt, t_0] at c1
    exact bad (inR_f (by omega))
  · rw [ti_lt, t_0] at c1
    simp only [s_5 c, r_5_0 c, s_6 c, D.2.1]
    refine ⟨trivial, by decide, trivial, fun c2 h1 e1 => ?_, fun c2 => ?_⟩
    · subst e1
      rw [ti_le, nI_toInt (by omega)] at c2
      obtain ⟨m, hm, rfl⟩ := ti_nI (x := n) (n := t.1 + 1) (by omega) (by omega) (by omega)
      have hin : inR (nI m) (t.1 + 1) = true := inR_lt hm (by omega)
      have e0 : fCut t (nI m) = (nI (t.1 - m), (m, t.2)) := by rw [fCut, if_pos hin, cl_nI (by omega)]
      rw [e0] at K
      rw [pk_sub (by omega)]
      refine K _ ⟨(Chg.rfl' h).sI (Or.inl rfl), rfl, by show m ≤ 1600; omega, hI_eq, fun i hi => ?_⟩
      rw [hI_ne (Or.inl (by decide))]
      exact D.2.2 i (by have : i < m := hi; omega)
    · rw [ti_le, nI_toInt (by omega)] at c2
      exact bad (inR_f (by omega))
end TC
