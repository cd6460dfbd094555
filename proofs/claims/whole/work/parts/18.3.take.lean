/-! ===== take: the class ===== -/
def pr0 : Pr := (fun _ => -1, fun _ => -1)
def tm0 : Nat → Int32 := fun _ => -1
def sh0 (n1 : Nat) : Sh := fun _ _ => 1048576 / nI (n1 + 1)
theorem okP.pr0 : okP pr0 := fun i hi => ⟨Or.inl rfl, Or.inl rfl⟩
theorem cnt_0 : cnt pr0.1 = 0 := by decide
theorem sh0_in {n1 : Nat} (h : n1 ≤ 40) (a b : Nat) : in20 (sh0 n1 a b) := by
  have : ∀ n, n < 41 → 0 ≤ ((1048576 : Int32) / nI (n + 1)).toInt ∧ ((1048576 : Int32) / nI (n + 1)).toInt ≤ 1048576 := by decide +kernel
  exact this n1 (by omega)
theorem okS.s0 {n0 n1 : Nat} (h0 : n0 ≤ 40) (h1 : n1 ≤ 40) : okS n0 n1 (sh0 n1) tm0 := ⟨h0, h1, fun a _ => ⟨Or.inl rfl, sh0_in h1 a 40, fun b _ => sh0_in h1 a b⟩⟩
def rooms (h : Hp) : Prop := ∀ b, isBk b → hI h (b + 1) 0 = nI 40
def bkO3 (h : Hp) (o : Nat → Nat) : Prop := (hR h 19 0 = o 0 ∧ hR h 19 1 = o 1 ∧ hR h 5 4 = o 2) ∧ (isBk (o 0) ∧ isBk (o 1) ∧ isBk (o 2)) ∧ o 0 ≠ o 1 ∧ o 0 ≠ o 2 ∧ o 1 ≠ o 2
def o3 (o : Nat → Nat) (j : Nat) : Nat → Nat := fun k => if k = j then o 2 else if k = 2 then o j else o k
def tkD (id j : Nat) : Prop := (id = 5 ∧ j = 11) ∨ (id = 6 ∧ j = 1) ∨ id = 17 ∨ id = 18 ∨ (20 ≤ id ∧ id ≤ 268) ∨ id = 310
/-- behind take -/
def TkC (h h' : Hp) : Prop := (h'.1 = h.1 ∧ hs h' = hs h) ∧ (∀ id k, id ≠ 19 → ¬ (id = 5 ∧ k = 4) → hR h' id k = hR h id k) ∧ ∀ id j, ¬ tkD id j → hI h' id j = hI h id j ∧ hL h' id j = hL h id j
theorem TkC.cg {h h1 h2 : Hp} (a : TkC h h1) (b : Cg tkD h1 h2) : TkC h h2 := ⟨⟨b.1.trans a.1.1, b.2.1.trans a.1.2⟩, fun id k q1 q2 => by rw [b.2.2.1]; exact a.2.1 id k q1 q2, fun id j q => ⟨(b.2.2.2 id j q).1.trans (a.2.2 id j q).1, (b.2.2.2 id j q).2.trans (a.2.2 id j q).2⟩⟩
theorem TkC.of {h h1 : Hp} (b : Cg tkD h h1) : TkC h h1 := TkC.cg ⟨⟨rfl, rfl⟩, fun _ _ _ _ => rfl, fun _ _ _ => ⟨rfl, rfl⟩⟩ b
theorem TkC.sR {h h1 : Hp} (a : TkC h h1) {b i v : Nat} (hb : b = 19 ∨ (b = 5 ∧ i = 4)) : TkC h (sR h1 b i v) := ⟨a.1, fun id k q1 q2 => by
  rw [hR_sR, u2_n (by omega)]; exact a.2.1 id k q1 q2, a.2.2⟩
theorem rf_19 : ∀ k, (rfT.getD 19 []).getD k 0 = 0 := fun k => by
  have : rfT.getD 19 [] = [] := rfl
  rw [this]; rfl
theorem TkC.lay {h h' : Hp} {L : Nat} (a : TkC h h') (c : Lay L h) : Lay L h' := ⟨⟨by rw [a.1.1]; exact c.1.1, by rw [a.1.2]; exact c.1.2.1, by rw [a.1.2]; exact c.1.2.2⟩, fun id k r e h0 => by
  rw [a.2.1 id k (fun q => by subst q; rw [rf_19] at e; omega) (fun q => by obtain ⟨rfl, rfl⟩ := q; exact absurd e (fun z => h0 (z.symm.trans rfl)))]; exact c.2.1 id k r e h0, fun b j h1 h2 => by rw [(a.2.2 b j (by unfold tkD; omega)).1]; exact c.2.2 b j h1 h2⟩
theorem hR_eq {h : Hp} {a i v : Nat} : hR (sR h a i v) a i = v := u2_s
theorem hR_ne {h : Hp} {a i b j v : Nat} (q : b ≠ a ∨ j ≠ i) : hR (sR h a i v) b j = hR h b j := u2_n q
section TK
variable {w : Wd} {L : Nat} {h : Hp} {t : Tp} {sf : Sf}
theorem sp_forgetAll {Q : Hp → Prop} (c : Lay L h) (K : ∀ h', Cg (fun id j => 224 ≤ id ∧ id ≤ 226) h h' → pairC h' pr0 → Q h') : AC w mX3_forgetAll 0 0 (rV Q) [.ref 224] h := by
  refine eX3_forgetAll (sX3_forgetAll_0 ?_)
  rw [s_224 c, r_224_0 c]
  refine ⟨rfl, by decide, sp_fillI (N := 20) (by decide) (s_225 c) (fun h1 a1 l1 x1 => ?_)⟩
  have c1 : Lay L h1 := a1.lay c (fun id q => by omega)
  rw [s_224 c1, r_224_1 c1]
  refine ⟨rfl, by decide, sp_fillI (N := 20) (by decide) (s_226 c1) (fun h2 a2 l2 x2 => ?_)⟩
  have c2 : Lay L h2 := a2.lay c1 (fun id q => by omega)
  rw [s_224 c2]
  refine ⟨rfl, fun h3 e3 => ?_⟩
  subst e3
  refine K _ (((Cg.of a1 (fun id j q => by omega)).trans (Cg.of a2 (fun id j q => by omega))).sI (by omega)) ⟨okP.pr0, by rw [hI_eq, cnt_0]; rfl, fun i hi => ⟨?_, ?_⟩⟩
  · rw [hI_ne (Or.inl (by decide)), (a2.2.2.2 225 (by omega) i).1]; exact x1 i hi
  · rw [hI_ne (Or.inl (by decide))]; exact x2 i hi
theorem sp_spread {Q : Hp → Prop} {n0 n1 : Nat} (c : Lay L h) (h0 : n0 ≤ 40) (h1 : n1 ≤ 40) (K : ∀ h', Cg (fun id j => 227 ≤ id ∧ id ≤ 310 ∧ (id = 227 ∨ (229 ≤ id ∧ id ≤ 268) ∨ id = 310)) h h' → shareC h' n0 n1 (sh0 n1) tm0 → Q h') : AC w mX4_spread 0 0 (rV Q) [.ref 227, .int (nI n0), .int (nI n1)] h := by
  have lp : ∀ (d k : Nat) (h' : Hp), k + d = n0 → Cg (fun id j => 227 ≤ id ∧ id ≤ 310 ∧ (id = 227 ∨ (229 ≤ id ∧ id ≤ 268) ∨ id = 310)) h h' → hI h' 227 3 = nI n0 → hI h' 227 4 = nI n1 → (∀ a, a < 40 → hI h' 310 a = -1) → (∀ a, a < k → ∀ b, b < 41 → hI h' (229 + a) b = sh0 n1 a b) → AW w mX4_spread 0 0 (rV Q) 0 0 20 [some (.ref 227), none, none, some (.int (nI k))] [] h' := by
    intro d
    induction d with
    | zero =>
      intro k h' hk a e3 e4 et ex
      have c' : Lay L h' := a.lay c (fun id j q => by omega)
      refine sX4_spread_20 ?_
      simp (disch := omega) only [s_227 c', e3, ti_le, nI_toInt]
      refine ⟨trivial, fun _ => K h' a ⟨okS.s0 h0 h1, e3, e4, fun x hx => ⟨et x (by omega), ex x (by omega) 40 (by decide), fun b hb => ex x (by omega) b (by omega)⟩⟩, fun z => by omega⟩
    | succ d ih =>
      intro k h' hk a e3 e4 et ex
      have c' : Lay L h' := a.lay c (fun id j q => by omega)
      refine sX4_spread_20 ?_
      have ne : ¬ nI (n1 + 1) = 0 := by rw [nI_0' (by omega)]; omega
      simp (disch := omega) only [s_227 c', r_227_0 c', s_228 c', r_pt c', e3, e4, ti_le, nI_toInt, cl_nI, nI_1]
      refine ⟨trivial, fun z => by omega, fun _ => ⟨by decide, trivial, vp_nI (by omega) (by decide), by omega, ne, sp_fillI (N := 41) (by decide) (s_pt c' (by omega)) (fun h2 a2 l2 x2 => ?_)⟩⟩
      refine ih (k + 1) h2 (by omega) (a.trans (Cg.of a2 (fun id j q => by omega))) (by rw [(a2.2.2.2 _ (by omega) _).1]; exact e3) (by rw [(a2.2.2.2 _ (by omega) _).1]; exact e4) (fun x hx => by rw [(a2.2.2.2 _ (by omega) _).1]; exact et x hx) (fun x hx b hb => ?_)
      by_cases e : x = k
      · subst e; exact x2 b hb
      · rw [(a2.2.2.2 _ (by omega) _).1]; exact ex x (by omega) b hb
  refine eX4_spread (sX4_spread_0 ?_)
  simp only [s_227 c, r_227_2 c, forall_eq]
  have c2 : Lay L (sI (sI h 227 3 (nI n0)) 227 4 (nI n1)) := (c.sI (by decide)).sI (by decide)
  refine ⟨trivial, by decide, sp_fillI (N := 40) (by decide) (s_310 c2) (fun h3 a3 l3 x3 => ?_)⟩
  refine lp n0 0 h3 (by omega) ((((Cg.rfl' h).sI (by omega)).sI (by omega)).trans (Cg.of a3 (fun id j q => by omega))) ?_ ?_ x3 (fun a ha => by omega)
  · rw [(a3.2.2.2 _ (by omega) _).1, hI_ne (Or.inr (by decide)), hI_eq]
  · rw [(a3.2.2.2 _ (by omega) _).1, hI_eq]
theorem bookC.of {h h' : Hp} {b : Nat} {B : Bk} (D : bookC h b B) (q : ∀ id i, b ≤ id → id ≤ b + 67 → hI h' id i = hI h id i) : bookC h' b B := D.chg (fun id h1 h2 i => q id i h1 h2)
theorem bk_sep {x y : Nat} (hx : isBk x) (hy : isBk y) (h : x ≠ y) {id : Nat} (h1 : x ≤ id) (h2 : id ≤ x + 67) : ¬ (y ≤ id ∧ id ≤ y + 67) := by
  rcases hx with rfl | rfl | rfl <;> rcases hy with rfl | rfl | rfl <;> omega
theorem isBk_223 {b : Nat} (h : isBk b) : 20 ≤ b ∧ b + 67 ≤ 223 := by rcases h with rfl | rfl | rfl <;> decide
theorem e0c : (0 : Int32).toNatClampNeg = 0 := by decide
theorem sp_take {Q : Int32 → Hp → Prop} {o : Nat → Nat} {bk : Nat → Bk} {x : Int32} (c : Lay L h) (O : bkO3 h o) (B : booksC h o bk) (T : tapeC h t) (S : shortC h sf) (Rm : rooms h) (K0 : inR x 2 = false → Q (-100001) h) (K1 : inR x 2 = true → scan t sf t.1 w0 p0 = none → ∀ h', Cg tkD h h' → tapeC h' t → booksC h' o bk → hI h' 5 11 = hI h 5 11 → (∀ id j, 223 < id → hI h' id j = hI h id j ∧ hL h' id j = hL h id j) → Q (-100004) h')
    (K2 : ∀ j, j < 2 → x = nI j → ∀ P, scan t sf t.1 w0 p0 = some P → ∀ h', TkC h h' → bkO3 h' (o3 o j) → booksC h' (o3 o j) (setBk bk j P.1) → tapeC h' (0, t.2) → pairC h' pr0 → shareC h' (bNk (setBk bk j P.1 0)) (bNk (setBk bk j P.1 1)) (sh0 (bNk (setBk bk j P.1 1))) tm0 → hI h' 5 11 = 1 → Q (nI (bNs P.1)) h') : AC w mX9_take 0 0 (rI Q) [.ref 5, .int x] h := by
  obtain ⟨⟨r0, r1, r2⟩, ⟨i0, i1, i2⟩, n01, n02, n12⟩ := id O
  have p2 := isBk_223 i2
  refine eX9_take (sX9_take_0 ⟨by rw [s_5 c], sp_isBook ⟨fun q => ?_, fun q => K0 (b01_eq.mp q)⟩⟩)
  rw [b01_ne] at q
  rw [s_5 c, r_5_2 c, r2, s_17 c]
  refine ⟨rfl, by decide, by omega, rfl, sp_fill c i2 T S (Rm _ i2) (fun e h1 a1 => ⟨fun z => absurd rfl z, fun _ => ?_⟩) (fun P e h1 a1 D1 => ⟨fun _ => ?_, fun z => absurd z (by decide)⟩)⟩
  · refine K1 q e h1 (a1.mono (fun id j z => by unfold flD at z; unfold tkD; omega)) (T.cg a1 (fun id j z => by unfold flD at z; omega)) ?_ (a1.i (by unfold flD; omega)) (fun id j z => a1.2.2.2 id j (by unfold flD; omega))
    refine ⟨⟨by rw [a1.2.2.1]; exact ⟨r0, r1⟩, i0, i1, n01⟩, B.2.1.of (fun id i z1 z2 => a1.i ?_), B.2.2.of (fun id i z1 z2 => a1.i ?_)⟩
    · have := bk_sep i0 i2 n02 z1 z2; have := isBk_pos i0; unfold flD; omega
    · have := bk_sep i1 i2 n12 z1 z2; have := isBk_pos i1; unfold flD; omega
  · obtain ⟨j, hj, rfl⟩ := inR_nI q (by decide)
    obtain ⟨ok, f1, f2⟩ := scan_ok (t := t) (sf := sf) t.1 w0 p0 P okQ.p0 ⟨Nat.zero_le _, fun i hi => absurd hi (Nat.not_lt_zero i)⟩ (Nat.le_refl _) e
    have a1t : TkC h h1 := TkC.of (a1.mono (fun id j z => by unfold flD at z; unfold tkD; omega))
    have c1 : Lay L h1 := a1t.lay c
    have rr : hR h1 = hR h := a1.2.2.1
    have rj : hR h1 19 j = o j := by
      rw [rr]
      rcases (show j = 0 ∨ j = 1 by omega) with rfl | rfl
      · exact r0
      · exact r1
    have ij : isBk (o j) := by
      rcases (show j = 0 ∨ j = 1 by omega) with rfl | rfl
      · exact i0
      · exact i1
    have pj := isBk_223 ij
    rw [s_5 c1, r_5_3 c1, s_19 c1, cl_nI (by omega), rj, show hR h1 5 4 = o 2 by rw [rr]; exact r2, sb_this c1 i2]
    refine ⟨rfl, by decide, rfl, vp_nI hj (by decide), by omega, by omega, rfl, fun h3 e3 h4 e4 => ?_⟩
    subst e3 e4
    have a4 : TkC h (sR (sR h1 19 j (o 2)) 5 4 (o j)) := (a1t.sR (Or.inl rfl)).sR (Or.inr ⟨rfl, rfl⟩)
    have c4 := a4.lay c
    have O4 : bkO3 (sR (sR h1 19 j (o 2)) 5 4 (o j)) (o3 o j) := by
      rcases (show j = 0 ∨ j = 1 by omega) with rfl | rfl
      · exact ⟨⟨by rw [hR_ne (Or.inl (by decide)), hR_eq]; rfl, by rw [hR_ne (Or.inl (by decide)), hR_ne (Or.inr (by decide)), rr]; exact r1, hR_eq⟩, ⟨i2, i1, i0⟩, n12.symm, n02.symm, n01.symm⟩
      · exact ⟨⟨by rw [hR_ne (Or.inl (by decide)), hR_ne (Or.inr (by decide)), rr]; exact r0, by rw [hR_ne (Or.inl (by decide)), hR_eq]; rfl, hR_eq⟩, ⟨i0, i2, i1⟩, n02, n01, n12.symm⟩
    have C1 : bookC h1 (o 2) P.1 := D1.done f2
    have B0 : bookC h1 (o 0) (bk 0) := B.2.1.of (fun id i z1 z2 => a1.i (by have := bk_sep i0 i2 n02 z1 z2; have := isBk_pos i0; unfold flD; omega))
    have B1 : bookC h1 (o 1) (bk 1) := B.2.2.of (fun id i z1 z2 => a1.i (by have := bk_sep i1 i2 n12 z1 z2; have := isBk_pos i1; unfold flD; omega))
    have BB : booksC (sR (sR h1 19 j (o 2)) 5 4 (o j)) (o3 o j) (setBk bk j P.1) := by
      refine ⟨⟨⟨O4.1.1, O4.1.2.1⟩, O4.2.1.1, O4.2.1.2.1, O4.2.2.1⟩, ?_, ?_⟩
      · rcases (show j = 0 ∨ j = 1 by omega) with rfl | rfl
        · exact C1
        · exact B0
      · rcases (show j = 0 ∨ j = 1 by omega) with rfl | rfl
        · exact B1
        · exact C1
    revert a4 c4 O4 BB
    generalize hh : sR (sR h1 19 j (o 2)) 5 4 (o j) = h4
    intro a4 c4 O4 BB
    rw [r_5_0 c4, r_5_5 c4, show hs h1 = hs h4 by rw [← hh]; rfl, s_6 c4, s_224 c4]
    refine ⟨by decide, rfl, fun h5 e5 => ⟨by decide, rfl, ?_⟩⟩
    subst e5
    have c5 : Lay L (sI h4 6 1 0) := c4.sI (by decide)
    have x5 : Cg tkD h4 (sI h4 6 1 0) := (Cg.rfl' h4).sI (by unfold tkD; omega)
    refine sp_forgetAll c5 (fun h6 a6 p6 => ?_)
    have x6 : Cg tkD h4 h6 := x5.trans (a6.mono (fun id j q => by unfold tkD; omega))
    have c6 : Lay L h6 := x6.lay c4 (fun id j q => by unfold tkD at q; omega)
    have bb6 : ∀ {h6 : Hp}, hR h6 = hR h4 → (∀ id i, 20 ≤ id → id ≤ 223 → hI h6 id i = hI h4 id i) → booksC h6 (o3 o j) (setBk bk j P.1) := fun {h6} q1 q2 => by
      refine ⟨⟨by rw [q1]; exact BB.1.1, BB.1.2⟩, BB.2.1.of (fun id i z1 z2 => q2 id i ?_ ?_), BB.2.2.of (fun id i z1 z2 => q2 id i ?_ ?_)⟩
      · have := isBk_223 BB.1.2.1; omega
      · have := isBk_223 BB.1.2.1; omega
      · have := isBk_223 BB.1.2.2.1; omega
      · have := isBk_223 BB.1.2.2.1; omega
    have b6 : booksC h6 (o3 o j) (setBk bk j P.1) := bb6 (by rw [a6.2.2.1]; rfl) (fun id i z1 z2 => by rw [a6.i (by omega), hI_ne (Or.inl (by omega))])
    obtain ⟨g0, gi0, gb0⟩ := b6.r (j := 0) (by decide)
    obtain ⟨g1, gi1, gb1⟩ := b6.r (j := 1) (by decide)
    have hp0 := isBk_pos gi0
    have hp1 := isBk_pos gi1
    have k0 := gb0.1.2.1
    have k1 := gb1.1.2.1
    simp only [s_5 c6, r_5_6 c6, r_5_3 c6, s_19 c6, e0c, e1c, g0, g1, sb_this c6 gi0, sb_this c6 gi1, show hR h6 (o3 o j 0) 0 = o3 o j 0 + 1 from rb_0_0 c6 gi0, show hR h6 (o3 o j 1) 0 = o3 o j 1 + 1 from rb_0_0 c6 gi1, sb_1 c6 gi0, sb_1 c6 gi1, s_227 c6, gb0.2.2.2.1, gb1.2.2.2.1]
    refine ⟨trivial, by decide, by decide, trivial, vp_nI (j := 0) (by decide) (by decide), by omega, trivial, by omega, trivial, vp_nI (j := 1) (by decide) (by decide), by omega, trivial, by omega, trivial, trivial, sp_spread c6 k0 k1 (fun h7 a7 s7 => ?_)⟩
    have x7 : Cg tkD h4 h7 := x6.trans (a7.mono (fun id j q => by unfold tkD; omega))
    have c7 : Lay L h7 := x7.lay c4 (fun id j q => by unfold tkD at q; omega)
    have rj7 : hR h7 19 j = o3 o j j := by
      rw [x7.2.2.1]
      rcases (show j = 0 ∨ j = 1 by omega) with rfl | rfl
      · exact O4.1.1
      · exact O4.1.2.1
    have e2 : o3 o j j = o 2 := if_pos rfl
    rw [s_5 c7, r_5_3 c7, s_19 c7, rj7, e2, sb_this c7 i2]
    refine ⟨rfl, fun h8 e8 => ⟨by decide, rfl, vp_nI hj (by decide), by omega, rfl, ?_⟩⟩
    subst e8
    have b8 : booksC (sI h7 5 11 1) (o3 o j) (setBk bk j P.1) := bb6 (by rw [← x7.2.2.1]; rfl) (fun id i z1 z2 => by rw [hI_ne (Or.inl (by omega)), a7.i (by omega), a6.i (by omega), hI_ne (Or.inl (by omega))])
    have hv : hI (sI h7 5 11 1) (o 2) 5 = nI (bNs P.1) := by
      have := (b8.r hj).2.2.2.1
      rw [show setBk bk j P.1 j = P.1 from if_pos rfl, e2] at this
      exact this
    rw [hv]
    refine K2 j hj rfl P e _ (a4.cg (x7.sI (by unfold tkD; omega))) ⟨by rw [show hR (sI h7 5 11 1) = hR h4 by rw [← x7.2.2.1]; rfl]; exact O4.1, O4.2⟩ b8 ⟨Nat.zero_le _, ?_, fun i hi => absurd hi (Nat.not_lt_zero i)⟩ ⟨p6.1, ?_, fun i hi => ⟨?_, ?_⟩⟩ ⟨s7.1, ?_, ?_, fun a ha => ⟨?_, ?_, fun b hb => ?_⟩⟩ hI_eq
    · rw [hI_ne (Or.inl (by decide)), a7.i (by omega), a6.i (by omega), hI_eq]; rfl
    · rw [hI_ne (Or.inl (by decide)), a7.i (by omega)]; exact p6.2.1
    · rw [hI_ne (Or.inl (by decide)), a7.i (by omega)]; exact (p6.2.2 i hi).1
    · rw [hI_ne (Or.inl (by decide)), a7.i (by omega)]; exact (p6.2.2 i hi).2
    · rw [hI_ne (Or.inl (by decide))]; exact s7.2.1
    · rw [hI_ne (Or.inl (by decide))]; exact s7.2.2.1
    · rw [hI_ne (Or.inl (by decide))]; exact (s7.2.2.2 a ha).1
    · rw [hI_ne (Or.inl (by omega))]; exact (s7.2.2.2 a ha).2.1
    · rw [hI_ne (Or.inl (by omega))]; exact (s7.2.2.2 a ha).2.2 b hb
end TK
