/-! ===== partner ===== -/
def thr (z : Int32) : Int32 := if z < 131071 then 131071 else z
def pF (f : Nat → Int32) (z : Int32) : Nat → Int32 × Int32
  | 0 => (-1, thr z)
  | n + 1 => if f n ≤ (pF f z n).2 then pF f z n else (nI n, f n)
def pOf (sh : Sh) (a n : Nat) : Int32 := (pF (sh a) (sh a 40) n).1
def lsF (f : Nat → Int32) (z : Int32) : Nat → Int32
  | 0 => z
  | n + 1 => lsF f z n + f n
theorem thr_lt {z x : Int32} : thr z < x ↔ (z.toInt < x.toInt ∧ 131071 < x.toInt) := by
  unfold thr
  rw [ti_lt]
  split
  · rename_i q; rw [ti_lt, t_131071] at q; rw [t_131071]; omega
  · rename_i q; rw [ti_lt, t_131071] at q; omega
/-- the reference's best so far, beside the class's -/
def pInv (f : Nat → Int32) (z : Int32) (k b : Nat) : Prop := b < k ∧ (∀ c, c < k → (f c).toInt ≤ (f b).toInt) ∧ pF f z k = if thr z < f b then (nI b, f b) else (-1, thr z)
theorem pInv_0 (f : Nat → Int32) (z : Int32) : pInv f z 1 0 := by
  refine ⟨by decide, fun c hc => by rw [show c = 0 by omega]; omega, ?_⟩
  show (if f 0 ≤ (pF f z 0).2 then pF f z 0 else (nI 0, f 0)) = _
  show (if f 0 ≤ thr z then (-1, thr z) else (nI 0, f 0)) = _
  by_cases q : thr z < f 0
  · rw [if_pos q, if_neg (by rw [ti_le]; rw [ti_lt] at q; omega)]
  · rw [if_neg q, if_pos (by rw [ti_le]; rw [ti_lt] at q; omega)]
theorem pInv_s {f : Nat → Int32} {z : Int32} {k b : Nat} (h : pInv f z k b) : pInv f z (k + 1) (if f k ≤ f b then b else k) := by
  obtain ⟨h1, h2, h3⟩ := h
  have hp : pF f z (k + 1) = if f k ≤ (pF f z k).2 then pF f z k else (nI k, f k) := rfl
  by_cases q : f k ≤ f b
  · rw [if_pos q]
    rw [ti_le] at q
    refine ⟨by omega, fun c hc => ?_, ?_⟩
    · by_cases e : c = k
      · subst e; exact q
      · exact h2 c (by omega)
    · rw [hp, h3]
      by_cases t : thr z < f b
      · rw [if_pos t, if_pos (by rw [ti_le]; exact q)]
      · rw [if_neg t, if_pos (by rw [ti_le]; rw [ti_lt] at t; show (f k).toInt ≤ (thr z).toInt; omega)]
  · rw [if_neg q]
    rw [ti_le] at q
    refine ⟨by omega, fun c hc => ?_, ?_⟩
    · by_cases e : c = k
      · subst e; omega
      · have := h2 c (by omega); omega
    · rw [hp, h3]
      by_cases t : thr z < f b
      · rw [if_pos t, if_neg (by rw [ti_le]; exact q), if_pos (by rw [ti_lt] at t ⊢; omega)]
      · rw [if_neg t]
        by_cases u : thr z < f k
        · rw [if_pos u, if_neg (by rw [ti_le]; rw [ti_lt] at u; show ¬ (f k).toInt ≤ (thr z).toInt; omega)]
        · rw [if_neg u, if_pos (by rw [ti_le]; rw [ti_lt] at u; show (f k).toInt ≤ (thr z).toInt; omega)]
def fPartner (n0 n1 : Nat) (sh : Sh) (tm : Nat → Int32) (a x : Int32) : Int32 := if inR a n0 = true then (if x.toInt = 0 then pOf sh a.toNatClampNeg n1 else if x.toInt = 1 then 1048576 - lsF (sh a.toNatClampNeg) (sh a.toNatClampNeg 40) n1 else if x.toInt = 2 then tm a.toNatClampNeg else -100002) else -100001
section PN
variable {w : Wd} {L : Nat} {h : Hp} {Q : Int32 → Hp → Prop} {o : Nat → Nat} {bk : Nat → Bk} {sh : Sh} {tm : Nat → Int32} {n0 n1 : Nat}
theorem e40c : (40 : Int32).toNatClampNeg = 40 := by decide
theorem e1c : (1 : Int32).toNatClampNeg = 1 := by decide
theorem sp_partnerOf {a : Nat} (c : Lay L h) (D : shareC h n0 n1 sh tm) (ha : a < n0) (K : Q (pOf sh a n1) h) : AC w mX4_partnerOf 0 0 (rI Q) [.ref 227, .int (nI a)] h := by
  have h0 := D.1.1
  have h1 := D.1.2.1
  have hv := D.2.2.2 a ha
  have lp : ∀ (d k : Nat), k + d = n1 → AW w mX4_partnerOf 0 0 (rI Q) 0 0 20 [some (.ref 227), some (.int (nI a)), some (.int (pF (sh a) (sh a 40) k).1), some (.int (pF (sh a) (sh a 40) k).2), some (.int (nI k))] [] h := by
    intro d
    induction d with
    | zero =>
      intro k hk
      have hk : k = n1 := by omega
      refine sX4_partnerOf_20 ⟨by rw [s_227 c], fun _ => by rw [hk]; exact K, fun c1 => ?_⟩
      rw [D.2.2.1, ti_le, nI_toInt (by omega), nI_toInt (by omega)] at c1
      omega
    | succ d ih =>
      intro k hk
      have hx := hv.2.2 k (by omega)
      have ih' := ih (k + 1) (by omega)
      have hp : pF (sh a) (sh a 40) (k + 1) = if sh a k ≤ (pF (sh a) (sh a 40) k).2 then pF (sh a) (sh a 40) k else (nI k, sh a k) := rfl
      rw [hp] at ih'
      refine sX4_partnerOf_20 ?_
      simp only [s_227 c, r_227_0 c, s_228 c, D.2.2.1, cl_nI (show a < 2147483648 by omega), cl_nI (show k < 2147483648 by omega), r_pt c (show a < 40 by omega), s_pt c (show a < 40 by omega), hx, nI_1]
      refine ⟨trivial, fun c1 => ?_, fun _ => ⟨by decide, trivial, vp_nI (by omega) (by decide), by omega, trivial, vp_nI (by omega) (by decide), fun c2 => ?_, fun c2 => ?_⟩⟩
      · rw [ti_le, nI_toInt (by omega), nI_toInt (by omega)] at c1
        omega
      · rw [if_pos c2] at ih'; exact ih'
      · rw [if_neg c2] at ih'; exact ih'
  refine eX4_partnerOf (sX4_partnerOf_0 ?_)
  simp only [s_227 c, r_227_0 c, s_228 c, cl_nI (show a < 2147483648 by omega), r_pt c (show a < 40 by omega), s_pt c (show a < 40 by omega), e40c, hv.2.1]
  exact ⟨trivial, by decide, trivial, vp_nI (by omega) (by decide), by omega, trivial, vp_nI (j := 40) (by decide) (by decide), lp n1 0 (by omega)⟩
theorem sp_lossOf {a : Nat} (c : Lay L h) (D : shareC h n0 n1 sh tm) (ha : a < n0) (K : Q (1048576 - lsF (sh a) (sh a 40) n1) h) : AC w mX4_lossOf 0 0 (rI Q) [.ref 227, .int (nI a)] h := by
  have h0 := D.1.1
  have h1 := D.1.2.1
  have hv := D.2.2.2 a ha
  have lp : ∀ (d k : Nat), k + d = n1 → AW w mX4_lossOf 0 0 (rI Q) 0 0 12 [some (.ref 227), some (.int (nI a)), some (.int (lsF (sh a) (sh a 40) k)), some (.int (nI k))] [] h := by
    intro d
    induction d with
    | zero =>
      intro k hk
      have hk : k = n1 := by omega
      refine sX4_lossOf_12 ⟨by rw [s_227 c], fun _ => by rw [hk]; exact K, fun c1 => ?_⟩
      rw [D.2.2.1, ti_le, nI_toInt (by omega), nI_toInt (by omega)] at c1
      omega
    | succ d ih =>
      intro k hk
      have hx := hv.2.2 k (by omega)
      refine sX4_lossOf_12 ?_
      simp only [s_227 c, r_227_0 c, s_228 c, D.2.2.1, cl_nI (show a < 2147483648 by omega), cl_nI (show k < 2147483648 by omega), r_pt c (show a < 40 by omega), s_pt c (show a < 40 by omega), hx, nI_1]
      refine ⟨trivial, fun c1 => ?_, fun _ => ⟨by decide, trivial, vp_nI (by omega) (by decide), by omega, trivial, vp_nI (by omega) (by decide), ih (k + 1) (by omega)⟩⟩
      rw [ti_le, nI_toInt (by omega), nI_toInt (by omega)] at c1
      omega
  refine eX4_lossOf (sX4_lossOf_0 ?_)
  simp only [s_227 c, r_227_0 c, s_228 c, cl_nI (show a < 2147483648 by omega), r_pt c (show a < 40 by omega), s_pt c (show a < 40 by omega), e40c, hv.2.1]
  exact ⟨trivial, by decide, trivial, vp_nI (by omega) (by decide), by omega, trivial, vp_nI (j := 40) (by decide) (by decide), lp n1 0 (by omega)⟩
theorem sp_partner {a x : Int32} (c : Lay L h) (B : booksC h o bk) (D : shareC h (bNk (bk 0)) (bNk (bk 1)) sh tm) (K : Q (fPartner (bNk (bk 0)) (bNk (bk 1)) sh tm a x) h) : AC w mX9_partner 0 0 (rI Q) [.ref 5, .int a, .int x] h := by
  have h0 := D.1.1
  refine eX9_partner (sX9_partner_0 ⟨by rw [s_5 c], sp_isKind (j := 0) c B (by decide) ⟨fun c1 => ?_, fun c1 => ?_⟩⟩)
  · rw [b01_ne] at c1
    have c1' := c1
    obtain ⟨q, hq, rfl⟩ := inR_nI c1 (by omega)
    have e : fPartner (bNk (bk 0)) (bNk (bk 1)) sh tm (nI q) x = (if x.toInt = 0 then pOf sh q (bNk (bk 1)) else if x.toInt = 1 then 1048576 - lsF (sh q) (sh q 40) (bNk (bk 1)) else if x.toInt = 2 then tm q else -100002) := by rw [fPartner, if_pos c1', cl_nI (by omega)]
    rw [e] at K
    simp only [s_5 c, r_5_6 c, s_227 c, r_227_2 c, s_310 c, cl_nI (show q < 2147483648 by omega), (D.2.2.2 q hq).1]
    refine ⟨fun c2 => ?_, fun c2 => ?_, fun c2 => ?_, fun c2 => ?_⟩
    · rw [if_neg (by omega), if_neg (by omega), if_neg (by omega)] at K; exact K
    · rw [if_pos c2] at K
      exact ⟨trivial, by decide, trivial, sp_partnerOf c D hq K⟩
    · rw [if_neg (by omega), if_pos c2] at K
      exact ⟨trivial, by decide, trivial, sp_lossOf c D hq K⟩
    · rw [if_neg (by omega), if_neg (by omega), if_pos c2] at K
      exact ⟨trivial, by decide, trivial, by decide, trivial, vp_nI (by omega) (by decide), K⟩
  · rw [b01_eq] at c1
    exact Qto K (by rw [fPartner, c1]; rfl)
theorem sp_partnerOfM {a : Nat} (c : Lay L h) (Bn : hI h 356 1 = nI n1) (D : shareM h n0 n1 sh tm) (ha : a < n0) (K : Q (pOf sh a n1) h) : AC w mX10_partnerOf 0 0 (rI Q) [.ref 347, .int (nI a)] h := by
  have h0 := D.1.1
  have h1 := D.1.2.1
  have hv := D.2 a ha
  have e40 : nI (41 * a) + 40 = nI (41 * a + 40) := by rw [show (40 : Int32) = nI 40 from rfl, nI_add]
  have lp : ∀ (d k b : Nat), k + d = n1 → pInv (sh a) (sh a 40) k b → AW w mX10_partnerOf 0 0 (rI Q) 0 0 4 [some (.ref 347), some (.int (nI a)), some (.int (nI b)), some (.int (nI k))] [] h := by
    intro d
    induction d with
    | zero =>
      intro k b hk hI'
      have hk : k = n1 := by omega
      have hb : b < n1 := by have := hI'.1; omega
      refine sX10_partnerOf_4 ?_
      simp only [s_347 c, r_347_10 c, s_356 c, e1c, Bn, r_347_18 c, s_362 c, m_41, nI_add, e40, cl_nI (show 41 * a + b < 2147483648 by omega), cl_nI (show 41 * a + 40 < 2147483648 by omega), hv.2.1, hv.2.2 b hb]
      refine ⟨trivial, by decide, trivial, vp_nI (j := 1) (by decide) (by decide), fun _ => ⟨fun c2 => ?_, fun c2 => ⟨by decide, trivial, vp_nI (by omega) (by decide), vp_nI (by omega) (by decide), fun c3 => ?_, fun c3 => ⟨fun c4 => ?_, fun c4 => ?_⟩⟩⟩, fun c1 => ?_⟩
      · rw [ti_lt, t_0, nI_toInt (by omega)] at c2
        omega
      · rw [ti_le] at c3
        refine Qto K ?_
        rw [pOf, ← hk, hI'.2.2, if_neg (by rw [thr_lt]; omega)]
      · rw [ti_lt, t_131072] at c4
        refine Qto K ?_
        rw [pOf, ← hk, hI'.2.2, if_neg (by rw [thr_lt]; omega)]
      · rw [ti_le] at c3
        rw [ti_lt, t_131072] at c4
        refine Qto K ?_
        rw [pOf, ← hk, hI'.2.2, if_pos (by rw [thr_lt]; omega)]
      · rw [ti_le, nI_toInt (by omega), nI_toInt (by omega)] at c1
        omega
    | succ d ih =>
      intro k b hk hI'
      have hb : b < n1 := by have := hI'.1; omega
      have nx := ih (k + 1) _ (by omega) (pInv_s hI')
      refine sX10_partnerOf_4 ?_
      simp only [s_347 c, r_347_10 c, s_356 c, e1c, Bn, r_347_18 c, s_362 c, m_41, nI_add, nI_1, cl_nI (show 41 * a + b < 2147483648 by omega), cl_nI (show 41 * a + k < 2147483648 by omega), hv.2.2 k (by omega), hv.2.2 b hb]
      refine ⟨trivial, by decide, trivial, vp_nI (j := 1) (by decide) (by decide), fun c1 => ?_, fun _ => ⟨fun c2 => ?_, fun c2 => ⟨by decide, trivial, vp_nI (by omega) (by decide), vp_nI (by omega) (by decide), fun c3 => ?_, fun c3 => ?_⟩⟩⟩
      · rw [ti_le, nI_toInt (by omega), nI_toInt (by omega)] at c1
        omega
      · rw [ti_lt, t_0, nI_toInt (by omega)] at c2
        omega
      · rw [if_pos c3] at nx; exact nx
      · rw [if_neg c3] at nx; exact nx
  refine eX10_partnerOf (sX10_partnerOf_0 ?_)
  cases hn : n1 with
  | zero =>
    refine sX10_partnerOf_4 ?_
    simp only [s_347 c, r_347_10 c, s_356 c, e1c, Bn, hn]
    refine ⟨trivial, by decide, trivial, vp_nI (j := 1) (by decide) (by decide), fun _ => ⟨fun _ => ?_, fun c2 => absurd (by decide) c2⟩, fun c1 => absurd (by decide) c1⟩
    rw [hn] at K
    exact K
  | succ m =>
    refine sX10_partnerOf_4 ?_
    simp only [s_347 c, r_347_10 c, s_356 c, e1c, Bn, hn]
    refine ⟨trivial, by decide, trivial, vp_nI (j := 1) (by decide) (by decide), fun c1 => ?_, fun _ => ⟨fun _ => ?_, fun c2 => absurd (by decide) c2⟩⟩
    · rw [ti_le, nI_toInt (by omega), t_0] at c1
      omega
    · exact lp m 1 0 (by omega) (pInv_0 _ _)
theorem sp_partnerM {a x : Int32} (c : Lay L h) (B : booksM h bk) (D : shareM h (bNk (bk 0)) (bNk (bk 1)) sh tm) (K : Q (fPartner (bNk (bk 0)) (bNk (bk 1)) sh tm a x) h) : AC w mX10_partner 0 0 (rI Q) [.ref 347, .int a, .int x] h := by
  have h0 := D.1.1
  have h1 := D.1.2.1
  have Bn : hI h 356 1 = nI (bNk (bk 1)) := B.2.2.2.2.1
  have i0 : ∀ x : Int32, (inR (0 : Int32) 2 && inR x (bNk (bk (0 : Int32).toNatClampNeg))) = inR x (bNk (bk 0)) := fun x => rfl
  refine eX10_partner (sX10_partner_0 ⟨by rw [s_347 c], sp_isKindM c B ?_⟩)
  rw [i0]
  refine ⟨fun c1 => ?_, fun c1 => ?_⟩
  · rw [b01_ne] at c1
    have c1' := c1
    obtain ⟨q, hq, rfl⟩ := inR_nI c1 (by omega)
    have hv := D.2 q hq
    have e : fPartner (bNk (bk 0)) (bNk (bk 1)) sh tm (nI q) x = (if x.toInt = 0 then pOf sh q (bNk (bk 1)) else if x.toInt = 1 then 1048576 - lsF (sh q) (sh q 40) (bNk (bk 1)) else if x.toInt = 2 then tm q else -100002) := by rw [fPartner, if_pos c1', cl_nI (by omega)]
    rw [e] at K
    have e40 : nI (41 * q) + 40 = nI (41 * q + 40) := by rw [show (40 : Int32) = nI 40 from rfl, nI_add]
    have lp : ∀ (d k : Nat), k + d = bNk (bk 1) → AW w mX10_partner 0 0 (rI Q) 0 0 28 [some (.ref 347), some (.int (nI q)), some (.int x), some (.int (lsF (sh q) (sh q 40) k)), some (.int (nI k))] [] h := by
      intro d
      induction d with
      | zero =>
        intro k hk
        have hk : k = bNk (bk 1) := by omega
        refine sX10_partner_28 ?_
        simp only [s_347 c, r_347_10 c, s_356 c, e1c, Bn, r_347_17 c, s_361 c, cl_nI (show q < 2147483648 by omega), hv.1, ti_eq, t_0, t_1, t_2]
        refine ⟨trivial, by decide, trivial, vp_nI (j := 1) (by decide) (by decide), fun _ => ⟨fun c2 => ⟨fun c3 => ⟨fun c4 => ?_, fun c4 => ?_⟩, fun c3 => ?_⟩, fun c2 => ?_⟩, fun c1 => ?_⟩
        · rw [if_neg c2, if_neg c3, if_neg c4] at K; exact K
        · rw [if_neg c2, if_neg c3, if_pos c4] at K
          exact ⟨by decide, trivial, vp_nI (by omega) (by decide), K⟩
        · rw [if_neg c2, if_pos c3] at K
          rw [hk]; exact K
        · rw [if_pos c2] at K
          exact sp_partnerOfM c Bn D hq K
        · rw [ti_le, nI_toInt (by omega), nI_toInt (by omega)] at c1
          omega
      | succ d ih =>
        intro k hk
        refine sX10_partner_28 ?_
        simp only [s_347 c, r_347_10 c, s_356 c, e1c, Bn, r_347_18 c, s_362 c, m_41, nI_add, nI_1, cl_nI (show 41 * q + k < 2147483648 by omega), hv.2.2 k (by omega)]
        refine ⟨trivial, by decide, trivial, vp_nI (j := 1) (by decide) (by decide), fun c1 => ?_, fun _ => ⟨by decide, trivial, vp_nI (by omega) (by decide), ih (k + 1) (by omega)⟩⟩
        rw [ti_le, nI_toInt (by omega), nI_toInt (by omega)] at c1
        omega
    simp only [s_347 c, r_347_18 c, s_362 c, m_41, e40, cl_nI (show 41 * q + 40 < 2147483648 by omega), hv.2.1]
    exact ⟨trivial, by decide, trivial, vp_nI (by omega) (by decide), lp (bNk (bk 1)) 0 (by omega)⟩
  · rw [b01_eq] at c1
    exact Qto K (by rw [fPartner, c1]; rfl)
end PN
