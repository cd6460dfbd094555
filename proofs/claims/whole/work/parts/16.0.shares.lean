/-! ===== shares and terms: sh a b for a left kind a and a right kind b (40: no word), tm a the term or -1 ===== -/
abbrev Sh : Type := Nat → Nat → Int32
def in20 (x : Int32) : Prop := 0 ≤ x.toInt ∧ x.toInt ≤ 1048576
def okS (n0 n1 : Nat) (sh : Sh) (tm : Nat → Int32) : Prop := n0 ≤ 40 ∧ n1 ≤ 40 ∧ ∀ a, a < n0 → (tm a = -1 ∨ ∃ b, b < n1 ∧ tm a = nI b) ∧ in20 (sh a 40) ∧ ∀ b, b < n1 → in20 (sh a b)
def shareC (h : Hp) (n0 n1 : Nat) (sh : Sh) (tm : Nat → Int32) : Prop := okS n0 n1 sh tm ∧ hI h 227 3 = nI n0 ∧ hI h 227 4 = nI n1 ∧ ∀ a, a < n0 → hI h 310 a = tm a ∧ hI h (229 + a) 40 = sh a 40 ∧ ∀ b, b < n1 → hI h (229 + a) b = sh a b
def shareM (h : Hp) (n0 n1 : Nat) (sh : Sh) (tm : Nat → Int32) : Prop := okS n0 n1 sh tm ∧ ∀ a, a < n0 → hI h 361 a = tm a ∧ hI h 362 (41 * a + 40) = sh a 40 ∧ ∀ b, b < n1 → hI h 362 (41 * a + b) = sh a b
def shId (id : Nat) : Prop := id = 310 ∨ (229 ≤ id ∧ id ≤ 268)
def smId (id : Nat) : Prop := id = 361 ∨ id = 362
/-- behind a call of the class that touches shares or terms -/
def SCh (h h' : Hp) (n0 n1 : Nat) (sh sh' : Sh) (tm' : Nat → Int32) : Prop := Chg (fun id => id = 5 ∨ shId id) h h' ∧ (∀ k, k ≠ 11 → hI h' 5 k = hI h 5 k) ∧ hL h' = hL h ∧ shareC h' n0 n1 sh' tm' ∧ (hI h' 5 11 = 1 ∨ (sh' = sh ∧ hI h' 5 11 = hI h 5 11))
def SMh (h h' : Hp) (n0 n1 : Nat) (sh' : Sh) (tm' : Nat → Int32) : Prop := Chg smId h h' ∧ hL h' = hL h ∧ shareM h' n0 n1 sh' tm'
def shT1 (sh : Sh) (a b : Nat) : Sh := fun x y => if x = a then (if y = b then 1048576 else 0) else sh x y
def fShare (n0 n1 : Nat) (sh : Sh) (a b : Int32) : Int32 := if inR a n0 = true then (if b = -1 then sh a.toNatClampNeg 40 else if inR b n1 = true then sh a.toNatClampNeg b.toNatClampNeg else -100001) else -100001
def fTerm (n0 n1 : Nat) (sh : Sh) (tm : Nat → Int32) (a b : Int32) : Int32 × Sh × (Nat → Int32) := if (inR a n0 && inR b n1) = true then (if tm a.toNatClampNeg = -1 then (1, shT1 sh a.toNatClampNeg b.toNatClampNeg, up1 tm a.toNatClampNeg (nI b.toNatClampNeg)) else (0, sh, up1 tm a.toNatClampNeg (-1))) else (-100001, sh, tm)
theorem okS.term {n0 n1 : Nat} {sh : Sh} {tm : Nat → Int32} {a b : Nat} (o : okS n0 n1 sh tm) (ha : a < n0) (hb : b < n1) : okS n0 n1 (shT1 sh a b) (up1 tm a (nI b)) := by
  refine ⟨o.1, o.2.1, fun x hx => ?_⟩
  have z0 : in20 0 := by unfold in20; rw [t_0]; omega
  have z1 : in20 1048576 := by unfold in20; rw [t_1048576]; omega
  by_cases e : x = a
  · subst e
    refine ⟨Or.inr ⟨b, hb, up1_s⟩, ?_, fun y hy => ?_⟩
    · show in20 (if x = x then (if 40 = b then 1048576 else 0) else sh x 40)
      rw [if_pos rfl, if_neg (by have := o.2.1; omega)]; exact z0
    · show in20 (if x = x then (if y = b then 1048576 else 0) else sh x y)
      rw [if_pos rfl]; split
      · exact z1
      · exact z0
  · refine ⟨by rw [up1_n e]; exact (o.2.2 x hx).1, ?_, fun y hy => ?_⟩
    · show in20 (if x = a then _ else sh x 40)
      rw [if_neg e]; exact (o.2.2 x hx).2.1
    · show in20 (if x = a then _ else sh x y)
      rw [if_neg e]; exact (o.2.2 x hx).2.2 y hy
theorem okS.unterm {n0 n1 : Nat} {sh : Sh} {tm : Nat → Int32} {a : Nat} (o : okS n0 n1 sh tm) : okS n0 n1 sh (up1 tm a (-1)) := by
  refine ⟨o.1, o.2.1, fun x hx => ⟨?_, (o.2.2 x hx).2⟩⟩
  by_cases e : x = a
  · subst e; exact Or.inl up1_s
  · rw [up1_n e]; exact (o.2.2 x hx).1
section SC
variable {w : Wd} {L : Nat} {h : Hp} {Q : Int32 → Hp → Prop} {o : Nat → Nat} {bk : Nat → Bk} {sh : Sh} {tm : Nat → Int32}
theorem sp_share {a b : Int32} (c : Lay L h) (B : booksC h o bk) (D : shareC h (bNk (bk 0)) (bNk (bk 1)) sh tm) (K : Q (fShare (bNk (bk 0)) (bNk (bk 1)) sh a b) h) : AC w mX9_share 0 0 (rI Q) [.ref 5, .int a, .int b] h := by
  have h0 := D.1.1
  have h1 := D.1.2.1
  refine eX9_share (sX9_share_0 ⟨by rw [s_5 c], sp_isKind (j := 0) c B (by decide) ⟨fun c1 => ?_, fun c1 => ?_⟩⟩)
  · rw [b01_eq] at c1
    exact Qto K (by rw [fShare, c1]; rfl)
  · rw [b01_ne] at c1
    have c1' := c1
    obtain ⟨x, hx, rfl⟩ := inR_nI c1 (by omega)
    have hv := D.2.2.2 x hx
    have e : fShare (bNk (bk 0)) (bNk (bk 1)) sh (nI x) b = (if b = -1 then sh x 40 else if inR b (bNk (bk 1)) = true then sh x b.toNatClampNeg else -100001) := by rw [fShare, if_pos c1', cl_nI (by omega)]
    rw [e] at K
    refine ⟨fun c2 => ?_, fun c2 => ⟨by rw [s_5 c], sp_isKind (j := 1) c B (by decide) ⟨fun c3 => ?_, fun c3 => ?_⟩⟩⟩
    · rw [if_pos c2] at K
      refine sX9_share_26 ?_
      simp only [s_5 c, r_5_6 c, s_227 c, r_227_0 c, s_228 c, cl_nI (show x < 2147483648 by omega), r_pt c (show x < 40 by omega), s_pt c (show x < 40 by omega)]
      refine ⟨trivial, by decide, trivial, by decide, trivial, vp_nI (by omega) (by decide), by omega, fun z => absurd c2 z, fun _ => ⟨trivial, vp_nI (j := 40) (by decide) (by decide), ?_⟩⟩
      have : hI h (229 + x) (40 : Int32).toNatClampNeg = sh x 40 := hv.2.1
      rw [this]; exact K
    · rw [b01_ne] at c3
      have c3' := c3
      obtain ⟨y, hy, rfl⟩ := inR_nI c3 (by omega)
      rw [if_neg c2, if_pos c3', cl_nI (by omega)] at K
      refine sX9_share_26 ?_
      simp only [s_5 c, r_5_6 c, s_227 c, r_227_0 c, s_228 c, cl_nI (show x < 2147483648 by omega), cl_nI (show y < 2147483648 by omega), r_pt c (show x < 40 by omega), s_pt c (show x < 40 by omega), hv.2.2 y hy]
      exact ⟨trivial, by decide, trivial, by decide, trivial, vp_nI (by omega) (by decide), by omega, fun _ => ⟨trivial, vp_nI (by omega) (by decide), K⟩, fun z => absurd z c2⟩
    · rw [b01_eq] at c3
      rw [if_neg c2, if_neg (by rw [c3]; decide)] at K
      exact K
theorem sp_shareM {a b : Int32} (c : Lay L h) (B : booksM h bk) (D : shareM h (bNk (bk 0)) (bNk (bk 1)) sh tm) (K : Q (fShare (bNk (bk 0)) (bNk (bk 1)) sh a b) h) : AC w mX10_share 0 0 (rI Q) [.ref 347, .int a, .int b] h := by
  have h0 := D.1.1
  have h1 := D.1.2.1
  have i0 : ∀ x : Int32, (inR (0 : Int32) 2 && inR x (bNk (bk (0 : Int32).toNatClampNeg))) = inR x (bNk (bk 0)) := fun x => rfl
  have i1 : ∀ x : Int32, (inR (1 : Int32) 2 && inR x (bNk (bk (1 : Int32).toNatClampNeg))) = inR x (bNk (bk 1)) := fun x => rfl
  refine eX10_share (sX10_share_0 ⟨by rw [s_347 c], sp_isKindM c B ?_⟩)
  rw [i0]
  refine ⟨fun c1 => ?_, fun c1 => ?_⟩
  · rw [b01_eq] at c1
    exact Qto K (by rw [fShare, c1]; rfl)
  · rw [b01_ne] at c1
    have c1' := c1
    obtain ⟨x, hx, rfl⟩ := inR_nI c1 (by omega)
    have hv := D.2 x hx
    have e : fShare (bNk (bk 0)) (bNk (bk 1)) sh (nI x) b = (if b = -1 then sh x 40 else if inR b (bNk (bk 1)) = true then sh x b.toNatClampNeg else -100001) := by rw [fShare, if_pos c1', cl_nI (by omega)]
    rw [e] at K
    have e40 : nI (41 * x) + 40 = nI (41 * x + 40) := by rw [show (40 : Int32) = nI 40 from rfl, nI_add]
    refine ⟨fun c2 => ?_, fun c2 => ⟨by rw [s_347 c], sp_isKindM c B ?_⟩⟩
    · rw [if_pos c2] at K
      refine sX10_share_26 ?_
      simp only [s_347 c, r_347_18 c, s_362 c, m_41, e40, cl_nI (show 41 * x + 40 < 2147483648 by omega), hv.2.1]
      refine ⟨trivial, by decide, fun z => ?_, fun _ => ⟨trivial, vp_nI (by omega) (by decide), K⟩⟩
      rw [c2] at z; exact absurd z (by decide)
    · rw [i1]
      refine ⟨fun c3 => ?_, fun c3 => ?_⟩
      · rw [b01_ne] at c3
        have c3' := c3
        obtain ⟨y, hy, rfl⟩ := inR_nI c3 (by omega)
        rw [if_neg c2, if_pos c3', cl_nI (by omega)] at K
        refine sX10_share_26 ?_
        simp only [s_347 c, r_347_18 c, s_362 c, m_41, nI_add, cl_nI (show 41 * x + y < 2147483648 by omega), hv.2.2 y hy]
        refine ⟨trivial, by decide, fun _ => ⟨trivial, vp_nI (by omega) (by decide), K⟩, fun z => ?_⟩
        rw [ti_le, t_0, nI_toInt (by omega)] at z
        omega
      · rw [b01_eq] at c3
        rw [if_neg c2, if_neg (by rw [c3]; decide)] at K
        exact K
theorem sp_obey {Q : Hp → Prop} {a b : Nat} (c : Lay L h) (ha : a < 40) (hb : b < 40) (ht : hI h 310 a = nI b) (K : ∀ h', Chg (fun id => id = 229 + a) h h' → hL h' = hL h → (∀ y, y < 41 → hI h' (229 + a) y = if y = b then 1048576 else 0) → Q h') : AC w mX4_obeyTerm 0 0 (rV Q) [.ref 227, .int (nI a)] h := by
  refine eX4_obeyTerm (sX4_obeyTerm_0 ?_)
  simp only [s_227 c, r_227_2 c, s_310 c, r_227_0 c, s_228 c, cl_nI (show a < 2147483648 by omega), ht, r_pt c ha]
  refine ⟨trivial, by decide, trivial, vp_nI ha (by decide), fun z => absurd z (nI_m1 (by omega)), fun _ => ⟨by decide, trivial, vp_nI ha (by decide), by omega, sp_fillI (N := 41) (by decide) (s_pt c ha) (fun h1 hc hl hx => ?_)⟩⟩
  have c' : Lay L h1 := hc.lay c (fun id q => by omega)
  have ht1 : hI h1 310 a = nI b := by rw [(hc.2.2.2 310 (by omega) a).1]; exact ht
  simp only [s_227 c', r_227_2 c', s_310 c', r_227_0 c', s_228 c', cl_nI (show a < 2147483648 by omega), cl_nI (show b < 2147483648 by omega), ht1, r_pt c' ha, s_pt c' ha]
  refine ⟨trivial, by decide, trivial, vp_nI ha (by decide), by omega, by decide, trivial, vp_nI ha (by decide), trivial, vp_nI (by omega) (by decide), fun h2 e2 => ?_⟩
  subst e2
  refine K _ (hc.sI rfl) hl (fun y hy => ?_)
  by_cases e : y = b
  · subst e; rw [if_pos rfl, hI_eq]
  · rw [if_neg e, hI_ne (Or.inr e)]; exact hx y hy
theorem sp_term {a b : Int32} (c : Lay L h) (B : booksC h o bk) (D : shareC h (bNk (bk 0)) (bNk (bk 1)) sh tm) (K : ∀ h', SCh h h' (bNk (bk 0)) (bNk (bk 1)) sh (fTerm (bNk (bk 0)) (bNk (bk 1)) sh tm a b).2.1 (fTerm (bNk (bk 0)) (bNk (bk 1)) sh tm a b).2.2 → Q (fTerm (bNk (bk 0)) (bNk (bk 1)) sh tm a b).1 h') : AC w mX9_term 0 0 (rI Q) [.ref 5, .int a, .int b] h := by
  have h0 := D.1.1
  have h1 := D.1.2.1
  have bad : (inR a (bNk (bk 0)) && inR b (bNk (bk 1))) = false → Q (-100001) h := fun q => by
    have e : fTerm (bNk (bk 0)) (bNk (bk 1)) sh tm a b = (-100001, sh, tm) := by rw [fTerm, q]; rfl
    rw [e] at K
    exact K h ⟨Chg.rfl' h, fun _ _ => rfl, rfl, D, Or.inr ⟨rfl, rfl⟩⟩
  refine eX9_term (sX9_term_0 ⟨by rw [s_5 c], sp_isKind (j := 0) c B (by decide) ⟨fun c1 => ?_, fun c1 => ⟨by rw [s_5 c], sp_isKind (j := 1) c B (by decide) ⟨fun c2 => ?_, fun c2 => ?_⟩⟩⟩⟩)
  · rw [b01_eq] at c1
    exact bad (by rw [c1]; rfl)
  · rw [b01_ne] at c1 c2
    have e0 : (inR a (bNk (bk 0)) && inR b (bNk (bk 1))) = true := by rw [c1, c2]; rfl
    obtain ⟨x, hx, rfl⟩ := inR_nI c1 (by omega)
    obtain ⟨y, hy, rfl⟩ := inR_nI c2 (by omega)
    have hv := D.2.2.2 x hx
    have e : fTerm (bNk (bk 0)) (bNk (bk 1)) sh tm (nI x) (nI y) = (if tm x = -1 then (1, shT1 sh x y, up1 tm x (nI y)) else (0, sh, up1 tm x (-1))) := by rw [fTerm, if_pos e0, cl_nI (by omega), cl_nI (by omega)]
    rw [e] at K
    simp only [s_5 c, r_5_6 c, s_227 c, r_227_2 c, s_310 c, cl_nI (show x < 2147483648 by omega), hv.1]
    refine ⟨trivial, by decide, trivial, by decide, trivial, vp_nI (by omega) (by decide), fun c3 h3 e3 => ?_, fun c3 h6 e6 => ?_⟩
    · subst e3
      rw [if_pos c3] at K
      dsimp only at K
      have c' : Lay L (sI h 310 x (nI y)) := c.sI (by decide)
      refine sp_obey c' (by omega) (by omega) hI_eq (fun h4 hc hl hr => ?_)
      have c4 : Lay L h4 := hc.lay c' (fun id q => by omega)
      refine ⟨by rw [s_5 c4], fun h5 e5 => ?_⟩
      subst e5
      have cc : Chg (fun id => id = 5 ∨ shId id) h (sI h4 5 11 1) := ((((Chg.rfl' h).sI (D := fun id => id = 5 ∨ shId id) (Or.inr (Or.inl rfl))).trans (hc.mono (fun id q => Or.inr (Or.inr (by omega))))).sI (Or.inl rfl))
      refine K _ ⟨cc, fun k hk => ?_, hl, ⟨D.1.term hx hy, ?_, ?_, fun z hz => ⟨?_, ?_, fun u hu => ?_⟩⟩, Or.inl hI_eq⟩
      · rw [hI_ne (Or.inr hk), (hc.2.2.2 5 (by omega) k).1, hI_ne (Or.inl (by decide))]
      · rw [hI_ne (Or.inl (by decide)), (hc.2.2.2 227 (by omega) 3).1, hI_ne (Or.inl (by decide))]; exact D.2.1
      · rw [hI_ne (Or.inl (by decide)), (hc.2.2.2 227 (by omega) 4).1, hI_ne (Or.inl (by decide))]; exact D.2.2.1
      · rw [hI_ne (Or.inl (by decide)), (hc.2.2.2 310 (by omega) z).1]
        by_cases q : z = x
        · subst q; rw [hI_eq, up1_s]
        · rw [hI_ne (Or.inr q), up1_n q]; exact (D.2.2.2 z hz).1
      · rw [hI_ne (Or.inl (by omega))]
        show _ = if z = x then (if 40 = y then 1048576 else 0) else sh z 40
        by_cases q : z = x
        · subst q; rw [if_pos rfl]; exact hr 40 (by decide)
        · rw [if_neg q, (hc.2.2.2 _ (by omega) 40).1, hI_ne (Or.inl (by omega))]; exact (D.2.2.2 z hz).2.1
      · rw [hI_ne (Or.inl (by omega))]
        show _ = if z = x then (if u = y then 1048576 else 0) else sh z u
        by_cases q : z = x
        · subst q; rw [if_pos rfl]; exact hr u (by omega)
        · rw [if_neg q, (hc.2.2.2 _ (by omega) u).1, hI_ne (Or.inl (by omega))]; exact (D.2.2.2 z hz).2.2 u hu
    · subst e6
      rw [if_neg c3] at K
      dsimp only at K
      refine K _ ⟨(Chg.rfl' h).sI (Or.inr (Or.inl rfl)), fun k hk => hI_ne (Or.inl (by decide)), rfl, ⟨D.1.unterm, by rw [hI_ne (Or.inl (by decide))]; exact D.2.1, by rw [hI_ne (Or.inl (by decide))]; exact D.2.2.1, fun z hz => ⟨?_, by rw [hI_ne (Or.inl (by omega))]; exact (D.2.2.2 z hz).2.1, fun u hu => by rw [hI_ne (Or.inl (by omega))]; exact (D.2.2.2 z hz).2.2 u hu⟩⟩, Or.inr ⟨rfl, hI_ne (Or.inl (by decide))⟩⟩
      by_cases q : z = x
      · subst q; rw [hI_eq, up1_s]
      · rw [hI_ne (Or.inr q), up1_n q]; exact (D.2.2.2 z hz).1
  · rw [b01_eq] at c2
    exact bad (by rw [c2, Bool.and_false])
end SC
