/-! ===== fast, loosen, keep ===== -/
def fFast (bk : Nat → Bk) (p : Pr) (i j : Int32) : Int32 × Pr := if (isSn bk 0 i && isSn bk 1 j) = true then (if tieB p i.toNatClampNeg j.toNatClampNeg then (if cnt p.1 < 20 then (nI (cnt p.1 + 1), tied p i.toNatClampNeg j.toNatClampNeg) else (-100004, p)) else (-100003, p)) else (-100001, p)
def fLoosen (bk : Nat → Bk) (p : Pr) (i : Int32) : Int32 × Pr := if isSn bk 0 i = true then (if p.1 i.toNatClampNeg = -1 then (0, p) else (1, untied p i.toNatClampNeg)) else (-100001, p)
/-- behind a call of the class that touches pairs: stale, or nothing has changed -/
def PCh (h h' : Hp) (p p' : Pr) : Prop := Chg (fun id => id = 5 ∨ prId id) h h' ∧ (∀ k, k ≠ 11 → hI h' 5 k = hI h 5 k) ∧ hL h' = hL h ∧ pairC h' p' ∧ (hI h' 5 11 = 1 ∨ (p' = p ∧ hI h' 5 11 = hI h 5 11))
def pmId (id : Nat) : Prop := id = 347 ∨ id = 359 ∨ id = 360
def PMh (h h' : Hp) (p' : Pr) : Prop := Chg pmId h h' ∧ (∀ k, k ≠ 15 → hI h' 347 k = hI h 347 k) ∧ hL h' = hL h ∧ pairM h' p'
theorem isSn_0 {bk : Nat → Bk} {s : Int32} {b : Nat} (hb : b < 2) (ok : ∀ j, j < 2 → okB (bk j)) (h : isSn bk (nI b) s = true) : ∃ t : Nat, t < bNs (bk b) ∧ t < 20 ∧ s = nI t := by
  obtain ⟨j, t, hj, ht, e1, e2⟩ := isSn_nI (fun j hj => (ok j hj).1) h
  rw [nI_inj (by omega) (by omega)] at e1
  subst e1
  have := (ok b hb).1
  exact ⟨t, ht, by omega, e2⟩
section FC
variable {w : Wd} {L : Nat} {h : Hp} {Q : Int32 → Hp → Prop} {p : Pr} {o : Nat → Nat} {bk : Nat → Bk}
theorem PCh.refl (D : pairC h p) : PCh h h p p := ⟨Chg.rfl' h, fun _ _ => rfl, rfl, D, Or.inr ⟨rfl, rfl⟩⟩
theorem PCh.of {h' : Hp} {p' : Pr} (c : Chg prId h h') (hl : hL h' = hL h) (D : pairC h' p') : PCh h (sI h' 5 11 1) p p' := by
  refine ⟨(c.mono (fun id q => Or.inr q)).sI (Or.inl rfl), fun k hk => ?_, hl, ⟨D.1, ?_, fun i hi => ⟨?_, ?_⟩⟩, Or.inl hI_eq⟩
  · rw [hI_ne (Or.inr hk), (c.2.2.2 5 (by unfold prId; omega) k).1]
  · rw [hI_ne (Or.inl (by decide))]; exact D.2.1
  · rw [hI_ne (Or.inl (by decide))]; exact (D.2.2 i hi).1
  · rw [hI_ne (Or.inl (by decide))]; exact (D.2.2 i hi).2
theorem Chg.layP {h' : Hp} (c : Chg prId h h') (y : Lay L h) : Lay L h' := c.lay y (fun id q => by unfold prId at q; omega)
theorem sp_fast {i j : Int32} (c : Lay L h) (B : booksC h o bk) (D : pairC h p) (K : ∀ h', PCh h h' p (fFast bk p i j).2 → Q (fFast bk p i j).1 h') : AC w mX9_fast 0 0 (rI Q) [.ref 5, .int i, .int j] h := by
  refine eX9_fast (sX9_fast_0 ⟨by rw [s_5 c], sp_isSentence c B ⟨fun c1 => ?_, fun c1 => ⟨by rw [s_5 c], sp_isSentence c B ⟨fun c2 => ?_, fun c2 => ?_⟩⟩⟩⟩)
  · rw [b01_eq] at c1
    have e : fFast bk p i j = (-100001, p) := by rw [fFast, c1]; rfl
    rw [e] at K
    exact K h (PCh.refl D)
  · rw [b01_ne] at c1 c2
    have e0 : (isSn bk 0 i && isSn bk 1 j) = true := by rw [c1, c2]; rfl
    obtain ⟨s, hs, hs20, rfl⟩ := isSn_0 (b := 0) (by decide) B.ok c1
    obtain ⟨t, ht, ht20, rfl⟩ := isSn_0 (b := 1) (by decide) B.ok c2
    have e : fFast bk p (nI s) (nI t) = (if tieB p s t then (if cnt p.1 < 20 then (nI (cnt p.1 + 1), tied p s t) else (-100004, p)) else (-100003, p)) := by rw [fFast, if_pos e0, cl_nI (by omega), cl_nI (by omega)]
    rw [e] at K
    simp only [s_5 c, r_5_5 c, s_224 c]
    have hcl := cnt_le p.1
    refine ⟨trivial, by decide, trivial, sp_mayTie c D hs20 ht20 (fun hT => ⟨fun _ => ?_, fun z => absurd z (by decide)⟩) (fun hT => ⟨fun z => absurd rfl z, fun _ => ?_⟩)⟩
    · rw [if_pos hT] at K
      simp only [s_5 c, r_5_5 c, s_224 c, D.2.1]
      refine ⟨trivial, by decide, trivial, fun c3 => ?_, fun c3 => ?_⟩
      · rw [ti_lt, nI_toInt (by omega), t_20] at c3
        rw [if_pos (by omega)] at K
        refine sp_tie c D hs20 ht20 hT.1 (fun h' hc hl hD => ?_)
        have c' := Chg.layP hc c
        refine ⟨by rw [s_5 c'], fun h5 e5 => ⟨by rw [r_5_5 c']; decide, by rw [r_5_5 c', s_224 c'], ?_⟩⟩
        subst e5
        rw [r_5_5 c']
        have hP := PCh.of (p := p) hc hl hD
        refine Qto (K _ hP) ?_
        rw [hI_ne (Or.inl (by decide)), hD.2.1]
        show _ = nI (cnt (up1 p.1 s (nI t)))
        rw [cnt_add hs20 hT.1 (nI_m1 (by omega))]
      · rw [ti_lt, nI_toInt (by omega), t_20] at c3
        rw [if_neg (by omega)] at K
        exact K h (PCh.refl D)
    · rw [if_neg hT] at K
      exact K h (PCh.refl D)
  · rw [b01_eq] at c2
    have e : fFast bk p i j = (-100001, p) := by rw [fFast, show isSn bk 1 j = false from c2, Bool.and_false]; rfl
    rw [e] at K
    exact K h (PCh.refl D)
theorem sp_loosen {i : Int32} (c : Lay L h) (B : booksC h o bk) (D : pairC h p) (K : ∀ h', PCh h h' p (fLoosen bk p i).2 → Q (fLoosen bk p i).1 h') : AC w mX9_loosen 0 0 (rI Q) [.ref 5, .int i] h := by
  refine eX9_loosen (sX9_loosen_0 ⟨by rw [s_5 c], sp_isSentence c B ⟨fun c1 => ?_, fun c1 => ?_⟩⟩)
  · rw [b01_ne] at c1
    have c1' : isSn bk 0 i = true := c1
    obtain ⟨s, hs, hs20, rfl⟩ := isSn_0 (b := 0) (by decide) B.ok c1
    have e : fLoosen bk p (nI s) = (if p.1 s = -1 then (0, p) else (1, untied p s)) := by rw [fLoosen, if_pos c1', cl_nI (by omega)]
    rw [e] at K
    simp only [s_5 c, r_5_5 c, s_224 c]
    refine ⟨trivial, by decide, trivial, sp_untie c D hs20 (fun q => ⟨fun z => absurd rfl z, fun _ => ?_⟩) (fun q h' hc hl hD => ⟨fun _ => ?_, fun z => absurd z (by decide)⟩)⟩
    · rw [if_pos q] at K
      exact K h (PCh.refl D)
    · rw [if_neg q] at K
      have c' := Chg.layP hc c
      refine ⟨by rw [s_5 c'], fun h3 e3 => ?_⟩
      subst e3
      exact K _ (PCh.of (p := p) hc hl hD)
  · rw [b01_eq] at c1
    have e : fLoosen bk p i = (-100001, p) := by rw [fLoosen, show isSn bk 0 i = false from c1]; rfl
    rw [e] at K
    exact K h (PCh.refl D)
/-- keep: the field kept of the ways; the reference's isKept -/
theorem sp_keep {x v : Int32} (c : Lay L h) (hx : x = 0 ∨ x = 1) (hv : hI h 311 3 = v) (hv01 : v = 0 ∨ v = 1) (K : Q v (sI (sI h 311 3 x) 5 11 1)) : AC w mX9_keep 0 0 (rI Q) [.ref 5, .int x] h := by
  refine eX9_keep (sX9_keep_0 ?_)
  simp only [s_5 c, r_5_7 c, s_311 c, hv]
  refine ⟨trivial, by decide, trivial, fun c1 => ⟨hx, fun h1 e1 h2 e2 => ?_⟩, fun c1 => ⟨hx, fun h1 e1 h2 e2 => ?_⟩⟩
  · subst e1 e2; exact Qto K c1
  · subst e1 e2; exact Qto K (hv01.resolve_left c1)
theorem sp_keepM {x v : Int32} (c : Lay L h) (hx : x = 0 ∨ x = 1) (hv : hI h 347 16 = v) (hv01 : v = 0 ∨ v = 1) (K : Q v (sI h 347 16 x)) : AC w mX10_keep 0 0 (rI Q) [.ref 347, .int x] h := by
  refine eX10_keep (sX10_keep_0 ?_)
  simp only [s_347 c, hv]
  refine ⟨trivial, fun c1 => ⟨hx, fun h1 e1 => ?_⟩, fun c1 => ⟨hx, fun h1 e1 => ?_⟩⟩
  · subst e1; exact Qto K c1
  · subst e1; exact Qto K (hv01.resolve_left c1)
theorem sp_loosenM {i : Int32} (c : Lay L h) (B : booksM h bk) (D : pairM h p) (K : ∀ h', PMh h h' (fLoosen bk p i).2 → Q (fLoosen bk p i).1 h') : AC w mX10_loosen 0 0 (rI Q) [.ref 347, .int i] h := by
  refine eX10_loosen (sX10_loosen_0 ⟨by rw [s_347 c], sp_isSentenceM c B ⟨fun c1 => ?_, fun c1 => ?_⟩⟩)
  · rw [b01_ne] at c1
    have c1' : isSn bk 0 i = true := c1
    obtain ⟨s, hs, hs20, rfl⟩ := isSn_0 (b := 0) (by decide) B.ok c1
    have e : fLoosen bk p (nI s) = (if p.1 s = -1 then (0, p) else (1, untied p s)) := by rw [fLoosen, if_pos c1', cl_nI (by omega)]
    rw [e] at K
    simp only [s_347 c, r_347_13 c, s_359 c, r_347_14 c, s_360 c, cl_nI (show s < 2147483648 by omega), (D.2.2 s hs20).1]
    refine ⟨trivial, by decide, trivial, vp_nI hs20 (by decide), fun c2 => ?_, fun c2 => ?_⟩
    · rw [ti_le, t_0] at c2
      have hne : ¬ p.1 s = -1 := fun q => by rw [q, tm_1] at c2; omega
      rw [if_neg hne] at K
      obtain ⟨q, hq, eq⟩ := (D.1 s hs20).1.resolve_left hne
      refine ⟨by decide, trivial, by rw [eq]; exact vp_nI hq (by decide), fun a1 e1 a2 e2 a3 e3 => ?_⟩
      subst e1 e2 e3
      refine K _ ⟨(((Chg.rfl' h).sI (Or.inr (Or.inr rfl))).sI (Or.inr (Or.inl rfl))).sI (Or.inl rfl), fun k hk => ?_, rfl, D.1.untie, ?_, fun t ht => ⟨?_, ?_⟩⟩
      · rw [hI_ne (Or.inr hk), hI_ne (Or.inl (by decide)), hI_ne (Or.inl (by decide))]
      · rw [hI_eq, hI_ne (Or.inl (by decide)), hI_ne (Or.inl (by decide)), D.2.1]
        show _ = nI (cnt (up1 p.1 s (-1)))
        have := cnt_sub hs20 hne
        rw [← this, nI_pred]
      · rw [hI_ne (Or.inl (by decide))]
        show _ = up1 p.1 s (-1) t
        by_cases e : t = s
        · subst e; rw [hI_eq, up1_s]
        · rw [hI_ne (Or.inr e), up1_n e, hI_ne (Or.inl (by decide))]; exact (D.2.2 t ht).1
      · rw [hI_ne (Or.inl (by decide)), hI_ne (Or.inl (by decide))]
        show _ = up1 p.2 (p.1 s).toNatClampNeg (-1) t
        by_cases e : t = (p.1 s).toNatClampNeg
        · rw [e, hI_eq, up1_s]
        · rw [hI_ne (Or.inr e), up1_n e]; exact (D.2.2 t ht).2
    · rw [ti_le, t_0] at c2
      have he : p.1 s = -1 := (D.1 s hs20).1.elim id (fun ⟨q, hq, eq⟩ => by rw [eq, nI_toInt (by omega)] at c2; omega)
      rw [if_pos he] at K
      exact K h ⟨Chg.rfl' h, fun _ _ => rfl, rfl, D⟩
  · rw [b01_eq] at c1
    have e : fLoosen bk p i = (-100001, p) := by rw [fLoosen, show isSn bk 0 i = false from c1]; rfl
    rw [e] at K
    exact K h ⟨Chg.rfl' h, fun _ _ => rfl, rfl, D⟩
end FC
