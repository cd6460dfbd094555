section SM2
variable {w : Wd} {L : Nat} {h : Hp} {bk : Nat → Bk} {sh : Sh} {tm : Nat → Int32}
theorem tieM_loop {Q : Hp → Prop} {a b : Nat} (c : Lay L h) (ha : a < 40) (hb : b < 40) (ht : hI h 361 a = nI b) (K : ∀ h', Chg (fun id => id = 362) h h' → hL h' = hL h → (∀ y, y < 41 → hI h' 362 (41 * a + y) = if y = b then 1048576 else 0) → (∀ x, (x < 41 * a ∨ 41 * a + 41 ≤ x) → hI h' 362 x = hI h 362 x) → Q h') :
    ∀ (d k : Nat) (h' : Hp), k + d = 41 → Chg (fun id => id = 362) h h' → hL h' = hL h → (∀ y, y < k → hI h' 362 (41 * a + y) = if y = b then 1048576 else 0) → (∀ x, (x < 41 * a ∨ 41 * a + 41 ≤ x) → hI h' 362 x = hI h 362 x) → AW w mX10_tie 0 0 (rV Q) 0 0 2 [some (.ref 347), some (.int (nI a)), some (.int (nI k))] [] h' := by
  intro d
  induction d with
  | zero =>
    intro k h' hk hch hl hx ho
    have : k = 41 := by omega
    subst this
    exact sX10_tie_2 ⟨fun _ => K h' hch hl hx ho, fun c1 => absurd (by decide) c1⟩
  | succ d ih =>
    intro k h' hk hch hl hx ho
    have c' : Lay L h' := hch.lay c (fun id q => by omega)
    have ht' : hI h' 361 a = nI b := by rw [(hch.2.2.2 361 (by decide) a).1]; exact ht
    refine sX10_tie_2 ⟨fun c1 => ?_, fun c1 => ?_⟩
    · rw [ti_lt, t_40, nI_toInt (by omega)] at c1
      omega
    · simp only [s_347 c', r_347_17 c', s_361 c', r_347_18 c', s_362 c', cl_nI (show a < 2147483648 by omega), ht', m_41, nI_add, nI_1, cl_nI (show 41 * a + k < 2147483648 by omega)]
      refine ⟨trivial, by decide, trivial, vp_nI ha (by decide), fun c2 => ?_, fun c2 => ⟨by decide, fun c3 => ⟨trivial, vp_nI (by omega) (by decide), fun h1 e1 => ?_⟩, fun c3 => ⟨trivial, vp_nI (by omega) (by decide), fun h1 e1 => ?_⟩⟩⟩
      · rw [ti_lt, t_0, nI_toInt (by omega)] at c2
        omega
      · subst e1
        rw [nI_inj (by omega) (by omega)] at c3
        refine ih (k + 1) _ (by omega) (hch.sI rfl) hl (fun y hy => ?_) (fun x hx' => ?_)
        · by_cases e : y = k
          · subst e; rw [hI_eq, if_neg c3]
          · rw [hI_ne (Or.inr (by omega))]; exact hx y (by omega)
        · rw [hI_ne (Or.inr (by omega))]; exact ho x hx'
      · subst e1
        rw [nI_inj (by omega) (by omega)] at c3
        refine ih (k + 1) _ (by omega) (hch.sI rfl) hl (fun y hy => ?_) (fun x hx' => ?_)
        · by_cases e : y = k
          · subst e; rw [hI_eq, if_pos c3]
          · rw [hI_ne (Or.inr (by omega))]; exact hx y (by omega)
        · rw [hI_ne (Or.inr (by omega))]; exact ho x hx'
theorem sp_termM {Q : Int32 → Hp → Prop} {a b : Int32} (c : Lay L h) (B : booksM h bk) (D : shareM h (bNk (bk 0)) (bNk (bk 1)) sh tm) (K : ∀ h', SMh h h' (bNk (bk 0)) (bNk (bk 1)) (fTerm (bNk (bk 0)) (bNk (bk 1)) sh tm a b).2.1 (fTerm (bNk (bk 0)) (bNk (bk 1)) sh tm a b).2.2 → Q (fTerm (bNk (bk 0)) (bNk (bk 1)) sh tm a b).1 h') : AC w mX10_term 0 0 (rI Q) [.ref 347, .int a, .int b] h := by
  have h0 := D.1.1
  have h1 := D.1.2.1
  have i0 : ∀ x : Int32, (inR (0 : Int32) 2 && inR x (bNk (bk (0 : Int32).toNatClampNeg))) = inR x (bNk (bk 0)) := fun x => rfl
  have i1 : ∀ x : Int32, (inR (1 : Int32) 2 && inR x (bNk (bk (1 : Int32).toNatClampNeg))) = inR x (bNk (bk 1)) := fun x => rfl
  have bad : (inR a (bNk (bk 0)) && inR b (bNk (bk 1))) = false → Q (-100001) h := fun q => by
    have e : fTerm (bNk (bk 0)) (bNk (bk 1)) sh tm a b = (-100001, sh, tm) := by rw [fTerm, q]; rfl
    rw [e] at K
    exact K h ⟨Chg.rfl' h, rfl, D⟩
  refine eX10_term (sX10_term_0 ⟨by rw [s_347 c], sp_isKindM c B ?_⟩)
  rw [i0]
  refine ⟨fun c1 => ?_, fun c1 => ⟨by rw [s_347 c], sp_isKindM c B ?_⟩⟩
  · rw [b01_eq] at c1
    exact bad (by rw [c1]; rfl)
  · rw [i1]
    refine ⟨fun c2 => ?_, fun c2 => ?_⟩
    · rw [b01_ne] at c1 c2
      have e0 : (inR a (bNk (bk 0)) && inR b (bNk (bk 1))) = true := by rw [c1, c2]; rfl
      obtain ⟨x, hx, rfl⟩ := inR_nI c1 (by omega)
      obtain ⟨y, hy, rfl⟩ := inR_nI c2 (by omega)
      have hv := D.2 x hx
      have e : fTerm (bNk (bk 0)) (bNk (bk 1)) sh tm (nI x) (nI y) = (if tm x = -1 then (1, shT1 sh x y, up1 tm x (nI y)) else (0, sh, up1 tm x (-1))) := by rw [fTerm, if_pos e0, cl_nI (by omega), cl_nI (by omega)]
      rw [e] at K
      have sg : (tm x).toInt < 0 ↔ tm x = -1 := by
        rcases (D.1.2.2 x hx).1 with q | ⟨b, hb, q⟩
        · rw [q, tm_1]; simp
        · rw [q, nI_toInt (by omega)]
          exact ⟨fun z => by omega, fun z => absurd z (nI_m1 (by omega))⟩
      simp only [s_347 c, r_347_17 c, s_361 c, cl_nI (show x < 2147483648 by omega), hv.1, ti_lt, t_0, sg]
      refine ⟨trivial, by decide, trivial, vp_nI (by omega) (by decide), fun c3 h3 e3 => ?_, fun c3 h5 e5 => ?_⟩
      · subst e3
        rw [if_pos c3] at K
        dsimp only at K
        have c' : Lay L (sI h 361 x (nI y)) := c.sI (by decide)
        refine eX10_tie (sX10_tie_0 (tieM_loop (b := y) c' (by omega) (by omega) hI_eq (fun h4 hc hl hr ho => ?_) 41 0 _ (by omega) (Chg.rfl' _) rfl (fun y hy => by omega) (fun _ _ => rfl)))
        refine K _ ⟨((Chg.rfl' h).sI (D := smId) (Or.inl rfl)).trans (hc.mono (fun id q => Or.inr q)), hl, D.1.term hx hy, fun z hz => ⟨?_, ?_, fun u hu => ?_⟩⟩
        · rw [(hc.2.2.2 361 (by decide) z).1]
          by_cases q : z = x
          · subst q; rw [hI_eq, up1_s]
          · rw [hI_ne (Or.inr q), up1_n q]; exact (D.2 z hz).1
        · show _ = if z = x then (if 40 = y then 1048576 else 0) else sh z 40
          by_cases q : z = x
          · subst q; rw [if_pos rfl]; exact hr 40 (by decide)
          · rw [if_neg q, ho _ (by omega), hI_ne (Or.inl (by decide))]; exact (D.2 z hz).2.1
        · show _ = if z = x then (if u = y then 1048576 else 0) else sh z u
          by_cases q : z = x
          · subst q; rw [if_pos rfl]; exact hr u (by omega)
          · rw [if_neg q, ho _ (by omega), hI_ne (Or.inl (by decide))]; exact (D.2 z hz).2.2 u hu
      · subst e5
        rw [if_neg c3] at K
        dsimp only at K
        refine K _ ⟨(Chg.rfl' h).sI (Or.inl rfl), rfl, D.1.unterm, fun z hz => ⟨?_, by rw [hI_ne (Or.inl (by decide))]; exact (D.2 z hz).2.1, fun u hu => by rw [hI_ne (Or.inl (by decide))]; exact (D.2 z hz).2.2 u hu⟩⟩
        by_cases q : z = x
        · subst q; rw [hI_eq, up1_s]
        · rw [hI_ne (Or.inr q), up1_n q]; exact (D.2 z hz).1
    · rw [b01_eq] at c2
      exact bad (by rw [c2, Bool.and_false])
end SM2
