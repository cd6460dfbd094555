/-! ===== putSentence ===== -/
def fPutS (bk : Nat → Bk) (dk : Nat → Dk) (s b i : Int32) : Int32 × (Nat → Dk) := if (inR s 8 && isSn bk b i) = true then (1, setD dk s.toNatClampNeg (1, bWc (bk b.toNatClampNeg) i.toNatClampNeg, (fun u => nI (bWd (bk b.toNatClampNeg) i.toNatClampNeg u)), (dk s.toNatClampNeg).2.2.2)) else (-100001, dk)
section PS
variable {w : Wd} {L : Nat} {h : Hp} {o : Nat → Nat} {bk : Nat → Bk} {dk : Nat → Dk} {cd : Int32}
theorem holdS_loop {Q : Hp → Prop} {s a n : Nat} (c : Lay L h) (hs8 : s < 8) (ha : hs h a = (1, 10)) (hane : a ≠ 332 + 2 * s) (hn : n ≤ 10) (K : ∀ h', Chg (fun id => id = 332 + 2 * s) h h' → hL h' = hL h → (∀ u, u < n → hI h' (332 + 2 * s) u = hI h a u) → Q h') :
    ∀ (d k : Nat) (h' : Hp), k + d = n → Chg (fun id => id = 332 + 2 * s) h h' → hL h' = hL h → (∀ u, u < k → hI h' (332 + 2 * s) u = hI h a u) → AW w mX5_holdSentence 0 0 (rV Q) 0 0 12 [some (.ref (331 + 2 * s)), some (.ref a), some (.int (nI n)), some (.int (nI k))] [] h' := by
  intro d
  induction d with
  | zero =>
    intro k h' hk hch hl hx
    have : k = n := by omega
    subst this
    refine sX5_holdSentence_12 ⟨fun _ => K h' hch hl hx, fun c1 => ?_⟩
    rw [ti_le] at c1
    omega
  | succ d ih =>
    intro k h' hk hch hl hx
    have c' : Lay L h' := hch.lay c (fun id q => by omega)
    have ha' : hs h' a = (1, 10) := by rw [hch.2.1]; exact ha
    have hv : hI h' a k = hI h a k := (hch.2.2.2 a hane k).1
    refine sX5_holdSentence_12 ⟨fun c1 => ?_, fun c1 => ?_⟩
    · rw [ti_le, nI_toInt (by omega), nI_toInt (by omega)] at c1
      omega
    · simp only [s_slot c' hs8, r_cells c' hs8, s_cells c' hs8, ha', cl_nI (show k < 2147483648 by omega), hv, nI_1]
      refine ⟨trivial, by omega, trivial, vp_nI (by omega) (by decide), trivial, vp_nI (by omega) (by decide), fun h1 e1 => ?_⟩
      subst e1
      refine ih (k + 1) _ (by omega) (hch.sI rfl) hl (fun u hu => ?_)
      by_cases e : u = k
      · subst e; exact hI_eq
      · rw [hI_ne (Or.inr e)]; exact hx u (by omega)
theorem sp_putSentence {Q : Int32 → Hp → Prop} {s b i : Int32} (c : Lay L h) (B : booksC h o bk) (D : deskC h dk) (hc : hI h 5 10 = cd) (K : ∀ h', DC h h' (fPutS bk dk s b i).2 cd → Q (fPutS bk dk s b i).1 h') : AC w mX9_putSentence 0 0 (rI Q) [.ref 5, .int s, .int b, .int i] h := by
  have bad : (inR s 8 && isSn bk b i) = false → Q (-100001) h := fun q => by
    have e : fPutS bk dk s b i = (-100001, dk) := by rw [fPutS, q]; rfl
    rw [e] at K
    exact K h (DC.refl D hc)
  refine eX9_putSentence (sX9_putSentence_0 ⟨by rw [s_5 c], sp_isSlot ⟨fun c1 => ?_, fun c1 => ⟨by rw [s_5 c], sp_isSentence c B ⟨fun c2 => ?_, fun c2 => ?_⟩⟩⟩⟩)
  · rw [b01_eq] at c1
    exact bad (by rw [c1]; rfl)
  · rw [b01_ne] at c1 c2
    have c2' := c2
    have c1' := c1
    obtain ⟨q, hq, rfl⟩ := inR_nI c1 (by decide)
    obtain ⟨j, t, hj, ht, rfl, rfl⟩ := isSn_nI (fun j hj => (B.ok j hj).1) c2
    obtain ⟨r1, hb, Db⟩ := B.r hj
    have h20 := Db.1.1
    have h10 := (Db.1.2.2.2.1 t ht).2.1
    have hp := isBk_pos hb
    have hv := Db.2.2.2.2.1 t ht
    have e : fPutS bk dk (nI q) (nI j) (nI t) = (1, setD dk q (1, bWc (bk j) t, (fun u => nI (bWd (bk j) t u)), (dk q).2.2.2)) := by rw [fPutS, c1', c2', cl_nI (by omega), cl_nI (by omega), cl_nI (by omega)]; rfl
    rw [e] at K
    simp only [s_5 c, r_5_9 c, s_330 c, r_5_3 c, s_19 c, cl_nI (show q < 2147483648 by omega), cl_nI (show j < 2147483648 by omega), cl_nI (show t < 2147483648 by omega), r_desk c hq, s_slot c hq, r1, sb_this c hb, show hR h (o j) 1 = o j + 44 from rb_0_1 c hb, sb_44 c hb, rb_wd c hb (show t < 20 by omega), show hR h (o j) 2 = o j + 65 from rb_0_2 c hb, sb_65 c hb, hv.1]
    refine ⟨trivial, by decide, trivial, vp_nI hq (by decide), by omega, by decide, trivial, vp_nI hj (by decide), by omega, trivial, by omega, trivial, vp_nI (by omega) (by decide), by omega, by omega, trivial, vp_nI (by omega) (by decide), trivial, ?_⟩
    refine eX5_holdSentence (sX5_holdSentence_0 ⟨by rw [s_slot c hq], fun h1 e1 h2 e2 => ?_⟩)
    subst e1 e2
    have hc0 : Chg (fun id => id = 331 + 2 * q) h (sI (sI h (331 + 2 * q) 0 1) (331 + 2 * q) 1 (nI (bWc (bk j) t))) := Chg.sI (D := fun id => id = 331 + 2 * q) (Chg.sI (D := fun id => id = 331 + 2 * q) (Chg.rfl' h) rfl) rfl
    have hid : o j + 45 + t < 224 := by rcases hb with hb | hb | hb <;> rw [hb] <;> omega
    have c' : Lay L (sI (sI h (331 + 2 * q) 0 1) (331 + 2 * q) 1 (nI (bWc (bk j) t))) := hc0.lay c (fun id z => by omega)
    refine holdS_loop c' hq (sb_wd c' hb (show t < 20 by omega)) (by omega) h10 (fun h' hch hl hx => ?_) (bWc (bk j) t) 0 _ (by omega) (Chg.rfl' _) rfl (fun u hu => by omega)
    refine K h' ⟨(hc0.mono (fun id z => Or.inr (by omega))).trans (hch.mono (fun id z => Or.inr (by omega))), fun k hk => ?_, D.upd (fun x hx8 hne y => ⟨?_, ?_⟩) ⟨⟨by show 1 ≤ 3; omega, by show bWc (bk j) t ≤ 30; omega⟩, ?_, fun _ => ⟨?_, fun u hu => ?_⟩, fun z => ?_⟩, ?_⟩
    · rw [(hch.2.2.2 5 (by omega) k).1, hI_ne (Or.inl (by omega)), hI_ne (Or.inl (by omega))]
    · rw [(hch.2.2.2 _ (by omega) y).1, hI_ne (Or.inl (by omega)), hI_ne (Or.inl (by omega))]
    · rw [(hch.2.2.2 _ (by omega) y).1, hI_ne (Or.inl (by omega)), hI_ne (Or.inl (by omega))]
    · rw [(hch.2.2.2 _ (by omega) 0).1, hI_ne (Or.inr (by decide)), hI_eq]; rfl
    · rw [(hch.2.2.2 _ (by omega) 1).1, hI_eq]
    · have hu' : u < bWc (bk j) t := hu
      rw [hx u hu', hI_ne (Or.inl (by omega)), hI_ne (Or.inl (by omega))]
      exact hv.2.2 u hu'
    · have : (1 : Nat) = 2 := z
      omega
    · rw [(hch.2.2.2 5 (by omega) 10).1, hI_ne (Or.inl (by omega)), hI_ne (Or.inl (by omega))]; exact hc
  · rw [b01_eq] at c2
    exact bad (by rw [c2, Bool.and_false])
theorem putSM_loop {Q : Int32 → Hp → Prop} {s j t : Nat} (c : Lay L h) (hs8 : s < 8) (hj : j < 2) (D : bookM h j (bk j)) (ht : t < bNs (bk j)) (hsz : hI h 383 s = nI (bWc (bk j) t)) (K : ∀ h', Chg (fun id => id = 384) h h' → hL h' = hL h → (∀ u, u < bWc (bk j) t → hI h' 384 (30 * s + u) = nI (bWd (bk j) t u)) → (∀ x, (x < 30 * s ∨ 30 * s + 30 ≤ x) → hI h' 384 x = hI h 384 x) → Q 1 h') :
    ∀ (d k : Nat) (h' : Hp), k + d = bWc (bk j) t → Chg (fun id => id = 384) h h' → hL h' = hL h → (∀ u, u < k → hI h' 384 (30 * s + u) = nI (bWd (bk j) t u)) → (∀ x, (x < 30 * s ∨ 30 * s + 30 ≤ x) → hI h' 384 x = hI h 384 x) → AW w mX10_putSentence 0 0 (rI Q) 0 0 46 [some (.ref 347), some (.int (nI s)), some (.int (nI j)), some (.int (nI t)), some (.int (nI k))] [] h' := by
  have h10 := (D.1.2.2.2.1 t ht).2.1
  have mv : ∀ h', Chg (fun id => id = 384) h h' → bookM h' j (bk j) := fun h' q => by
    obtain ⟨o', d1, d2, d3, d4, d5⟩ := D
    have e : ∀ id, id ≠ 384 → ∀ i, hI h' id i = hI h id i := fun id hid i => (q.2.2.2 id hid i).1
    exact ⟨o', by rw [e _ (by decide)]; exact d1, by rw [e _ (by decide)]; exact d2, by rw [e _ (by decide)]; exact d3, fun s hs => ⟨by rw [e _ (by decide)]; exact (d4 s hs).1, by rw [e _ (by decide)]; exact (d4 s hs).2.1, fun i hi => by rw [e _ (by decide)]; exact (d4 s hs).2.2 i hi⟩, fun k hk => ⟨by rw [e _ (by decide)]; exact (d5 k hk).1, fun i hi => by rw [e _ (by decide)]; exact (d5 k hk).2 i hi⟩⟩
  intro d
  induction d with
  | zero =>
    intro k h' hk hch hl hx ho
    have hk : k = bWc (bk j) t := by omega
    have c' : Lay L h' := hch.lay c (fun id q => by omega)
    have hs' : hI h' 383 s = nI (bWc (bk j) t) := by rw [(hch.2.2.2 383 (by decide) s).1]; exact hsz
    refine sX10_putSentence_46 ?_
    simp only [s_347 c', r_347_55 c', s_383 c', cl_nI (show s < 2147483648 by omega), hs']
    refine ⟨trivial, by decide, trivial, vp_nI hs8 (by decide), fun _ => K h' hch hl (by rw [← hk]; exact hx) ho, fun c1 => ?_⟩
    rw [ti_le, nI_toInt (by omega), nI_toInt (by omega)] at c1
    omega
  | succ d ih =>
    intro k h' hk hch hl hx ho
    have c' : Lay L h' := hch.lay c (fun id q => by omega)
    have hs' : hI h' 383 s = nI (bWc (bk j) t) := by rw [(hch.2.2.2 383 (by decide) s).1]; exact hsz
    refine sX10_putSentence_46 ?_
    simp only [s_347 c', r_347_55 c', s_383 c', r_347_56 c', cl_nI (show s < 2147483648 by omega), hs']
    refine ⟨trivial, by decide, trivial, vp_nI hs8 (by decide), fun c1 => ?_, fun c1 => ⟨by decide, sp_kindOf c' hj (mv h' hch) ht (by omega) ?_⟩⟩
    · rw [ti_le, nI_toInt (by omega), nI_toInt (by omega)] at c1
      omega
    · simp only [s_384 c', e30, nI_1, cl_nI (show 30 * s + k < 2147483648 by omega)]
      refine ⟨trivial, vp_nI (by omega) (by decide), fun h2 e2 => ?_⟩
      subst e2
      refine ih (k + 1) _ (by omega) (hch.sI rfl) hl (fun u hu => ?_) (fun x hx' => ?_)
      · by_cases e : u = k
        · subst e; exact hI_eq
        · rw [hI_ne (Or.inr (by omega))]; exact hx u (by omega)
      · rw [hI_ne (Or.inr (by omega))]; exact ho x hx'
theorem sp_putSentenceM {Q : Int32 → Hp → Prop} {s b i : Int32} (c : Lay L h) (B : booksM h bk) (D : deskM h dk) (hc : hI h 347 19 = cd) (K : ∀ h', DM h h' (fPutS bk dk s b i).2 cd → Q (fPutS bk dk s b i).1 h') : AC w mX10_putSentence 0 0 (rI Q) [.ref 347, .int s, .int b, .int i] h := by
  have bad : (inR s 8 && isSn bk b i) = false → Q (-100001) h := fun q => by
    have e : fPutS bk dk s b i = (-100001, dk) := by rw [fPutS, q]; rfl
    rw [e] at K
    exact K h (DM.refl D hc)
  refine eX10_putSentence (sX10_putSentence_0 (sp_isSlotM ⟨fun c1 => ?_, fun c1 => ⟨by rw [s_347 c], sp_isSentenceM c B ⟨fun c2 => ?_, fun c2 => ?_⟩⟩⟩))
  · rw [b01_eq] at c1
    exact bad (by rw [c1]; rfl)
  · rw [b01_ne] at c1 c2
    have c2' := c2
    have c1' := c1
    obtain ⟨q, hq, rfl⟩ := inR_nI c1 (by decide)
    obtain ⟨j, t, hj, ht, rfl, rfl⟩ := isSn_nI (fun j hj => (B.ok j hj).1) c2
    have Db := B.r hj
    have h20 := Db.1.1
    have h10 := (Db.1.2.2.2.1 t ht).2.1
    have hv := Db.2.2.2.2.1 t ht
    have e : fPutS bk dk (nI q) (nI j) (nI t) = (1, setD dk q (1, bWc (bk j) t, (fun u => nI (bWd (bk j) t u)), (dk q).2.2.2)) := by rw [fPutS, c1', c2', cl_nI (by omega), cl_nI (by omega), cl_nI (by omega)]; rfl
    rw [e] at K
    have hwc : hI (sI h 382 q 1) 352 (20 * j + t) = nI (bWc (bk j) t) := by rw [hI_ne (Or.inl (by decide))]; exact hv.1
    simp only [s_347 c, r_347_54 c, s_382 c, r_347_55 c, s_383 c, r_347_6 c, s_352 c, cl_nI (show q < 2147483648 by omega), m_20, nI_add, cl_nI (show 20 * j + t < 2147483648 by omega)]
    refine ⟨trivial, by decide, trivial, vp_nI hq (by decide), fun h3 e3 => ⟨by decide, by decide, trivial, vp_nI (by omega) (by decide), trivial, vp_nI hq (by decide), fun h4 e4 => ?_⟩⟩
    subst e3
    rw [hwc] at e4
    subst e4
    have hc0 : Chg dmId h (sI (sI h 382 q 1) 383 q (nI (bWc (bk j) t))) := ((Chg.rfl' h).sI (Or.inr (by omega))).sI (Or.inr (by omega))
    have c' : Lay L (sI (sI h 382 q 1) 383 q (nI (bWc (bk j) t))) := hc0.lay c (fun id z => by rcases z with z | z <;> omega)
    have Db' : bookM (sI (sI h 382 q 1) 383 q (nI (bWc (bk j) t))) j (bk j) := by
      obtain ⟨o', d1, d2, d3, d4, d5⟩ := Db
      have e : ∀ id, id < 382 → ∀ i, hI (sI (sI h 382 q 1) 383 q (nI (bWc (bk j) t))) id i = hI h id i := fun id hid i => by rw [hI_ne (Or.inl (by omega)), hI_ne (Or.inl (by omega))]
      exact ⟨o', by rw [e _ (by decide)]; exact d1, by rw [e _ (by decide)]; exact d2, by rw [e _ (by decide)]; exact d3, fun s hs => ⟨by rw [e _ (by decide)]; exact (d4 s hs).1, by rw [e _ (by decide)]; exact (d4 s hs).2.1, fun i hi => by rw [e _ (by decide)]; exact (d4 s hs).2.2 i hi⟩, fun k hk => ⟨by rw [e _ (by decide)]; exact (d5 k hk).1, fun i hi => by rw [e _ (by decide)]; exact (d5 k hk).2 i hi⟩⟩
    refine putSM_loop c' hq hj Db' ht hI_eq (fun h' hch hl hx ho => ?_) (bWc (bk j) t) 0 _ (by omega) (Chg.rfl' _) rfl (fun u hu => by omega) (fun _ _ => rfl)
    refine K h' ⟨hc0.trans (hch.mono (fun id z => Or.inr (by omega))), fun k hk => ?_, hl, D.upd (fun x hx8 hne => ⟨?_, ?_, fun y hy => ?_⟩) ⟨⟨by show 1 ≤ 3; omega, by show bWc (bk j) t ≤ 30; omega⟩, ?_, fun _ => ⟨?_, fun u hu => hx u hu⟩, fun z => ?_⟩, ?_⟩
    · rw [(hch.2.2.2 347 (by decide) k).1, hI_ne (Or.inl (by decide)), hI_ne (Or.inl (by decide))]
    · rw [(hch.2.2.2 382 (by decide) x).1, hI_ne (Or.inl (by decide)), hI_ne (Or.inr hne)]
    · rw [(hch.2.2.2 383 (by decide) x).1, hI_ne (Or.inr hne), hI_ne (Or.inl (by decide))]
    · rw [ho _ (by omega), hI_ne (Or.inl (by decide)), hI_ne (Or.inl (by decide))]
    · rw [(hch.2.2.2 382 (by decide) q).1, hI_ne (Or.inl (by decide)), hI_eq]; rfl
    · rw [(hch.2.2.2 383 (by decide) q).1, hI_eq]
    · have : (1 : Nat) = 2 := z
      omega
    · rw [(hch.2.2.2 347 (by decide) 19).1, hI_ne (Or.inl (by decide)), hI_ne (Or.inl (by decide))]; exact hc
  · rw [b01_eq] at c2
    exact bad (by rw [c2, Bool.and_false])
end PS
