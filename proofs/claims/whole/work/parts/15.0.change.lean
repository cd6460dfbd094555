/-! ===== change ===== -/
def setWd (B : Bk) (t u k : Nat) : Bk := (B.1, B.2.1, (fun s i => if s = t ∧ i = u then k else B.2.2.1 s i), B.2.2.2)
def setBk (bk : Nat → Bk) (j : Nat) (B : Bk) : Nat → Bk := fun q => if q = j then B else bk q
theorem wd_s (B : Bk) (t u k : Nat) : bWd (setWd B t u k) t u = k := if_pos ⟨rfl, rfl⟩
theorem wd_n {B : Bk} {t u k s i : Nat} (h : s ≠ t ∨ i ≠ u) : bWd (setWd B t u k) s i = bWd B s i := if_neg (fun q => h.elim (fun z => z q.1) (fun z => z q.2))
theorem okB.setWd {B : Bk} {t u k : Nat} (o : okB B) (hk : k < bNk B) : okB (setWd B t u k) := by
  refine ⟨o.1, o.2.1, o.2.2.1, fun s hs => ?_, o.2.2.2.2⟩
  obtain ⟨a, b, c, d⟩ := o.2.2.2.1 s hs
  refine ⟨a, b, c, fun i hi => ?_⟩
  by_cases e : s = t ∧ i = u
  · obtain ⟨rfl, rfl⟩ := e
    rw [wd_s]; exact hk
  · rw [wd_n (by omega)]
    exact d i hi
theorem bookC.chg {h h' : Hp} {b : Nat} {B : Bk} (D : bookC h b B) (q : ∀ id, b ≤ id → id ≤ b + 67 → ∀ i, hI h' id i = hI h id i) : bookC h' b B := by
  obtain ⟨o, d1, d2, d3, d4, d5, d6⟩ := D
  have o1 := o.1
  have o2 := o.2.1
  refine ⟨o, by rw [q b (by omega) (by omega)]; exact d1, by rw [q b (by omega) (by omega)]; exact d2, by rw [q _ (by omega) (by omega)]; exact d3, fun s hs => ⟨by rw [q _ (by omega) (by omega)]; exact (d4 s hs).1, by rw [q _ (by omega) (by omega)]; exact (d4 s hs).2.1, fun i hi => by rw [q _ (by omega) (by omega)]; exact (d4 s hs).2.2 i hi⟩, fun k hk => ⟨by rw [q _ (by omega) (by omega)]; exact (d5 k hk).1, fun i hi => by rw [q _ (by omega) (by omega)]; exact (d5 k hk).2 i hi⟩, fun x hx => by rw [q _ (by omega) (by omega)]; exact d6 x hx⟩
/-- behind a call of the class that touches words of the books -/
def BCh (h h' : Hp) (o : Nat → Nat) (bk bk' : Nat → Bk) : Prop := Chg (fun id => id = 5 ∨ (20 ≤ id ∧ id ≤ 223)) h h' ∧ (∀ k, k ≠ 11 → hI h' 5 k = hI h 5 k) ∧ hL h' = hL h ∧ booksC h' o bk' ∧ (hI h' 5 11 = 1 ∨ (bk' = bk ∧ h' = h))
def BMh (h h' : Hp) (bk' : Nat → Bk) : Prop := Chg (fun id => id = 353) h h' ∧ hL h' = hL h ∧ booksM h' bk'
def fChange (bk : Nat → Bk) (b s i k : Int32) : Int32 × (Nat → Bk) := if (isWr bk b s i && inR k (bNk (bk b.toNatClampNeg))) = true then (nI (bWd (bk b.toNatClampNeg) s.toNatClampNeg i.toNatClampNeg), setBk bk b.toNatClampNeg (setWd (bk b.toNatClampNeg) s.toNatClampNeg i.toNatClampNeg k.toNatClampNeg)) else (-100001, bk)
section CH
variable {w : Wd} {L : Nat} {h : Hp} {Q : Int32 → Hp → Prop} {o : Nat → Nat} {bk : Nat → Bk}
theorem isWr_b {b s i : Int32} (h : isWr bk b s i = true) : inR b 2 = true := by
  unfold isWr isSn at h
  rw [Bool.and_eq_true, Bool.and_eq_true] at h
  exact h.1.1
theorem bookC.word {b t u k : Nat} {B : Bk} (hb : isBk b) (D : bookC h b B) (ht : t < bNs B) (hu : u < bWc B t) (hk : k < bNk B) : bookC (sI h (b + 45 + t) u (nI k)) b (setWd B t u k) := by
  obtain ⟨o, d1, d2, d3, d4, d5, d6⟩ := D
  have o1 := o.1
  have o2 := o.2.1
  have o3 := o.2.2.1
  refine ⟨o.setWd hk, by rw [hI_ne (Or.inl (by omega))]; exact d1, by rw [hI_ne (Or.inl (by omega))]; exact d2, by rw [hI_ne (Or.inl (by omega))]; exact d3, fun s hs => ⟨by rw [hI_ne (Or.inl (by omega))]; exact (d4 s hs).1, by rw [hI_ne (Or.inl (by omega))]; exact (d4 s hs).2.1, fun i hi => ?_⟩, fun k hk => ⟨by rw [hI_ne (Or.inl (by omega))]; exact (d5 k hk).1, fun i hi => ?_⟩, fun x hx => by rw [hI_ne (Or.inl (by omega))]; exact d6 x hx⟩
  · by_cases e : s = t ∧ i = u
    · obtain ⟨rfl, rfl⟩ := e
      rw [wd_s, hI_eq]
    · rw [wd_n (by omega)]
      rw [hI_ne (by omega)]
      exact (d4 s hs).2.2 i hi
  · have : k < bNk B := hk
    rw [hI_ne (Or.inl (by omega))]
    exact (d5 k hk).2 i hi
theorem booksC.put {h : Hp} {j t u k : Nat} (D : booksC h o bk) (hj : j < 2) (ht : t < bNs (bk j)) (hu : u < bWc (bk j) t) (hk : k < bNk (bk j)) : booksC (sI h (o j + 45 + t) u (nI k)) o (setBk bk j (setWd (bk j) t u k)) := by
  obtain ⟨⟨r0, b0, b1, hne⟩, D0, D1⟩ := D
  have o0 := D0.1.1
  have o1 := D1.1.1
  have sep : ∀ x y, isBk x → isBk y → x ≠ y → ∀ id, y ≤ id → id ≤ y + 67 → ∀ t, t < 20 → id ≠ x + 45 + t := by
    intro x y hx hy hxy id h1 h2 t ht
    rcases hx with rfl | rfl | rfl <;> rcases hy with rfl | rfl | rfl <;> omega
  rcases (show j = 0 ∨ j = 1 by omega) with rfl | rfl
  · refine ⟨⟨r0, b0, b1, hne⟩, ?_, ?_⟩
    · exact bookC.word b0 D0 ht hu hk
    · exact D1.chg (fun id h1 h2 i => hI_ne (Or.inl (sep _ _ b0 b1 hne id h1 h2 t (by omega))))
  · refine ⟨⟨r0, b0, b1, hne⟩, ?_, ?_⟩
    · exact D0.chg (fun id h1 h2 i => hI_ne (Or.inl (sep _ _ b1 b0 (Ne.symm hne) id h1 h2 t (by omega))))
    · exact bookC.word b1 D1 ht hu hk
theorem booksC.code {h : Hp} {k : Nat} {v : Int32} (D : booksC h o bk) : booksC (sI h 5 k v) o bk := by
  obtain ⟨⟨r0, b0, b1, hne⟩, D0, D1⟩ := D
  have p0 := isBk_pos b0
  have p1 := isBk_pos b1
  exact ⟨⟨r0, b0, b1, hne⟩, D0.chg (fun id h1 h2 i => hI_ne (Or.inl (by omega))), D1.chg (fun id h1 h2 i => hI_ne (Or.inl (by omega)))⟩
theorem sp_change {b s i k : Int32} (c : Lay L h) (D : booksC h o bk) (K : ∀ h', BCh h h' o bk (fChange bk b s i k).2 → Q (fChange bk b s i k).1 h') : AC w mX9_change 0 0 (rI Q) [.ref 5, .int b, .int s, .int i, .int k] h := by
  have bad : (isWr bk b s i && inR k (bNk (bk b.toNatClampNeg))) = false → Q (-100001) h := fun q => by
    have e : fChange bk b s i k = (-100001, bk) := by rw [fChange, q]; rfl
    rw [e] at K
    exact K h ⟨Chg.rfl' h, fun _ _ => rfl, rfl, D, Or.inr ⟨rfl, rfl⟩⟩
  refine eX9_change (sX9_change_0 ⟨by rw [s_5 c], sp_isWord c D ⟨fun c1 => ?_, fun c1 => ?_⟩⟩)
  · rw [b01_eq] at c1
    exact bad (by rw [c1]; rfl)
  · rw [b01_ne] at c1
    have c1' := c1
    obtain ⟨j, t, u, hj, ht, hu, rfl, rfl, rfl⟩ := isWr_nI D.ok c1
    obtain ⟨r1, hb, Db⟩ := D.r hj
    have h20 := Db.1.1
    have h40 := Db.1.2.1
    have h10 := (Db.1.2.2.2.1 t ht).2.1
    have hp := isBk_pos hb
    have hv := (Db.2.2.2.2.1 t ht).2.2 u hu
    refine ⟨by rw [s_5 c], sp_isKind c D hj ⟨fun c2 => ?_, fun c2 => ?_⟩⟩
    · rw [b01_ne] at c2
      obtain ⟨q, hq, rfl⟩ := inR_nI c2 (by omega)
      have e : fChange bk (nI j) (nI t) (nI u) (nI q) = (nI (bWd (bk j) t u), setBk bk j (setWd (bk j) t u q)) := by rw [fChange, cl_nI (by omega), c1', c2, cl_nI (by omega), cl_nI (by omega), cl_nI (by omega)]; rfl
      rw [e] at K
      simp only [s_5 c, r_5_3 c, s_19 c, cl_nI (show j < 2147483648 by omega), cl_nI (show t < 2147483648 by omega), cl_nI (show u < 2147483648 by omega), r1, sb_this c hb, show hR h (o j) 1 = o j + 44 from rb_0_1 c hb, sb_44 c hb, rb_wd c hb (show t < 20 by omega), sb_wd c hb (show t < 20 by omega), hv]
      refine ⟨trivial, by decide, trivial, vp_nI hj (by decide), by omega, trivial, by omega, trivial, vp_nI (by omega) (by decide), by omega, trivial, vp_nI (by omega) (by decide), fun h3 e3 h4 e4 => ?_⟩
      subst e3 e4
      refine K _ ⟨((Chg.rfl' h).sI (Or.inr ?_)).sI (Or.inl rfl), fun k hk => ?_, rfl, (D.put hj ht hu hq).code, Or.inl hI_eq⟩
      · rcases hb with hb | hb | hb <;> rw [hb] <;> omega
      · rw [hI_ne (Or.inr hk), hI_ne (Or.inl (by omega))]
    · rw [b01_eq] at c2
      exact bad (by rw [cl_nI (by omega), c2, Bool.and_false])
theorem bookM.word {b t u k : Nat} {B : Bk} (hb : b < 2) (D : bookM h b B) (ht : t < bNs B) (hu : u < bWc B t) (hk : k < bNk B) : bookM (sI h 353 (200 * b + 10 * t + u) (nI k)) b (setWd B t u k) := by
  obtain ⟨o, d1, d2, d3, d4, d5⟩ := D
  have o1 := o.1
  have hu10 := (o.2.2.2.1 t ht).2.1
  refine ⟨o.setWd hk, by rw [hI_ne (Or.inl (by decide))]; exact d1, by rw [hI_ne (Or.inl (by decide))]; exact d2, by rw [hI_ne (Or.inl (by decide))]; exact d3, fun s hs => ⟨by rw [hI_ne (Or.inl (by decide))]; exact (d4 s hs).1, by rw [hI_ne (Or.inl (by decide))]; exact (d4 s hs).2.1, fun i hi => ?_⟩, fun k hk => ⟨by rw [hI_ne (Or.inl (by decide))]; exact (d5 k hk).1, fun i hi => by rw [hI_ne (Or.inl (by decide))]; exact (d5 k hk).2 i hi⟩⟩
  have hi10 := (o.2.2.2.1 s hs).2.1
  have hi' : i < bWc B s := hi
  by_cases e : s = t ∧ i = u
  · obtain ⟨rfl, rfl⟩ := e
    rw [wd_s, hI_eq]
  · rw [wd_n (by omega), hI_ne (Or.inr (by omega))]
    exact (d4 s hs).2.2 i hi
theorem bookM.other {b x : Nat} {v : Int32} {B : Bk} (D : bookM h b B) (hx : x < 200 * b ∨ 200 * b + 200 ≤ x) : bookM (sI h 353 x v) b B := by
  obtain ⟨o, d1, d2, d3, d4, d5⟩ := D
  have o1 := o.1
  refine ⟨o, by rw [hI_ne (Or.inl (by decide))]; exact d1, by rw [hI_ne (Or.inl (by decide))]; exact d2, by rw [hI_ne (Or.inl (by decide))]; exact d3, fun s hs => ⟨by rw [hI_ne (Or.inl (by decide))]; exact (d4 s hs).1, by rw [hI_ne (Or.inl (by decide))]; exact (d4 s hs).2.1, fun i hi => ?_⟩, fun k hk => ⟨by rw [hI_ne (Or.inl (by decide))]; exact (d5 k hk).1, fun i hi => by rw [hI_ne (Or.inl (by decide))]; exact (d5 k hk).2 i hi⟩⟩
  have hi10 := (o.2.2.2.1 s hs).2.1
  rw [hI_ne (Or.inr (by omega))]
  exact (d4 s hs).2.2 i hi
theorem sp_changeM {b s i k : Int32} (c : Lay L h) (D : booksM h bk) (K : ∀ h', BMh h h' (fChange bk b s i k).2 → Q (fChange bk b s i k).1 h') : AC w mX10_change 0 0 (rI Q) [.ref 347, .int b, .int s, .int i, .int k] h := by
  have bad : (isWr bk b s i && inR k (bNk (bk b.toNatClampNeg))) = false → Q (-100001) h := fun q => by
    have e : fChange bk b s i k = (-100001, bk) := by rw [fChange, q]; rfl
    rw [e] at K
    exact K h ⟨Chg.rfl' h, rfl, D⟩
  refine eX10_change (sX10_change_0 ⟨by rw [s_347 c], sp_isWordM c D ⟨fun c1 => ?_, fun c1 => ?_⟩⟩)
  · rw [b01_eq] at c1
    exact bad (by rw [c1]; rfl)
  · rw [b01_ne] at c1
    have c1' := c1
    have cb := isWr_b c1
    obtain ⟨j, t, u, hj, ht, hu, rfl, rfl, rfl⟩ := isWr_nI D.ok c1
    have Db := D.r hj
    have h20 := Db.1.1
    have h40 := Db.1.2.1
    have h10 := (Db.1.2.2.2.1 t ht).2.1
    refine ⟨by rw [s_347 c], sp_isKindM c D ⟨fun c2 => ?_, fun c2 => ?_⟩⟩
    · rw [b01_ne, cb, Bool.true_and, cl_nI (by omega)] at c2
      obtain ⟨q, hq, rfl⟩ := inR_nI c2 (by omega)
      have e : fChange bk (nI j) (nI t) (nI u) (nI q) = (nI (bWd (bk j) t u), setBk bk j (setWd (bk j) t u q)) := by rw [fChange, cl_nI (by omega), c1', c2, cl_nI (by omega), cl_nI (by omega), cl_nI (by omega)]; rfl
      rw [e] at K
      refine ⟨by rw [s_347 c], sp_kindOf c hj Db ht hu ?_⟩
      simp only [s_347 c, r_347_7 c, s_353 c, m_200, m_10, nI_add, cl_nI (show 200 * j + 10 * t + u < 2147483648 by omega)]
      refine ⟨trivial, by decide, trivial, vp_nI (by omega) (by decide), fun h4 e4 => ?_⟩
      subst e4
      refine K _ ⟨(Chg.rfl' h).sI rfl, rfl, ?_⟩
      rcases (show j = 0 ∨ j = 1 by omega) with rfl | rfl
      · exact ⟨bookM.word (by decide) Db ht hu hq, D.2.other (by omega)⟩
      · exact ⟨D.1.other (by omega), bookM.word (by decide) Db ht hu hq⟩
    · rw [b01_eq, cb, Bool.true_and] at c2
      exact bad (by rw [c2, Bool.and_false])
end CH
