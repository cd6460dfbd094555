/-! ===== spell, the reference ===== -/
section SPM
variable {w : Wd} {L : Nat} {h : Hp} {Q : Int32 → Hp → Prop} {dk : Nat → Dk} {cd : Int32}
theorem l_add {x : Int32} {k : Nat} (hk : k < 2147483648) : (x.toInt64 + (nI k).toInt64).toInt = x.toInt + k := by
  have h1 := ti_hi x
  have h2 := ti_lo x
  rw [Int64.toInt_add, Int32.toInt_toInt64, Int32.toInt_toInt64, nI_toInt hk]
  exact Int.bmod_eq_of_le (by omega) (by omega)
/-- the reference's loop: k are copied, h' is the memory now -/
theorem spellM_88 {s r n m : Nat} {i : Int32} (c : Lay L h) (hs8 : s < 8) (hr8 : r < 8) (hne : s ≠ r) (hn30 : n ≤ 30) (hm30 : m ≤ 30) (hn : hI h 383 s = nI n) (hm : hI h 383 r = nI m)
    (K : ∀ h', Chg (fun id => id = 384 ∨ id = 347) h h' → (∀ k, k ≠ 19 → hI h' 347 k = hI h 347 k) → hL h' = hL h → (∀ j, j < 30 → hI h' 384 (30 * r + j) = rowCp (fun j => hI h 384 (30 * s + j)) (fun j => hI h 384 (30 * r + j)) i.toNatClampNeg (cpN n m i) j) → (∀ j, (j < 30 * r ∨ 30 * r + 30 ≤ j) → hI h' 384 j = hI h 384 j) → hI h' 347 19 = (if cpN n m i = n then hI h 347 19 else 3) → Q (if cpN n m i = n then nI n else 0) h') :
    ∀ (d k : Nat) (h' : Hp), k + d = n → k ≤ cpN n m i → Chg (fun id => id = 384) h h' → hL h' = hL h → (∀ j, j < 30 → hI h' 384 (30 * r + j) = rowCp (fun j => hI h 384 (30 * s + j)) (fun j => hI h 384 (30 * r + j)) i.toNatClampNeg k j) → (∀ j, (j < 30 * r ∨ 30 * r + 30 ≤ j) → hI h' 384 j = hI h 384 j) → AW w mX10_spell 0 0 (rI Q) 0 0 88 [some (.ref 347), some (.int (nI s)), some (.int (nI r)), some (.int i), some (.int (nI k))] [] h' := by
  have hcn : cpN n m i ≤ n := by
    unfold cpN
    split
    · split <;> omega
    · omega
  intro d
  induction d with
  | zero =>
    intro k h' hk hkc hch hl hx ho
    have c' : Lay L h' := hch.lay c (fun id q => by omega)
    have hkn : k = n := by omega
    subst hkn
    have hcp : cpN k m i = k := by omega
    rw [hcp] at K
    simp only [if_pos trivial] at K
    have hsz : hI h' 383 s = nI k := by rw [(hch.2.2.2 383 (by omega) s).1]; exact hn
    refine sX10_spell_88 ?_
    simp only [s_347 c', r_347_55 c', s_383 c', cl_nI (show s < 2147483648 by omega), hsz]
    refine ⟨trivial, by decide, trivial, vp_nI hs8 (by decide), fun _ => ?_, fun c1 => ?_⟩
    · exact K h' (hch.mono (fun id q => Or.inl q)) (fun k _ => (hch.2.2.2 347 (by omega) k).1) hl hx ho ((hch.2.2.2 347 (by omega) 19).1)
    · rw [ti_le] at c1; omega
  | succ d ih =>
    intro k h' hk hkc hch hl hx ho
    have c' : Lay L h' := hch.lay c (fun id q => by omega)
    have hsz : hI h' 383 s = nI n := by rw [(hch.2.2.2 383 (by omega) s).1]; exact hn
    have hsr : hI h' 383 r = nI m := by rw [(hch.2.2.2 383 (by omega) r).1]; exact hm
    refine sX10_spell_88 ?_
    simp only [s_347 c', r_347_55 c', s_383 c', cl_nI (show s < 2147483648 by omega), cl_nI (show r < 2147483648 by omega), hsz, hsr]
    refine ⟨trivial, by decide, trivial, vp_nI hs8 (by decide), fun c1 => ?_, fun c1 => ⟨vp_nI hr8 (by decide), sp_in ?_⟩⟩
    · rw [ti_le, nI_toInt (by omega), nI_toInt (by omega)] at c1
      omega
    · rw [l_add (show k < 2147483648 by omega), toI64_sub1 (show m < 2147483648 by omega)]
      have h0 : (0 : Int64).toInt = 0 := by decide
      rw [h0]
      have out : ¬ k < cpN n m i → Q 0 (sI h' 347 19 3) := fun q => by
        have hk2 : k = cpN n m i := by omega
        have hne2 : ¬ cpN n m i = n := by omega
        simp only [if_neg hne2] at K
        rw [← hk2] at K
        exact K _ ((hch.mono (fun id q => Or.inl q)).sI (Or.inr rfl)) (fun k hk => by rw [hI_ne (Or.inr hk)]; exact (hch.2.2.2 347 (by omega) k).1) hl (fun j hj => by rw [hI_ne (Or.inl (by omega))]; exact hx j hj) (fun j hj => by rw [hI_ne (Or.inl (by omega))]; exact ho j hj) hI_eq
      refine ⟨fun c2 => ⟨by rw [s_347 c'], fun h2 e2 => ?_⟩, fun c2 => ⟨fun c3 => ?_, fun c3 => ⟨by rw [s_347 c'], fun h4 e4 => ?_⟩⟩⟩
      · subst e2
        rw [b01_eq] at c2
        have c2 := of_decide_eq_false c2
        refine out (fun q => c2 ?_)
        unfold cpN at q
        split at q
        · rename_i z
          have zz : (i.toNatClampNeg : Int) = i.toInt := by
            obtain ⟨a, ha, rfl⟩ := ti_nI (n := m) z.1 z.2 (by omega)
            rw [cl_nI (by omega), nI_toInt (by omega)]
          split at q <;> omega
        · omega
      · rw [b01_ne] at c2
        have c2 := of_decide_eq_true c2
        rw [ti_le, t_0] at c3
        obtain ⟨a, ha, rfl⟩ := ti_nI (n := m) c3 (by omega) (by omega)
        have ha31 : a < 2147483648 := by omega
        rw [nI_toInt ha31] at c2
        have hkc2 : k + 1 ≤ cpN n m (nI a) := by
          rw [cpN, if_pos (by rw [nI_toInt ha31]; omega), cl_nI ha31]
          split <;> omega
        have hv : hI h' 384 (30 * s + k) = hI h 384 (30 * s + k) := ho _ (by omega)
        simp only [s_347 c', r_347_56 c', s_384 c', e30, nI_add, nI_1, cl_nI (show 30 * s + k < 2147483648 by omega), cl_nI (show 30 * r + a + k < 2147483648 by omega), hv]
        refine ⟨trivial, by decide, trivial, vp_nI (by omega) (by decide), vp_nI (by omega) (by decide), fun h3 e3 => ?_⟩
        subst e3
        rw [cl_nI ha31] at hx
        refine ih (k + 1) _ (by omega) hkc2 (hch.sI rfl) hl (fun j hj => ?_) (fun j hj => ?_)
        · rw [cl_nI ha31, rowCp_s]
          by_cases e : j = a + k
          · subst e
            rw [if_pos rfl, show 30 * r + (a + k) = 30 * r + a + k by omega]
            exact hI_eq
          · rw [if_neg e, hI_ne (Or.inr (by omega))]
            exact hx j hj
        · rw [hI_ne (Or.inr (by omega))]
          exact ho j hj
      · subst e4
        rw [ti_le, t_0] at c3
        refine out (fun q => ?_)
        unfold cpN at q
        rw [if_neg (by omega)] at q
        omega
theorem sp_spellM {s r i : Int32} (c : Lay L h) (D : deskM h dk) (hc : hI h 347 19 = cd) (K : ∀ h', DM h h' (fSpell dk cd s r i).2.1 (fSpell dk cd s r i).2.2 → Q (fSpell dk cd s r i).1 h') : AC w mX10_spell 0 0 (rI Q) [.ref 347, .int s, .int r, .int i] h := by
  refine eX10_spell (sX10_spell_0 (sp_isSlotM ⟨fun c1 => ?_, fun c1 => sp_isSlotM ⟨fun c2 => ?_, fun c2 => ?_⟩⟩))
  · rw [b01_eq] at c1
    have e : fSpell dk cd s r i = (-100001, dk, cd) := by rw [fSpell, if_neg (by rw [c1]; simp)]
    rw [e] at K
    exact K h (DM.refl D hc)
  · rw [b01_ne] at c1 c2
    obtain ⟨j, hj, rfl⟩ := inR_nI c1 (by decide)
    obtain ⟨q, hq, rfl⟩ := inR_nI c2 (by decide)
    have e : fSpell dk cd (nI j) (nI q) i = (if cdSp dk j q = 0 then (if cpN (dk j).2.1 (dk q).2.1 i = (dk j).2.1 then (nI (dk j).2.1, dkSp dk j q i, 0) else (0, dkSp dk j q i, 3)) else (0, dk, nI (cdSp dk j q))) := by rw [fSpell, if_pos ⟨c1, c2⟩, cl_nI (by omega), cl_nI (by omega)]
    rw [e] at K
    obtain ⟨os, s1, s2, -⟩ := D j hj
    obtain ⟨orr, r1, r2, -⟩ := D q hq
    have o1 : (dk j).1 < 2147483648 := Nat.lt_of_le_of_lt os.1 (by decide)
    have o2 : (dk q).1 < 2147483648 := Nat.lt_of_le_of_lt orr.1 (by decide)
    have bad : ∀ x : Nat, x < 4 → x ≠ 0 → x = cdSp dk j q → Q 0 (sI h 347 19 (nI x)) := fun x hx hx0 hxx => by
      rw [if_neg (by omega)] at K
      rw [hxx]
      exact K _ (DM.refl D hc).code
    simp only [s_347 c, r_347_54 c, s_382 c, cl_nI (show j < 2147483648 by omega), cl_nI (show q < 2147483648 by omega), s1, r1]
    have e1 : (1 : Int32) = nI 1 := rfl
    have e2 : (2 : Int32) = nI 2 := rfl
    have e3 : (3 : Int32) = nI 3 := rfl
    refine ⟨trivial, by decide, trivial, vp_nI hj (by decide), fun c3 => ⟨fun c4 => ⟨vp_nI hq (by decide), fun c5 => ⟨fun c6 h3 eh => ?_, fun c6 h4 eh => ?_⟩, fun c5 h5 eh => ?_⟩, fun c4 h6 eh => ?_⟩, fun c3 h7 eh => ?_⟩
    · subst eh
      rw [e1, nI_inj o1 (by decide)] at c4
      rw [e3, nI_inj o2 (by decide)] at c6
      have hz : cdSp dk j q = 0 := by simp [cdSp, cdS, c4, c6]
      rw [if_pos hz] at K
      rw [hI_eq]
      refine ⟨fun _ => ?_, fun z => absurd (by decide) z⟩
      have os2 := os.2
      have or2 := orr.2
      have c' : Lay L (sI h 347 19 0) := c.sI (by omega)
      have DD : DM h (sI h 347 19 0) dk 0 := (DM.refl D hc).code
      obtain ⟨-, -, s2', -⟩ := DD.2.2.2.1 j hj
      obtain ⟨-, r1', r2', -⟩ := DD.2.2.2.1 q hq
      have s3 := s2' (Or.inl c4)
      have r3 := r2' (Or.inr c6)
      have hne : j ≠ q := fun z => by rw [z] at c4; omega
      refine spellM_88 c' hj hq hne os2 or2 s3.1 r3.1 (fun h' hch h19 hl hv ho hcd => ?_) _ 0 _ (Nat.zero_add _) (Nat.zero_le _) (Chg.rfl' _) rfl (fun x hx => by rw [rowCp_0]) (fun _ _ => rfl)
      have hcn : cpN (dk j).2.1 (dk q).2.1 i ≤ (dk j).2.1 := by
        unfold cpN
        split
        · split <;> omega
        · omega
      have DE : DM h h' (dkSp dk j q i) (if cpN (dk j).2.1 (dk q).2.1 i = (dk j).2.1 then 0 else 3) := by
        refine ⟨DD.1.trans (hch.mono (fun id z => z.elim (fun z => Or.inr (by omega)) (fun z => Or.inl z))), fun k hk => (h19 k hk).trans (DD.2.1 k hk), hl, D.upd (fun t ht hne => ⟨?_, ?_, fun x hx => ?_⟩) ⟨orr, ?_, fun _ => ⟨?_, fun x hx => ?_⟩, fun z => ?_⟩, ?_⟩
        · rw [(hch.2.2.2 382 (by omega) t).1, hI_ne (Or.inl (by omega))]
        · rw [(hch.2.2.2 383 (by omega) t).1, hI_ne (Or.inl (by omega))]
        · rw [ho _ (by omega), hI_ne (Or.inl (by omega))]
        · rw [(hch.2.2.2 382 (by omega) q).1]; exact r1'
        · rw [(hch.2.2.2 383 (by omega) q).1]; exact r3.1
        · have hx30 : x < 30 := by have : x < (dk q).2.1 := hx; omega
          rw [hv x hx30]
          show rowCp _ _ _ _ x = rowCp _ _ _ _ x
          unfold rowCp
          by_cases z : i.toNatClampNeg ≤ x ∧ x < i.toNatClampNeg + cpN (dk j).2.1 (dk q).2.1 i
          · rw [if_pos z, if_pos z]
            exact s3.2 _ (by omega)
          · rw [if_neg z, if_neg z]
            exact r3.2 x hx
        · have : (dk q).1 = 2 := z
          omega
        · rw [hcd, hI_eq]
      by_cases y : cpN (dk j).2.1 (dk q).2.1 i = (dk j).2.1
      · simp only [if_pos y] at K DE ⊢; exact K _ DE
      · simp only [if_neg y] at K DE ⊢; exact K _ DE
    · subst eh
      rw [e1, nI_inj o1 (by decide)] at c4
      rw [e3, nI_inj o2 (by decide)] at c6
      rw [nI_0' o2] at c5
      rw [hI_eq]
      exact ⟨fun z => absurd z (by decide), fun _ => bad 2 (by decide) (by decide) (by simp [cdSp, cdS, c4, c5, c6])⟩
    · subst eh
      rw [e1, nI_inj o1 (by decide)] at c4
      rw [nI_0' o2] at c5
      rw [hI_eq]
      exact ⟨fun z => absurd z (by decide), fun _ => bad 1 (by decide) (by decide) (by simp [cdSp, cdS, c4, c5])⟩
    · subst eh
      rw [e1, nI_inj o1 (by decide)] at c4
      rw [nI_0' o1] at c3
      rw [hI_eq]
      exact ⟨fun z => absurd z (by decide), fun _ => bad 2 (by decide) (by decide) (by simp [cdSp, cdS, c3, c4])⟩
    · subst eh
      rw [nI_0' o1] at c3
      rw [hI_eq]
      exact ⟨fun z => absurd z (by decide), fun _ => bad 1 (by decide) (by decide) (by simp [cdSp, cdS, c3])⟩
  · rw [b01_eq] at c2
    have e : fSpell dk cd s r i = (-100001, dk, cd) := by rw [fSpell, if_neg (by rw [c2]; simp)]
    rw [e] at K
    exact K h (DM.refl D hc)
end SPM
