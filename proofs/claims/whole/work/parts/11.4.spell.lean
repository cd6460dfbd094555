/-! ===== spell ===== -/
def rowCp (f g : Nat → Int32) (i n : Nat) : Nat → Int32 := fun j => if i ≤ j ∧ j < i + n then f (j - i) else g j
theorem rowCp_0 (f g : Nat → Int32) (i j : Nat) : rowCp f g i 0 j = g j := if_neg (by omega)
theorem rowCp_s (f g : Nat → Int32) (i n j : Nat) : rowCp f g i (n + 1) j = if j = i + n then f n else rowCp f g i n j := by
  unfold rowCp
  by_cases e : j = i + n
  · subst e
    rw [if_pos rfl, if_pos (by omega), show i + n - i = n by omega]
  · rw [if_neg e]
    by_cases q : i ≤ j ∧ j < i + n
    · rw [if_pos q, if_pos (by omega)]
    · rw [if_neg q, if_neg (by omega)]
/-- how many are copied -/
def cpN (n m : Nat) (i : Int32) : Nat := if 0 ≤ i.toInt ∧ i.toInt < m then (if m - i.toNatClampNeg < n then m - i.toNatClampNeg else n) else 0
def cdSp (dk : Nat → Dk) (s r : Nat) : Nat := if cdS (dk s) 1 ≠ 0 then cdS (dk s) 1 else cdS (dk r) 3
def dkSp (dk : Nat → Dk) (s r : Nat) (i : Int32) : Nat → Dk := setD dk r ((dk r).1, (dk r).2.1, rowCp (dk s).2.2.1 (dk r).2.2.1 i.toNatClampNeg (cpN (dk s).2.1 (dk r).2.1 i), (dk r).2.2.2)
def fSpell (dk : Nat → Dk) (cd s r i : Int32) : Int32 × (Nat → Dk) × Int32 :=
  if inR s 8 = true ∧ inR r 8 = true then (if cdSp dk s.toNatClampNeg r.toNatClampNeg = 0 then (if cpN (dk s.toNatClampNeg).2.1 (dk r.toNatClampNeg).2.1 i = (dk s.toNatClampNeg).2.1 then (nI (dk s.toNatClampNeg).2.1, dkSp dk s.toNatClampNeg r.toNatClampNeg i, 0) else (0, dkSp dk s.toNatClampNeg r.toNatClampNeg i, 3)) else (0, dk, nI (cdSp dk s.toNatClampNeg r.toNatClampNeg))) else (-100001, dk, cd)
section SPC
variable {w : Wd} {L : Nat} {h : Hp} {Q : Int32 → Hp → Prop} {dk : Nat → Dk} {cd : Int32}
theorem copy_loop {s r i m : Nat} (c : Lay L h) (hs8 : s < 8) (hr8 : r < 8) (hne : s ≠ r) (him : i + m ≤ 30) (hm : m ≤ 30) (K : ∀ h', Chg (fun id => id = 332 + 2 * r) h h' → hL h' = hL h → (∀ j, hI h' (332 + 2 * r) j = rowCp (hI h (332 + 2 * s)) (hI h (332 + 2 * r)) i m j) → Q (nI m) h') :
    ∀ (n k : Nat) (h' : Hp), k + n = m → Chg (fun id => id = 332 + 2 * r) h h' → hL h' = hL h → (∀ j, hI h' (332 + 2 * r) j = rowCp (hI h (332 + 2 * s)) (hI h (332 + 2 * r)) i k j) → AW w mX5_copyFrom 0 0 (rI Q) 0 0 31 [some (.ref (331 + 2 * r)), some (.ref (331 + 2 * s)), some (.int (nI i)), some (.int (nI m)), some (.int (nI k))] [] h' := by
  intro n
  induction n with
  | zero =>
    intro k h' hk hch hl hx
    refine sX5_copyFrom_31 ⟨fun _ => ?_, fun c1 => ?_⟩
    · have : k = m := by omega
      subst this
      exact K h' hch hl hx
    · rw [ti_le, nI_toInt (by omega), nI_toInt (by omega)] at c1
      omega
  | succ n ih =>
    intro k h' hk hch hl hx
    have c' : Lay L h' := hch.lay c (fun id q => by omega)
    refine sX5_copyFrom_31 ⟨fun c1 => ?_, fun c1 => ?_⟩
    · rw [ti_le, nI_toInt (by omega), nI_toInt (by omega)] at c1
      omega
    · have hv : hI h' (332 + 2 * s) k = hI h (332 + 2 * s) k := (hch.2.2.2 _ (by omega) k).1
      simp only [s_slot c' hs8, s_slot c' hr8, r_cells c' hs8, r_cells c' hr8, s_cells c' hs8, s_cells c' hr8, nI_add, nI_1, cl_nI (show k < 2147483648 by omega), cl_nI (show i + k < 2147483648 by omega), hv]
      refine ⟨trivial, by omega, trivial, by omega, trivial, vp_nI (by omega) (by decide), trivial, vp_nI (by omega) (by decide), fun h1 e1 => ?_⟩
      subst e1
      refine ih (k + 1) _ (by omega) (hch.sI rfl) hl (fun j => ?_)
      rw [rowCp_s]
      by_cases e : j = i + k
      · subst e
        rw [if_pos rfl]
        exact hI_eq
      · rw [if_neg e, hI_ne (Or.inr e)]
        exact hx j
theorem sp_copyFrom {s r n m : Nat} {i : Int32} (c : Lay L h) (hs8 : s < 8) (hr8 : r < 8) (hne : s ≠ r) (hn : hI h (331 + 2 * s) 1 = nI n) (hm : hI h (331 + 2 * r) 1 = nI m) (hn30 : n ≤ 30) (hm30 : m ≤ 30) (K : ∀ h', Chg (fun id => id = 332 + 2 * r) h h' → hL h' = hL h → (∀ j, hI h' (332 + 2 * r) j = rowCp (hI h (332 + 2 * s)) (hI h (332 + 2 * r)) i.toNatClampNeg (cpN n m i) j) → Q (nI (cpN n m i)) h') : AC w mX5_copyFrom 0 0 (rI Q) [.ref (331 + 2 * r), .ref (331 + 2 * s), .int i] h := by
  have hz : cpN n m i = 0 → Q 0 h := fun q => by
    rw [q] at K
    exact K h (Chg.rfl' h) rfl (fun j => (rowCp_0 _ _ _ _).symm)
  refine eX5_copyFrom (sX5_copyFrom_0 ⟨fun c1 => ?_, fun c1 => ?_⟩)
  · rw [ti_lt, t_0] at c1
    exact hz (by rw [cpN, if_neg (by omega)])
  · rw [ti_lt, t_0] at c1
    rw [hm, hn]
    refine ⟨by rw [s_slot c hr8], fun c2 => ⟨by rw [s_slot c hs8], ?_⟩, fun c2 => ?_⟩
    · rw [ti_lt, nI_toInt (by omega)] at c2
      obtain ⟨q, hq, rfl⟩ := ti_nI (n := m) (by omega) c2 (by omega)
      have hq31 : q < 2147483648 := by omega
      rw [cl_nI hq31] at K
      have hcp : cpN n m (nI q) = if m - q < n then m - q else n := by rw [cpN, if_pos (by rw [nI_toInt hq31]; omega), cl_nI hq31]
      have hle : cpN n m (nI q) ≤ m - q ∧ cpN n m (nI q) ≤ n := by rw [hcp]; split <;> omega
      have e : (if nI m - nI q < nI n then nI m - nI q else nI n) = nI (cpN n m (nI q)) := by
        rw [hcp, pk_sub (by omega)]
        by_cases z : m - q < n
        · rw [if_pos z, if_pos (by rw [ti_lt, nI_toInt (by omega), nI_toInt (by omega)]; omega)]
        · rw [if_neg z, if_neg (by rw [ti_lt, nI_toInt (by omega), nI_toInt (by omega)]; omega)]
      rw [e]
      exact copy_loop c hs8 hr8 hne (by omega) (by omega) K (cpN n m (nI q)) 0 h (Nat.zero_add _) (Chg.rfl' h) rfl (fun j => (rowCp_0 _ _ _ _).symm)
    · rw [ti_lt, nI_toInt (by omega)] at c2
      exact hz (by rw [cpN, if_neg (by omega)])
theorem cdSp_0 {dk : Nat → Dk} {s r : Nat} (h : cdSp dk s r = 0) : (dk s).1 = 1 ∧ (dk r).1 = 3 := by
  unfold cdSp at h
  split at h
  · rename_i q; exact absurd h q
  · rename_i q
    exact ⟨cdS_0 (Decidable.not_not.mp q), cdS_0 h⟩
theorem spell_40 {s r x : Nat} {i : Int32} (c : Lay L h) (D : deskC h dk) (hc : hI h 5 10 = cd) (hs8 : s < 8) (hr8 : r < 8) (hx : x = cdSp dk s r) (K : ∀ h', DC h h' (if x = 0 then dkSp dk s r i else dk) (if x = 0 then (if cpN (dk s).2.1 (dk r).2.1 i = (dk s).2.1 then 0 else 3) else nI x) → Q (if x = 0 then (if cpN (dk s).2.1 (dk r).2.1 i = (dk s).2.1 then nI (dk s).2.1 else 0) else 0) h') : AW w mX9_spell 0 0 (rI Q) 0 0 40 [some (.ref 5), some (.int (nI s)), some (.int (nI r)), some (.int i), some (.int (nI x)), none] [] h := by
  have hx4 : x < 4 := by
    rw [hx, cdSp]
    split
    · exact cdS_lt _ _
    · exact cdS_lt _ _
  refine sX9_spell_40 ⟨fun c1 => ?_, fun c1 => ?_⟩
  · rw [nI_0' (by omega)] at c1
    rw [c1] at hx
    obtain ⟨hs1, hr3⟩ := cdSp_0 hx.symm
    obtain ⟨os, s1, s2, -⟩ := D s hs8
    obtain ⟨orr, r1, r2, -⟩ := D r hr8
    have os2 := os.2
    have or2 := orr.2
    have s3 := s2 (Or.inl hs1)
    have r3 := r2 (Or.inr hr3)
    have hne : s ≠ r := fun q => by rw [q] at hs1; omega
    simp only [if_pos c1] at K
    simp only [s_5 c, r_5_9 c, s_330 c, cl_nI (show s < 2147483648 by omega), cl_nI (show r < 2147483648 by omega), r_desk c hs8, r_desk c hr8, s_slot c hr8]
    refine ⟨trivial, by decide, trivial, vp_nI hr8 (by decide), by omega, vp_nI hs8 (by decide), by omega, trivial, ?_⟩
    refine sp_copyFrom c hs8 hr8 hne s3.1 r3.1 os2 or2 (fun h' hch hl hv => ?_)
    have c' : Lay L h' := hch.lay c (fun id q => by omega)
    have hsz : hI h' (331 + 2 * s) 1 = nI (dk s).2.1 := by rw [(hch.2.2.2 _ (by omega) 1).1]; exact s3.1
    have DD : DC h h' (dkSp dk s r i) cd := by
      refine ⟨hch.mono (fun id q => Or.inr (by omega)), fun k _ => (hch.2.2.2 5 (by omega) k).1, D.upd (fun t ht hne i => ⟨(hch.2.2.2 _ (by omega) i).1, (hch.2.2.2 _ (by omega) i).1⟩) ⟨orr, by rw [(hch.2.2.2 _ (by omega) 0).1]; exact r1, fun _ => ⟨by rw [(hch.2.2.2 _ (by omega) 1).1]; exact r3.1, fun j hj => ?_⟩, fun q => ?_⟩, by rw [(hch.2.2.2 5 (by omega) 10).1]; exact hc⟩
      · rw [hv j]
        show rowCp _ _ _ _ j = rowCp _ _ _ _ j
        unfold rowCp
        by_cases z : i.toNatClampNeg ≤ j ∧ j < i.toNatClampNeg + cpN (dk s).2.1 (dk r).2.1 i
        · rw [if_pos z, if_pos z]
          have hcn : cpN (dk s).2.1 (dk r).2.1 i ≤ (dk s).2.1 := by
            unfold cpN
            split
            · split <;> omega
            · omega
          exact s3.2 _ (by omega)
        · rw [if_neg z, if_neg z]
          exact r3.2 j hj
      · have : (dk r).1 = 2 := q
        omega
    have hcp : cpN (dk s).2.1 (dk r).2.1 i < 2147483648 := by
      unfold cpN
      split
      · split <;> omega
      · omega
    simp only [s_5 c', r_5_9 c', s_330 c', cl_nI (show s < 2147483648 by omega), r_desk c' hs8, s_slot c' hs8, hsz]
    refine ⟨trivial, by decide, trivial, vp_nI hs8 (by decide), by omega, trivial, fun c2 => ?_, fun c2 => ?_⟩
    · rw [nI_inj hcp (by omega)] at c2
      simp only [if_neg c2] at K
      exact sp_meet c' (K _ DD.code)
    · rw [nI_inj hcp (by omega)] at c2
      simp only [if_pos c2] at K
      exact sp_fine c' (Qto (K _ DD.code) (by rw [c2]))
  · rw [nI_0' (by omega)] at c1
    simp only [if_neg c1] at K
    exact ⟨by rw [s_5 c], sp_meet c (K _ (DC.refl D hc).code)⟩
theorem sp_spell {s r i : Int32} (c : Lay L h) (D : deskC h dk) (hc : hI h 5 10 = cd) (K : ∀ h', DC h h' (fSpell dk cd s r i).2.1 (fSpell dk cd s r i).2.2 → Q (fSpell dk cd s r i).1 h') : AC w mX9_spell 0 0 (rI Q) [.ref 5, .int s, .int r, .int i] h := by
  refine eX9_spell (sX9_spell_0 ⟨by rw [s_5 c], sp_isSlot ⟨fun c1 => ?_, fun c1 => ⟨by rw [s_5 c], sp_isSlot ⟨fun c2 => ?_, fun c2 => ?_⟩⟩⟩⟩)
  · rw [b01_eq] at c1
    have e : fSpell dk cd s r i = (-100001, dk, cd) := by rw [fSpell, if_neg (by rw [c1]; simp)]
    rw [e] at K
    exact K h (DC.refl D hc)
  · rw [b01_ne] at c1 c2
    obtain ⟨j, hj, rfl⟩ := inR_nI c1 (by decide)
    obtain ⟨q, hq, rfl⟩ := inR_nI c2 (by decide)
    have e : fSpell dk cd (nI j) (nI q) i = (if cdSp dk j q = 0 then (if cpN (dk j).2.1 (dk q).2.1 i = (dk j).2.1 then (nI (dk j).2.1, dkSp dk j q i, 0) else (0, dkSp dk j q i, 3)) else (0, dk, nI (cdSp dk j q))) := by rw [fSpell, if_pos ⟨c1, c2⟩, cl_nI (by omega), cl_nI (by omega)]
    rw [e] at K
    have KK : ∀ h', DC h h' (if cdSp dk j q = 0 then dkSp dk j q i else dk) (if cdSp dk j q = 0 then (if cpN (dk j).2.1 (dk q).2.1 i = (dk j).2.1 then 0 else 3) else nI (cdSp dk j q)) → Q (if cdSp dk j q = 0 then (if cpN (dk j).2.1 (dk q).2.1 i = (dk j).2.1 then nI (dk j).2.1 else 0) else 0) h' := by
      by_cases z : cdSp dk j q = 0
      · simp only [if_pos z] at K ⊢
        by_cases y : cpN (dk j).2.1 (dk q).2.1 i = (dk j).2.1
        · simp only [if_pos y] at K ⊢; exact K
        · simp only [if_neg y] at K ⊢; exact K
      · simp only [if_neg z] at K ⊢; exact K
    refine ⟨by rw [s_5 c], sp_sortCode (want := 1) c D hj (by decide) ⟨fun c3 => ?_, fun c3 => ⟨by rw [s_5 c], sp_sortCode (want := 3) c D hq (by decide) ?_⟩⟩⟩
    · rw [nI_0' (Nat.lt_of_lt_of_le (cdS_lt _ _) (by decide))] at c3
      have hx : cdS (dk j) 1 = cdSp dk j q := by rw [cdSp, if_pos c3]
      rw [hx]
      exact spell_40 c D hc hj hq rfl KK
    · rw [nI_0' (Nat.lt_of_lt_of_le (cdS_lt _ _) (by decide))] at c3
      have hx : cdS (dk q) 3 = cdSp dk j q := by rw [cdSp, if_neg (by omega)]
      rw [hx]
      exact spell_40 c D hc hj hq rfl KK
  · rw [b01_eq] at c2
    have e : fSpell dk cd s r i = (-100001, dk, cd) := by rw [fSpell, if_neg (by rw [c2]; simp)]
    rw [e] at K
    exact K h (DC.refl D hc)
end SPC
