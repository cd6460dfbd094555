/-! ===== small methods of the class ===== -/
theorem Qto {Q : Int32 → Hp → Prop} {h : Hp} {a b : Int32} (K : Q a h) (e : a = b) : Q b h := e ▸ K
theorem b1 {p : Bool} (h : p = true) : b01 p = 1 := by rw [h]; rfl
theorem b0 {p : Bool} (h : p = false) : b01 p = 0 := by rw [h]; rfl
def inR (x : Int32) (n : Nat) : Bool := decide (0 ≤ x.toInt ∧ x.toInt < n)
theorem inR_nI {x : Int32} {n : Nat} (h : inR x n = true) (hn : n ≤ 2147483648) : ∃ j : Nat, j < n ∧ x = nI j := by
  have := of_decide_eq_true h
  exact ti_nI this.1 this.2 hn
theorem inR_t {x : Int32} {n : Nat} (h0 : 0 ≤ x.toInt) (h1 : x.toInt < n) : inR x n = true := decide_eq_true ⟨h0, h1⟩
theorem inR_f {x : Int32} {n : Nat} (h0 : ¬ (0 ≤ x.toInt ∧ x.toInt < n)) : inR x n = false := decide_eq_false h0
theorem inR_lt {j n : Nat} (h : j < n) (hj : j < 2147483648) : inR (nI j) n = true := inR_t (by rw [nI_toInt hj]; omega) (by rw [nI_toInt hj]; omega)
section SM
variable {w : Wd} {L : Nat} {h : Hp} {Q : Int32 → Hp → Prop}
theorem sp_isBook {x : Int32} {a : Nat} (K : Q (b01 (inR x 2)) h) : AC w mX9_isBook 0 0 (rI Q) [.ref a, .int x] h := by
  refine eX9_isBook (sX9_isBook_0 ⟨fun c1 => ?_, fun c1 => ⟨fun c2 => ?_, fun c2 => ?_⟩⟩)
  · subst c1; exact K
  · rw [ti_eq, t_0] at c1; rw [ti_eq, t_1] at c2
    exact Qto K (b0 (inR_f (by omega)))
  · subst c2; exact K
theorem sp_isSlot {x : Int32} {a : Nat} (K : Q (b01 (inR x 8)) h) : AC w mX9_isSlot 0 0 (rI Q) [.ref a, .int x] h := by
  refine eX9_isSlot (sX9_isSlot_0 ⟨fun c1 => ?_, fun c1 => ⟨fun c2 => ?_, fun c2 => ?_⟩⟩)
  · rw [ti_lt, t_0] at c1
    exact Qto K (b0 (inR_f (by omega)))
  · rw [ti_lt, t_0] at c1; rw [ti_le, t_8] at c2
    exact Qto K (b0 (inR_f (by omega)))
  · rw [ti_lt, t_0] at c1; rw [ti_le, t_8] at c2
    exact Qto K (b1 (inR_t (by omega) (by omega)))
theorem sp_meet {x : Int32} (c : Lay L h) (K : Q 0 (sI h 5 10 x)) : AC w mX9_meet 0 0 (rI Q) [.ref 5, .int x] h :=
  eX9_meet (sX9_meet_0 ⟨by rw [s_5 c], fun _ e => e ▸ K⟩)
theorem sp_fine {x : Int32} (c : Lay L h) (K : Q x (sI h 5 10 0)) : AC w mX9_fine 0 0 (rI Q) [.ref 5, .int x] h :=
  eX9_fine (sX9_fine_0 ⟨by rw [s_5 c], fun _ e => e ▸ K⟩)
end SM
/-! ===== the desk: for each slot its sort, its size, its row, a joint's price and left words ===== -/
abbrev Dk : Type := Nat × Nat × (Nat → Int32) × Int32 × Int32
def okD (d : Dk) : Prop := d.1 ≤ 3 ∧ d.2.1 ≤ 30
def deskC (h : Hp) (dk : Nat → Dk) : Prop := ∀ s, s < 8 → okD (dk s) ∧ hI h (331 + 2 * s) 0 = nI (dk s).1 ∧ ((dk s).1 = 1 ∨ (dk s).1 = 3 → hI h (331 + 2 * s) 1 = nI (dk s).2.1 ∧ ∀ i, i < (dk s).2.1 → hI h (332 + 2 * s) i = (dk s).2.2.1 i) ∧ ((dk s).1 = 2 → hI h (331 + 2 * s) 3 = (dk s).2.2.2.1 ∧ hI h (331 + 2 * s) 4 = (dk s).2.2.2.2)
def deskM (h : Hp) (dk : Nat → Dk) : Prop := ∀ s, s < 8 → okD (dk s) ∧ hI h 382 s = nI (dk s).1 ∧ ((dk s).1 = 1 ∨ (dk s).1 = 3 → hI h 383 s = nI (dk s).2.1 ∧ ∀ i, i < (dk s).2.1 → hI h 384 (30 * s + i) = (dk s).2.2.1 i) ∧ ((dk s).1 = 2 → hI h 384 (30 * s) = (dk s).2.2.2.1 ∧ hI h 384 (30 * s + 1) = (dk s).2.2.2.2)
def dkId (id : Nat) : Prop := id = 5 ∨ (331 ≤ id ∧ id ≤ 346)
/-- behind a call of the class that touches the desk and the code alone -/
def DC (h h' : Hp) (dk : Nat → Dk) (cd : Int32) : Prop := Chg dkId h h' ∧ (∀ k, k ≠ 10 → hI h' 5 k = hI h 5 k) ∧ deskC h' dk ∧ hI h' 5 10 = cd
def dmId (id : Nat) : Prop := id = 347 ∨ (382 ≤ id ∧ id ≤ 384)
def DM (h h' : Hp) (dk : Nat → Dk) (cd : Int32) : Prop := Chg dmId h h' ∧ (∀ k, k ≠ 19 → hI h' 347 k = hI h 347 k) ∧ hL h' = hL h ∧ deskM h' dk ∧ hI h' 347 19 = cd
def cdS (d : Dk) (want : Nat) : Nat := if d.1 = 0 then 1 else if d.1 = want then 0 else 2
def cdP (d : Dk) (i : Int32) : Nat := if cdS d 3 ≠ 0 then cdS d 3 else if inR i d.2.1 = true then 0 else 3
theorem cdS_lt (d : Dk) (want : Nat) : cdS d want < 4 := by unfold cdS; split <;> (try split) <;> omega
theorem cdP_lt (d : Dk) (i : Int32) : cdP d i < 4 := by
  unfold cdP
  split
  · exact cdS_lt d 3
  · split <;> omega
theorem nI_inj {a b : Nat} (ha : a < 2147483648) (hb : b < 2147483648) : nI a = nI b ↔ a = b := nI_eq ha hb
section DK
variable {w : Wd} {L : Nat} {h : Hp} {Q : Int32 → Hp → Prop} {dk : Nat → Dk}
theorem sp_sortCode {s want : Nat} (c : Lay L h) (D : deskC h dk) (hs8 : s < 8) (hw : want < 2147483648) (K : Q (nI (cdS (dk s) want)) h) : AC w mX9_sortCode 0 0 (rI Q) [.ref 5, .int (nI s), .int (nI want)] h := by
  obtain ⟨o, d1, -⟩ := D s hs8
  have o1 : (dk s).1 < 2147483648 := Nat.lt_of_le_of_lt o.1 (by decide)
  refine eX9_sortCode (sX9_sortCode_0 ?_)
  simp only [s_5 c, r_5_9 c, s_330 c, cl_nI (show s < 2147483648 by omega), r_desk c hs8, s_slot c hs8, d1]
  refine ⟨trivial, by decide, trivial, vp_nI hs8 (by decide), by omega, trivial, fun c1 => ⟨fun c2 => ?_, fun c2 => ?_⟩, fun c1 => ?_⟩
  · refine Qto K ?_
    rw [show (0 : Int32) = nI 0 from rfl, nI_inj o1 (by decide)] at c1
    rw [nI_inj o1 hw] at c2
    rw [cdS, if_neg c1, if_neg c2]; rfl
  · refine Qto K ?_
    rw [show (0 : Int32) = nI 0 from rfl, nI_inj o1 (by decide)] at c1
    rw [nI_inj o1 hw] at c2
    rw [cdS, if_neg c1, if_pos c2]; rfl
  · refine Qto K ?_
    rw [show (0 : Int32) = nI 0 from rfl, nI_inj o1 (by decide)] at c1
    rw [cdS, if_pos c1]; rfl
theorem sp_placeCode {s : Nat} {i : Int32} (c : Lay L h) (D : deskC h dk) (hs8 : s < 8) (K : Q (nI (cdP (dk s) i)) h) : AC w mX9_placeCode 0 0 (rI Q) [.ref 5, .int (nI s), .int i] h := by
  obtain ⟨o, d1, d2, -⟩ := D s hs8
  refine eX9_placeCode (sX9_placeCode_0 ⟨by rw [s_5 c], ?_⟩)
  refine sp_sortCode (want := 3) c D hs8 (by decide) ?_
  simp only [s_5 c, r_5_9 c, s_330 c, cl_nI (show s < 2147483648 by omega), r_desk c hs8, s_slot c hs8]
  have e0 : (0 : Int32) = nI 0 := rfl
  refine ⟨fun c1 => ?_, fun c1 => ?_⟩
  · rw [e0, nI_inj (Nat.lt_of_lt_of_le (cdS_lt _ _) (by decide)) (by decide)] at c1
    have h3 : (dk s).1 = 3 := by
      unfold cdS at c1
      split at c1
      · omega
      · split at c1
        · assumption
        · omega
    obtain ⟨d3, -⟩ := d2 (Or.inr h3)
    rw [d3]
    refine ⟨fun c2 => ?_, fun c2 => ⟨trivial, by decide, trivial, vp_nI hs8 (by decide), by omega, trivial, fun c3 => ?_, fun c3 => ?_⟩⟩
    · refine Qto K ?_
      rw [ti_lt, t_0] at c2
      rw [cdP, if_neg (by rw [c1]; decide), inR_f (by omega)]; rfl
    · refine Qto K ?_
      rw [ti_le, nI_toInt (by have := o.2; omega)] at c3
      rw [cdP, if_neg (by rw [c1]; decide), inR_f (by omega)]; rfl
    · refine Qto K ?_
      rw [ti_lt, t_0] at c2
      rw [ti_le, nI_toInt (by have := o.2; omega)] at c3
      rw [cdP, if_neg (by rw [c1]; decide), inR_t (by omega) (by omega)]; rfl
  · rw [e0, nI_inj (Nat.lt_of_lt_of_le (cdS_lt _ _) (by decide)) (by decide)] at c1
    refine Qto K ?_
    rw [cdP, if_pos c1]
/-- sort -/
def fSort (dk : Nat → Dk) (s : Int32) : Int32 := if inR s 8 = true then nI (dk s.toNatClampNeg).1 else -100001
theorem sp_sort {s : Int32} (c : Lay L h) (D : deskC h dk) (K : Q (fSort dk s) h) : AC w mX9_sort 0 0 (rI Q) [.ref 5, .int s] h := by
  refine eX9_sort (sX9_sort_0 ⟨by rw [s_5 c], sp_isSlot ⟨fun c1 => ?_, fun c1 => ?_⟩⟩)
  · rw [b01_eq] at c1
    exact Qto K (by rw [fSort, c1]; rfl)
  · rw [b01_ne] at c1
    obtain ⟨j, hj, rfl⟩ := inR_nI c1 (by decide)
    have e : fSort dk (nI j) = nI (dk j).1 := by rw [fSort, if_pos c1, cl_nI (by omega)]
    simp only [s_5 c, r_5_9 c, s_330 c, cl_nI (show j < 2147483648 by omega), r_desk c hj, s_slot c hj, (D j hj).2.1]
    exact ⟨trivial, by decide, trivial, vp_nI hj (by decide), by omega, trivial, Qto K e⟩
end DK
