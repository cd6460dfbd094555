/-! ===== the desk: the reference's side ===== -/
section MI
variable {w : Wd} {L : Nat} {h : Hp} {Q : Int32 → Hp → Prop}
theorem sp_in {x lo hi : Int64} (K : Q (b01 (decide (lo.toInt ≤ x.toInt ∧ x.toInt ≤ hi.toInt))) h) : AC w mX10_in 0 0 (rI Q) [.long x, .long lo, .long hi] h := by
  refine eX10_in (sX10_in_0 ⟨fun c1 => ?_, fun c1 => ⟨fun c2 => ?_, fun c2 => ?_⟩⟩)
  · rw [lg_cmp_lt, Int64.lt_iff_toInt_lt] at c1
    exact Qto K (b0 (decide_eq_false (by omega)))
  · rw [lg_cmp_gt, Int64.lt_iff_toInt_lt] at c2
    exact Qto K (b0 (decide_eq_false (by omega)))
  · rw [lg_cmp_lt, Int64.lt_iff_toInt_lt] at c1
    rw [lg_cmp_gt, Int64.lt_iff_toInt_lt] at c2
    exact Qto K (b1 (decide_eq_true (by omega)))
theorem sp_in32 {x : Int32} {lo hi : Int64} {n : Nat} (hlo : lo.toInt = 0) (hhi : hi.toInt = (n : Int) - 1) (K : Q (b01 (inR x n)) h) : AC w mX10_in 0 0 (rI Q) [.long x.toInt64, .long lo, .long hi] h := by
  refine sp_in (Qto K (congrArg b01 ?_))
  unfold inR
  rw [hlo, hhi, Int32.toInt_toInt64]
  by_cases c : 0 ≤ x.toInt ∧ x.toInt < n
  · rw [decide_eq_true c, decide_eq_true (by omega)]
  · rw [decide_eq_false c, decide_eq_false (by omega)]
theorem sp_isSlotM {x : Int32} (K : Q (b01 (inR x 8)) h) : AC w mX10_isSlot 0 0 (rI Q) [.int x] h :=
  eX10_isSlot (sX10_isSlot_0 (sp_in32 (n := 8) (by decide) (by decide) ⟨b01_or _, K⟩))
theorem toI64_sub1 {z : Nat} (hz : z < 2147483648) : ((nI z) - 1 : Int32).toInt64.toInt = (z : Int) - 1 := by
  rw [Int32.toInt_toInt64, ti_sub] <;> rw [nI_toInt hz, t_1] <;> omega
theorem e30 (s i : Nat) : (30 : Int32) * nI s + nI i = nI (30 * s + i) := by rw [show (30 : Int32) = nI 30 from rfl, pk_mul, nI_add]
theorem e30' (s : Nat) : (30 : Int32) * nI s = nI (30 * s) := by rw [show (30 : Int32) = nI 30 from rfl, pk_mul]
theorem e301 (s : Nat) : (30 : Int32) * nI s + 1 = nI (30 * s + 1) := by rw [show (1 : Int32) = nI 1 from rfl, e30]
end MI
theorem deskM.code {h : Hp} {dk : Nat → Dk} {v : Int32} {k : Nat} (D : deskM h dk) : deskM (sI h 347 k v) dk := by
  intro s hs8
  obtain ⟨o, d1, d2, d3⟩ := D s hs8
  refine ⟨o, by rw [hI_ne (Or.inl (by omega))]; exact d1, fun q => ?_, fun q => ?_⟩
  · rw [hI_ne (Or.inl (by omega))]
    exact ⟨(d2 q).1, fun i hi => by rw [hI_ne (Or.inl (by omega))]; exact (d2 q).2 i hi⟩
  · rw [hI_ne (Or.inl (by omega)), hI_ne (Or.inl (by omega))]
    exact d3 q
theorem deskM.put {h : Hp} {dk : Nat → Dk} {v : Int32} {s i : Nat} (D : deskM h dk) (hs8 : s < 8) (hi30 : i < 30) (h3 : (dk s).1 ≠ 2) : deskM (sI h 384 (30 * s + i) v) (setRw dk s i v) := by
  intro t ht8
  obtain ⟨o, d1, d2, d3⟩ := D t ht8
  have o2 := o.2
  by_cases e : t = s
  · subst e
    have es : setRw dk t i v t = ((dk t).1, (dk t).2.1, (fun j => if j = i then v else (dk t).2.2.1 j), (dk t).2.2.2) := if_pos rfl
    rw [es]
    refine ⟨o, by rw [hI_ne (Or.inl (by omega))]; exact d1, fun q => ?_, fun q => absurd q h3⟩
    rw [hI_ne (Or.inl (by omega))]
    refine ⟨(d2 q).1, fun j hj => ?_⟩
    by_cases ej : j = i
    · subst ej
      rw [hI_eq]
      show v = if j = j then v else _
      rw [if_pos rfl]
    · rw [hI_ne (Or.inr (by omega))]
      show _ = if j = i then v else _
      rw [if_neg ej]
      exact (d2 q).2 j hj
  · have es : setRw dk s i v t = dk t := if_neg e
    rw [es]
    refine ⟨o, by rw [hI_ne (Or.inl (by omega))]; exact d1, fun q => ?_, fun q => ?_⟩
    · rw [hI_ne (Or.inl (by omega))]
      exact ⟨(d2 q).1, fun i' hi' => by rw [hI_ne (Or.inr (by omega))]; exact (d2 q).2 i' hi'⟩
    · rw [hI_ne (Or.inr (by omega)), hI_ne (Or.inr (by omega))]
      exact d3 q
theorem deskM.sort0 {h : Hp} {dk : Nat → Dk} {s : Nat} (D : deskM h dk) (hs8 : s < 8) : deskM (sI h 382 s 0) (setSo dk s 0) := by
  intro t ht8
  obtain ⟨o, d1, d2, d3⟩ := D t ht8
  by_cases e : t = s
  · subst e
    have es : setSo dk t 0 t = (0, (dk t).2) := if_pos rfl
    rw [es]
    refine ⟨⟨by show 0 ≤ 3; omega, o.2⟩, by rw [hI_eq]; rfl, fun q => ?_, fun q => ?_⟩
    · have : (0 : Nat) = 1 ∨ (0 : Nat) = 3 := q
      omega
    · have : (0 : Nat) = 2 := q
      omega
  · have es : setSo dk s 0 t = dk t := if_neg e
    rw [es]
    refine ⟨o, by rw [hI_ne (Or.inr e)]; exact d1, fun q => ?_, fun q => ?_⟩
    · rw [hI_ne (Or.inl (by omega))]
      exact ⟨(d2 q).1, fun i hi => by rw [hI_ne (Or.inl (by omega))]; exact (d2 q).2 i hi⟩
    · rw [hI_ne (Or.inl (by omega)), hI_ne (Or.inl (by omega))]
      exact d3 q
theorem DM.refl {h : Hp} {dk : Nat → Dk} {cd : Int32} (D : deskM h dk) (hc : hI h 347 19 = cd) : DM h h dk cd := ⟨Chg.rfl' h, fun _ _ => rfl, rfl, D, hc⟩
theorem DM.code {h h' : Hp} {dk : Nat → Dk} {cd v : Int32} (D : DM h h' dk cd) : DM h (sI h' 347 19 v) dk v := ⟨D.1.sI (Or.inl rfl), fun k hk => by rw [hI_ne (Or.inr hk)]; exact D.2.1 k hk, D.2.2.1, D.2.2.2.1.code, hI_eq⟩
theorem DM.put {h h' : Hp} {dk : Nat → Dk} {cd v : Int32} {s i : Nat} (D : DM h h' dk cd) (hs8 : s < 8) (hi : i < 30) (h3 : (dk s).1 ≠ 2) : DM h (sI h' 384 (30 * s + i) v) (setRw dk s i v) cd := ⟨D.1.sI (Or.inr (by omega)), fun k hk => by rw [hI_ne (Or.inl (by omega))]; exact D.2.1 k hk, D.2.2.1, D.2.2.2.1.put hs8 hi h3, by rw [hI_ne (Or.inl (by omega))]; exact D.2.2.2.2⟩
theorem DM.sort0 {h h' : Hp} {dk : Nat → Dk} {cd : Int32} {s : Nat} (D : DM h h' dk cd) (hs8 : s < 8) : DM h (sI h' 382 s 0) (setSo dk s 0) cd := ⟨D.1.sI (Or.inr (by omega)), fun k hk => by rw [hI_ne (Or.inl (by omega))]; exact D.2.1 k hk, D.2.2.1, D.2.2.2.1.sort0 hs8, by rw [hI_ne (Or.inl (by omega))]; exact D.2.2.2.2⟩
section DKM
variable {w : Wd} {L : Nat} {h : Hp} {Q : Int32 → Hp → Prop} {dk : Nat → Dk} {cd : Int32}
theorem sp_codeM (c : Lay L h) (K : Q (hI h 347 19) h) : AC w mX10_code 0 0 (rI Q) [.ref 347] h := eX10_code (sX10_code_0 ⟨by rw [s_347 c], K⟩)
theorem sp_sortM {s : Int32} (c : Lay L h) (D : deskM h dk) (K : Q (fSort dk s) h) : AC w mX10_sort 0 0 (rI Q) [.ref 347, .int s] h := by
  refine eX10_sort (sX10_sort_0 (sp_isSlotM ⟨fun c1 => ?_, fun c1 => ?_⟩))
  · rw [b01_eq] at c1
    exact Qto K (by rw [fSort, c1]; rfl)
  · rw [b01_ne] at c1
    obtain ⟨j, hj, rfl⟩ := inR_nI c1 (by decide)
    have e : fSort dk (nI j) = nI (dk j).1 := by rw [fSort, if_pos c1, cl_nI (by omega)]
    simp only [s_347 c, r_347_54 c, s_382 c, cl_nI (show j < 2147483648 by omega), (D j hj).2.1]
    exact ⟨trivial, by decide, trivial, vp_nI hj (by decide), Qto K e⟩
theorem sp_clearM {s : Int32} (c : Lay L h) (D : deskM h dk) (hc : hI h 347 19 = cd) (K : ∀ h', DM h h' (fClear dk s).2 cd → Q (fClear dk s).1 h') : AC w mX10_clear 0 0 (rI Q) [.ref 347, .int s] h := by
  refine eX10_clear (sX10_clear_0 (sp_isSlotM ⟨fun c1 => ?_, fun c1 => ?_⟩))
  · rw [b01_ne] at c1
    obtain ⟨j, hj, rfl⟩ := inR_nI c1 (by decide)
    have hj31 : j < 2147483648 := by omega
    have e : fClear dk (nI j) = (b01 (decide ((dk j).1 ≠ 0)), setSo dk j 0) := by rw [fClear, if_pos c1, cl_nI hj31]
    rw [e] at K
    obtain ⟨o, d1, -⟩ := D j hj
    have o1 : (dk j).1 < 2147483648 := Nat.lt_of_le_of_lt o.1 (by decide)
    simp only [s_347 c, r_347_54 c, s_382 c, cl_nI hj31, d1]
    refine ⟨trivial, by decide, trivial, vp_nI hj (by decide), fun c2 h2 e2 => ?_, fun c2 h2 e2 => ?_⟩
    · subst e2
      rw [ti_le, nI_toInt o1, t_0] at c2
      exact Qto (K _ ((DM.refl D hc).sort0 hj)) (b0 (decide_eq_false (by omega)))
    · subst e2
      rw [ti_le, nI_toInt o1, t_0] at c2
      exact Qto (K _ ((DM.refl D hc).sort0 hj)) (b1 (decide_eq_true (by omega)))
  · rw [b01_eq] at c1
    have e : fClear dk s = (-100001, dk) := by rw [fClear, c1]; rfl
    rw [e] at K
    exact K h (DM.refl D hc)
theorem sp_asks {s : Nat} {i : Int32} {Q : Hp → Prop} (c : Lay L h) (D : deskM h dk) (hs8 : s < 8) (K : Q (sI h 347 19 (nI (cdP (dk s) i)))) : AC w mX10_asks 0 0 (rV Q) [.ref 347, .int (nI s), .int i] h := by
  obtain ⟨o, d1, d2, -⟩ := D s hs8
  have o1 : (dk s).1 < 2147483648 := Nat.lt_of_le_of_lt o.1 (by decide)
  have hs31 : s < 2147483648 := by omega
  refine eX10_asks (sX10_asks_0 ?_)
  simp only [s_347 c, r_347_54 c, s_382 c, r_347_55 c, s_383 c, cl_nI hs31, d1]
  refine ⟨trivial, by decide, trivial, vp_nI hs8 (by decide), fun c1 => ⟨fun c2 => ?_, fun c2 h4 e4 => ?_⟩, fun c1 h5 e5 => ?_⟩
  · rw [show (3 : Int32) = nI 3 from rfl, nI_inj o1 (by decide)] at c2
    have hS : cdS (dk s) 3 = 0 := by rw [cdS, if_neg (by omega), if_pos c2]
    obtain ⟨d3, -⟩ := d2 (Or.inr c2)
    rw [d3]
    refine ⟨by decide, trivial, vp_nI hs8 (by decide), sp_in32 (n := (dk s).2.1) (by decide) (toI64_sub1 (by have := o.2; omega)) ⟨fun c3 => ⟨by rw [s_347 c], fun h2 e2 => ?_⟩, fun c3 => ⟨by rw [s_347 c], fun h3 e3 => ?_⟩⟩⟩
    · subst e2
      rw [b01_ne] at c3
      have : cdP (dk s) i = 0 := by rw [cdP, if_neg (by omega), if_pos c3]
      rw [this] at K
      exact K
    · subst e3
      rw [b01_eq] at c3
      have : cdP (dk s) i = 3 := by rw [cdP, if_neg (by omega), if_neg (by rw [c3]; decide)]
      rw [this] at K
      exact K
  · subst e4
    rw [show (3 : Int32) = nI 3 from rfl, nI_inj o1 (by decide)] at c2
    rw [nI_0' o1] at c1
    have hS : cdS (dk s) 3 = 2 := by rw [cdS, if_neg c1, if_neg c2]
    have : cdP (dk s) i = 2 := by rw [cdP, if_pos (by omega), hS]
    rw [this] at K
    exact K
  · subst e5
    rw [nI_0' o1] at c1
    have hS : cdS (dk s) 3 = 1 := by rw [cdS, if_pos c1]
    have : cdP (dk s) i = 1 := by rw [cdP, if_pos (by omega), hS]
    rw [this] at K
    exact K
theorem sp_readM {s i : Int32} (c : Lay L h) (D : deskM h dk) (hc : hI h 347 19 = cd) (K : ∀ h', DM h h' dk (fRead dk cd s i).2 → Q (fRead dk cd s i).1 h') : AC w mX10_read 0 0 (rI Q) [.ref 347, .int s, .int i] h := by
  refine eX10_read (sX10_read_0 (sp_isSlotM ⟨fun c1 => ?_, fun c1 => ?_⟩))
  · rw [b01_ne] at c1
    obtain ⟨j, hj, rfl⟩ := inR_nI c1 (by decide)
    have hj31 : j < 2147483648 := by omega
    have e : fRead dk cd (nI j) i = (if cdP (dk j) i = 0 then ((dk j).2.2.1 i.toNatClampNeg, 0) else (0, nI (cdP (dk j) i))) := by rw [fRead, if_pos c1, cl_nI hj31]
    rw [e] at K
    obtain ⟨o, d1, d2, -⟩ := D j hj
    have hc4 : cdP (dk j) i < 2147483648 := Nat.lt_of_lt_of_le (cdP_lt _ _) (by decide)
    refine ⟨by rw [s_347 c], sp_asks c D hj ?_⟩
    have c' : Lay L (sI h 347 19 (nI (cdP (dk j) i))) := c.sI (by omega)
    have D' : DM h (sI h 347 19 (nI (cdP (dk j) i))) dk (nI (cdP (dk j) i)) := (DM.refl D hc).code
    rw [hI_eq]
    refine ⟨by rw [s_347 c'], fun c2 => ?_, fun c2 => ?_⟩
    · rw [ti_le, nI_toInt hc4, t_0] at c2
      have c2 : cdP (dk j) i = 0 := by omega
      rw [if_pos c2] at K
      rw [c2] at D' ⊢
      obtain ⟨h3, hin⟩ := cdP_0 c2
      obtain ⟨q, hq, rfl⟩ := inR_nI hin (by have := o.2; omega)
      have hq30 : q < 30 := by have := o.2; omega
      have hq31 : q < 2147483648 := by omega
      rw [c2] at c'
      have hv := (D'.2.2.2.1 j hj).2.2.1 (Or.inr h3)
      rw [cl_nI hq31] at K
      simp only [r_347_56 c', s_384 c', e30, cl_nI (show 30 * j + q < 2147483648 by omega), hv.2 q hq]
      exact ⟨by decide, trivial, vp_nI (by omega) (by decide), K _ D'⟩
    · rw [ti_le, nI_toInt hc4, t_0] at c2
      rw [if_neg (by omega)] at K
      exact K _ D'
  · rw [b01_eq] at c1
    have e : fRead dk cd s i = (-100001, cd) := by rw [fRead, c1]; rfl
    rw [e] at K
    exact K h (DM.refl D hc)
theorem sp_writeM {s i v : Int32} (c : Lay L h) (D : deskM h dk) (hc : hI h 347 19 = cd) (K : ∀ h', DM h h' (fWrite dk cd s i v).2.1 (fWrite dk cd s i v).2.2 → Q (fWrite dk cd s i v).1 h') : AC w mX10_write 0 0 (rI Q) [.ref 347, .int s, .int i, .int v] h := by
  refine eX10_write (sX10_write_0 (sp_isSlotM ⟨fun c1 => ?_, fun c1 => ?_⟩))
  · rw [b01_ne] at c1
    obtain ⟨j, hj, rfl⟩ := inR_nI c1 (by decide)
    have hj31 : j < 2147483648 := by omega
    have e : fWrite dk cd (nI j) i v = (if cdP (dk j) i = 0 then ((dk j).2.2.1 i.toNatClampNeg, setRw dk j i.toNatClampNeg v, 0) else (0, dk, nI (cdP (dk j) i))) := by rw [fWrite, if_pos c1, cl_nI hj31]
    rw [e] at K
    obtain ⟨o, d1, d2, -⟩ := D j hj
    have hc4 : cdP (dk j) i < 2147483648 := Nat.lt_of_lt_of_le (cdP_lt _ _) (by decide)
    refine ⟨by rw [s_347 c], sp_asks c D hj ?_⟩
    have c' : Lay L (sI h 347 19 (nI (cdP (dk j) i))) := c.sI (by omega)
    have D' : DM h (sI h 347 19 (nI (cdP (dk j) i))) dk (nI (cdP (dk j) i)) := (DM.refl D hc).code
    rw [hI_eq]
    refine ⟨by rw [s_347 c'], fun c2 => ?_, fun c2 => ?_⟩
    · rw [ti_le, nI_toInt hc4, t_0] at c2
      have c2 : cdP (dk j) i = 0 := by omega
      rw [if_pos c2] at K
      rw [c2] at D' ⊢
      obtain ⟨h3, hin⟩ := cdP_0 c2
      obtain ⟨q, hq, rfl⟩ := inR_nI hin (by have := o.2; omega)
      have hq30 : q < 30 := by have := o.2; omega
      have hq31 : q < 2147483648 := by omega
      rw [c2] at c'
      have hv := (D'.2.2.2.1 j hj).2.2.1 (Or.inr h3)
      rw [cl_nI hq31] at K
      simp only [r_347_56 c', s_384 c', e30, cl_nI (show 30 * j + q < 2147483648 by omega), hv.2 q hq]
      refine ⟨by decide, trivial, vp_nI (by omega) (by decide), fun h3' e3 => ?_⟩
      subst e3
      exact K _ (D'.put hj hq30 (by omega))
    · rw [ti_le, nI_toInt hc4, t_0] at c2
      rw [if_neg (by omega)] at K
      exact K _ D'
  · rw [b01_eq] at c1
    have e : fWrite dk cd s i v = (-100001, dk, cd) := by rw [fWrite, c1]; rfl
    rw [e] at K
    exact K h (DM.refl D hc)
theorem rateM_58 {s y : Nat} (c : Lay L h) (D : deskM h dk) (hc : hI h 347 19 = cd) (hs8 : s < 8) (hy : y < 7) (h0 : y = 0 → (dk s).1 = 2 ∧ ¬ (dk s).2.2.2.2 = 0) (K : ∀ h', DM h h' dk (nI y) → Q (if y = 0 then 100 * (dk s).2.2.2.1 / (dk s).2.2.2.2 else 0) h') : AW w mX10_rate 0 0 (rI Q) 0 0 58 [some (.ref 347), some (.int (nI s))] [.int (nI y), .ref 347] h := by
  refine sX10_rate_58 ⟨by rw [s_347 c], fun h1 e1 => ⟨by rw [s_347 c], ?_⟩⟩
  subst e1
  have D' : DM h (sI h 347 19 (nI y)) dk (nI y) := (DM.refl D hc).code
  rw [hI_eq]
  refine ⟨fun c2 => ?_, fun c2 => ?_⟩
  · rw [ti_le, nI_toInt (by omega), t_0] at c2
    have hy0 : y = 0 := by omega
    obtain ⟨hd, hne⟩ := h0 hy0
    have hv := (D'.2.2.2.1 s hs8).2.2.2 hd
    have hKK := K _ D'
    rw [if_pos hy0] at hKK
    simp only [r_347_56 c, s_384 c, e30', nI_1, cl_nI (show 30 * s < 2147483648 by omega), cl_nI (show 30 * s + 1 < 2147483648 by omega), hv.1, hv.2]
    exact ⟨by decide, trivial, vp_nI (by omega) (by decide), vp_nI (by omega) (by decide), hne, hKK⟩
  · rw [ti_le, nI_toInt (by omega), t_0] at c2
    have hKK := K _ D'
    rw [if_neg (by omega)] at hKK
    exact hKK
theorem sp_rateM {s : Int32} (c : Lay L h) (D : deskM h dk) (hc : hI h 347 19 = cd) (K : ∀ h', DM h h' dk (fRate dk cd s).2 → Q (fRate dk cd s).1 h') : AC w mX10_rate 0 0 (rI Q) [.ref 347, .int s] h := by
  refine eX10_rate (sX10_rate_0 (sp_isSlotM ⟨fun c1 => ?_, fun c1 => ?_⟩))
  · rw [b01_ne] at c1
    obtain ⟨j, hj, rfl⟩ := inR_nI c1 (by decide)
    have hj31 : j < 2147483648 := by omega
    have e : fRate dk cd (nI j) = (if cdS (dk j) 2 = 0 then (if (dk j).2.2.2.2 = 0 then (0, 6) else (100 * (dk j).2.2.2.1 / (dk j).2.2.2.2, 0)) else (0, nI (cdS (dk j) 2))) := by rw [fRate, if_pos c1, cl_nI hj31]
    rw [e] at K
    obtain ⟨o, d1, d2, d3⟩ := D j hj
    have o1 : (dk j).1 < 2147483648 := Nat.lt_of_le_of_lt o.1 (by decide)
    simp only [s_347 c, r_347_54 c, s_382 c, r_347_56 c, s_384 c, cl_nI hj31, d1, e301, cl_nI (show 30 * j + 1 < 2147483648 by omega)]
    refine ⟨trivial, by decide, trivial, vp_nI hj (by decide), fun c2 => ⟨fun c3 => ?_, fun c3 => ?_⟩, fun c2 => ?_⟩
    · rw [show (2 : Int32) = nI 2 from rfl, nI_inj o1 (by decide)] at c3
      obtain ⟨v1, v2⟩ := d3 c3
      rw [v2]
      have hS : cdS (dk j) 2 = 0 := by rw [cdS, if_neg (by omega), if_pos c3]
      rw [if_pos hS] at K
      refine ⟨by decide, trivial, vp_nI (by omega) (by decide), fun c4 => ?_, fun c4 => ?_⟩
      · rw [if_neg c4] at K
        exact rateM_58 (y := 0) c D hc hj (by decide) (fun _ => ⟨c3, c4⟩) K
      · rw [if_pos c4] at K
        exact rateM_58 (y := 6) c D hc hj (by decide) (fun q => by omega) K
    · rw [show (2 : Int32) = nI 2 from rfl, nI_inj o1 (by decide)] at c3
      rw [nI_0' o1] at c2
      have hS : cdS (dk j) 2 = 2 := by rw [cdS, if_neg c2, if_neg c3]
      rw [hS, if_neg (by decide)] at K
      exact rateM_58 (y := 2) c D hc hj (by decide) (fun q => by omega) K
    · rw [nI_0' o1] at c2
      have hS : cdS (dk j) 2 = 1 := by rw [cdS, if_pos c2]
      rw [hS, if_neg (by decide)] at K
      exact rateM_58 (y := 1) c D hc hj (by decide) (fun q => by omega) K
  · rw [b01_eq] at c1
    have e : fRate dk cd s = (-100001, cd) := by rw [fRate, c1]; rfl
    rw [e] at K
    exact K h (DM.refl D hc)
end DKM
