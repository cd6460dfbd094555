theorem hI_eq {h : Hp} {a i : Nat} {v : Int32} : hI (sI h a i v) a i = v := u2_s
theorem hI_ne {h : Hp} {a i b j : Nat} {v : Int32} (q : b ≠ a ∨ j ≠ i) : hI (sI h a i v) b j = hI h b j := u2_n q
def setRw (dk : Nat → Dk) (s i : Nat) (v : Int32) : Nat → Dk := fun t => if t = s then ((dk s).1, (dk s).2.1, (fun j => if j = i then v else (dk s).2.2.1 j), (dk s).2.2.2) else dk t
def setSo (dk : Nat → Dk) (s z : Nat) : Nat → Dk := fun t => if t = s then (z, (dk s).2) else dk t
theorem deskC.code {h : Hp} {dk : Nat → Dk} {v : Int32} {k : Nat} (D : deskC h dk) : deskC (sI h 5 k v) dk := by
  intro s hs8
  obtain ⟨o, d1, d2, d3⟩ := D s hs8
  refine ⟨o, by rw [hI_ne (Or.inl (by omega))]; exact d1, fun q => ?_, fun q => ?_⟩
  · rw [hI_ne (Or.inl (by omega))]
    exact ⟨(d2 q).1, fun i hi => by rw [hI_ne (Or.inl (by omega))]; exact (d2 q).2 i hi⟩
  · rw [hI_ne (Or.inl (by omega)), hI_ne (Or.inl (by omega))]
    exact d3 q
theorem deskC.put {h : Hp} {dk : Nat → Dk} {v : Int32} {s i : Nat} (D : deskC h dk) (hs8 : s < 8) (h3 : (dk s).1 ≠ 2) : deskC (sI h (332 + 2 * s) i v) (setRw dk s i v) := by
  intro t ht8
  obtain ⟨o, d1, d2, d3⟩ := D t ht8
  by_cases e : t = s
  · subst e
    have es : setRw dk t i v t = ((dk t).1, (dk t).2.1, (fun j => if j = i then v else (dk t).2.2.1 j), (dk t).2.2.2) := if_pos rfl
    rw [es]
    refine ⟨o, by rw [hI_ne (Or.inl (by omega))]; exact d1, fun q => ?_, fun q => absurd q h3⟩
    rw [hI_ne (Or.inl (by omega))]
    refine ⟨(d2 q).1, fun j hj => ?_⟩
    by_cases ej : j = i
    · subst ej
      rw [hI_eq]
      show v = if j = j then v else _
      rw [if_pos rfl]
    · rw [hI_ne (Or.inr ej)]
      show _ = if j = i then v else _
      rw [if_neg ej]
      exact (d2 q).2 j hj
  · have es : setRw dk s i v t = dk t := if_neg e
    rw [es]
    refine ⟨o, by rw [hI_ne (Or.inl (by omega))]; exact d1, fun q => ?_, fun q => ?_⟩
    · rw [hI_ne (Or.inl (by omega))]
      exact ⟨(d2 q).1, fun i hi => by rw [hI_ne (Or.inl (by omega))]; exact (d2 q).2 i hi⟩
    · rw [hI_ne (Or.inl (by omega)), hI_ne (Or.inl (by omega))]
      exact d3 q
theorem deskC.sort0 {h : Hp} {dk : Nat → Dk} {s : Nat} (D : deskC h dk) (hs8 : s < 8) : deskC (sI h (331 + 2 * s) 0 0) (setSo dk s 0) := by
  intro t ht8
  obtain ⟨o, d1, d2, d3⟩ := D t ht8
  by_cases e : t = s
  · subst e
    have es : setSo dk t 0 t = (0, (dk t).2) := if_pos rfl
    rw [es]
    refine ⟨⟨by show 0 ≤ 3; omega, o.2⟩, by rw [hI_eq]; rfl, fun q => ?_, fun q => ?_⟩
    · have : (0 : Nat) = 1 ∨ (0 : Nat) = 3 := q
      omega
    · have : (0 : Nat) = 2 := q
      omega
  · have es : setSo dk s 0 t = dk t := if_neg e
    rw [es]
    refine ⟨o, by rw [hI_ne (Or.inl (by omega))]; exact d1, fun q => ?_, fun q => ?_⟩
    · rw [hI_ne (Or.inl (by omega))]
      exact ⟨(d2 q).1, fun i hi => by rw [hI_ne (Or.inl (by omega))]; exact (d2 q).2 i hi⟩
    · rw [hI_ne (Or.inl (by omega)), hI_ne (Or.inl (by omega))]
      exact d3 q
theorem DC.refl {h : Hp} {dk : Nat → Dk} {cd : Int32} (D : deskC h dk) (hc : hI h 5 10 = cd) : DC h h dk cd := ⟨Chg.rfl' h, fun _ _ => rfl, D, hc⟩
theorem DC.code {h h' : Hp} {dk : Nat → Dk} {cd v : Int32} (D : DC h h' dk cd) : DC h (sI h' 5 10 v) dk v := ⟨D.1.sI (Or.inl rfl), fun k hk => by rw [hI_ne (Or.inr hk)]; exact D.2.1 k hk, D.2.2.1.code, hI_eq⟩
theorem DC.put {h h' : Hp} {dk : Nat → Dk} {cd v : Int32} {s i : Nat} (D : DC h h' dk cd) (hs8 : s < 8) (h3 : (dk s).1 ≠ 2) : DC h (sI h' (332 + 2 * s) i v) (setRw dk s i v) cd := ⟨D.1.sI (Or.inr (by omega)), fun k hk => by rw [hI_ne (Or.inl (by omega))]; exact D.2.1 k hk, D.2.2.1.put hs8 h3, by rw [hI_ne (Or.inl (by omega))]; exact D.2.2.2⟩
theorem DC.sort0 {h h' : Hp} {dk : Nat → Dk} {cd : Int32} {s : Nat} (D : DC h h' dk cd) (hs8 : s < 8) : DC h (sI h' (331 + 2 * s) 0 0) (setSo dk s 0) cd := ⟨D.1.sI (Or.inr (by omega)), fun k hk => by rw [hI_ne (Or.inl (by omega))]; exact D.2.1 k hk, D.2.2.1.sort0 hs8, by rw [hI_ne (Or.inl (by omega))]; exact D.2.2.2⟩
/-! what the calls do: answer, desk, code -/
def fClear (dk : Nat → Dk) (s : Int32) : Int32 × (Nat → Dk) := if inR s 8 = true then (b01 (decide ((dk s.toNatClampNeg).1 ≠ 0)), setSo dk s.toNatClampNeg 0) else (-100001, dk)
def fRead (dk : Nat → Dk) (cd s i : Int32) : Int32 × Int32 := if inR s 8 = true then (if cdP (dk s.toNatClampNeg) i = 0 then ((dk s.toNatClampNeg).2.2.1 i.toNatClampNeg, 0) else (0, nI (cdP (dk s.toNatClampNeg) i))) else (-100001, cd)
def fWrite (dk : Nat → Dk) (cd s i v : Int32) : Int32 × (Nat → Dk) × Int32 := if inR s 8 = true then (if cdP (dk s.toNatClampNeg) i = 0 then ((dk s.toNatClampNeg).2.2.1 i.toNatClampNeg, setRw dk s.toNatClampNeg i.toNatClampNeg v, 0) else (0, dk, nI (cdP (dk s.toNatClampNeg) i))) else (-100001, dk, cd)
def fRate (dk : Nat → Dk) (cd s : Int32) : Int32 × Int32 := if inR s 8 = true then (if cdS (dk s.toNatClampNeg) 2 = 0 then (if (dk s.toNatClampNeg).2.2.2.2 = 0 then (0, 6) else (100 * (dk s.toNatClampNeg).2.2.2.1 / (dk s.toNatClampNeg).2.2.2.2, 0)) else (0, nI (cdS (dk s.toNatClampNeg) 2))) else (-100001, cd)
theorem cdP_0 {d : Dk} {i : Int32} (h : cdP d i = 0) : d.1 = 3 ∧ inR i d.2.1 = true := by
  unfold cdP at h
  split at h
  · rename_i q; exact absurd h q
  · rename_i q
    have q : cdS d 3 = 0 := Decidable.not_not.mp q
    split at h
    · rename_i z
      refine ⟨?_, z⟩
      unfold cdS at q
      split at q
      · omega
      · split at q
        · assumption
        · omega
    · omega
theorem cdS_0 {d : Dk} {k : Nat} (h : cdS d k = 0) : d.1 = k := by
  unfold cdS at h
  split at h
  · omega
  · split at h
    · assumption
    · omega
theorem nI_0' {n : Nat} (h : n < 2147483648) : nI n = 0 ↔ n = 0 := by rw [show (0 : Int32) = nI 0 from rfl]; exact nI_inj h (by decide)
section DK2
variable {w : Wd} {L : Nat} {h : Hp} {Q : Int32 → Hp → Prop} {dk : Nat → Dk} {cd : Int32}
theorem sp_code (c : Lay L h) (K : Q (hI h 5 10) h) : AC w mX9_code 0 0 (rI Q) [.ref 5] h := eX9_code (sX9_code_0 ⟨by rw [s_5 c], K⟩)
theorem sp_clear {s : Int32} (c : Lay L h) (D : deskC h dk) (hc : hI h 5 10 = cd) (K : ∀ h', DC h h' (fClear dk s).2 cd → Q (fClear dk s).1 h') : AC w mX9_clear 0 0 (rI Q) [.ref 5, .int s] h := by
  refine eX9_clear (sX9_clear_0 ⟨by rw [s_5 c], sp_isSlot ⟨fun c1 => ?_, fun c1 => ?_⟩⟩)
  · rw [b01_ne] at c1
    obtain ⟨j, hj, rfl⟩ := inR_nI c1 (by decide)
    have hj31 : j < 2147483648 := by omega
    have e : fClear dk (nI j) = (b01 (decide ((dk j).1 ≠ 0)), setSo dk j 0) := by rw [fClear, if_pos c1, cl_nI hj31]
    rw [e] at K
    obtain ⟨o, d1, -⟩ := D j hj
    have o1 : (dk j).1 < 2147483648 := Nat.lt_of_le_of_lt o.1 (by decide)
    simp only [s_5 c, r_5_9 c, s_330 c, cl_nI hj31, r_desk c hj, s_slot c hj, d1]
    refine ⟨trivial, by decide, trivial, vp_nI hj (by decide), by omega, trivial, fun c2 h2 e2 => ?_, fun c2 h2 e2 => ?_⟩
    · subst e2
      rw [nI_0' o1] at c2
      exact Qto (K _ ((DC.refl D hc).sort0 hj)) (b1 (decide_eq_true c2))
    · subst e2
      rw [nI_0' o1] at c2
      exact Qto (K _ ((DC.refl D hc).sort0 hj)) (b0 (by simp [c2]))
  · rw [b01_eq] at c1
    have e : fClear dk s = (-100001, dk) := by rw [fClear, c1]; rfl
    rw [e] at K
    exact K h (DC.refl D hc)
theorem sp_read {s i : Int32} (c : Lay L h) (D : deskC h dk) (hc : hI h 5 10 = cd) (K : ∀ h', DC h h' dk (fRead dk cd s i).2 → Q (fRead dk cd s i).1 h') : AC w mX9_read 0 0 (rI Q) [.ref 5, .int s, .int i] h := by
  refine eX9_read (sX9_read_0 ⟨by rw [s_5 c], sp_isSlot ⟨fun c1 => ?_, fun c1 => ?_⟩⟩)
  · rw [b01_ne] at c1
    obtain ⟨j, hj, rfl⟩ := inR_nI c1 (by decide)
    have hj31 : j < 2147483648 := by omega
    have e : fRead dk cd (nI j) i = (if cdP (dk j) i = 0 then ((dk j).2.2.1 i.toNatClampNeg, 0) else (0, nI (cdP (dk j) i))) := by rw [fRead, if_pos c1, cl_nI hj31]
    rw [e] at K
    obtain ⟨o, d1, d2, -⟩ := D j hj
    have hc4 : cdP (dk j) i < 2147483648 := Nat.lt_of_lt_of_le (cdP_lt _ _) (by decide)
    refine ⟨by rw [s_5 c], sp_placeCode c D hj ⟨fun c2 => ?_, fun c2 => ?_⟩⟩
    · rw [nI_0' hc4] at c2
      rw [if_neg c2] at K
      exact ⟨by rw [s_5 c], sp_meet c (K _ (DC.refl D hc).code)⟩
    · rw [nI_0' hc4] at c2
      rw [if_pos c2] at K
      obtain ⟨h3, hin⟩ := cdP_0 c2
      obtain ⟨q, hq, rfl⟩ := inR_nI hin (by have := o.2; omega)
      have hq30 : q < 30 := by have := o.2; omega
      have hq31 : q < 2147483648 := by omega
      have hv := (d2 (Or.inr h3)).2 q hq
      rw [cl_nI hq31] at K
      simp only [s_5 c, r_5_9 c, s_330 c, cl_nI hj31, cl_nI hq31, r_desk c hj, s_slot c hj, r_cells c hj, s_cells c hj, hv]
      exact ⟨trivial, by decide, trivial, vp_nI hj (by decide), by omega, trivial, by omega, trivial, vp_nI hq30 (by decide), sp_fine c (K _ (DC.refl D hc).code)⟩
  · rw [b01_eq] at c1
    have e : fRead dk cd s i = (-100001, cd) := by rw [fRead, c1]; rfl
    rw [e] at K
    exact K h (DC.refl D hc)
theorem sp_write {s i v : Int32} (c : Lay L h) (D : deskC h dk) (hc : hI h 5 10 = cd) (K : ∀ h', DC h h' (fWrite dk cd s i v).2.1 (fWrite dk cd s i v).2.2 → Q (fWrite dk cd s i v).1 h') : AC w mX9_write 0 0 (rI Q) [.ref 5, .int s, .int i, .int v] h := by
  refine eX9_write (sX9_write_0 ⟨by rw [s_5 c], sp_isSlot ⟨fun c1 => ?_, fun c1 => ?_⟩⟩)
  · rw [b01_ne] at c1
    obtain ⟨j, hj, rfl⟩ := inR_nI c1 (by decide)
    have hj31 : j < 2147483648 := by omega
    have e : fWrite dk cd (nI j) i v = (if cdP (dk j) i = 0 then ((dk j).2.2.1 i.toNatClampNeg, setRw dk j i.toNatClampNeg v, 0) else (0, dk, nI (cdP (dk j) i))) := by rw [fWrite, if_pos c1, cl_nI hj31]
    rw [e] at K
    obtain ⟨o, d1, d2, -⟩ := D j hj
    have hc4 : cdP (dk j) i < 2147483648 := Nat.lt_of_lt_of_le (cdP_lt _ _) (by decide)
    refine ⟨by rw [s_5 c], sp_placeCode c D hj ⟨fun c2 => ?_, fun c2 => ?_⟩⟩
    · rw [nI_0' hc4] at c2
      rw [if_pos c2] at K
      obtain ⟨h3, hin⟩ := cdP_0 c2
      obtain ⟨q, hq, rfl⟩ := inR_nI hin (by have := o.2; omega)
      have hq30 : q < 30 := by have := o.2; omega
      have hq31 : q < 2147483648 := by omega
      have hv := (d2 (Or.inr h3)).2 q hq
      rw [cl_nI hq31] at K
      simp only [s_5 c, r_5_9 c, s_330 c, cl_nI hj31, cl_nI hq31, r_desk c hj, s_slot c hj, r_cells c hj, s_cells c hj, hv]
      refine ⟨trivial, by decide, trivial, vp_nI hj (by decide), by omega, trivial, by omega, trivial, vp_nI hq30 (by decide), fun h3' e3 => ?_⟩
      subst e3
      exact sp_fine (c.sI (by omega)) (K _ ((DC.refl D hc).put hj (by omega)).code)
    · rw [nI_0' hc4] at c2
      rw [if_neg c2] at K
      exact ⟨by rw [s_5 c], sp_meet c (K _ (DC.refl D hc).code)⟩
  · rw [b01_eq] at c1
    have e : fWrite dk cd s i v = (-100001, dk, cd) := by rw [fWrite, c1]; rfl
    rw [e] at K
    exact K h (DC.refl D hc)
theorem sp_rate {s : Int32} (c : Lay L h) (D : deskC h dk) (hc : hI h 5 10 = cd) (K : ∀ h', DC h h' dk (fRate dk cd s).2 → Q (fRate dk cd s).1 h') : AC w mX9_rate 0 0 (rI Q) [.ref 5, .int s] h := by
  refine eX9_rate (sX9_rate_0 ⟨by rw [s_5 c], sp_isSlot ⟨fun c1 => ?_, fun c1 => ?_⟩⟩)
  · rw [b01_ne] at c1
    obtain ⟨j, hj, rfl⟩ := inR_nI c1 (by decide)
    have hj31 : j < 2147483648 := by omega
    have e : fRate dk cd (nI j) = (if cdS (dk j) 2 = 0 then (if (dk j).2.2.2.2 = 0 then (0, 6) else (100 * (dk j).2.2.2.1 / (dk j).2.2.2.2, 0)) else (0, nI (cdS (dk j) 2))) := by rw [fRate, if_pos c1, cl_nI hj31]
    rw [e] at K
    obtain ⟨o, d1, d2, d3⟩ := D j hj
    have hc4 : cdS (dk j) 2 < 2147483648 := Nat.lt_of_lt_of_le (cdS_lt _ _) (by decide)
    refine ⟨by rw [s_5 c], sp_sortCode (want := 2) c D hj (by decide) ⟨fun c2 => ?_, fun c2 => ?_⟩⟩
    · rw [nI_0' hc4] at c2
      rw [if_pos c2] at K
      obtain ⟨e3, e4⟩ := d3 (cdS_0 c2)
      simp only [s_5 c, r_5_9 c, s_330 c, cl_nI hj31, r_desk c hj, s_slot c hj, e3, e4]
      refine ⟨trivial, by decide, trivial, vp_nI hj (by decide), by omega, trivial, fun c3 => ?_, fun c3 => ?_⟩
      · rw [if_neg c3] at K
        exact ⟨c3, sp_fine c (K _ (DC.refl D hc).code)⟩
      · rw [if_pos c3] at K
        exact sp_meet c (K _ (DC.refl D hc).code)
    · rw [nI_0' hc4] at c2
      rw [if_neg c2] at K
      exact ⟨by rw [s_5 c], sp_meet c (K _ (DC.refl D hc).code)⟩
  · rw [b01_eq] at c1
    have e : fRate dk cd s = (-100001, cd) := by rw [fRate, c1]; rfl
    rw [e] at K
    exact K h (DC.refl D hc)
end DK2
