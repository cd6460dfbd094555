/-! ===== rows: filling, putRow ===== -/
def slotC (h : Hp) (s : Nat) (d : Dk) : Prop := okD d ∧ hI h (331 + 2 * s) 0 = nI d.1 ∧ (d.1 = 1 ∨ d.1 = 3 → hI h (331 + 2 * s) 1 = nI d.2.1 ∧ ∀ i, i < d.2.1 → hI h (332 + 2 * s) i = d.2.2.1 i) ∧ (d.1 = 2 → hI h (331 + 2 * s) 3 = d.2.2.2.1 ∧ hI h (331 + 2 * s) 4 = d.2.2.2.2)
def slotM (h : Hp) (s : Nat) (d : Dk) : Prop := okD d ∧ hI h 382 s = nI d.1 ∧ (d.1 = 1 ∨ d.1 = 3 → hI h 383 s = nI d.2.1 ∧ ∀ i, i < d.2.1 → hI h 384 (30 * s + i) = d.2.2.1 i) ∧ (d.1 = 2 → hI h 384 (30 * s) = d.2.2.2.1 ∧ hI h 384 (30 * s + 1) = d.2.2.2.2)
def setD (dk : Nat → Dk) (s : Nat) (d : Dk) : Nat → Dk := fun t => if t = s then d else dk t
theorem deskC.upd {h h' : Hp} {dk : Nat → Dk} {d : Dk} {s : Nat} (D : deskC h dk) (same : ∀ t, t < 8 → t ≠ s → ∀ j, hI h' (331 + 2 * t) j = hI h (331 + 2 * t) j ∧ hI h' (332 + 2 * t) j = hI h (332 + 2 * t) j) (S : slotC h' s d) : deskC h' (setD dk s d) := by
  intro t ht8
  by_cases e : t = s
  · subst e
    have : setD dk t d t = d := if_pos rfl
    rw [this]
    exact S
  · have : setD dk s d t = dk t := if_neg e
    rw [this]
    obtain ⟨o, d1, d2, d3⟩ := D t ht8
    have q := same t ht8 e
    refine ⟨o, by rw [(q 0).1]; exact d1, fun z => ⟨by rw [(q 1).1]; exact (d2 z).1, fun i hi => by rw [(q i).2]; exact (d2 z).2 i hi⟩, fun z => by rw [(q 3).1, (q 4).1]; exact d3 z⟩
theorem deskM.upd {h h' : Hp} {dk : Nat → Dk} {d : Dk} {s : Nat} (D : deskM h dk) (same : ∀ t, t < 8 → t ≠ s → hI h' 382 t = hI h 382 t ∧ hI h' 383 t = hI h 383 t ∧ ∀ j, j < 30 → hI h' 384 (30 * t + j) = hI h 384 (30 * t + j)) (S : slotM h' s d) : deskM h' (setD dk s d) := by
  intro t ht8
  by_cases e : t = s
  · subst e
    have : setD dk t d t = d := if_pos rfl
    rw [this]
    exact S
  · have : setD dk s d t = dk t := if_neg e
    rw [this]
    obtain ⟨o, d1, d2, d3⟩ := D t ht8
    have q := same t ht8 e
    have o2 := o.2
    refine ⟨o, by rw [q.1]; exact d1, fun z => ⟨by rw [q.2.1]; exact (d2 z).1, fun i hi => by rw [q.2.2 i (by omega)]; exact (d2 z).2 i hi⟩, fun z => ?_⟩
    have q0 := q.2.2 0 (by omega)
    rw [Nat.add_zero] at q0
    rw [q0, q.2.2 1 (by omega)]
    exact d3 z
section FILL
variable {w : Wd} {L : Nat} {h : Hp}
/-- Arrays.fill(int[], int) -/
theorem fillI_loop {Q : Hp → Prop} {a N : Nat} {x : Int32} (hN : N < 2147483648) (hsa : hs h a = (1, N)) (K : ∀ h', Chg (fun id => id = a) h h' → hL h' = hL h → (∀ j, j < N → hI h' a j = x) → Q h') :
    ∀ (n i : Nat) (h' : Hp), i + n = N → Chg (fun id => id = a) h h' → hL h' = hL h → (∀ j, j < i → hI h' a j = x) → AW w mJ7_fill_53178 0 0 (rV Q) 0 0 5 [some (.ref a), some (.int x), some (.int (nI i)), some (.int (nI N))] [] h' := by
  intro n
  induction n with
  | zero =>
    intro i h' hi hc hl hx
    refine sJ7_fill_53178_5 ⟨fun _ => K h' hc hl (fun j hj => hx j (by omega)), fun c1 => ?_⟩
    rw [ti_le, nI_toInt (by omega), nI_toInt (by omega)] at c1
    omega
  | succ n ih =>
    intro i h' hi hc hl hx
    have hs' : hs h' a = (1, N) := by rw [hc.2.1]; exact hsa
    refine sJ7_fill_53178_5 ⟨fun c1 => ?_, fun c1 => ⟨by rw [hs'], by rw [hs']; exact vp_nI (by omega) hN, fun h1 e1 => ?_⟩⟩
    · rw [ti_le, nI_toInt (by omega), nI_toInt (by omega)] at c1
      omega
    · subst e1
      rw [nI_1, cl_nI (by omega)]
      refine ih (i + 1) _ (by omega) (hc.sI rfl) hl (fun j hj => ?_)
      by_cases e : j = i
      · subst e; exact hI_eq
      · rw [hI_ne (Or.inr e)]; exact hx j (by omega)
theorem sp_fillI {Q : Hp → Prop} {a N : Nat} {x : Int32} (hN : N < 2147483648) (hsa : hs h a = (1, N)) (K : ∀ h', Chg (fun id => id = a) h h' → hL h' = hL h → (∀ j, j < N → hI h' a j = x) → Q h') : AC w mJ7_fill_53178 0 0 (rV Q) [.ref a, .int x] h := by
  refine eJ7_fill_53178 (sJ7_fill_53178_0 ⟨by rw [hsa], ?_⟩)
  rw [hsa]
  exact fillI_loop hN hsa K N 0 h (by omega) (Chg.rfl' h) rfl (fun j hj => by omega)
theorem sp_holdRow {Q : Hp → Prop} {s n : Nat} (c : Lay L h) (hs8 : s < 8) (K : ∀ h', Chg (fun id => id = 331 + 2 * s ∨ id = 332 + 2 * s) h h' → hL h' = hL h → hI h' (331 + 2 * s) 0 = 3 → hI h' (331 + 2 * s) 1 = nI n → (∀ j, j < 30 → hI h' (332 + 2 * s) j = 0) → Q h') : AC w mX5_holdRow 0 0 (rV Q) [.ref (331 + 2 * s), .int (nI n)] h := by
  refine eX5_holdRow (sX5_holdRow_0 ⟨by rw [s_slot c hs8], fun h1 e1 h2 e2 => ⟨by rw [r_cells c hs8]; omega, ?_⟩⟩)
  subst e1
  subst e2
  rw [r_cells c hs8]
  refine sp_fillI (N := 30) (by decide) (s_cells c hs8) (fun h' hc hl hx => ?_)
  refine K h' ?_ hl ?_ ?_ hx
  · exact (((Chg.rfl' h).sI (Or.inl rfl)).sI (Or.inl rfl)).trans (hc.mono (fun id q => Or.inr q))
  · rw [(hc.2.2.2 (331 + 2 * s) (by omega) 0).1, hI_ne (Or.inr (by decide)), hI_eq]
  · rw [(hc.2.2.2 (331 + 2 * s) (by omega) 1).1, hI_eq]
end FILL
/-- putRow: answer, desk, code -/
def fPutRow (dk : Nat → Dk) (cd s n : Int32) : Int32 × (Nat → Dk) × Int32 := if inR s 8 = true then (if 30 < n.toInt then (-100002, dk, cd) else if n.toInt < 0 then (0, dk, 4) else (n, setD dk s.toNatClampNeg (3, n.toNatClampNeg, (fun _ => 0), (dk s.toNatClampNeg).2.2.2), 0)) else (-100001, dk, cd)
section PR
variable {w : Wd} {L : Nat} {h : Hp} {Q : Int32 → Hp → Prop} {dk : Nat → Dk} {cd : Int32}
theorem sp_putRow {s n : Int32} (c : Lay L h) (D : deskC h dk) (hc : hI h 5 10 = cd) (K : ∀ h', DC h h' (fPutRow dk cd s n).2.1 (fPutRow dk cd s n).2.2 → Q (fPutRow dk cd s n).1 h') : AC w mX9_putRow 0 0 (rI Q) [.ref 5, .int s, .int n] h := by
  refine eX9_putRow (sX9_putRow_0 ⟨by rw [s_5 c], sp_isSlot ⟨fun c1 => ?_, fun c1 => ?_⟩⟩)
  · rw [b01_ne] at c1
    obtain ⟨j, hj, rfl⟩ := inR_nI c1 (by decide)
    have hj31 : j < 2147483648 := by omega
    have e : fPutRow dk cd (nI j) n = (if 30 < n.toInt then (-100002, dk, cd) else if n.toInt < 0 then (0, dk, 4) else (n, setD dk j (3, n.toNatClampNeg, (fun _ => 0), (dk j).2.2.2), 0)) := by rw [fPutRow, if_pos c1, cl_nI hj31]
    rw [e] at K
    refine ⟨fun c2 => ⟨fun c3 => ?_, fun c3 => ?_⟩, fun c2 => ?_⟩
    · rw [ti_le, t_30] at c2
      rw [ti_le, t_0] at c3
      rw [if_neg (by omega), if_neg (by omega)] at K
      obtain ⟨m, hm, rfl⟩ := ti_nI (n := 31) c3 (by omega) (by decide)
      rw [cl_nI (by omega)] at K
      simp only [s_5 c, r_5_9 c, s_330 c, cl_nI hj31, r_desk c hj, s_slot c hj]
      refine ⟨trivial, by decide, trivial, vp_nI hj (by decide), by omega, trivial, sp_holdRow c hj (fun h' hch hl e0 e1 ex => ?_)⟩
      have c' : Lay L h' := hch.lay c (fun id q => by omega)
      have DD : DC h h' (setD dk j (3, m, (fun _ => 0), (dk j).2.2.2)) cd := by
        refine ⟨hch.mono (fun id q => Or.inr (by omega)), fun k hk => (hch.2.2.2 5 (by omega) k).1, D.upd (fun t ht hne i => ⟨(hch.2.2.2 _ (by omega) i).1, (hch.2.2.2 _ (by omega) i).1⟩) ⟨⟨by show 3 ≤ 3; omega, by show m ≤ 30; omega⟩, e0, fun _ => ⟨e1, fun i hi => ex i (by have : i < m := hi; omega)⟩, fun q => ?_⟩, by rw [(hch.2.2.2 5 (by omega) 10).1]; exact hc⟩
        have : (3 : Nat) = 2 := q
        omega
      exact ⟨by rw [s_5 c'], sp_fine c' (K _ DD.code)⟩
    · rw [ti_le, t_30] at c2
      rw [ti_le, t_0] at c3
      rw [if_neg (by omega), if_pos (by omega)] at K
      exact ⟨by rw [s_5 c], sp_meet c (K _ (DC.refl D hc).code)⟩
    · rw [ti_le, t_30] at c2
      rw [if_pos (by omega)] at K
      exact K h (DC.refl D hc)
  · rw [b01_eq] at c1
    have e : fPutRow dk cd s n = (-100001, dk, cd) := by rw [fPutRow, c1]; rfl
    rw [e] at K
    exact K h (DC.refl D hc)
theorem putRowM_57 {s m : Nat} (c : Lay L h) (hs8 : s < 8) (hm : m ≤ 30) (K : ∀ h', Chg (fun id => id = 384) h h' → hL h' = hL h → (∀ j, j < m → hI h' 384 (30 * s + j) = 0) → (∀ j, (j < 30 * s ∨ 30 * s + 30 ≤ j) → hI h' 384 j = hI h 384 j) → Q (nI m) h') :
    ∀ (n i : Nat) (h' : Hp), i + n = m → Chg (fun id => id = 384) h h' → hL h' = hL h → (∀ j, j < i → hI h' 384 (30 * s + j) = 0) → (∀ j, (j < 30 * s ∨ 30 * s + 30 ≤ j) → hI h' 384 j = hI h 384 j) → AW w mX10_putRow 0 0 (rI Q) 0 0 57 [some (.ref 347), some (.int (nI s)), some (.int (nI m)), some (.int (nI i))] [] h' := by
  intro n
  induction n with
  | zero =>
    intro i h' hi hch hl hx ho
    refine sX10_putRow_57 ⟨fun _ => K h' hch hl (fun j hj => hx j (by omega)) ho, fun c1 => ?_⟩
    rw [ti_le, nI_toInt (by omega), nI_toInt (by omega)] at c1
    omega
  | succ n ih =>
    intro i h' hi hch hl hx ho
    have c' : Lay L h' := hch.lay c (fun id q => by omega)
    refine sX10_putRow_57 ⟨fun c1 => ?_, fun c1 => ?_⟩
    · rw [ti_le, nI_toInt (by omega), nI_toInt (by omega)] at c1
      omega
    · simp only [s_347 c', r_347_56 c', s_384 c', e30, nI_1, cl_nI (show 30 * s + i < 2147483648 by omega)]
      refine ⟨trivial, by decide, trivial, vp_nI (by omega) (by decide), fun h1 e1 => ?_⟩
      subst e1
      refine ih (i + 1) _ (by omega) (hch.sI rfl) hl (fun j hj => ?_) (fun j hj => ?_)
      · by_cases e : j = i
        · subst e; exact hI_eq
        · rw [hI_ne (Or.inr (by omega))]; exact hx j (by omega)
      · rw [hI_ne (Or.inr (by omega))]; exact ho j hj
theorem sp_putRowM {s n : Int32} (c : Lay L h) (D : deskM h dk) (hc : hI h 347 19 = cd) (K : ∀ h', DM h h' (fPutRow dk cd s n).2.1 (fPutRow dk cd s n).2.2 → Q (fPutRow dk cd s n).1 h') : AC w mX10_putRow 0 0 (rI Q) [.ref 347, .int s, .int n] h := by
  refine eX10_putRow (sX10_putRow_0 (sp_isSlotM ⟨fun c1 => ?_, fun c1 => ?_⟩))
  · rw [b01_ne] at c1
    obtain ⟨j, hj, rfl⟩ := inR_nI c1 (by decide)
    have hj31 : j < 2147483648 := by omega
    have e : fPutRow dk cd (nI j) n = (if 30 < n.toInt then (-100002, dk, cd) else if n.toInt < 0 then (0, dk, 4) else (n, setD dk j (3, n.toNatClampNeg, (fun _ => 0), (dk j).2.2.2), 0)) := by rw [fPutRow, if_pos c1, cl_nI hj31]
    rw [e] at K
    refine ⟨fun c2 => ⟨fun c3 => ?_, fun c3 => ?_⟩, fun c2 => ?_⟩
    · rw [ti_le, t_30] at c2
      rw [ti_le, t_0] at c3
      rw [if_neg (by omega), if_neg (by omega)] at K
      obtain ⟨m, hm, rfl⟩ := ti_nI (n := 31) c3 (by omega) (by decide)
      rw [cl_nI (by omega)] at K
      refine sX10_putRow_29 ⟨by rw [s_347 c], fun h1 e1 => ⟨by rw [s_347 c], fun _ => ?_, fun c4 => ?_⟩⟩
      · subst e1
        simp only [r_347_54 c, s_382 c, r_347_55 c, s_383 c, cl_nI hj31]
        refine ⟨by decide, trivial, vp_nI hj (by decide), fun h2 e2 => ⟨by decide, trivial, vp_nI hj (by decide), fun h3 e3 => ?_⟩⟩
        subst e2
        subst e3
        have hc0 : Chg dmId h (sI (sI (sI h 347 19 0) 382 j 3) 383 j (nI m)) := (((Chg.rfl' h).sI (Or.inl rfl)).sI (Or.inr (by omega))).sI (Or.inr (by omega))
        have c' : Lay L (sI (sI (sI h 347 19 0) 382 j 3) 383 j (nI m)) := hc0.lay c (fun id q => by rcases q with q | q <;> omega)
        refine putRowM_57 c' hj (by omega) (fun h' hch hl hx ho => ?_) m 0 _ (by omega) (Chg.rfl' _) rfl (fun j hj => by omega) (fun _ _ => rfl)
        refine K h' ⟨hc0.trans (hch.mono (fun id q => Or.inr (by omega))), fun k hk => ?_, hl, D.upd (fun t ht hne => ⟨?_, ?_, fun i hi => ?_⟩) ⟨⟨by show 3 ≤ 3; omega, by show m ≤ 30; omega⟩, ?_, fun _ => ⟨?_, fun i hi => hx i hi⟩, fun q => ?_⟩, ?_⟩
        · rw [(hch.2.2.2 347 (by omega) k).1, hI_ne (Or.inl (by omega)), hI_ne (Or.inl (by omega)), hI_ne (Or.inr hk)]
        · rw [(hch.2.2.2 382 (by omega) t).1, hI_ne (Or.inl (by omega)), hI_ne (Or.inr hne), hI_ne (Or.inl (by omega))]
        · rw [(hch.2.2.2 383 (by omega) t).1, hI_ne (Or.inr hne), hI_ne (Or.inl (by omega)), hI_ne (Or.inl (by omega))]
        · rw [ho _ (by omega), hI_ne (Or.inl (by omega)), hI_ne (Or.inl (by omega)), hI_ne (Or.inl (by omega))]
        · rw [(hch.2.2.2 382 (by omega) j).1, hI_ne (Or.inl (by omega)), hI_eq]; rfl
        · rw [(hch.2.2.2 383 (by omega) j).1, hI_eq]
        · have : (3 : Nat) = 2 := q
          omega
        · rw [(hch.2.2.2 347 (by omega) 19).1, hI_ne (Or.inl (by omega)), hI_ne (Or.inl (by omega)), hI_eq]
      · subst e1
        rw [hI_eq] at c4
        exact absurd (by decide) c4
    · rw [ti_le, t_30] at c2
      rw [ti_le, t_0] at c3
      rw [if_neg (by omega), if_pos (by omega)] at K
      refine sX10_putRow_29 ⟨by rw [s_347 c], fun h1 e1 => ⟨by rw [s_347 c], fun c4 => ?_, fun c4 => ?_⟩⟩
      · subst e1
        rw [hI_eq] at c4
        exact absurd c4 (by decide)
      · subst e1
        exact K _ (DM.refl D hc).code
    · rw [ti_le, t_30] at c2
      rw [if_pos (by omega)] at K
      exact K h (DM.refl D hc)
  · rw [b01_eq] at c1
    have e : fPutRow dk cd s n = (-100001, dk, cd) := by rw [fPutRow, c1]; rfl
    rw [e] at K
    exact K h (DM.refl D hc)
end PR
