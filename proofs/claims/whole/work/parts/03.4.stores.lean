theorem Rp.arrI {w : Wd} {U : State} {h : Hp} {H H1 : Heap} {a i : Nat} {x : Int32} {kd N : Nat} {cA : ClassId} (r : Rp w U h H) (i5 : 5 ≤ a) (ha : hs h a = (kd, N)) (hkd : 1 ≤ kd ∧ kd ≤ 3) (hK : va_K w.2.1 vwCl [(cA, kty kd)] U) (z : H1.size = H.size) (oq : ∀ q, q ≠ ad w a → H1[q]? = H[q]?)
    (e : H1[ad w a]? = some ((arrV cA N (fun j => .int (hI h a j))).setSlot i (.int x))) : Rp w U (sI h a i x) H1 := by
  refine r.put i5 z oq rfl rfl (fun b j hb => u2_n (Or.inl hb)) (fun _ _ _ => rfl) (fun _ _ _ => rfl) ⟨fun _ => ?_, fun q => ?_, fun q => ?_, fun ci q => ?_⟩
  · refine ⟨cA, by rw [hs_sI, ha]; exact hK, ?_⟩
    rw [e, hs_sI, ha, arrV_store]
    congr 2
    funext j
    rw [hI_sI]
    by_cases hj : j = i
    · subst hj; simp [updV, u2_s]
    · simp only [updV, if_neg hj]; rw [u2_n (Or.inr hj)]
  · rw [hs_sI, ha] at q; exact absurd q (by show kd ≠ 5; omega)
  · rw [hs_sI, ha] at q; exact absurd q.1 (by show ¬ 6 ≤ kd; omega)
  · rw [hs_sI, ha] at q; exact absurd q (by show kd ≠ 20 + ci; omega)
section AWS
variable {w : Wd} {M : Mi} {mc ms k n pc : Nat} {Q : Option Value → Hp → Prop} {loc : List (Option Value)} {stk : List Value} {h : Hp}
theorem aw_iast {a N : Nat} {i x : Int32} (pc' : Nat) (d : decode M.2.1 pc = .ok (.iastore, 1)) (hp : pc + 1 = pc') (ha : hs h a = (1, N)) (hi : vp_in i N) (K : AW w M mc ms Q k n pc' loc stk (sI h a i.toNatClampNeg x)) : AW w M mc ms Q k n pc loc (.int x :: .int i :: .ref a :: stk) h := by
  subst hp
  intro p e s m args below meth c C E H locs ls hS hR hL
  obtain ⟨i5, il⟩ := hR.id (id := a) (by simp [ha]) (by simp [ha])
  obtain ⟨cA, hK, hH⟩ := (hR.2.2.1 a i5 il).1 (by simp [ha])
  rw [ha] at hK hH
  have hA : fA w (ad w a) := by rw [ad_new i5]; exact Nat.le_add_right _ _
  refine W.iast C.1.1 C.1.2.1 hH ((hK.2 0 _ rfl).1 N (fun j => .int (hI h a j))) (fun q => by cases q) (by rw [arrV_size]; exact hi) rfl rfl d fun H1 x1 z oq => ?_
  exact K p e s m args below meth c C E H1 _ ls (hS.put z oq hA) (hR.arrI i5 ha (by decide) hK z oq x1) hL
theorem aw_bast {a N : Nat} {i x : Int32} (pc' : Nat) (d : decode M.2.1 pc = .ok (.bastore, 1)) (hp : pc + 1 = pc') (ha : hs h a = (2, N)) (hi : vp_in i N) (K : AW w M mc ms Q k n pc' loc stk (sI h a i.toNatClampNeg (vp_nar .byte x))) : AW w M mc ms Q k n pc loc (.int x :: .int i :: .ref a :: stk) h := by
  subst hp
  intro p e s m args below meth c C E H locs ls hS hR hL
  obtain ⟨i5, il⟩ := hR.id (id := a) (by simp [ha]) (by simp [ha])
  obtain ⟨cA, hK, hH⟩ := (hR.2.2.1 a i5 il).1 (by simp [ha])
  rw [ha] at hK hH
  have hA : fA w (ad w a) := by rw [ad_new i5]; exact Nat.le_add_right _ _
  refine W.bast C.1.1 C.1.2.1 hH ((hK.2 0 _ rfl).1 N (fun j => .int (hI h a j))) (fun q => by cases q) (by rw [arrV_size]; exact hi) rfl rfl d fun H1 x1 z oq => ?_
  refine K p e s m args below meth c C E H1 _ ls (hS.put z oq hA) (hR.arrI i5 ha (by decide) hK z oq ?_) hL
  rw [x1]; rfl
theorem aw_zast {a N : Nat} {i x : Int32} (pc' : Nat) (d : decode M.2.1 pc = .ok (.bastore, 1)) (hp : pc + 1 = pc') (ha : hs h a = (3, N)) (hi : vp_in i N) (K : AW w M mc ms Q k n pc' loc stk (sI h a i.toNatClampNeg (vp_nar .boolean x))) : AW w M mc ms Q k n pc loc (.int x :: .int i :: .ref a :: stk) h := by
  subst hp
  intro p e s m args below meth c C E H locs ls hS hR hL
  obtain ⟨i5, il⟩ := hR.id (id := a) (by simp [ha]) (by simp [ha])
  obtain ⟨cA, hK, hH⟩ := (hR.2.2.1 a i5 il).1 (by simp [ha])
  rw [ha] at hK hH
  have hA : fA w (ad w a) := by rw [ad_new i5]; exact Nat.le_add_right _ _
  refine W.zast C.1.1 C.1.2.1 hH ((hK.2 0 _ rfl).1 N (fun j => .int (hI h a j))) (fun q => by cases q) (by rw [arrV_size]; exact hi) rfl rfl d fun H1 x1 z oq => ?_
  refine K p e s m args below meth c C E H1 _ ls (hS.put z oq hA) (hR.arrI i5 ha (by decide) hK z oq ?_) hL
  rw [x1]; rfl
theorem aw_last {a N : Nat} {i : Int32} {x : Int64} (pc' : Nat) (d : decode M.2.1 pc = .ok (.lastore, 1)) (hp : pc + 1 = pc') (ha : hs h a = (5, N)) (hi : vp_in i N) (K : AW w M mc ms Q k n pc' loc stk (sL h a i.toNatClampNeg x)) : AW w M mc ms Q k n pc loc (.long x :: .int i :: .ref a :: stk) h := by
  subst hp
  intro p e s m args below meth c C E H locs ls hS hR hL'
  obtain ⟨i5, il⟩ := hR.id (id := a) (by simp [ha]) (by simp [ha])
  obtain ⟨cA, hK, hH⟩ := (hR.2.2.1 a i5 il).2.1 (by simp [ha])
  rw [ha] at hH
  have hA : fA w (ad w a) := by rw [ad_new i5]; exact Nat.le_add_right _ _
  refine W.last C.1.1 C.1.2.1 hH ((hK.2 0 _ rfl).1 N (fun j => .long (hL h a j))) (fun q => by cases q) (by rw [arrV_size]; exact hi) rfl rfl d fun H1 x1 z oq => ?_
  refine K p e s m args below meth c C E H1 _ ls (hS.put z oq hA) (hR.put i5 z oq rfl rfl (fun _ _ _ => rfl) (fun b j hb => u2_n (Or.inl hb)) (fun _ _ _ => rfl) ⟨fun q => ?_, fun _ => ?_, fun q => ?_, fun ci q => ?_⟩) hL'
  · rw [hs_sL, ha] at q; exact absurd q.2 (by show ¬ 5 ≤ 3; omega)
  · refine ⟨cA, hK, ?_⟩
    rw [x1, hs_sL, ha, arrV_store]
    congr 2
    funext j
    rw [hL_sL]
    by_cases hj : j = i.toNatClampNeg
    · subst hj; simp [updV, u2_s]
    · simp only [updV, if_neg hj]; rw [u2_n (Or.inr hj)]
  · rw [hs_sL, ha] at q; exact absurd q.1 (by show ¬ 6 ≤ 5; omega)
  · rw [hs_sL, ha] at q; exact absurd q (by show 5 ≠ 20 + ci; omega)
/-- a reference into an array of objects of class ci -/
theorem aw_aast {a b N kd ci : Nat} {i : Int32} (pc' : Nat) (d : decode M.2.1 pc = .ok (.aastore, 1)) (hp : pc + 1 = pc') (ha : hs h a = (kd, N)) (hkd : 9 ≤ kd ∧ kd ≤ 10) (hb : (hs h b).1 = 20 + ci) (hci : ∀ r, vwCl[ci]? = some r → kty kd = .object r.1) (hi : vp_in i N) (K : AW w M mc ms Q k n pc' loc stk (sR h a i.toNatClampNeg b)) : AW w M mc ms Q k n pc loc (.ref b :: .int i :: .ref a :: stk) h := by
  subst hp
  intro p e s m args below meth c C E H locs ls hS hR' hL'
  obtain ⟨i5, il⟩ := hR'.id (id := a) (by rw [ha]; show kd ≠ 0; omega) (by rw [ha]; show kd ≠ 4; omega)
  obtain ⟨cA, hK, hH⟩ := (hR'.2.2.1 a i5 il).2.2.1 (by rw [ha]; show 6 ≤ kd ∧ kd ≤ 10; omega)
  rw [ha] at hH hK
  have hA : fA w (ad w a) := by rw [ad_new i5]; exact Nat.le_add_right _ _
  have hlt : i.toNatClampNeg < N := Nat.not_le.mp fun q => hi (Or.inr q)
  have h0 : ¬ i < 0 := fun q => hi (Or.inl q)
  obtain ⟨b5, bl⟩ := hR'.id (id := b) (by omega) (by omega)
  obtain ⟨r, hr, cellV, g1, g2, g3, -⟩ := (hR'.2.2.1 b b5 bl).2.2.2 ci hb
  have hcls := (E.1.1 ci r hr).2
  have hRA := (hK.2 0 _ rfl).2
  dsimp only at hRA
  rw [hci r hr] at hRA
  obtain ⟨kA, comp, k1, k2, k3, -⟩ := hRA
  have hcomp : comp = w.2.1.1 ci := Option.some.inj (k3.symm.trans hcls.1)
  subst hcomp
  obtain ⟨kC, hkC, hkk⟩ := hcls.2
  refine W.aast C.1.1 C.1.2.1 hH (fun q h => by cases h) (fun h => by cases h) k1 k2 rfl hkC ⟨h0, by rw [arrV_size]; exact hlt⟩ g1 (fun q h => by rw [g3] at h; cases h) (by rw [g2]; exact hkC) (by rw [g2]; exact va_assign hcls) rfl rfl d fun H1 x1 z oq => ?_
  have hb0 : b ≠ 0 := by omega
  refine K p e s m args below meth c C E H1 _ ls (hS.put z oq hA) (hR'.put i5 z oq rfl rfl (fun _ _ _ => rfl) (fun _ _ _ => rfl) (fun b j hb => u2_n (Or.inl hb)) ⟨fun q => ?_, fun q => ?_, fun _ => ?_, fun ci q => ?_⟩) hL'
  · rw [hs_sR, ha] at q; exact absurd q.2 (by show ¬ kd ≤ 3; omega)
  · rw [hs_sR, ha] at q; exact absurd q (by show kd ≠ 5; omega)
  · refine ⟨cA, by rw [hs_sR, ha]; exact hK, ?_⟩
    rw [x1, hs_sR, ha, arrV_store]
    congr 2
    funext j
    rw [hR_sR]
    by_cases hj : j = i.toNatClampNeg
    · subst hj; simp [updV, u2_s, rv_ne hb0]
    · simp only [updV, if_neg hj]; rw [u2_n (Or.inr hj)]
  · rw [hs_sR, ha] at q; exact absurd q (by show kd ≠ 20 + ci; omega)
/-- the tables LEFT_SIDE (1), RIGHT_SIDE (2), BASE_PRICE (3) -/
theorem aw_gets {idx j : Nat} (pc' : Nat) (d : decode M.2.1 pc = .ok (.getstatic idx, 3)) (hp : pc + 3 = pc') (hj : 1 ≤ j ∧ j ≤ 3) (hl : Cond.fieldLink M.1.cls idx RX9 (snm j) "[I" ∈ gd) (K : AW w M mc ms Q k n pc' loc (.ref j :: stk) h) : AW w M mc ms Q k n pc loc stk h := by
  subst hp
  intro p e s m args below meth c C E H locs ls hS hR hL
  obtain ⟨cf, kf, fi, f, b, cell, h1, h2, h3, h4, h5, h6, h7, h8⟩ := hR.2.2.2.2 j hj.1 hj.2
  exact W.gets C.1.1 C.1.2.1 C.1.2.2.2.1 (C.1.2.2.2.2 _ hl) h1 h2 h3 h4 h5 (fun q => by rw [q] at h6; cases h6) h7 rfl d (K p e s m args below meth c C E H locs ls hS hR hL)
theorem aw_getsN {idx j : Nat} {host : String} (pc' : Nat) (d : decode M.2.1 pc = .ok (.getstatic idx, 3)) (hp : pc + 3 = pc') (hj : 1 ≤ j ∧ j ≤ 3) (hl : Cond.fieldLinkNest M.1.cls idx RX9 (snm j) "[I" host ∈ ngW) (K : AW w M mc ms Q k n pc' loc (.ref j :: stk) h) : AW w M mc ms Q k n pc loc stk h := by
  subst hp
  intro p e s m args below meth c C E H locs ls hS hR hL
  obtain ⟨cf, kf, fi, f, b, cell, h1, h2, h3, h4, h5, h6, h7, h8⟩ := hR.2.2.2.2 j hj.1 hj.2
  exact va_WgetsN C.1.1 C.1.2.1 C.1.2.2.2.1 (va_Nw.use rfl (E.2.1 _ hl)) h1 h2 h3 h4 h5 (fun q => by rw [q] at h6; cases h6) h7 rfl d (K p e s m args below meth c C E H locs ls hS hR hL)
end AWS
