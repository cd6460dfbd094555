section AWH
variable {w : Wd} {M : Mi} {mc ms k n pc : Nat} {Q : Option Value → Hp → Prop} {loc : List (Option Value)} {stk : List Value} {h : Hp}
theorem aw_getf {a idx ci kf : Nat} {v : Value} (pc' : Nat) (d : decode M.2.1 pc = .ok (.getfield idx, 3)) (hp : pc + 3 = pc') (hf : FL M.1.cls idx ci kf) (ha : (hs h a).1 = 20 + ci) (hv : fval w h a kf (ftys ci kf) = cv w v) (K : AW w M mc ms Q k n pc' loc (v :: stk) h) : AW w M mc ms Q k n pc loc (.ref a :: stk) h := by
  subst hp
  intro p e s m args below meth c C E H locs ls hS hR hL
  obtain ⟨CC, T, N, hc, hk, hlk⟩ := hf
  obtain ⟨hin, hty, hnm⟩ := fok_all hc CC T N hc
  obtain ⟨i5, il⟩ := hR.id (id := a) (by omega) (by omega)
  obtain ⟨r, hr, cell, q1, q2, q3, q4⟩ := (hR.2.2.1 a i5 il).2.2.2 ci ha
  cases hc.symm.trans hr
  obtain ⟨hSl, hfc, kC, hkC, hkind⟩ := E.1.1 ci _ hc
  obtain ⟨cf, kf', fi, f, hi, hsl⟩ := hSl kf hk
  refine W.getf C.1.1 C.1.2.1 C.1.2.2.2.1 (C.1.2.2.2.2 _ hlk) hi (u_facts hfc hkC (u_lays C.1.2.2.2.2 hin hk) hi).1 q1 (by rw [q3]; exact fun h => by cases h) (v := cv w v) ?_ rfl rfl d (K p e s m args below meth c C E H locs ls hS hR hL)
  rw [hsl, q4 kf hk]
  exact congrArg some hv
theorem aw_getI {a idx ci kf : Nat} (pc' : Nat) (d : decode M.2.1 pc = .ok (.getfield idx, 3)) (hp : pc + 3 = pc') (hf : FL M.1.cls idx ci kf) (ht : ftys ci kf = .int ∨ ftys ci kf = .boolean) (ha : (hs h a).1 = 20 + ci) (K : AW w M mc ms Q k n pc' loc (.int (hI h a kf) :: stk) h) : AW w M mc ms Q k n pc loc (.ref a :: stk) h :=
  aw_getf pc' d hp hf ha (by rcases ht with q | q <;> rw [q] <;> rfl) K
theorem aw_getJ {a idx ci kf : Nat} (pc' : Nat) (d : decode M.2.1 pc = .ok (.getfield idx, 3)) (hp : pc + 3 = pc') (hf : FL M.1.cls idx ci kf) (ht : ftys ci kf = .long) (ha : (hs h a).1 = 20 + ci) (K : AW w M mc ms Q k n pc' loc (.long (hL h a kf) :: stk) h) : AW w M mc ms Q k n pc loc (.ref a :: stk) h :=
  aw_getf pc' d hp hf ha (by rw [ht]; rfl) K
def isRf (ty : FieldType) : Prop := ty ≠ .int ∧ ty ≠ .boolean ∧ ty ≠ .long
theorem fval_r {w : Wd} {h : Hp} {a k : Nat} {ty : FieldType} (ht : isRf ty) : fval w h a k ty = rv w (hR h a k) := by
  unfold fval
  cases ty <;> first | rfl | exact absurd rfl ht.1 | exact absurd rfl ht.2.1 | exact absurd rfl ht.2.2
theorem aw_getR {a b idx ci kf : Nat} (pc' : Nat) (d : decode M.2.1 pc = .ok (.getfield idx, 3)) (hp : pc + 3 = pc') (hf : FL M.1.cls idx ci kf) (ht : isRf (ftys ci kf)) (ha : (hs h a).1 = 20 + ci) (hb : hR h a kf = b) (h0 : b ≠ 0) (K : AW w M mc ms Q k n pc' loc (.ref b :: stk) h) : AW w M mc ms Q k n pc loc (.ref a :: stk) h :=
  aw_getf pc' d hp hf ha (by rw [fval_r ht, hb, rv_ne h0]; rfl) K
/-- a field is written: h' is h but for that place -/
theorem aw_putf {a idx ci kf : Nat} {v : Value} {h' : Hp} (pc' : Nat) (d : decode M.2.1 pc = .ok (.putfield idx, 3)) (hp : pc + 3 = pc') (hf : FL M.1.cls idx ci kf) (ha : (hs h a).1 = 20 + ci) (hfn : ∀ C T N, vwCl[ci]? = some (C, T, N) → (T kf).2.2.2 = false) (hn : narrow (ftys ci kf) (cv w v) = cv w v) (hft : fits (ftys ci kf) (cv w v) = true)
    (e1 : h'.1 = h.1) (es : hs h' = hs h) (eI : ∀ b j, b ≠ a → hI h' b j = hI h b j) (eL : ∀ b j, b ≠ a → hL h' b j = hL h b j) (eR : ∀ b j, b ≠ a → hR h' b j = hR h b j) (ev : ∀ j, fval w h' a j (ftys ci j) = updV (fun i => fval w h a i (ftys ci i)) kf (cv w v) j) (K : AW w M mc ms Q k n pc' loc stk h') : AW w M mc ms Q k n pc loc (v :: .ref a :: stk) h := by
  subst hp
  intro p e s m args below meth c C E H locs ls hS hR hL
  obtain ⟨CC, T, N, hc, hk, hlk⟩ := hf
  obtain ⟨hin, hty, hnm⟩ := fok_all hc CC T N hc
  obtain ⟨i5, il⟩ := hR.id (id := a) (by omega) (by omega)
  have hap := va_apart (own := M.1.cls) (tys := []) C.1.2.2.2.2 hin (ftys ci) hty hnm E.1 hc
  obtain ⟨r, hr, cell, q1, q2, q3, q4⟩ := (hR.2.2.1 a i5 il).2.2.2 ci ha
  cases hc.symm.trans hr
  obtain ⟨hSl, hfc, kC, hkC, hkind⟩ := E.1.1 ci _ hc
  obtain ⟨cf, kf', fi, f, hi, hsl⟩ := hSl kf hk
  have hlay := C.1.2.2.2.2 _ (hin _ (u_in_lay hk))
  unfold u_lay at hlay
  rw [if_neg (by rw [hfn _ _ _ hc]; decide)] at hlay
  have hst := (u_facts hfc hkC (u_lays C.1.2.2.2.2 hin hk) hi).1
  have h6 := u_store hfc hkC hkind hlay hi (hty kf hk) hn hft
  refine W.putK C.1.1 C.1.2.1 (f := f) ⟨C.1.2.2.2.1, C.1.2.2.2.2 _ hlk, ⟨_, _, _, hi⟩, hst⟩ (by rw [q2]; exact h6) q1 q3 (by rw [hsl]; exact k2_hasslot (q4 kf hk)) rfl rfl d fun H' x1 x2 x3 => ?_
  rw [hsl] at x1
  have hA : fA w (ad w a) := by rw [ad_new i5]; exact Nat.le_add_right _ _
  refine K p e s m args below meth c C E H' _ ls (hS.put x2 x3 hA) (hR.put i5 x2 x3 e1 es eI eL eR ?_) hL
  refine ⟨fun z => ?_, fun z => ?_, fun z => ?_, fun ci' z => ?_⟩
  · rw [es] at z; omega
  · rw [es] at z; omega
  · rw [es] at z; omega
  · rw [es] at z
    have : ci' = ci := by omega
    subst this
    exact ⟨_, hc, _, x1, q2, q3, fun j hj => by show _ = some (fval w h' a j (ftys ci' j)); rw [ev j]; exact t_set q4 hap hk (cv w v) j hj⟩
theorem aw_putF {a idx ci kf : Nat} {v : Value} {h' : Hp} (pc' : Nat) (d : decode M.2.1 pc = .ok (.putfield idx, 3)) (hp : pc + 3 = pc') (hf : FL M.1.cls idx ci kf) (ha : (hs h a).1 = 20 + ci) (hfn : ∀ C T N, vwCl[ci]? = some (C, T, N) → (T kf).2.2.2 = true ∧ (T kf).1 = M.1.cls) (hin0 : M.1.name = "<init>") (hn : narrow (ftys ci kf) (cv w v) = cv w v) (hft : fits (ftys ci kf) (cv w v) = true)
    (e1 : h'.1 = h.1) (es : hs h' = hs h) (eI : ∀ b j, b ≠ a → hI h' b j = hI h b j) (eL : ∀ b j, b ≠ a → hL h' b j = hL h b j) (eR : ∀ b j, b ≠ a → hR h' b j = hR h b j) (ev : ∀ j, fval w h' a j (ftys ci j) = updV (fun i => fval w h a i (ftys ci i)) kf (cv w v) j) (K : AW w M mc ms Q k n pc' loc stk h') : AW w M mc ms Q k n pc loc (v :: .ref a :: stk) h := by
  subst hp
  intro p e s m args below meth c C E H locs ls hS hR hL
  obtain ⟨CC, T, N, hc, hk, hlk⟩ := hf
  obtain ⟨hin, hty, hnm⟩ := fok_all hc CC T N hc
  obtain ⟨i5, il⟩ := hR.id (id := a) (by omega) (by omega)
  have hap := va_apart (own := M.1.cls) (tys := []) C.1.2.2.2.2 hin (ftys ci) hty hnm E.1 hc
  obtain ⟨r, hr, cell, q1, q2, q3, q4⟩ := (hR.2.2.1 a i5 il).2.2.2 ci ha
  cases hc.symm.trans hr
  obtain ⟨hSl, hfc, kC, hkC, hkind⟩ := E.1.1 ci _ hc
  obtain ⟨cf, kf', fi, f, hi, hsl⟩ := hSl kf hk
  have hlay := C.1.2.2.2.2 _ (hin _ (u_in_lay hk))
  unfold u_lay at hlay
  rw [if_pos (hfn _ _ _ hc).1] at hlay
  have hst := (u_facts hfc hkC (u_lays C.1.2.2.2.2 hin hk) hi).1
  have hcf : m.cls = cf := by
    obtain ⟨_, _, c', _, _, _, -, -, hf', -, -, -, hown2, -⟩ := Cond.laysFinal_spec hlay
    have e1 : c' = cf := by have := hi.symm.trans hf'; simp at this; exact this.1.symm
    rw [(hfn _ _ _ hc).2] at hown2
    rw [← e1]; exact Option.some.inj (C.1.2.2.2.1.symm.trans hown2)
  have h6 := u_fits hfc hkC hkind (Or.inr hlay) hi (hty kf hk) hn hft
  refine W.putFinK C.1.1 C.1.2.1 C.1.2.2.2.1 (C.1.2.2.2.2 _ hlk) hi hst hcf (C.2.2.2.trans hin0) (by rw [q2]; exact h6) q1 q3 (by rw [hsl]; exact k2_hasslot (q4 kf hk)) rfl rfl d fun H' x1 x2 x3 => ?_
  rw [hsl] at x1
  have hA : fA w (ad w a) := by rw [ad_new i5]; exact Nat.le_add_right _ _
  refine K p e s m args below meth c C E H' _ ls (hS.put x2 x3 hA) (hR.put i5 x2 x3 e1 es eI eL eR ?_) hL
  refine ⟨fun z => ?_, fun z => ?_, fun z => ?_, fun ci' z => ?_⟩
  · rw [es] at z; omega
  · rw [es] at z; omega
  · rw [es] at z; omega
  · rw [es] at z
    have : ci' = ci := by omega
    subst this
    exact ⟨_, hc, _, x1, q2, q3, fun j hj => by show _ = some (fval w h' a j (ftys ci' j)); rw [ev j]; exact t_set q4 hap hk (cv w v) j hj⟩
/-- int[], read only or not -/
theorem aw_iald {a N : Nat} {i : Int32} (pc' : Nat) (d : decode M.2.1 pc = .ok (.iaload, 1)) (hp : pc + 1 = pc') (ha : hs h a = (1, N) ∨ hs h a = (4, N)) (hi : vp_in i N) (K : AW w M mc ms Q k n pc' loc (.int (hI h a i.toNatClampNeg) :: stk) h) : AW w M mc ms Q k n pc loc (.int i :: .ref a :: stk) h := by
  subst hp
  intro p e s m args below meth c C E H locs ls hS hR hL
  have hlt : i.toNatClampNeg < N := Nat.not_le.mp fun q => hi (Or.inr q)
  rcases ha with ha | ha
  · obtain ⟨i5, il⟩ := hR.id (id := a) (by simp [ha]) (by simp [ha])
    obtain ⟨cA, hK, hH⟩ := (hR.2.2.1 a i5 il).1 (by simp [ha])
    rw [ha] at hK hH
    exact W.iald (v := .int (hI h a i.toNatClampNeg)) C.1.1 C.1.2.1 hH ((hK.2 0 _ rfl).1 N (fun j => .int (hI h a j))) (fun q => by cases q) (by rw [arrV_size]; exact hi) (by rw [arrV_read _ _ hlt]) rfl rfl d (K p e s m args below meth c C E H locs ls hS hR hL)
  · obtain ⟨cell, t1, t2, t3, t4, t5, t6, t7⟩ := hR.2.2.2.1 a ((hR.2.1 a (by simp [ha])).2.2 (by simp [ha])) (by simp [ha])
    rw [ha] at t4 t6
    exact W.iald (v := .int (hI h a i.toNatClampNeg)) C.1.1 C.1.2.1 t1 t2 t3 (fun q => hi (q.elim Or.inl (fun z => Or.inr (Nat.le_trans t4 z)))) (t6 _ hlt) rfl rfl d (K p e s m args below meth c C E H locs ls hS hR hL)
theorem aw_bald {a N : Nat} {i : Int32} (pc' : Nat) (d : decode M.2.1 pc = .ok (.baload, 1)) (hp : pc + 1 = pc') (ha : hs h a = (2, N) ∨ hs h a = (3, N)) (hi : vp_in i N) (K : AW w M mc ms Q k n pc' loc (.int (hI h a i.toNatClampNeg) :: stk) h) : AW w M mc ms Q k n pc loc (.int i :: .ref a :: stk) h := by
  subst hp
  intro p e s m args below meth c C E H locs ls hS hR hL
  have hlt : i.toNatClampNeg < N := Nat.not_le.mp fun q => hi (Or.inr q)
  rcases ha with ha | ha
  · obtain ⟨i5, il⟩ := hR.id (id := a) (by simp [ha]) (by simp [ha])
    obtain ⟨cA, hK, hH⟩ := (hR.2.2.1 a i5 il).1 (by simp [ha])
    rw [ha] at hK hH
    exact W.bald (v := .int (hI h a i.toNatClampNeg)) C.1.1 C.1.2.1 hH ((hK.2 0 _ rfl).1 N (fun j => .int (hI h a j))) (fun q => by cases q) (by rw [arrV_size]; exact hi) (by rw [arrV_read _ _ hlt]) rfl rfl d (K p e s m args below meth c C E H locs ls hS hR hL)
  · obtain ⟨i5, il⟩ := hR.id (id := a) (by simp [ha]) (by simp [ha])
    obtain ⟨cA, hK, hH⟩ := (hR.2.2.1 a i5 il).1 (by simp [ha])
    rw [ha] at hK hH
    exact W.zald (v := .int (hI h a i.toNatClampNeg)) C.1.1 C.1.2.1 hH ((hK.2 0 _ rfl).1 N (fun j => .int (hI h a j))) (fun q => by cases q) (by rw [arrV_size]; exact hi) (by rw [arrV_read _ _ hlt]) rfl rfl d (K p e s m args below meth c C E H locs ls hS hR hL)
theorem aw_lald {a N : Nat} {i : Int32} (pc' : Nat) (d : decode M.2.1 pc = .ok (.laload, 1)) (hp : pc + 1 = pc') (ha : hs h a = (5, N)) (hi : vp_in i N) (K : AW w M mc ms Q k n pc' loc (.long (hL h a i.toNatClampNeg) :: stk) h) : AW w M mc ms Q k n pc loc (.int i :: .ref a :: stk) h := by
  subst hp
  intro p e s m args below meth c C E H locs ls hS hR hL'
  have hlt : i.toNatClampNeg < N := Nat.not_le.mp fun q => hi (Or.inr q)
  obtain ⟨i5, il⟩ := hR.id (id := a) (by simp [ha]) (by simp [ha])
  obtain ⟨cA, hK, hH⟩ := (hR.2.2.1 a i5 il).2.1 (by simp [ha])
  rw [ha] at hH
  exact W.lald (v := .long (hL h a i.toNatClampNeg)) C.1.1 C.1.2.1 hH ((hK.2 0 _ rfl).1 N (fun j => .long (hL h a j))) (fun q => by cases q) (by rw [arrV_size]; exact hi) (by rw [arrV_read _ _ hlt]) rfl rfl d (K p e s m args below meth c C E H locs ls hS hR hL')
theorem aw_aald {a b N kd : Nat} {i : Int32} (pc' : Nat) (d : decode M.2.1 pc = .ok (.aaload, 1)) (hp : pc + 1 = pc') (ha : hs h a = (kd, N)) (hkd : 6 ≤ kd ∧ kd ≤ 10) (hi : vp_in i N) (hb : hR h a i.toNatClampNeg = b) (h0 : b ≠ 0) (K : AW w M mc ms Q k n pc' loc (.ref b :: stk) h) : AW w M mc ms Q k n pc loc (.int i :: .ref a :: stk) h := by
  subst hp
  intro p e s m args below meth c C E H locs ls hS hR' hL'
  have hlt : i.toNatClampNeg < N := Nat.not_le.mp fun q => hi (Or.inr q)
  obtain ⟨i5, il⟩ := hR'.id (id := a) (by rw [ha]; show kd ≠ 0; omega) (by rw [ha]; show kd ≠ 4; omega)
  obtain ⟨cA, hK, hH⟩ := (hR'.2.2.1 a i5 il).2.2.1 (by rw [ha]; exact hkd)
  rw [ha] at hH hK
  have hrf : (kty kd).isReference = true := by
    rcases (show kd = 6 ∨ kd = 7 ∨ kd = 8 ∨ kd = 9 ∨ kd = 10 by omega) with rfl | rfl | rfl | rfl | rfl <;> rfl
  refine W.aald (v := .ref (ad w b)) (ty := kty kd) C.1.1 C.1.2.1 hH ((hK.2 0 _ rfl).1 N (fun j => rv w (hR h a j))) hrf (fun q => by cases q) (by rw [arrV_size]; exact hi) (by rw [arrV_read _ _ hlt, hb, rv_ne h0]) rfl rfl d (K p e s m args below meth c C E H locs ls hS hR' hL')
theorem aw_alen {a N : Nat} {v : Int32} (pc' : Nat) (d : decode M.2.1 pc = .ok (.arraylength, 1)) (hp : pc + 1 = pc') (ha : hs h a = (1, N) ∨ hs h a = (4, N) ∨ hs h a = (5, N)) (hv : Int32.ofNat N = v) (K : AW w M mc ms Q k n pc' loc (.int v :: stk) h) : AW w M mc ms Q k n pc loc (.ref a :: stk) h := by
  subst hp hv
  intro p e s m args below meth c C E H locs ls hS hR hL'
  rcases ha with ha | ha | ha
  · obtain ⟨i5, il⟩ := hR.id (id := a) (by simp [ha]) (by simp [ha])
    obtain ⟨cA, hK, hH⟩ := (hR.2.2.1 a i5 il).1 (by simp [ha])
    rw [ha] at hK hH
    exact W.alen (n := Int32.ofNat N) C.1.1 C.1.2.1 hH ((hK.2 0 _ rfl).1 N (fun j => .int (hI h a j))) (by rw [arrV_size] <;> rfl) rfl rfl d (K p e s m args below meth c C E H locs ls hS hR hL')
  · obtain ⟨cell, t1, t2, t3, t4, t5, t6, t7⟩ := hR.2.2.2.1 a ((hR.2.1 a (by simp [ha])).2.2 (by simp [ha])) (by simp [ha])
    rw [ha] at t5
    exact W.alen (n := Int32.ofNat N) C.1.1 C.1.2.1 t1 t2 t5 rfl rfl d (K p e s m args below meth c C E H locs ls hS hR hL')
  · obtain ⟨i5, il⟩ := hR.id (id := a) (by simp [ha]) (by simp [ha])
    obtain ⟨cA, hK, hH⟩ := (hR.2.2.1 a i5 il).2.1 (by simp [ha])
    rw [ha] at hH
    exact W.alen (n := Int32.ofNat N) C.1.1 C.1.2.1 hH ((hK.2 0 _ rfl).1 N (fun j => .long (hL h a j))) (by rw [arrV_size] <;> rfl) rfl rfl d (K p e s m args below meth c C E H locs ls hS hR hL')
end AWH
