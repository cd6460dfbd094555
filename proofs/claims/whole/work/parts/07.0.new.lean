/-! ===== making cells ===== -/
theorem Rp.push {w : Wd} {U : State} {h : Hp} {z : Nat × Nat} {H H1 : Heap} (r : Rp w U h H) (hz : z.1 ≠ 0 ∧ z.1 ≠ 4) (zs : H1.size = H.size + 1) (o : ∀ q, q < H.size → H1[q]? = H[q]?) (c : cellAt w U (mk h z) h.1 H1) : Rp w U (mk h z) H1 := by
  obtain ⟨r1, r2, r3, r4, r5⟩ := r
  have hsn : ∀ id, id ≠ h.1 → hs (mk h z) id = hs h id := fun id q => by show (if id = h.1 then z else _) = _; rw [if_neg q]; rfl
  have hss : hs (mk h z) h.1 = z := by show (if h.1 = h.1 then z else _) = _; rw [if_pos rfl]
  have hIn : ∀ id j, id ≠ h.1 → hI (mk h z) id j = hI h id j := fun id j q => by show (if id = h.1 then _ else _) = _; rw [if_neg q]; rfl
  have hLn : ∀ id j, id ≠ h.1 → hL (mk h z) id j = hL h id j := fun id j q => by show (if id = h.1 then _ else _) = _; rw [if_neg q]; rfl
  have hRn : ∀ id j, id ≠ h.1 → hR (mk h z) id j = hR h id j := fun id j q => by show (if id = h.1 then _ else _) = _; rw [if_neg q]; rfl
  refine ⟨⟨Nat.le_succ_of_le r1.1, ?_⟩, fun id q => ?_, fun id i5 il => ?_, fun id il ik => ?_, fun k k1 k2 => ?_⟩
  · show H1.size = w.2.2.1 + (h.1 + 1 - 5)
    have := r1.1
    rw [zs, r1.2]; omega
  · by_cases e : id = h.1
    · subst e
      rw [hss] at q ⊢
      exact ⟨Nat.lt_succ_self _, fun _ => r1.1, fun q4 => absurd q4 hz.2⟩
    · rw [hsn id e] at q ⊢
      exact ⟨Nat.lt_succ_of_lt (r2 id q).1, (r2 id q).2⟩
  · by_cases e : id = h.1
    · subst e; exact c
    · have hil : id < h.1 := by have : id < h.1 + 1 := il; omega
      refine (r3 id i5 hil).same (o _ ?_) (hsn id e) (fun j => hIn id j e) (fun j => hLn id j e) (fun j => hRn id j e)
      rw [r1.2, ad_new i5]; omega
  · have e : id ≠ h.1 := by have := r1.1; omega
    rw [hsn id e] at ik ⊢
    rw [show (fun j => Value.int (hI (mk h z) id j)) = (fun j => Value.int (hI h id j)) from funext fun j => by rw [hIn id j e]]
    exact (r4 id il ik).kept (fun a ha _ => o a ha)
  · exact (r5 k k1 k2).kept (fun a ha _ => o a ha)
theorem hI_mk (h : Hp) (z : Nat × Nat) (j : Nat) : hI (mk h z) h.1 j = 0 := if_pos rfl
theorem hL_mk (h : Hp) (z : Nat × Nat) (j : Nat) : hL (mk h z) h.1 j = 0 := if_pos rfl
theorem hR_mk (h : Hp) (z : Nat × Nat) (j : Nat) : hR (mk h z) h.1 j = 0 := if_pos rfl
theorem hs_mk (h : Hp) (z : Nat × Nat) : hs (mk h z) h.1 = z := if_pos rfl
def okT (ty : FieldType) : Bool := match ty with
  | .int => true
  | .boolean => true
  | .long => true
  | .object _ => true
  | .array _ => true
  | _ => false
theorem fval_mk {w : Wd} {h : Hp} {z : Nat × Nat} {j : Nat} {ty : FieldType} (ht : okT ty = true) : defaultValue ty = fval w (mk h z) h.1 j ty := by
  cases ty <;> first | (simp only [okT] at ht; cases ht; done) | (simp only [fval, hI_mk, hL_mk, hR_mk]; rfl)
theorem S_grow {w : Wd} {s : State} {H H1 : Heap} {locs : List Loc} (hS : va_S (fA w) s.heap H locs) (z : H.size ≤ H1.size) (o : ∀ q, q < H.size → H1[q]? = H[q]?) : va_S (fA w) s.heap H1 locs :=
  ⟨Nat.le_trans hS.1 z, fun x h1 h2 => (o x (Nat.lt_of_lt_of_le h1 hS.1)).trans (hS.2.1 x h1 h2), hS.2.2⟩
theorem Rp.grow {w : Wd} {U : State} {h h' : Hp} {H H1 : Heap} {m : Nat} (r : Rp w U h H) (e1 : h'.1 = h.1 + m) (zs : H1.size = H.size + m) (o : ∀ q, q < H.size → H1[q]? = H[q]?) (es : ∀ b, b < h.1 → hs h' b = hs h b) (eI : ∀ b j, b < h.1 → hI h' b j = hI h b j) (eL : ∀ b j, b < h.1 → hL h' b j = hL h b j) (eR : ∀ b j, b < h.1 → hR h' b j = hR h b j) (sh : ∀ b, h.1 ≤ b → (hs h' b).1 ≠ 0 → b < h.1 + m ∧ (hs h' b).1 ≠ 4) (c : ∀ b, h.1 ≤ b → b < h.1 + m → cellAt w U h' b H1) : Rp w U h' H1 := by
  obtain ⟨r1, r2, r3, r4, r5⟩ := r
  have r15 := r1.1
  refine ⟨⟨by omega, by rw [zs, r1.2, e1]; omega⟩, fun id q => ?_, fun id i5 il => ?_, fun id il ik => ?_, fun k k1 k2 => (r5 k k1 k2).kept (fun a ha _ => o a ha)⟩
  · by_cases e : id < h.1
    · rw [es id e] at q ⊢
      exact ⟨by have := (r2 id q).1; omega, (r2 id q).2⟩
    · obtain ⟨q1, q2⟩ := sh id (by omega) q
      exact ⟨by omega, fun _ => by omega, fun z => absurd z q2⟩
  · by_cases e : id < h.1
    · refine (r3 id i5 e).same (o _ ?_) (es id e) (fun j => eI id j e) (fun j => eL id j e) (fun j => eR id j e)
      rw [r1.2, ad_new i5]; omega
    · exact c id (by omega) (by omega)
  · have e : id < h.1 := by omega
    rw [es id e] at ik ⊢
    rw [show (fun j => Value.int (hI h' id j)) = (fun j => Value.int (hI h id j)) from funext fun j => by rw [eI id j e]]
    exact (r4 id il ik).kept (fun a ha _ => o a ha)
/-- new T[N][K]: the outer array, then its rows -/
def mkm (h : Hp) (kd ik N K : Nat) : Hp := (h.1 + 1 + N, (fun b => if b = h.1 then (kd, N) else if h.1 < b ∧ b < h.1 + 1 + N then (ik, K) else h.2.1 b), (fun b j => if h.1 ≤ b then 0 else h.2.2.1 b j), (fun b j => if h.1 ≤ b then 0 else h.2.2.2.1 b j), (fun b j => if b = h.1 then (if j < N then h.1 + 1 + j else 0) else if h.1 < b then 0 else h.2.2.2.2 b j))
theorem mkm_outer (c : ClassId) (N h0 : Nat) : ∀ i : Nat, Jvm.Free.Multi.outerC c N h0 i = arrV c N (fun j => va_rf (if j < i then some (h0 + 1 + j) else none))
  | 0 => by
    show ({ cls := c, slots := Array.replicate N .null, vm := .none } : Cell) = _
    rw [arrV_new]
    refine congrArg (arrV c N) (funext fun j => ?_)
    simp [va_rf]
  | i + 1 => by
    show (Jvm.Free.Multi.outerC c N h0 i).setSlot i (.ref (h0 + 1 + i)) = _
    rw [mkm_outer c N h0 i, arrV_store]
    refine congrArg (arrV c N) (funext fun j => ?_)
    by_cases e : j = i
    · subst e
      simp [updV, va_rf]
    · by_cases h : j < i
      · simp [updV, e, h, Nat.lt_succ_of_lt h]
      · simp [updV, e, h, show ¬ j < i + 1 by omega]
theorem K_one {w : Wd} {s : State} {cA : ClassId} {ty : FieldType} (E : En w s) (h1 : ArrOfT s cA ty) (h2 : va_RA s cA ty) : va_K w.2.1 vwCl [(cA, ty)] s := ⟨E.1.1, fun j q hq => by
    have : j < 1 := (List.getElem?_eq_some_iff.mp hq).1
    rw [show j = 0 by omega] at hq
    cases hq
    exact ⟨h1, h2⟩⟩
section AWN
variable {w : Wd} {M : Mi} {mc ms k n pc : Nat} {Q : Option Value → Hp → Prop} {loc : List (Option Value)} {stk : List Value} {h : Hp}
theorem aw_new {idx ci N : Nat} {C : String} {T : u_T} (pc' k' n' : Nat) (d : decode M.2.1 pc = .ok (.new idx, 3)) (hp : pc + 3 = pc') (hk' : k + 1 = k') (hn' : n + N = n') (hc : vwCl[ci]? = some (C, T, N)) (hl : Cond.classLink M.1.cls idx C ∈ gd) (hi : Cond.instantiable C N ∈ gd) (hini : Cond.initialized C ∈ gd) (hok : ∀ j, j < N → okT (ftys ci j) = true) (hk : k' ≤ mc) (hn : n' ≤ ms) (K : AW w M mc ms Q k' n' pc' loc (.ref h.1 :: stk) (mk h (20 + ci, 0))) : AW w M mc ms Q k n pc loc stk h := by
  subst hp hk' hn'
  intro p e s m args below meth c Cc E H locs ls hS hR hL
  obtain ⟨hin, hty, hnm⟩ := fok_all hc C T N hc
  have hKn := E.1.1 ci _ hc
  refine W.newcK Cc.1.1 Cc.1.2.1 Cc.1.2.2.2.1 (Cc.1.2.2.2.2 _ hl) (Cc.1.2.2.2.2 _ hi) (Cc.1.2.2.2.2 _ hini) rfl d hk hn hKn.2.1 rfl fun H1 kC hkC e1 z1 o1 => ?_
  have e0 : H.size = ad w h.1 := by rw [hR.1.2, ad_new hR.1.1]
  have hcell : cellAt w s (mk h (20 + ci, 0)) h.1 H1 := by
    refine ⟨fun q => ?_, fun q => ?_, fun q => ?_, fun ci' q => ?_⟩
    · rw [hs_mk] at q; exact absurd q.2 (by show ¬ 20 + ci ≤ 3; omega)
    · rw [hs_mk] at q; exact absurd q (by show 20 + ci ≠ 5; omega)
    · rw [hs_mk] at q; exact absurd q.2 (by show ¬ 20 + ci ≤ 10; omega)
    · rw [hs_mk] at q
      have : ci' = ci := by have : 20 + ci = 20 + ci' := q; omega
      subst this
      refine ⟨_, hc, ?_⟩
      rw [← e0]
      exact (u_born (ftys ci') Cc.1.2.2.2.2 hin hKn hkC e1 hty).to (fun j hj => fval_mk (hok j hj))
  have hR1 := hR.push (z := (20 + ci, 0)) ⟨by show 20 + ci ≠ 0; omega, by show 20 + ci ≠ 4; omega⟩ z1 o1 hcell
  have := K p e s m args below meth c Cc E H1 locs ls (S_grow hS (by omega) o1) hR1 hL
  rw [show H.size = ad w h.1 from e0]
  exact this
theorem aw_newa {at_ : ArrayType} {kd N : Nat} {x : Int32} (pc' k' n' : Nat) (d : decode M.2.1 pc = .ok (.newarray at_, 2)) (hp : pc + 2 = pc') (hk' : k + 1 = k') (hn' : n + N = n') (hty : newarray.typeOf at_ = kty kd) (hkd : kd = 1 ∨ kd = 2 ∨ kd = 3 ∨ kd = 5) (hw : Cond.arrayClass (kty kd) ∈ gd) (hx : ¬ x < 0) (hN : x.toNatClampNeg = N) (hb : N ≤ 60000000) (hk : k' ≤ mc) (hn : n' ≤ ms) (K : AW w M mc ms Q k' n' pc' loc (.ref h.1 :: stk) (mk h (kd, N))) : AW w M mc ms Q k n pc loc (.int x :: stk) h := by
  subst hp hk' hn'
  intro p e s m args below meth c Cc E H locs ls hS hR hLc
  have e0 : H.size = ad w h.1 := by rw [hR.1.2, ad_new hR.1.1]
  have hcb : componentBytes (newarray.typeOf at_) ≤ 8 := by rw [hty]; rcases hkd with rfl | rfl | rfl | rfl <;> decide
  refine va_newaK Cc.1.1 Cc.1.2.1 (by rw [hty]; exact Cc.1.2.2.2.2 _ hw) rfl d rfl hx hN (Nat.le_trans (Nat.mul_le_mul hb hcb) (by decide)) hk hn e0 fun H1 cA x1 z1 o1 hAr hNm => ?_
  rw [hty] at x1 hAr hNm
  rw [← e0] at z1 o1
  have hK : va_K w.2.1 vwCl [(cA, kty kd)] s := ⟨E.1.1, fun j q hq => by
    have : j < 1 := (List.getElem?_eq_some_iff.mp hq).1
    rw [show j = 0 by omega] at hq
    cases hq
    refine ⟨hAr, ?_⟩
    rcases hkd with rfl | rfl | rfl | rfl <;> exact hNm⟩
  have hcell : cellAt w s (mk h (kd, N)) h.1 H1 := by
    refine ⟨fun q => ?_, fun q => ?_, fun q => ?_, fun ci' q => ?_⟩
    · rw [hs_mk] at q ⊢
      refine ⟨cA, hK, ?_⟩
      rw [x1, show (fun j => Value.int (hI (mk h (kd, N)) h.1 j)) = (fun _ => Value.int 0) from funext fun j => by rw [hI_mk]]
      rcases hkd with rfl | rfl | rfl | rfl
      · rfl
      · rfl
      · rfl
      · exact absurd q.2 (by show ¬ 5 ≤ 3; omega)
    · rw [hs_mk] at q ⊢
      have q : kd = 5 := q
      subst q
      refine ⟨cA, hK, ?_⟩
      rw [x1, show (fun j => Value.long (hL (mk h (5, N)) h.1 j)) = (fun _ => Value.long 0) from funext fun j => by rw [hL_mk]]
      rfl
    · rw [hs_mk] at q; exact absurd q.1 (by show ¬ 6 ≤ kd; omega)
    · rw [hs_mk] at q; exact absurd q (by show kd ≠ 20 + ci'; omega)
  have hR1 := hR.push (z := (kd, N)) ⟨by show kd ≠ 0; omega, by show kd ≠ 4; omega⟩ z1 o1 hcell
  exact K p e s m args below meth c Cc E H1 locs ls (S_grow hS (by omega) o1) hR1 hLc
theorem aw_objInit {a idx : Nat} (pc' : Nat) (d : decode M.2.1 pc = .ok (.invokespecial idx, 3)) (hp : pc + 3 = pc') (hl : Cond.methodLink M.1.cls idx objectInit ∈ gd) (h1 : Cond.instanceMethod objectInit ∈ gd) (h2 : Cond.code objectInit ⟨#[0xb1]⟩ 1 none ∈ gd) (hf : 1 ≤ M.2.2.2.2.1) (hlo : (stk.map fun v => v.category).sum + 12 ≤ M.2.2.2.2.2) (K : AW w M mc ms Q k n pc' loc stk h) : AW w M mc ms Q k n pc loc (.ref a :: stk) h := by
  subst hp
  intro p e s m args below meth c C E H locs ls hS hR hL
  have hts := C.1.2.2.2.2
  refine W.objInit C.1.1 C.1.2.1 C.1.2.2.2.1 (hts _ hl) (hts _ h1) (hts _ h2) rfl (hL.1.trans C.1.2.2.1.symm) rfl d hf ?_ (K p e s m args below meth c C E H locs ls hS hR hL)
  show 2 * 0 + _ + 12 ≤ _
  rw [sum_cat]
  show 2 * 0 + _ + 12 ≤ M.2.2.2.2.2
  omega
theorem aw_callI {N : Mi} {a idx np mc' ms' : Nat} {Q' : Option Value → Hp → Prop} {st0 : List Value} (As : List Value) (pc' k' n' : Nat) (d : decode M.2.1 pc = .ok (.invokespecial idx, 3)) (hp : pc + 3 = pc') (hk' : k + mc' = k') (hn' : n + ms' = n') (hm : MLI M.1.cls idx N np) (hro : roomOk M N) (hn : As.length = np) (hst : As.reverse ++ .ref a :: stk = st0) (hsum : (stk.map fun v => v.category).sum ≤ 8) (hk : k' ≤ mc) (hnn : n' ≤ ms)
    (A : AC w N mc' ms' Q' (.ref a :: As) h) (K : ∀ r h', Q' r h' → AW w M mc ms Q k' n' pc' loc (r.toList ++ stk) h') : AW w M mc ms Q k n pc loc st0 h := by
  subst hp hst hk' hn'
  intro p e s m args below meth c C E H locs ls hS hR hL
  obtain ⟨m1, m2, m3, m3', m4, m5, m6⟩ := hm
  have hts := C.1.2.2.2.2
  have hcw : CallB (rmO M mc ms) s args M.1.cls idx N.1 N.2.1 N.2.2.1 none (wsM N) (rmO N mc' ms') mc' ms' np ∧ N.1.name = "<init>" ∧ (Cond.instanceMethod N.1).before args s = true := ⟨by rw [← m3']; exact callB_of np hts (good_ws m5) rfl rfl rfl (hts _ m4) (hts _ m1) m6 hro, m3, hts _ m2⟩
  rw [map_rev]
  refine run_go (va_runI (As := As.map (cv w)) (rest := stk.map (cv w)) (b := ad w a) (n := np) C.1 A hcw ⟨Pw_blind w _ h, Pw_pre _ E hR⟩ rfl (by rw [List.length_map]; exact hn) hL.1 rfl (lv_room (by rw [sum_cat]; exact hsum)) d ⟨hk, hnn⟩) hS (fun r h' H1 locs1 hq hS1 hR1 => ?_)
  rw [← opt_map]
  exact K r h' hq p e s m args below meth c C E H1 locs1 ls hS1 hR1 hL
theorem aw_callIN {N : Mi} {a idx np mc' ms' : Nat} {Q' : Option Value → Hp → Prop} {st0 : List Value} (As : List Value) (pc' k' n' : Nat) (d : decode M.2.1 pc = .ok (.invokespecial idx, 3)) (hp : pc + 3 = pc') (hk' : k + mc' = k') (hn' : n + ms' = n') (hm : MLIN M.1.cls idx N np) (hro : roomOk M N) (hn : As.length = np) (hst : As.reverse ++ .ref a :: stk = st0) (hsum : (stk.map fun v => v.category).sum ≤ 8) (hk : k' ≤ mc) (hnn : n' ≤ ms)
    (A : AC w N mc' ms' Q' (.ref a :: As) h) (K : ∀ r h', Q' r h' → AW w M mc ms Q k' n' pc' loc (r.toList ++ stk) h') : AW w M mc ms Q k n pc loc st0 h := by
  subst hp hst hk' hn'
  intro p e s m args below meth c C E H locs ls hS hR hL
  obtain ⟨⟨host, m1⟩, m2, m3, m3', m4, m5, m6⟩ := hm
  have hts := C.1.2.2.2.2
  have hcw : va_CN (rmO M mc ms) s args M.1.cls idx N.1 host N.2.1 N.2.2.1 none (wsM N) (rmO N mc' ms') mc' ms' np ∧ N.1.name = "<init>" ∧ (Cond.instanceMethod N.1).before args s = true := ⟨by rw [← m3']; exact va_cnB np hts (good_ws m5) rfl rfl rfl (E.2.1 _ m1) (hts _ m4) m6 hro, m3, hts _ m2⟩
  rw [map_rev]
  refine run_go (va_runIN (As := As.map (cv w)) (rest := stk.map (cv w)) (b := ad w a) (n := np) C.1 A hcw ⟨Pw_blind w _ h, Pw_pre _ E hR⟩ rfl (by rw [List.length_map]; exact hn) hL.1 rfl (lv_room (by rw [sum_cat]; exact hsum)) d ⟨hk, hnn⟩) hS (fun r h' H1 locs1 hq hS1 hR1 => ?_)
  rw [← opt_map]
  exact K r h' hq p e s m args below meth c C E H1 locs1 ls hS1 hR1 hL
theorem aw_anewa {idx kd N : Nat} {x : Int32} {C : String} (pc' k' n' : Nat) (d : decode M.2.1 pc = .ok (.anewarray idx, 3)) (hp : pc + 3 = pc') (hk' : k + 1 = k') (hn' : n + N = n') (hl : Cond.classLink M.1.cls idx C ∈ gd) (ho : Cond.arrayOver (.object C) ∈ ovW) (hty : kty kd = .object C) (hkd : 9 ≤ kd ∧ kd ≤ 10) (hx : ¬ x < 0) (hN : x.toNatClampNeg = N) (hb : N ≤ 60000000) (hk : k' ≤ mc) (hn : n' ≤ ms) (K : AW w M mc ms Q k' n' pc' loc (.ref h.1 :: stk) (mk h (kd, N))) : AW w M mc ms Q k n pc loc (.int x :: stk) h := by
  subst hp hk' hn' hN
  intro p e s m args below meth c Cc E H locs ls hS hR' hLc
  have e0 : H.size = ad w h.1 := by rw [hR'.1.2, ad_new hR'.1.1]
  refine W.anew Cc.1.1 Cc.1.2.1 Cc.1.2.2.2.1 (Cc.1.2.2.2.2 _ hl) (show (Cond.arrayOver (.object C)).before args s = true from E.2.2 _ ho) rfl d rfl hx (by omega) hk hn fun cA kA comp f1 f2 f3 f4 => ?_
  generalize hH1 : H.push ({ cls := cA, slots := Array.replicate x.toNatClampNeg .null, vm := .none } : Cell) = H1
  have z1 : H1.size = H.size + 1 := by rw [← hH1, Array.size_push]
  have e1 : H1[H.size]? = some (arrV cA x.toNatClampNeg (fun _ => .null)) := by rw [← hH1, Array.getElem?_push_size, ← arrV_new]
  have o1 : ∀ q : Nat, q < H.size → H1[q]? = H[q]? := fun q hq => by rw [← hH1, Array.getElem?_push, if_neg (Nat.ne_of_lt hq)]
  have hAr : ArrOfT s cA (.object C) := fun N z => ⟨(fun k h => by cases h), kA, f2, comp, f3⟩
  have hK : va_K w.2.1 vwCl [(cA, kty kd)] s := by rw [hty]; exact K_one E hAr ⟨kA, comp, f2, f3, f4, f1⟩
  have hcell : cellAt w s (mk h (kd, x.toNatClampNeg)) h.1 H1 := by
    refine ⟨fun q => ?_, fun q => ?_, fun q => ?_, fun ci' q => ?_⟩
    · rw [hs_mk] at q; exact absurd q.2 (by show ¬ kd ≤ 3; omega)
    · rw [hs_mk] at q; exact absurd q (by show kd ≠ 5; omega)
    · rw [hs_mk]
      refine ⟨cA, hK, ?_⟩
      rw [← e0, e1, show (fun j => rv w (hR (mk h (kd, x.toNatClampNeg)) h.1 j)) = (fun _ => Value.null) from funext fun j => by rw [hR_mk]; rfl]
    · rw [hs_mk] at q; exact absurd q (by show kd ≠ 20 + ci'; omega)
  have hR1 := hR'.push (z := (kd, x.toNatClampNeg)) ⟨by show kd ≠ 0; omega, by show kd ≠ 4; omega⟩ z1 o1 hcell
  rw [e0]
  exact K p e s m args below meth c Cc E H1 locs ls (S_grow hS (by omega) o1) hR1 hLc
theorem aw_mna {idx kd ik N K' : Nat} {x y : Int32} {ty : FieldType} {nm : String} (pc' k' n' : Nat) (d : decode M.2.1 pc = .ok (.multianewarray idx 2, 4)) (hp : pc + 4 = pc') (hk' : k + (1 + N) = k') (hn' : n + (N + N * K') = n') (hl : Cond.classLink M.1.cls idx nm ∈ gd) (ho : Cond.arrayOver (.array ty) ∈ ovW) (ha : Cond.arrayClass ty ∈ gd) (hnm : nm = "[" ++ (FieldType.array ty).toString) (hky : kty kd = .array ty ∧ kty ik = ty) (hkd : kd = 6 ∧ ik = 1 ∨ kd = 7 ∧ ik = 2 ∨ kd = 8 ∧ ik = 5) (hx : ¬ x < 0 ∧ ¬ y < 0) (hN : x.toNatClampNeg = N) (hKK : y.toNatClampNeg = K') (hb : N ≤ 60000000 ∧ K' ≤ 60000000) (hk : k' ≤ mc) (hn : n' ≤ ms) (K : AW w M mc ms Q k' n' pc' loc (.ref h.1 :: stk) (mkm h kd ik N K')) : AW w M mc ms Q k n pc loc (.int y :: .int x :: stk) h := by
  subst hp hk' hn' hN hKK hnm
  intro p e s m args below meth c Cc E H locs ls hS hR' hLc
  have e0 : H.size = ad w h.1 := by rw [hR'.1.2, ad_new hR'.1.1]
  have hcb : componentBytes ty ≤ 8 ∧ fits ty (defaultValue ty) = true ∧ (defaultValue ty).isDefault = true := by
    rw [← hky.2]
    rcases hkd with ⟨-, rfl⟩ | ⟨-, rfl⟩ | ⟨-, rfl⟩ <;> decide
  intro T hT X
  obtain ⟨vm₁, cA, comp, -, fAc, fC, hO, hIn, X', step⟩ := X.multianewarray2F Cc.1.1 Cc.1.2.2.2.1 (Cc.1.2.2.2.2 _ hl) (show (Cond.arrayOver (.array ty)).before args s = true from E.2.2 _ ho) (Cc.1.2.2.2.2 _ ha) (g := F0 m pc ls (.int y :: .int x :: stk.map (cv w))) rfl (by rw [Cc.1.2.1]; exact d) rfl hx.1 hx.2 (by omega) (Nat.le_trans (Nat.mul_le_mul hb.2 hcb.1) (by decide)) (by omega) hcb.2.1 hcb.2.2 hk hn
  generalize hF : Jvm.Free.Multi.fill (T.setVm vm₁) cA comp x.toNatClampNeg y.toNatClampNeg (defaultValue ty) x.toNatClampNeg = F at X' step
  have hTh : (T.setVm vm₁).heap = H := hT
  obtain ⟨f1, f2, -, -⟩ := Jvm.Free.Multi.fill_facts (T.setVm vm₁) cA comp x.toNatClampNeg y.toNatClampNeg (defaultValue ty) x.toNatClampNeg
  rw [hF, hTh] at f1 f2
  have hold : ∀ a : Nat, a < H.size → F.heap[a]? = H[a]? := fun a ha => by
    have := Jvm.Free.Multi.fill_old (T.setVm vm₁) cA comp x.toNatClampNeg y.toNatClampNeg (defaultValue ty) (a := a) (by rw [hTh]; exact ha) x.toNatClampNeg
    rw [hF, hTh] at this
    exact this
  have hrow : ∀ j : Nat, j < x.toNatClampNeg → F.heap[H.size + 1 + j]? = some (arrV comp y.toNatClampNeg (fun _ => defaultValue ty)) := fun j hj => by
    have := Jvm.Free.Multi.fill_inner (T.setVm vm₁) cA comp x.toNatClampNeg y.toNatClampNeg (defaultValue ty) x.toNatClampNeg j hj
    rw [hF, hTh] at this
    rw [this, ← arrV_new]
    rfl
  obtain ⟨-, kO, o2, oc, o3⟩ := (hO 0 0 0).1
  obtain ⟨-, kI, i2, ic, i3⟩ := (hIn 0 .null).1
  have hArO : ArrOfT s cA (.array ty) := fun N z => ⟨(fun k h => by cases h), kO, o2, oc, o3⟩
  have hArI : ArrOfT s comp ty := fun N z => ⟨(fun k h => by cases h), kI, i2, ic, i3⟩
  have hKO : va_K w.2.1 vwCl [(cA, kty kd)] s := by rw [hky.1]; exact K_one E hArO fAc
  have hKI : va_K w.2.1 vwCl [(comp, kty ik)] s := by
    rw [hky.2]
    refine K_one E hArI ?_
    have : s.vm.findClass ("[" ++ ty.toString) = some comp := fC
    rw [← hky.2] at this ⊢
    rcases hkd with ⟨-, rfl⟩ | ⟨-, rfl⟩ | ⟨-, rfl⟩ <;> exact this
  have hsO : hs (mkm h kd ik x.toNatClampNeg y.toNatClampNeg) h.1 = (kd, x.toNatClampNeg) := by show (if h.1 = h.1 then _ else _) = _; rw [if_pos rfl]
  have hsI : ∀ b, h.1 < b → b < h.1 + 1 + x.toNatClampNeg → hs (mkm h kd ik x.toNatClampNeg y.toNatClampNeg) b = (ik, y.toNatClampNeg) := fun b b1 b2 => by
    show (if b = h.1 then _ else if h.1 < b ∧ b < h.1 + 1 + x.toNatClampNeg then _ else _) = _
    rw [if_neg (by omega), if_pos ⟨b1, b2⟩]
  have hI0 : ∀ b j, h.1 ≤ b → hI (mkm h kd ik x.toNatClampNeg y.toNatClampNeg) b j = 0 := fun b j hb => if_pos hb
  have hL0 : ∀ b j, h.1 ≤ b → hL (mkm h kd ik x.toNatClampNeg y.toNatClampNeg) b j = 0 := fun b j hb => if_pos hb
  have hR1 : Rp w s (mkm h kd ik x.toNatClampNeg y.toNatClampNeg) F.heap := by
    refine hR'.grow (m := 1 + x.toNatClampNeg) (by show h.1 + 1 + x.toNatClampNeg = _; omega) (by rw [f1]; omega) hold (fun b hb => ?_) (fun b j hb => ?_) (fun b j hb => ?_) (fun b j hb => ?_) (fun b hb hq => ?_) (fun b b1 b2 => ?_)
    · show (if b = h.1 then _ else if h.1 < b ∧ b < h.1 + 1 + x.toNatClampNeg then _ else _) = _
      rw [if_neg (by omega), if_neg (by omega)]; rfl
    · show (if h.1 ≤ b then _ else _) = _
      rw [if_neg (by omega)]; rfl
    · show (if h.1 ≤ b then _ else _) = _
      rw [if_neg (by omega)]; rfl
    · show (if b = h.1 then _ else if h.1 < b then _ else _) = _
      rw [if_neg (by omega), if_neg (by omega)]; rfl
    · by_cases eb : b = h.1
      · subst eb
        rw [hsO]
        exact ⟨by omega, by show kd ≠ 4; omega⟩
      · by_cases eb2 : b < h.1 + 1 + x.toNatClampNeg
        · rw [hsI b (by omega) eb2]
          exact ⟨by omega, by show ik ≠ 4; omega⟩
        · have : hs (mkm h kd ik x.toNatClampNeg y.toNatClampNeg) b = hs h b := by
            show (if b = h.1 then _ else if h.1 < b ∧ b < h.1 + 1 + x.toNatClampNeg then _ else _) = _
            rw [if_neg eb, if_neg (by omega)]; rfl
          rw [this] at hq
          have := (hR'.2.1 b hq).1
          omega
    · have h5 := hR'.1.1
      by_cases eb : b = h.1
      · subst eb
        refine ⟨fun q => ?_, fun q => ?_, fun q => ?_, fun ci' q => ?_⟩
        · rw [hsO] at q; exact absurd q.2 (by show ¬ kd ≤ 3; omega)
        · rw [hsO] at q; exact absurd q (by show kd ≠ 5; omega)
        · rw [hsO]
          refine ⟨cA, hKO, ?_⟩
          rw [← e0, f2, mkm_outer]
          refine congrArg some (congrArg (arrV cA x.toNatClampNeg) (funext fun j => ?_))
          have hj : hR (mkm h kd ik x.toNatClampNeg y.toNatClampNeg) h.1 j = if j < x.toNatClampNeg then h.1 + 1 + j else 0 := by show (if h.1 = h.1 then _ else _) = _; rw [if_pos rfl]
          rw [hj]
          by_cases jl : j < x.toNatClampNeg
          · rw [if_pos jl, if_pos jl, rv_ne (by omega)]
            have hz := hR'.1.2
            have ha : ad w (h.1 + 1 + j) = w.2.2.1 + (h.1 + 1 + j - 5) := ad_new (by omega)
            have hq : H.size + 1 + j = ad w (h.1 + 1 + j) := by rw [ha, hz]; omega
            show Value.ref (H.size + 1 + j) = Value.ref (ad w (h.1 + 1 + j))
            rw [hq]
          · rw [if_neg jl, if_neg jl]; rfl
        · rw [hsO] at q; exact absurd q (by show kd ≠ 20 + ci'; omega)
      · have q0 := hsI b (by omega) (by omega)
        have hcb : F.heap[ad w b]? = some (arrV comp y.toNatClampNeg (fun _ => defaultValue ty)) := by
          have := hrow (b - h.1 - 1) (by omega)
          rw [← this, ad_new (by omega), hR'.1.2]
          congr 1
          omega
        refine ⟨fun q => ?_, fun q => ?_, fun q => ?_, fun ci' q => ?_⟩
        · rw [q0] at q ⊢
          refine ⟨comp, hKI, ?_⟩
          rw [hcb, show (fun j => Value.int (hI (mkm h kd ik x.toNatClampNeg y.toNatClampNeg) b j)) = (fun _ => Value.int 0) from funext fun j => by rw [hI0 b j b1], ← hky.2]
          rcases hkd with ⟨-, rfl⟩ | ⟨-, rfl⟩ | ⟨-, rfl⟩
          · rfl
          · rfl
          · exact absurd q.2 (by show ¬ 5 ≤ 3; omega)
        · rw [q0] at q ⊢
          have q : ik = 5 := q
          subst q
          refine ⟨comp, hKI, ?_⟩
          rw [hcb, show (fun j => Value.long (hL (mkm h kd 5 x.toNatClampNeg y.toNatClampNeg) b j)) = (fun _ => Value.long 0) from funext fun j => by rw [hL0 b j b1], ← hky.2]
          rfl
        · rw [q0] at q; exact absurd q.1 (by show ¬ 6 ≤ ik; omega)
        · rw [q0] at q; exact absurd q (by show ik ≠ 20 + ci'; omega)
  have hKK := K p e s m args below meth c Cc E F.heap locs ls (S_grow hS (by rw [f1]; omega) hold) hR1 hLc
  obtain ⟨t, a1, b1⟩ := hKK F rfl (by
    have : Stand p w.1 e (rmO M mc ms) s m args below meth c F locs (k + 1 + x.toNatClampNeg) (n + x.toNatClampNeg + x.toNatClampNeg * y.toNatClampNeg) := X'
    rw [show k + (1 + x.toNatClampNeg) = k + 1 + x.toNatClampNeg by omega, show n + (x.toNatClampNeg + x.toNatClampNeg * y.toNatClampNeg) = n + x.toNatClampNeg + x.toNatClampNeg * y.toNatClampNeg by omega]
    exact this)
  refine ⟨t, step t ?_, b1⟩
  rw [show T.heap.size = ad w h.1 by rw [hT]; exact e0]
  exact a1
end AWN
