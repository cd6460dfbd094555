/-! ===== entry, returns, calls ===== -/
theorem enl_args (w : Wd) : ∀ (av : List Value) (off i : Nat) (v : Value), (enl av)[i]? = some (some v) → (off + i, cv w v) ∈ lv_args off (av.map (cv w)) := by
  intro av
  induction av with
  | nil => intro off i v h; simp [enl] at h
  | cons a l ih =>
    intro off i v h
    have e : enl (a :: l) = (if a.category = 2 then [some a, none] else [some a]) ++ enl l := by simp [enl]
    rw [e] at h
    show _ ∈ (off, cv w a) :: lv_args (if (cv w a).category = 2 then off + 2 else off + 1) (l.map (cv w))
    rw [cv_cat]
    by_cases ha : a.category = 2
    · rw [if_pos ha] at h ⊢
      match i, h with
      | 0, h => simp at h; subst h; exact List.mem_cons_self
      | 1, h => simp at h
      | i + 2, h =>
        have := ih (off + 2) i v (by simpa using h)
        rw [show off + (i + 2) = off + 2 + i by omega]
        exact List.mem_cons_of_mem _ this
    · rw [if_neg ha] at h ⊢
      match i, h with
      | 0, h => simp at h; subst h; exact List.mem_cons_self
      | i + 1, h =>
        have := ih (off + 1) i v (by simpa using h)
        rw [show off + (i + 1) = off + 1 + i by omega]
        exact List.mem_cons_of_mem _ this
theorem enl_len (w : Wd) (av : List Value) : (lg_sl (av.map (cv w))).length = (enl av).length := by
  induction av with
  | nil => rfl
  | cons a l ih =>
    have e : enl (a :: l) = (if a.category = 2 then [some a, none] else [some a]) ++ enl l := by simp [enl]
    have e2 : lg_sl ((a :: l).map (cv w)) = (if a.category = 2 then [.val (cv w a), .second] else [.val (cv w a)]) ++ lg_sl (l.map (cv w)) := by simp [lg_sl, cv_cat]
    rw [e, e2, List.length_append, List.length_append, ih]
    by_cases ha : a.category = 2 <;> simp [ha]
/-- the contract out of the walk of the body -/
theorem AC.of {w : Wd} {M : Mi} {mc ms : Nat} {Q : Option Value → Hp → Prop} {av : List Value} {h : Hp} (hy : plainName M.1.cls = true) (hl : (enl av).length ≤ M.2.2.1) (K : AW w M mc ms Q 0 0 0 (enl av) [] h) : AC w M mc ms Q av h := by
  refine Met.ofW (cc := M.2.1) (maxL := M.2.2.1) (ret := M.2.2.2.1) hy rfl ?_
  intro p e s m args below meth c s₁ B hml hv
  obtain ⟨rfl, hE, hR⟩ := hv
  have hts := atoms_spec (ws := wsM M) B.pre
  rw [lg_entry_eq]
  have hl2 := lv_entry (av.map (cv w)) (n := M.2.2.1) (by rw [enl_len]; exact hl)
  refine K p e s m _ below meth c ⟨⟨B.exec, B.bytes, hml, findClass_of_methodNamed B.named, fun q hq => hts q (List.mem_cons_of_mem _ hq)⟩, B.returns, B.notSynchronized, (name_of_methodNamed B.named B.method).1⟩ hE s.heap [] _ va_S.rf hR ⟨hl2.1, hl2.2.1, fun i v hv => ?_⟩
  have := enl_args w av 0 i v hv
  rw [Nat.zero_add] at this
  exact hl2.2.2 _ this
theorem AW.conseq {w : Wd} {M : Mi} {mc ms k n pc : Nat} {Q Q' : Option Value → Hp → Prop} {loc : List (Option Value)} {stk : List Value} {h : Hp} (K : AW w M mc ms Q k n pc loc stk h) (hQ : ∀ r h', Q r h' → Q' r h') : AW w M mc ms Q' k n pc loc stk h := by
  intro p e s m args below meth c C E H locs ls hS hR hL T hT X
  obtain ⟨t, a, o, b1, b2, ⟨⟨r, h', b3, b4, b5⟩, b6⟩, b7⟩ := K p e s m args below meth c C E H locs ls hS hR hL T hT X
  exact ⟨t, a, o, b1, b2, ⟨⟨r, h', b3, hQ r h' b4, b5⟩, b6⟩, b7⟩
section AWC
variable {w : Wd} {M : Mi} {mc ms k n pc : Nat} {Q : Option Value → Hp → Prop} {loc : List (Option Value)} {stk : List Value} {h : Hp}
theorem aw_ireturn {v : Int32} (d : decode M.2.1 pc = .ok (.ireturn, 1)) (hr : M.2.2.2.1 = some .int) (hk : k ≤ mc) (hn : n ≤ ms) (K : Q (some (.int v)) h) : AW w M mc ms Q k n pc loc [.int v] h := by
  intro p e s m args below meth c C E H locs ls hS hR hL
  have hlocks := C.2.2.1
  refine W.widen hk hn ?_
  exact W.iret C.1.1 C.1.2.1 (C.2.1.trans hr) (fun t ht hW => ⟨⟨some (.int v), h, rfl, K, by rw [ht]; exact hR.moved hW.alike⟩, by rw [va_F, ht]; exact ⟨hS.1, hS.2.1⟩⟩) hS.2.2 d
theorem aw_zreturn {v : Int32} (d : decode M.2.1 pc = .ok (.ireturn, 1)) (hr : M.2.2.2.1 = some .boolean) (hz : v = 0 ∨ v = 1) (hk : k ≤ mc) (hn : n ≤ ms) (K : Q (some (.int v)) h) : AW w M mc ms Q k n pc loc [.int v] h := by
  intro p e s m args below meth c C E H locs ls hS hR hL
  have hlocks := C.2.2.1
  refine W.widen hk hn ?_
  exact W.zret C.1.1 C.1.2.1 (C.2.1.trans hr) (by rcases hz with rfl | rfl <;> rfl) (fun t ht hW => ⟨⟨some (.int v), h, rfl, K, by rw [ht]; exact hR.moved hW.alike⟩, by rw [va_F, ht]; exact ⟨hS.1, hS.2.1⟩⟩) hS.2.2 d
theorem aw_lreturn {v : Int64} (d : decode M.2.1 pc = .ok (.lreturn, 1)) (hr : M.2.2.2.1 = some .long) (hk : k ≤ mc) (hn : n ≤ ms) (K : Q (some (.long v)) h) : AW w M mc ms Q k n pc loc [.long v] h := by
  intro p e s m args below meth c C E H locs ls hS hR hL
  have hlocks := C.2.2.1
  refine W.widen hk hn ?_
  exact W.lret C.1.1 C.1.2.1 (C.2.1.trans hr) (fun t ht hW => ⟨⟨some (.long v), h, rfl, K, by rw [ht]; exact hR.moved hW.alike⟩, by rw [va_F, ht]; exact ⟨hS.1, hS.2.1⟩⟩) hS.2.2 d
theorem aw_return (d : decode M.2.1 pc = .ok (.return_, 1)) (hr : M.2.2.2.1 = none) (hk : k ≤ mc) (hn : n ≤ ms) (K : Q none h) : AW w M mc ms Q k n pc loc [] h := by
  intro p e s m args below meth c C E H locs ls hS hR hL
  have hlocks := C.2.2.1
  refine W.widen hk hn ?_
  exact W.vret C.1.1 C.1.2.1 (C.2.1.trans hr) (fun t ht hW => ⟨⟨none, h, rfl, K, by rw [ht]; exact hR.moved hW.alike⟩, by rw [va_F, ht]; exact ⟨hS.1, hS.2.1⟩⟩) hS.2.2 d
theorem run_go {p : Program} {l : Launch} {e : Env} {R : Room} {s : State} {m : MethodId} {args : Array Value} {below : List Frame} {meth : Method} {c : Code} {H : Heap} {locs : List Loc} {cells slots mc' ms' : Nat} {Z : State → Prop} {ls : Array Slot} {st0 rest : List Value} {a : Array Value} {Q' : Option Value → Hp → Prop}
    (hr : va_Run p l e R s m args below meth c H locs cells slots mc' ms' (F0 m pc ls st0) rest (Qw w Q' a) (fA w)) (hS : va_S (fA w) s.heap H locs)
    (kk : ∀ r h' H1 locs1, Q' r h' → va_S (fA w) s.heap H1 locs1 → Rp w s h' H1 → W p l e R s m args below meth c H1 locs1 (cells + mc') (slots + ms') Z (F0 m (pc + 3) ls ((r.map (cv w)).toList ++ rest))) : W p l e R s m args below meth c H locs cells slots Z (F0 m pc ls st0) := by
  intro T hT X
  obtain ⟨v, st₀, t, T', L, h0, X', hL, e1, e2, ⟨⟨r, h', hv, hq, hrp⟩, hz, hk⟩, st⟩ := hr T hT X
  cases hv
  rw [h0] at hz hk
  obtain ⟨t2, a1, b1⟩ := kk r h' T'.heap (locs ++ L) hq
    ⟨Nat.le_trans hS.1 (by rw [e1]; exact hz), fun q h1 h2 => by rw [e1, hk q (Nat.lt_of_lt_of_le h1 hS.1) h2]; exact hS.2.1 q h1 h2, fun q hq => by
      rcases List.mem_append.mp hq with h | h
      · exact hS.2.2 q h
      · exact hL q h⟩ (by rw [e1]; exact hrp.moved (by rw [← e2]; exact X'.warmed.alike.symm)) T' rfl X'
  exact ⟨t2, st t2 a1, b1⟩
/-- what is known of a callee -/
def Mk (N : Mi) (np : Nat) : Prop := Cond.initialized N.1.cls ∈ gd ∧ Cond.code N.1 N.2.1 N.2.2.1 N.2.2.2.1 ∈ gd ∧ (N.1.cls ≠ "java/lang/invoke/MethodHandle" ∧ N.1.cls ≠ "java/lang/invoke/VarHandle" ∧ (parseMethodDescriptor N.1.desc).map (fun d => d.parameters.length) = some np)
def MLV (own : String) (idx : Nat) (N : Mi) (np : Nat) : Prop := Cond.methodLink own idx N.1 ∈ gd ∧ Cond.instanceMethod N.1 ∈ gd ∧ Cond.selects N.1.cls N.1 N.1 ∈ gd ∧ Mk N np
def MLS (own : String) (idx : Nat) (N : Mi) (np : Nat) : Prop := Cond.methodLink own idx N.1 ∈ gd ∧ Cond.static N.1 ∈ gd ∧ Mk N np
def MLI (own : String) (idx : Nat) (N : Mi) (np : Nat) : Prop := Cond.methodLink own idx N.1 ∈ gd ∧ Cond.instanceMethod N.1 ∈ gd ∧ N.1.name = "<init>" ∧ N.2.2.2.1 = none ∧ Mk N np
def MLSN (own : String) (idx : Nat) (N : Mi) (np : Nat) : Prop := (∃ host, Cond.methodLinkNest own idx N.1 host ∈ ngW) ∧ Cond.static N.1 ∈ gd ∧ Mk N np
def MLIN (own : String) (idx : Nat) (N : Mi) (np : Nat) : Prop := (∃ host, Cond.methodLinkNest own idx N.1 host ∈ ngW) ∧ Cond.instanceMethod N.1 ∈ gd ∧ N.1.name = "<init>" ∧ N.2.2.2.1 = none ∧ Mk N np
def roomOk (M N : Mi) : Prop := N.2.2.2.2.1 + 1 ≤ M.2.2.2.2.1 ∧ 8 + (N.2.2.1 + 11) + N.2.2.2.2.2 ≤ M.2.2.2.2.2
theorem good_ws {N : Mi} (h : Cond.code N.1 N.2.1 N.2.2.1 N.2.2.2.1 ∈ gd) : GoodIn gd (wsM N) := by
  intro q hq
  rcases List.mem_cons.mp hq with rfl | hq
  · exact ⟨h, good_of_word (gd_good _ h)⟩
  · exact ⟨hq, good_of_word (gd_good _ hq)⟩
theorem Pw_blind (w : Wd) (av : List Value) (h : Hp) : FrameBlind (va_Pc av (Pw w h)) := by
  intro a U g mk q
  obtain ⟨q0, qE, qR⟩ := q
  exact ⟨q0, En.moved (s := U) (U := U.calling g mk a) (State.WarmedH.refl U) qE, Rp.moved (u := U) (U := U.calling g mk a) (Vm.Alike.refl U.vm) qR⟩
theorem Pw_pre {w : Wd} {s : State} {h : Hp} {H : Heap} (av : List Value) (E : En w s) (hR : Rp w s h H) : ∀ U : State, U.heap = H → s.WarmedH U.vm → va_Pc av (Pw w h) av.toArray U :=
  fun U hU hW => ⟨rfl, En.moved hW E, by rw [hU]; exact hR.moved hW.alike⟩
theorem map_rev (w : Wd) (As : List Value) (rest : List Value) : (As.reverse ++ rest).map (cv w) = (As.map (cv w)).reverse ++ rest.map (cv w) := by simp
theorem sum_cat (w : Wd) (st : List Value) : ((st.map (cv w)).map fun v => v.category).sum = (st.map fun v => v.category).sum := by
  rw [List.map_map]; congr 2; funext v; exact cv_cat w v
theorem opt_map (w : Wd) (r : Option Value) (st : List Value) : (r.toList ++ st).map (cv w) = (r.map (cv w)).toList ++ st.map (cv w) := by cases r <;> simp
/-- a virtual method of ours is called -/
theorem aw_callV {N : Mi} {a idx np ci mc' ms' : Nat} {Q' : Option Value → Hp → Prop} {st0 : List Value} (As : List Value) (pc' : Nat) (d : decode M.2.1 pc = .ok (.invokevirtual idx, 3)) (hp : pc + 3 = pc') (hm : MLV M.1.cls idx N np) (hro : roomOk M N) (ha : (hs h a).1 = 20 + ci) (hci : ∀ r, vwCl[ci]? = some r → r.1 = N.1.cls) (hn : As.length = np) (hst : As.reverse ++ .ref a :: stk = st0) (hsum : (stk.map fun v => v.category).sum ≤ 8) (hf : k + mc' ≤ mc ∧ n + ms' ≤ ms)
    (A : AC w N mc' ms' Q' (.ref a :: As) h) (K : ∀ r h', Q' r h' → AW w M mc ms Q (k + mc') (n + ms') pc' loc (r.toList ++ stk) h') : AW w M mc ms Q k n pc loc st0 h := by
  subst hp hst
  intro p e s m args below meth c C E H locs ls hS hR hL
  obtain ⟨m1, m2, m3, m4, m5, m6⟩ := hm
  have hts := C.1.2.2.2.2
  obtain ⟨i5, il⟩ := hR.id (id := a) (by omega) (by omega)
  obtain ⟨r, hr, cell, q1, q2, q3, q4⟩ := (hR.2.2.1 a i5 il).2.2.2 ci ha
  have hcw : CallW (rmO M mc ms) s args M.1.cls N.1.cls idx N.1 N.2.1 N.2.2.1 N.2.2.2.1 (wsM N) (rmO N mc' ms') mc' ms' np := ⟨callB_of np hts (good_ws m5) rfl rfl rfl (hts _ m4) (hts _ m1) m6 hro, hts _ m2, hts _ m3⟩
  rw [map_rev]
  refine run_go (va_runV (As := As.map (cv w)) (rest := stk.map (cv w)) (b := ad w a) (C := N.1.cls) (n := np) C.1 A hcw ⟨Pw_blind w _ h, ⟨cell, q1, by rw [q3]; rfl, by rw [q2, ← hci r hr]; exact (E.1.1 ci r hr).2.1⟩, Pw_pre _ E hR⟩ rfl (by rw [List.length_map]; exact hn) hL.1 rfl (lv_room (by rw [sum_cat]; exact hsum)) d hf) hS (fun r h' H1 locs1 hq hS1 hR1 => ?_)
  rw [← opt_map]
  exact K r h' hq p e s m args below meth c C E H1 locs1 ls hS1 hR1 hL
theorem aw_callS {N : Mi} {idx np mc' ms' : Nat} {Q' : Option Value → Hp → Prop} {st0 : List Value} (As : List Value) (pc' : Nat) (d : decode M.2.1 pc = .ok (.invokestatic idx, 3)) (hp : pc + 3 = pc') (hm : MLS M.1.cls idx N np) (hro : roomOk M N) (hn : As.length = np) (hst : As.reverse ++ stk = st0) (hsum : (stk.map fun v => v.category).sum ≤ 8) (hf : k + mc' ≤ mc ∧ n + ms' ≤ ms)
    (A : AC w N mc' ms' Q' As h) (K : ∀ r h', Q' r h' → AW w M mc ms Q (k + mc') (n + ms') pc' loc (r.toList ++ stk) h') : AW w M mc ms Q k n pc loc st0 h := by
  subst hp hst
  intro p e s m args below meth c C E H locs ls hS hR hL
  obtain ⟨m1, m2, m4, m5, m6⟩ := hm
  have hts := C.1.2.2.2.2
  have hcw : CallB (rmO M mc ms) s args M.1.cls idx N.1 N.2.1 N.2.2.1 N.2.2.2.1 (wsM N) (rmO N mc' ms') mc' ms' np ∧ (Cond.static N.1).before args s = true := ⟨callB_of np hts (good_ws m5) rfl rfl rfl (hts _ m4) (hts _ m1) m6 hro, hts _ m2⟩
  rw [map_rev]
  refine run_go (va_runS (As := As.map (cv w)) (rest := stk.map (cv w)) (n := np) C.1 A hcw ⟨Pw_blind w _ h, Pw_pre _ E hR⟩ rfl (by rw [List.length_map]; exact hn) hL.1 rfl (lv_room (by rw [sum_cat]; exact hsum)) d hf) hS (fun r h' H1 locs1 hq hS1 hR1 => ?_)
  rw [← opt_map]
  exact K r h' hq p e s m args below meth c C E H1 locs1 ls hS1 hR1 hL
theorem aw_callSN {N : Mi} {idx np mc' ms' : Nat} {Q' : Option Value → Hp → Prop} {st0 : List Value} (As : List Value) (pc' : Nat) (d : decode M.2.1 pc = .ok (.invokestatic idx, 3)) (hp : pc + 3 = pc') (hm : MLSN M.1.cls idx N np) (hro : roomOk M N) (hn : As.length = np) (hst : As.reverse ++ stk = st0) (hsum : (stk.map fun v => v.category).sum ≤ 8) (hf : k + mc' ≤ mc ∧ n + ms' ≤ ms)
    (A : AC w N mc' ms' Q' As h) (K : ∀ r h', Q' r h' → AW w M mc ms Q (k + mc') (n + ms') pc' loc (r.toList ++ stk) h') : AW w M mc ms Q k n pc loc st0 h := by
  subst hp hst
  intro p e s m args below meth c C E H locs ls hS hR hL
  obtain ⟨⟨host, m1⟩, m2, m4, m5, m6⟩ := hm
  have hts := C.1.2.2.2.2
  have hcw : va_CN (rmO M mc ms) s args M.1.cls idx N.1 host N.2.1 N.2.2.1 N.2.2.2.1 (wsM N) (rmO N mc' ms') mc' ms' np ∧ (Cond.static N.1).before args s = true ∧ True := ⟨va_cnB np hts (good_ws m5) rfl rfl rfl (E.2.1 _ m1) (hts _ m4) m6 hro, hts _ m2, trivial⟩
  rw [map_rev]
  refine run_go (va_runSN (As := As.map (cv w)) (rest := stk.map (cv w)) (n := np) C.1 A hcw ⟨Pw_blind w _ h, Pw_pre _ E hR⟩ rfl (by rw [List.length_map]; exact hn) hL.1 rfl (lv_room (by rw [sum_cat]; exact hsum)) d hf) hS (fun r h' H1 locs1 hq hS1 hR1 => ?_)
  rw [← opt_map]
  exact K r h' hq p e s m args below meth c C E H1 locs1 ls hS1 hR1 hL
end AWC
