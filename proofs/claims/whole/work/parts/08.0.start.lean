/-! THE CLAIM OUT OF ONE WALK OF THE LAW'S BODY. Your part is whole_start (and what it stands on); all else here is the same for every law, but numbers. -/
def R_law : String := "SideBySideLaw"
def lw_P (b : Addr) (xs : List Int32) (args : Array Value) (s : State) : Prop := args = #[.ref b] ∧ s.IntsAt b xs ∧ xs.length ≤ 3072 ∧ (Jvm.Cond.and given_1 narrow_1).before args s = true
def lw_Q (_ : Array Value) (s : State) (o : Outcome) (t : State) : Prop := o = .returned (some (.int 1)) ∧ Framed s o t [] 600000 7302250
def lw_Z (below : List Frame) (a : Array Value) (s : State) : State → Prop := fun t => ∃ o, t.status = .running ∧ Ended t below o ∧ lw_Q a s o t
/-- the law's own end, with 1 on the stack, nothing written that was there before, its room as the claim has it -/
theorem lw_ret {p : Program} {l : Launch} {e : Env} {s : State} {m : MethodId} {below : List Frame} {meth : Method} {c : Code} {b : Nat} (hx : p.tables.exec = Jvm.exec) (hb : c.code = code) (hr : meth.sig.returnType = ret) (hlocks : meth.locks = false) {pc : Nat} {H : Heap} {ls : Array Slot} (hdg : decode code pc = .ok (.ireturn, 1)) : W p l e room_1 s m #[Value.ref b] below meth c H [] 600000 7302250 (lw_Z below #[Value.ref b] s) (F0 m pc ls [.int 1]) := by
  intro T hT X
  obtain ⟨fs, hret, hrun, hended, hW, hframe⟩ := X.leave (v := some (.int 1)) (hlocks := hlocks) (fun h => by rw [hr] at h; cases h)
  have hmeth' : T.vm.method? m = some meth := X.method'
  refine ⟨T.setFrames fs, ?_, .returned (some (.int 1)), hrun, hended, rfl, ⟨_, rfl⟩, hW, hframe⟩
  jvm_step X.here [X.here.top, hx, hb, hdg, hmeth', hr, ret, narrow_b1]
  (try refine ⟨rfl, ?_⟩); (try refine ⟨rfl, ?_⟩)
  first | (intro acts; rw [hret _ acts rfl rfl rfl]) | rw [hret _ _ rfl rfl rfl]
  exact Steps.refl _
/-- what holds at the law's entry: the machine, the code, the tables' words (any of lw_tbl by 'hts w (by decide +kernel)'), the script of L ints xs at the cell b, what the Statement gives of the start (any of its parts by flat_of_before) -/
def lw_At (p : Program) (s : State) (m : MethodId) (meth : Method) (c : Code) (b L : Nat) (xs : Nat → Int32) : Prop :=
  p.tables.exec = Jvm.exec ∧ c.code = code ∧ meth.sig.returnType = ret ∧ c.maxLocals = 4 ∧ s.vm.findClass R_law = some m.cls ∧ (∀ w ∈ lw_tbl, w.before #[Value.ref b] s = true) ∧ va_X b L xs s s.heap ∧ b < s.heap.size ∧ meth.locks = false ∧ (Jvm.Cond.and given_1 narrow_1).before #[Value.ref b] s = true
/-! ===== the start: what the Statement gives, as a memory of ours ===== -/
def sdT (a j : Nat) : Int32 := match a with
  | 1 => [1, 1, 0, 2, 1, 2, 2].getD j 0
  | 2 => [1, 0, 1, 1, 2, 2, 2].getD j 0
  | _ => [0, 450, 450, 230, 230, 440, 480].getD j 0
def hp0 (L : Nat) (xs : Nat → Int32) : Hp := (5, (fun a => if a = 4 then (4, L) else if 1 ≤ a ∧ a ≤ 3 then (4, 7) else (0, 0)), (fun a j => if a = 4 then xs j else sdT a j), (fun _ _ => 0), (fun _ _ => 0))
set_option maxRecDepth 100000 in
theorem st_all {args : Array Value} {s : State} (h : (Jvm.Cond.and given_1 narrow_1).before args s = true) (k : Nat) (hk : 1 ≤ k ∧ k ≤ 3) : (Cond.arrayOf (.static RX9 (snm k) "[I") .int).before args s = true ∧ (Cond.eq (.length (.static RX9 (snm k) "[I")) (.int 7)).before args s = true ∧ ∀ j, j < 7 → (Cond.eq (.elem (.static RX9 (snm k) "[I") (.int (Int32.ofNat j))) (.int (sdT k j))).before args s = true := by
  have hs := flat_of_before _ h
  rcases (show k = 1 ∨ k = 2 ∨ k = 3 by omega) with rfl | rfl | rfl
  · refine ⟨hs _ (by decide +kernel), hs _ (by decide +kernel), fun j hj => ?_⟩
    rcases (show j = 0 ∨ j = 1 ∨ j = 2 ∨ j = 3 ∨ j = 4 ∨ j = 5 ∨ j = 6 by omega) with rfl | rfl | rfl | rfl | rfl | rfl | rfl <;> exact hs _ (by decide +kernel)
  · refine ⟨hs _ (by decide +kernel), hs _ (by decide +kernel), fun j hj => ?_⟩
    rcases (show j = 0 ∨ j = 1 ∨ j = 2 ∨ j = 3 ∨ j = 4 ∨ j = 5 ∨ j = 6 by omega) with rfl | rfl | rfl | rfl | rfl | rfl | rfl <;> exact hs _ (by decide +kernel)
  · refine ⟨hs _ (by decide +kernel), hs _ (by decide +kernel), fun j hj => ?_⟩
    rcases (show j = 0 ∨ j = 1 ∨ j = 2 ∨ j = 3 ∨ j = 4 ∨ j = 5 ∨ j = 6 by omega) with rfl | rfl | rfl | rfl | rfl | rfl | rfl <;> exact hs _ (by decide +kernel)
theorem ls_in (k : Nat) (hk : 1 ≤ k ∧ k ≤ 3) : Cond.laysStatic RX9 (snm k) "[I" ∈ lw_tbl := by
  rcases (show k = 1 ∨ k = 2 ∨ k = 3 by omega) with rfl | rfl | rfl <;> decide +kernel
theorem kn_all {args : Array Value} {s : State} (hts : ∀ w ∈ gd, w.before args s = true) : ∃ (dC : Nat → ClassId) (dI : Nat → Nat → Nat), ∀ (k : Nat) (q : vw_C), vwCl[k]? = some q → u_Kn s q.1 q.2.1 q.2.2 (dC k) (dI k) := by
  obtain ⟨c0, i0, k0⟩ := u_known (C := RX0) (T := TX0) (N := 8) (n := 8) hts (fok_0 _ _ _ rfl).1 (hts _ wi_0)
  obtain ⟨c1, i1, k1⟩ := u_known (C := RX1) (T := TX1) (N := 4) (n := 4) hts (fok_1 _ _ _ rfl).1 (hts _ wi_1)
  obtain ⟨c2, i2, k2⟩ := u_known (C := RX2) (T := TX2) (N := 11) (n := 11) hts (fok_2 _ _ _ rfl).1 (hts _ wi_2)
  obtain ⟨c3, i3, k3⟩ := u_known (C := RX3) (T := TX3) (N := 3) (n := 3) hts (fok_3 _ _ _ rfl).1 (hts _ wi_3)
  obtain ⟨c4, i4, k4⟩ := u_known (C := RX4) (T := TX4) (N := 5) (n := 5) hts (fok_4 _ _ _ rfl).1 (hts _ wi_4)
  obtain ⟨c5, i5, k5⟩ := u_known (C := RX5) (T := TX5) (N := 5) (n := 5) hts (fok_5 _ _ _ rfl).1 (hts _ wi_5)
  obtain ⟨c6, i6, k6⟩ := u_known (C := RX6) (T := TX6) (N := 2) (n := 2) hts (fok_6 _ _ _ rfl).1 (hts _ wi_6)
  obtain ⟨c7, i7, k7⟩ := u_known (C := RX7) (T := TX7) (N := 17) (n := 17) hts (fok_7 _ _ _ rfl).1 (hts _ wi_7)
  obtain ⟨c8, i8, k8⟩ := u_known (C := RX8) (T := TX8) (N := 4) (n := 4) hts (fok_8 _ _ _ rfl).1 (hts _ wi_8)
  obtain ⟨c9, i9, k9⟩ := u_known (C := RX9) (T := TX9) (N := 12) (n := 12) hts (fok_9 _ _ _ rfl).1 (hts _ wi_9)
  obtain ⟨c10, i10, k10⟩ := u_known (C := RX10) (T := TX10) (N := 57) (n := 57) hts (fok_10 _ _ _ rfl).1 (hts _ wi_10)
  refine ⟨fun k => match k with | 0 => c0 | 1 => c1 | 2 => c2 | 3 => c3 | 4 => c4 | 5 => c5 | 6 => c6 | 7 => c7 | 8 => c8 | 9 => c9 | _ => c10, fun k => match k with | 0 => i0 | 1 => i1 | 2 => i2 | 3 => i3 | 4 => i4 | 5 => i5 | 6 => i6 | 7 => i7 | 8 => i8 | 9 => i9 | _ => i10, ?_⟩
  intro k q hq
  have hl : k < 11 := (List.getElem?_eq_some_iff.mp hq).1
  rcases (show k = 0 ∨ k = 1 ∨ k = 2 ∨ k = 3 ∨ k = 4 ∨ k = 5 ∨ k = 6 ∨ k = 7 ∨ k = 8 ∨ k = 9 ∨ k = 10 by omega) with rfl | rfl | rfl | rfl | rfl | rfl | rfl | rfl | rfl | rfl | rfl
  · cases hq; exact k0
  · cases hq; exact k1
  · cases hq; exact k2
  · cases hq; exact k3
  · cases hq; exact k4
  · cases hq; exact k5
  · cases hq; exact k6
  · cases hq; exact k7
  · cases hq; exact k8
  · cases hq; exact k9
  · cases hq; exact k10
set_option maxHeartbeats 4000000 in
set_option maxRecDepth 100000 in
theorem law_bridge {p : Program} {e : Env} {s : State} {m : MethodId} {below : List Frame} {meth : Method} {c : Code} (l : Launch) {b L : Nat} {xs : Nat → Int32} (hL : L ≤ 3072) (C0 : lw_At p s m meth c b L xs) (hnm : meth.name = "law")
    (K : ∀ w : Wd, AW w mL_law 600000 7302250 (rI fun r _ => r = 1) 0 0 0 [some (.ref 4), none, none, none] [] (hp0 L xs)) : W p l e room_1 s m #[Value.ref b] below meth c s.heap [] 0 0 (lw_Z below #[Value.ref b] s) (entryFrame m ([Value.ref b] : List Value).toArray 4) := by
  obtain ⟨hx, hb, hr, hml, hown, hts0, hX, hbl, hlocks, hgv⟩ := C0
  have hts : ∀ w ∈ gd, w.before #[Value.ref b] s = true := fun w hw => hts0 w (List.mem_filter.mp hw).1
  obtain ⟨dC, dI, hKn⟩ := kn_all hts
  have hA : ∀ a : Nat, a < s.heap.size → ¬ (fun q => s.heap.size ≤ q) a := fun a ha => Nat.not_le.mpr ha
  have hT : ∀ k, 1 ≤ k ∧ k ≤ 3 → ∃ t : Nat, (Term.static RX9 (snm k) "[I").eval #[Value.ref b] s none [] s = some (.ref t) ∧ va_T .int t 7 (fun j => .int (sdT k j)) (fun q => s.heap.size ≤ q) s s.heap := fun k hk => by
    obtain ⟨s1, s2, s3⟩ := st_all hgv k hk
    exact va_Tof (N := 7) (f := fun j => .int (sdT k j)) (by decide) s1 (va_eqt s2) (fun j hj => va_eqt (s3 j hj)) hA
  obtain ⟨t1, e1, T1⟩ := hT 1 (by decide)
  obtain ⟨t2, e2, T2⟩ := hT 2 (by decide)
  obtain ⟨t3, e3, T3⟩ := hT 3 (by decide)
  have hini : (Cond.initialized RX9).before #[Value.ref b] s = true := hts _ wn_9
  have hw : ∃ w : Wd, w = (l, (dC, dI), s.heap.size, fun i => match i with | 1 => t1 | 2 => t2 | 3 => t3 | _ => b) := ⟨_, rfl⟩
  obtain ⟨w, hw⟩ := hw
  have hfA : fA w = (fun q => s.heap.size ≤ q) := by rw [hw]; rfl
  have hE : En w s := by
    rw [hw]
    refine ⟨⟨hKn, fun k q hq => by simp at hq⟩, fun q hq => ?_, fun q hq => ?_⟩
    · have h1 := (List.mem_filter.mp hq).2
      have h2 := hts0 q (List.mem_filter.mp hq).1
      refine va_Nw.of ?_ h2
      cases q <;> first | (cases h1; done) | rfl
    · have h1 := (List.mem_filter.mp hq).2
      have h2 := hts0 q (List.mem_filter.mp hq).1
      cases q with
      | arrayOver ty => exact h2
      | _ => cases h1
  have hR : Rp w s (hp0 L xs) s.heap := by
    refine ⟨⟨Nat.le_refl 5, by rw [hw]; rfl⟩, fun id hi => ?_, fun id i5 il => absurd il (Nat.not_lt.mpr i5), fun id il ik => ?_, fun k k1 k2 => ?_⟩
    · have h1 : (hs (hp0 L xs) id) = if id = 4 then (4, L) else if 1 ≤ id ∧ id ≤ 3 then (4, 7) else (0, 0) := rfl
      rw [h1] at hi ⊢
      have h5 : (hp0 L xs).1 = 5 := rfl
      rw [h5]
      split at hi
      · rename_i z; subst z; exact ⟨by decide, fun q => absurd rfl q, fun _ => by decide⟩
      · split at hi
        · rename_i z; rw [if_neg ‹¬ id = 4›, if_pos z]; exact ⟨by omega, fun q => absurd rfl q, fun _ => by omega⟩
        · exact absurd rfl hi
    · rw [hfA]
      have h1 : (hs (hp0 L xs) id) = if id = 4 then (4, L) else if 1 ≤ id ∧ id ≤ 3 then (4, 7) else (0, 0) := rfl
      have h2 : ∀ j, hI (hp0 L xs) id j = if id = 4 then xs j else sdT id j := fun _ => rfl
      rcases (show id = 0 ∨ id = 1 ∨ id = 2 ∨ id = 3 ∨ id = 4 by omega) with rfl | rfl | rfl | rfl | rfl
      · rw [h1] at ik; simp at ik
      · rw [hw]; exact T1
      · rw [hw]; exact T2
      · rw [hw]; exact T3
      · rw [hw]
        obtain ⟨scr, x1, x2, x3, x4, x5⟩ := hX
        exact ⟨scr, x1, x2, x3, Nat.le_of_eq x4.symm, by rw [x4]; rfl, x5, Nat.not_le.mpr hbl⟩
    · rw [hfA]
      have hZ := fun v hv => va_Zof (args := #[Value.ref b]) (s := s) (C := RX9) (n := snm k) (d := "[I") (v := v) (hts0 _ (ls_in k ⟨k1, k2⟩)) hini hv hA
      rcases (show k = 1 ∨ k = 2 ∨ k = 3 by omega) with rfl | rfl | rfl
      · rw [hw]; exact hZ _ e1
      · rw [hw]; exact hZ _ e2
      · rw [hw]; exact hZ _ e3
  have hl1 : w.1 = l := by rw [hw]
  have hab : ad w 4 = b := by rw [hw]; rfl
  have hl := lv_entry ([.ref b]) (n := 4) (Nat.le_of_ble_eq_true rfl)
  rw [lg_entry_eq]
  generalize (lg_sl ([.ref b]) ++ List.replicate (4 - (lg_sl ([.ref b])).length) Slot.unset).toArray = ls at hl ⊢
  have hLc : Lc w ls 4 [some (.ref 4), none, none, none] := ⟨hl.1, hl.2.1, fun i v hv => by
    rcases (show i = 0 ∨ i = 1 ∨ i = 2 ∨ i = 3 ∨ 4 ≤ i by omega) with rfl | rfl | rfl | rfl | hi
    · cases hv
      show ls[0]? = some (.val (.ref (ad w 4)))
      rw [hab]
      exact hl.2.2 (0, .ref b) (by simp [lv_args])
    · cases hv
    · cases hv
    · cases hv
    · rw [List.getElem?_eq_none (by simpa using hi)] at hv; cases hv⟩
  have KW := K w p e s m #[Value.ref b] below meth c ⟨⟨hx, hb, hml, hown, hts⟩, hr, hlocks, hnm⟩ hE s.heap [] ls va_S.rf hR hLc
  rw [hl1] at KW
  intro T hT X
  obtain ⟨t, a1, o, b1, b2, ⟨⟨r, h', b3, ⟨x, rfl, b4⟩, b5⟩, b6⟩, Lo, b7, b8⟩ := KW T hT X
  subst b4
  refine ⟨t, a1, o, b1, b2, b3, b7.1, b7.2.1, ?_⟩
  refine State.sameButNew.weaken b7.2.2 (fun y hy hlt => ?_) (Nat.le_refl _) (Nat.le_refl _)
  have h8 := b8 y hy
  rw [hfA] at h8
  exact absurd hlt (Nat.not_lt.mpr h8)
