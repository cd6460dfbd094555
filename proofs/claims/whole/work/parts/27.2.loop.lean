/-! ===== the first state ===== -/
def o0 : Nat → Nat := fun k => if k = 0 then 20 else if k = 1 then 88 else 156
def S0 : Ly := (fun _ => p0.1, pr0, false, sh0 0)
def t0 : Tp := (0, fun _ => 0)
def sf0 : Sf := (0, (fun _ => 0), fun _ _ => 0)
def dk0 : Nat → Dk := fun _ => (0, 0, (fun _ => 0), 0, 0)
theorem okB.b0 : okB p0.1 := ⟨Nat.zero_le _, Nat.zero_le _, Nat.zero_le _, fun s hs => absurd hs (Nat.not_lt_zero s), fun k hk => absurd hk (Nat.not_lt_zero k)⟩
section FS
variable {L : Nat} {xs : Nat → Int32} {h h' : Hp}
theorem first_C (P : PB L xs 385 [] iv9 h) : RC h t0 sf0 S0 tm0 dk0 0 := by
  have q : ∀ id j v, 5 ≤ id → id < 385 → j < 20 → look iv9 id j = v → hI h id j = v := fun id j v h1 h2 h3 e => by rw [← e]; exact P.2.2.2.2.2 id j h1 h2 (Or.inl h3)
  have b : ∀ b, isBk b → bookC h b p0.1 := fun b hb => by
    refine ⟨okB.b0, ?_, ?_, ?_, fun s hs => absurd hs (Nat.not_lt_zero s), fun k hk => absurd hk (Nat.not_lt_zero k), fun x hx => absurd hx (Nat.not_lt_zero x)⟩
    · rcases hb with rfl | rfl | rfl <;> exact q _ _ _ (by decide) (by decide) (by decide) (by decide)
    · rcases hb with rfl | rfl | rfl <;> exact q _ _ _ (by decide) (by decide) (by decide) (by decide)
    · rcases hb with rfl | rfl | rfl <;> exact q _ _ _ (by decide) (by decide) (by decide) (by decide)
  have i0 : isBk 20 := Or.inl rfl
  have i1 : isBk 88 := Or.inr (Or.inl rfl)
  have i2 : isBk 156 := Or.inr (Or.inr rfl)
  have r0 : hR h 19 0 = 20 := P.rf 19 0 (by decide) (by simp) (by decide +kernel) (by decide)
  have r1 : hR h 19 1 = 88 := P.rf 19 1 (by decide) (by simp) (by decide +kernel) (by decide)
  have r2 : hR h 5 4 = 156 := P.rf 5 4 (by decide) (by simp) (by decide +kernel) (by decide)
  refine ⟨o0, ⟨⟨⟨r0, r1, r2⟩, ⟨i0, i1, i2⟩, (by decide), (by decide), (by decide)⟩, fun b hb => ?_⟩, ⟨⟨⟨⟨r0, r1⟩, i0, i1, (by decide)⟩, b _ i0, b _ i1⟩, ⟨okP.pr0, ?_, fun i hi => ⟨?_, ?_⟩⟩, ?_⟩, ⟨Nat.zero_le _, ?_, fun i hi => absurd hi (Nat.not_lt_zero i)⟩, ⟨Nat.zero_le _, ?_, ?_, fun k hk => absurd hk (Nat.not_lt_zero k), fun k hk => absurd hk (Nat.not_lt_zero k)⟩, ⟨okS.s0 (Nat.zero_le _) (Nat.zero_le _), ?_, ?_, fun a ha => absurd ha (Nat.not_lt_zero a)⟩, ⟨fun s hs => ⟨⟨Nat.zero_le _, Nat.zero_le _⟩, ?_, fun z => ?_, fun z => ?_⟩, ?_⟩, fun z => ?_⟩
  · rcases hb with rfl | rfl | rfl <;> exact q _ _ _ (by decide) (by decide) (by decide) (by decide)
  · exact q _ _ _ (by decide) (by decide) (by decide) (by decide)
  · exact q _ _ _ (by decide) (by decide) hi ((by decide : ∀ i, i < 20 → look iv9 225 i = -1) i hi)
  · exact q _ _ _ (by decide) (by decide) hi ((by decide : ∀ i, i < 20 → look iv9 226 i = -1) i hi)
  · exact q _ _ _ (by decide) (by decide) (by decide) (by decide)
  · exact q _ _ _ (by decide) (by decide) (by decide) (by decide)
  · exact q _ _ _ (by decide) (by decide) (by decide) (by decide)
  · exact q _ _ _ (by decide) (by decide) (by decide) (by decide)
  · exact q _ _ _ (by decide) (by decide) (by decide) (by decide)
  · exact q _ _ _ (by decide) (by decide) (by decide) (by decide)
  · exact q _ _ _ (by omega) (by omega) (by decide) ((by decide : ∀ s, s < 8 → look iv9 (331 + 2 * s) 0 = 0) s hs)
  · exact absurd (show (0 : Nat) = 1 ∨ (0 : Nat) = 3 from z) (by decide)
  · exact absurd (show (0 : Nat) = 2 from z) (by decide)
  · exact q _ _ _ (by decide) (by decide) (by decide) (by decide)
  · rw [q 5 11 1 (by decide) (by decide) (by decide) (by decide)] at z
    exact absurd z (by decide)
theorem first_M (P : PB L xs 385 [] iv9 h) (g : Cg (fun id j => (id = 347 ∧ j = 15) ∨ (359 ≤ id ∧ id ≤ 362)) h h') (pr : pairM h' pr0) (sh : ∀ n0, n0 ≤ 40 → shareM h' n0 0 (sh0 0) tm0) : RM h' t0 sf0 S0 tm0 dk0 0 := by
  have q : ∀ id j v, 5 ≤ id → id < 385 → j < 20 → ¬ ((id = 347 ∧ j = 15) ∨ (359 ≤ id ∧ id ≤ 362)) → look iv9 id j = v → hI h' id j = v := fun id j v h1 h2 h3 h4 e => by rw [g.i h4, ← e]; exact P.2.2.2.2.2 id j h1 h2 (Or.inl h3)
  have b : ∀ b, b < 2 → bookM h' b p0.1 := fun b hb => by
    refine ⟨okB.b0, ?_, ?_, ?_, fun s hs => absurd hs (Nat.not_lt_zero s), fun k hk => absurd hk (Nat.not_lt_zero k)⟩
    · rcases (show b = 0 ∨ b = 1 by omega) with rfl | rfl <;> exact q _ _ _ (by decide) (by decide) (by decide) (by decide) (by decide)
    · rcases (show b = 0 ∨ b = 1 by omega) with rfl | rfl <;> exact q _ _ _ (by decide) (by decide) (by decide) (by decide) (by decide)
    · rcases (show b = 0 ∨ b = 1 by omega) with rfl | rfl <;> exact q _ _ _ (by decide) (by decide) (by decide) (by decide) (by decide)
  refine ⟨⟨⟨b 0 (by decide), b 1 (by decide)⟩, pr, ?_⟩, ⟨Nat.zero_le _, ?_, fun i hi => absurd hi (Nat.not_lt_zero i)⟩, ⟨?_, Nat.zero_le _, fun k hk => absurd hk (Nat.not_lt_zero k), fun k hk => absurd hk (Nat.not_lt_zero k)⟩, sh 0 (Nat.zero_le _), fun s hs => ⟨⟨Nat.zero_le _, Nat.zero_le _⟩, ?_, fun z => ?_, fun z => ?_⟩, ?_⟩
  · exact q _ _ _ (by decide) (by decide) (by decide) (by decide) (by decide)
  · exact q _ _ _ (by decide) (by decide) (by decide) (by decide) (by decide)
  · exact q _ _ _ (by decide) (by decide) (by decide) (by decide) (by decide)
  · exact q _ _ _ (by omega) (by omega) (by omega) (by omega) ((by decide : ∀ s, s < 8 → look iv9 382 s = 0) s hs)
  · exact absurd (show (0 : Nat) = 1 ∨ (0 : Nat) = 3 from z) (by decide)
  · exact absurd (show (0 : Nat) = 2 from z) (by decide)
  · exact q _ _ _ (by decide) (by decide) (by decide) (by decide) (by decide)
end FS
/-! ===== the law's loop ===== -/
def Bth (h : Hp) : Prop := ∃ t sf S tm dk cd, RC h t sf S tm dk cd ∧ RM h t sf S tm dk cd
theorem kC.s {L : Nat} {h h' : Hp} (k : kC L h h') : hs h' 4 = (4, L) := k.1.1.2.1
set_option maxRecDepth 100000 in
set_option maxHeartbeats 4000000 in
theorem law_loop {w : Wd} {L : Nat} (hL : L ≤ 3072) : ∀ (d i : Nat) (h : Hp), L ≤ i + d → i ≤ 4000 → Lay L h → Bth h → AW w mL_law 600000 7302250 (rI fun r _ => r = 1) 380 21096 18 [some (.ref 4), some (.ref 5), some (.ref 347), some (.int (nI i))] [] h := by
  intro d
  induction d with
  | zero =>
    intro i h hi h4 c _
    refine sL_law_18 ?_
    rw [c.1.2.1]
    refine ⟨rfl, fun _ => rfl, fun z => absurd ?_ z⟩
    show nI L - 6 < nI i
    rw [ti_lt, ti_sub, nI_toInt (by omega), nI_toInt (by omega), t_6] <;> (try rw [nI_toInt (by omega), t_6]) <;> omega
  | succ d ih =>
    intro i h hi h4 c B
    have c4 : hs h 4 = (4, L) := c.1.2.1
    have lt : (Int32.ofNat L - 6 < nI i) ↔ L < i + 6 := by
      show (nI L - 6 < nI i) ↔ L < i + 6
      rw [ti_lt, ti_sub, nI_toInt (by omega), nI_toInt (by omega), t_6] <;> (try rw [nI_toInt (by omega), t_6]) <;> omega
    refine sL_law_18 ?_
    rw [c4]
    refine ⟨rfl, fun _ => rfl, fun z => ?_⟩
    have z : ¬ (Int32.ofNat L - 6 < nI i) := z
    rw [lt] at z
    have v0 : vp_in (nI i) L := vp_nI (by omega) (by omega)
    have v1 : vp_in (nI i + 1) L := by rw [show (1 : Int32) = nI 1 from rfl, nI_add]; exact vp_nI (by omega) (by omega)
    have v2 : vp_in (nI i + 2) L := by rw [show (2 : Int32) = nI 2 from rfl, nI_add]; exact vp_nI (by omega) (by omega)
    have v3 : vp_in (nI i + 3) L := by rw [show (3 : Int32) = nI 3 from rfl, nI_add]; exact vp_nI (by omega) (by omega)
    have v4 : vp_in (nI i + 4) L := by rw [show (4 : Int32) = nI 4 from rfl, nI_add]; exact vp_nI (by omega) (by omega)
    have v5 : vp_in (nI i + 5) L := by rw [show (5 : Int32) = nI 5 from rfl, nI_add]; exact vp_nI (by omega) (by omega)
    have nx : ∀ h', Lay L h' → Bth h' → AW w mL_law 600000 7302250 (rI fun r _ => r = 1) 380 21096 18 [some (.ref 4), some (.ref 5), some (.ref 347), some (.int (nI i + 6))] [] h' := fun h' c' B' => by
      rw [show (6 : Int32) = nI 6 from rfl, nI_add]
      exact ih (i + 6) h' (by omega) (by omega) c' B'
    have B0 := B
    obtain ⟨t, sf, S, tm, dk, cd, R, M⟩ := B0
    have s29 : (hs h 5).1 = 29 := by rw [s_5 c]
    have s30 : ∀ {h1}, kC L h h1 → (hs h1 347).1 = 30 := fun k => by rw [s_347 k.1]
    have s40 : ∀ {h1}, kC L h h1 → (hs h1 4).1 = 4 := fun k => by rw [k.s]
    have vv : ∀ {h1} {x : Int32}, kC L h h1 → vp_in x L → vp_in x (hs h1 4).2 := fun k v => by rw [k.s]; exact v
    generalize nI i = x3 at *
    refine ⟨v0, fun _ => nx h c B, ?_, ?_, ?_, ?_, ?_, ?_, ?_, ?_, ?_, ?_, ?_, ?_, ?_, ?_, ?_, ?_, ?_, ?_, ?_, ?_, ?_, ?_, ?_, ?_, ?_, ?_, ?_, ?_, ?_, ?_, ?_, ?_, ?_, ?_, ?_, ?_⟩
    · refine fun _ => ⟨v1, v2, v3, v4, v5, s29, c_feed c R (fun h1 k1 R1 => ⟨s40 k1, vv k1 v1, vv k1 v2, vv k1 v3, vv k1 v4, vv k1 v5, s30 k1, ?_⟩)⟩
      rw [k1.2.1 (x3 + 1).toNatClampNeg, k1.2.1 (x3 + 2).toNatClampNeg, k1.2.1 (x3 + 3).toNatClampNeg, k1.2.1 (x3 + 4).toNatClampNeg, k1.2.1 (x3 + 5).toNatClampNeg]
      exact r_feed k1.1 (M.aft k1) (fun h2 k2 M2 => ⟨fun _ => nx h2 k2.1 ⟨_, _, _, _, _, _, R1.aft k2, M2⟩, fun u => absurd rfl u⟩)
    · refine fun _ => ⟨v1, s29, c_cut c R (fun h1 k1 R1 => ⟨s40 k1, vv k1 v1, s30 k1, ?_⟩)⟩
      rw [k1.2.1 (x3 + 1).toNatClampNeg]
      exact r_cut k1.1 (M.aft k1) (fun h2 k2 M2 => ⟨fun _ => nx h2 k2.1 ⟨_, _, _, _, _, _, R1.aft k2, M2⟩, fun u => absurd rfl u⟩)
    · exact fun _ => ⟨s29, c_abbreviate c R (fun h1 k1 R1 => ⟨s30 k1, r_abbreviate k1.1 (M.aft k1) (fun h2 k2 M2 => ⟨fun _ => nx h2 k2.1 ⟨_, _, _, _, _, _, R1.aft k2, M2⟩, fun u => absurd rfl u⟩)⟩)⟩
    · refine fun _ => ⟨v1, s29, c_take c R (fun h1 k1 R1 => ⟨s40 k1, vv k1 v1, s30 k1, ?_⟩)⟩
      rw [k1.2.1 (x3 + 1).toNatClampNeg]
      exact r_take k1.1 (M.aft k1) (fun h2 k2 M2 => ⟨fun _ => nx h2 k2.1 ⟨_, _, _, _, _, _, R1.aft k2, M2⟩, fun u => absurd rfl u⟩)
    · refine fun _ => ⟨v1, v2, s29, c_count c R (fun h1 k1 R1 => ⟨s40 k1, vv k1 v1, vv k1 v2, s30 k1, ?_⟩)⟩
      rw [k1.2.1 (x3 + 1).toNatClampNeg, k1.2.1 (x3 + 2).toNatClampNeg]
      exact r_count k1.1 (M.aft k1) (fun h2 k2 M2 => ⟨fun _ => nx h2 k2.1 ⟨_, _, _, _, _, _, R1.aft k2, M2⟩, fun u => absurd rfl u⟩)
    · refine fun _ => ⟨v1, v2, v3, s29, c_sentence c R (fun h1 k1 R1 => ⟨s40 k1, vv k1 v1, vv k1 v2, vv k1 v3, s30 k1, ?_⟩)⟩
      rw [k1.2.1 (x3 + 1).toNatClampNeg, k1.2.1 (x3 + 2).toNatClampNeg, k1.2.1 (x3 + 3).toNatClampNeg]
      exact r_sentence k1.1 (M.aft k1) (fun h2 k2 M2 => ⟨fun _ => nx h2 k2.1 ⟨_, _, _, _, _, _, R1.aft k2, M2⟩, fun u => absurd rfl u⟩)
    · refine fun _ => ⟨v1, v2, v3, s29, c_word c R (fun h1 k1 R1 => ⟨s40 k1, vv k1 v1, vv k1 v2, vv k1 v3, s30 k1, ?_⟩)⟩
      rw [k1.2.1 (x3 + 1).toNatClampNeg, k1.2.1 (x3 + 2).toNatClampNeg, k1.2.1 (x3 + 3).toNatClampNeg]
      exact r_word k1.1 (M.aft k1) (fun h2 k2 M2 => ⟨fun _ => nx h2 k2.1 ⟨_, _, _, _, _, _, R1.aft k2, M2⟩, fun u => absurd rfl u⟩)
    · refine fun _ => ⟨v1, v2, v3, s29, c_letter c R (fun h1 k1 R1 => ⟨s40 k1, vv k1 v1, vv k1 v2, vv k1 v3, s30 k1, ?_⟩)⟩
      rw [k1.2.1 (x3 + 1).toNatClampNeg, k1.2.1 (x3 + 2).toNatClampNeg, k1.2.1 (x3 + 3).toNatClampNeg]
      exact r_letter k1.1 (M.aft k1) (fun h2 k2 M2 => ⟨fun _ => nx h2 k2.1 ⟨_, _, _, _, _, _, R1.aft k2, M2⟩, fun u => absurd rfl u⟩)
    · refine fun _ => ⟨v1, v2, v3, v4, s29, c_change c R (fun h1 k1 R1 => ⟨s40 k1, vv k1 v1, vv k1 v2, vv k1 v3, vv k1 v4, s30 k1, ?_⟩)⟩
      rw [k1.2.1 (x3 + 1).toNatClampNeg, k1.2.1 (x3 + 2).toNatClampNeg, k1.2.1 (x3 + 3).toNatClampNeg, k1.2.1 (x3 + 4).toNatClampNeg]
      exact r_change k1.1 (M.aft k1) (fun h2 k2 M2 => ⟨fun _ => nx h2 k2.1 ⟨_, _, _, _, _, _, R1.aft k2, M2⟩, fun u => absurd rfl u⟩)
    · refine fun _ => ⟨v1, v2, s29, c_fast c R (fun h1 k1 R1 => ⟨s40 k1, vv k1 v1, vv k1 v2, s30 k1, ?_⟩)⟩
      rw [k1.2.1 (x3 + 1).toNatClampNeg, k1.2.1 (x3 + 2).toNatClampNeg]
      exact r_fast k1.1 (M.aft k1) (fun h2 k2 M2 => ⟨fun _ => nx h2 k2.1 ⟨_, _, _, _, _, _, R1.aft k2, M2⟩, fun u => absurd rfl u⟩)
    · refine fun _ => ⟨v1, s29, c_loosen c R (fun h1 k1 R1 => ⟨s40 k1, vv k1 v1, s30 k1, ?_⟩)⟩
      rw [k1.2.1 (x3 + 1).toNatClampNeg]
      exact r_loosen k1.1 (M.aft k1) (fun h2 k2 M2 => ⟨fun _ => nx h2 k2.1 ⟨_, _, _, _, _, _, R1.aft k2, M2⟩, fun u => absurd rfl u⟩)
    · exact fun _ => ⟨v1, fun y => ⟨s29, c_keep (b := false) c R (fun h1 k1 R1 => ⟨s40 k1, vv k1 v1, fun _ => ⟨s30 k1, r_keep (b := false) k1.1 (M.aft k1) (fun h2 k2 M2 => ⟨fun _ => nx h2 k2.1 ⟨_, _, _, _, _, _, R1.aft k2, M2⟩, fun u => absurd rfl u⟩)⟩, fun u => absurd ((k1.2.1 _).trans y) u⟩)⟩, fun y => ⟨s29, c_keep (b := true) c R (fun h1 k1 R1 => ⟨s40 k1, vv k1 v1, fun u => absurd ((k1.2.1 _).symm.trans u) y, fun _ => ⟨s30 k1, r_keep (b := true) k1.1 (M.aft k1) (fun h2 k2 M2 => ⟨fun _ => nx h2 k2.1 ⟨_, _, _, _, _, _, R1.aft k2, M2⟩, fun u => absurd rfl u⟩)⟩⟩)⟩⟩
    · exact fun _ => ⟨s29, c_lay c R (fun h1 k1 R1 => ⟨s30 k1, r_lay k1.1 (M.aft k1) (fun h2 k2 M2 => ⟨fun _ => nx h2 k2.1 ⟨_, _, _, _, _, _, R1.aft k2, M2⟩, fun u => absurd rfl u⟩)⟩)⟩
    · refine fun _ => ⟨v1, v2, s29, c_joint c R (fun h1 k1 R1 => ⟨s40 k1, vv k1 v1, vv k1 v2, s30 k1, ?_⟩)⟩
      rw [k1.2.1 (x3 + 1).toNatClampNeg, k1.2.1 (x3 + 2).toNatClampNeg]
      exact r_joint k1.1 (M.aft k1) (fun h2 k2 M2 => ⟨fun _ => nx h2 k2.1 ⟨_, _, _, _, _, _, R1.aft k2, M2⟩, fun u => absurd rfl u⟩)
    · refine fun _ => ⟨v1, v2, v3, s29, c_price c R (fun h1 k1 R1 => ⟨s40 k1, vv k1 v1, vv k1 v2, vv k1 v3, s30 k1, ?_⟩)⟩
      rw [k1.2.1 (x3 + 1).toNatClampNeg, k1.2.1 (x3 + 2).toNatClampNeg, k1.2.1 (x3 + 3).toNatClampNeg]
      exact r_price k1.1 (M.aft k1) (fun h2 k2 M2 => ⟨fun _ => nx h2 k2.1 ⟨_, _, _, _, _, _, R1.aft k2, M2⟩, fun u => absurd rfl u⟩)
    · refine fun _ => ⟨v1, v2, s29, c_rest c R (fun h1 k1 R1 => ⟨s40 k1, vv k1 v1, vv k1 v2, s30 k1, ?_⟩)⟩
      rw [k1.2.1 (x3 + 1).toNatClampNeg, k1.2.1 (x3 + 2).toNatClampNeg]
      exact r_rest k1.1 (M.aft k1) (fun h2 k2 M2 => ⟨fun _ => nx h2 k2.1 ⟨_, _, _, _, _, _, R1.aft k2, M2⟩, fun u => absurd rfl u⟩)
    · exact fun _ => ⟨s29, c_second c R (fun h1 k1 R1 => ⟨s30 k1, r_second k1.1 (M.aft k1) (fun h2 k2 M2 => ⟨fun _ => nx h2 k2.1 ⟨_, _, _, _, _, _, R1.aft k2, M2⟩, fun u => absurd rfl u⟩)⟩)⟩
    · refine fun _ => ⟨v1, v2, s29, c_sure c R (fun h1 k1 R1 => ⟨s40 k1, vv k1 v1, vv k1 v2, s30 k1, ?_⟩)⟩
      rw [k1.2.1 (x3 + 1).toNatClampNeg, k1.2.1 (x3 + 2).toNatClampNeg]
      exact r_sure k1.1 (M.aft k1) (fun h2 k2 M2 => ⟨fun _ => nx h2 k2.1 ⟨_, _, _, _, _, _, R1.aft k2, M2⟩, fun u => absurd rfl u⟩)
    · refine fun _ => ⟨v1, s29, c_rounds c R (fun h1 k1 R1 => ⟨s40 k1, vv k1 v1, s30 k1, ?_⟩)⟩
      rw [k1.2.1 (x3 + 1).toNatClampNeg]
      exact r_rounds k1.1 (M.aft k1) (fun h2 k2 M2 => ⟨fun _ => nx h2 k2.1 ⟨_, _, _, _, _, _, R1.aft k2, M2⟩, fun u => absurd rfl u⟩)
    · refine fun _ => ⟨v1, v2, s29, c_share c R (fun h1 k1 R1 => ⟨s40 k1, vv k1 v1, vv k1 v2, s30 k1, ?_⟩)⟩
      rw [k1.2.1 (x3 + 1).toNatClampNeg, k1.2.1 (x3 + 2).toNatClampNeg]
      exact r_share k1.1 (M.aft k1) (fun h2 k2 M2 => ⟨fun _ => nx h2 k2.1 ⟨_, _, _, _, _, _, R1.aft k2, M2⟩, fun u => absurd rfl u⟩)
    · refine fun _ => ⟨v1, v2, s29, c_partner c R (fun h1 k1 R1 => ⟨s40 k1, vv k1 v1, vv k1 v2, s30 k1, ?_⟩)⟩
      rw [k1.2.1 (x3 + 1).toNatClampNeg, k1.2.1 (x3 + 2).toNatClampNeg]
      exact r_partner k1.1 (M.aft k1) (fun h2 k2 M2 => ⟨fun _ => nx h2 k2.1 ⟨_, _, _, _, _, _, R1.aft k2, M2⟩, fun u => absurd rfl u⟩)
    · refine fun _ => ⟨v1, v2, s29, c_term c R (fun h1 k1 R1 => ⟨s40 k1, vv k1 v1, vv k1 v2, s30 k1, ?_⟩)⟩
      rw [k1.2.1 (x3 + 1).toNatClampNeg, k1.2.1 (x3 + 2).toNatClampNeg]
      exact r_term k1.1 (M.aft k1) (fun h2 k2 M2 => ⟨fun _ => nx h2 k2.1 ⟨_, _, _, _, _, _, R1.aft k2, M2⟩, fun u => absurd rfl u⟩)
    · exact fun _ => ⟨s29, c_broken c R (fun h1 k1 R1 => ⟨s30 k1, r_broken k1.1 (M.aft k1) (fun h2 k2 M2 => ⟨fun _ => nx h2 k2.1 ⟨_, _, _, _, _, _, R1.aft k2, M2⟩, fun u => absurd rfl u⟩)⟩)⟩
    · refine fun _ => ⟨v1, v2, v3, s29, c_link c R (fun h1 k1 R1 => ⟨s40 k1, vv k1 v1, vv k1 v2, vv k1 v3, s30 k1, ?_⟩)⟩
      rw [k1.2.1 (x3 + 1).toNatClampNeg, k1.2.1 (x3 + 2).toNatClampNeg, k1.2.1 (x3 + 3).toNatClampNeg]
      exact r_link k1.1 (M.aft k1) (fun h2 k2 M2 => ⟨fun _ => nx h2 k2.1 ⟨_, _, _, _, _, _, R1.aft k2, M2⟩, fun u => absurd rfl u⟩)
    · refine fun _ => ⟨v1, v2, v3, v4, s29, c_linked c R (fun h1 k1 R1 => ⟨s40 k1, vv k1 v1, vv k1 v2, vv k1 v3, vv k1 v4, s30 k1, ?_⟩)⟩
      rw [k1.2.1 (x3 + 1).toNatClampNeg, k1.2.1 (x3 + 2).toNatClampNeg, k1.2.1 (x3 + 3).toNatClampNeg, k1.2.1 (x3 + 4).toNatClampNeg]
      exact r_linked k1.1 (M.aft k1) (fun h2 k2 M2 => ⟨fun _ => nx h2 k2.1 ⟨_, _, _, _, _, _, R1.aft k2, M2⟩, fun u => absurd rfl u⟩)
    · refine fun _ => ⟨v1, s29, c_phrases c R (fun h1 k1 R1 => ⟨s40 k1, vv k1 v1, s30 k1, ?_⟩)⟩
      rw [k1.2.1 (x3 + 1).toNatClampNeg]
      exact r_phrases k1.1 (M.aft k1) (fun h2 k2 M2 => ⟨fun _ => nx h2 k2.1 ⟨_, _, _, _, _, _, R1.aft k2, M2⟩, fun u => absurd rfl u⟩)
    · refine fun _ => ⟨v1, v2, v3, s29, c_putSentence c R (fun h1 k1 R1 => ⟨s40 k1, vv k1 v1, vv k1 v2, vv k1 v3, s30 k1, ?_⟩)⟩
      rw [k1.2.1 (x3 + 1).toNatClampNeg, k1.2.1 (x3 + 2).toNatClampNeg, k1.2.1 (x3 + 3).toNatClampNeg]
      exact r_putSentence k1.1 (M.aft k1) (fun h2 k2 M2 => ⟨fun _ => nx h2 k2.1 ⟨_, _, _, _, _, _, R1.aft k2, M2⟩, fun u => absurd rfl u⟩)
    · refine fun _ => ⟨v1, v2, s29, c_putJoint c R (fun h1 k1 R1 => ⟨s40 k1, vv k1 v1, vv k1 v2, s30 k1, ?_⟩)⟩
      rw [k1.2.1 (x3 + 1).toNatClampNeg, k1.2.1 (x3 + 2).toNatClampNeg]
      exact r_putJoint k1.1 (M.aft k1) (fun h2 k2 M2 => ⟨fun _ => nx h2 k2.1 ⟨_, _, _, _, _, _, R1.aft k2, M2⟩, fun u => absurd rfl u⟩)
    · refine fun _ => ⟨v1, v2, s29, c_putRow c R (fun h1 k1 R1 => ⟨s40 k1, vv k1 v1, vv k1 v2, s30 k1, ?_⟩)⟩
      rw [k1.2.1 (x3 + 1).toNatClampNeg, k1.2.1 (x3 + 2).toNatClampNeg]
      exact r_putRow k1.1 (M.aft k1) (fun h2 k2 M2 => ⟨fun _ => nx h2 k2.1 ⟨_, _, _, _, _, _, R1.aft k2, M2⟩, fun u => absurd rfl u⟩)
    · refine fun _ => ⟨v1, s29, c_clear c R (fun h1 k1 R1 => ⟨s40 k1, vv k1 v1, s30 k1, ?_⟩)⟩
      rw [k1.2.1 (x3 + 1).toNatClampNeg]
      exact r_clear k1.1 (M.aft k1) (fun h2 k2 M2 => ⟨fun _ => nx h2 k2.1 ⟨_, _, _, _, _, _, R1.aft k2, M2⟩, fun u => absurd rfl u⟩)
    · refine fun _ => ⟨v1, s29, c_sort c R (fun h1 k1 R1 => ⟨s40 k1, vv k1 v1, s30 k1, ?_⟩)⟩
      rw [k1.2.1 (x3 + 1).toNatClampNeg]
      exact r_sort k1.1 (M.aft k1) (fun h2 k2 M2 => ⟨fun _ => nx h2 k2.1 ⟨_, _, _, _, _, _, R1.aft k2, M2⟩, fun u => absurd rfl u⟩)
    · refine fun _ => ⟨v1, v2, v3, s29, c_write c R (fun h1 k1 R1 => ⟨s40 k1, vv k1 v1, vv k1 v2, vv k1 v3, s30 k1, ?_⟩)⟩
      rw [k1.2.1 (x3 + 1).toNatClampNeg, k1.2.1 (x3 + 2).toNatClampNeg, k1.2.1 (x3 + 3).toNatClampNeg]
      exact r_write k1.1 (M.aft k1) (fun h2 k2 M2 => ⟨fun _ => nx h2 k2.1 ⟨_, _, _, _, _, _, R1.aft k2, M2⟩, fun u => absurd rfl u⟩)
    · refine fun _ => ⟨v1, v2, s29, c_read c R (fun h1 k1 R1 => ⟨s40 k1, vv k1 v1, vv k1 v2, s30 k1, ?_⟩)⟩
      rw [k1.2.1 (x3 + 1).toNatClampNeg, k1.2.1 (x3 + 2).toNatClampNeg]
      exact r_read k1.1 (M.aft k1) (fun h2 k2 M2 => ⟨fun _ => nx h2 k2.1 ⟨_, _, _, _, _, _, R1.aft k2, M2⟩, fun u => absurd rfl u⟩)
    · refine fun _ => ⟨v1, v2, v3, s29, c_spell c R (fun h1 k1 R1 => ⟨s40 k1, vv k1 v1, vv k1 v2, vv k1 v3, s30 k1, ?_⟩)⟩
      rw [k1.2.1 (x3 + 1).toNatClampNeg, k1.2.1 (x3 + 2).toNatClampNeg, k1.2.1 (x3 + 3).toNatClampNeg]
      exact r_spell k1.1 (M.aft k1) (fun h2 k2 M2 => ⟨fun _ => nx h2 k2.1 ⟨_, _, _, _, _, _, R1.aft k2, M2⟩, fun u => absurd rfl u⟩)
    · refine fun _ => ⟨v1, s29, c_rate c R (fun h1 k1 R1 => ⟨s40 k1, vv k1 v1, s30 k1, ?_⟩)⟩
      rw [k1.2.1 (x3 + 1).toNatClampNeg]
      exact r_rate k1.1 (M.aft k1) (fun h2 k2 M2 => ⟨fun _ => nx h2 k2.1 ⟨_, _, _, _, _, _, R1.aft k2, M2⟩, fun u => absurd rfl u⟩)
    · exact fun _ => ⟨s29, c_code c R (fun h1 k1 R1 => ⟨s30 k1, r_code k1.1 (M.aft k1) (fun h2 k2 M2 => ⟨fun _ => nx h2 k2.1 ⟨_, _, _, _, _, _, R1.aft k2, M2⟩, fun u => absurd rfl u⟩)⟩)⟩
set_option maxRecDepth 100000 in
theorem law_all {w : Wd} {L : Nat} {xs : Nat → Int32} (hL : L ≤ 3072) : AW w mL_law 600000 7302250 (rI fun r _ => r = 1) 0 0 0 [some (.ref 4), none, none, none] [] (hp0 L xs) := by
  have P : PB L xs 5 [] [] (hp0 L xs) := PB.start
  refine sL_law_0 ?_
  rw [P.1]
  intro h1 e1
  have P1 : PB L xs 6 [(5, 0), (5, 1), (5, 2), (5, 3), (5, 4), (5, 5), (5, 6), (5, 7), (5, 8), (5, 9)] [] h1 := P.nw e1 rfl (by decide) [(5, 0), (5, 1), (5, 2), (5, 3), (5, 4), (5, 5), (5, 6), (5, 7), (5, 8), (5, 9)] (by decide +kernel) (by decide +kernel) (by decide +kernel)
  refine init_C P1 (fun h2 P2 => ?_)
  rw [P2.1]
  intro h3 e3
  have P3 : PB L xs 348 [(347, 0), (347, 2), (347, 3), (347, 5), (347, 6), (347, 7), (347, 8), (347, 9), (347, 10), (347, 11), (347, 12), (347, 13), (347, 14), (347, 17), (347, 18), (347, 20), (347, 23), (347, 24), (347, 25), (347, 26), (347, 27), (347, 33), (347, 34), (347, 37), (347, 38), (347, 42), (347, 43), (347, 44), (347, 46), (347, 47), (347, 49), (347, 51), (347, 52), (347, 53), (347, 54), (347, 55), (347, 56)] iv9 h3 := P2.nw e3 rfl (by decide) [(347, 0), (347, 2), (347, 3), (347, 5), (347, 6), (347, 7), (347, 8), (347, 9), (347, 10), (347, 11), (347, 12), (347, 13), (347, 14), (347, 17), (347, 18), (347, 20), (347, 23), (347, 24), (347, 25), (347, 26), (347, 27), (347, 33), (347, 34), (347, 37), (347, 38), (347, 42), (347, 43), (347, 44), (347, 46), (347, 47), (347, 49), (347, 51), (347, 52), (347, 53), (347, 54), (347, 55), (347, 56)] (by decide +kernel) (by decide +kernel) (by decide +kernel)
  refine init_M P3 (fun h4 P4 => ?_)
  have c4 := P4.lay
  refine sp_loseTies (n1 := 0) c4 (Nat.zero_le _) ?_ (fun h5 g pr sh => ?_)
  · exact (P4.2.2.2.2.2 356 1 (by decide) (by decide) (Or.inl (by decide))).trans (by decide)
  · have k : kM L h4 h5 := kM.of c4 g (fun id j q => by omega)
    exact law_loop hL 3072 0 h5 (by omega) (by omega) k.1 ⟨_, _, _, _, _, _, (first_C P4).aft k, first_M P4 g pr sh⟩
