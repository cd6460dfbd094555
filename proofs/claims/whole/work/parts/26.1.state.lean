/-! ===== the whole state, on both sides ===== -/
theorem rooms.cg {D : Nat → Nat → Prop} {h h' : Hp} (T : rooms h) (g : Cg D h h') (hd : ∀ id j, D id j → ¬ (20 ≤ id ∧ id ≤ 223)) : rooms h' := fun b hb => by
  have := isBk_223 hb
  rw [g.i (fun q => hd _ _ q (by omega))]; exact T b hb
theorem deskC.cg' {D : Nat → Nat → Prop} {h h' : Hp} {dk : Nat → Dk} (E : deskC h dk) (g : Cg D h h') (hd : ∀ id j, D id j → ¬ (331 ≤ id ∧ id ≤ 346)) : deskC h' dk := fun t ht => by
  obtain ⟨x1, x2, x3, x4⟩ := E t ht
  have e : ∀ id j, 331 ≤ id → id ≤ 346 → hI h' id j = hI h id j := fun id j a b => g.i (fun q => hd id j q ⟨a, b⟩)
  refine ⟨x1, by rw [e _ _ (by omega) (by omega)]; exact x2, fun z => ⟨by rw [e _ _ (by omega) (by omega)]; exact (x3 z).1, fun i hi => by rw [e _ _ (by omega) (by omega)]; exact (x3 z).2 i hi⟩, fun z => ⟨by rw [e _ _ (by omega) (by omega)]; exact (x4 z).1, by rw [e _ _ (by omega) (by omega)]; exact (x4 z).2⟩⟩
theorem bkO3.cg {D : Nat → Nat → Prop} {h h' : Hp} {o : Nat → Nat} (T : bkO3 h o) (g : Cg D h h') : bkO3 h' o := ⟨by rw [g.2.2.1]; exact T.1, T.2⟩
def RC (h : Hp) (t : Tp) (sf : Sf) (S : Ly) (tm : Nat → Int32) (dk : Nat → Dk) (cd : Int32) : Prop := ∃ o, (bkO3 h o ∧ rooms h) ∧ lyC h o S ∧ tapeC h t ∧ shortC h sf ∧ shareC h (bNk (S.1 0)) (bNk (S.1 1)) S.2.2.2 tm ∧ (deskC h dk ∧ hI h 5 10 = cd) ∧ (hI h 5 11 = 0 → WC h S)
def RM (h : Hp) (t : Tp) (sf : Sf) (S : Ly) (tm : Nat → Int32) (dk : Nat → Dk) (cd : Int32) : Prop := lyM h S ∧ tapeM h t ∧ shortM h sf ∧ shareM h (bNk (S.1 0)) (bNk (S.1 1)) S.2.2.2 tm ∧ deskM h dk ∧ hI h 347 19 = cd
/-- behind a call of the class -/
def kC (L : Nat) (h h' : Hp) : Prop := Lay L h' ∧ (∀ j, hI h' 4 j = hI h 4 j) ∧ ∀ id j, 347 ≤ id → hI h' id j = hI h id j
/-- behind a call of the reference -/
def kM (L : Nat) (h h' : Hp) : Prop := Lay L h' ∧ Cg (fun id _ => 347 ≤ id) h h'
section ST
variable {L : Nat} {h h' : Hp} {t t' : Tp} {sf sf' : Sf} {S : Ly} {tm tm' : Nat → Int32} {dk dk' : Nat → Dk} {cd cd' : Int32} {D : Nat → Nat → Prop}
theorem kC.of (c : Lay L h) (g : Cg D h h') (hd : ∀ id j, D id j → 5 ≤ id ∧ id < 347) : kC L h h' := ⟨g.lay c (fun id j q => (hd id j q).1), fun j => g.i (fun q => absurd (hd _ _ q).1 (by decide)), fun id j z => g.i (fun q => absurd (hd _ _ q).2 (by omega))⟩
theorem kC.rfl' (c : Lay L h) : kC L h h := ⟨c, fun _ => rfl, fun _ _ _ => rfl⟩
theorem kM.of (c : Lay L h) (g : Cg D h h') (hd : ∀ id j, D id j → 347 ≤ id) : kM L h h' := ⟨g.lay c (fun id j q => by have := hd id j q; omega), g.mono hd⟩
theorem kM.rfl' (c : Lay L h) : kM L h h := ⟨c, Cg.rfl' h⟩
theorem RM.aft (R : RM h t sf S tm dk cd) (k : kC L h h') : RM h' t sf S tm dk cd := by
  have g : Cg (fun id _ => id < 347) h (h.1, h.2.1, h'.2.2.1, h.2.2.2.1, h.2.2.2.2) := ⟨rfl, rfl, rfl, fun id j q => ⟨k.2.2 id j (by omega), rfl⟩⟩
  have r : RM (h.1, h.2.1, h'.2.2.1, h.2.2.2.1, h.2.2.2.2) t sf S tm dk cd := ⟨R.1.cg g (fun id j q => by omega), R.2.1.cg g (fun id j q => by omega), R.2.2.1.cg g (fun id j q => by omega), R.2.2.2.1.cg g (fun id j q => by omega), R.2.2.2.2.1.cg' g (fun id j q => by omega), by rw [g.i (by omega)]; exact R.2.2.2.2.2⟩
  exact r
theorem RC.aft (R : RC h t sf S tm dk cd) (k : kM L h h') : RC h' t sf S tm dk cd := by
  obtain ⟨o, ⟨a1, a2⟩, a3, a4, a5, a6, ⟨a7, a8⟩, a9⟩ := R
  have g := k.2
  refine ⟨o, ⟨a1.cg g, a2.cg g (fun id j q => by omega)⟩, a3.cg g (fun id j q => by omega), a4.cg g (fun id j q => by omega), wlC.cg a5 g (fun id j q => by omega), a6.cg g (fun id j q => by omega), ⟨a7.cg' g (fun id j q => by omega), by rw [g.i (by omega)]; exact a8⟩, fun z => ?_⟩
  rw [g.i (by omega)] at z
  exact (a9 z).cg g (fun id j q => by omega)
/-! the class: one part of the state anew -/
theorem RC.tape (R : RC h t sf S tm dk cd) (g : Cg D h h') (hd : ∀ id j, D id j → 6 ≤ id ∧ id ≤ 18) (T : tapeC h' t') (F : shortC h' sf') : RC h' t' sf' S tm dk cd := by
  obtain ⟨o, ⟨a1, a2⟩, a3, a4, a5, a6, ⟨a7, a8⟩, a9⟩ := R
  have ne : ∀ j, ¬ D 5 j := fun j q => by have := hd 5 j q; omega
  refine ⟨o, ⟨a1.cg g, a2.cg g (fun id j q => by have := hd id j q; omega)⟩, a3.cg g (fun id j q => by have := hd id j q; omega), T, F, a6.cg g (fun id j q => by have := hd id j q; omega), ⟨a7.cg' g (fun id j q => by have := hd id j q; omega), by rw [g.i (ne _)]; exact a8⟩, fun z => ?_⟩
  rw [g.i (ne _)] at z
  exact (a9 z).cg g (fun id j q => by have := hd id j q; omega)
theorem RC.desk (R : RC h t sf S tm dk cd) (k : DC h h' dk' cd') : RC h' t sf S tm dk' cd' := by
  obtain ⟨o, ⟨a1, a2⟩, a3, a4, a5, a6, ⟨a7, a8⟩, a9⟩ := R
  have g : Cg (fun id _ => dkId id) h h' := Cg.of k.1 (fun id j q => q)
  refine ⟨o, ⟨a1.cg g, a2.cg g (fun id j q => by unfold dkId at q; omega)⟩, a3.cg g (fun id j q => by unfold dkId at q; omega), a4.cg g (fun id j q => by unfold dkId at q; omega), wlC.cg a5 g (fun id j q => by unfold dkId at q; omega), a6.cg g (fun id j q => by unfold dkId at q; omega), ⟨k.2.2.1, k.2.2.2⟩, fun z => ?_⟩
  rw [k.2.1 11 (by decide)] at z
  exact (a9 z).cg g (fun id j q => by unfold dkId at q; omega)
theorem DC.aft (c : Lay L h) (k : DC h h' dk' cd') : kC L h h' := kC.of c (Cg.of k.1 (fun id j q => q)) (fun id j q => by unfold dkId at q; omega)
theorem RC.pair {p' : Pr} (R : RC h t sf S tm dk cd) (k : PCh h h' S.2.1 p') : RC h' t sf (S.1, p', S.2.2.1, S.2.2.2) tm dk cd := by
  obtain ⟨o, ⟨a1, a2⟩, a3, a4, a5, a6, ⟨a7, a8⟩, a9⟩ := R
  have g : Cg (fun id _ => id = 5 ∨ prId id) h h' := Cg.of k.1 (fun id j q => q)
  refine ⟨o, ⟨a1.cg g, a2.cg g (fun id j q => by unfold prId at q; omega)⟩, ⟨a3.1.cg g (fun id j q => by unfold prId at q; omega), k.2.2.2.1, by rw [g.i (by unfold prId; omega)]; exact a3.2.2⟩, a4.cg g (fun id j q => by unfold prId at q; omega), wlC.cg a5 g (fun id j q => by unfold prId at q; omega), a6.cg g (fun id j q => by unfold prId at q; omega), ⟨a7.cg' g (fun id j q => by unfold prId at q; omega), by rw [k.2.1 10 (by decide)]; exact a8⟩, fun z => ?_⟩
  rcases k.2.2.2.2 with e | ⟨e, e2⟩
  · rw [e] at z; exact absurd z (by decide)
  · rw [e2] at z
    rw [e]
    exact (a9 z).cg g (fun id j q => by unfold prId at q; omega)
theorem PCh.aft {p p' : Pr} (c : Lay L h) (k : PCh h h' p p') : kC L h h' := kC.of c (Cg.of k.1 (fun id j q => q)) (fun id j q => by unfold prId at q; omega)
theorem RC.share {sh' : Sh} (R : RC h t sf S tm dk cd) (k : SCh h h' (bNk (S.1 0)) (bNk (S.1 1)) S.2.2.2 sh' tm') : RC h' t sf (S.1, S.2.1, S.2.2.1, sh') tm' dk cd := by
  obtain ⟨o, ⟨a1, a2⟩, a3, a4, a5, a6, ⟨a7, a8⟩, a9⟩ := R
  have g : Cg (fun id _ => id = 5 ∨ shId id) h h' := Cg.of k.1 (fun id j q => q)
  refine ⟨o, ⟨a1.cg g, a2.cg g (fun id j q => by unfold shId at q; omega)⟩, a3.cg g (fun id j q => by unfold shId at q; omega), a4.cg g (fun id j q => by unfold shId at q; omega), wlC.cg a5 g (fun id j q => by unfold shId at q; omega), k.2.2.2.1, ⟨a7.cg' g (fun id j q => by unfold shId at q; omega), by rw [k.2.1 10 (by decide)]; exact a8⟩, fun z => ?_⟩
  rcases k.2.2.2.2 with e | ⟨e, e2⟩
  · rw [e] at z; exact absurd z (by decide)
  · rw [e2] at z
    rw [e]
    exact (a9 z).cg g (fun id j q => by unfold shId at q; omega)
theorem SCh.aft {n0 n1 : Nat} {sh sh' : Sh} (c : Lay L h) (k : SCh h h' n0 n1 sh sh' tm') : kC L h h' := kC.of c (Cg.of k.1 (fun id j q => q)) (fun id j q => by unfold shId at q; omega)
theorem RC.ly (R : RC h t sf S tm dk cd) (g : Cg lkD h h') (W : hI h' 5 11 = 0 → WC h' S) : RC h' t sf S tm dk cd := by
  obtain ⟨o, ⟨a1, a2⟩, a3, a4, a5, a6, ⟨a7, a8⟩, a9⟩ := R
  exact ⟨o, ⟨a1.cg g, a2.cg g (fun id j q => by unfold lkD wyE at q; omega)⟩, a3.cg g (fun id j q => by unfold lkD wyE at q; omega), a4.cg g (fun id j q => by unfold lkD wyE at q; omega), wlC.cg a5 g (fun id j q => by unfold lkD wyE at q; omega), a6.cg g (fun id j q => by unfold lkD wyE at q; omega), ⟨a7.cg' g (fun id j q => by unfold lkD wyE at q; omega), by rw [g.i (by unfold lkD wyE; omega)]; exact a8⟩, W⟩
theorem lk_kC (c : Lay L h) (g : Cg lkD h h') : kC L h h' := kC.of c g (fun id j q => by unfold lkD wyE at q; omega)
theorem wy_lk (g : Cg wyE h h') : Cg lkD h h' := g.mono (fun id j q => Or.inl q)
/-! the reference -/
theorem RM.tape (R : RM h t sf S tm dk cd) (g : Cg D h h') (hd : ∀ id j, D id j → (id = 347 ∧ (j = 1 ∨ j = 4 ∨ j = 21 ∨ j = 22)) ∨ id = 348 ∨ id = 349 ∨ id = 350 ∨ id = 363) (T : tapeM h' t') (F : shortM h' sf') : RM h' t' sf' S tm dk cd :=
  ⟨R.1.cg g (fun id j q => by have := hd id j q; omega), T, F, R.2.2.2.1.cg g (fun id j q => by have := hd id j q; omega), R.2.2.2.2.1.cg' g (fun id j q => by have := hd id j q; omega), by rw [g.i (fun q => by have := hd _ _ q; omega)]; exact R.2.2.2.2.2⟩
def dmD (id j : Nat) : Prop := (id = 347 ∧ j = 19) ∨ (382 ≤ id ∧ id ≤ 384)
theorem DM.g (k : DM h h' dk' cd') : Cg dmD h h' := ⟨k.1.1, k.1.2.1, k.1.2.2.1, fun id j q => ⟨by
  by_cases e : id = 347
  · rw [e]; exact k.2.1 j (fun z => q (Or.inl ⟨e, z⟩))
  · exact (k.1.2.2.2 id (fun z => z.elim e (fun z => q (Or.inr z))) j).1, by rw [k.2.2.1]⟩⟩
theorem RM.desk (R : RM h t sf S tm dk cd) (k : DM h h' dk' cd') : RM h' t sf S tm dk' cd' :=
  ⟨R.1.cg k.g (fun id j q => by unfold dmD at q; omega), R.2.1.cg k.g (fun id j q => by unfold dmD at q; omega), R.2.2.1.cg k.g (fun id j q => by unfold dmD at q; omega), R.2.2.2.1.cg k.g (fun id j q => by unfold dmD at q; omega), k.2.2.2.1, k.2.2.2.2⟩
theorem DM.aft (c : Lay L h) (k : DM h h' dk' cd') : kM L h h' := kM.of c k.g (fun id j q => by unfold dmD at q; omega)
def pmD (id j : Nat) : Prop := (id = 347 ∧ j = 15) ∨ id = 359 ∨ id = 360
theorem PMh.g {p' : Pr} (k : PMh h h' p') : Cg pmD h h' := ⟨k.1.1, k.1.2.1, k.1.2.2.1, fun id j q => ⟨by
  by_cases e : id = 347
  · rw [e]; exact k.2.1 j (fun z => q (Or.inl ⟨e, z⟩))
  · exact (k.1.2.2.2 id (fun z => z.elim e (fun z => q (Or.inr z))) j).1, by rw [k.2.2.1]⟩⟩
theorem RM.pair {p' : Pr} (R : RM h t sf S tm dk cd) (k : PMh h h' p') : RM h' t sf (S.1, p', S.2.2.1, S.2.2.2) tm dk cd :=
  ⟨⟨R.1.1.cg k.g (fun id j q => by unfold pmD at q; omega), k.2.2.2, by rw [k.g.i (by unfold pmD; omega)]; exact R.1.2.2⟩, R.2.1.cg k.g (fun id j q => by unfold pmD at q; omega), R.2.2.1.cg k.g (fun id j q => by unfold pmD at q; omega), R.2.2.2.1.cg k.g (fun id j q => by unfold pmD at q; omega), R.2.2.2.2.1.cg' k.g (fun id j q => by unfold pmD at q; omega), by rw [k.g.i (by unfold pmD; omega)]; exact R.2.2.2.2.2⟩
theorem PMh.aft {p' : Pr} (c : Lay L h) (k : PMh h h' p') : kM L h h' := kM.of c k.g (fun id j q => by unfold pmD at q; omega)
def tpD (id j : Nat) : Prop := (id = 347 ∧ j = 1) ∨ id = 348
theorem TMh.g (k : TMh h h' t') : Cg tpD h h' := ⟨k.1.1, k.1.2.1, k.1.2.2.1, fun id j q => ⟨by
  by_cases e : id = 347
  · rw [e]; exact k.2.1 j (fun z => q (Or.inl ⟨e, z⟩))
  · exact (k.1.2.2.2 id (fun z => z.elim e (fun z => q (Or.inr z))) j).1, by rw [k.2.2.1]⟩⟩
theorem RM.share {sh' : Sh} (R : RM h t sf S tm dk cd) (g : Cg D h h') (hd : ∀ id j, D id j → (id = 361 ∨ id = 362 ∨ (369 ≤ id ∧ id ≤ 376)) ∨ (id = 347 ∧ 20 < j)) (T : shareM h' (bNk (S.1 0)) (bNk (S.1 1)) sh' tm') : RM h' t sf (S.1, S.2.1, S.2.2.1, sh') tm' dk cd :=
  ⟨R.1.cg g (fun id j q => by have := hd id j q; omega), R.2.1.cg g (fun id j q => by have := hd id j q; omega), R.2.2.1.cg g (fun id j q => by have := hd id j q; omega), T, R.2.2.2.2.1.cg' g (fun id j q => by have := hd id j q; omega), by rw [g.i (fun q => by have := hd _ _ q; omega)]; exact R.2.2.2.2.2⟩
theorem RM.ly (R : RM h t sf S tm dk cd) (g : Cg lmE h h') : RM h' t sf S tm dk cd :=
  ⟨R.1.cg g (fun id j q => by unfold lmE bsD lmD at q; omega), R.2.1.cg g (fun id j q => by unfold lmE bsD lmD at q; omega), R.2.2.1.cg g (fun id j q => by unfold lmE bsD lmD at q; omega), R.2.2.2.1.cg g (fun id j q => by unfold lmE bsD lmD at q; omega), R.2.2.2.2.1.cg' g (fun id j q => by unfold lmE bsD lmD at q; omega), by rw [g.i (by unfold lmE bsD lmD; omega)]; exact R.2.2.2.2.2⟩
theorem lm_kM (c : Lay L h) (g : Cg lmE h h') : kM L h h' := kM.of c g (fun id j q => lmE5 q)
theorem bs_lm (g : Cg bsD h h') : Cg lmE h h' := g.mono (fun id j q => Or.inl q)
end ST
