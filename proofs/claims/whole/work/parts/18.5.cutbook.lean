/-! ===== take: the reference ===== -/
def ckD (id j : Nat) : Prop := (id = 347 ∧ (j = 21 ∨ j = 22 ∨ (28 ≤ j ∧ j ≤ 32))) ∨ (363 ≤ id ∧ id ≤ 368)
theorem bookPM.cg {D : Nat → Nat → Prop} {h h' : Hp} {P : Ps} (T : bookPM h P) (a : Cg D h h') (hd : ∀ id j, D id j → ¬ (364 ≤ id ∧ id ≤ 368) ∧ (id = 347 → ¬ (28 ≤ j ∧ j ≤ 31))) : bookPM h' P := by
  obtain ⟨o, ⟨d1, d2, d3, d4, d5⟩, d6, d7, d8, d9⟩ := T
  have n7 : ∀ {j : Nat}, 28 ≤ j → j ≤ 31 → hI h' 347 j = hI h 347 j := fun {j} h1 h2 => a.i (fun q => (hd _ _ q).2 rfl ⟨h1, h2⟩)
  have nd : ∀ {id j : Nat}, 364 ≤ id → id ≤ 368 → hI h' id j = hI h id j := fun {id j} h1 h2 => a.i (fun q => (hd _ _ q).1 ⟨h1, h2⟩)
  exact ⟨o, ⟨by rw [n7 (by omega) (by omega)]; exact d1, by rw [n7 (by omega) (by omega)]; exact d2, by rw [n7 (by omega) (by omega)]; exact d3, by rw [n7 (by omega) (by omega)]; exact d4, by rw [nd (by omega) (by omega)]; exact d5⟩, d6.cg a (fun id j q => ⟨fun z => (hd _ _ q).1 (by omega), fun z => (hd _ _ q).1 (by omega)⟩), fun s hs => ⟨by rw [nd (by omega) (by omega)]; exact (d7 s hs).1, by rw [nd (by omega) (by omega)]; exact (d7 s hs).2⟩, fun s i hs hi => by rw [nd (by omega) (by omega)]; exact d8 s i hs hi, fun i hi => by rw [nd (by omega) (by omega)]; exact d9 i hi⟩
theorem cutR_ok {t : Tp} : ∀ (d p : Nat) (W : Wr), p + d = t.1 → okW W → okW (cutR t d p W).2 ∧ p ≤ (cutR t d p W).1 ∧ (cutR t d p W).1 ≤ t.1 ∧ ltr t (cutR t d p W).1 = 0
  | 0, p, W, hp, o => ⟨o, Nat.le_refl _, by show p ≤ t.1; omega, ltr_out (by show t.1 ≤ p; omega)⟩
  | d + 1, p, W, hp, o => by
    unfold cutR
    by_cases q : ltr t p = 0
    · rw [if_pos q]; exact ⟨o, Nat.le_refl _, by show p ≤ t.1; omega, q⟩
    · rw [if_neg q]
      have := cutR_ok (t := t) d (p + 1) (wAdd W (ltr t p)) (by omega) (o.add (c := ltr t p) ltr_128)
      exact ⟨this.1, Nat.le_trans (Nat.le_succ p) this.2.1, this.2.2⟩
theorem scan_cut {t : Tp} {sf : Sf} {P : Ps} : ∀ (d p : Nat) (W : Wr), p + d = t.1 → scan t sf d W P = scan t sf (t.1 - (cutR t d p W).1) (cutR t d p W).2 P
  | 0, p, W, hp => by
    show scan t sf 0 W P = scan t sf (t.1 - p) W P
    rw [show t.1 - p = 0 by omega]
  | d + 1, p, W, hp => by
    unfold cutR
    by_cases q : ltr t p = 0
    · rw [if_pos q]
      show scan t sf (d + 1) W P = scan t sf (t.1 - p) W P
      rw [show t.1 - p = d + 1 by omega]
    · rw [if_neg q, ← scan_cut d (p + 1) _ (by omega)]
      show (if ltr t (t.1 - (d + 1)) = 0 then _ else scan t sf d (wAdd W (ltr t (t.1 - (d + 1)))) P) = _
      rw [show t.1 - (d + 1) = p by omega, if_neg q]
theorem cutR_ne {t : Tp} : ∀ (d p : Nat) (W : Wr), W.1 ≠ 0 → (cutR t d p W).2.1 ≠ 0
  | 0, p, W, h => h
  | d + 1, p, W, h => by
    unfold cutR
    split
    · exact h
    · refine cutR_ne d (p + 1) _ ?_
      unfold wAdd
      split
      · show W.1 + 1 ≠ 0; omega
      · exact h
theorem scan_w {t : Tp} {sf : Sf} {W : Wr} {P : Ps} {q : Nat} (hq : q ≤ t.1) (hl : ltr t q = 0) (h1 : W.1 ≠ 0) : scan t sf (t.1 - q) W P = (pWord W P).bind (fun P' => if q < t.1 ∧ t.2 q = 46 ∧ isSh sf W = true then scan t sf (t.1 - (q + 1)) w0 P' else scan t sf (t.1 - q) w0 P') := by
  have ea : addW W P = pWord W P := if_neg h1
  have e0 : ∀ P, addW w0 P = some P := fun P => if_pos rfl
  by_cases z : q < t.1
  · rw [show t.1 - q = (t.1 - (q + 1)) + 1 by omega]
    have un : ∀ (W : Wr) (P : Ps), scan t sf ((t.1 - (q + 1)) + 1) W P = (addW W P).bind (fun P' => scan t sf (t.1 - (q + 1)) w0 (sep t q (decide (W.1 ≠ 0) && isSh sf W) P')) := fun W P => by
      show (if ltr t (t.1 - ((t.1 - (q + 1)) + 1)) = 0 then _ else _) = _
      rw [show t.1 - ((t.1 - (q + 1)) + 1) = q by omega, if_pos hl]
    rw [un, ea]
    cases e : pWord W P with
    | none => rfl
    | some P' =>
      show scan t sf (t.1 - (q + 1)) w0 _ = if _ then scan t sf (t.1 - (q + 1)) w0 P' else scan t sf (t.1 - (q + 1) + 1) w0 P'
      rw [un, e0, decide_eq_true h1, Bool.true_and]
      show _ = if _ then _ else scan t sf (t.1 - (q + 1)) w0 (sep t q (decide (w0.1 ≠ 0) && isSh sf w0) P')
      rw [show decide (w0.1 ≠ 0) = false from rfl, Bool.false_and]
      by_cases y : t.2 q = 46 ∧ isSh sf W = true
      · rw [if_pos ⟨z, y⟩]
        congr 1
        unfold sep
        rw [if_neg (by omega), if_neg (by rw [y.2]; intro u; rcases u with u | u | u; · omega
                                          · omega
                                          · cases u.2)]
      · rw [if_neg (fun u => y u.2)]
        congr 1
        unfold sep
        by_cases k : t.2 q = 46
        · have : isSh sf W = false := by cases v : isSh sf W; · rfl
                                         · exact absurd ⟨k, v⟩ y
          rw [this]
        · have : ∀ s : Bool, (t.2 q = 33 ∨ t.2 q = 63 ∨ (t.2 q = 46 ∧ s = false)) ↔ (t.2 q = 33 ∨ t.2 q = 63) := fun s => ⟨fun u => by omega, fun u => by omega⟩
          have r : ∀ s : Bool, (if t.2 q = 33 ∨ t.2 q = 63 ∨ (t.2 q = 46 ∧ s = false) then pEndS P' else P') = if t.2 q = 33 ∨ t.2 q = 63 then pEndS P' else P' := fun s => by simp only [this]
          rw [r, r]
  · have : t.1 - q = 0 := by omega
    rw [this]
    show (addW W P).map pEndP = _
    rw [ea]
    cases e : pWord W P with
    | none => rfl
    | some P' =>
      show some (pEndP P') = if _ then _ else (addW w0 P').map pEndP
      rw [if_neg (by omega), e0]; rfl
section TM2
variable {w : Wd} {L : Nat} {h : Hp} {t : Tp} {sf : Sf}
theorem sp_cutBook {Q : Hp → Prop} (c : Lay L h) (T : tapeM h t) (S : shortM h sf) (K1 : scan t sf t.1 w0 p0 = none → ∀ h', Cg ckD h h' → hI h' 347 32 = 1 → Q h') (K2 : ∀ P, scan t sf t.1 w0 p0 = some P → ∀ h', Cg ckD h h' → hI h' 347 32 = 0 → bookPM h' P → Q h') : AC w mX10_cutBook 0 0 (rV Q) [.ref 347] h := by
  have hn := T.1
  have ok : ∀ {h'}, Cg ckD h h' → Lay L h' ∧ tapeM h' t ∧ shortM h' sf := fun a => ⟨a.lay c (fun id j q => by unfold ckD at q; omega), T.cg a (fun id j q => by unfold ckD at q; omega), S.cg a (fun id j q => by unfold ckD at q; omega)⟩
  have nd : ∀ {x y}, Cg ndD x y → Cg ckD x y := fun a => a.mono (fun id j q => by unfold ndD at q; unfold ckD; omega)
  have at22 : ∀ {x y : Hp}, Cg ndD x y → hI y 347 22 = hI x 347 22 := fun a => a.i (by unfold ndD; omega)
  have full : ∀ h', scan t sf t.1 w0 p0 = none → Cg ckD h h' → hI h' 347 32 = 1 → weakM h' → AW w mX10_cutBook 0 0 (rV Q) 0 0 37 [some (.ref 347), none] [] h' := fun h' e a e32 V => by
    obtain ⟨c', T', S'⟩ := ok a
    have E : AC w mX10_endParagraph 0 0 (rV fun h1 => Q h1) [.ref 347] h' := sp_endParagraphW c' V (fun h2 a2 g2 => K1 e h2 (a.trans (nd a2)) (g2.trans e32))
    refine sX10_cutBook_37 ⟨by rw [s_347 c'], fun _ => E, fun _ => ⟨fun _ => E, fun z => ?_⟩⟩
    rw [e32] at z
    exact absurd z (by decide)
  have lp : ∀ (d p : Nat) (P : Ps) (h' : Hp), t.1 ≤ p + d → p ≤ t.1 → scan t sf (t.1 - p) w0 P = scan t sf t.1 w0 p0 → Cg ckD h h' → hI h' 347 22 = nI p → hI h' 347 32 = 0 → bookPM h' P → AW w mX10_cutBook 0 0 (rV Q) 0 0 37 [some (.ref 347), none] [] h' := by
    intro d
    induction d with
    | zero =>
      intro p P h' hp hp' he a e22 e32 D
      obtain ⟨c', T', S'⟩ := ok a
      refine sX10_cutBook_37 ?_
      rw [s_347 c', T'.2.1, e22, ti_le, nI_toInt (by omega), nI_toInt (by omega)]
      refine ⟨rfl, fun _ => sp_endParagraphM c' D (fun h2 a2 g2 D2 => K2 (pEndP P) ?_ h2 (a.trans (nd a2)) (g2.trans e32) D2), fun z => by omega⟩
      rw [← he, show t.1 - p = 0 by omega]
      show (addW w0 P).map pEndP = _
      rw [show addW w0 P = some P from if_pos rfl]; rfl
    | succ d ih =>
      intro p P h' hp hp' he a e22 e32 D
      obtain ⟨c', T', S'⟩ := ok a
      by_cases zz : p < t.1
      · have tp := T'.2.2 p zz
        have tpv := tp.2
        have t256 := tp.1
        refine sX10_cutBook_37 ?_
        rw [s_347 c', T'.2.1, e22, e32, ti_le, nI_toInt (by omega), nI_toInt (by omega)]
        refine ⟨rfl, fun z => by omega, fun _ => ⟨fun z => absurd rfl z, fun _ => sp_letterOf c' T' (by omega) ?_⟩⟩
        rw [nI_0' (Nat.lt_trans ltr_128 (by decide))]
        refine ⟨fun q => ?_, fun q => ⟨by rw [s_347 c'], ?_⟩⟩
        · have un : scan t sf (t.1 - p) w0 P = scan t sf (t.1 - (p + 1)) w0 (sep t p false P) := by
            rw [show t.1 - p = (t.1 - (p + 1)) + 1 by omega]
            show (if ltr t (t.1 - ((t.1 - (p + 1)) + 1)) = 0 then _ else _) = _
            rw [show t.1 - ((t.1 - (p + 1)) + 1) = p by omega, if_pos q, show addW w0 P = some P from if_pos rfl]
            rfl
          rw [un] at he
          have nx : ∀ h2, Cg ndD h' h2 → hI h2 347 32 = hI h' 347 32 → bookPM h2 (sep t p false P) → (hs h2 347).1 = 30 ∧ ∀ h5, h5 = sI h2 347 22 (hI h2 347 22 + 1) → AW w mX10_cutBook 0 0 (rV Q) 0 0 37 [some (.ref 347), none] [] h5 := fun h2 a2 g2 D2 => by
            have c2 : Lay L h2 := a2.lay c' (fun id j q => by unfold ndD at q; omega)
            refine ⟨by rw [s_347 c2], fun h5 e5 => ?_⟩
            subst e5
            rw [at22 a2, e22, nI_1]
            exact ih (p + 1) _ _ (by omega) (by omega) he ((a.trans (nd a2)).sI (by unfold ckD; omega)) hI_eq (by rw [hI_ne (Or.inr (by decide)), g2]; exact e32) (D2.cg ((Cg.rfl' h2).sI (D := fun id j => id = 347 ∧ j = 22) ⟨rfl, rfl⟩) (fun id j q => by omega))
          have es : (t.2 p = 33 ∨ t.2 p = 63 ∨ t.2 p = 46) → sep t p false P = pEndS P := fun u => by
            unfold sep
            rw [if_neg (by omega), if_pos (by rcases u with u | u | u; · exact Or.inl u
                                              · exact Or.inr (Or.inl u)
                                              · exact Or.inr (Or.inr ⟨u, rfl⟩))]
          have go : (t.2 p = 33 ∨ t.2 p = 63 ∨ t.2 p = 46) → AC w mX10_endSentence 0 0 (rV fun h4 => (hs h4 347).1 = 30 ∧ ∀ h5, h5 = sI h4 347 22 (hI h4 347 22 + 1) → AW w mX10_cutBook 0 0 (rV Q) 0 0 37 [some (.ref 347), none] [] h5) [.ref 347] h' := fun u => sp_endSentenceM c' D (fun h2 a2 g2 D2 => nx h2 a2 g2 (by rw [es u]; exact D2))
          have goP : t.2 p = 10 → AC w mX10_endParagraph 0 0 (rV fun h4 => (hs h4 347).1 = 30 ∧ ∀ h5, h5 = sI h4 347 22 (hI h4 347 22 + 1) → AW w mX10_cutBook 0 0 (rV Q) 0 0 37 [some (.ref 347), none] [] h5) [.ref 347] h' := fun u => sp_endParagraphM c' D (fun h2 a2 g2 D2 => nx h2 a2 g2 (by unfold sep; rw [if_pos u]; exact D2))
          have go0 : ¬ (t.2 p = 33 ∨ t.2 p = 63 ∨ t.2 p = 46 ∨ t.2 p = 10) → ∀ h5, h5 = sI h' 347 22 (nI p + 1) → AW w mX10_cutBook 0 0 (rV Q) 0 0 37 [some (.ref 347), none] [] h5 := fun u h5 e5 => (nx h' (Cg.rfl' h') rfl (by
            unfold sep
            rw [if_neg (by omega), if_neg (by omega)]; exact D)).2 h5 (by rw [e22]; exact e5)
          have e33 : nI (t.2 p) = 33 ↔ t.2 p = 33 := nI_inj (b := 33) (by omega) (by decide)
          have e46 : nI (t.2 p) = 46 ↔ t.2 p = 46 := nI_inj (b := 46) (by omega) (by decide)
          have e63 : nI (t.2 p) = 63 ↔ t.2 p = 63 := nI_inj (b := 63) (by omega) (by decide)
          have e10 : nI (t.2 p) = 10 ↔ t.2 p = 10 := nI_inj (b := 10) (by omega) (by decide)
          rw [e22, r_347_0 c', s_348 c', s_347 c', cl_nI (by omega), tpv, e33, e46, e63, e10]
          exact ⟨rfl, by decide, rfl, vp_nI (by omega) (by decide), fun u => go (Or.inl u), fun u1 => ⟨fun u => go (Or.inr (Or.inr u)), fun u2 => ⟨fun u3 => ⟨fun u4 => go0 (by omega), fun u => goP u⟩, fun u => go (Or.inr (Or.inl u))⟩⟩⟩
        · refine sp_cutWord c' T' hp' e22 (fun h2 a2 e2 B2 => ?_)
          obtain ⟨k1, k2, k3, k4⟩ := cutR_ok (t := t) (t.1 - p) p w0 (by omega) ⟨Nat.zero_le _, fun i hi => absurd hi (Nat.not_lt_zero i)⟩
          have kn : (cutR t (t.1 - p) p w0).2.1 ≠ 0 ∧ p + 1 ≤ (cutR t (t.1 - p) p w0).1 := by
            rw [show t.1 - p = (t.1 - (p + 1)) + 1 by omega]
            unfold cutR
            rw [if_neg q]
            exact ⟨cutR_ne _ _ _ (by unfold wAdd; rw [if_pos (by decide)]; show 0 + 1 ≠ 0; omega), (cutR_ok (t := t) (t.1 - (p + 1)) (p + 1) _ (by omega) (okW.add ⟨Nat.zero_le _, fun i hi => absurd hi (Nat.not_lt_zero i)⟩ ltr_128)).2.1⟩
          have sc := scan_cut (t := t) (sf := sf) (P := P) (t.1 - p) p w0 (by omega)
          rw [he] at sc
          revert k1 k2 k3 k4 kn sc e2 B2
          generalize cutR t (t.1 - p) p w0 = R
          intro e2 B2 k1 k2 k3 k4 kn sc
          rw [scan_w k3 k4 kn.1] at sc
          have a2' : Cg ckD h' h2 := a2.mono (fun id j q => by unfold cwD at q; unfold ckD; omega)
          obtain ⟨c2, T2, S2⟩ := ok (a.trans a2')
          have D2 : bookPM h2 P := D.cg a2 (fun id j q => by unfold cwD at q; omega)
          have f32 : hI h2 347 32 = 0 := by rw [a2.i (by unfold cwD; omega)]; exact e32
          refine ⟨by rw [s_347 c2], sp_addWordM c2 D2 B2 kn.1 (fun e h3 a3 g3 V3 => ?_) (fun P' e h3 a3 g3 D3 => ?_) f32⟩
          · obtain ⟨c3, T3, S3⟩ := ok ((a.trans a2').trans (nd a3))
            have B3 := B2.cg a3 (fun id j q => by unfold ndD at q; omega)
            have f22 : hI h3 347 22 = nI R.1 := by rw [at22 a3]; exact e2
            have none' : scan t sf t.1 w0 p0 = none := by rw [sc, e]; rfl
            have F := full h3 none' ((a.trans a2').trans (nd a3)) g3 V3
            rw [s_347 c3, T3.2.1, f22, ti_le, nI_toInt (by omega), nI_toInt (by omega), r_347_0 c3, s_348 c3, cl_nI (by omega)]
            refine ⟨rfl, fun _ => F, fun z => ⟨by decide, rfl, vp_nI (by omega) (by decide), fun _ => F, fun _ => sp_isShort c3 S3 B3 ⟨fun _ => F, fun _ => ⟨by rw [s_347 c3], fun h5 e5 => ?_⟩⟩⟩⟩
            subst e5
            refine full _ none' (((a.trans a2').trans (nd a3)).sI (by unfold ckD; omega)) (by rw [hI_ne (Or.inr (by decide))]; exact g3) ?_
            obtain ⟨ns, v, v1, v2, v3, v4, v5⟩ := V3
            exact ⟨ns, v, v1, v2, by rw [hI_ne (Or.inr (by decide))]; exact v3, by rw [hI_ne (Or.inl (by decide))]; exact v4, v5⟩
          · obtain ⟨c3, T3, S3⟩ := ok ((a.trans a2').trans (nd a3))
            have B3 := B2.cg a3 (fun id j q => by unfold ndD at q; omega)
            have f22 : hI h3 347 22 = nI R.1 := by rw [at22 a3]; exact e2
            rw [e] at sc
            have sc : scan t sf t.1 w0 p0 = if R.1 < t.1 ∧ t.2 R.1 = 46 ∧ isSh sf R.2 = true then scan t sf (t.1 - (R.1 + 1)) w0 P' else scan t sf (t.1 - R.1) w0 P' := sc
            have stay : ¬ (R.1 < t.1 ∧ t.2 R.1 = 46 ∧ isSh sf R.2 = true) → AW w mX10_cutBook 0 0 (rV Q) 0 0 37 [some (.ref 347), none] [] h3 := fun u => by
              rw [if_neg u] at sc
              exact ih R.1 P' h3 (by omega) k3 sc.symm ((a.trans a2').trans (nd a3)) f22 g3 D3
            rw [s_347 c3, T3.2.1, f22, ti_le, nI_toInt (by omega), nI_toInt (by omega), r_347_0 c3, s_348 c3, cl_nI (by omega)]
            refine ⟨rfl, fun z => stay (by omega), fun z => ⟨by decide, rfl, vp_nI (by omega) (by decide), ?_⟩⟩
            obtain ⟨v1, v2⟩ := T3.2.2 R.1 (by omega)
            rw [v2, show (46 : Int32) = nI 46 from rfl, nI_inj (by omega) (by decide)]
            refine ⟨fun u => stay (by omega), fun u => sp_isShort c3 S3 B3 ?_⟩
            rw [b01_ne, b01_eq]
            refine ⟨fun y => stay (fun x => by rw [x.2.2] at y; cases y), fun y => ⟨by rw [s_347 c3], fun h5 e5 => ?_⟩⟩
            subst e5
            rw [if_pos ⟨by omega, u, y⟩] at sc
            rw [f22, nI_1]
            exact ih (R.1 + 1) P' _ (by omega) (by omega) sc.symm (((a.trans a2').trans (nd a3)).sI (by unfold ckD; omega)) hI_eq (by rw [hI_ne (Or.inr (by decide))]; exact g3) (D3.cg ((Cg.rfl' h3).sI (D := fun id j => id = 347 ∧ j = 22) ⟨rfl, rfl⟩) (fun id j q => by omega))
      · refine sX10_cutBook_37 ?_
        rw [s_347 c', T'.2.1, e22, ti_le, nI_toInt (by omega), nI_toInt (by omega)]
        refine ⟨rfl, fun _ => sp_endParagraphM c' D (fun h2 a2 g2 D2 => K2 (pEndP P) ?_ h2 (a.trans (nd a2)) (g2.trans e32) D2), fun z => by omega⟩
        rw [← he, show t.1 - p = 0 by omega]
        show (addW w0 P).map pEndP = _
        rw [show addW w0 P = some P from if_pos rfl]; rfl
  refine eX10_cutBook (sX10_cutBook_0 ?_)
  simp only [s_347 c, r_347_23 c, s_364 c, e0c, forall_eq]
  refine ⟨trivial, by decide, trivial, vp_nI (j := 0) (by decide) (by decide), lp t.1 0 p0 _ (by omega) (by omega) rfl ((((((((Cg.rfl' h).sI (by unfold ckD; omega)).sI (by unfold ckD; omega)).sI (by unfold ckD; omega)).sI (by unfold ckD; omega)).sI (by unfold ckD; omega)).sI (by unfold ckD; omega)).sI (by unfold ckD; omega)) hI_eq (by simp (disch := omega) only [hI_ne, hI_eq]) ⟨okQ.p0, ⟨?_, ?_, ?_, ?_, ?_⟩, ⟨Nat.zero_le _, fun k hk => absurd hk (Nat.not_lt_zero k), fun k hk => absurd hk (Nat.not_lt_zero k)⟩, fun k hk => absurd hk (Nat.not_lt_zero k), fun k i hk => absurd hk (Nat.not_lt_zero k), fun k hk => absurd hk (Nat.not_lt_zero k)⟩⟩
  · simp (disch := omega) only [hI_ne, hI_eq]; rfl
  · simp (disch := omega) only [hI_ne, hI_eq]; rfl
  · simp (disch := omega) only [hI_ne, hI_eq]; rfl
  · simp (disch := omega) only [hI_ne, hI_eq]; rfl
  · show hI _ 364 0 = nI 0
    simp (disch := omega) only [hI_ne, hI_eq]; rfl
/-- every place of a row from 0 to n - 1 copied: the reference's loops -/
theorem sp_loseTies {Q : Hp → Prop} {n1 : Nat} (c : Lay L h) (hn : n1 ≤ 40) (e10 : hI h 356 1 = nI n1) (K : ∀ h', Cg (fun id j => (id = 347 ∧ j = 15) ∨ (359 ≤ id ∧ id ≤ 362)) h h' → pairM h' pr0 → (∀ n0, n0 ≤ 40 → shareM h' n0 n1 (sh0 n1) tm0) → Q h') : AC w mX10_loseTies 0 0 (rV Q) [.ref 347] h := by
  have ne : ¬ nI (n1 + 1) = 0 := by rw [nI_0' (by omega)]; omega
  have cl : ∀ {h'}, Cg (fun id j => (id = 347 ∧ j = 15) ∨ (359 ≤ id ∧ id ≤ 362)) h h' → Lay L h' ∧ hI h' 356 1 = nI n1 := fun a => ⟨a.lay c (fun id j q => by omega), by rw [a.i (by omega)]; exact e10⟩
  have lp3 : ∀ (a : Nat), a < 40 → ∀ (d b : Nat) (h' : Hp), b + d = 41 → Cg (fun id j => (id = 347 ∧ j = 15) ∨ (359 ≤ id ∧ id ≤ 362)) h h' → pairM h' pr0 → (∀ x, x ≤ a → hI h' 361 x = -1) → (∀ x, x < a → ∀ y, y < 41 → hI h' 362 (41 * x + y) = sh0 n1 x y) → (∀ y, y < b → hI h' 362 (41 * a + y) = sh0 n1 a y) → (∀ h2, Cg (fun id j => (id = 347 ∧ j = 15) ∨ (359 ≤ id ∧ id ≤ 362)) h h2 → pairM h2 pr0 → (∀ x, x ≤ a → hI h2 361 x = -1) → (∀ x, x ≤ a → ∀ y, y < 41 → hI h2 362 (41 * x + y) = sh0 n1 x y) → AW w mX10_loseTies 0 0 (rV Q) 0 0 35 [some (.ref 347), some (.int (nI (a + 1))), none] [] h2) → AW w mX10_loseTies 0 0 (rV Q) 0 0 50 [some (.ref 347), some (.int (nI a)), some (.int (nI b))] [] h' := by
    intro a ha d
    induction d with
    | zero =>
      intro b h' hb g pm e1 e2 e3 NX
      refine sX10_loseTies_50 ?_
      simp (disch := omega) only [forall_eq, hs_sI, hs_sL, hR_sI, hR_sL, hI_eq, hI_ne, hI_sL, hL_sI, ti_lt, ti_le, ti_eq, nI_toInt, cl_nI, nI_1, nI_add, t_0, t_1, t_2, t_3, t_4, t_5, t_6, t_7, t_8, t_9, t_10, t_12, t_15, t_16, t_20, t_21, t_24, t_26, t_30, t_31, t_32, t_33, t_39, t_40, t_41, t_45, t_46, t_47, t_48, t_57, t_60, t_63, t_65, t_90, t_97, t_100, t_122, t_200, t_230, t_240, t_255, t_400, t_440, t_441, t_450, t_480, t_1580, t_1600, t_10000, t_131071, t_131072, t_1048576, t_1000000000, tm_1, tm_100001, tm_100002, tm_100003, tm_100004]
      refine ⟨fun _ => NX h' g pm e1 (fun x hx y hy => ?_), fun z => by omega⟩
      by_cases q : x = a
      · subst q; exact e3 y (by omega)
      · exact e2 x (by omega) y hy
    | succ d ih =>
      intro b h' hb g pm e1 e2 e3 NX
      obtain ⟨c', e10'⟩ := cl g
      refine sX10_loseTies_50 ?_
      have nx := ih (b + 1) (sI h' 362 (41 * a + b) (1048576 / nI (n1 + 1))) (by omega) (g.sI (by omega)) ⟨pm.1, by rw [hI_ne (Or.inl (by decide))]; exact pm.2.1, fun i hi => ⟨by rw [hI_ne (Or.inl (by decide))]; exact (pm.2.2 i hi).1, by rw [hI_ne (Or.inl (by decide))]; exact (pm.2.2 i hi).2⟩⟩ (fun x hx => by rw [hI_ne (Or.inl (by decide))]; exact e1 x hx) (fun x hx y hy => by rw [hI_ne (Or.inr (by omega))]; exact e2 x hx y hy) (fun y hy => by
        by_cases q : y = b
        · subst q; exact hI_eq
        · rw [hI_ne (Or.inr (by omega))]; exact e3 y (by omega)) NX
      simp (disch := omega) only [s_347 c', r_347_18 c', r_347_10 c', s_356 c', s_362 c', e1c, e10', m_41, forall_eq, ti_lt, nI_toInt, cl_nI, nI_1, nI_add, t_40]
      exact ⟨fun z => by omega, fun _ => ⟨trivial, by decide, by decide, trivial, vp_nI (j := 1) (by decide) (by decide), ne, trivial, vp_nI (by omega) (by decide), nx⟩⟩
  have lp2 : ∀ (d a : Nat) (h' : Hp), a + d = 40 → Cg (fun id j => (id = 347 ∧ j = 15) ∨ (359 ≤ id ∧ id ≤ 362)) h h' → pairM h' pr0 → (∀ x, x < a → hI h' 361 x = -1) → (∀ x, x < a → ∀ y, y < 41 → hI h' 362 (41 * x + y) = sh0 n1 x y) → AW w mX10_loseTies 0 0 (rV Q) 0 0 35 [some (.ref 347), some (.int (nI a)), none] [] h' := by
    intro d
    induction d with
    | zero =>
      intro a h' hd g pm e1 e2
      refine sX10_loseTies_35 ?_
      simp (disch := omega) only [forall_eq, hs_sI, hs_sL, hR_sI, hR_sL, hI_eq, hI_ne, hI_sL, hL_sI, ti_lt, ti_le, ti_eq, nI_toInt, cl_nI, nI_1, nI_add, t_0, t_1, t_2, t_3, t_4, t_5, t_6, t_7, t_8, t_9, t_10, t_12, t_15, t_16, t_20, t_21, t_24, t_26, t_30, t_31, t_32, t_33, t_39, t_40, t_41, t_45, t_46, t_47, t_48, t_57, t_60, t_63, t_65, t_90, t_97, t_100, t_122, t_200, t_230, t_240, t_255, t_400, t_440, t_441, t_450, t_480, t_1580, t_1600, t_10000, t_131071, t_131072, t_1048576, t_1000000000, tm_1, tm_100001, tm_100002, tm_100003, tm_100004]
      exact ⟨fun _ => K h' g pm (fun n0 h0 => ⟨okS.s0 h0 hn, fun x hx => ⟨e1 x (by omega), e2 x (by omega) 40 (by decide), fun b hb => e2 x (by omega) b (by omega)⟩⟩), fun z => by omega⟩
    | succ d ih =>
      intro a h' hd g pm e1 e2
      obtain ⟨c', e10'⟩ := cl g
      refine sX10_loseTies_35 ?_
      have nx := lp3 a (by omega) 41 0 (sI h' 361 a (-1)) (by omega) (g.sI (by omega)) ⟨pm.1, by rw [hI_ne (Or.inl (by decide))]; exact pm.2.1, fun i hi => ⟨by rw [hI_ne (Or.inl (by decide))]; exact (pm.2.2 i hi).1, by rw [hI_ne (Or.inl (by decide))]; exact (pm.2.2 i hi).2⟩⟩ (fun x hx => by
        by_cases q : x = a
        · subst q; exact hI_eq
        · rw [hI_ne (Or.inr q)]; exact e1 x (by omega)) (fun x hx y hy => by rw [hI_ne (Or.inl (by decide))]; exact e2 x hx y hy) (fun y hy => by omega) (fun h2 g2 pm2 f1 f2 => ih (a + 1) h2 (by omega) g2 pm2 (fun x hx => f1 x (by omega)) (fun x hx => f2 x (by omega)))
      simp (disch := omega) only [s_347 c', r_347_17 c', s_361 c', forall_eq, hs_sI, hs_sL, hR_sI, hR_sL, hI_eq, hI_ne, hI_sL, hL_sI, ti_lt, ti_le, ti_eq, nI_toInt, cl_nI, nI_1, nI_add, t_0, t_1, t_2, t_3, t_4, t_5, t_6, t_7, t_8, t_9, t_10, t_12, t_15, t_16, t_20, t_21, t_24, t_26, t_30, t_31, t_32, t_33, t_39, t_40, t_41, t_45, t_46, t_47, t_48, t_57, t_60, t_63, t_65, t_90, t_97, t_100, t_122, t_200, t_230, t_240, t_255, t_400, t_440, t_441, t_450, t_480, t_1580, t_1600, t_10000, t_131071, t_131072, t_1048576, t_1000000000, tm_1, tm_100001, tm_100002, tm_100003, tm_100004]
      exact ⟨fun z => by omega, fun _ => ⟨trivial, by decide, trivial, vp_nI (by omega) (by decide), nx⟩⟩
  have lp1 : ∀ (d k : Nat) (h' : Hp), k + d = 20 → Cg (fun id j => (id = 347 ∧ j = 15) ∨ (359 ≤ id ∧ id ≤ 362)) h h' → (∀ x, x < k → hI h' 359 x = -1 ∧ hI h' 360 x = -1) → AW w mX10_loseTies 0 0 (rV Q) 0 0 2 [some (.ref 347), some (.int (nI k)), none] [] h' := by
    intro d
    induction d with
    | zero =>
      intro k h' hd g e1
      obtain ⟨c', e10'⟩ := cl g
      refine sX10_loseTies_2 ?_
      have nx := lp2 40 0 (sI h' 347 15 0) (by omega) (g.sI (by omega)) ⟨okP.pr0, by rw [hI_eq, cnt_0]; rfl, fun i hi => ⟨by rw [hI_ne (Or.inl (by decide))]; exact (e1 i (by omega)).1, by rw [hI_ne (Or.inl (by decide))]; exact (e1 i (by omega)).2⟩⟩ (fun x hx => by omega) (fun x hx => by omega)
      simp (disch := omega) only [s_347 c', forall_eq, hs_sI, hs_sL, hR_sI, hR_sL, hI_eq, hI_ne, hI_sL, hL_sI, ti_lt, ti_le, ti_eq, nI_toInt, cl_nI, nI_1, nI_add, t_0, t_1, t_2, t_3, t_4, t_5, t_6, t_7, t_8, t_9, t_10, t_12, t_15, t_16, t_20, t_21, t_24, t_26, t_30, t_31, t_32, t_33, t_39, t_40, t_41, t_45, t_46, t_47, t_48, t_57, t_60, t_63, t_65, t_90, t_97, t_100, t_122, t_200, t_230, t_240, t_255, t_400, t_440, t_441, t_450, t_480, t_1580, t_1600, t_10000, t_131071, t_131072, t_1048576, t_1000000000, tm_1, tm_100001, tm_100002, tm_100003, tm_100004]
      exact ⟨fun _ => ⟨trivial, nx⟩, fun z => by omega⟩
    | succ d ih =>
      intro k h' hd g e1
      obtain ⟨c', e10'⟩ := cl g
      refine sX10_loseTies_2 ?_
      have nx := ih (k + 1) (sI (sI h' 359 k (-1)) 360 k (-1)) (by omega) ((g.sI (by omega)).sI (by omega)) (fun x hx => by
        by_cases q : x = k
        · subst q; exact ⟨by simp (disch := omega) only [hI_ne, hI_eq], hI_eq⟩
        · rw [hI_ne (Or.inl (by decide)), hI_ne (Or.inr q), hI_ne (Or.inr q), hI_ne (Or.inl (by decide))]; exact e1 x (by omega))
      simp (disch := omega) only [s_347 c', r_347_13 c', r_347_14 c', s_359 c', s_360 c', forall_eq, hs_sI, hs_sL, hR_sI, hR_sL, hI_eq, hI_ne, hI_sL, hL_sI, ti_lt, ti_le, ti_eq, nI_toInt, cl_nI, nI_1, nI_add, t_0, t_1, t_2, t_3, t_4, t_5, t_6, t_7, t_8, t_9, t_10, t_12, t_15, t_16, t_20, t_21, t_24, t_26, t_30, t_31, t_32, t_33, t_39, t_40, t_41, t_45, t_46, t_47, t_48, t_57, t_60, t_63, t_65, t_90, t_97, t_100, t_122, t_200, t_230, t_240, t_255, t_400, t_440, t_441, t_450, t_480, t_1580, t_1600, t_10000, t_131071, t_131072, t_1048576, t_1000000000, tm_1, tm_100001, tm_100002, tm_100003, tm_100004]
      exact ⟨fun z => by omega, fun _ => ⟨trivial, by decide, trivial, vp_nI (by omega) (by decide), by decide, trivial, vp_nI (by omega) (by decide), nx⟩⟩
  exact eX10_loseTies (sX10_loseTies_0 (lp1 20 0 h (by omega) (Cg.rfl' h) (fun x hx => by omega)))
end TM2
