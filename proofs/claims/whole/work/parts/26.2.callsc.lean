/-! ===== the calls of the class over the whole state ===== -/
def fTake (t : Tp) (sf : Sf) (S : Ly) (tm : Nat → Int32) (x : Int32) : Int32 × Tp × Ly × (Nat → Int32) := if inR x 2 = true then (match scan t sf t.1 w0 p0 with
  | none => (-100004, t, S, tm)
  | some P => (nI (bNs P.1), (0, t.2), (setBk S.1 x.toNatClampNeg P.1, pr0, S.2.2.1, sh0 (bNk (setBk S.1 x.toNatClampNeg P.1 1))), tm0)) else (-100001, t, S, tm)
theorem fTake_0 {t : Tp} {sf : Sf} {S : Ly} {tm : Nat → Int32} {x : Int32} (h : inR x 2 = false) : fTake t sf S tm x = (-100001, t, S, tm) := by unfold fTake; rw [h]; rfl
theorem fTake_1 {t : Tp} {sf : Sf} {S : Ly} {tm : Nat → Int32} {x : Int32} (h : inR x 2 = true) (e : scan t sf t.1 w0 p0 = none) : fTake t sf S tm x = (-100004, t, S, tm) := by unfold fTake; rw [if_pos h, e]
theorem inR_n2 {j : Nat} (hj : j < 2) : inR (nI j) 2 = true := by
  rcases (show j = 0 ∨ j = 1 by omega) with rfl | rfl <;> decide
theorem fTake_2 {t : Tp} {sf : Sf} {S : Ly} {tm : Nat → Int32} {j : Nat} {P : Ps} (hj : j < 2) (e : scan t sf t.1 w0 p0 = some P) : fTake t sf S tm (nI j) = (nI (bNs P.1), (0, t.2), (setBk S.1 j P.1, pr0, S.2.2.1, sh0 (bNk (setBk S.1 j P.1 1))), tm0) := by unfold fTake; rw [if_pos (inR_n2 hj), e, cl_nI (by omega)]
theorem nk_change {bk : Nat → Bk} {b s i k : Int32} (z : Nat) : bNk ((fChange bk b s i k).2 z) = bNk (bk z) := by
  unfold fChange
  split
  · show bNk (if z = b.toNatClampNeg then setWd (bk b.toNatClampNeg) s.toNatClampNeg i.toNatClampNeg k.toNatClampNeg else bk z) = bNk (bk z)
    split
    · rename_i e; rw [e]; rfl
    · rfl
  · rfl
section CA
variable {w : Wd} {L : Nat} {h : Hp} {Q : Int32 → Hp → Prop} {t : Tp} {sf : Sf} {S : Ly} {tm : Nat → Int32} {dk : Nat → Dk} {cd : Int32}
theorem c_feed {a b d e f : Int32} (c : Lay L h) (R : RC h t sf S tm dk cd) (K : ∀ h', kC L h h' → RC h' (fFeed t a b d e f).2 sf S tm dk cd → Q (fFeed t a b d e f).1 h') : AC w mX9_feed 0 0 (rI Q) [.ref 5, .int a, .int b, .int d, .int e, .int f] h := by
  obtain ⟨o, ⟨a1, a2⟩, a3, a4, a5, a6, ⟨a7, a8⟩, a9⟩ := id R
  refine sp_feed c a4 (fun h' k => ?_)
  have g : Cg (fun id _ => tcId id) h h' := Cg.of k.1 (fun id j q => q)
  exact K h' (kC.of c g (fun id j q => by unfold tcId at q; omega)) (R.tape g (fun id j q => by unfold tcId at q; omega) k.2.2 (wlC.cg a5 g (fun id j q => by unfold tcId at q; omega)))
theorem c_cut {n : Int32} (c : Lay L h) (R : RC h t sf S tm dk cd) (K : ∀ h', kC L h h' → RC h' (fCut t n).2 sf S tm dk cd → Q (fCut t n).1 h') : AC w mX9_cut 0 0 (rI Q) [.ref 5, .int n] h := by
  obtain ⟨o, ⟨a1, a2⟩, a3, a4, a5, a6, ⟨a7, a8⟩, a9⟩ := id R
  refine sp_cut c a4 (fun h' k => ?_)
  have g : Cg (fun id _ => tcId id) h h' := Cg.of k.1 (fun id j q => q)
  exact K h' (kC.of c g (fun id j q => by unfold tcId at q; omega)) (R.tape g (fun id j q => by unfold tcId at q; omega) k.2.2 (wlC.cg a5 g (fun id j q => by unfold tcId at q; omega)))
theorem c_abbreviate (c : Lay L h) (R : RC h t sf S tm dk cd) (K : ∀ h', kC L h h' → RC h' (fAbb t sf).2.1 (fAbb t sf).2.2 S tm dk cd → Q (fAbb t sf).1 h') : AC w mX9_abbreviate 0 0 (rI Q) [.ref 5] h := by
  obtain ⟨o, ⟨a1, a2⟩, a3, a4, a5, a6, ⟨a7, a8⟩, a9⟩ := id R
  exact sp_abbreviate c a4 a5 (fun h' g T F => K h' (kC.of c g (fun id j q => by unfold abC at q; omega)) (R.tape g (fun id j q => by unfold abC at q; omega) T F))
theorem c_take {x : Int32} (c : Lay L h) (R : RC h t sf S tm dk cd) (K : ∀ h', kC L h h' → RC h' (fTake t sf S tm x).2.1 sf (fTake t sf S tm x).2.2.1 (fTake t sf S tm x).2.2.2 dk cd → Q (fTake t sf S tm x).1 h') : AC w mX9_take 0 0 (rI Q) [.ref 5, .int x] h := by
  obtain ⟨o, ⟨a1, a2⟩, a3, a4, a5, a6, ⟨a7, a8⟩, a9⟩ := id R
  refine sp_take2 c a1 a3.1 a4 a5 a2 (fun q => ?_) (fun q e h' g T B e11 far rm => ?_) (fun j hj e1 P e h' k O B T p s e11 rm => ?_)
  · rw [fTake_0 q] at K
    exact K h (kC.rfl' c) R
  · rw [fTake_1 q e] at K
    have g2 : Cg (fun id j => (id = 5 ∧ j = 11) ∨ id = 6 ∨ id = 17 ∨ id = 18 ∨ (20 ≤ id ∧ id ≤ 223)) h h' := ⟨g.1, g.2.1, g.2.2.1, fun id j z => by
      by_cases y : 223 < id
      · exact far id j y
      · exact g.2.2.2 id j (by unfold tkD; omega)⟩
    refine K h' (kC.of c g2 (fun id j q => by omega)) ⟨o, ⟨a1.cg g2, rm⟩, ⟨B, a3.2.1.cg g2 (fun id j q => by omega), by rw [g2.i (by omega)]; exact a3.2.2⟩, T, wlC.cg a5 g2 (fun id j q => by omega), a6.cg g2 (fun id j q => by omega), ⟨a7.cg' g2 (fun id j q => by omega), by rw [g2.i (by omega)]; exact a8⟩, fun z => ?_⟩
    rw [e11] at z
    exact (a9 z).cg g2 (fun id j q => by omega)
  · subst e1
    rw [fTake_2 hj e] at K
    have e5 : hI h' 5 10 = hI h 5 10 := (k.2.2 5 10 (by unfold tkD; omega)).1
    have e3 : hI h' 311 3 = hI h 311 3 := (k.2.2 311 3 (by unfold tkD; omega)).1
    have g3 : Cg tkD h (h.1, h.2.1, h'.2.2.1, h'.2.2.2.1, h.2.2.2.2) := ⟨rfl, rfl, rfl, fun id j q => k.2.2 id j q⟩
    have F : shortC (h.1, h.2.1, h'.2.2.1, h'.2.2.2.1, h.2.2.2.2) sf := wlC.cg a5 g3 (fun id j q => by unfold tkD at q; omega)
    have E : deskC (h.1, h.2.1, h'.2.2.1, h'.2.2.2.1, h.2.2.2.2) dk := a7.cg' g3 (fun id j q => by unfold tkD at q; omega)
    exact K h' ⟨k.lay c, fun j => (k.2.2 4 j (by unfold tkD; omega)).1, fun id j z => (k.2.2 id j (by unfold tkD; omega)).1⟩ ⟨o3 o j, ⟨O, rm⟩, ⟨B, p, by rw [e3]; exact a3.2.2⟩, T, F, s, ⟨E, by rw [e5]; exact a8⟩, fun z => by rw [e11] at z; exact absurd z (by decide)⟩
theorem c_change {b s i k : Int32} (c : Lay L h) (R : RC h t sf S tm dk cd) (K : ∀ h', kC L h h' → RC h' t sf ((fChange S.1 b s i k).2, S.2.1, S.2.2.1, S.2.2.2) tm dk cd → Q (fChange S.1 b s i k).1 h') : AC w mX9_change 0 0 (rI Q) [.ref 5, .int b, .int s, .int i, .int k] h := by
  obtain ⟨o, ⟨a1, a2⟩, a3, a4, a5, a6, ⟨a7, a8⟩, a9⟩ := id R
  refine sp_change2 c a3.1 (fun h' k rm => ?_)
  have g : Cg (fun id _ => id = 5 ∨ (20 ≤ id ∧ id ≤ 223)) h h' := Cg.of k.1 (fun id j q => q)
  refine K h' (kC.of c g (fun id j q => by omega)) ⟨o, ⟨a1.cg g, fun b hb => by rw [rm b hb]; exact a2 b hb⟩, ⟨k.2.2.2.1, a3.2.1.cg g (fun id j q => by omega), by rw [g.i (by omega)]; exact a3.2.2⟩, a4.cg g (fun id j q => by omega), wlC.cg a5 g (fun id j q => by omega), ?_, ⟨a7.cg' g (fun id j q => by omega), by rw [k.2.1 10 (by decide)]; exact a8⟩, fun z => ?_⟩
  · show shareC h' (bNk ((fChange S.1 b s i _).2 0)) (bNk ((fChange S.1 b s i _).2 1)) S.2.2.2 tm
    rw [nk_change, nk_change]
    exact a6.cg g (fun id j q => by omega)
  · rcases k.2.2.2.2 with e | ⟨e, e2⟩
    · rw [e] at z; exact absurd z (by decide)
    · rw [e]
      rw [e2] at z ⊢
      exact a9 z
theorem c_fast {i j : Int32} (c : Lay L h) (R : RC h t sf S tm dk cd) (K : ∀ h', kC L h h' → RC h' t sf (S.1, (fFast S.1 S.2.1 i j).2, S.2.2.1, S.2.2.2) tm dk cd → Q (fFast S.1 S.2.1 i j).1 h') : AC w mX9_fast 0 0 (rI Q) [.ref 5, .int i, .int j] h := by
  obtain ⟨o, ⟨a1, a2⟩, a3, a4, a5, a6, ⟨a7, a8⟩, a9⟩ := id R
  exact sp_fast c a3.1 a3.2.1 (fun h' k => K h' (k.aft c) (R.pair k))
theorem c_loosen {i : Int32} (c : Lay L h) (R : RC h t sf S tm dk cd) (K : ∀ h', kC L h h' → RC h' t sf (S.1, (fLoosen S.1 S.2.1 i).2, S.2.2.1, S.2.2.2) tm dk cd → Q (fLoosen S.1 S.2.1 i).1 h') : AC w mX9_loosen 0 0 (rI Q) [.ref 5, .int i] h := by
  obtain ⟨o, ⟨a1, a2⟩, a3, a4, a5, a6, ⟨a7, a8⟩, a9⟩ := id R
  exact sp_loosen c a3.1 a3.2.1 (fun h' k => K h' (k.aft c) (R.pair k))
theorem c_keep {b : Bool} (c : Lay L h) (R : RC h t sf S tm dk cd) (K : ∀ h', kC L h h' → RC h' t sf (S.1, S.2.1, b, S.2.2.2) tm dk cd → Q (b01 S.2.2.1) h') : AC w mX9_keep 0 0 (rI Q) [.ref 5, .int (b01 b)] h := by
  obtain ⟨o, ⟨a1, a2⟩, a3, a4, a5, a6, ⟨a7, a8⟩, a9⟩ := id R
  refine sp_keep c (b01_or b) a3.2.2 (b01_or _) ?_
  have g : Cg (fun id j => (id = 311 ∧ j = 3) ∨ (id = 5 ∧ j = 11)) h (sI (sI h 311 3 (b01 b)) 5 11 1) := ((Cg.rfl' h).sI (by omega)).sI (by omega)
  exact K _ (kC.of c g (fun id j q => by omega)) ⟨o, ⟨a1.cg g, a2.cg g (fun id j q => by omega)⟩, ⟨a3.1.cg g (fun id j q => by omega), a3.2.1.cg g (fun id j q => by omega), by rw [hI_ne (by omega), hI_eq]⟩, a4.cg g (fun id j q => by omega), wlC.cg a5 g (fun id j q => by omega), a6.cg g (fun id j q => by omega), ⟨a7.cg' g (fun id j q => by omega), by rw [g.i (by omega)]; exact a8⟩, fun z => by rw [hI_eq] at z; exact absurd z (by decide)⟩
theorem c_rounds {n : Int32} (c : Lay L h) (R : RC h t sf S tm dk cd) (K : ∀ h', kC L h h' → RC h' t sf (S.1, S.2.1, S.2.2.1, (fRounds S tm n).2) tm dk cd → Q (fRounds S tm n).1 h') : AC w mX9_rounds 0 0 (rI Q) [.ref 5, .int n] h := by
  obtain ⟨o, ⟨a1, a2⟩, a3, a4, a5, a6, ⟨a7, a8⟩, a9⟩ := id R
  exact sp_rounds c a3 a6 a9 (fun h' g s W => K h' (kC.of c g (fun id j q => by unfold roD at q; omega)) ⟨o, ⟨a1.cg g, a2.cg g (fun id j q => by unfold roD at q; omega)⟩, a3.cg g (fun id j q => by unfold roD at q; omega), a4.cg g (fun id j q => by unfold roD at q; omega), wlC.cg a5 g (fun id j q => by unfold roD at q; omega), s, ⟨a7.cg' g (fun id j q => by unfold roD at q; omega), by rw [g.i (by unfold roD; omega)]; exact a8⟩, W⟩)
theorem c_term {a b : Int32} (c : Lay L h) (R : RC h t sf S tm dk cd) (K : ∀ h', kC L h h' → RC h' t sf (S.1, S.2.1, S.2.2.1, (fTerm (bNk (S.1 0)) (bNk (S.1 1)) S.2.2.2 tm a b).2.1) (fTerm (bNk (S.1 0)) (bNk (S.1 1)) S.2.2.2 tm a b).2.2 dk cd → Q (fTerm (bNk (S.1 0)) (bNk (S.1 1)) S.2.2.2 tm a b).1 h') : AC w mX9_term 0 0 (rI Q) [.ref 5, .int a, .int b] h := by
  obtain ⟨o, ⟨a1, a2⟩, a3, a4, a5, a6, ⟨a7, a8⟩, a9⟩ := id R
  exact sp_term c a3.1 a6 (fun h' k => K h' (k.aft c) (R.share k))
theorem c_putSentence {s b i : Int32} (c : Lay L h) (R : RC h t sf S tm dk cd) (K : ∀ h', kC L h h' → RC h' t sf S tm (fPutS S.1 dk s b i).2 cd → Q (fPutS S.1 dk s b i).1 h') : AC w mX9_putSentence 0 0 (rI Q) [.ref 5, .int s, .int b, .int i] h := by
  obtain ⟨o, ⟨a1, a2⟩, a3, a4, a5, a6, ⟨a7, a8⟩, a9⟩ := id R
  exact sp_putSentence c a3.1 a7 a8 (fun h' k => K h' (k.aft c) (R.desk k))
theorem c_putJoint {s k : Int32} (c : Lay L h) (R : RC h t sf S tm dk cd) (K : ∀ h', kC L h h' → RC h' t sf S tm (fPutJ S dk s k).2 cd → Q (fPutJ S dk s k).1 h') : AC w mX9_putJoint 0 0 (rI Q) [.ref 5, .int s, .int k] h := by
  obtain ⟨o, ⟨a1, a2⟩, a3, a4, a5, a6, ⟨a7, a8⟩, a9⟩ := id R
  exact sp_putJoint c a3 a6 a9 a7 a8 (fun h' g W E hc => K h' (kC.of c g (fun id j q => by unfold wyE at q; omega)) ⟨o, ⟨a1.cg g, a2.cg g (fun id j q => by unfold wyE at q; omega)⟩, a3.cg g (fun id j q => by unfold wyE at q; omega), a4.cg g (fun id j q => by unfold wyE at q; omega), wlC.cg a5 g (fun id j q => by unfold wyE at q; omega), a6.cg g (fun id j q => by unfold wyE at q; omega), ⟨E, hc⟩, W⟩)
theorem c_putRow {s n : Int32} (c : Lay L h) (R : RC h t sf S tm dk cd) (K : ∀ h', kC L h h' → RC h' t sf S tm (fPutRow dk cd s n).2.1 (fPutRow dk cd s n).2.2 → Q (fPutRow dk cd s n).1 h') : AC w mX9_putRow 0 0 (rI Q) [.ref 5, .int s, .int n] h := by
  obtain ⟨o, ⟨a1, a2⟩, a3, a4, a5, a6, ⟨a7, a8⟩, a9⟩ := id R
  exact sp_putRow c a7 a8 (fun h' k => K h' (k.aft c) (R.desk k))
theorem c_clear {s : Int32} (c : Lay L h) (R : RC h t sf S tm dk cd) (K : ∀ h', kC L h h' → RC h' t sf S tm (fClear dk s).2 cd → Q (fClear dk s).1 h') : AC w mX9_clear 0 0 (rI Q) [.ref 5, .int s] h := by
  obtain ⟨o, ⟨a1, a2⟩, a3, a4, a5, a6, ⟨a7, a8⟩, a9⟩ := id R
  exact sp_clear c a7 a8 (fun h' k => K h' (k.aft c) (R.desk k))
theorem c_write {s i v : Int32} (c : Lay L h) (R : RC h t sf S tm dk cd) (K : ∀ h', kC L h h' → RC h' t sf S tm (fWrite dk cd s i v).2.1 (fWrite dk cd s i v).2.2 → Q (fWrite dk cd s i v).1 h') : AC w mX9_write 0 0 (rI Q) [.ref 5, .int s, .int i, .int v] h := by
  obtain ⟨o, ⟨a1, a2⟩, a3, a4, a5, a6, ⟨a7, a8⟩, a9⟩ := id R
  exact sp_write c a7 a8 (fun h' k => K h' (k.aft c) (R.desk k))
theorem c_read {s i : Int32} (c : Lay L h) (R : RC h t sf S tm dk cd) (K : ∀ h', kC L h h' → RC h' t sf S tm dk (fRead dk cd s i).2 → Q (fRead dk cd s i).1 h') : AC w mX9_read 0 0 (rI Q) [.ref 5, .int s, .int i] h := by
  obtain ⟨o, ⟨a1, a2⟩, a3, a4, a5, a6, ⟨a7, a8⟩, a9⟩ := id R
  exact sp_read c a7 a8 (fun h' k => K h' (k.aft c) (R.desk k))
theorem c_spell {s r i : Int32} (c : Lay L h) (R : RC h t sf S tm dk cd) (K : ∀ h', kC L h h' → RC h' t sf S tm (fSpell dk cd s r i).2.1 (fSpell dk cd s r i).2.2 → Q (fSpell dk cd s r i).1 h') : AC w mX9_spell 0 0 (rI Q) [.ref 5, .int s, .int r, .int i] h := by
  obtain ⟨o, ⟨a1, a2⟩, a3, a4, a5, a6, ⟨a7, a8⟩, a9⟩ := id R
  exact sp_spell c a7 a8 (fun h' k => K h' (k.aft c) (R.desk k))
theorem c_rate {s : Int32} (c : Lay L h) (R : RC h t sf S tm dk cd) (K : ∀ h', kC L h h' → RC h' t sf S tm dk (fRate dk cd s).2 → Q (fRate dk cd s).1 h') : AC w mX9_rate 0 0 (rI Q) [.ref 5, .int s] h := by
  obtain ⟨o, ⟨a1, a2⟩, a3, a4, a5, a6, ⟨a7, a8⟩, a9⟩ := id R
  exact sp_rate c a7 a8 (fun h' k => K h' (k.aft c) (R.desk k))
theorem c_count {b x : Int32} (c : Lay L h) (R : RC h t sf S tm dk cd) (K : ∀ h', kC L h h' → RC h' t sf S tm dk cd → Q (fCount S.1 b x) h') : AC w mX9_count 0 0 (rI Q) [.ref 5, .int b, .int x] h := by
  obtain ⟨o, ⟨a1, a2⟩, a3, a4, a5, a6, ⟨a7, a8⟩, a9⟩ := id R
  exact sp_count c a3.1 (K h (kC.rfl' c) R)
theorem c_sentence {b s x : Int32} (c : Lay L h) (R : RC h t sf S tm dk cd) (K : ∀ h', kC L h h' → RC h' t sf S tm dk cd → Q (fSentence S.1 b s x) h') : AC w mX9_sentence 0 0 (rI Q) [.ref 5, .int b, .int s, .int x] h := by
  obtain ⟨o, ⟨a1, a2⟩, a3, a4, a5, a6, ⟨a7, a8⟩, a9⟩ := id R
  exact sp_sentence c a3.1 (K h (kC.rfl' c) R)
theorem c_word {b s i : Int32} (c : Lay L h) (R : RC h t sf S tm dk cd) (K : ∀ h', kC L h h' → RC h' t sf S tm dk cd → Q (fWord S.1 b s i) h') : AC w mX9_word 0 0 (rI Q) [.ref 5, .int b, .int s, .int i] h := by
  obtain ⟨o, ⟨a1, a2⟩, a3, a4, a5, a6, ⟨a7, a8⟩, a9⟩ := id R
  exact sp_word c a3.1 (K h (kC.rfl' c) R)
theorem c_letter {b k i : Int32} (c : Lay L h) (R : RC h t sf S tm dk cd) (K : ∀ h', kC L h h' → RC h' t sf S tm dk cd → Q (fLetter S.1 b k i) h') : AC w mX9_letter 0 0 (rI Q) [.ref 5, .int b, .int k, .int i] h := by
  obtain ⟨o, ⟨a1, a2⟩, a3, a4, a5, a6, ⟨a7, a8⟩, a9⟩ := id R
  exact sp_letter c a3.1 (K h (kC.rfl' c) R)
theorem c_share {a b : Int32} (c : Lay L h) (R : RC h t sf S tm dk cd) (K : ∀ h', kC L h h' → RC h' t sf S tm dk cd → Q (fShare (bNk (S.1 0)) (bNk (S.1 1)) S.2.2.2 a b) h') : AC w mX9_share 0 0 (rI Q) [.ref 5, .int a, .int b] h := by
  obtain ⟨o, ⟨a1, a2⟩, a3, a4, a5, a6, ⟨a7, a8⟩, a9⟩ := id R
  exact sp_share c a3.1 a6 (K h (kC.rfl' c) R)
theorem c_partner {a x : Int32} (c : Lay L h) (R : RC h t sf S tm dk cd) (K : ∀ h', kC L h h' → RC h' t sf S tm dk cd → Q (fPartner (bNk (S.1 0)) (bNk (S.1 1)) S.2.2.2 tm a x) h') : AC w mX9_partner 0 0 (rI Q) [.ref 5, .int a, .int x] h := by
  obtain ⟨o, ⟨a1, a2⟩, a3, a4, a5, a6, ⟨a7, a8⟩, a9⟩ := id R
  exact sp_partner c a3.1 a6 (K h (kC.rfl' c) R)
theorem c_sort {s : Int32} (c : Lay L h) (R : RC h t sf S tm dk cd) (K : ∀ h', kC L h h' → RC h' t sf S tm dk cd → Q (fSort dk s) h') : AC w mX9_sort 0 0 (rI Q) [.ref 5, .int s] h := by
  obtain ⟨o, ⟨a1, a2⟩, a3, a4, a5, a6, ⟨a7, a8⟩, a9⟩ := id R
  exact sp_sort c a7 (K h (kC.rfl' c) R)
theorem c_code (c : Lay L h) (R : RC h t sf S tm dk cd) (K : ∀ h', kC L h h' → RC h' t sf S tm dk cd → Q (cd) h') : AC w mX9_code 0 0 (rI Q) [.ref 5] h := by
  obtain ⟨o, ⟨a1, a2⟩, a3, a4, a5, a6, ⟨a7, a8⟩, a9⟩ := id R
  exact sp_code c (by rw [a8]; exact K h (kC.rfl' c) R)
theorem c_lay (c : Lay L h) (R : RC h t sf S tm dk cd) (K : ∀ h', kC L h h' → RC h' t sf S tm dk cd → Q (fLay S) h') : AC w mX9_lay 0 0 (rI Q) [.ref 5] h := by
  obtain ⟨o, ⟨a1, a2⟩, a3, a4, a5, a6, ⟨a7, a8⟩, a9⟩ := id R
  exact sp_lay c a3 a6 a9 (fun h' g W => K h' (lk_kC c (wy_lk g)) (R.ly (wy_lk g) W))
theorem c_joint {k x : Int32} (c : Lay L h) (R : RC h t sf S tm dk cd) (K : ∀ h', kC L h h' → RC h' t sf S tm dk cd → Q (fJoint S k x) h') : AC w mX9_joint 0 0 (rI Q) [.ref 5, .int k, .int x] h := by
  obtain ⟨o, ⟨a1, a2⟩, a3, a4, a5, a6, ⟨a7, a8⟩, a9⟩ := id R
  exact sp_joint c a3 a6 a9 (fun h' g W => K h' (lk_kC c (wy_lk g)) (R.ly (wy_lk g) W))
theorem c_price {k i j : Int32} (c : Lay L h) (R : RC h t sf S tm dk cd) (K : ∀ h', kC L h h' → RC h' t sf S tm dk cd → Q (fPrice S k i j) h') : AC w mX9_price 0 0 (rI Q) [.ref 5, .int k, .int i, .int j] h := by
  obtain ⟨o, ⟨a1, a2⟩, a3, a4, a5, a6, ⟨a7, a8⟩, a9⟩ := id R
  exact sp_price c a3 a6 a9 (fun h' g W => K h' (lk_kC c (wy_lk g)) (R.ly (wy_lk g) W))
theorem c_rest {i j : Int32} (c : Lay L h) (R : RC h t sf S tm dk cd) (K : ∀ h', kC L h h' → RC h' t sf S tm dk cd → Q (fRest S i j) h') : AC w mX9_rest 0 0 (rI Q) [.ref 5, .int i, .int j] h := by
  obtain ⟨o, ⟨a1, a2⟩, a3, a4, a5, a6, ⟨a7, a8⟩, a9⟩ := id R
  exact sp_rest c a3 a6 a9 (fun h' g W => K h' (lk_kC c (wy_lk g)) (R.ly (wy_lk g) W))
theorem c_second (c : Lay L h) (R : RC h t sf S tm dk cd) (K : ∀ h', kC L h h' → RC h' t sf S tm dk cd → Q (fSecond S) h') : AC w mX9_second 0 0 (rI Q) [.ref 5] h := by
  obtain ⟨o, ⟨a1, a2⟩, a3, a4, a5, a6, ⟨a7, a8⟩, a9⟩ := id R
  exact sp_second c a3 a6 a9 (fun h' g W => K h' (lk_kC c (wy_lk g)) (R.ly (wy_lk g) W))
theorem c_sure {k d : Int32} (c : Lay L h) (R : RC h t sf S tm dk cd) (K : ∀ h', kC L h h' → RC h' t sf S tm dk cd → Q (fSure S k d) h') : AC w mX9_sure 0 0 (rI Q) [.ref 5, .int k, .int d] h := by
  obtain ⟨o, ⟨a1, a2⟩, a3, a4, a5, a6, ⟨a7, a8⟩, a9⟩ := id R
  exact sp_sure c a3 a6 a9 (fun h' g W => K h' (lk_kC c (wy_lk g)) (R.ly (wy_lk g) W))
theorem c_broken (c : Lay L h) (R : RC h t sf S tm dk cd) (K : ∀ h', kC L h h' → RC h' t sf S tm dk cd → Q (nI (brk S tm (JN S))) h') : AC w mX9_broken 0 0 (rI Q) [.ref 5] h := by
  obtain ⟨o, ⟨a1, a2⟩, a3, a4, a5, a6, ⟨a7, a8⟩, a9⟩ := id R
  exact sp_broken c a3 a6 a9 (fun h' g W => K h' (lk_kC c (wy_lk g)) (R.ly (wy_lk g) W))
theorem c_link {k x2 x : Int32} (c : Lay L h) (R : RC h t sf S tm dk cd) (K : ∀ h', kC L h h' → RC h' t sf S tm dk cd → Q (fLink S k x2 x) h') : AC w mX9_link 0 0 (rI Q) [.ref 5, .int k, .int x2, .int x] h := by
  obtain ⟨o, ⟨a1, a2⟩, a3, a4, a5, a6, ⟨a7, a8⟩, a9⟩ := id R
  exact sp_link c a3 a6 a9 (fun h' g W => K h' (lk_kC c g) (R.ly g W))
theorem c_linked {k x2 x y : Int32} (c : Lay L h) (R : RC h t sf S tm dk cd) (K : ∀ h', kC L h h' → RC h' t sf S tm dk cd → Q (fLinked S k x2 x y) h') : AC w mX9_linked 0 0 (rI Q) [.ref 5, .int k, .int x2, .int x, .int y] h := by
  obtain ⟨o, ⟨a1, a2⟩, a3, a4, a5, a6, ⟨a7, a8⟩, a9⟩ := id R
  exact sp_linked c a3 a6 a9 (fun h' g W => K h' (lk_kC c g) (R.ly g W))
theorem c_phrases {k : Int32} (c : Lay L h) (R : RC h t sf S tm dk cd) (K : ∀ h', kC L h h' → RC h' t sf S tm dk cd → Q (fPhr S k) h') : AC w mX9_phrases 0 0 (rI Q) [.ref 5, .int k] h := by
  obtain ⟨o, ⟨a1, a2⟩, a3, a4, a5, a6, ⟨a7, a8⟩, a9⟩ := id R
  exact sp_phrases c a3 a6 a9 (fun h' g W => K h' (lk_kC c g) (R.ly g W))
end CA
