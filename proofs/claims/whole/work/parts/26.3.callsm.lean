/-! ===== the calls of the reference over the whole state ===== -/
section RA
variable {w : Wd} {L : Nat} {h : Hp} {Q : Int32 → Hp → Prop} {t : Tp} {sf : Sf} {S : Ly} {tm : Nat → Int32} {dk : Nat → Dk} {cd : Int32}
theorem r_feed {a b d e f : Int32} (c : Lay L h) (R : RM h t sf S tm dk cd) (K : ∀ h', kM L h h' → RM h' (fFeed t a b d e f).2 sf S tm dk cd → Q (fFeed t a b d e f).1 h') : AC w mX10_feed 0 0 (rI Q) [.ref 347, .int a, .int b, .int d, .int e, .int f] h :=
  sp_feedM c R.2.1 (fun h' k => K h' (kM.of c k.g (fun id j q => by unfold tpD at q; omega)) (R.tape k.g (fun id j q => by unfold tpD at q; omega) k.2.2.2 (R.2.2.1.cg k.g (fun id j q => by unfold tpD at q; omega))))
theorem r_cut {n : Int32} (c : Lay L h) (R : RM h t sf S tm dk cd) (K : ∀ h', kM L h h' → RM h' (fCut t n).2 sf S tm dk cd → Q (fCut t n).1 h') : AC w mX10_cut 0 0 (rI Q) [.ref 347, .int n] h :=
  sp_cutM c R.2.1 (fun h' k => K h' (kM.of c k.g (fun id j q => by unfold tpD at q; omega)) (R.tape k.g (fun id j q => by unfold tpD at q; omega) k.2.2.2 (R.2.2.1.cg k.g (fun id j q => by unfold tpD at q; omega))))
theorem r_abbreviate (c : Lay L h) (R : RM h t sf S tm dk cd) (K : ∀ h', kM L h h' → RM h' (fAbb t sf).2.1 (fAbb t sf).2.2 S tm dk cd → Q (fAbb t sf).1 h') : AC w mX10_abbreviate 0 0 (rI Q) [.ref 347] h :=
  sp_abbreviateM c R.2.1 R.2.2.1 (fun h' g T F => K h' (kM.of c g (fun id j q => by unfold abM at q; omega)) (R.tape g (fun id j q => by unfold abM at q; omega) T F))
theorem r_take {x : Int32} (c : Lay L h) (R : RM h t sf S tm dk cd) (K : ∀ h', kM L h h' → RM h' (fTake t sf S tm x).2.1 sf (fTake t sf S tm x).2.2.1 (fTake t sf S tm x).2.2.2 dk cd → Q (fTake t sf S tm x).1 h') : AC w mX10_take 0 0 (rI Q) [.ref 347, .int x] h := by
  refine sp_takeM c R.1.1 R.2.1 R.2.2.1 (fun q => ?_) (fun q e h' g => ?_) (fun j hj e1 P e h' g B T p s => ?_)
  · rw [fTake_0 q] at K
    exact K h (kM.rfl' c) R
  · rw [fTake_1 q e] at K
    exact K h' (kM.of c g (fun id j q => by unfold ckD at q; omega)) ⟨R.1.cg g (fun id j q => by unfold ckD at q; omega), R.2.1.cg g (fun id j q => by unfold ckD at q; omega), R.2.2.1.cg g (fun id j q => by unfold ckD at q; omega), R.2.2.2.1.cg g (fun id j q => by unfold ckD at q; omega), R.2.2.2.2.1.cg' g (fun id j q => by unfold ckD at q; omega), by rw [g.i (by unfold ckD; omega)]; exact R.2.2.2.2.2⟩
  · subst e1
    rw [fTake_2 hj e] at K
    exact K h' (kM.of c g (fun id j q => by unfold tkM at q; omega)) ⟨⟨B, p, by rw [g.i (by unfold tkM; omega)]; exact R.1.2.2⟩, T, R.2.2.1.cg g (fun id j q => by unfold tkM at q; omega), s, R.2.2.2.2.1.cg' g (fun id j q => by unfold tkM at q; omega), by rw [g.i (by unfold tkM; omega)]; exact R.2.2.2.2.2⟩
theorem r_change {b s i k : Int32} (c : Lay L h) (R : RM h t sf S tm dk cd) (K : ∀ h', kM L h h' → RM h' t sf ((fChange S.1 b s i k).2, S.2.1, S.2.2.1, S.2.2.2) tm dk cd → Q (fChange S.1 b s i k).1 h') : AC w mX10_change 0 0 (rI Q) [.ref 347, .int b, .int s, .int i, .int k] h := by
  refine sp_changeM c R.1.1 (fun h' k => ?_)
  have g : Cg (fun id _ => id = 353) h h' := Cg.of k.1 (fun id j q => q)
  refine K h' (kM.of c g (fun id j q => by omega)) ⟨⟨k.2.2, R.1.2.1.cg g (fun id j q => by omega), by rw [g.i (by omega)]; exact R.1.2.2⟩, R.2.1.cg g (fun id j q => by omega), R.2.2.1.cg g (fun id j q => by omega), ?_, R.2.2.2.2.1.cg' g (fun id j q => by omega), by rw [g.i (by omega)]; exact R.2.2.2.2.2⟩
  show shareM h' (bNk ((fChange S.1 b s i _).2 0)) (bNk ((fChange S.1 b s i _).2 1)) S.2.2.2 tm
  rw [nk_change, nk_change]
  exact R.2.2.2.1.cg g (fun id j q => by omega)
theorem r_fast {i j : Int32} (c : Lay L h) (R : RM h t sf S tm dk cd) (K : ∀ h', kM L h h' → RM h' t sf (S.1, (fFast S.1 S.2.1 i j).2, S.2.2.1, S.2.2.2) tm dk cd → Q (fFast S.1 S.2.1 i j).1 h') : AC w mX10_fast 0 0 (rI Q) [.ref 347, .int i, .int j] h :=
  sp_fastM c R.1.1 R.1.2.1 (fun h' k => K h' (k.aft c) (R.pair k))
theorem r_loosen {i : Int32} (c : Lay L h) (R : RM h t sf S tm dk cd) (K : ∀ h', kM L h h' → RM h' t sf (S.1, (fLoosen S.1 S.2.1 i).2, S.2.2.1, S.2.2.2) tm dk cd → Q (fLoosen S.1 S.2.1 i).1 h') : AC w mX10_loosen 0 0 (rI Q) [.ref 347, .int i] h :=
  sp_loosenM c R.1.1 R.1.2.1 (fun h' k => K h' (k.aft c) (R.pair k))
theorem r_keep {b : Bool} (c : Lay L h) (R : RM h t sf S tm dk cd) (K : ∀ h', kM L h h' → RM h' t sf (S.1, S.2.1, b, S.2.2.2) tm dk cd → Q (b01 S.2.2.1) h') : AC w mX10_keep 0 0 (rI Q) [.ref 347, .int (b01 b)] h := by
  refine sp_keepM c (b01_or b) R.1.2.2 (b01_or _) ?_
  have g : Cg (fun id j => id = 347 ∧ j = 16) h (sI h 347 16 (b01 b)) := (Cg.rfl' h).sI (by omega)
  exact K _ (kM.of c g (fun id j q => by omega)) ⟨⟨R.1.1.cg g (fun id j q => by omega), R.1.2.1.cg g (fun id j q => by omega), hI_eq⟩, R.2.1.cg g (fun id j q => by omega), R.2.2.1.cg g (fun id j q => by omega), R.2.2.2.1.cg g (fun id j q => by omega), R.2.2.2.2.1.cg' g (fun id j q => by omega), by rw [g.i (by omega)]; exact R.2.2.2.2.2⟩
theorem r_rounds {n : Int32} (c : Lay L h) (R : RM h t sf S tm dk cd) (K : ∀ h', kM L h h' → RM h' t sf (S.1, S.2.1, S.2.2.1, (fRounds S tm n).2) tm dk cd → Q (fRounds S tm n).1 h') : AC w mX10_rounds 0 0 (rI Q) [.ref 347, .int n] h :=
  sp_roundsM c R.1 R.2.2.2.1 (fun h' g s => K h' (kM.of c g (fun id j q => by unfold rmD at q; omega)) (R.share g (fun id j q => by unfold rmD at q; omega) s))
theorem r_term {a b : Int32} (c : Lay L h) (R : RM h t sf S tm dk cd) (K : ∀ h', kM L h h' → RM h' t sf (S.1, S.2.1, S.2.2.1, (fTerm (bNk (S.1 0)) (bNk (S.1 1)) S.2.2.2 tm a b).2.1) (fTerm (bNk (S.1 0)) (bNk (S.1 1)) S.2.2.2 tm a b).2.2 dk cd → Q (fTerm (bNk (S.1 0)) (bNk (S.1 1)) S.2.2.2 tm a b).1 h') : AC w mX10_term 0 0 (rI Q) [.ref 347, .int a, .int b] h := by
  refine sp_termM c R.1.1 R.2.2.2.1 (fun h' k => ?_)
  have g : Cg (fun id _ => smId id) h h' := Cg.of k.1 (fun id j q => q)
  exact K h' (kM.of c g (fun id j q => by unfold smId at q; omega)) (R.share g (fun id j q => by unfold smId at q; omega) k.2.2)
theorem r_putSentence {s b i : Int32} (c : Lay L h) (R : RM h t sf S tm dk cd) (K : ∀ h', kM L h h' → RM h' t sf S tm (fPutS S.1 dk s b i).2 cd → Q (fPutS S.1 dk s b i).1 h') : AC w mX10_putSentence 0 0 (rI Q) [.ref 347, .int s, .int b, .int i] h :=
  sp_putSentenceM c R.1.1 R.2.2.2.2.1 R.2.2.2.2.2 (fun h' k => K h' (k.aft c) (R.desk k))
theorem r_putJoint {s k : Int32} (c : Lay L h) (R : RM h t sf S tm dk cd) (K : ∀ h', kM L h h' → RM h' t sf S tm (fPutJ S dk s k).2 cd → Q (fPutJ S dk s k).1 h') : AC w mX10_putJoint 0 0 (rI Q) [.ref 347, .int s, .int k] h :=
  sp_putJointM c R.1 R.2.2.2.1 R.2.2.2.2.1 (fun h' g E => K h' (kM.of c g (fun id j q => by unfold lmE bsD lmD at q; omega)) ⟨R.1.cg g (fun id j q => by unfold lmE bsD lmD at q; omega), R.2.1.cg g (fun id j q => by unfold lmE bsD lmD at q; omega), R.2.2.1.cg g (fun id j q => by unfold lmE bsD lmD at q; omega), R.2.2.2.1.cg g (fun id j q => by unfold lmE bsD lmD at q; omega), E, by rw [g.i (by unfold lmE bsD lmD; omega)]; exact R.2.2.2.2.2⟩)
theorem r_putRow {s n : Int32} (c : Lay L h) (R : RM h t sf S tm dk cd) (K : ∀ h', kM L h h' → RM h' t sf S tm (fPutRow dk cd s n).2.1 (fPutRow dk cd s n).2.2 → Q (fPutRow dk cd s n).1 h') : AC w mX10_putRow 0 0 (rI Q) [.ref 347, .int s, .int n] h :=
  sp_putRowM c R.2.2.2.2.1 R.2.2.2.2.2 (fun h' k => K h' (k.aft c) (R.desk k))
theorem r_clear {s : Int32} (c : Lay L h) (R : RM h t sf S tm dk cd) (K : ∀ h', kM L h h' → RM h' t sf S tm (fClear dk s).2 cd → Q (fClear dk s).1 h') : AC w mX10_clear 0 0 (rI Q) [.ref 347, .int s] h :=
  sp_clearM c R.2.2.2.2.1 R.2.2.2.2.2 (fun h' k => K h' (k.aft c) (R.desk k))
theorem r_write {s i v : Int32} (c : Lay L h) (R : RM h t sf S tm dk cd) (K : ∀ h', kM L h h' → RM h' t sf S tm (fWrite dk cd s i v).2.1 (fWrite dk cd s i v).2.2 → Q (fWrite dk cd s i v).1 h') : AC w mX10_write 0 0 (rI Q) [.ref 347, .int s, .int i, .int v] h :=
  sp_writeM c R.2.2.2.2.1 R.2.2.2.2.2 (fun h' k => K h' (k.aft c) (R.desk k))
theorem r_read {s i : Int32} (c : Lay L h) (R : RM h t sf S tm dk cd) (K : ∀ h', kM L h h' → RM h' t sf S tm dk (fRead dk cd s i).2 → Q (fRead dk cd s i).1 h') : AC w mX10_read 0 0 (rI Q) [.ref 347, .int s, .int i] h :=
  sp_readM c R.2.2.2.2.1 R.2.2.2.2.2 (fun h' k => K h' (k.aft c) (R.desk k))
theorem r_spell {s r i : Int32} (c : Lay L h) (R : RM h t sf S tm dk cd) (K : ∀ h', kM L h h' → RM h' t sf S tm (fSpell dk cd s r i).2.1 (fSpell dk cd s r i).2.2 → Q (fSpell dk cd s r i).1 h') : AC w mX10_spell 0 0 (rI Q) [.ref 347, .int s, .int r, .int i] h :=
  sp_spellM c R.2.2.2.2.1 R.2.2.2.2.2 (fun h' k => K h' (k.aft c) (R.desk k))
theorem r_rate {s : Int32} (c : Lay L h) (R : RM h t sf S tm dk cd) (K : ∀ h', kM L h h' → RM h' t sf S tm dk (fRate dk cd s).2 → Q (fRate dk cd s).1 h') : AC w mX10_rate 0 0 (rI Q) [.ref 347, .int s] h :=
  sp_rateM c R.2.2.2.2.1 R.2.2.2.2.2 (fun h' k => K h' (k.aft c) (R.desk k))
theorem r_count {b x : Int32} (c : Lay L h) (R : RM h t sf S tm dk cd) (K : ∀ h', kM L h h' → RM h' t sf S tm dk cd → Q (fCount S.1 b x) h') : AC w mX10_count 0 0 (rI Q) [.ref 347, .int b, .int x] h :=
  sp_countM c R.1.1 (K h (kM.rfl' c) R)
theorem r_sentence {b s x : Int32} (c : Lay L h) (R : RM h t sf S tm dk cd) (K : ∀ h', kM L h h' → RM h' t sf S tm dk cd → Q (fSentence S.1 b s x) h') : AC w mX10_sentence 0 0 (rI Q) [.ref 347, .int b, .int s, .int x] h :=
  sp_sentenceM c R.1.1 (K h (kM.rfl' c) R)
theorem r_word {b s i : Int32} (c : Lay L h) (R : RM h t sf S tm dk cd) (K : ∀ h', kM L h h' → RM h' t sf S tm dk cd → Q (fWord S.1 b s i) h') : AC w mX10_word 0 0 (rI Q) [.ref 347, .int b, .int s, .int i] h :=
  sp_wordM c R.1.1 (K h (kM.rfl' c) R)
theorem r_letter {b k i : Int32} (c : Lay L h) (R : RM h t sf S tm dk cd) (K : ∀ h', kM L h h' → RM h' t sf S tm dk cd → Q (fLetter S.1 b k i) h') : AC w mX10_letter 0 0 (rI Q) [.ref 347, .int b, .int k, .int i] h :=
  sp_letterM c R.1.1 (K h (kM.rfl' c) R)
theorem r_share {a b : Int32} (c : Lay L h) (R : RM h t sf S tm dk cd) (K : ∀ h', kM L h h' → RM h' t sf S tm dk cd → Q (fShare (bNk (S.1 0)) (bNk (S.1 1)) S.2.2.2 a b) h') : AC w mX10_share 0 0 (rI Q) [.ref 347, .int a, .int b] h :=
  sp_shareM c R.1.1 R.2.2.2.1 (K h (kM.rfl' c) R)
theorem r_partner {a x : Int32} (c : Lay L h) (R : RM h t sf S tm dk cd) (K : ∀ h', kM L h h' → RM h' t sf S tm dk cd → Q (fPartner (bNk (S.1 0)) (bNk (S.1 1)) S.2.2.2 tm a x) h') : AC w mX10_partner 0 0 (rI Q) [.ref 347, .int a, .int x] h :=
  sp_partnerM c R.1.1 R.2.2.2.1 (K h (kM.rfl' c) R)
theorem r_sort {s : Int32} (c : Lay L h) (R : RM h t sf S tm dk cd) (K : ∀ h', kM L h h' → RM h' t sf S tm dk cd → Q (fSort dk s) h') : AC w mX10_sort 0 0 (rI Q) [.ref 347, .int s] h :=
  sp_sortM c R.2.2.2.2.1 (K h (kM.rfl' c) R)
theorem r_code (c : Lay L h) (R : RM h t sf S tm dk cd) (K : ∀ h', kM L h h' → RM h' t sf S tm dk cd → Q (cd) h') : AC w mX10_code 0 0 (rI Q) [.ref 347] h :=
  sp_codeM c (by rw [R.2.2.2.2.2]; exact K h (kM.rfl' c) R)
theorem r_lay (c : Lay L h) (R : RM h t sf S tm dk cd) (K : ∀ h', kM L h h' → RM h' t sf S tm dk cd → Q (fLay S) h') : AC w mX10_lay 0 0 (rI Q) [.ref 347] h :=
  sp_layM c R.1 R.2.2.2.1 (fun h' g => K h' (lm_kM c (bs_lm g)) (R.ly (bs_lm g)))
theorem r_joint {k x : Int32} (c : Lay L h) (R : RM h t sf S tm dk cd) (K : ∀ h', kM L h h' → RM h' t sf S tm dk cd → Q (fJoint S k x) h') : AC w mX10_joint 0 0 (rI Q) [.ref 347, .int k, .int x] h :=
  sp_jointM c R.1 R.2.2.2.1 (fun h' g => K h' (lm_kM c (bs_lm g)) (R.ly (bs_lm g)))
theorem r_price {k i j : Int32} (c : Lay L h) (R : RM h t sf S tm dk cd) (K : ∀ h', kM L h h' → RM h' t sf S tm dk cd → Q (fPrice S k i j) h') : AC w mX10_price 0 0 (rI Q) [.ref 347, .int k, .int i, .int j] h :=
  sp_priceM c R.1 R.2.2.2.1 (fun h' g => K h' (lm_kM c (bs_lm g)) (R.ly (bs_lm g)))
theorem r_rest {i j : Int32} (c : Lay L h) (R : RM h t sf S tm dk cd) (K : ∀ h', kM L h h' → RM h' t sf S tm dk cd → Q (fRest S i j) h') : AC w mX10_rest 0 0 (rI Q) [.ref 347, .int i, .int j] h :=
  sp_restM c R.1 R.2.2.2.1 (fun h' g => K h' (lm_kM c (bs_lm g)) (R.ly (bs_lm g)))
theorem r_second (c : Lay L h) (R : RM h t sf S tm dk cd) (K : ∀ h', kM L h h' → RM h' t sf S tm dk cd → Q (fSecond S) h') : AC w mX10_second 0 0 (rI Q) [.ref 347] h :=
  sp_secondM c R.1 R.2.2.2.1 (fun h' g => K h' (lm_kM c (bs_lm g)) (R.ly (bs_lm g)))
theorem r_sure {k d : Int32} (c : Lay L h) (R : RM h t sf S tm dk cd) (K : ∀ h', kM L h h' → RM h' t sf S tm dk cd → Q (fSure S k d) h') : AC w mX10_sure 0 0 (rI Q) [.ref 347, .int k, .int d] h :=
  sp_sureM c R.1 R.2.2.2.1 (fun h' g => K h' (lm_kM c (bs_lm g)) (R.ly (bs_lm g)))
theorem r_broken (c : Lay L h) (R : RM h t sf S tm dk cd) (K : ∀ h', kM L h h' → RM h' t sf S tm dk cd → Q (nI (brk S tm (JN S))) h') : AC w mX10_broken 0 0 (rI Q) [.ref 347] h :=
  sp_brokenM c R.1 R.2.2.2.1 (fun h' g => K h' (lm_kM c (bs_lm g)) (R.ly (bs_lm g)))
theorem r_link {k x2 x : Int32} (c : Lay L h) (R : RM h t sf S tm dk cd) (K : ∀ h', kM L h h' → RM h' t sf S tm dk cd → Q (fLink S k x2 x) h') : AC w mX10_link 0 0 (rI Q) [.ref 347, .int k, .int x2, .int x] h :=
  sp_linkM c R.1 R.2.2.2.1 (fun h' g => K h' (lm_kM c g) (R.ly g))
theorem r_linked {k x2 x y : Int32} (c : Lay L h) (R : RM h t sf S tm dk cd) (K : ∀ h', kM L h h' → RM h' t sf S tm dk cd → Q (fLinked S k x2 x y) h') : AC w mX10_linked 0 0 (rI Q) [.ref 347, .int k, .int x2, .int x, .int y] h :=
  sp_linkedM c R.1 R.2.2.2.1 (fun h' g => K h' (lm_kM c g) (R.ly g))
theorem r_phrases {k : Int32} (c : Lay L h) (R : RM h t sf S tm dk cd) (K : ∀ h', kM L h h' → RM h' t sf S tm dk cd → Q (fPhr S k) h') : AC w mX10_phrases 0 0 (rI Q) [.ref 347, .int k] h :=
  sp_phrasesM c R.1 R.2.2.2.1 (fun h' g => K h' (lm_kM c g) (R.ly g))
end RA
