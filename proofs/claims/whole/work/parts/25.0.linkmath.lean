/-! ===== links: where a word leads ===== -/
def dN (a b : Nat) : Nat := (a - b) + (b - a)
def cL (f d : Nat → Nat) (z : Nat) : Nat → Option Nat × Nat
  | 0 => (none, z)
  | k + 1 => if (cL f d z k).2 < f k then (some k, f k) else match (cL f d z k).1 with
    | none => cL f d z k
    | some b => if f k = (cL f d z k).2 ∧ d k < d b then (some k, f k) else cL f d z k
def mLk (f d : Nat → Nat) : Nat → Option Nat
  | 0 => none
  | k + 1 => match mLk f d k with
    | none => some k
    | some b => if f b < f k ∨ (f k = f b ∧ d k < d b) then some k else some b
def fin1 (f : Nat → Nat) (z : Nat) (o : Option Nat) : Option Nat × Nat := match o with
  | none => (none, z)
  | some b => if z < f b then (some b, f b) else (none, z)
theorem mLk_lt {f d : Nat → Nat} : ∀ {n b : Nat}, mLk f d n = some b → b < n
  | 0, b, h => by cases h
  | n + 1, b, h => by
    have e : mLk f d (n + 1) = match mLk f d n with
      | none => some n
      | some b => if f b < f n ∨ (f n = f b ∧ d n < d b) then some n else some b := rfl
    rw [e] at h
    cases q : mLk f d n with
    | none => rw [q] at h; cases h; omega
    | some c =>
      rw [q] at h
      have := @mLk_lt f d n c q
      by_cases r : f c < f n ∨ (f n = f c ∧ d n < d c)
      · have h : (if f c < f n ∨ (f n = f c ∧ d n < d c) then some n else some c) = some b := h
        rw [if_pos r] at h; cases h; omega
      · have h : (if f c < f n ∨ (f n = f c ∧ d n < d c) then some n else some c) = some b := h
        rw [if_neg r] at h; cases h; omega
theorem cL_s (f d : Nat → Nat) (z k : Nat) : cL f d z (k + 1) = if (cL f d z k).2 < f k then (some k, f k) else match (cL f d z k).1 with
    | none => cL f d z k
    | some b => if f k = (cL f d z k).2 ∧ d k < d b then (some k, f k) else cL f d z k := rfl
theorem mLk_s (f d : Nat → Nat) (k : Nat) : mLk f d (k + 1) = match mLk f d k with
    | none => some k
    | some b => if f b < f k ∨ (f k = f b ∧ d k < d b) then some k else some b := rfl
theorem cL_m (f d : Nat → Nat) (z : Nat) : ∀ n, cL f d z n = fin1 f z (mLk f d n)
  | 0 => rfl
  | n + 1 => by
    have ih := cL_m f d z n
    rw [cL_s, mLk_s, ih]
    cases q : mLk f d n with
    | none =>
      show (if z < f n then (some n, f n) else (none, z)) = if z < f n then (some n, f n) else (none, z)
      rfl
    | some b =>
      by_cases r : z < f b
      · have e1 : fin1 f z (some b) = (some b, f b) := if_pos r
        rw [e1]
        by_cases t : f b < f n
        · show (if f b < f n then (some n, f n) else _) = fin1 f z (if f b < f n ∨ _ then some n else some b)
          rw [if_pos t, if_pos (Or.inl t)]
          exact (if_pos (by omega)).symm
        · show (if f b < f n then (some n, f n) else if f n = f b ∧ d n < d b then (some n, f n) else (some b, f b)) = fin1 f z (if f b < f n ∨ (f n = f b ∧ d n < d b) then some n else some b)
          rw [if_neg t]
          by_cases u : f n = f b ∧ d n < d b
          · rw [if_pos u, if_pos (Or.inr u)]
            exact (if_pos (by omega)).symm
          · rw [if_neg u, if_neg (fun x => x.elim t u)]
            exact (if_pos r).symm
      · have e1 : fin1 f z (some b) = (none, z) := if_neg r
        rw [e1]
        show (if z < f n then (some n, f n) else (none, z)) = fin1 f z (if f b < f n ∨ (f n = f b ∧ d n < d b) then some n else some b)
        by_cases t : z < f n
        · rw [if_pos t, if_pos (Or.inl (by omega))]
          exact (if_pos t).symm
        · rw [if_neg t]
          by_cases u : f b < f n ∨ (f n = f b ∧ d n < d b)
          · rw [if_pos u]; exact (if_neg t).symm
          · rw [if_neg u]; exact (if_neg r).symm
/-- where a row f leads, if it is above z; of the greatest the nearest, of these the least -/
def ldF (f d : Nat → Nat) (z n : Nat) : Option Nat := (cL f d z n).1
theorem ldF_lt {f d : Nat → Nat} {z n b : Nat} (h : ldF f d z n = some b) : b < n := by
  unfold ldF at h
  rw [cL_m] at h
  cases q : mLk f d n with
  | none => rw [q] at h; cases h
  | some c =>
    rw [q] at h
    have := mLk_lt q
    by_cases r : z < f c
    · have h : (if z < f c then (some c, f c) else (none, z)).1 = some b := h
      rw [if_pos r] at h; cases h; exact this
    · have h : (if z < f c then (some c, f c) else (none, z)).1 = some b := h
      rw [if_neg r] at h; cases h
theorem cL_lt {f d : Nat → Nat} {z n b : Nat} (h : (cL f d z n).1 = some b) : b < n := ldF_lt h
theorem cL_le {f d : Nat → Nat} {z M : Nat} (hz : z ≤ M) (hf : ∀ k, f k ≤ M) : ∀ n, (cL f d z n).2 ≤ M := fun n => by
  rw [cL_m]
  unfold fin1
  split
  · exact hz
  · split
    · exact hf _
    · exact hz
/-! ===== the words of a joint ===== -/
def gW (B : Bk) (f : Nat) : Nat → Nat → Nat
  | 0, _ => 0
  | n + 1, x => if x < sm (bWc B) f n then gW B f n x else bWd B (f + n) (x - sm (bWc B) f n)
theorem gW_lt {B : Bk} (ok : okB B) {f : Nat} : ∀ {n x : Nat}, f + n ≤ bNs B → x < sm (bWc B) f n → gW B f n x < bNk B
  | 0, x, _, h => absurd h (Nat.not_lt_zero x)
  | n + 1, x, hn, h => by
    have h : x < sm (bWc B) f n + bWc B (f + n) := h
    show (if x < sm (bWc B) f n then gW B f n x else bWd B (f + n) (x - sm (bWc B) f n)) < bNk B
    by_cases q : x < sm (bWc B) f n
    · rw [if_pos q]; exact gW_lt ok (by omega) q
    · rw [if_neg q]; exact (ok.2.2.2.1 (f + n) (by omega)).2.2.2 _ (by omega)
theorem gN_le {B : Bk} (ok : okB B) {f n : Nat} (hn : f + n ≤ bNs B) (h2 : n ≤ 2) : sm (bWc B) f n ≤ 20 := by
  have : sm (bWc B) f n ≤ n * 10 := sm_le (fun i hi => (ok.2.2.2.1 (f + i) (by omega)).2.1)
  omega
/-! ===== grown links ===== -/
section GRW
variable {tR tL : Nat → Option Nat} {nl nr : Nat} {g : Nat → Nat → Bool}
def okG (g : Nat → Nat → Bool) (nl nr : Nat) : Prop := ∀ x y, g x y = true → x < nl ∧ y < nr
def bth (tR tL : Nat → Option Nat) (x y : Nat) : Bool := (tR x == some y) && (tL y == some x)
def nearP (g : Nat → Nat → Bool) (nl nr x y : Nat) : Prop := ∃ u v, u < nl ∧ v < nr ∧ u ≤ x + 1 ∧ x ≤ u + 1 ∧ v ≤ y + 1 ∧ y ≤ v + 1 ∧ g u v = true
def freeP (g : Nat → Nat → Bool) (nl nr x y : Nat) : Prop := (∀ v, v < nr → g x v = false) ∨ ∀ u, u < nl → g u y = false
def mayG (tR tL : Nat → Option Nat) (nl nr : Nat) (g : Nat → Nat → Bool) (x y : Nat) : Prop := (tR x = some y ∨ tL y = some x) ∧ g x y = false ∧ nearP g nl nr x y ∧ freeP g nl nr x y
def setG (g : Nat → Nat → Bool) (x y : Nat) : Nat → Nat → Bool := fun u v => if u = x ∧ v = y then true else g u v
noncomputable def stG (tR tL : Nat → Option Nat) (nl nr : Nat) (q : (Nat → Nat → Bool) × Bool) (x y : Nat) : (Nat → Nat → Bool) × Bool := @ite _ (mayG tR tL nl nr q.1 x y) (Classical.propDecidable _) (setG q.1 x y, true) q
noncomputable def rwG (tR tL : Nat → Option Nat) (nl nr : Nat) (q : (Nat → Nat → Bool) × Bool) (x : Nat) : Nat → (Nat → Nat → Bool) × Bool
  | 0 => q
  | y + 1 => stG tR tL nl nr (rwG tR tL nl nr q x y) x y
noncomputable def psG (tR tL : Nat → Option Nat) (nl nr : Nat) (q : (Nat → Nat → Bool) × Bool) : Nat → (Nat → Nat → Bool) × Bool
  | 0 => q
  | x + 1 => rwG tR tL nl nr (psG tR tL nl nr q x) x nr
noncomputable def pasG (tR tL : Nat → Option Nat) (nl nr : Nat) (g : Nat → Nat → Bool) : (Nat → Nat → Bool) × Bool := psG tR tL nl nr (g, false) nl
noncomputable def itG (tR tL : Nat → Option Nat) (nl nr : Nat) : Nat → (Nat → Nat → Bool) → Nat → Nat → Bool
  | 0, g => g
  | t + 1, g => if (pasG tR tL nl nr g).2 = true then itG tR tL nl nr t (pasG tR tL nl nr g).1 else (pasG tR tL nl nr g).1
theorem stG_y {q : (Nat → Nat → Bool) × Bool} {x y : Nat} (h : mayG tR tL nl nr q.1 x y) : stG tR tL nl nr q x y = (setG q.1 x y, true) := if_pos h
theorem stG_n {q : (Nat → Nat → Bool) × Bool} {x y : Nat} (h : ¬ mayG tR tL nl nr q.1 x y) : stG tR tL nl nr q x y = q := if_neg h
theorem okG.set {x y : Nat} (o : okG g nl nr) (hx : x < nl) (hy : y < nr) : okG (setG g x y) nl nr := fun u v h => by
  unfold setG at h
  by_cases e : u = x ∧ v = y
  · omega
  · rw [if_neg e] at h; exact o u v h
theorem okG.st {q : (Nat → Nat → Bool) × Bool} {x y : Nat} (o : okG q.1 nl nr) (hx : x < nl) (hy : y < nr) : okG (stG tR tL nl nr q x y).1 nl nr := by
  rcases Classical.em (mayG tR tL nl nr q.1 x y) with h | h
  · rw [stG_y h]; exact o.set hx hy
  · rw [stG_n h]; exact o
theorem okG.rw {q : (Nat → Nat → Bool) × Bool} {x : Nat} (o : okG q.1 nl nr) (hx : x < nl) : ∀ y, y ≤ nr → okG (rwG tR tL nl nr q x y).1 nl nr
  | 0, _ => o
  | y + 1, hy => (okG.rw o hx y (by omega)).st hx (by omega)
theorem okG.ps {q : (Nat → Nat → Bool) × Bool} (o : okG q.1 nl nr) : ∀ x, x ≤ nl → okG (psG tR tL nl nr q x).1 nl nr
  | 0, _ => o
  | x + 1, hx => (okG.ps o x (by omega)).rw (by omega) nr (Nat.le_refl _)
theorem okG.it : ∀ (t : Nat) {g : Nat → Nat → Bool}, okG g nl nr → okG (itG tR tL nl nr t g) nl nr
  | 0, _, o => o
  | t + 1, g, o => by
    show okG (if (pasG tR tL nl nr g).2 = true then itG tR tL nl nr t (pasG tR tL nl nr g).1 else (pasG tR tL nl nr g).1) nl nr
    have := okG.ps (tR := tR) (tL := tL) (q := (g, false)) o nl (Nat.le_refl _)
    split
    · exact okG.it t this
    · exact this
theorem okG.bth (h1 : ∀ x b, tR x = some b → b < nr) (h2 : ∀ y b, tL y = some b → b < nl) : okG (bth tR tL) nl nr := fun x y h => by
  unfold Jvm.Pilot.@@N@@.bth at h
  rw [Bool.and_eq_true, beq_iff_eq, beq_iff_eq] at h
  exact ⟨h2 _ _ h.2, h1 _ _ h.1⟩
def cntG (g : Nat → Nat → Bool) : Nat := sm (fun x => sm (fun y => if g x y = true then 1 else 0) 0 20) 0 20
theorem cntG_le (g : Nat → Nat → Bool) : cntG g ≤ 400 := by
  have : cntG g ≤ 20 * 20 := sm_le (fun i _ => by
    have : sm (fun y => if g (0 + i) y = true then 1 else 0) 0 20 ≤ 20 * 1 := sm_le (fun j _ => by (try dsimp only); split <;> omega)
    (try dsimp only)
    omega)
  omega
theorem cntG_set {x y : Nat} (hx : x < 20) (hy : y < 20) (h : g x y = false) : cntG (setG g x y) = cntG g + 1 := by
  have i1 : sm (fun v => if setG g x y x v = true then 1 else 0) 0 20 = sm (fun v => if g x v = true then 1 else 0) 0 20 + 1 := by
    have := sm_upd (f := fun v => if g x v = true then 1 else 0) (g := fun v => if setG g x y x v = true then 1 else 0) 20 hy (fun i hi => by
      have : setG g x y x i = g x i := if_neg (fun q => hi q.2)
      (try dsimp only)
      rw [this])
    have e1 : setG g x y x y = true := if_pos ⟨rfl, rfl⟩
    (try dsimp only at this)
    rw [e1, h] at this
    simpa using this
  have := sm_upd (f := fun u => sm (fun v => if g u v = true then 1 else 0) 0 20) (g := fun u => sm (fun v => if setG g x y u v = true then 1 else 0) 0 20) 20 hx (fun i hi => by
    (try dsimp only)
    refine sm_congr (fun j _ => ?_)
    have : setG g x y i (0 + j) = g i (0 + j) := if_neg (fun q => hi q.1)
    (try dsimp only)
    rw [this])
  (try dsimp only at this)
  rw [i1] at this
  unfold cntG
  omega
def grwP (g : Nat → Nat → Bool) (q : (Nat → Nat → Bool) × Bool) : Prop := (q.2 = false ∧ q.1 = g) ∨ (q.2 = true ∧ cntG g + 1 ≤ cntG q.1)
theorem grwP.st {q : (Nat → Nat → Bool) × Bool} {x y : Nat} (h : grwP g q) (hx : x < 20) (hy : y < 20) : grwP g (stG tR tL nl nr q x y) := by
  rcases Classical.em (mayG tR tL nl nr q.1 x y) with m | m
  · rw [stG_y m]
    have := cntG_set hx hy m.2.1
    refine Or.inr ⟨rfl, ?_⟩
    show cntG g + 1 ≤ cntG (setG q.1 x y)
    rcases h with ⟨_, e⟩ | ⟨_, e⟩
    · rw [this, e]; exact Nat.le_refl _
    · omega
  · rw [stG_n m]; exact h
theorem grwP.rw {q : (Nat → Nat → Bool) × Bool} {x : Nat} (h : grwP g q) (hx : x < 20) (hn : nr ≤ 20) : ∀ y, y ≤ nr → grwP g (rwG tR tL nl nr q x y)
  | 0, _ => h
  | y + 1, hy => (grwP.rw h hx hn y (by omega)).st hx (by omega)
theorem grwP.ps {q : (Nat → Nat → Bool) × Bool} (h : grwP g q) (hl : nl ≤ 20) (hn : nr ≤ 20) : ∀ x, x ≤ nl → grwP g (psG tR tL nl nr q x)
  | 0, _ => h
  | x + 1, hx => (grwP.ps h hl hn x (by omega)).rw (by omega) hn nr (Nat.le_refl _)
theorem pas_cnt (hl : nl ≤ 20) (hn : nr ≤ 20) (h : (pasG tR tL nl nr g).2 = true) : cntG g + 1 ≤ cntG (pasG tR tL nl nr g).1 := by
  have : grwP g (pasG tR tL nl nr g) := grwP.ps (q := (g, false)) (Or.inl ⟨rfl, rfl⟩) hl hn nl (Nat.le_refl _)
  rcases this with ⟨e, _⟩ | ⟨_, e⟩
  · rw [e] at h; cases h
  · exact e
theorem cntG_0 (h : cntG g = 0) {x y : Nat} (hx : x < 20) (hy : y < 20) : g x y = false := by
  have h1 := sm_ge (f := fun x => sm (fun y => if g x y = true then 1 else 0) 0 20) (a := 0) hx
  have h2 := sm_ge (f := fun y => if g x y = true then 1 else 0) (a := 0) hy
  unfold cntG at h
  rw [Nat.zero_add] at h1
  rw [Nat.zero_add] at h2
  (try dsimp only at h1 h2)
  by_cases e : g x y = true
  · rw [if_pos e] at h2; omega
  · simpa using e
theorem pas_0 (hl : nl ≤ 20) (hn : nr ≤ 20) (h : cntG g = 0) : pasG tR tL nl nr g = (g, false) := by
  have no : ∀ x y, ¬ mayG tR tL nl nr g x y := fun x y m => by
    obtain ⟨u, v, hu, hv, _, _, _, _, e⟩ := m.2.2.1
    rw [cntG_0 h (by omega) (by omega)] at e; cases e
  have r1 : ∀ x y, rwG tR tL nl nr (g, false) x y = (g, false) := fun x y => by
    induction y with
    | zero => rfl
    | succ y ih =>
      show stG tR tL nl nr (rwG tR tL nl nr (g, false) x y) x y = _
      rw [ih, stG_n (no x y)]
  have p1 : ∀ x, psG tR tL nl nr (g, false) x = (g, false) := fun x => by
    induction x with
    | zero => rfl
    | succ x ih =>
      show rwG tR tL nl nr (psG tR tL nl nr (g, false) x) x nr = _
      rw [ih, r1]
  exact p1 nl
end GRW
/-! ===== bits of an int ===== -/
def ib (v : Int32) (P : Nat → Bool) : Prop := ∀ p, p < 32 → v.toBitVec.getLsbD p = P p
theorem one32 : ∀ k, k < 20 → ((1 : Int32) <<< (nI k &&& 31)).toBitVec = BitVec.twoPow 32 k := by decide +kernel
theorem ib_0 : ib 0 (fun _ => false) := fun p _ => by
  show (0#32).getLsbD p = false
  exact BitVec.getLsbD_zero
theorem ib_or {x y : Int32} {P R : Nat → Bool} (h1 : ib x P) (h2 : ib y R) : ib (x ||| y) (fun p => P p || R p) := fun p hp => by
  rw [Int32.toBitVec_or, BitVec.getLsbD_or, h1 p hp, h2 p hp]
theorem ib_and {x y : Int32} {P R : Nat → Bool} (h1 : ib x P) (h2 : ib y R) : ib (x &&& y) (fun p => P p && R p) := fun p hp => by
  rw [Int32.toBitVec_and, BitVec.getLsbD_and, h1 p hp, h2 p hp]
theorem ib_not {x : Int32} {P : Nat → Bool} (h1 : ib x P) : ib (x ^^^ (-1)) (fun p => !P p) := fun p hp => by
  rw [Int32.toBitVec_xor, BitVec.getLsbD_xor, h1 p hp, show (-1 : Int32).toBitVec = BitVec.allOnes 32 by first | decide | exact vp_nI (j := 0) (by decide) (by decide) | exact vp_nI (j := 1) (by decide) (by decide), BitVec.getLsbD_allOnes, decide_eq_true hp]
  show (P p ^^ true) = !P p
  cases P p <;> rfl
theorem ib_1 {k : Nat} (hk : k < 20) : ib ((1 : Int32) <<< (nI k &&& 31)) (fun p => k == p) := fun p hp => by
  rw [one32 k hk, BitVec.getLsbD_twoPow, show decide (k < 32) = true from decide_eq_true (by omega), Bool.true_and]
  rfl
theorem ib_z {v : Int32} {P : Nat → Bool} (h : ib v P) : v = 0 ↔ ∀ p, p < 32 → P p = false := by
  constructor
  · intro e p hp
    rw [← h p hp, e]
    exact BitVec.getLsbD_zero
  · intro q
    apply Int32.toBitVec_inj.mp
    apply BitVec.eq_of_getLsbD_eq
    intro i hi
    rw [h i hi, q i hi]
    exact BitVec.getLsbD_zero.symm
theorem ib_e {x : Int32} {P R : Nat → Bool} (h : ib x P) (e : ∀ p, p < 32 → P p = R p) : ib x R := fun p hp => by rw [h p hp, e p hp]
theorem ush32 : ∀ t, t < 20 → (((nI t).toUInt32 &&& Int32.toUInt32 31).toBitVec % 32).toNat = t := by decide +kernel
theorem ib_t {x : Int32} {P : Nat → Bool} {t : Nat} (h : ib x P) (ht : t < 20) : (x.toUInt32 >>> ((nI t).toUInt32 &&& Int32.toUInt32 31)).toInt32 &&& 1 = 0 ↔ P t = false := by
  rw [← Int32.toBitVec_inj, Int32.toBitVec_and]
  have e : (x.toUInt32 >>> ((nI t).toUInt32 &&& Int32.toUInt32 31)).toInt32.toBitVec = x.toBitVec >>> t := by
    show (x.toUInt32 >>> ((nI t).toUInt32 &&& Int32.toUInt32 31)).toBitVec = _
    rw [UInt32.toBitVec_shiftRight, BitVec.ushiftRight_eq', ush32 t ht]
    rfl
  have e1 : (1 : Int32).toBitVec = BitVec.twoPow 32 0 := by decide
  rw [e, e1, BitVec.and_twoPow, BitVec.getLsbD_ushiftRight, Nat.add_zero, h t (by omega)]
  cases P t with
  | false => simp
  | true => exact ⟨fun q => absurd q (by decide), fun q => by cases q⟩
theorem ib_7' : ∀ y, y < 20 → ∀ p, p < 32 → ((((7 : Int32) <<< (nI y &&& 31)).toUInt32 >>> ((1 : Int32).toUInt32 &&& Int32.toUInt32 31)).toInt32).toBitVec.getLsbD p = decide (p ≤ y + 1 ∧ y ≤ p + 1) := by decide +kernel
theorem ib_7 {y : Nat} (hy : y < 20) : ib ((((7 : Int32) <<< (nI y &&& 31)).toUInt32 >>> ((1 : Int32).toUInt32 &&& Int32.toUInt32 31)).toInt32) (fun p => decide (p ≤ y + 1 ∧ y ≤ p + 1)) := fun p hp => ib_7' y hy p hp
theorem ib_r' : ∀ f, f < 20 → ∀ m, m < 4 → ∀ p, p < 32 → ((((1 : Int32) <<< ((nI m + 1) &&& 31)) - 1) <<< (nI f &&& 31)).toBitVec.getLsbD p = decide (f ≤ p ∧ p ≤ f + m) := by decide +kernel
theorem ib_r {f m : Nat} (hf : f < 20) (hm : m < 4) : ib ((((1 : Int32) <<< ((nI m + 1) &&& 31)) - 1) <<< (nI f &&& 31)) (fun p => decide (f ≤ p ∧ p ≤ f + m)) := fun p hp => ib_r' f hf m hm p hp
