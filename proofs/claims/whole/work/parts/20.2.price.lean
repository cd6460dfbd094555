/-! ===== what prices hang on: books, fast pairs, whether paragraphs are kept, shares ===== -/
abbrev Ly : Type := (Nat → Bk) × Pr × Bool × Sh
def anyN (f : Nat → Bool) (a : Nat) : Nat → Bool
  | 0 => false
  | n + 1 => anyN f a n || f (a + n)
def kI1 (B : Bk) (s p : Nat) : Bool := anyN (fun x => bWd B s x == p) 0 (bWc B s)
def kIn (B : Bk) (j m p : Nat) : Bool := anyN (fun s => kI1 B s p) j m
def hasP (S : Ly) (a : Nat) (P : Nat → Bool) : Bool := !(pOf S.2.2.2 a (bNk (S.1 1)) == -1) && P (pOf S.2.2.2 a (bNk (S.1 1))).toNatClampNeg
def frd (S : Ly) (s : Nat) (P : Nat → Bool) : Nat := sm (fun x => if hasP S (bWd (S.1 0) s x) P = true then 1 else 0) 0 (bWc (S.1 0) s)
def frds (S : Ly) (i n j m : Nat) : Nat := sm (fun s => frd S s (kIn (S.1 1) j m)) i n
def dstN (x y : Nat) : Nat := ((x - y) + (y - x)) * 20 / (x + y)
def strN (S : Ly) (i n j m : Nat) : Nat := dstN (sm (sLen (S.1 0)) i n * sm (sLen (S.1 1)) 0 (bNs (S.1 1))) (sm (sLen (S.1 1)) j m * sm (sLen (S.1 0)) 0 (bNs (S.1 0))) * dstN (sm (sLen (S.1 0)) i n * sm (sLen (S.1 1)) 0 (bNs (S.1 1))) (sm (sLen (S.1 1)) j m * sm (sLen (S.1 0)) 0 (bNs (S.1 0)))
def min6 (n : Nat) : Nat := if 6 < n then 6 else n
def prcN (S : Ly) (k i j : Nat) : Int := if k = 1 ∨ k = 2 then 450 else if k = 6 then 480 + ((strN S i 1 (j + 1) 1 + strN S (i + 1) 1 j 1 : Nat) : Int) - 15 * (min6 (frds S i 1 (j + 1) 1 + frds S (i + 1) 1 j 1) : Int) else (bP k : Int) + (strN S i (lS k) j (rS k) : Int) - 15 * (min6 (frds S i (lS k) j (rS k)) : Int)
def gT (k : Nat) (u v : Int) : Prop := 0 ≤ u ∧ u < lS k ∧ 0 ≤ v ∧ v < rS k ∧ (k = 6 → u ≠ v)
def fastP (p : Pr) (k i j : Nat) : Prop := (∀ u, u < lS k → p.1 (i + u) = -1 ∨ gT k u ((p.1 (i + u)).toInt - j)) ∧ ∀ v, v < rS k → p.2 (j + v) = -1 ∨ gT k ((p.2 (j + v)).toInt - i) v
def parP (bk : Nat → Bk) (i j i2 j2 : Nat) : Prop := ∀ q, q < bNp (bk 0) → q < bNp (bk 1) → (i2 ≤ upT (bk 0) q ∧ j2 ≤ upT (bk 1) q) ∨ (upT (bk 0) q ≤ i ∧ upT (bk 1) q ≤ j)
def mayP (S : Ly) (k i j : Nat) : Prop := i + lS k ≤ bNs (S.1 0) ∧ j + rS k ≤ bNs (S.1 1) ∧ fastP S.2.1 k i j ∧ (S.2.2.1 = true → parP S.1 i j (i + lS k) (j + rS k))
noncomputable def cst (S : Ly) (k i j : Nat) : Int := @ite _ (k < 7 ∧ mayP S k i j) (Classical.propDecidable _) (prcN S k i j) 1000000000
theorem cst_y {S : Ly} {k i j : Nat} (hk : k < 7) (h : mayP S k i j) : cst S k i j = prcN S k i j := if_pos ⟨hk, h⟩
theorem cst_n {S : Ly} {k i j : Nat} (h : ¬ mayP S k i j) : cst S k i j = 1000000000 := if_neg (fun q => h q.2)
theorem sm_add (f : Nat → Nat) (i : Nat) : ∀ n, sm f 0 (i + n) = sm f 0 i + sm f i n
  | 0 => rfl
  | n + 1 => by
    show sm f 0 (i + n) + f (0 + (i + n)) = sm f 0 i + (sm f i n + f (i + n))
    rw [sm_add f i n, Nat.zero_add]; omega
theorem sm_pos {f : Nat → Nat} {a : Nat} : ∀ {n : Nat}, 0 < n → (∀ i, i < n → 1 ≤ f (a + i)) → 1 ≤ sm f a n
  | 0, h, _ => by omega
  | n + 1, _, h => by
    have := h n (by omega)
    show 1 ≤ sm f a n + f (a + n)
    omega
theorem dstN_le (x y : Nat) : dstN x y ≤ 20 := by
  unfold dstN
  by_cases h : x + y = 0
  · rw [h]; simp
  · apply Nat.div_le_of_le_mul
    omega
theorem sLen_pos {B : Bk} (o : okB B) {s : Nat} (hs : s < bNs B) : 1 ≤ sLen B s := by
  have h1 := o.2.2.2.1 s hs
  refine sm_pos h1.1 (fun i hi => ?_)
  rw [Nat.zero_add]
  exact (o.2.2.2.2 _ (h1.2.2.2 i hi)).1
theorem sLens_le {B : Bk} (o : okB B) {i n : Nat} (h : i + n ≤ bNs B) : sm (sLen B) i n ≤ n * 100 := sm_le (fun x hx => sLen_le o (by omega))
theorem sLens_pos {B : Bk} (o : okB B) {i n : Nat} (h : i + n ≤ bNs B) (hn : 0 < n) : 1 ≤ sm (sLen B) i n := sm_pos hn (fun x hx => sLen_pos o (by omega))
theorem strN_le (S : Ly) (i n j m : Nat) : strN S i n j m ≤ 400 := Nat.le_trans (Nat.mul_le_mul (dstN_le _ _) (dstN_le _ _)) (by decide)
theorem min6_le (n : Nat) : min6 n ≤ 6 := by unfold min6; split <;> omega
theorem bP_le (k : Nat) : bP k ≤ 480 := by
  unfold bP
  rcases Nat.lt_or_ge k 7 with h | h
  · exact k7 (P := fun k => [0, 450, 450, 230, 230, 440, 480].getD k 0 ≤ 480) (by decide) (by decide) (by decide) (by decide) (by decide) (by decide) (by decide) h
  · obtain ⟨n, rfl⟩ : ∃ n, k = n + 7 := ⟨k - 7, by omega⟩
    exact Nat.zero_le _
theorem prcN_bd (S : Ly) (k i j : Nat) : -90 ≤ prcN S k i j ∧ prcN S k i j ≤ 1300 := by
  unfold prcN
  have a1 := strN_le S i 1 (j + 1) 1
  have a2 := strN_le S (i + 1) 1 j 1
  have a3 := strN_le S i (lS k) j (rS k)
  have a4 := min6_le (frds S i 1 (j + 1) 1 + frds S (i + 1) 1 j 1)
  have a5 := min6_le (frds S i (lS k) j (rS k))
  have a6 := bP_le k
  split
  · omega
  · split <;> omega
theorem cst_ok (S : Ly) : okC (cst S) (bNs (S.1 0)) (bNs (S.1 1)) := by
  intro k i j
  rcases Classical.em (k < 7 ∧ mayP S k i j) with q | q
  · right
    have : cst S k i j = prcN S k i j := if_pos q
    rw [this]
    exact ⟨(prcN_bd S k i j).1, (prcN_bd S k i j).2, q.2.1, q.2.2.1⟩
  · left; exact if_neg q
theorem cst_lt {S : Ly} {k i j : Nat} (h : cst S k i j < 1000000000) : mayP S k i j ∧ cst S k i j = prcN S k i j := by
  rcases Classical.em (k < 7 ∧ mayP S k i j) with q | q
  · exact ⟨q.2, if_pos q⟩
  · have : cst S k i j = 1000000000 := if_neg q
    omega
theorem pF_or (f : Nat → Int32) (z : Int32) : ∀ n, (pF f z n).1 = -1 ∨ ∃ b, b < n ∧ (pF f z n).1 = nI b
  | 0 => Or.inl rfl
  | n + 1 => by
    have ih := pF_or f z n
    show (if f n ≤ (pF f z n).2 then pF f z n else (nI n, f n)).1 = -1 ∨ ∃ b, b < n + 1 ∧ (if f n ≤ (pF f z n).2 then pF f z n else (nI n, f n)).1 = nI b
    split
    · rcases ih with q | ⟨b, hb, q⟩
      · exact Or.inl q
      · exact Or.inr ⟨b, by omega, q⟩
    · exact Or.inr ⟨n, by omega, rfl⟩
theorem pOf_or (sh : Sh) (a n : Nat) : pOf sh a n = -1 ∨ ∃ b, b < n ∧ pOf sh a n = nI b := pF_or _ _ n
theorem hasP_n {S : Ly} {a : Nat} {P : Nat → Bool} (h : pOf S.2.2.2 a (bNk (S.1 1)) = -1) : hasP S a P = false := by unfold hasP; rw [h]; rfl
theorem hasP_s {S : Ly} {a b : Nat} {P : Nat → Bool} (h : pOf S.2.2.2 a (bNk (S.1 1)) = nI b) (hb : b < 40) : hasP S a P = P b := by
  unfold hasP
  rw [h, cl_nI (by omega)]
  have : (nI b == -1) = false := by simpa using nI_m1 (show b < 2147483648 by omega)
  rw [this]; rfl
/-! ===== kinds as bits of a long ===== -/
def bits (x : Int64) (P : Nat → Bool) : Prop := ∀ p, p < 40 → x.toBitVec.getLsbD p = P p
theorem one_sh : ∀ k, k < 40 → ((1 : Int64) <<< ((nI k).toInt64 &&& 63)).toBitVec = BitVec.twoPow 64 k := by decide +kernel
theorem bits_0 : bits 0 (fun _ => false) := fun p _ => by
  show (0#64).getLsbD p = false
  exact BitVec.getLsbD_zero
theorem bits_or {x y : Int64} {P R : Nat → Bool} (h1 : bits x P) (h2 : bits y R) : bits (x ||| y) (fun p => P p || R p) := fun p hp => by
  rw [Int64.toBitVec_or, BitVec.getLsbD_or, h1 p hp, h2 p hp]
theorem bits_1 {k : Nat} (hk : k < 40) : bits ((1 : Int64) <<< ((nI k).toInt64 &&& 63)) (fun p => k == p) := fun p hp => by
  rw [one_sh k hk, BitVec.getLsbD_twoPow]
  have : decide (k < 64) = true := decide_eq_true (by omega)
  rw [this, Bool.true_and]
  rfl
theorem bits_t {x : Int64} {P : Nat → Bool} {k : Nat} (h : bits x P) (hk : k < 40) : ((1 : Int64) <<< ((nI k).toInt64 &&& 63)) &&& x = 0 ↔ P k = false := by
  rw [← Int64.toBitVec_inj, Int64.toBitVec_and, one_sh k hk, BitVec.twoPow_and, h k hk]
  cases P k with
  | false => simp
  | true =>
    simp only [if_true]
    constructor
    · intro q
      have := congrArg (fun z => BitVec.getLsbD z k) q
      simp only [BitVec.getLsbD_twoPow] at this
      have e : decide (k < 64) = true := decide_eq_true (by omega)
      rw [e] at this
      have e2 : (0 : Int64).toBitVec.getLsbD k = false := BitVec.getLsbD_zero
      rw [e2] at this
      simp at this
    · intro q; cases q
theorem bits_e {x : Int64} {P R : Nat → Bool} (h : bits x P) (e : ∀ p, p < 40 → P p = R p) : bits x R := fun p hp => by rw [h p hp, e p hp]
