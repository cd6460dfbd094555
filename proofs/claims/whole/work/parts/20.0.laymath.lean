/-! ===== laying: integers as ints ===== -/
def iI (x : Int) : Int32 := Int32.ofInt x
theorem iI_toInt {x : Int} (h1 : -2147483648 ≤ x) (h2 : x < 2147483648) : (iI x).toInt = x := by
  unfold iI
  exact Int32.toInt_ofInt_of_le (by omega) (by omega)
theorem iI_add (x y : Int) : iI x + iI y = iI (x + y) := (Int32.ofInt_add x y).symm
theorem iI_sub (x y : Int) : iI x - iI y = iI (x - y) := (Int32.ofInt_sub x y).symm
theorem iI_mul (x y : Int) : iI x * iI y = iI (x * y) := (Int32.ofInt_mul x y).symm
theorem iI_n (n : Nat) : nI n = iI (n : Int) := by
  unfold nI iI
  exact Int32.ofInt_eq_ofNat.symm
theorem iI_of (x : Int32) : iI x.toInt = x := Int32.ofInt_toInt x
/-! ===== sides of the kinds of joints ===== -/
def lS (k : Nat) : Nat := match k with
  | 2 => 0
  | 3 => 2
  | 5 => 2
  | 6 => 2
  | _ => 1
def rS (k : Nat) : Nat := match k with
  | 1 => 0
  | 4 => 2
  | 5 => 2
  | 6 => 2
  | _ => 1
def bP (k : Nat) : Nat := [0, 450, 450, 230, 230, 440, 480].getD k 0
theorem k7 {P : Nat → Prop} (h0 : P 0) (h1 : P 1) (h2 : P 2) (h3 : P 3) (h4 : P 4) (h5 : P 5) (h6 : P 6) {k : Nat} (hk : k < 7) : P k := by
  rcases (show k = 0 ∨ k = 1 ∨ k = 2 ∨ k = 3 ∨ k = 4 ∨ k = 5 ∨ k = 6 by omega) with rfl | rfl | rfl | rfl | rfl | rfl | rfl <;> assumption
theorem lS_le (k : Nat) : lS k ≤ 2 := by unfold lS; split <;> omega
theorem rS_le (k : Nat) : rS k ≤ 2 := by unfold rS; split <;> omega
theorem lrS (k : Nat) : 1 ≤ lS k + rS k := by unfold lS rS; split <;> split <;> first | omega | (exfalso; simp_all)
theorem sd_1 {k : Nat} (hk : k < 7) : sdT 1 k = nI (lS k) := k7 (P := fun k => sdT 1 k = nI (lS k)) rfl rfl rfl rfl rfl rfl rfl hk
theorem sd_2 {k : Nat} (hk : k < 7) : sdT 2 k = nI (rS k) := k7 (P := fun k => sdT 2 k = nI (rS k)) rfl rfl rfl rfl rfl rfl rfl hk
theorem sd_3 {k : Nat} (hk : k < 7) : sdT 3 k = nI (bP k) := k7 (P := fun k => sdT 3 k = nI (bP k)) rfl rfl rfl rfl rfl rfl rfl hk
theorem l_1 {L : Nat} {h : Hp} (c : Lay L h) {k : Nat} (hk : k < 7) : hI h 1 k = nI (lS k) := by rw [c.t 1 k (by decide) (by decide), sd_1 hk]
theorem l_2 {L : Nat} {h : Hp} (c : Lay L h) {k : Nat} (hk : k < 7) : hI h 2 k = nI (rS k) := by rw [c.t 2 k (by decide) (by decide), sd_2 hk]
theorem l_3 {L : Nat} {h : Hp} (c : Lay L h) {k : Nat} (hk : k < 7) : hI h 3 k = nI (bP k) := by rw [c.t 3 k (by decide) (by decide), sd_3 hk]
/-! ===== least sums: c k i j the price of a joint of kind k at i, j, 1000000000 where there may be none ===== -/
def okC (c : Nat → Nat → Nat → Int) (n0 n1 : Nat) : Prop := ∀ k i j, c k i j = 1000000000 ∨ (-90 ≤ c k i j ∧ c k i j ≤ 1300 ∧ i + lS k ≤ n0 ∧ j + rS k ≤ n1)
def sB (c : Nat → Nat → Nat → Int) (T : Nat → Nat → Int) (k i j : Nat) : Int := if c k i j < 1000000000 then (if T (i + lS k) (j + rS k) < 1000000000 then c k i j + T (i + lS k) (j + rS k) else 1000000000) else 1000000000
def mnK (f : Nat → Int) (a : Int) : Nat → Int
  | 0 => a
  | k + 1 => if f k < mnK f a k then f k else mnK f a k
def enT (n0 n1 i j : Nat) : Int := if i = n0 ∧ j = n1 then 0 else 1000000000
def lT (c : Nat → Nat → Nat → Int) (n0 n1 : Nat) : Nat → Nat → Nat → Int
  | 0 => fun i j => enT n0 n1 i j
  | f + 1 => fun i j => mnK (fun k => sB c (lT c n0 n1 f) k i j) (enT n0 n1 i j) 7
theorem mnK_le {f : Nat → Int} {a : Int} : ∀ {n : Nat}, mnK f a n ≤ a ∧ ∀ k, k < n → mnK f a n ≤ f k
  | 0 => ⟨Int.le_refl a, fun k hk => by omega⟩
  | n + 1 => by
    have ih := @mnK_le f a n
    show (if f n < mnK f a n then f n else mnK f a n) ≤ a ∧ ∀ k, k < n + 1 → (if f n < mnK f a n then f n else mnK f a n) ≤ f k
    refine ⟨by split <;> omega, fun k hk => ?_⟩
    by_cases e : k = n
    · subst e; split <;> omega
    · have := ih.2 k (by omega); split <;> omega
theorem mnK_mem {f : Nat → Int} {a : Int} : ∀ {n : Nat}, mnK f a n = a ∨ ∃ k, k < n ∧ mnK f a n = f k
  | 0 => Or.inl rfl
  | n + 1 => by
    have ih := @mnK_mem f a n
    show (if f n < mnK f a n then f n else mnK f a n) = a ∨ ∃ k, k < n + 1 ∧ (if f n < mnK f a n then f n else mnK f a n) = f k
    by_cases e : f n < mnK f a n
    · rw [if_pos e]; exact Or.inr ⟨n, by omega, rfl⟩
    · rw [if_neg e]
      rcases ih with ih | ⟨k, hk, ih⟩
      · exact Or.inl ih
      · exact Or.inr ⟨k, by omega, ih⟩
theorem mnK_congr {f g : Nat → Int} {a : Int} : ∀ {n : Nat}, (∀ k, k < n → f k = g k) → mnK f a n = mnK g a n
  | 0, _ => rfl
  | n + 1, h => by
    have ih := @mnK_congr f g a n (fun k hk => h k (by omega))
    show (if f n < mnK f a n then f n else mnK f a n) = (if g n < mnK g a n then g n else mnK g a n)
    rw [ih, h n (by omega)]
section LT
variable {c : Nat → Nat → Nat → Int} {n0 n1 : Nat}
theorem okC.far (o : okC c n0 n1) {k i j : Nat} (h : ¬ (i + lS k ≤ n0 ∧ j + rS k ≤ n1)) : c k i j = 1000000000 := by
  rcases o k i j with q | q
  · exact q
  · exact absurd q.2.2 h
theorem sB_far {T : Nat → Nat → Int} {k i j : Nat} (h : c k i j = 1000000000) : sB c T k i j = 1000000000 := by unfold sB; rw [h]; rfl
theorem sB_le {T : Nat → Nat → Int} {k i j : Nat} (o : okC c n0 n1) (h : ∀ i j, i ≤ n0 → j ≤ n1 → T i j ≤ 900000000 ∨ T i j = 1000000000) : sB c T k i j ≤ 900002000 ∨ sB c T k i j = 1000000000 := by
  unfold sB
  rcases o k i j with q | q
  · rw [q]; right; rfl
  · rw [if_pos (by omega)]
    rcases h _ _ q.2.2.1 q.2.2.2 with z | z
    · rw [if_pos (by omega)]; left; omega
    · rw [if_neg (by omega)]; right; rfl
theorem lT_stable (o : okC c n0 n1) : ∀ (f i j : Nat), i ≤ n0 → j ≤ n1 → (n0 - i) + (n1 - j) ≤ f → lT c n0 n1 (f + 1) i j = lT c n0 n1 f i j := by
  intro f
  induction f with
  | zero =>
    intro i j hi hj hf
    show mnK (fun k => sB c (lT c n0 n1 0) k i j) (enT n0 n1 i j) 7 = enT n0 n1 i j
    have e : ∀ k, k < 7 → sB c (lT c n0 n1 0) k i j = 1000000000 := fun k _ => sB_far (o.far (by have := lrS k; omega))
    have e0 : enT n0 n1 i j = 0 := if_pos (by omega)
    have h1 := (mnK_le (f := fun k => sB c (lT c n0 n1 0) k i j) (a := enT n0 n1 i j) (n := 7)).1
    rcases mnK_mem (f := fun k => sB c (lT c n0 n1 0) k i j) (a := enT n0 n1 i j) (n := 7) with h2 | ⟨k, hk, h2⟩
    · exact h2
    · rw [h2] at h1; simp only [e k hk] at h1; omega
  | succ f ih =>
    intro i j hi hj hf
    show mnK (fun k => sB c (lT c n0 n1 (f + 1)) k i j) (enT n0 n1 i j) 7 = mnK (fun k => sB c (lT c n0 n1 f) k i j) (enT n0 n1 i j) 7
    refine mnK_congr (fun k hk => ?_)
    rcases o k i j with q | q
    · rw [sB_far q, sB_far q]
    · have := lrS k
      unfold sB
      rw [ih (i + lS k) (j + rS k) q.2.2.1 q.2.2.2 (by omega)]
/-- the least sum from i, j on -/
def lst (c : Nat → Nat → Nat → Int) (n0 n1 : Nat) : Nat → Nat → Int := lT c n0 n1 40
theorem lst_eq (o : okC c n0 n1) (h0 : n0 ≤ 20) (h1 : n1 ≤ 20) {i j : Nat} (hi : i ≤ n0) (hj : j ≤ n1) : lst c n0 n1 i j = mnK (fun k => sB c (lst c n0 n1) k i j) (enT n0 n1 i j) 7 := by
  have := lT_stable o 40 i j hi hj (by omega)
  unfold lst
  rw [← this]
  rfl
theorem lT_bd (o : okC c n0 n1) : ∀ (f i j : Nat), i ≤ n0 → j ≤ n1 → lT c n0 n1 f i j = 1000000000 ∨ (-90 * (((n0 - i) + (n1 - j) : Nat) : Int) ≤ lT c n0 n1 f i j ∧ lT c n0 n1 f i j ≤ 1300 * (((n0 - i) + (n1 - j) : Nat) : Int)) := by
  intro f
  induction f with
  | zero =>
    intro i j hi hj
    show enT n0 n1 i j = _ ∨ (_ ≤ enT n0 n1 i j ∧ enT n0 n1 i j ≤ _)
    unfold enT
    split
    · right; omega
    · left; rfl
  | succ f ih =>
    intro i j hi hj
    show mnK (fun k => sB c (lT c n0 n1 f) k i j) (enT n0 n1 i j) 7 = _ ∨ (_ ≤ mnK (fun k => sB c (lT c n0 n1 f) k i j) (enT n0 n1 i j) 7 ∧ mnK (fun k => sB c (lT c n0 n1 f) k i j) (enT n0 n1 i j) 7 ≤ _)
    rcases mnK_mem (f := fun k => sB c (lT c n0 n1 f) k i j) (a := enT n0 n1 i j) (n := 7) with h2 | ⟨k, hk, h2⟩
    · rw [h2]
      unfold enT
      split
      · right; omega
      · left; rfl
    · rw [h2]
      unfold sB
      rcases o k i j with q | q
      · left; rw [q]; rfl
      · rw [if_pos (by omega)]
        have := lrS k
        rcases ih (i + lS k) (j + rS k) q.2.2.1 q.2.2.2 with z | z
        · left; rw [z]; rfl
        · by_cases y : lT c n0 n1 f (i + lS k) (j + rS k) < 1000000000
          · rw [if_pos y]; right; omega
          · rw [if_neg y]; left; rfl
theorem lst_bd (o : okC c n0 n1) (h0 : n0 ≤ 20) (h1 : n1 ≤ 20) {i j : Nat} (hi : i ≤ n0) (hj : j ≤ n1) : lst c n0 n1 i j = 1000000000 ∨ (-3600 ≤ lst c n0 n1 i j ∧ lst c n0 n1 i j ≤ 52000) := by
  rcases lT_bd o 40 i j hi hj with q | q
  · exact Or.inl q
  · right
    unfold lst
    omega
theorem sB_bd (o : okC c n0 n1) (h0 : n0 ≤ 20) (h1 : n1 ≤ 20) {k i j : Nat} : sB c (lst c n0 n1) k i j = 1000000000 ∨ (-3690 ≤ sB c (lst c n0 n1) k i j ∧ sB c (lst c n0 n1) k i j ≤ 53300) := by
  unfold sB
  rcases o k i j with q | q
  · left; rw [q]; rfl
  · rw [if_pos (by omega)]
    rcases lst_bd o h0 h1 q.2.2.1 q.2.2.2 with z | z
    · left; rw [z]; rfl
    · rw [if_pos (by omega)]; right; omega
/-! ===== the best way ===== -/
def fK (f : Nat → Int) (v : Int) : Nat → Nat → Nat
  | 0, k => k
  | d + 1, k => if f k = v then k else fK f v d (k + 1)
theorem fK_spec {f : Nat → Int} {v : Int} : ∀ (d k : Nat), k ≤ fK f v d k ∧ fK f v d k ≤ k + d ∧ (∀ x, k ≤ x → x < fK f v d k → f x ≠ v) ∧ (fK f v d k < k + d → f (fK f v d k) = v)
  | 0, k => ⟨Nat.le_refl k, Nat.le_refl k, fun x h1 h2 => absurd h2 (by show ¬ x < k; omega), fun h => absurd h (by show ¬ k < k + 0; omega)⟩
  | d + 1, k => by
    have ih := @fK_spec f v d (k + 1)
    show k ≤ (if f k = v then k else fK f v d (k + 1)) ∧ (if f k = v then k else fK f v d (k + 1)) ≤ k + (d + 1) ∧ (∀ x, k ≤ x → x < (if f k = v then k else fK f v d (k + 1)) → f x ≠ v) ∧ ((if f k = v then k else fK f v d (k + 1)) < k + (d + 1) → f (if f k = v then k else fK f v d (k + 1)) = v)
    by_cases q : f k = v
    · rw [if_pos q]; exact ⟨Nat.le_refl k, by omega, fun x h1 h2 => by omega, fun _ => q⟩
    · rw [if_neg q]
      refine ⟨by omega, by omega, fun x h1 h2 => ?_, fun h => ih.2.2.2 (by omega)⟩
      by_cases e : x = k
      · subst e; exact q
      · exact ih.2.2.1 x (by omega) h2
/-- the kind of the first joint of the best way from i, j on -/
def bK (c : Nat → Nat → Nat → Int) (T : Nat → Nat → Int) (i j : Nat) : Nat := fK (fun k => sB c T k i j) (T i j) 6 0
theorem bK_lt (T : Nat → Nat → Int) (i j : Nat) : bK c T i j < 7 := by
  have := (fK_spec (f := fun k => sB c T k i j) (v := T i j) 6 0).2.1
  unfold bK
  omega
def psn (c : Nat → Nat → Nat → Int) (T : Nat → Nat → Int) : Nat → Nat × Nat
  | 0 => (0, 0)
  | m + 1 => ((psn c T m).1 + lS (bK c T (psn c T m).1 (psn c T m).2), (psn c T m).2 + rS (bK c T (psn c T m).1 (psn c T m).2))
def jnF (c : Nat → Nat → Nat → Int) (T : Nat → Nat → Int) (n0 n1 : Nat) : Nat → Nat → Nat
  | 0, m => m
  | d + 1, m => if (psn c T m).1 < n0 ∨ (psn c T m).2 < n1 then jnF c T n0 n1 d (m + 1) else m
/-- from a place with a way on, not the end, the chosen joint is one that may be, and leads on -/
theorem bK_ok (o : okC c n0 n1) (h0 : n0 ≤ 20) (h1 : n1 ≤ 20) {i j : Nat} (hi : i ≤ n0) (hj : j ≤ n1) (hT : lst c n0 n1 i j < 1000000000) (hne : i < n0 ∨ j < n1) : sB c (lst c n0 n1) (bK c (lst c n0 n1) i j) i j = lst c n0 n1 i j := by
  have e := lst_eq o h0 h1 hi hj
  have en : enT n0 n1 i j = 1000000000 := if_neg (by omega)
  have hs := fK_spec (f := fun k => sB c (lst c n0 n1) k i j) (v := lst c n0 n1 i j) 6 0
  unfold bK
  rcases mnK_mem (f := fun k => sB c (lst c n0 n1) k i j) (a := enT n0 n1 i j) (n := 7) with q | ⟨k, hk, q⟩
  · rw [← e, en] at q; omega
  · rw [← e] at q
    by_cases z : fK (fun k => sB c (lst c n0 n1) k i j) (lst c n0 n1 i j) 6 0 < 0 + 6
    · exact hs.2.2.2 z
    · have h6 : fK (fun k => sB c (lst c n0 n1) k i j) (lst c n0 n1 i j) 6 0 = 6 := by omega
      by_cases z2 : k = 6
      · rw [h6, ← z2]; exact q.symm
      · exact absurd q.symm (hs.2.2.1 k (by omega) (by omega))
theorem sB_lt {T : Nat → Nat → Int} {k i j : Nat} (h : sB c T k i j < 1000000000) : c k i j < 1000000000 ∧ T (i + lS k) (j + rS k) < 1000000000 ∧ sB c T k i j = c k i j + T (i + lS k) (j + rS k) := by
  unfold sB at h ⊢
  by_cases a : c k i j < 1000000000
  · by_cases b : T (i + lS k) (j + rS k) < 1000000000
    · rw [if_pos a, if_pos b]; exact ⟨a, b, rfl⟩
    · rw [if_pos a, if_neg b] at h; omega
  · rw [if_neg a] at h; omega
theorem bK_step (o : okC c n0 n1) (h0 : n0 ≤ 20) (h1 : n1 ≤ 20) {i j : Nat} (hi : i ≤ n0) (hj : j ≤ n1) (hT : lst c n0 n1 i j < 1000000000) (hne : i < n0 ∨ j < n1) : c (bK c (lst c n0 n1) i j) i j < 1000000000 ∧ i + lS (bK c (lst c n0 n1) i j) ≤ n0 ∧ j + rS (bK c (lst c n0 n1) i j) ≤ n1 ∧ lst c n0 n1 (i + lS (bK c (lst c n0 n1) i j)) (j + rS (bK c (lst c n0 n1) i j)) < 1000000000 ∧ lst c n0 n1 i j = c (bK c (lst c n0 n1) i j) i j + lst c n0 n1 (i + lS (bK c (lst c n0 n1) i j)) (j + rS (bK c (lst c n0 n1) i j)) := by
  have e := bK_ok o h0 h1 hi hj hT hne
  obtain ⟨a, b, d⟩ := sB_lt (by rw [e]; exact hT)
  rcases o (bK c (lst c n0 n1) i j) i j with q | q
  · omega
  · exact ⟨a, q.2.2.1, q.2.2.2, b, by rw [← e]; exact d⟩
/-- where the way stands behind m joints -/
def onW (c : Nat → Nat → Nat → Int) (n0 n1 m : Nat) : Prop := (psn c (lst c n0 n1) m).1 ≤ n0 ∧ (psn c (lst c n0 n1) m).2 ≤ n1 ∧ m ≤ (psn c (lst c n0 n1) m).1 + (psn c (lst c n0 n1) m).2 ∧ lst c n0 n1 (psn c (lst c n0 n1) m).1 (psn c (lst c n0 n1) m).2 < 1000000000
theorem onW_0 (hf : lst c n0 n1 0 0 < 1000000000) : onW c n0 n1 0 := ⟨Nat.zero_le _, Nat.zero_le _, Nat.zero_le _, hf⟩
theorem onW_s (o : okC c n0 n1) (h0 : n0 ≤ 20) (h1 : n1 ≤ 20) {m : Nat} (w : onW c n0 n1 m) (hne : (psn c (lst c n0 n1) m).1 < n0 ∨ (psn c (lst c n0 n1) m).2 < n1) : onW c n0 n1 (m + 1) := by
  obtain ⟨a, b, d, e⟩ := w
  have := bK_step o h0 h1 a b e hne
  have l := lrS (bK c (lst c n0 n1) (psn c (lst c n0 n1) m).1 (psn c (lst c n0 n1) m).2)
  exact ⟨this.2.1, this.2.2.1, by show m + 1 ≤ (_ + lS _) + (_ + rS _); omega, this.2.2.2.1⟩
/-- how many joints the best way has -/
def jN (c : Nat → Nat → Nat → Int) (n0 n1 : Nat) : Nat := if lst c n0 n1 0 0 < 1000000000 then jnF c (lst c n0 n1) n0 n1 40 0 else 0
theorem jnF_spec (o : okC c n0 n1) (h0 : n0 ≤ 20) (h1 : n1 ≤ 20) : ∀ (d m : Nat), m + d = 40 → onW c n0 n1 m → m ≤ jnF c (lst c n0 n1) n0 n1 d m ∧ jnF c (lst c n0 n1) n0 n1 d m ≤ 40 ∧ (∀ x, m ≤ x → x < jnF c (lst c n0 n1) n0 n1 d m → onW c n0 n1 x ∧ ((psn c (lst c n0 n1) x).1 < n0 ∨ (psn c (lst c n0 n1) x).2 < n1)) ∧ psn c (lst c n0 n1) (jnF c (lst c n0 n1) n0 n1 d m) = (n0, n1)
  | 0, m => fun hm w => by
    have e : psn c (lst c n0 n1) m = (n0, n1) := Prod.ext (by have := w.1; have := w.2.1; have := w.2.2.1; show _ = n0; omega) (by have := w.1; have := w.2.1; have := w.2.2.1; show _ = n1; omega)
    exact ⟨Nat.le_refl m, by show m ≤ 40; omega, fun x a b => absurd b (by show ¬ x < m; omega), e⟩
  | d + 1, m => fun hm w => by
    show m ≤ (if (psn c (lst c n0 n1) m).1 < n0 ∨ (psn c (lst c n0 n1) m).2 < n1 then jnF c (lst c n0 n1) n0 n1 d (m + 1) else m) ∧ (if (psn c (lst c n0 n1) m).1 < n0 ∨ (psn c (lst c n0 n1) m).2 < n1 then jnF c (lst c n0 n1) n0 n1 d (m + 1) else m) ≤ 40 ∧ (∀ x, m ≤ x → x < (if (psn c (lst c n0 n1) m).1 < n0 ∨ (psn c (lst c n0 n1) m).2 < n1 then jnF c (lst c n0 n1) n0 n1 d (m + 1) else m) → onW c n0 n1 x ∧ ((psn c (lst c n0 n1) x).1 < n0 ∨ (psn c (lst c n0 n1) x).2 < n1)) ∧ psn c (lst c n0 n1) (if (psn c (lst c n0 n1) m).1 < n0 ∨ (psn c (lst c n0 n1) m).2 < n1 then jnF c (lst c n0 n1) n0 n1 d (m + 1) else m) = (n0, n1)
    by_cases q : (psn c (lst c n0 n1) m).1 < n0 ∨ (psn c (lst c n0 n1) m).2 < n1
    · rw [if_pos q]
      have ih := jnF_spec o h0 h1 d (m + 1) (by omega) (onW_s o h0 h1 w q)
      refine ⟨by omega, ih.2.1, fun x a b => ?_, ih.2.2.2⟩
      by_cases e : x = m
      · subst e; exact ⟨w, q⟩
      · exact ih.2.2.1 x (by omega) b
    · rw [if_neg q]
      have e : psn c (lst c n0 n1) m = (n0, n1) := Prod.ext (by have := w.1; have := w.2.1; show _ = n0; omega) (by have := w.1; have := w.2.1; show _ = n1; omega)
      exact ⟨Nat.le_refl m, by omega, fun x a b => by omega, e⟩
theorem jN_le (o : okC c n0 n1) (h0 : n0 ≤ 20) (h1 : n1 ≤ 20) : jN c n0 n1 ≤ 40 := by
  unfold jN
  split
  · rename_i q; exact (jnF_spec o h0 h1 40 0 (by omega) (onW_0 q)).2.1
  · omega
theorem jN_on (o : okC c n0 n1) (h0 : n0 ≤ 20) (h1 : n1 ≤ 20) {m : Nat} (hm : m < jN c n0 n1) : onW c n0 n1 m ∧ ((psn c (lst c n0 n1) m).1 < n0 ∨ (psn c (lst c n0 n1) m).2 < n1) := by
  unfold jN at hm
  by_cases q : lst c n0 n1 0 0 < 1000000000
  · rw [if_pos q] at hm
    exact (jnF_spec o h0 h1 40 0 (by omega) (onW_0 q)).2.2.1 m (Nat.zero_le m) hm
  · rw [if_neg q] at hm; omega
theorem jN_end (o : okC c n0 n1) (h0 : n0 ≤ 20) (h1 : n1 ≤ 20) (q : lst c n0 n1 0 0 < 1000000000) : psn c (lst c n0 n1) (jN c n0 n1) = (n0, n1) := by
  unfold jN
  rw [if_pos q]
  exact (jnF_spec o h0 h1 40 0 (by omega) (onW_0 q)).2.2.2
/-- a joint of the best way -/
def jK (c : Nat → Nat → Nat → Int) (n0 n1 m : Nat) : Nat := bK c (lst c n0 n1) (psn c (lst c n0 n1) m).1 (psn c (lst c n0 n1) m).2
def jL (c : Nat → Nat → Nat → Int) (n0 n1 m : Nat) : Nat := (psn c (lst c n0 n1) m).1
def jR (c : Nat → Nat → Nat → Int) (n0 n1 m : Nat) : Nat := (psn c (lst c n0 n1) m).2
theorem jN_ok (o : okC c n0 n1) (h0 : n0 ≤ 20) (h1 : n1 ≤ 20) {m : Nat} (hm : m < jN c n0 n1) : jK c n0 n1 m < 7 ∧ jL c n0 n1 m + lS (jK c n0 n1 m) ≤ n0 ∧ jR c n0 n1 m + rS (jK c n0 n1 m) ≤ n1 ∧ c (jK c n0 n1 m) (jL c n0 n1 m) (jR c n0 n1 m) < 1000000000 := by
  obtain ⟨w, hne⟩ := jN_on o h0 h1 hm
  have := bK_step o h0 h1 w.1 w.2.1 w.2.2.2 hne
  exact ⟨bK_lt _ _ _, this.2.1, this.2.2.1, this.1⟩
end LT
