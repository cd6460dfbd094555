/-! ===== the least sum of all ways but the best: the reference's table, the class's search ===== -/
def bB (c : Nat → Nat → Nat → Int) (T N : Nat → Nat → Int) (k i j : Nat) : Int := if sB c T k i j < 1000000000 then (if N (i + lS k) (j + rS k) < 1000000000 then c k i j + N (i + lS k) (j + rS k) else 1000000000) else 1000000000
def f2 (a b : Nat → Int) (e : Int) : Nat → Int × Int
  | 0 => (e, 1000000000)
  | k + 1 => if a k < 1000000000 then (if a k < (f2 a b e k).1 then (a k, if (f2 a b e k).1 < b k then (f2 a b e k).1 else b k) else ((f2 a b e k).1, if a k < (f2 a b e k).2 then a k else (f2 a b e k).2)) else f2 a b e k
theorem f2_congr {a b b' : Nat → Int} {e : Int} : ∀ {n : Nat}, (∀ k, k < n → b k = b' k) → f2 a b e n = f2 a b' e n
  | 0, _ => rfl
  | n + 1, h => by
    have ih := @f2_congr a b b' e n (fun k hk => h k (by omega))
    have hn := h n (by omega)
    unfold f2
    rw [ih, hn]
theorem f2_1 {a b : Nat → Int} {e : Int} (he : e ≤ 1000000000) : ∀ {n : Nat}, (f2 a b e n).1 = mnK a e n
  | 0 => rfl
  | n + 1 => by
    have ih := @f2_1 a b e he n
    have hm := (mnK_le (f := a) (a := e) (n := n)).1
    unfold f2
    show _ = if a n < mnK a e n then a n else mnK a e n
    by_cases q : a n < 1000000000
    · rw [if_pos q, ih]
      by_cases z : a n < mnK a e n
      · rw [if_pos z, if_pos z]
      · rw [if_neg z, if_neg z]
    · rw [if_neg q, if_neg (by omega)]; exact ih
theorem f2_mem {a b : Nat → Int} {e : Int} : ∀ {n : Nat}, ((f2 a b e n).1 = e ∨ ∃ k, k < n ∧ (f2 a b e n).1 = a k) ∧ ((f2 a b e n).2 = 1000000000 ∨ (f2 a b e n).2 = e ∨ (∃ k, k < n ∧ (f2 a b e n).2 = a k) ∨ ∃ k, k < n ∧ a k < 1000000000 ∧ (f2 a b e n).2 = b k)
  | 0 => ⟨Or.inl rfl, Or.inl rfl⟩
  | n + 1 => by
    obtain ⟨i1, i2⟩ := @f2_mem a b e n
    have w1 : (f2 a b e n).1 = e ∨ ∃ k, k < n + 1 ∧ (f2 a b e n).1 = a k := by
      rcases i1 with q | ⟨k, hk, q⟩
      · exact Or.inl q
      · exact Or.inr ⟨k, by omega, q⟩
    have w2 : (f2 a b e n).2 = 1000000000 ∨ (f2 a b e n).2 = e ∨ (∃ k, k < n + 1 ∧ (f2 a b e n).2 = a k) ∨ ∃ k, k < n + 1 ∧ a k < 1000000000 ∧ (f2 a b e n).2 = b k := by
      rcases i2 with q | q | ⟨k, hk, q⟩ | ⟨k, hk, q⟩
      · exact Or.inl q
      · exact Or.inr (Or.inl q)
      · exact Or.inr (Or.inr (Or.inl ⟨k, by omega, q⟩))
      · exact Or.inr (Or.inr (Or.inr ⟨k, by omega, q⟩))
    unfold f2
    by_cases q : a n < 1000000000
    · rw [if_pos q]
      by_cases z : a n < (f2 a b e n).1
      · rw [if_pos z]
        refine ⟨Or.inr ⟨n, by omega, rfl⟩, ?_⟩
        show (if (f2 a b e n).1 < b n then (f2 a b e n).1 else b n) = _ ∨ (if (f2 a b e n).1 < b n then (f2 a b e n).1 else b n) = _ ∨ (∃ k, k < n + 1 ∧ (if (f2 a b e n).1 < b n then (f2 a b e n).1 else b n) = a k) ∨ ∃ k, k < n + 1 ∧ a k < 1000000000 ∧ (if (f2 a b e n).1 < b n then (f2 a b e n).1 else b n) = b k
        by_cases y : (f2 a b e n).1 < b n
        · rw [if_pos y]
          rcases w1 with u | u
          · exact Or.inr (Or.inl u)
          · exact Or.inr (Or.inr (Or.inl u))
        · rw [if_neg y]; exact Or.inr (Or.inr (Or.inr ⟨n, by omega, q, rfl⟩))
      · rw [if_neg z]
        refine ⟨w1, ?_⟩
        show (if a n < (f2 a b e n).2 then a n else (f2 a b e n).2) = _ ∨ (if a n < (f2 a b e n).2 then a n else (f2 a b e n).2) = _ ∨ (∃ k, k < n + 1 ∧ (if a n < (f2 a b e n).2 then a n else (f2 a b e n).2) = a k) ∨ ∃ k, k < n + 1 ∧ a k < 1000000000 ∧ (if a n < (f2 a b e n).2 then a n else (f2 a b e n).2) = b k
        by_cases y : a n < (f2 a b e n).2
        · rw [if_pos y]; exact Or.inr (Or.inr (Or.inl ⟨n, by omega, rfl⟩))
        · rw [if_neg y]; exact w2
    · rw [if_neg q]; exact ⟨w1, w2⟩
def mn2 (x y : Int) : Int := if y < x then y else x
def adF (a x : Int) : Int := if x < 1000000000 then a + x else 1000000000
/-- but for the one at s -/
def wo (a : Nat → Int) (s : Nat) : Nat → Int := fun k => if k = s then 1000000000 else a k
theorem f2_spec {a b : Nat → Int} (ha : ∀ k, a k ≤ 1000000000) (hb : ∀ k, b k ≤ 1000000000) (hab : ∀ k, a k ≤ b k) : ∀ n, (mnK a 1000000000 n = 1000000000 ∧ (f2 a b 1000000000 n).2 = 1000000000) ∨ ∃ s, s < n ∧ a s = mnK a 1000000000 n ∧ a s < 1000000000 ∧ (∀ x, x < s → a x ≠ a s) ∧ (f2 a b 1000000000 n).2 = mn2 (b s) (mnK (wo a s) 1000000000 n)
  | 0 => Or.inl ⟨rfl, rfl⟩
  | n + 1 => by
    have e1 := @f2_1 a b 1000000000 (by omega) n
    have em : mnK a 1000000000 (n + 1) = if a n < mnK a 1000000000 n then a n else mnK a 1000000000 n := rfl
    have ef : f2 a b 1000000000 (n + 1) = if a n < 1000000000 then (if a n < (f2 a b 1000000000 n).1 then (a n, if (f2 a b 1000000000 n).1 < b n then (f2 a b 1000000000 n).1 else b n) else ((f2 a b 1000000000 n).1, if a n < (f2 a b 1000000000 n).2 then a n else (f2 a b 1000000000 n).2)) else f2 a b 1000000000 n := rfl
    have hm := (mnK_le (f := a) (a := 1000000000) (n := n))
    have han := ha n
    have hbn := hb n
    by_cases q : a n < mnK a 1000000000 n
    · refine Or.inr ⟨n, by omega, by rw [em, if_pos q], by omega, fun x hx => ?_, ?_⟩
      · have := hm.2 x hx; omega
      · rw [ef, if_pos (by omega), e1, if_pos q]
        have w1 : mnK (wo a n) 1000000000 (n + 1) = mnK a 1000000000 n := by
          show (if wo a n n < mnK (wo a n) 1000000000 n then wo a n n else mnK (wo a n) 1000000000 n) = _
          have : mnK (wo a n) 1000000000 n = mnK a 1000000000 n := mnK_congr (fun k hk => if_neg (by omega))
          rw [this, show wo a n n = 1000000000 from if_pos rfl, if_neg (by omega)]
        rw [w1]
        show (if mnK a 1000000000 n < b n then mnK a 1000000000 n else b n) = mn2 (b n) (mnK a 1000000000 n)
        rfl
    · rcases f2_spec ha hb hab n with ⟨i1, i2⟩ | ⟨s, hs, i1, i2, i3, i4⟩
      · left
        rw [em, if_neg q, ef, if_neg (by omega)]
        exact ⟨i1, i2⟩
      · right
        refine ⟨s, by omega, by rw [em, if_neg q]; exact i1, i2, i3, ?_⟩
        have w1 : mnK (wo a s) 1000000000 (n + 1) = if a n < mnK (wo a s) 1000000000 n then a n else mnK (wo a s) 1000000000 n := by
          show (if wo a s n < mnK (wo a s) 1000000000 n then wo a s n else mnK (wo a s) 1000000000 n) = _
          rw [show wo a s n = a n from if_neg (by omega)]
        have hw := (mnK_le (f := wo a s) (a := 1000000000) (n := n)).1
        rw [ef, w1]
        by_cases z : a n < 1000000000
        · rw [if_pos z, e1, if_neg q]
          show (if a n < (f2 a b 1000000000 n).2 then a n else (f2 a b 1000000000 n).2) = _
          rw [i4]
          unfold mn2
          repeat' split
          all_goals omega
        · rw [if_neg z, i4, if_neg (by omega)]
section NT
variable {c : Nat → Nat → Nat → Int} {n0 n1 : Nat}
def nT (c : Nat → Nat → Nat → Int) (n0 n1 : Nat) : Nat → Nat → Nat → Int
  | 0 => fun _ _ => 1000000000
  | f + 1 => fun i j => (f2 (fun k => sB c (lst c n0 n1) k i j) (fun k => bB c (lst c n0 n1) (nT c n0 n1 f) k i j) (enT n0 n1 i j) 7).2
theorem f2_none {a b : Nat → Int} {e : Int} : ∀ {n : Nat}, (∀ k, k < n → a k = 1000000000) → f2 a b e n = (e, 1000000000)
  | 0, _ => rfl
  | n + 1, h => by
    unfold f2
    rw [if_neg (by rw [h n (by omega)]; omega)]
    exact f2_none (fun k hk => h k (by omega))
theorem nT_stable (o : okC c n0 n1) : ∀ (f i j : Nat), i ≤ n0 → j ≤ n1 → (n0 - i) + (n1 - j) ≤ f → nT c n0 n1 (f + 1) i j = nT c n0 n1 f i j := by
  intro f
  induction f with
  | zero =>
    intro i j hi hj hf
    show (f2 (fun k => sB c (lst c n0 n1) k i j) _ (enT n0 n1 i j) 7).2 = 1000000000
    rw [f2_none (fun k _ => sB_far (o.far (by have := lrS k; omega)))]
  | succ f ih =>
    intro i j hi hj hf
    show (f2 (fun k => sB c (lst c n0 n1) k i j) (fun k => bB c (lst c n0 n1) (nT c n0 n1 (f + 1)) k i j) (enT n0 n1 i j) 7).2 = (f2 (fun k => sB c (lst c n0 n1) k i j) (fun k => bB c (lst c n0 n1) (nT c n0 n1 f) k i j) (enT n0 n1 i j) 7).2
    refine congrArg Prod.snd (f2_congr (fun k hk => ?_))
    rcases o k i j with q | q
    · unfold bB; rw [sB_far q]; rfl
    · have := lrS k
      unfold bB
      rw [ih (i + lS k) (j + rS k) q.2.2.1 q.2.2.2 (by omega)]
def nxt (c : Nat → Nat → Nat → Int) (n0 n1 : Nat) : Nat → Nat → Int := nT c n0 n1 40
theorem nxt_eq (o : okC c n0 n1) (h0 : n0 ≤ 20) (h1 : n1 ≤ 20) {i j : Nat} (hi : i ≤ n0) (hj : j ≤ n1) : nxt c n0 n1 i j = (f2 (fun k => sB c (lst c n0 n1) k i j) (fun k => bB c (lst c n0 n1) (nxt c n0 n1) k i j) (enT n0 n1 i j) 7).2 := by
  have := nT_stable o 40 i j hi hj (by omega)
  unfold nxt
  rw [← this]
  rfl
theorem nT_bd (o : okC c n0 n1) (h0 : n0 ≤ 20) (h1 : n1 ≤ 20) : ∀ (f i j : Nat), i ≤ n0 → j ≤ n1 → nT c n0 n1 f i j = 1000000000 ∨ (-5000 - 90 * (((n0 - i) + (n1 - j) : Nat) : Int) ≤ nT c n0 n1 f i j ∧ nT c n0 n1 f i j ≤ 54000 + 1300 * (((n0 - i) + (n1 - j) : Nat) : Int)) := by
  intro f
  induction f with
  | zero => intro i j hi hj; left; rfl
  | succ f ih =>
    intro i j hi hj
    show (f2 (fun k => sB c (lst c n0 n1) k i j) (fun k => bB c (lst c n0 n1) (nT c n0 n1 f) k i j) (enT n0 n1 i j) 7).2 = _ ∨ (_ ≤ (f2 (fun k => sB c (lst c n0 n1) k i j) (fun k => bB c (lst c n0 n1) (nT c n0 n1 f) k i j) (enT n0 n1 i j) 7).2 ∧ (f2 (fun k => sB c (lst c n0 n1) k i j) (fun k => bB c (lst c n0 n1) (nT c n0 n1 f) k i j) (enT n0 n1 i j) 7).2 ≤ _)
    rcases (f2_mem (a := fun k => sB c (lst c n0 n1) k i j) (b := fun k => bB c (lst c n0 n1) (nT c n0 n1 f) k i j) (e := enT n0 n1 i j) (n := 7)).2 with q | q | ⟨k, hk, q⟩ | ⟨k, hk, hk2, q⟩
    · left; exact q
    · rw [q]
      unfold enT
      split
      · right; omega
      · left; rfl
    · rw [q]
      (try dsimp only)
      rcases sB_bd o h0 h1 (k := k) (i := i) (j := j) with z | z
      · left; exact z
      · right; omega
    · rw [q]
      (try dsimp only at hk2 ⊢)
      obtain ⟨g1, g2, g3⟩ := sB_lt hk2
      unfold bB
      rw [if_pos hk2]
      rcases o k i j with y | y
      · omega
      · have := lrS k
        rcases ih (i + lS k) (j + rS k) y.2.2.1 y.2.2.2 with z | z
        · rw [z]; left; rfl
        · by_cases x : nT c n0 n1 f (i + lS k) (j + rS k) < 1000000000
          · rw [if_pos x]; right; omega
          · rw [if_neg x]; left; rfl
theorem nxt_bd (o : okC c n0 n1) (h0 : n0 ≤ 20) (h1 : n1 ≤ 20) {i j : Nat} (hi : i ≤ n0) (hj : j ≤ n1) : nxt c n0 n1 i j = 1000000000 ∨ (-9000 ≤ nxt c n0 n1 i j ∧ nxt c n0 n1 i j ≤ 110000) := by
  rcases nT_bd o h0 h1 40 i j hi hj with q | q
  · exact Or.inl q
  · right
    unfold nxt
    omega
theorem nxt_ge (o : okC c n0 n1) (h0 : n0 ≤ 20) (h1 : n1 ≤ 20) : ∀ (d i j : Nat), i ≤ n0 → j ≤ n1 → (n0 - i) + (n1 - j) ≤ d → lst c n0 n1 i j ≤ nxt c n0 n1 i j := by
  intro d
  induction d with
  | zero =>
    intro i j hi hj hd
    rw [nxt_eq o h0 h1 hi hj, f2_none (fun k _ => sB_far (o.far (by have := lrS k; omega)))]
    rcases lst_bd o h0 h1 hi hj with q | q <;> show lst c n0 n1 i j ≤ 1000000000 <;> omega
  | succ d ih =>
    intro i j hi hj hd
    have e := lst_eq o h0 h1 hi hj
    have hl := mnK_le (f := fun k => sB c (lst c n0 n1) k i j) (a := enT n0 n1 i j) (n := 7)
    rw [← e] at hl
    rw [nxt_eq o h0 h1 hi hj]
    rcases (f2_mem (a := fun k => sB c (lst c n0 n1) k i j) (b := fun k => bB c (lst c n0 n1) (nxt c n0 n1) k i j) (e := enT n0 n1 i j) (n := 7)).2 with q | q | ⟨k, hk, q⟩ | ⟨k, hk, hk2, q⟩
    · rw [q]; rcases lst_bd o h0 h1 hi hj with z | z <;> omega
    · rw [q]; exact hl.1
    · rw [q]; exact hl.2 k hk
    · rw [q]
      have := hl.2 k hk
      (try dsimp only at this hk2 ⊢)
      obtain ⟨g1, g2, g3⟩ := sB_lt hk2
      unfold bB
      rw [if_pos hk2]
      rcases o k i j with y | y
      · omega
      · have l := lrS k
        have g4 := ih (i + lS k) (j + rS k) y.2.2.1 y.2.2.2 (by omega)
        split
        · omega
        · omega
theorem bB_ge (o : okC c n0 n1) (h0 : n0 ≤ 20) (h1 : n1 ≤ 20) (k i j : Nat) : sB c (lst c n0 n1) k i j ≤ bB c (lst c n0 n1) (nxt c n0 n1) k i j ∧ bB c (lst c n0 n1) (nxt c n0 n1) k i j ≤ 1000000000 ∧ sB c (lst c n0 n1) k i j ≤ 1000000000 := by
  have hs := sB_bd o h0 h1 (k := k) (i := i) (j := j)
  by_cases z : sB c (lst c n0 n1) k i j < 1000000000
  · obtain ⟨g1, g2, g3⟩ := sB_lt z
    rcases o k i j with y | y
    · omega
    · have g4 := nxt_ge o h0 h1 _ (i + lS k) (j + rS k) y.2.2.1 y.2.2.2 (Nat.le_refl _)
      have g5 := nxt_bd o h0 h1 y.2.2.1 y.2.2.2
      unfold bB
      rw [if_pos z]
      split <;> omega
  · unfold bB
    rw [if_neg z]
    omega
theorem nxt_far (o : okC c n0 n1) (h0 : n0 ≤ 20) (h1 : n1 ≤ 20) {i j : Nat} (hi : i ≤ n0) (hj : j ≤ n1) (hT : lst c n0 n1 i j = 1000000000) : nxt c n0 n1 i j = 1000000000 := by
  have e := lst_eq o h0 h1 hi hj
  have hl := mnK_le (f := fun k => sB c (lst c n0 n1) k i j) (a := enT n0 n1 i j) (n := 7)
  rw [← e] at hl
  rw [nxt_eq o h0 h1 hi hj, f2_none (fun k hk => by
    have := hl.2 k hk
    have := (bB_ge o h0 h1 k i j).2.2
    (try dsimp only at *)
    omega)]
theorem nxt_end (o : okC c n0 n1) (h0 : n0 ≤ 20) (h1 : n1 ≤ 20) : nxt c n0 n1 n0 n1 = 1000000000 := by
  rw [nxt_eq o h0 h1 (Nat.le_refl _) (Nat.le_refl _), f2_none (fun k _ => sB_far (o.far (by have := lrS k; omega)))]
theorem nxt_step (o : okC c n0 n1) (h0 : n0 ≤ 20) (h1 : n1 ≤ 20) {i j : Nat} (hi : i ≤ n0) (hj : j ≤ n1) (hT : lst c n0 n1 i j < 1000000000) (hne : i < n0 ∨ j < n1) : nxt c n0 n1 i j = mn2 (adF (c (bK c (lst c n0 n1) i j) i j) (nxt c n0 n1 (i + lS (bK c (lst c n0 n1) i j)) (j + rS (bK c (lst c n0 n1) i j)))) (mnK (wo (fun k => sB c (lst c n0 n1) k i j) (bK c (lst c n0 n1) i j)) 1000000000 7) := by
  have e := lst_eq o h0 h1 hi hj
  have en : enT n0 n1 i j = 1000000000 := if_neg (by omega)
  have eb := bK_ok o h0 h1 hi hj hT hne
  have hsp := fK_spec (f := fun k => sB c (lst c n0 n1) k i j) (v := lst c n0 n1 i j) 6 0
  rw [en] at e
  rw [nxt_eq o h0 h1 hi hj, en]
  rcases f2_spec (a := fun k => sB c (lst c n0 n1) k i j) (b := fun k => bB c (lst c n0 n1) (nxt c n0 n1) k i j) (fun k => (bB_ge o h0 h1 k i j).2.2) (fun k => (bB_ge o h0 h1 k i j).2.1) (fun k => (bB_ge o h0 h1 k i j).1) 7 with ⟨q, -⟩ | ⟨s, hs, q1, q2, q3, q4⟩
  · rw [← e] at q; omega
  · rw [← e] at q1
    have es : s = bK c (lst c n0 n1) i j := by
      rcases Nat.lt_trichotomy s (bK c (lst c n0 n1) i j) with z | z | z
      · exact absurd q1 (hsp.2.2.1 s (Nat.zero_le s) z)
      · exact z
      · exact absurd (eb.trans q1.symm) (q3 _ z)
    rw [q4, es]
    have e9 : bB c (lst c n0 n1) (nxt c n0 n1) (bK c (lst c n0 n1) i j) i j = adF (c (bK c (lst c n0 n1) i j) i j) (nxt c n0 n1 (i + lS (bK c (lst c n0 n1) i j)) (j + rS (bK c (lst c n0 n1) i j))) := by
      unfold bB adF
      rw [if_pos (by rw [eb]; exact hT)]
    rw [← e9]
/-- the class's search: over the kinds at one joint, over the joints -/
def zI (z A : Int) (a : Nat → Int) (s : Nat) : Nat → Int
  | 0 => z
  | q + 1 => if q = s then zI z A a s q else if a q < 1000000000 then (if A + a q < zI z A a s q then A + a q else zI z A a s q) else zI z A a s q
def aS (c : Nat → Nat → Nat → Int) (n0 n1 : Nat) : Nat → Int
  | 0 => 0
  | m + 1 => aS c n0 n1 m + c (jK c n0 n1 m) (jL c n0 n1 m) (jR c n0 n1 m)
def zO (c : Nat → Nat → Nat → Int) (n0 n1 : Nat) : Nat → Int
  | 0 => 1000000000
  | m + 1 => zI (zO c n0 n1 m) (aS c n0 n1 m) (fun k => sB c (lst c n0 n1) k (jL c n0 n1 m) (jR c n0 n1 m)) (jK c n0 n1 m) 7
theorem zI_eq {z A : Int} {a : Nat → Int} {s : Nat} (hz : z ≤ 1000000000) (hA : -5000 ≤ A ∧ A ≤ 60000) (ha : ∀ k, a k = 1000000000 ∨ (-5000 ≤ a k ∧ a k ≤ 60000)) : ∀ n, zI z A a s n = mn2 z (adF A (mnK (wo a s) 1000000000 n)) ∧ (mnK (wo a s) 1000000000 n = 1000000000 ∨ (-5000 ≤ mnK (wo a s) 1000000000 n ∧ mnK (wo a s) 1000000000 n ≤ 60000))
  | 0 => ⟨by show z = mn2 z (adF A 1000000000); unfold mn2 adF; rw [if_neg (by omega)], Or.inl rfl⟩
  | n + 1 => by
    obtain ⟨i1, i2⟩ := zI_eq hz hA ha n (s := s)
    have em : mnK (wo a s) 1000000000 (n + 1) = if wo a s n < mnK (wo a s) 1000000000 n then wo a s n else mnK (wo a s) 1000000000 n := rfl
    have han := ha n
    have ez : zI z A a s (n + 1) = if n = s then zI z A a s n else if a n < 1000000000 then (if A + a n < zI z A a s n then A + a n else zI z A a s n) else zI z A a s n := rfl
    rw [em, ez]
    by_cases e : n = s
    · rw [if_pos e, show wo a s n = 1000000000 from if_pos e, if_neg (by omega)]
      exact ⟨i1, i2⟩
    · rw [if_neg e, show wo a s n = a n from if_neg e, i1]
      generalize mnK (wo a s) 1000000000 n = m at *
      unfold mn2 adF
      refine ⟨?_, by split <;> omega⟩
      repeat' split
      all_goals omega
theorem aS_bd (o : okC c n0 n1) (h0 : n0 ≤ 20) (h1 : n1 ≤ 20) : ∀ m, m ≤ jN c n0 n1 → -90 * (m : Int) ≤ aS c n0 n1 m ∧ aS c n0 n1 m ≤ 1300 * (m : Int)
  | 0 => fun _ => by show -90 * ((0 : Nat) : Int) ≤ 0 ∧ (0 : Int) ≤ 1300 * ((0 : Nat) : Int); omega
  | m + 1 => fun hm => by
    have ih := aS_bd o h0 h1 m (by omega)
    have hc := (jN_ok o h0 h1 (m := m) (by omega)).2.2.2
    have := o (jK c n0 n1 m) (jL c n0 n1 m) (jR c n0 n1 m)
    show _ ≤ aS c n0 n1 m + _ ∧ aS c n0 n1 m + _ ≤ _
    omega
theorem zO_inv (o : okC c n0 n1) (h0 : n0 ≤ 20) (h1 : n1 ≤ 20) : ∀ m, m ≤ jN c n0 n1 → mn2 (zO c n0 n1 m) (adF (aS c n0 n1 m) (nxt c n0 n1 (psn c (lst c n0 n1) m).1 (psn c (lst c n0 n1) m).2)) = nxt c n0 n1 0 0 ∧ (zO c n0 n1 m = 1000000000 ∨ (-10000 ≤ zO c n0 n1 m ∧ zO c n0 n1 m ≤ 120000))
  | 0 => fun _ => by
    refine ⟨?_, Or.inl rfl⟩
    show mn2 1000000000 (adF 0 (nxt c n0 n1 0 0)) = _
    have := nxt_bd o h0 h1 (Nat.zero_le n0) (Nat.zero_le n1)
    unfold mn2 adF
    repeat' split
    all_goals omega
  | m + 1 => fun hm => by
    obtain ⟨i1, i2⟩ := zO_inv o h0 h1 m (by omega)
    obtain ⟨⟨w1, w2, w3, w4⟩, hne⟩ := jN_on o h0 h1 (m := m) (by omega)
    have hJ := jN_le o h0 h1
    have hA := aS_bd o h0 h1 m (by omega)
    have hA1 := aS_bd o h0 h1 (m + 1) hm
    have st := nxt_step o h0 h1 w1 w2 w4 hne
    have bs := bK_step o h0 h1 w1 w2 w4 hne
    have hz := zI_eq (z := zO c n0 n1 m) (A := aS c n0 n1 m) (a := fun k => sB c (lst c n0 n1) k (jL c n0 n1 m) (jR c n0 n1 m)) (s := jK c n0 n1 m) (by omega) (by omega) (fun k => by have := sB_bd o h0 h1 (k := k) (i := jL c n0 n1 m) (j := jR c n0 n1 m); (try dsimp only); omega) 7
    have hb := nxt_bd o h0 h1 bs.2.1 bs.2.2.1
    have ea : aS c n0 n1 (m + 1) = aS c n0 n1 m + c (bK c (lst c n0 n1) (psn c (lst c n0 n1) m).1 (psn c (lst c n0 n1) m).2) (psn c (lst c n0 n1) m).1 (psn c (lst c n0 n1) m).2 := rfl
    have ezo : zO c n0 n1 (m + 1) = zI (zO c n0 n1 m) (aS c n0 n1 m) (fun k => sB c (lst c n0 n1) k (jL c n0 n1 m) (jR c n0 n1 m)) (jK c n0 n1 m) 7 := rfl
    have ep : psn c (lst c n0 n1) (m + 1) = ((psn c (lst c n0 n1) m).1 + lS (bK c (lst c n0 n1) (psn c (lst c n0 n1) m).1 (psn c (lst c n0 n1) m).2), (psn c (lst c n0 n1) m).2 + rS (bK c (lst c n0 n1) (psn c (lst c n0 n1) m).1 (psn c (lst c n0 n1) m).2)) := rfl
    rw [st] at i1
    rw [ezo, ep]
    rw [hz.1, ← i1]
    have hd := hz.2
    have ed : mnK (wo (fun k => sB c (lst c n0 n1) k (jL c n0 n1 m) (jR c n0 n1 m)) (jK c n0 n1 m)) 1000000000 7 = mnK (wo (fun k => sB c (lst c n0 n1) k (psn c (lst c n0 n1) m).1 (psn c (lst c n0 n1) m).2) (bK c (lst c n0 n1) (psn c (lst c n0 n1) m).1 (psn c (lst c n0 n1) m).2)) 1000000000 7 := rfl
    rw [ed] at hd ⊢
    (try dsimp only)
    generalize mnK (wo (fun k => sB c (lst c n0 n1) k (psn c (lst c n0 n1) m).1 (psn c (lst c n0 n1) m).2) (bK c (lst c n0 n1) (psn c (lst c n0 n1) m).1 (psn c (lst c n0 n1) m).2)) 1000000000 7 = dv at *
    generalize nxt c n0 n1 ((psn c (lst c n0 n1) m).1 + lS (bK c (lst c n0 n1) (psn c (lst c n0 n1) m).1 (psn c (lst c n0 n1) m).2)) ((psn c (lst c n0 n1) m).2 + rS (bK c (lst c n0 n1) (psn c (lst c n0 n1) m).1 (psn c (lst c n0 n1) m).2)) = N' at *
    rw [ea] at hA1 ⊢
    generalize c (bK c (lst c n0 n1) (psn c (lst c n0 n1) m).1 (psn c (lst c n0 n1) m).2) (psn c (lst c n0 n1) m).1 (psn c (lst c n0 n1) m).2 = cc at *
    generalize zO c n0 n1 m = Z at *
    generalize aS c n0 n1 m = A at *
    clear i1 st bs hz ea ezo ep ed
    have e1 : mn2 (mn2 Z (adF A dv)) (adF (A + cc) N') = mn2 Z (adF A (mn2 (adF cc N') dv)) := by
      unfold mn2 adF
      repeat' split
      all_goals omega
    have e2 : mn2 Z (adF A dv) = 1000000000 ∨ (-10000 ≤ mn2 Z (adF A dv) ∧ mn2 Z (adF A dv) ≤ 120000) := by
      unfold mn2 adF
      repeat' split
      all_goals omega
    exact ⟨e1, e2⟩
theorem zO_nxt (o : okC c n0 n1) (h0 : n0 ≤ 20) (h1 : n1 ≤ 20) : zO c n0 n1 (jN c n0 n1) = nxt c n0 n1 0 0 := by
  by_cases q : lst c n0 n1 0 0 < 1000000000
  · have h := zO_inv o h0 h1 (jN c n0 n1) (Nat.le_refl _)
    rw [jN_end o h0 h1 q] at h
    rw [← h.1]
    (try dsimp only)
    rw [nxt_end o h0 h1]
    have := h.2
    unfold mn2 adF
    rw [if_neg (by omega)]
  · have e : jN c n0 n1 = 0 := if_neg q
    have hb := lst_bd o h0 h1 (Nat.zero_le n0) (Nat.zero_le n1)
    rw [e, nxt_far o h0 h1 (Nat.zero_le _) (Nat.zero_le _) (by omega)]
    rfl
end NT
