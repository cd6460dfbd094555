/-! ===== a round: what is dealt, what the shares become ===== -/
def sN (sh : Sh) (a b : Nat) : Nat := (sh a b).toInt.toNat
def totN (sh : Sh) (B : Bk) (a j m : Nat) : Nat := sN sh a 40 + sm (fun s => sm (fun x => sN sh a (bWd B s x)) 0 (bWc B s)) j m
def qN (sh : Sh) (a b t : Nat) : Nat := 1048576 * sN sh a b / t
def adP (D : Nat → Nat → Nat) (a b v : Nat) : Nat → Nat → Nat := fun x y => if x = a ∧ y = b then D x y + v else D x y
def dlS (sh : Sh) (B : Bk) (t a s : Nat) (D : Nat → Nat → Nat) : Nat → Nat → Nat → Nat
  | 0 => D
  | k + 1 => adP (dlS sh B t a s D k) a (bWd B s k) (qN sh a (bWd B s k) t)
def dlR (sh : Sh) (B : Bk) (t a j : Nat) (D : Nat → Nat → Nat) : Nat → Nat → Nat → Nat
  | 0 => D
  | m + 1 => dlS sh B t a (j + m) (dlR sh B t a j D m) (bWc B (j + m))
def dlW (sh : Sh) (B : Bk) (a j m : Nat) (D : Nat → Nat → Nat) : Nat → Nat → Nat := if 0 < totN sh B a j m then adP (dlR sh B (totN sh B a j m) a j D m) a 40 (qN sh a 40 (totN sh B a j m)) else D
def dlL (sh : Sh) (A B : Bk) (s j m : Nat) (D : Nat → Nat → Nat) : Nat → Nat → Nat → Nat
  | 0 => D
  | k + 1 => dlW sh B (bWd A s k) j m (dlL sh A B s j m D k)
def dlB (sh : Sh) (A B : Bk) (i j m : Nat) (D : Nat → Nat → Nat) : Nat → Nat → Nat → Nat
  | 0 => D
  | n + 1 => dlL sh A B (i + n) j m (dlB sh A B i j m D n) (bWc A (i + n))
def dlJ (S : Ly) (k i j : Nat) (D : Nat → Nat → Nat) : Nat → Nat → Nat := if k = 6 then dlB S.2.2.2 (S.1 0) (S.1 1) (i + 1) j 1 (dlB S.2.2.2 (S.1 0) (S.1 1) i (j + 1) 1 D 1) 1 else if k = 1 ∨ k = 2 then D else dlB S.2.2.2 (S.1 0) (S.1 1) i j (rS k) D (lS k)
noncomputable def dlA (S : Ly) : Nat → Nat → Nat → Nat
  | 0 => fun _ _ => 0
  | m + 1 => dlJ S (JK S m) (JL S m) (JR S m) (dlA S m)
def allN (D : Nat → Nat → Nat) (n1 a : Nat) : Nat := D a 40 + sm (D a) 0 n1
noncomputable def rnd (S : Ly) (tm : Nat → Int32) : Sh := fun a b => if tm a = -1 then (if 0 < allN (dlA S (JN S)) (bNk (S.1 1)) a then nI (1048576 * dlA S (JN S) a b / allN (dlA S (JN S)) (bNk (S.1 1)) a) else S.2.2.2 a b) else if nI b = tm a then 1048576 else 0
theorem sN_in {x : Int32} (h : in20 x) : x = nI x.toInt.toNat ∧ x.toInt.toNat ≤ 1048576 := by
  have h1 := h.1
  have h2 := h.2
  refine ⟨?_, by omega⟩
  rw [ti_eq, nI_toInt (by omega)]
  omega
theorem sm_ge {f : Nat → Nat} {a : Nat} : ∀ {n i : Nat}, i < n → f (a + i) ≤ sm f a n
  | 0, i, h => by omega
  | n + 1, i, h => by
    show f (a + i) ≤ sm f a n + f (a + n)
    by_cases e : i = n
    · subst e; omega
    · have := @sm_ge f a n i (by omega); omega
section DL
variable {sh : Sh} {A B : Bk} {D : Nat → Nat → Nat} {M : Nat}
theorem totN_ge {a j m s x : Nat} (hs : j ≤ s) (hs2 : s < j + m) (hx : x < bWc B s) : sN sh a (bWd B s x) ≤ totN sh B a j m := by
  have h1 := sm_ge (f := fun x => sN sh a (bWd B s x)) (a := 0) hx
  have h2 := sm_ge (f := fun s => sm (fun x => sN sh a (bWd B s x)) 0 (bWc B s)) (a := j) (n := m) (i := s - j) (by omega)
  rw [show j + (s - j) = s by omega] at h2
  simp only [Nat.zero_add] at h1
  (try dsimp only at h2)
  unfold totN
  omega
theorem qN_le {a b t : Nat} (h0 : 0 < t) (h : sN sh a b ≤ t) : qN sh a b t ≤ 1048576 := by
  unfold qN
  apply Nat.div_le_of_le_mul
  rw [Nat.mul_comm t]
  exact Nat.mul_le_mul_left _ h
theorem adP_le {a b v : Nat} (h : ∀ x y, D x y ≤ M) : ∀ x y, adP D a b v x y ≤ M + v := fun x y => by
  have := h x y
  unfold adP
  split <;> omega
theorem dlS_le {t a s : Nat} (h : ∀ x y, D x y ≤ M) : ∀ k, (∀ x, x < k → qN sh a (bWd B s x) t ≤ 1048576) → ∀ x y, dlS sh B t a s D k x y ≤ M + k * 1048576
  | 0, _ => fun x y => by have := h x y; show D x y ≤ _; omega
  | k + 1, hq => fun x y => by
    have ih := dlS_le h k (fun x hx => hq x (by omega))
    have := adP_le (a := a) (b := bWd B s k) (v := qN sh a (bWd B s k) t) ih x y
    have h2 := hq k (by omega)
    show adP (dlS sh B t a s D k) a (bWd B s k) (qN sh a (bWd B s k) t) x y ≤ _
    omega
theorem dlR_le {t a j : Nat} (ok : okB B) (h : ∀ x y, D x y ≤ M) : ∀ m, j + m ≤ bNs B → (∀ s x, j ≤ s → s < j + m → x < bWc B s → qN sh a (bWd B s x) t ≤ 1048576) → ∀ x y, dlR sh B t a j D m x y ≤ M + m * 10485760
  | 0, _, _ => fun x y => by have := h x y; show D x y ≤ _; omega
  | m + 1, hm, hq => fun x y => by
    have ih := dlR_le ok h m (by omega) (fun s x a1 a2 a3 => hq s x a1 (by omega) a3)
    have := dlS_le (sh := sh) (B := B) (t := t) (a := a) (s := j + m) ih (bWc B (j + m)) (fun x hx => hq (j + m) x (by omega) (by omega) hx) x y
    have h2 := (ok.2.2.2.1 (j + m) (by omega)).2.1
    show dlS sh B t a (j + m) (dlR sh B t a j D m) (bWc B (j + m)) x y ≤ _
    omega
theorem dlW_le {a j m : Nat} (ok : okB B) (hj : j + m ≤ bNs B) (hm : m ≤ 2) (h : ∀ x y, D x y ≤ M) : ∀ x y, dlW sh B a j m D x y ≤ M + 22020096 := fun x y => by
  unfold dlW
  split
  · rename_i h0
    have h1 := dlR_le (sh := sh) (t := totN sh B a j m) (a := a) (j := j) ok h m hj (fun s x a1 a2 a3 => qN_le h0 (totN_ge a1 a2 a3))
    have h2 : qN sh a 40 (totN sh B a j m) ≤ 1048576 := qN_le h0 (by unfold totN; omega)
    have := adP_le (a := a) (b := 40) (v := qN sh a 40 (totN sh B a j m)) h1 x y
    omega
  · have := h x y; omega
theorem dlL_le {s j m : Nat} (ok : okB B) (hj : j + m ≤ bNs B) (hm : m ≤ 2) (h : ∀ x y, D x y ≤ M) : ∀ k x y, dlL sh A B s j m D k x y ≤ M + k * 22020096
  | 0 => fun x y => by have := h x y; show D x y ≤ _; omega
  | k + 1 => fun x y => by
    have ih := dlL_le (s := s) ok hj hm h k
    have := dlW_le (sh := sh) (a := bWd A s k) ok hj hm ih x y
    show dlW sh B (bWd A s k) j m (dlL sh A B s j m D k) x y ≤ _
    omega
theorem dlB_le {i j m : Nat} (okA : okB A) (ok : okB B) (hj : j + m ≤ bNs B) (hm : m ≤ 2) (h : ∀ x y, D x y ≤ M) : ∀ n, i + n ≤ bNs A → ∀ x y, dlB sh A B i j m D n x y ≤ M + n * 220200960
  | 0, _ => fun x y => by have := h x y; show D x y ≤ _; omega
  | n + 1, hn => fun x y => by
    have ih := dlB_le (i := i) okA ok hj hm h n (by omega)
    have := dlL_le (sh := sh) (A := A) (s := i + n) ok hj hm ih (bWc A (i + n)) x y
    have h2 := (okA.2.2.2.1 (i + n) (by omega)).2.1
    show dlL sh A B (i + n) j m (dlB sh A B i j m D n) (bWc A (i + n)) x y ≤ _
    have : bWc A (i + n) * 22020096 ≤ 10 * 22020096 := Nat.mul_le_mul_right _ h2
    omega
/-- nothing is dealt outside of the kinds -/
def zD (D : Nat → Nat → Nat) (n1 : Nat) : Prop := ∀ x y, n1 ≤ y → y ≠ 40 → D x y = 0
theorem zD.ad {n1 a b v : Nat} (z : zD D n1) (hb : b < n1 ∨ b = 40) : zD (adP D a b v) n1 := fun x y h1 h2 => by
  unfold adP
  rw [if_neg (by omega)]; exact z x y h1 h2
theorem zD.S {t a s : Nat} (z : zD D (bNk B)) : ∀ k, (∀ x, x < k → bWd B s x < bNk B) → zD (dlS sh B t a s D k) (bNk B)
  | 0, _ => z
  | k + 1, hk => (zD.S z k (fun x hx => hk x (by omega))).ad (Or.inl (hk k (by omega)))
theorem zD.R {t a j : Nat} (ok : okB B) (z : zD D (bNk B)) : ∀ m, j + m ≤ bNs B → zD (dlR sh B t a j D m) (bNk B)
  | 0, _ => z
  | m + 1, hm => (zD.R ok z m (by omega)).S _ (fun x hx => (ok.2.2.2.1 (j + m) (by omega)).2.2.2 x hx)
theorem zD.W {a j m : Nat} (ok : okB B) (hj : j + m ≤ bNs B) (z : zD D (bNk B)) : zD (dlW sh B a j m D) (bNk B) := by
  unfold dlW
  split
  · exact (z.R ok m hj).ad (Or.inr rfl)
  · exact z
theorem zD.L {s j m : Nat} (ok : okB B) (hj : j + m ≤ bNs B) (z : zD D (bNk B)) : ∀ k, zD (dlL sh A B s j m D k) (bNk B)
  | 0 => z
  | k + 1 => (zD.L ok hj z k).W ok hj
theorem zD.Bb {i j m : Nat} (ok : okB B) (hj : j + m ≤ bNs B) (z : zD D (bNk B)) : ∀ n, zD (dlB sh A B i j m D n) (bNk B)
  | 0 => z
  | n + 1 => (zD.Bb ok hj z n).L ok hj _
end DL
theorem add_le3 {a b M U : Nat} (h1 : a ≤ M + 1 * U) (h2 : b ≤ a + 1 * U) : b ≤ M + 2 * U := by omega
theorem dlJ_6 {S : Ly} {D : Nat → Nat → Nat} {M U i j : Nat} (hU : U = 220200960) (okA : okB (S.1 0)) (ok : okB (S.1 1)) (hi : i + 2 ≤ bNs (S.1 0)) (hj : j + 2 ≤ bNs (S.1 1)) (h : ∀ x y, D x y ≤ M) : ∀ x y, dlB S.2.2.2 (S.1 0) (S.1 1) (i + 1) j 1 (dlB S.2.2.2 (S.1 0) (S.1 1) i (j + 1) 1 D 1) 1 x y ≤ M + 2 * U := by
  have h1 := dlB_le (sh := S.2.2.2) (i := i) (j := j + 1) (m := 1) okA ok (by omega) (by decide) h 1 (by omega)
  have h2 := dlB_le (sh := S.2.2.2) (i := i + 1) (j := j) (m := 1) okA ok (by omega) (by decide) h1 1 (by omega)
  rw [← hU] at h2
  intro x y
  have := h2 x y
  omega
theorem dlJ_b {S : Ly} {D : Nat → Nat → Nat} {M U k i j : Nat} (hU : U = 220200960) (okA : okB (S.1 0)) (ok : okB (S.1 1)) (hi : i + lS k ≤ bNs (S.1 0)) (hj : j + rS k ≤ bNs (S.1 1)) (h : ∀ x y, D x y ≤ M) : ∀ x y, dlB S.2.2.2 (S.1 0) (S.1 1) i j (rS k) D (lS k) x y ≤ M + 2 * U := by
  have l2 := lS_le k
  have h1 := dlB_le (sh := S.2.2.2) (i := i) (j := j) (m := rS k) okA ok hj (rS_le k) h (lS k) hi
  rw [← hU] at h1
  intro x y
  have := h1 x y
  have h3 : lS k * U ≤ 2 * U := Nat.mul_le_mul_right _ l2
  omega
theorem dlJ_okU {S : Ly} {D : Nat → Nat → Nat} {M U k i j : Nat} (hU : U = 220200960) (okA : okB (S.1 0)) (ok : okB (S.1 1)) (hk : k < 7) (hi : i + lS k ≤ bNs (S.1 0)) (hj : j + rS k ≤ bNs (S.1 1)) (h : ∀ x y, D x y ≤ M) (z : zD D (bNk (S.1 1))) : (∀ x y, dlJ S k i j D x y ≤ M + 2 * U) ∧ zD (dlJ S k i j D) (bNk (S.1 1)) := by
  unfold dlJ
  by_cases e : k = 6
  · rw [if_pos e]
    subst e
    exact ⟨dlJ_6 hU okA ok hi hj h, (z.Bb ok (Nat.le_trans (show j + 1 + 1 ≤ j + rS 6 from Nat.le_refl _) hj) 1).Bb ok (Nat.le_trans (show j + 1 ≤ j + rS 6 from Nat.le_succ _) hj) 1⟩
  · rw [if_neg e]
    by_cases e2 : k = 1 ∨ k = 2
    · rw [if_pos e2]; exact ⟨fun x y => Nat.le_trans (h x y) (Nat.le_add_right _ _), z⟩
    · rw [if_neg e2]
      exact ⟨dlJ_b hU okA ok hi hj h, z.Bb ok hj _⟩
theorem dlJ_ok {S : Ly} {D : Nat → Nat → Nat} {M k i j : Nat} (okA : okB (S.1 0)) (ok : okB (S.1 1)) (hk : k < 7) (hi : i + lS k ≤ bNs (S.1 0)) (hj : j + rS k ≤ bNs (S.1 1)) (h : ∀ x y, D x y ≤ M) (z : zD D (bNk (S.1 1))) : (∀ x y, dlJ S k i j D x y ≤ M + 440401920) ∧ zD (dlJ S k i j D) (bNk (S.1 1)) := by
  obtain ⟨U, hU⟩ : ∃ U : Nat, U = 220200960 := ⟨_, rfl⟩
  have := dlJ_okU hU okA ok hk hi hj h z
  refine ⟨fun x y => ?_, this.2⟩
  have h3 := this.1 x y
  omega
theorem dlA_ok {S : Ly} (okA : okB (S.1 0)) (ok : okB (S.1 1)) : ∀ m, m ≤ JN S → (∀ x y, dlA S m x y ≤ m * 440401920) ∧ zD (dlA S m) (bNk (S.1 1))
  | 0, _ => ⟨fun x y => Nat.zero_le _, fun x y _ _ => rfl⟩
  | m + 1, hm => by
    have ih := dlA_ok okA ok m (by omega)
    obtain ⟨o1, o2, o3, o4⟩ := JN_ok (S := S) okA.1 ok.1 (m := m) (by omega)
    have := dlJ_ok (D := dlA S m) okA ok o1 o2 o3 ih.1 ih.2
    exact ⟨fun x y => by have := this.1 x y; show dlJ S (JK S m) (JL S m) (JR S m) (dlA S m) x y ≤ _; omega, this.2⟩
theorem dlA_bd {S : Ly} (okA : okB (S.1 0)) (ok : okB (S.1 1)) {m : Nat} (hm : m ≤ JN S) (x y : Nat) : dlA S m x y < 17616076800 + 1 := by
  have h1 := (dlA_ok okA ok m hm).1 x y
  have h2 := JN_le (S := S) okA.1 ok.1
  have : m * 440401920 ≤ 40 * 440401920 := Nat.mul_le_mul_right _ (by omega)
  omega
theorem allN_ge {D : Nat → Nat → Nat} {n1 a b : Nat} (hb : b < n1 ∨ b = 40) : D a b ≤ allN D n1 a := by
  unfold allN
  rcases hb with q | q
  · have := sm_ge (f := D a) (a := 0) q
    rw [Nat.zero_add] at this
    omega
  · subst q; omega
theorem allN_lt {S : Ly} (okA : okB (S.1 0)) (ok : okB (S.1 1)) (a : Nat) : allN (dlA S (JN S)) (bNk (S.1 1)) a < 1000000000000 := by
  have h1 := ok.2.1
  have h2 := dlA_bd okA ok (Nat.le_refl (JN S)) a 40
  have h3 : sm (dlA S (JN S) a) 0 (bNk (S.1 1)) ≤ bNk (S.1 1) * 17616076800 := sm_le (fun i _ => by have := dlA_bd okA ok (Nat.le_refl (JN S)) a (0 + i); omega)
  have : bNk (S.1 1) * 17616076800 ≤ 40 * 17616076800 := Nat.mul_le_mul_right _ h1
  unfold allN
  omega
theorem rnd_ok {S : Ly} {tm : Nat → Int32} (okA : okB (S.1 0)) (ok : okB (S.1 1)) (o : okS (bNk (S.1 0)) (bNk (S.1 1)) S.2.2.2 tm) : okS (bNk (S.1 0)) (bNk (S.1 1)) (rnd S tm) tm := by
  have key : ∀ a b, a < bNk (S.1 0) → (b < bNk (S.1 1) ∨ b = 40) → in20 (rnd S tm a b) := fun a b ha hb => by
    unfold rnd
    by_cases e : tm a = -1
    · rw [if_pos e]
      by_cases p : 0 < allN (dlA S (JN S)) (bNk (S.1 1)) a
      · rw [if_pos p]
        have h1 : 1048576 * dlA S (JN S) a b / allN (dlA S (JN S)) (bNk (S.1 1)) a ≤ 1048576 := by
          apply Nat.div_le_of_le_mul
          rw [Nat.mul_comm (allN _ _ _)]
          exact Nat.mul_le_mul_left _ (allN_ge hb)
        generalize 1048576 * dlA S (JN S) a b / allN (dlA S (JN S)) (bNk (S.1 1)) a = v at h1 ⊢
        unfold in20
        rw [nI_toInt (by omega)]
        omega
      · rw [if_neg p]
        rcases hb with q | q
        · exact (o.2.2 a ha).2.2 b q
        · subst q; exact (o.2.2 a ha).2.1
    · rw [if_neg e]
      unfold in20
      split
      · rw [t_1048576]; omega
      · rw [t_0]; omega
  exact ⟨o.1, o.2.1, fun a ha => ⟨(o.2.2 a ha).1, key a 40 ha (Or.inr rfl), fun b hb => key a b ha (Or.inl hb)⟩⟩
/-- whether there is a way does not hang on shares -/
theorem lT_iff {c c' : Nat → Nat → Nat → Int} {n0 n1 : Nat} (o : okC c n0 n1) (o' : okC c' n0 n1) (h0 : n0 ≤ 20) (h1 : n1 ≤ 20) (hc : ∀ k i j, c k i j < 1000000000 → c' k i j < 1000000000) : ∀ (f i j : Nat), i ≤ n0 → j ≤ n1 → lT c n0 n1 f i j < 1000000000 → lT c' n0 n1 f i j < 1000000000
  | 0, i, j, _, _, h => h
  | f + 1, i, j, hi, hj, h => by
    have h : mnK (fun k => sB c (lT c n0 n1 f) k i j) (enT n0 n1 i j) 7 < 1000000000 := h
    show mnK (fun k => sB c' (lT c' n0 n1 f) k i j) (enT n0 n1 i j) 7 < 1000000000
    have hl := mnK_le (f := fun k => sB c' (lT c' n0 n1 f) k i j) (a := enT n0 n1 i j) (n := 7)
    rcases mnK_mem (f := fun k => sB c (lT c n0 n1 f) k i j) (a := enT n0 n1 i j) (n := 7) with q | ⟨k, hk, q⟩
    · rw [q] at h; omega
    · rw [q] at h
      obtain ⟨g1, g2, g3⟩ := sB_lt h
      have g4 := hc k i j g1
      rcases o' k i j with y | y
      · omega
      · have g5 := lT_iff o o' h0 h1 hc f (i + lS k) (j + rS k) y.2.2.1 y.2.2.2 g2
        have g6 := lT_bd o' f (i + lS k) (j + rS k) y.2.2.1 y.2.2.2
        have g7 := hl.2 k hk
        have g8 : sB c' (lT c' n0 n1 f) k i j = c' k i j + lT c' n0 n1 f (i + lS k) (j + rS k) := by unfold sB; rw [if_pos g4, if_pos g5]
        (try dsimp only at g7)
        omega
theorem found_sh {S : Ly} (sh' : Sh) (h0 : bNs (S.1 0) ≤ 20) (h1 : bNs (S.1 1) ≤ 20) (h : LSs S 0 0 < 1000000000) : LSs (S.1, S.2.1, S.2.2.1, sh') 0 0 < 1000000000 := by
  refine lT_iff (cst_ok S) (cst_ok (S.1, S.2.1, S.2.2.1, sh')) h0 h1 (fun k i j hc => ?_) 40 0 0 (Nat.zero_le _) (Nat.zero_le _) h
  obtain ⟨m, e⟩ := cst_lt hc
  have hk : k < 7 := by
    rcases Nat.lt_or_ge k 7 with q | q
    · exact q
    · have : cst S k i j = 1000000000 := if_neg (fun z => by omega)
      omega
  have m' : mayP (S.1, S.2.1, S.2.2.1, sh') k i j := m
  rw [cst_y hk m']
  have := prcN_bd (S.1, S.2.1, S.2.2.1, sh') k i j
  omega
/-- n rounds -/
noncomputable def rnds (bk : Nat → Bk) (p : Pr) (kp : Bool) (tm : Nat → Int32) (sh : Sh) : Nat → Sh
  | 0 => sh
  | n + 1 => rnd (bk, p, kp, rnds bk p kp tm sh n) tm
theorem rnds_ok {bk : Nat → Bk} {p : Pr} {kp : Bool} {tm : Nat → Int32} {sh : Sh} (okA : okB (bk 0)) (ok : okB (bk 1)) (o : okS (bNk (bk 0)) (bNk (bk 1)) sh tm) : ∀ n, okS (bNk (bk 0)) (bNk (bk 1)) (rnds bk p kp tm sh n) tm
  | 0 => o
  | n + 1 => rnd_ok (S := (bk, p, kp, rnds bk p kp tm sh n)) okA ok (rnds_ok okA ok o n)
/-! ===== longs of naturals ===== -/
theorem lN_toI {n : Nat} (h : n < 4611686018427387904) : (lN n).toInt = (n : Int) := lg_ofNat_toInt (by omega)
theorem lN_divB {a b : Nat} (ha : a < 4611686018427387904) (h0 : 0 < b) (hb : b < 4611686018427387904) : lN a / lN b = lN (a / b) := by
  have hd : a / b ≤ a := Nat.div_le_self a b
  apply Int64.toInt_inj.mp
  rw [lg_ldiv_nonneg (by rw [lN_toI ha]; omega) (by rw [lN_toI hb]; omega), lN_toI ha, lN_toI hb, lN_toI (by omega)]
  first | rfl | exact (Int.natCast_ediv _ _).symm | simp
theorem lN_pos {n : Nat} (h : n < 4611686018427387904) : (0 : Int64) < lN n ↔ 0 < n := by
  rw [Int64.lt_iff_toInt_lt, lN_toI h, show (0 : Int64).toInt = 0 by decide]; omega
theorem lN_ne0 {n : Nat} (h : n < 4611686018427387904) (h0 : 0 < n) : ¬ lN n = 0 := by
  intro q
  have := congrArg Int64.toInt q
  rw [lN_toI h, show (0 : Int64).toInt = 0 by decide] at this
  omega
