/-! ===== pairs: right of a left sentence, left of a right one, -1 where there is none ===== -/
abbrev Pr : Type := (Nat → Int32) × (Nat → Int32)
theorem sm_upd {f g : Nat → Nat} {t : Nat} : ∀ n, t < n → (∀ i, i ≠ t → g i = f i) → sm g 0 n + f t = sm f 0 n + g t := by
  intro n
  induction n with
  | zero => intro h; omega
  | succ n ih =>
    intro ht hg
    show sm g 0 n + g (0 + n) + f t = sm f 0 n + f (0 + n) + g t
    rw [Nat.zero_add]
    by_cases e : t = n
    · subst e
      have : sm g 0 t = sm f 0 t := by
        have key : ∀ m, m ≤ t → sm g 0 m = sm f 0 m := by
          intro m
          induction m with
          | zero => intro _; rfl
          | succ m im =>
            intro hm
            show sm g 0 m + g (0 + m) = sm f 0 m + f (0 + m)
            rw [im (by omega), Nat.zero_add, hg m (by omega)]
        exact key t (Nat.le_refl t)
      omega
    · have h1 := ih (by omega) hg
      have h2 := hg n (fun q => e q.symm)
      omega
def cnt (f : Nat → Int32) : Nat := sm (fun i => if f i = -1 then 0 else 1) 0 20
def up1 (f : Nat → Int32) (t : Nat) (v : Int32) : Nat → Int32 := fun i => if i = t then v else f i
theorem up1_s {f : Nat → Int32} {t : Nat} {v : Int32} : up1 f t v t = v := if_pos rfl
theorem up1_n {f : Nat → Int32} {t i : Nat} {v : Int32} (h : i ≠ t) : up1 f t v i = f i := if_neg h
theorem cnt_add {f : Nat → Int32} {t : Nat} {v : Int32} (ht : t < 20) (h : f t = -1) (hv : ¬ v = -1) : cnt (up1 f t v) = cnt f + 1 := by
  have := sm_upd (f := fun i => if f i = -1 then 0 else 1) (g := fun i => if up1 f t v i = -1 then 0 else 1) 20 ht (fun i hi => by simp only [up1_n hi])
  simp only [up1_s, if_pos h, if_neg hv] at this
  unfold cnt
  omega
theorem cnt_sub {f : Nat → Int32} {t : Nat} (ht : t < 20) (h : ¬ f t = -1) : cnt (up1 f t (-1)) + 1 = cnt f := by
  have := sm_upd (f := fun i => if f i = -1 then 0 else 1) (g := fun i => if up1 f t (-1) i = -1 then 0 else 1) 20 ht (fun i hi => by simp only [up1_n hi])
  simp only [up1_s, if_neg h, if_pos] at this
  unfold cnt
  omega
theorem cnt_le (f : Nat → Int32) : cnt f ≤ 20 := by
  have : cnt f ≤ 20 * 1 := sm_le (fun i _ => by show (if f (0 + i) = -1 then 0 else 1) ≤ 1; split <;> omega)
  omega
def okP (p : Pr) : Prop := ∀ i, i < 20 → (p.1 i = -1 ∨ ∃ j, j < 20 ∧ p.1 i = nI j) ∧ (p.2 i = -1 ∨ ∃ j, j < 20 ∧ p.2 i = nI j)
def pairC (h : Hp) (p : Pr) : Prop := okP p ∧ hI h 224 2 = nI (cnt p.1) ∧ ∀ i, i < 20 → hI h 225 i = p.1 i ∧ hI h 226 i = p.2 i
def pairM (h : Hp) (p : Pr) : Prop := okP p ∧ hI h 347 15 = nI (cnt p.1) ∧ ∀ i, i < 20 → hI h 359 i = p.1 i ∧ hI h 360 i = p.2 i
abbrev acr (x y : Int) : Prop := ((x < 0 ∧ 0 < y) ∨ (0 < x ∧ y < 0)) ∧ ¬ ((x = 1 ∧ y = -1) ∨ (x = -1 ∧ y = 1))
theorem nI_m1 {j : Nat} (h : j < 2147483648) : ¬ nI j = -1 := by rw [ti_eq, nI_toInt h, tm_1]; omega
abbrev tieB (p : Pr) (i j : Nat) : Prop := p.1 i = -1 ∧ p.2 j = -1 ∧ ∀ u, u < 20 → ¬ p.1 u = -1 → ¬ acr ((i : Int) - u) ((j : Int) - (p.1 u).toInt)
def tied (p : Pr) (i j : Nat) : Pr := (up1 p.1 i (nI j), up1 p.2 j (nI i))
def untied (p : Pr) (i : Nat) : Pr := (up1 p.1 i (-1), up1 p.2 (p.1 i).toNatClampNeg (-1))
theorem okP.tie {p : Pr} {i j : Nat} (o : okP p) (hi : i < 20) (hj : j < 20) : okP (tied p i j) := by
  intro t ht
  refine ⟨?_, ?_⟩
  · by_cases e : t = i
    · subst e; exact Or.inr ⟨j, hj, up1_s⟩
    · show up1 p.1 i (nI j) t = -1 ∨ ∃ q, q < 20 ∧ up1 p.1 i (nI j) t = nI q
      rw [up1_n e]; exact (o t ht).1
  · by_cases e : t = j
    · subst e; exact Or.inr ⟨i, hi, up1_s⟩
    · show up1 p.2 j (nI i) t = -1 ∨ ∃ q, q < 20 ∧ up1 p.2 j (nI i) t = nI q
      rw [up1_n e]; exact (o t ht).2
theorem okP.untie {p : Pr} {i : Nat} (o : okP p) : okP (untied p i) := by
  intro t ht
  refine ⟨?_, ?_⟩
  · show up1 p.1 i (-1) t = -1 ∨ ∃ q, q < 20 ∧ up1 p.1 i (-1) t = nI q
    by_cases e : t = i
    · subst e; exact Or.inl up1_s
    · rw [up1_n e]; exact (o t ht).1
  · show up1 p.2 _ (-1) t = -1 ∨ ∃ q, q < 20 ∧ up1 p.2 _ (-1) t = nI q
    by_cases e : t = (p.1 i).toNatClampNeg
    · rw [e]; exact Or.inl up1_s
    · rw [up1_n e]; exact (o t ht).2
section PC
variable {w : Wd} {L : Nat} {h : Hp} {Q : Int32 → Hp → Prop} {p : Pr}
theorem sp_isAcross {x y : Int32} (K1 : acr x.toInt y.toInt → Q 1 h) (K0 : ¬ acr x.toInt y.toInt → Q 0 h) : AC w mX3_isAcross 0 0 (rI Q) [.int x, .int y] h := by
  have k42 : ∀ z : Int32, (¬ acr x.toInt y.toInt) → AW w mX3_isAcross 0 0 (rI Q) 0 0 42 [none, none, some (.int z), none] [] h := fun z q => sX3_isAcross_42 ⟨fun _ => K0 q, fun _ => K0 q⟩
  have k21 : ∀ z : Int32, (z = 1 ∧ ((x.toInt < 0 ∧ 0 < y.toInt) ∨ (0 < x.toInt ∧ y.toInt < 0))) ∨ (z = 0 ∧ ¬ ((x.toInt < 0 ∧ 0 < y.toInt) ∨ (0 < x.toInt ∧ y.toInt < 0))) → AW w mX3_isAcross 0 0 (rI Q) 0 0 21 [some (.int x), some (.int y), none, none] [.int z] h := by
    intro z hz
    have k46 : (¬ ((x.toInt = 1 ∧ y.toInt = -1) ∨ (x.toInt = -1 ∧ y.toInt = 1))) → AW w mX3_isAcross 0 0 (rI Q) 0 0 46 [none, none, some (.int z), none] [] h := fun q => by
      refine sX3_isAcross_46 ⟨fun c => K0 ?_, fun c => K1 ?_⟩
      · rcases hz with ⟨hz, -⟩ | ⟨-, hz⟩
        · rw [hz] at c; exact absurd c (by decide)
        · exact fun a => hz a.1
      · rcases hz with ⟨-, hz⟩ | ⟨hz, -⟩
        · exact ⟨hz, q⟩
        · exact absurd hz c
    refine sX3_isAcross_21 ?_
    simp only [ti_eq, t_1, tm_1]
    refine ⟨fun c1 => ⟨fun c2 => k46 (by omega), fun c2 => ⟨fun c3 => k46 (by omega), fun c3 => k42 z (fun a => a.2 (by omega))⟩⟩, fun c1 => ⟨fun c2 => k42 z (fun a => a.2 (by omega)), fun c2 => ⟨fun c3 => k46 (by omega), fun c3 => by omega⟩⟩⟩
  refine eX3_isAcross (sX3_isAcross_0 ?_)
  simp only [ti_le, ti_lt, t_0]
  refine ⟨fun c1 => ⟨fun c2 => k21 0 (Or.inr ⟨rfl, by omega⟩), fun c2 => ⟨fun c3 => k21 0 (Or.inr ⟨rfl, by omega⟩), fun c3 => k21 1 (Or.inl ⟨rfl, by omega⟩)⟩⟩, fun c1 => ⟨fun c2 => k21 1 (Or.inl ⟨rfl, by omega⟩), fun c2 => ⟨fun c3 => k21 0 (Or.inr ⟨rfl, by omega⟩), fun c3 => by omega⟩⟩⟩
theorem ti_subN {a b : Nat} (ha : a < 1000000) (hb : b < 1000000) : (nI a - nI b).toInt = (a : Int) - b := by rw [ti_sub] <;> rw [nI_toInt (by omega), nI_toInt (by omega)] <;> omega
theorem mayTie_loop {i j : Nat} (c : Lay L h) (D : pairC h p) (hi : i < 20) (hj : j < 20) (h1 : p.1 i = -1) (h2 : p.2 j = -1) (K1 : tieB p i j → Q 1 h) (K0 : ¬ tieB p i j → Q 0 h) :
    ∀ (d k : Nat), k + d = 20 → (∀ u, u < k → ¬ p.1 u = -1 → ¬ acr ((i : Int) - u) ((j : Int) - (p.1 u).toInt)) → AW w mX3_mayTie 0 0 (rI Q) 0 0 24 [some (.ref 224), some (.int (nI i)), some (.int (nI j)), some (.int (nI k))] [] h := by
  intro d
  induction d with
  | zero =>
    intro k hk hall
    have : k = 20 := by omega
    subst this
    refine sX3_mayTie_24 ⟨fun _ => K1 ⟨h1, h2, hall⟩, fun c1 => absurd (by decide) c1⟩
  | succ d ih =>
    intro k hk hall
    have hv := (D.2.2 k (by omega)).1
    refine sX3_mayTie_24 ⟨fun c1 => ?_, fun c1 => ?_⟩
    · rw [ti_le, nI_toInt (by omega), t_20] at c1
      omega
    · simp only [s_224 c, r_224_0 c, s_225 c, cl_nI (show k < 2147483648 by omega), hv, nI_1]
      refine ⟨trivial, by decide, trivial, vp_nI (by omega) (by decide), fun c2 => ih (k + 1) (by omega) (fun u hu hne => ?_), fun c2 => ?_⟩
      · by_cases e : u = k
        · subst e; exact absurd c2 hne
        · exact hall u (by omega) hne
      · obtain ⟨q, hq, eq⟩ := (D.1 k (by omega)).1.resolve_left c2
        have ex : (nI i - nI k).toInt = (i : Int) - k := ti_subN (by omega) (by omega)
        have ey : (nI j - p.1 k).toInt = (j : Int) - (p.1 k).toInt := by rw [eq, ti_subN (by omega) (by omega), nI_toInt (by omega)]
        refine sp_isAcross (fun a => ⟨fun z => absurd z (by decide), fun _ => K0 (fun t => ?_)⟩) (fun a => ⟨fun _ => ih (k + 1) (by omega) (fun u hu hne => ?_), fun z => absurd rfl z⟩)
        · rw [ex, ey] at a
          exact t.2.2 k (by omega) c2 a
        · by_cases e : u = k
          · subst e; rw [ex, ey] at a; exact a
          · exact hall u (by omega) hne
theorem sp_mayTie {i j : Nat} (c : Lay L h) (D : pairC h p) (hi : i < 20) (hj : j < 20) (K1 : tieB p i j → Q 1 h) (K0 : ¬ tieB p i j → Q 0 h) : AC w mX3_mayTie 0 0 (rI Q) [.ref 224, .int (nI i), .int (nI j)] h := by
  refine eX3_mayTie (sX3_mayTie_0 ?_)
  simp only [s_224 c, r_224_0 c, s_225 c, r_224_1 c, s_226 c, cl_nI (show i < 2147483648 by omega), cl_nI (show j < 2147483648 by omega), (D.2.2 i hi).1, (D.2.2 j hj).2]
  refine ⟨trivial, by decide, trivial, vp_nI hi (by decide), fun c1 => K0 (fun t => c1 t.1), fun c1 => ⟨by decide, trivial, vp_nI hj (by decide), fun c2 => ?_, fun c2 => K0 (fun t => c2 t.2.1)⟩⟩
  exact mayTie_loop c D hi hj c1 c2 K1 K0 20 0 (by omega) (fun u hu => by omega)
def prId (id : Nat) : Prop := id = 224 ∨ id = 225 ∨ id = 226
theorem sp_tie {Q : Hp → Prop} {i j : Nat} (c : Lay L h) (D : pairC h p) (hi : i < 20) (hj : j < 20) (h1 : p.1 i = -1) (K : ∀ h', Chg prId h h' → hL h' = hL h → pairC h' (tied p i j) → Q h') : AC w mX3_tie 0 0 (rV Q) [.ref 224, .int (nI i), .int (nI j)] h := by
  refine eX3_tie (sX3_tie_0 ?_)
  simp only [s_224 c, r_224_0 c, s_225 c, r_224_1 c, s_226 c, cl_nI (show i < 2147483648 by omega), cl_nI (show j < 2147483648 by omega)]
  refine ⟨trivial, by decide, trivial, vp_nI hi (by decide), fun a1 e1 => ⟨by decide, trivial, vp_nI hj (by decide), fun a2 e2 a3 e3 => ?_⟩⟩
  subst e1 e2 e3
  refine K _ ((((Chg.rfl' h).sI (Or.inr (Or.inl rfl))).sI (Or.inr (Or.inr rfl))).sI (Or.inl rfl)) rfl ⟨D.1.tie hi hj, ?_, fun t ht => ⟨?_, ?_⟩⟩
  · rw [hI_eq, hI_ne (Or.inl (by decide)), hI_ne (Or.inl (by decide)), D.2.1, nI_1]
    show _ = nI (cnt (up1 p.1 i (nI j)))
    rw [cnt_add hi h1 (nI_m1 (by omega))]
  · rw [hI_ne (Or.inl (by decide)), hI_ne (Or.inl (by decide))]
    show _ = up1 p.1 i (nI j) t
    by_cases e : t = i
    · subst e; rw [hI_eq, up1_s]
    · rw [hI_ne (Or.inr e), up1_n e]; exact (D.2.2 t ht).1
  · rw [hI_ne (Or.inl (by decide))]
    show _ = up1 p.2 j (nI i) t
    by_cases e : t = j
    · subst e; rw [hI_eq, up1_s]
    · rw [hI_ne (Or.inr e), up1_n e, hI_ne (Or.inl (by decide))]; exact (D.2.2 t ht).2
theorem sp_untie {i : Nat} (c : Lay L h) (D : pairC h p) (hi : i < 20) (K0 : p.1 i = -1 → Q 0 h) (K1 : ¬ p.1 i = -1 → ∀ h', Chg prId h h' → hL h' = hL h → pairC h' (untied p i) → Q 1 h') : AC w mX3_untie 0 0 (rI Q) [.ref 224, .int (nI i)] h := by
  refine eX3_untie (sX3_untie_0 ?_)
  simp only [s_224 c, r_224_0 c, s_225 c, r_224_1 c, s_226 c, cl_nI (show i < 2147483648 by omega), (D.2.2 i hi).1]
  refine ⟨trivial, by decide, trivial, vp_nI hi (by decide), fun c1 => ?_, K0⟩
  obtain ⟨q, hq, eq⟩ := (D.1 i hi).1.resolve_left c1
  refine ⟨by decide, trivial, by rw [eq]; exact vp_nI hq (by decide), fun a1 e1 a2 e2 a3 e3 => ?_⟩
  subst e1 e2 e3
  refine K1 c1 _ ((((Chg.rfl' h).sI (Or.inr (Or.inr rfl))).sI (Or.inr (Or.inl rfl))).sI (Or.inl rfl)) rfl ⟨D.1.untie, ?_, fun t ht => ⟨?_, ?_⟩⟩
  · rw [hI_eq, hI_ne (Or.inl (by decide)), hI_ne (Or.inl (by decide)), D.2.1]
    show _ = nI (cnt (up1 p.1 i (-1)))
    have := cnt_sub hi c1
    rw [← this, nI_pred]
  · rw [hI_ne (Or.inl (by decide))]
    show _ = up1 p.1 i (-1) t
    by_cases e : t = i
    · subst e; rw [hI_eq, up1_s]
    · rw [hI_ne (Or.inr e), up1_n e, hI_ne (Or.inl (by decide))]; exact (D.2.2 t ht).1
  · rw [hI_ne (Or.inl (by decide)), hI_ne (Or.inl (by decide))]
    show _ = up1 p.2 (p.1 i).toNatClampNeg (-1) t
    by_cases e : t = (p.1 i).toNatClampNeg
    · rw [e, hI_eq, up1_s]
    · rw [hI_ne (Or.inr e), up1_n e]; exact (D.2.2 t ht).2
end PC
