/-! ===== fast, the reference ===== -/
section FM
variable {w : Wd} {L : Nat} {h : Hp} {Q : Int32 → Hp → Prop} {p : Pr} {bk : Nat → Bk}
theorem fastM_110 {a b f u x y z : Int32} (hf : f = 0 ∨ f = 1) (hz : (z = 1 ∧ ((x.toInt = 1 ∧ y.toInt = -1) ∨ (x.toInt = -1 ∧ y.toInt = 1))) ∨ (z = 0 ∧ ¬ ((x.toInt = 1 ∧ y.toInt = -1) ∨ (x.toInt = -1 ∧ y.toInt = 1))))
    (K1 : (¬ f = 0 ∨ acr x.toInt y.toInt) → AW w mX10_fast 0 0 (rI Q) 0 0 48 [some (.ref 347), some (.int a), some (.int b), some (.int 1), some (.int (u + 1)), none, none, none, none] [] h)
    (K0 : (f = 0 ∧ ¬ acr x.toInt y.toInt) → AW w mX10_fast 0 0 (rI Q) 0 0 48 [some (.ref 347), some (.int a), some (.int b), some (.int 0), some (.int (u + 1)), none, none, none, none] [] h) :
    AW w mX10_fast 0 0 (rI Q) 0 0 110 [some (.ref 347), some (.int a), some (.int b), some (.int f), some (.int u), none, some (.int x), some (.int y), none] [.int z] h := by
  have z0 : z = 0 → ¬ ((x.toInt = 1 ∧ y.toInt = -1) ∨ (x.toInt = -1 ∧ y.toInt = 1)) := fun q => by
    rcases hz with ⟨r, -⟩ | ⟨-, r⟩
    · rw [r] at q; exact absurd q (by decide)
    · exact r
  have z1 : ¬ z = 0 → ((x.toInt = 1 ∧ y.toInt = -1) ∨ (x.toInt = -1 ∧ y.toInt = 1)) := fun q => by
    rcases hz with ⟨-, r⟩ | ⟨r, -⟩
    · exact r
    · exact absurd r q
  have k126 : f = 0 → ¬ (x.toInt < 0 ∧ 0 < y.toInt) → AW w mX10_fast 0 0 (rI Q) 0 0 126 [some (.ref 347), some (.int a), some (.int b), none, some (.int u), none, some (.int x), some (.int y), some (.int z)] [] h := fun hf0 hn => by
    refine sX10_fast_126 ?_
    simp only [ti_le, t_0]
    refine ⟨fun c1 => K0 ⟨hf0, fun q => by omega⟩, fun c1 => ⟨fun c2 => K0 ⟨hf0, fun q => by omega⟩, fun c2 => ⟨fun c3 => K0 ⟨hf0, fun q => q.2 (z1 c3)⟩, fun c3 => K1 (Or.inr ⟨Or.inr (by omega), z0 c3⟩)⟩⟩⟩
  refine sX10_fast_110 ⟨fun c1 => K1 (Or.inl c1), fun c1 => ?_⟩
  simp only [ti_le, ti_lt, t_0]
  refine ⟨fun c2 => k126 c1 (by omega), fun c2 => ⟨fun c3 => ⟨fun c4 => K0 ⟨c1, fun q => q.2 (z1 c4)⟩, fun c4 => K1 (Or.inr ⟨Or.inl (by omega), z0 c4⟩)⟩, fun c3 => k126 c1 (by omega)⟩⟩
/-- what has been seen when u left sentences are through -/
def seenB (p : Pr) (i j k : Nat) : Prop := p.1 i = -1 ∧ p.2 j = -1 ∧ ∀ u, u < k → ¬ p.1 u = -1 → ¬ acr ((i : Int) - u) ((j : Int) - (p.1 u).toInt)
theorem fastM_48 {i j : Nat} (c : Lay L h) (D : pairM h p) (hi : i < 20) (hj : j < 20) (Kn : ¬ tieB p i j → Q (-100003) h) (Kf : tieB p i j → ¬ cnt p.1 < 20 → Q (-100004) h) (Kt : tieB p i j → cnt p.1 < 20 → ∀ h', PMh h h' (tied p i j) → Q (nI (cnt p.1 + 1)) h') :
    ∀ (d k : Nat) (f : Int32), k + d = 20 → ((f = 0 ∧ seenB p i j k) ∨ (f = 1 ∧ ¬ seenB p i j k)) → AW w mX10_fast 0 0 (rI Q) 0 0 48 [some (.ref 347), some (.int (nI i)), some (.int (nI j)), some (.int f), some (.int (nI k)), none, none, none, none] [] h := by
  have hcl := cnt_le p.1
  intro d
  induction d with
  | zero =>
    intro k f hk hf
    have : k = 20 := by omega
    subst this
    refine sX10_fast_48 ⟨fun _ => ⟨fun c1 => ?_, fun c1 => ?_⟩, fun c1 => absurd (by decide) c1⟩
    · have hT : tieB p i j := by
        rcases hf with ⟨-, q⟩ | ⟨q, -⟩
        · exact q
        · rw [q] at c1; exact absurd c1 (by decide)
      simp only [s_347 c, r_347_13 c, s_359 c, r_347_14 c, s_360 c, cl_nI (show i < 2147483648 by omega), cl_nI (show j < 2147483648 by omega), D.2.1]
      rw [show (20 : Int32) = nI 20 from rfl, nI_inj (by omega) (by decide)]
      refine ⟨trivial, fun c2 => ⟨by decide, trivial, vp_nI hi (by decide), fun a1 e1 => ⟨by decide, trivial, vp_nI hj (by decide), fun a2 e2 a3 e3 => ?_⟩⟩, fun c2 => Kf hT (by omega)⟩
      subst e1 e2 e3
      have hv : hI (sI (sI (sI h 359 i (nI j)) 360 j (nI i)) 347 15 (hI (sI (sI h 359 i (nI j)) 360 j (nI i)) 347 15 + 1)) 347 15 = nI (cnt p.1 + 1) := by
        rw [hI_eq, hI_ne (Or.inl (by decide)), hI_ne (Or.inl (by decide)), D.2.1, nI_1]
      rw [hv]
      refine Kt hT (by omega) _ ⟨(((Chg.rfl' h).sI (Or.inr (Or.inl rfl))).sI (Or.inr (Or.inr rfl))).sI (Or.inl rfl), fun k hk => ?_, rfl, D.1.tie hi hj, ?_, fun t ht => ⟨?_, ?_⟩⟩
      · rw [hI_ne (Or.inr hk), hI_ne (Or.inl (by decide)), hI_ne (Or.inl (by decide))]
      · rw [hv]
        show _ = nI (cnt (up1 p.1 i (nI j)))
        rw [cnt_add hi hT.1 (nI_m1 (by omega))]
      · rw [hI_ne (Or.inl (by decide)), hI_ne (Or.inl (by decide))]
        show _ = up1 p.1 i (nI j) t
        by_cases e : t = i
        · subst e; rw [hI_eq, up1_s]
        · rw [hI_ne (Or.inr e), up1_n e]; exact (D.2.2 t ht).1
      · rw [hI_ne (Or.inl (by decide))]
        show _ = up1 p.2 j (nI i) t
        by_cases e : t = j
        · subst e; rw [hI_eq, up1_s]
        · rw [hI_ne (Or.inr e), up1_n e, hI_ne (Or.inl (by decide))]; exact (D.2.2 t ht).2
    · refine Kn (fun hT => c1 ?_)
      rcases hf with ⟨q, -⟩ | ⟨-, q⟩
      · exact q
      · exact absurd hT q
  | succ d ih =>
    intro k f hk hf
    have hv := (D.2.2 k (by omega)).1
    have hf01 : f = 0 ∨ f = 1 := hf.elim (fun q => Or.inl q.1) (fun q => Or.inr q.1)
    refine sX10_fast_48 ⟨fun c1 => ?_, fun c1 => ?_⟩
    · rw [ti_le, nI_toInt (by omega), t_20] at c1
      omega
    · simp only [s_347 c, r_347_13 c, s_359 c, cl_nI (show k < 2147483648 by omega), hv]
      refine ⟨trivial, by decide, trivial, vp_nI (by omega) (by decide), fun c2 => ?_, fun c2 => ?_⟩
      · rw [ti_lt, t_0] at c2
        have he : p.1 k = -1 := (D.1 k (by omega)).1.elim id (fun ⟨q, hq, eq⟩ => by rw [eq, nI_toInt (by omega)] at c2; omega)
        have hse : seenB p i j (k + 1) ↔ seenB p i j k := ⟨fun q => ⟨q.1, q.2.1, fun u hu => q.2.2 u (by omega)⟩, fun q => ⟨q.1, q.2.1, fun u hu hne => by
          by_cases e : u = k
          · subst e; exact absurd he hne
          · exact q.2.2 u (by omega) hne⟩⟩
        rw [nI_1]
        exact ih (k + 1) f (by omega) (by rw [hse]; exact hf)
      · rw [ti_lt, t_0] at c2
        have hne : ¬ p.1 k = -1 := fun q => by rw [q, tm_1] at c2; omega
        obtain ⟨q, hq, eq⟩ := (D.1 k (by omega)).1.resolve_left hne
        have ex : (nI i - nI k).toInt = (i : Int) - k := ti_subN (by omega) (by omega)
        have ey : (nI j - p.1 k).toInt = (j : Int) - (p.1 k).toInt := by rw [eq, ti_subN (by omega) (by omega), nI_toInt (by omega)]
        have go : ∀ z : Int32, ((z = 1 ∧ (((nI i - nI k).toInt = 1 ∧ (nI j - p.1 k).toInt = -1) ∨ ((nI i - nI k).toInt = -1 ∧ (nI j - p.1 k).toInt = 1))) ∨ (z = 0 ∧ ¬ (((nI i - nI k).toInt = 1 ∧ (nI j - p.1 k).toInt = -1) ∨ ((nI i - nI k).toInt = -1 ∧ (nI j - p.1 k).toInt = 1)))) → AW w mX10_fast 0 0 (rI Q) 0 0 110 [some (.ref 347), some (.int (nI i)), some (.int (nI j)), some (.int f), some (.int (nI k)), none, some (.int (nI i - nI k)), some (.int (nI j - p.1 k)), none] [.int z] h := fun z hz => by
          refine fastM_110 hf01 hz (fun q => ?_) (fun q => ?_)
          · rw [nI_1]
            refine ih (k + 1) 1 (by omega) (Or.inr ⟨rfl, fun sb => ?_⟩)
            rcases q with q | q
            · rcases hf with ⟨r, -⟩ | ⟨-, r⟩
              · exact q r
              · exact r ⟨sb.1, sb.2.1, fun u hu => sb.2.2 u (by omega)⟩
            · rw [ex, ey] at q
              exact sb.2.2 k (by omega) hne q
          · rw [nI_1]
            refine ih (k + 1) 0 (by omega) (Or.inl ⟨rfl, ?_⟩)
            obtain ⟨q1, q2⟩ := q
            rw [ex, ey] at q2
            rcases hf with ⟨-, r⟩ | ⟨r, -⟩
            · exact ⟨r.1, r.2.1, fun u hu hn => by
                by_cases e : u = k
                · subst e; exact q2
                · exact r.2.2 u (by omega) hn⟩
            · rw [r] at q1; exact absurd q1 (by decide)
        simp only [ti_eq (x := nI i - nI k), ti_eq (x := nI j - p.1 k), t_1, tm_1]
        refine ⟨fun c3 => ⟨fun c4 => go 0 (Or.inr ⟨rfl, by omega⟩), fun c4 => ⟨fun c5 => go 0 (Or.inr ⟨rfl, by omega⟩), fun c5 => go 1 (Or.inl ⟨rfl, by omega⟩)⟩⟩, fun c3 => ⟨fun c4 => go 1 (Or.inl ⟨rfl, by omega⟩), fun c4 => ⟨fun c5 => go 0 (Or.inr ⟨rfl, by omega⟩), fun c5 => by omega⟩⟩⟩
theorem sp_fastM {i j : Int32} (c : Lay L h) (B : booksM h bk) (D : pairM h p) (K : ∀ h', PMh h h' (fFast bk p i j).2 → Q (fFast bk p i j).1 h') : AC w mX10_fast 0 0 (rI Q) [.ref 347, .int i, .int j] h := by
  have rf : PMh h h p := ⟨Chg.rfl' h, fun _ _ => rfl, rfl, D⟩
  refine eX10_fast (sX10_fast_0 ⟨by rw [s_347 c], sp_isSentenceM c B ⟨fun c1 => ?_, fun c1 => ⟨by rw [s_347 c], sp_isSentenceM c B ⟨fun c2 => ?_, fun c2 => ?_⟩⟩⟩⟩)
  · rw [b01_eq] at c1
    have e : fFast bk p i j = (-100001, p) := by rw [fFast, c1]; rfl
    rw [e] at K
    exact K h rf
  · rw [b01_ne] at c1 c2
    have e0 : (isSn bk 0 i && isSn bk 1 j) = true := by rw [c1, c2]; rfl
    obtain ⟨s, hs, hs20, rfl⟩ := isSn_0 (b := 0) (by decide) B.ok c1
    obtain ⟨t, ht, ht20, rfl⟩ := isSn_0 (b := 1) (by decide) B.ok c2
    have e : fFast bk p (nI s) (nI t) = (if tieB p s t then (if cnt p.1 < 20 then (nI (cnt p.1 + 1), tied p s t) else (-100004, p)) else (-100003, p)) := by rw [fFast, if_pos e0, cl_nI (by omega), cl_nI (by omega)]
    rw [e] at K
    have lp := fastM_48 (w := w) (Q := Q) c D hs20 ht20 (fun q => by rw [if_neg q] at K; exact K h rf) (fun q q2 => by rw [if_pos q, if_neg q2] at K; exact K h rf) (fun q q2 h' hp => by rw [if_pos q, if_pos q2] at K; exact K h' hp) 20 0
    simp only [s_347 c, r_347_13 c, s_359 c, r_347_14 c, s_360 c, cl_nI (show s < 2147483648 by omega), cl_nI (show t < 2147483648 by omega), (D.2.2 s hs20).1, (D.2.2 t ht20).2]
    have cas : ∀ (f : Nat → Int32) (q : Nat), (f q = -1 ∨ ∃ r, r < 20 ∧ f q = nI r) → (0 ≤ (f q).toInt ↔ ¬ f q = -1) := fun f q hq => by
      rcases hq with hq | ⟨r, hr, hq⟩
      · rw [hq, tm_1]; simp
      · rw [hq, nI_toInt (by omega)]; exact ⟨fun _ => nI_m1 (by omega), fun _ => by omega⟩
    have r1 := cas p.1 s (D.1 s hs20).1
    have r2 := cas p.2 t (D.1 t ht20).2
    refine ⟨trivial, by decide, trivial, vp_nI hs20 (by decide), fun c3 => ?_, fun c3 => ⟨by decide, trivial, vp_nI ht20 (by decide), fun c4 => ?_, fun c4 => ?_⟩⟩
    · rw [ti_le, t_0, r1] at c3
      exact lp 1 rfl (Or.inr ⟨rfl, fun q => c3 q.1⟩)
    · rw [ti_le, t_0, r1] at c3
      rw [ti_lt, t_0] at c4
      have : p.2 t = -1 := Decidable.not_not.mp (fun q => by have := r2.mpr q; omega)
      exact lp 0 rfl (Or.inl ⟨rfl, Decidable.not_not.mp c3, this, fun u hu => by omega⟩)
    · rw [ti_lt, t_0] at c4
      exact lp 1 rfl (Or.inr ⟨rfl, fun q => by rw [q.2.1, tm_1] at c4; omega⟩)
  · rw [b01_eq] at c2
    have e : fFast bk p i j = (-100001, p) := by rw [fFast, show isSn bk 1 j = false from c2, Bool.and_false]; rfl
    rw [e] at K
    exact K h rf
end FM
