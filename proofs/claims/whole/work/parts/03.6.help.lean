/-! ===== what the printed walks use ===== -/
def leL : List (Option Value) → List (Option Value) → Prop
  | [], _ => True
  | none :: a, [] => leL a []
  | none :: a, _ :: b => leL a b
  | some v :: a, some u :: b => v = u ∧ leL a b
  | some _ :: _, none :: _ => False
  | some _ :: _, [] => False
theorem leL_get : ∀ (a b : List (Option Value)), leL a b → ∀ (i : Nat) (v : Value), a[i]? = some (some v) → b[i]? = some (some v)
  | [], _, _, i, v, h => by simp at h
  | none :: a, [], l, i, v, h => by
    cases i with
    | zero => simp at h
    | succ i => have := leL_get a [] l i v (by simpa using h); simp at this
  | none :: a, x :: b, l, i, v, h => by
    cases i with
    | zero => simp at h
    | succ i => simpa using leL_get a b l i v (by simpa using h)
  | some u :: a, some u' :: b, l, i, v, h => by
    obtain ⟨rfl, l⟩ := l
    cases i with
    | zero => simpa using h
    | succ i => simpa using leL_get a b l i v (by simpa using h)
  | some _ :: _, none :: _, l, _, _, _ => l.elim
  | some _ :: _, [], l, _, _, _ => l.elim
theorem aw_fgt {w : Wd} {M : Mi} {mc ms k n pc : Nat} {Q : Option Value → Hp → Prop} {loc loc' : List (Option Value)} {stk : List Value} {h : Hp} (l : leL loc' loc) (K : AW w M mc ms Q k n pc loc' stk h) : AW w M mc ms Q k n pc loc stk h :=
  fun p e s m args below meth c C E H locs ls hS hR hL => K p e s m args below meth c C E H locs ls hS hR ⟨hL.1, hL.2.1, fun i v q => hL.2.2 i v (leL_get _ _ l i v q)⟩
theorem AC.ofL {w : Wd} {M : Mi} {mc ms : Nat} {Q : Option Value → Hp → Prop} {av : List Value} {h : Hp} {loc : List (Option Value)} (hy : plainName M.1.cls = true) (hl : (enl av).length ≤ M.2.2.1) (l : leL loc (enl av)) (K : AW w M mc ms Q 0 0 0 loc [] h) : AC w M mc ms Q av h := AC.of hy hl (aw_fgt l K)
theorem shp {h : Hp} {a k : Nat} (e : (hs h a).1 = k) : hs h a = (k, (hs h a).2) := Prod.ext e rfl
/-- an answer that is an int, a long, nothing -/
def rI (Q : Int32 → Hp → Prop) : Option Value → Hp → Prop := fun r h => ∃ x, r = some (.int x) ∧ Q x h
def rL (Q : Int64 → Hp → Prop) : Option Value → Hp → Prop := fun r h => ∃ x, r = some (.long x) ∧ Q x h
def rV (Q : Hp → Prop) : Option Value → Hp → Prop := fun r h => r = none ∧ Q h
section AWP
variable {w : Wd} {M : Mi} {mc ms k n pc : Nat} {Q : Option Value → Hp → Prop} {loc : List (Option Value)} {stk : List Value} {h : Hp}
theorem ev_I {a kf ci : Nat} {x : Int32} (ht : ftys ci kf = .int ∨ ftys ci kf = .boolean) : ∀ j, fval w (sI h a kf x) a j (ftys ci j) = updV (fun i => fval w h a i (ftys ci i)) kf (.int x) j := by
  intro j
  by_cases hj : j = kf
  · subst hj
    simp only [updV, if_pos]
    rcases ht with q | q <;> rw [q] <;> simp [fval, hI_sI, u2_s]
  · simp only [updV, if_neg hj]
    unfold fval
    rw [hI_sI, hL_sI, hR_sI, u2_n (Or.inr hj)]
theorem ev_J {a kf ci : Nat} {x : Int64} (ht : ftys ci kf = .long) : ∀ j, fval w (sL h a kf x) a j (ftys ci j) = updV (fun i => fval w h a i (ftys ci i)) kf (.long x) j := by
  intro j
  by_cases hj : j = kf
  · subst hj
    simp only [updV, if_pos]
    rw [ht]; simp [fval, hL_sL, u2_s]
  · simp only [updV, if_neg hj]
    unfold fval
    rw [hI_sL, hL_sL, hR_sL, u2_n (Or.inr hj)]
theorem ev_R {a kf ci b : Nat} (hb : b ≠ 0) (ht : isRf (ftys ci kf)) : ∀ j, fval w (sR h a kf b) a j (ftys ci j) = updV (fun i => fval w h a i (ftys ci i)) kf (.ref (ad w b)) j := by
  intro j
  by_cases hj : j = kf
  · subst hj
    simp only [updV, if_pos]
    rw [fval_r ht, hR_sR, u2_s, rv_ne hb]
  · simp only [updV, if_neg hj]
    unfold fval
    rw [hI_sR, hL_sR, hR_sR, u2_n (Or.inr hj)]
theorem aw_putI {a idx ci kf : Nat} {x : Int32} (pc' : Nat) (d : decode M.2.1 pc = .ok (.putfield idx, 3)) (hp : pc + 3 = pc') (hf : FL M.1.cls idx ci kf) (ht : ftys ci kf = .int) (ha : (hs h a).1 = 20 + ci) (hfn : ∀ C T N, vwCl[ci]? = some (C, T, N) → (T kf).2.2.2 = false) (K : AW w M mc ms Q k n pc' loc stk (sI h a kf x)) : AW w M mc ms Q k n pc loc (.int x :: .ref a :: stk) h :=
  aw_putf (h' := sI h a kf x) pc' d hp hf ha hfn (by rw [ht]; rfl) (by rw [ht]; rfl) rfl rfl (fun b j hb => u2_n (Or.inl hb)) (fun _ _ _ => rfl) (fun _ _ _ => rfl) (ev_I (Or.inl ht)) K
theorem aw_putZ {a idx ci kf : Nat} {x : Int32} (pc' : Nat) (d : decode M.2.1 pc = .ok (.putfield idx, 3)) (hp : pc + 3 = pc') (hf : FL M.1.cls idx ci kf) (ht : ftys ci kf = .boolean) (hx : x = 0 ∨ x = 1) (ha : (hs h a).1 = 20 + ci) (hfn : ∀ C T N, vwCl[ci]? = some (C, T, N) → (T kf).2.2.2 = false) (K : AW w M mc ms Q k n pc' loc stk (sI h a kf x)) : AW w M mc ms Q k n pc loc (.int x :: .ref a :: stk) h :=
  aw_putf (h' := sI h a kf x) pc' d hp hf ha hfn (by rw [ht]; rcases hx with rfl | rfl <;> rfl) (by rw [ht]; rcases hx with rfl | rfl <;> rfl) rfl rfl (fun b j hb => u2_n (Or.inl hb)) (fun _ _ _ => rfl) (fun _ _ _ => rfl) (ev_I (Or.inr ht)) K
theorem aw_putJ {a idx ci kf : Nat} {x : Int64} (pc' : Nat) (d : decode M.2.1 pc = .ok (.putfield idx, 3)) (hp : pc + 3 = pc') (hf : FL M.1.cls idx ci kf) (ht : ftys ci kf = .long) (ha : (hs h a).1 = 20 + ci) (hfn : ∀ C T N, vwCl[ci]? = some (C, T, N) → (T kf).2.2.2 = false) (K : AW w M mc ms Q k n pc' loc stk (sL h a kf x)) : AW w M mc ms Q k n pc loc (.long x :: .ref a :: stk) h :=
  aw_putf (h' := sL h a kf x) pc' d hp hf ha hfn (by rw [ht]; rfl) (by rw [ht]; rfl) rfl rfl (fun _ _ _ => rfl) (fun b j hb => u2_n (Or.inl hb)) (fun _ _ _ => rfl) (ev_J ht) K
theorem fits_r {ty : FieldType} (h : isRf ty) (a : Nat) : (ty ≠ .byte ∧ ty ≠ .char ∧ ty ≠ .short ∧ ty ≠ .float ∧ ty ≠ .double) → narrow ty (.ref a) = .ref a ∧ fits ty (.ref a) = true := by
  intro q
  cases ty <;> first | exact ⟨rfl, rfl⟩ | exact absurd rfl h.1 | exact absurd rfl h.2.1 | exact absurd rfl h.2.2 | exact absurd rfl q.1 | exact absurd rfl q.2.1 | exact absurd rfl q.2.2.1 | exact absurd rfl q.2.2.2.1 | exact absurd rfl q.2.2.2.2
def isRf2 (ty : FieldType) : Prop := isRf ty ∧ (ty ≠ .byte ∧ ty ≠ .char ∧ ty ≠ .short ∧ ty ≠ .float ∧ ty ≠ .double)
theorem aw_putR {a b idx ci kf : Nat} (pc' : Nat) (d : decode M.2.1 pc = .ok (.putfield idx, 3)) (hp : pc + 3 = pc') (hf : FL M.1.cls idx ci kf) (ht : isRf2 (ftys ci kf)) (hb : b ≠ 0) (ha : (hs h a).1 = 20 + ci) (hfn : ∀ C T N, vwCl[ci]? = some (C, T, N) → (T kf).2.2.2 = false) (K : AW w M mc ms Q k n pc' loc stk (sR h a kf b)) : AW w M mc ms Q k n pc loc (.ref b :: .ref a :: stk) h :=
  aw_putf (h' := sR h a kf b) pc' d hp hf ha hfn (fits_r ht.1 _ ht.2).1 (fits_r ht.1 _ ht.2).2 rfl rfl (fun _ _ _ => rfl) (fun _ _ _ => rfl) (fun b j hb => u2_n (Or.inl hb)) (ev_R hb ht.1) K
theorem aw_putRF {a b idx ci kf : Nat} (pc' : Nat) (d : decode M.2.1 pc = .ok (.putfield idx, 3)) (hp : pc + 3 = pc') (hf : FL M.1.cls idx ci kf) (ht : isRf2 (ftys ci kf)) (hb : b ≠ 0) (ha : (hs h a).1 = 20 + ci) (hfn : ∀ C T N, vwCl[ci]? = some (C, T, N) → (T kf).2.2.2 = true ∧ (T kf).1 = M.1.cls) (hin : M.1.name = "<init>") (K : AW w M mc ms Q k n pc' loc stk (sR h a kf b)) : AW w M mc ms Q k n pc loc (.ref b :: .ref a :: stk) h :=
  aw_putF (h' := sR h a kf b) pc' d hp hf ha hfn hin (fits_r ht.1 _ ht.2).1 (fits_r ht.1 _ ht.2).2 rfl rfl (fun _ _ _ => rfl) (fun _ _ _ => rfl) (fun b j hb => u2_n (Or.inl hb)) (ev_R hb ht.1) K
theorem aw_putIF {a idx ci kf : Nat} {x : Int32} (pc' : Nat) (d : decode M.2.1 pc = .ok (.putfield idx, 3)) (hp : pc + 3 = pc') (hf : FL M.1.cls idx ci kf) (ht : ftys ci kf = .int) (ha : (hs h a).1 = 20 + ci) (hfn : ∀ C T N, vwCl[ci]? = some (C, T, N) → (T kf).2.2.2 = true ∧ (T kf).1 = M.1.cls) (hin : M.1.name = "<init>") (K : AW w M mc ms Q k n pc' loc stk (sI h a kf x)) : AW w M mc ms Q k n pc loc (.int x :: .ref a :: stk) h :=
  aw_putF (h' := sI h a kf x) pc' d hp hf ha hfn hin (by rw [ht]; rfl) (by rw [ht]; rfl) rfl rfl (fun b j hb => u2_n (Or.inl hb)) (fun _ _ _ => rfl) (fun _ _ _ => rfl) (ev_I (Or.inl ht)) K
end AWP
