section AWM
variable {w : Wd} {M : Mi} {mc ms k n pc : Nat} {Q : Option Value → Hp → Prop} {loc : List (Option Value)} {stk : List Value} {h : Hp}
/-- Math.max, Math.min, Math.abs of ints -/
theorem aw_mmax {idx np : Nat} {x y : Int32} (pc' : Nat) (d : decode M.2.1 pc = .ok (.invokestatic idx, 3)) (hp : pc + 3 = pc') (hm : MLS M.1.cls idx mJ9_max_7cf53 np) (hf : 1 ≤ M.2.2.2.2.1) (hlo : (stk.map fun v => v.category).sum + 13 ≤ M.2.2.2.2.2) (hk : k ≤ mc) (hn : n ≤ ms) (K : AW w M mc ms Q k n pc' loc (.int (if x < y then y else x) :: stk) h) : AW w M mc ms Q k n pc loc (.int y :: .int x :: stk) h := by
  subst hp
  intro p e s m args below meth c C E H locs ls hS hR hL
  obtain ⟨m1, m2, m4, m5, m6⟩ := hm
  have hts := C.1.2.2.2.2
  exact va_mmax C.1.1 C.1.2.1 (C.1.2.2.1.trans hL.1.symm) C.1.2.2.2.1 (hts _ m1) (hts _ m2) (hts _ m4) (hts _ m5) hf (by rw [sum_cat]; exact hlo) hk hn d (K p e s m args below meth c C E H locs ls hS hR hL)
theorem aw_mmin {idx np : Nat} {x y : Int32} (pc' : Nat) (d : decode M.2.1 pc = .ok (.invokestatic idx, 3)) (hp : pc + 3 = pc') (hm : MLS M.1.cls idx mJ9_min_7cf53 np) (hf : 1 ≤ M.2.2.2.2.1) (hlo : (stk.map fun v => v.category).sum + 13 ≤ M.2.2.2.2.2) (hk : k ≤ mc) (hn : n ≤ ms) (K : AW w M mc ms Q k n pc' loc (.int (if y < x then y else x) :: stk) h) : AW w M mc ms Q k n pc loc (.int y :: .int x :: stk) h := by
  subst hp
  intro p e s m args below meth c C E H locs ls hS hR hL
  obtain ⟨m1, m2, m4, m5, m6⟩ := hm
  have hts := C.1.2.2.2.2
  exact va_mmin C.1.1 C.1.2.1 (C.1.2.2.1.trans hL.1.symm) C.1.2.2.2.1 (hts _ m1) (hts _ m2) (hts _ m4) (hts _ m5) hf (by rw [sum_cat]; exact hlo) hk hn d (K p e s m args below meth c C E H locs ls hS hR hL)
theorem aw_mabs {idx np : Nat} {x : Int32} (pc' : Nat) (d : decode M.2.1 pc = .ok (.invokestatic idx, 3)) (hp : pc + 3 = pc') (hm : MLS M.1.cls idx mJ9_abs_0f7a4 np) (hf : 1 ≤ M.2.2.2.2.1) (hlo : (stk.map fun v => v.category).sum + 13 ≤ M.2.2.2.2.2) (hk : k ≤ mc) (hn : n ≤ ms) (K : AW w M mc ms Q k n pc' loc (.int (if 0 ≤ x then x else 0 - x) :: stk) h) : AW w M mc ms Q k n pc loc (.int x :: stk) h := by
  subst hp
  intro p e s m args below meth c C E H locs ls hS hR hL
  obtain ⟨m1, m2, m4, m5, m6⟩ := hm
  have hts := C.1.2.2.2.2
  exact va_mabs C.1.1 C.1.2.1 (C.1.2.2.1.trans hL.1.symm) C.1.2.2.2.1 (hts _ m1) (hts _ m2) (hts _ m4) (hts _ m5) hf (by rw [sum_cat]; exact hlo) hk hn d (K p e s m args below meth c C E H locs ls hS hR hL)
end AWM
