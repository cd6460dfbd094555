/-! ===== both constructors ===== -/
theorem kk1 : (0 : Int32) + 1 = nI 1 := by decide
theorem cc1 : (nI 1).toNatClampNeg = 1 := by decide
theorem kk2 : (nI 1 : Int32) + 1 = nI 2 := by decide
theorem cc2 : (nI 2).toNatClampNeg = 2 := by decide
theorem kk3 : (nI 2 : Int32) + 1 = nI 3 := by decide
theorem cc3 : (nI 3).toNatClampNeg = 3 := by decide
theorem kk4 : (nI 3 : Int32) + 1 = nI 4 := by decide
theorem cc4 : (nI 4).toNatClampNeg = 4 := by decide
theorem kk5 : (nI 4 : Int32) + 1 = nI 5 := by decide
theorem cc5 : (nI 5).toNatClampNeg = 5 := by decide
theorem kk6 : (nI 5 : Int32) + 1 = nI 6 := by decide
theorem cc6 : (nI 6).toNatClampNeg = 6 := by decide
theorem kk7 : (nI 6 : Int32) + 1 = nI 7 := by decide
theorem cc7 : (nI 7).toNatClampNeg = 7 := by decide
def iv9 : List (Nat × Nat × Nat × Int32) := [(345, 0, 1, 0), (343, 0, 1, 0), (341, 0, 1, 0), (339, 0, 1, 0), (337, 0, 1, 0), (335, 0, 1, 0), (333, 0, 1, 0), (331, 0, 1, 0), (5, 11, 12, 1), (5, 10, 11, 0), (310, 0, 40, -1), (226, 0, 20, -1), (225, 0, 20, -1), (157, 0, 1, 40), (89, 0, 1, 40), (21, 0, 1, 40), (8, 0, 1, 6)]
set_option maxRecDepth 100000 in
set_option maxHeartbeats 4000000 in
theorem init_C {w : Wd} {L : Nat} {xs : Nat → Int32} {h : Hp} {Q : Hp → Prop} (P : PB L xs 6 [(5, 0), (5, 1), (5, 2), (5, 3), (5, 4), (5, 5), (5, 6), (5, 7), (5, 8), (5, 9)] [] h) (K : ∀ h', PB L xs 347 [] iv9 h' → Q h') : AC w mX9_init 341 12125 (rV Q) [.ref 5] h := by
  refine eX9_init (a0 := 5) (by rw [P.1]; decide) ?_
  (try rw [P.1])
  intro hn eqn
  replace P : PB L xs 7 [(6, 0), (5, 0), (5, 1), (5, 2), (5, 3), (5, 4), (5, 5), (5, 6), (5, 7), (5, 8), (5, 9)] [] hn := P.nw eqn rfl (by decide) [(6, 0), (5, 0), (5, 1), (5, 2), (5, 3), (5, 4), (5, 5), (5, 6), (5, 7), (5, 8), (5, 9)] (by decide +kernel) (by decide +kernel) (by decide +kernel)
  clear eqn
  refine eX6_init (a0 := 6) (by rw [P.1]; decide) ?_
  (try rw [P.1])
  intro hn eqn
  replace P : PB L xs 8 [(6, 0), (5, 0), (5, 1), (5, 2), (5, 3), (5, 4), (5, 5), (5, 6), (5, 7), (5, 8), (5, 9)] [] hn := P.nw eqn rfl (by decide) [(6, 0), (5, 0), (5, 1), (5, 2), (5, 3), (5, 4), (5, 5), (5, 6), (5, 7), (5, 8), (5, 9)] (by decide +kernel) (by decide +kernel) (by decide +kernel)
  clear eqn
  refine ⟨by rw [P.sh 6 (z := (26, 0)) (by decide) (by decide) rfl], ?_⟩
  refine ⟨(by decide), ?_⟩
  intro hn eqn
  replace P : PB L xs 8 [(5, 0), (5, 1), (5, 2), (5, 3), (5, 4), (5, 5), (5, 6), (5, 7), (5, 8), (5, 9)] [] hn := P.rr (a := 6) (i := 0) (v := 7) eqn (by decide +kernel) [(5, 0), (5, 1), (5, 2), (5, 3), (5, 4), (5, 5), (5, 6), (5, 7), (5, 8), (5, 9)] (by decide +kernel)
  clear eqn
  refine ⟨by rw [P.sh 5 (z := (29, 0)) (by decide) (by decide) rfl], ?_⟩
  refine ⟨(by decide), ?_⟩
  intro hn eqn
  replace P : PB L xs 8 [(5, 1), (5, 2), (5, 3), (5, 4), (5, 5), (5, 6), (5, 7), (5, 8), (5, 9)] [] hn := P.rr (a := 5) (i := 0) (v := 6) eqn (by decide +kernel) [(5, 1), (5, 2), (5, 3), (5, 4), (5, 5), (5, 6), (5, 7), (5, 8), (5, 9)] (by decide +kernel)
  clear eqn
  (try rw [P.1])
  intro hn eqn
  replace P : PB L xs 9 [(8, 1), (8, 2), (5, 1), (5, 2), (5, 3), (5, 4), (5, 5), (5, 6), (5, 7), (5, 8), (5, 9)] [] hn := P.nw eqn rfl (by decide) [(8, 1), (8, 2), (5, 1), (5, 2), (5, 3), (5, 4), (5, 5), (5, 6), (5, 7), (5, 8), (5, 9)] (by decide +kernel) (by decide +kernel) (by decide +kernel)
  clear eqn
  refine eX8_init_6 (a0 := 8) (by rw [P.1]; decide) ?_
  refine ⟨by rw [P.sh 8 (z := (28, 0)) (by decide) (by decide) rfl], ?_⟩
  intro hn eqn
  replace P : PB L xs 9 [(8, 1), (8, 2), (5, 1), (5, 2), (5, 3), (5, 4), (5, 5), (5, 6), (5, 7), (5, 8), (5, 9)] [(8, 0, 1, 6)] hn := P.ii eqn (by decide)
  clear eqn
  (try rw [P.1])
  intro hn eqn
  replace P : PB L xs 16 [(8, 1), (8, 2), (5, 1), (5, 2), (5, 3), (5, 4), (5, 5), (5, 6), (5, 7), (5, 8), (5, 9)] [(8, 0, 1, 6)] hn := P.nm eqn (by decide) rfl (by decide +kernel) (by decide +kernel) (by decide +kernel) (by decide +kernel) (by decide +kernel)
  clear eqn
  refine ⟨by rw [P.sh 8 (z := (28, 0)) (by decide) (by decide) rfl], ?_⟩
  refine ⟨(by decide), ?_⟩
  intro hn eqn
  replace P : PB L xs 16 [(8, 2), (5, 1), (5, 2), (5, 3), (5, 4), (5, 5), (5, 6), (5, 7), (5, 8), (5, 9)] [(8, 0, 1, 6)] hn := P.rr (a := 8) (i := 1) (v := 9) eqn (by decide +kernel) [(8, 2), (5, 1), (5, 2), (5, 3), (5, 4), (5, 5), (5, 6), (5, 7), (5, 8), (5, 9)] (by decide +kernel)
  clear eqn
  (try rw [P.1])
  intro hn eqn
  replace P : PB L xs 17 [(8, 2), (5, 1), (5, 2), (5, 3), (5, 4), (5, 5), (5, 6), (5, 7), (5, 8), (5, 9)] [(8, 0, 1, 6)] hn := P.nw eqn rfl (by decide) [(8, 2), (5, 1), (5, 2), (5, 3), (5, 4), (5, 5), (5, 6), (5, 7), (5, 8), (5, 9)] (by decide +kernel) (by decide +kernel) (by decide +kernel)
  clear eqn
  refine ⟨by rw [P.sh 8 (z := (28, 0)) (by decide) (by decide) rfl], ?_⟩
  refine ⟨(by decide), ?_⟩
  intro hn eqn
  replace P : PB L xs 17 [(5, 1), (5, 2), (5, 3), (5, 4), (5, 5), (5, 6), (5, 7), (5, 8), (5, 9)] [(8, 0, 1, 6)] hn := P.rr (a := 8) (i := 2) (v := 16) eqn (by decide +kernel) [(5, 1), (5, 2), (5, 3), (5, 4), (5, 5), (5, 6), (5, 7), (5, 8), (5, 9)] (by decide +kernel)
  clear eqn
  refine ⟨by rw [P.sh 5 (z := (29, 0)) (by decide) (by decide) rfl], ?_⟩
  refine ⟨(by decide), ?_⟩
  intro hn eqn
  replace P : PB L xs 17 [(5, 2), (5, 3), (5, 4), (5, 5), (5, 6), (5, 7), (5, 8), (5, 9)] [(8, 0, 1, 6)] hn := P.rr (a := 5) (i := 1) (v := 8) eqn (by decide +kernel) [(5, 2), (5, 3), (5, 4), (5, 5), (5, 6), (5, 7), (5, 8), (5, 9)] (by decide +kernel)
  clear eqn
  (try rw [P.1])
  intro hn eqn
  replace P : PB L xs 18 [(17, 2), (17, 0), (17, 1), (5, 2), (5, 3), (5, 4), (5, 5), (5, 6), (5, 7), (5, 8), (5, 9)] [(8, 0, 1, 6)] hn := P.nw eqn rfl (by decide) [(17, 2), (17, 0), (17, 1), (5, 2), (5, 3), (5, 4), (5, 5), (5, 6), (5, 7), (5, 8), (5, 9)] (by decide +kernel) (by decide +kernel) (by decide +kernel)
  clear eqn
  refine ⟨by rw [P.sh 5 (z := (29, 0)) (by decide) (by decide) rfl], ?_⟩
  rw [P.rf 5 0 (r := 6) (by decide) (by decide) (by decide +kernel) (by decide)]
  refine ⟨(by decide), ?_⟩
  rw [P.rf 5 1 (r := 8) (by decide) (by decide) (by decide +kernel) (by decide)]
  refine ⟨(by decide), ?_⟩
  refine eX1_init (a0 := 17) (by rw [P.1]; decide) ?_
  (try rw [P.1])
  intro hn eqn
  replace P : PB L xs 19 [(17, 2), (17, 0), (17, 1), (5, 2), (5, 3), (5, 4), (5, 5), (5, 6), (5, 7), (5, 8), (5, 9)] [(8, 0, 1, 6)] hn := P.nw eqn rfl (by decide) [(17, 2), (17, 0), (17, 1), (5, 2), (5, 3), (5, 4), (5, 5), (5, 6), (5, 7), (5, 8), (5, 9)] (by decide +kernel) (by decide +kernel) (by decide +kernel)
  clear eqn
  refine ⟨by rw [P.sh 17 (z := (21, 0)) (by decide) (by decide) rfl], ?_⟩
  refine ⟨(by decide), ?_⟩
  intro hn eqn
  replace P : PB L xs 19 [(17, 0), (17, 1), (5, 2), (5, 3), (5, 4), (5, 5), (5, 6), (5, 7), (5, 8), (5, 9)] [(8, 0, 1, 6)] hn := P.rr (a := 17) (i := 2) (v := 18) eqn (by decide +kernel) [(17, 0), (17, 1), (5, 2), (5, 3), (5, 4), (5, 5), (5, 6), (5, 7), (5, 8), (5, 9)] (by decide +kernel)
  clear eqn
  refine ⟨(by decide), ?_⟩
  intro hn eqn
  replace P : PB L xs 19 [(17, 1), (5, 2), (5, 3), (5, 4), (5, 5), (5, 6), (5, 7), (5, 8), (5, 9)] [(8, 0, 1, 6)] hn := P.rr (a := 17) (i := 0) (v := 6) eqn (by decide +kernel) [(17, 1), (5, 2), (5, 3), (5, 4), (5, 5), (5, 6), (5, 7), (5, 8), (5, 9)] (by decide +kernel)
  clear eqn
  refine ⟨(by decide), ?_⟩
  intro hn eqn
  replace P : PB L xs 19 [(5, 2), (5, 3), (5, 4), (5, 5), (5, 6), (5, 7), (5, 8), (5, 9)] [(8, 0, 1, 6)] hn := P.rr (a := 17) (i := 1) (v := 8) eqn (by decide +kernel) [(5, 2), (5, 3), (5, 4), (5, 5), (5, 6), (5, 7), (5, 8), (5, 9)] (by decide +kernel)
  clear eqn
  refine ⟨by rw [P.sh 5 (z := (29, 0)) (by decide) (by decide) rfl], ?_⟩
  refine ⟨(by decide), ?_⟩
  intro hn eqn
  replace P : PB L xs 19 [(5, 3), (5, 4), (5, 5), (5, 6), (5, 7), (5, 8), (5, 9)] [(8, 0, 1, 6)] hn := P.rr (a := 5) (i := 2) (v := 17) eqn (by decide +kernel) [(5, 3), (5, 4), (5, 5), (5, 6), (5, 7), (5, 8), (5, 9)] (by decide +kernel)
  clear eqn
  (try rw [P.1])
  intro hn eqn
  replace P : PB L xs 20 [(19, 0), (19, 1), (5, 3), (5, 4), (5, 5), (5, 6), (5, 7), (5, 8), (5, 9)] [(8, 0, 1, 6)] hn := P.nw eqn rfl (by decide) [(19, 0), (19, 1), (5, 3), (5, 4), (5, 5), (5, 6), (5, 7), (5, 8), (5, 9)] (by decide +kernel) (by decide +kernel) (by decide +kernel)
  clear eqn
  (try rw [P.1])
  intro hn eqn
  replace P : PB L xs 21 [(20, 0), (20, 1), (20, 2), (20, 3), (20, 4), (19, 0), (19, 1), (5, 3), (5, 4), (5, 5), (5, 6), (5, 7), (5, 8), (5, 9)] [(8, 0, 1, 6)] hn := P.nw eqn rfl (by decide) [(20, 0), (20, 1), (20, 2), (20, 3), (20, 4), (19, 0), (19, 1), (5, 3), (5, 4), (5, 5), (5, 6), (5, 7), (5, 8), (5, 9)] (by decide +kernel) (by decide +kernel) (by decide +kernel)
  clear eqn
  refine eX0_init (a0 := 20) (by rw [P.1]; decide) ?_
  (try rw [P.1])
  intro hn eqn
  replace P : PB L xs 22 [(21, 1), (21, 2), (20, 0), (20, 1), (20, 2), (20, 3), (20, 4), (19, 0), (19, 1), (5, 3), (5, 4), (5, 5), (5, 6), (5, 7), (5, 8), (5, 9)] [(8, 0, 1, 6)] hn := P.nw eqn rfl (by decide) [(21, 1), (21, 2), (20, 0), (20, 1), (20, 2), (20, 3), (20, 4), (19, 0), (19, 1), (5, 3), (5, 4), (5, 5), (5, 6), (5, 7), (5, 8), (5, 9)] (by decide +kernel) (by decide +kernel) (by decide +kernel)
  clear eqn
  refine eX8_init_40 (a0 := 21) (by rw [P.1]; decide) ?_
  refine ⟨by rw [P.sh 21 (z := (28, 0)) (by decide) (by decide) rfl], ?_⟩
  intro hn eqn
  replace P : PB L xs 22 [(21, 1), (21, 2), (20, 0), (20, 1), (20, 2), (20, 3), (20, 4), (19, 0), (19, 1), (5, 3), (5, 4), (5, 5), (5, 6), (5, 7), (5, 8), (5, 9)] [(21, 0, 1, 40), (8, 0, 1, 6)] hn := P.ii eqn (by decide)
  clear eqn
  (try rw [P.1])
  intro hn eqn
  replace P : PB L xs 63 [(21, 1), (21, 2), (20, 0), (20, 1), (20, 2), (20, 3), (20, 4), (19, 0), (19, 1), (5, 3), (5, 4), (5, 5), (5, 6), (5, 7), (5, 8), (5, 9)] [(21, 0, 1, 40), (8, 0, 1, 6)] hn := P.nm eqn (by decide) rfl (by decide +kernel) (by decide +kernel) (by decide +kernel) (by decide +kernel) (by decide +kernel)
  clear eqn
  refine ⟨by rw [P.sh 21 (z := (28, 0)) (by decide) (by decide) rfl], ?_⟩
  refine ⟨(by decide), ?_⟩
  intro hn eqn
  replace P : PB L xs 63 [(21, 2), (20, 0), (20, 1), (20, 2), (20, 3), (20, 4), (19, 0), (19, 1), (5, 3), (5, 4), (5, 5), (5, 6), (5, 7), (5, 8), (5, 9)] [(21, 0, 1, 40), (8, 0, 1, 6)] hn := P.rr (a := 21) (i := 1) (v := 22) eqn (by decide +kernel) [(21, 2), (20, 0), (20, 1), (20, 2), (20, 3), (20, 4), (19, 0), (19, 1), (5, 3), (5, 4), (5, 5), (5, 6), (5, 7), (5, 8), (5, 9)] (by decide +kernel)
  clear eqn
  (try rw [P.1])
  intro hn eqn
  replace P : PB L xs 64 [(21, 2), (20, 0), (20, 1), (20, 2), (20, 3), (20, 4), (19, 0), (19, 1), (5, 3), (5, 4), (5, 5), (5, 6), (5, 7), (5, 8), (5, 9)] [(21, 0, 1, 40), (8, 0, 1, 6)] hn := P.nw eqn rfl (by decide) [(21, 2), (20, 0), (20, 1), (20, 2), (20, 3), (20, 4), (19, 0), (19, 1), (5, 3), (5, 4), (5, 5), (5, 6), (5, 7), (5, 8), (5, 9)] (by decide +kernel) (by decide +kernel) (by decide +kernel)
  clear eqn
  refine ⟨by rw [P.sh 21 (z := (28, 0)) (by decide) (by decide) rfl], ?_⟩
  refine ⟨(by decide), ?_⟩
  intro hn eqn
  replace P : PB L xs 64 [(20, 0), (20, 1), (20, 2), (20, 3), (20, 4), (19, 0), (19, 1), (5, 3), (5, 4), (5, 5), (5, 6), (5, 7), (5, 8), (5, 9)] [(21, 0, 1, 40), (8, 0, 1, 6)] hn := P.rr (a := 21) (i := 2) (v := 63) eqn (by decide +kernel) [(20, 0), (20, 1), (20, 2), (20, 3), (20, 4), (19, 0), (19, 1), (5, 3), (5, 4), (5, 5), (5, 6), (5, 7), (5, 8), (5, 9)] (by decide +kernel)
  clear eqn
  refine ⟨by rw [P.sh 20 (z := (20, 0)) (by decide) (by decide) rfl], ?_⟩
  refine ⟨(by decide), ?_⟩
  intro hn eqn
  replace P : PB L xs 64 [(20, 1), (20, 2), (20, 3), (20, 4), (19, 0), (19, 1), (5, 3), (5, 4), (5, 5), (5, 6), (5, 7), (5, 8), (5, 9)] [(21, 0, 1, 40), (8, 0, 1, 6)] hn := P.rr (a := 20) (i := 0) (v := 21) eqn (by decide +kernel) [(20, 1), (20, 2), (20, 3), (20, 4), (19, 0), (19, 1), (5, 3), (5, 4), (5, 5), (5, 6), (5, 7), (5, 8), (5, 9)] (by decide +kernel)
  clear eqn
  (try rw [P.1])
  intro hn eqn
  replace P : PB L xs 85 [(20, 1), (20, 2), (20, 3), (20, 4), (19, 0), (19, 1), (5, 3), (5, 4), (5, 5), (5, 6), (5, 7), (5, 8), (5, 9)] [(21, 0, 1, 40), (8, 0, 1, 6)] hn := P.nm eqn (by decide) rfl (by decide +kernel) (by decide +kernel) (by decide +kernel) (by decide +kernel) (by decide +kernel)
  clear eqn
  refine ⟨by rw [P.sh 20 (z := (20, 0)) (by decide) (by decide) rfl], ?_⟩
  refine ⟨(by decide), ?_⟩
  intro hn eqn
  replace P : PB L xs 85 [(20, 2), (20, 3), (20, 4), (19, 0), (19, 1), (5, 3), (5, 4), (5, 5), (5, 6), (5, 7), (5, 8), (5, 9)] [(21, 0, 1, 40), (8, 0, 1, 6)] hn := P.rr (a := 20) (i := 1) (v := 64) eqn (by decide +kernel) [(20, 2), (20, 3), (20, 4), (19, 0), (19, 1), (5, 3), (5, 4), (5, 5), (5, 6), (5, 7), (5, 8), (5, 9)] (by decide +kernel)
  clear eqn
  (try rw [P.1])
  intro hn eqn
  replace P : PB L xs 86 [(20, 2), (20, 3), (20, 4), (19, 0), (19, 1), (5, 3), (5, 4), (5, 5), (5, 6), (5, 7), (5, 8), (5, 9)] [(21, 0, 1, 40), (8, 0, 1, 6)] hn := P.nw eqn rfl (by decide) [(20, 2), (20, 3), (20, 4), (19, 0), (19, 1), (5, 3), (5, 4), (5, 5), (5, 6), (5, 7), (5, 8), (5, 9)] (by decide +kernel) (by decide +kernel) (by decide +kernel)
  clear eqn
  refine ⟨by rw [P.sh 20 (z := (20, 0)) (by decide) (by decide) rfl], ?_⟩
  refine ⟨(by decide), ?_⟩
  intro hn eqn
  replace P : PB L xs 86 [(20, 3), (20, 4), (19, 0), (19, 1), (5, 3), (5, 4), (5, 5), (5, 6), (5, 7), (5, 8), (5, 9)] [(21, 0, 1, 40), (8, 0, 1, 6)] hn := P.rr (a := 20) (i := 2) (v := 85) eqn (by decide +kernel) [(20, 3), (20, 4), (19, 0), (19, 1), (5, 3), (5, 4), (5, 5), (5, 6), (5, 7), (5, 8), (5, 9)] (by decide +kernel)
  clear eqn
  (try rw [P.1])
  intro hn eqn
  replace P : PB L xs 87 [(20, 3), (20, 4), (19, 0), (19, 1), (5, 3), (5, 4), (5, 5), (5, 6), (5, 7), (5, 8), (5, 9)] [(21, 0, 1, 40), (8, 0, 1, 6)] hn := P.nw eqn rfl (by decide) [(20, 3), (20, 4), (19, 0), (19, 1), (5, 3), (5, 4), (5, 5), (5, 6), (5, 7), (5, 8), (5, 9)] (by decide +kernel) (by decide +kernel) (by decide +kernel)
  clear eqn
  refine ⟨by rw [P.sh 20 (z := (20, 0)) (by decide) (by decide) rfl], ?_⟩
  refine ⟨(by decide), ?_⟩
  intro hn eqn
  replace P : PB L xs 87 [(20, 4), (19, 0), (19, 1), (5, 3), (5, 4), (5, 5), (5, 6), (5, 7), (5, 8), (5, 9)] [(21, 0, 1, 40), (8, 0, 1, 6)] hn := P.rr (a := 20) (i := 3) (v := 86) eqn (by decide +kernel) [(20, 4), (19, 0), (19, 1), (5, 3), (5, 4), (5, 5), (5, 6), (5, 7), (5, 8), (5, 9)] (by decide +kernel)
  clear eqn
  (try rw [P.1])
  intro hn eqn
  replace P : PB L xs 88 [(20, 4), (19, 0), (19, 1), (5, 3), (5, 4), (5, 5), (5, 6), (5, 7), (5, 8), (5, 9)] [(21, 0, 1, 40), (8, 0, 1, 6)] hn := P.nw eqn rfl (by decide) [(20, 4), (19, 0), (19, 1), (5, 3), (5, 4), (5, 5), (5, 6), (5, 7), (5, 8), (5, 9)] (by decide +kernel) (by decide +kernel) (by decide +kernel)
  clear eqn
  refine ⟨by rw [P.sh 20 (z := (20, 0)) (by decide) (by decide) rfl], ?_⟩
  refine ⟨(by decide), ?_⟩
  intro hn eqn
  replace P : PB L xs 88 [(19, 0), (19, 1), (5, 3), (5, 4), (5, 5), (5, 6), (5, 7), (5, 8), (5, 9)] [(21, 0, 1, 40), (8, 0, 1, 6)] hn := P.rr (a := 20) (i := 4) (v := 87) eqn (by decide +kernel) [(19, 0), (19, 1), (5, 3), (5, 4), (5, 5), (5, 6), (5, 7), (5, 8), (5, 9)] (by decide +kernel)
  clear eqn
  refine ⟨by rw [P.sh 19 (z := (9, 2)) (by decide) (by decide) rfl], ?_⟩
  refine ⟨(by rw [P.sh 19 (z := (9, 2)) (by decide) (by decide) rfl]; exact vp_nI (j := 0) (by decide) (by decide)), ?_⟩
  refine ⟨by rw [P.sh 20 (z := (20, 0)) (by decide) (by decide) rfl], ?_⟩
  rw [e0c]
  intro hn eqn
  replace P : PB L xs 88 [(19, 1), (5, 3), (5, 4), (5, 5), (5, 6), (5, 7), (5, 8), (5, 9)] [(21, 0, 1, 40), (8, 0, 1, 6)] hn := P.rr (a := 19) (i := 0) (v := 20) eqn (by decide +kernel) [(19, 1), (5, 3), (5, 4), (5, 5), (5, 6), (5, 7), (5, 8), (5, 9)] (by decide +kernel)
  clear eqn
  (try rw [P.1])
  intro hn eqn
  replace P : PB L xs 89 [(88, 0), (88, 1), (88, 2), (88, 3), (88, 4), (19, 1), (5, 3), (5, 4), (5, 5), (5, 6), (5, 7), (5, 8), (5, 9)] [(21, 0, 1, 40), (8, 0, 1, 6)] hn := P.nw eqn rfl (by decide) [(88, 0), (88, 1), (88, 2), (88, 3), (88, 4), (19, 1), (5, 3), (5, 4), (5, 5), (5, 6), (5, 7), (5, 8), (5, 9)] (by decide +kernel) (by decide +kernel) (by decide +kernel)
  clear eqn
  refine eX0_init (a0 := 88) (by rw [P.1]; decide) ?_
  (try rw [P.1])
  intro hn eqn
  replace P : PB L xs 90 [(89, 1), (89, 2), (88, 0), (88, 1), (88, 2), (88, 3), (88, 4), (19, 1), (5, 3), (5, 4), (5, 5), (5, 6), (5, 7), (5, 8), (5, 9)] [(21, 0, 1, 40), (8, 0, 1, 6)] hn := P.nw eqn rfl (by decide) [(89, 1), (89, 2), (88, 0), (88, 1), (88, 2), (88, 3), (88, 4), (19, 1), (5, 3), (5, 4), (5, 5), (5, 6), (5, 7), (5, 8), (5, 9)] (by decide +kernel) (by decide +kernel) (by decide +kernel)
  clear eqn
  refine eX8_init_40 (a0 := 89) (by rw [P.1]; decide) ?_
  refine ⟨by rw [P.sh 89 (z := (28, 0)) (by decide) (by decide) rfl], ?_⟩
  intro hn eqn
  replace P : PB L xs 90 [(89, 1), (89, 2), (88, 0), (88, 1), (88, 2), (88, 3), (88, 4), (19, 1), (5, 3), (5, 4), (5, 5), (5, 6), (5, 7), (5, 8), (5, 9)] [(89, 0, 1, 40), (21, 0, 1, 40), (8, 0, 1, 6)] hn := P.ii eqn (by decide)
  clear eqn
  (try rw [P.1])
  intro hn eqn
  replace P : PB L xs 131 [(89, 1), (89, 2), (88, 0), (88, 1), (88, 2), (88, 3), (88, 4), (19, 1), (5, 3), (5, 4), (5, 5), (5, 6), (5, 7), (5, 8), (5, 9)] [(89, 0, 1, 40), (21, 0, 1, 40), (8, 0, 1, 6)] hn := P.nm eqn (by decide) rfl (by decide +kernel) (by decide +kernel) (by decide +kernel) (by decide +kernel) (by decide +kernel)
  clear eqn
  refine ⟨by rw [P.sh 89 (z := (28, 0)) (by decide) (by decide) rfl], ?_⟩
  refine ⟨(by decide), ?_⟩
  intro hn eqn
  replace P : PB L xs 131 [(89, 2), (88, 0), (88, 1), (88, 2), (88, 3), (88, 4), (19, 1), (5, 3), (5, 4), (5, 5), (5, 6), (5, 7), (5, 8), (5, 9)] [(89, 0, 1, 40), (21, 0, 1, 40), (8, 0, 1, 6)] hn := P.rr (a := 89) (i := 1) (v := 90) eqn (by decide +kernel) [(89, 2), (88, 0), (88, 1), (88, 2), (88, 3), (88, 4), (19, 1), (5, 3), (5, 4), (5, 5), (5, 6), (5, 7), (5, 8), (5, 9)] (by decide +kernel)
  clear eqn
  (try rw [P.1])
  intro hn eqn
  replace P : PB L xs 132 [(89, 2), (88, 0), (88, 1), (88, 2), (88, 3), (88, 4), (19, 1), (5, 3), (5, 4), (5, 5), (5, 6), (5, 7), (5, 8), (5, 9)] [(89, 0, 1, 40), (21, 0, 1, 40), (8, 0, 1, 6)] hn := P.nw eqn rfl (by decide) [(89, 2), (88, 0), (88, 1), (88, 2), (88, 3), (88, 4), (19, 1), (5, 3), (5, 4), (5, 5), (5, 6), (5, 7), (5, 8), (5, 9)] (by decide +kernel) (by decide +kernel) (by decide +kernel)
  clear eqn
  refine ⟨by rw [P.sh 89 (z := (28, 0)) (by decide) (by decide) rfl], ?_⟩
  refine ⟨(by decide), ?_⟩
  intro hn eqn
  replace P : PB L xs 132 [(88, 0), (88, 1), (88, 2), (88, 3), (88, 4), (19, 1), (5, 3), (5, 4), (5, 5), (5, 6), (5, 7), (5, 8), (5, 9)] [(89, 0, 1, 40), (21, 0, 1, 40), (8, 0, 1, 6)] hn := P.rr (a := 89) (i := 2) (v := 131) eqn (by decide +kernel) [(88, 0), (88, 1), (88, 2), (88, 3), (88, 4), (19, 1), (5, 3), (5, 4), (5, 5), (5, 6), (5, 7), (5, 8), (5, 9)] (by decide +kernel)
  clear eqn
  refine ⟨by rw [P.sh 88 (z := (20, 0)) (by decide) (by decide) rfl], ?_⟩
  refine ⟨(by decide), ?_⟩
  intro hn eqn
  replace P : PB L xs 132 [(88, 1), (88, 2), (88, 3), (88, 4), (19, 1), (5, 3), (5, 4), (5, 5), (5, 6), (5, 7), (5, 8), (5, 9)] [(89, 0, 1, 40), (21, 0, 1, 40), (8, 0, 1, 6)] hn := P.rr (a := 88) (i := 0) (v := 89) eqn (by decide +kernel) [(88, 1), (88, 2), (88, 3), (88, 4), (19, 1), (5, 3), (5, 4), (5, 5), (5, 6), (5, 7), (5, 8), (5, 9)] (by decide +kernel)
  clear eqn
  (try rw [P.1])
  intro hn eqn
  replace P : PB L xs 153 [(88, 1), (88, 2), (88, 3), (88, 4), (19, 1), (5, 3), (5, 4), (5, 5), (5, 6), (5, 7), (5, 8), (5, 9)] [(89, 0, 1, 40), (21, 0, 1, 40), (8, 0, 1, 6)] hn := P.nm eqn (by decide) rfl (by decide +kernel) (by decide +kernel) (by decide +kernel) (by decide +kernel) (by decide +kernel)
  clear eqn
  refine ⟨by rw [P.sh 88 (z := (20, 0)) (by decide) (by decide) rfl], ?_⟩
  refine ⟨(by decide), ?_⟩
  intro hn eqn
  replace P : PB L xs 153 [(88, 2), (88, 3), (88, 4), (19, 1), (5, 3), (5, 4), (5, 5), (5, 6), (5, 7), (5, 8), (5, 9)] [(89, 0, 1, 40), (21, 0, 1, 40), (8, 0, 1, 6)] hn := P.rr (a := 88) (i := 1) (v := 132) eqn (by decide +kernel) [(88, 2), (88, 3), (88, 4), (19, 1), (5, 3), (5, 4), (5, 5), (5, 6), (5, 7), (5, 8), (5, 9)] (by decide +kernel)
  clear eqn
  (try rw [P.1])
  intro hn eqn
  replace P : PB L xs 154 [(88, 2), (88, 3), (88, 4), (19, 1), (5, 3), (5, 4), (5, 5), (5, 6), (5, 7), (5, 8), (5, 9)] [(89, 0, 1, 40), (21, 0, 1, 40), (8, 0, 1, 6)] hn := P.nw eqn rfl (by decide) [(88, 2), (88, 3), (88, 4), (19, 1), (5, 3), (5, 4), (5, 5), (5, 6), (5, 7), (5, 8), (5, 9)] (by decide +kernel) (by decide +kernel) (by decide +kernel)
  clear eqn
  refine ⟨by rw [P.sh 88 (z := (20, 0)) (by decide) (by decide) rfl], ?_⟩
  refine ⟨(by decide), ?_⟩
  intro hn eqn
  replace P : PB L xs 154 [(88, 3), (88, 4), (19, 1), (5, 3), (5, 4), (5, 5), (5, 6), (5, 7), (5, 8), (5, 9)] [(89, 0, 1, 40), (21, 0, 1, 40), (8, 0, 1, 6)] hn := P.rr (a := 88) (i := 2) (v := 153) eqn (by decide +kernel) [(88, 3), (88, 4), (19, 1), (5, 3), (5, 4), (5, 5), (5, 6), (5, 7), (5, 8), (5, 9)] (by decide +kernel)
  clear eqn
  (try rw [P.1])
  intro hn eqn
  replace P : PB L xs 155 [(88, 3), (88, 4), (19, 1), (5, 3), (5, 4), (5, 5), (5, 6), (5, 7), (5, 8), (5, 9)] [(89, 0, 1, 40), (21, 0, 1, 40), (8, 0, 1, 6)] hn := P.nw eqn rfl (by decide) [(88, 3), (88, 4), (19, 1), (5, 3), (5, 4), (5, 5), (5, 6), (5, 7), (5, 8), (5, 9)] (by decide +kernel) (by decide +kernel) (by decide +kernel)
  clear eqn
  refine ⟨by rw [P.sh 88 (z := (20, 0)) (by decide) (by decide) rfl], ?_⟩
  refine ⟨(by decide), ?_⟩
  intro hn eqn
  replace P : PB L xs 155 [(88, 4), (19, 1), (5, 3), (5, 4), (5, 5), (5, 6), (5, 7), (5, 8), (5, 9)] [(89, 0, 1, 40), (21, 0, 1, 40), (8, 0, 1, 6)] hn := P.rr (a := 88) (i := 3) (v := 154) eqn (by decide +kernel) [(88, 4), (19, 1), (5, 3), (5, 4), (5, 5), (5, 6), (5, 7), (5, 8), (5, 9)] (by decide +kernel)
  clear eqn
  (try rw [P.1])
  intro hn eqn
  replace P : PB L xs 156 [(88, 4), (19, 1), (5, 3), (5, 4), (5, 5), (5, 6), (5, 7), (5, 8), (5, 9)] [(89, 0, 1, 40), (21, 0, 1, 40), (8, 0, 1, 6)] hn := P.nw eqn rfl (by decide) [(88, 4), (19, 1), (5, 3), (5, 4), (5, 5), (5, 6), (5, 7), (5, 8), (5, 9)] (by decide +kernel) (by decide +kernel) (by decide +kernel)
  clear eqn
  refine ⟨by rw [P.sh 88 (z := (20, 0)) (by decide) (by decide) rfl], ?_⟩
  refine ⟨(by decide), ?_⟩
  intro hn eqn
  replace P : PB L xs 156 [(19, 1), (5, 3), (5, 4), (5, 5), (5, 6), (5, 7), (5, 8), (5, 9)] [(89, 0, 1, 40), (21, 0, 1, 40), (8, 0, 1, 6)] hn := P.rr (a := 88) (i := 4) (v := 155) eqn (by decide +kernel) [(19, 1), (5, 3), (5, 4), (5, 5), (5, 6), (5, 7), (5, 8), (5, 9)] (by decide +kernel)
  clear eqn
  refine ⟨by rw [P.sh 19 (z := (9, 2)) (by decide) (by decide) rfl], ?_⟩
  refine ⟨(by rw [P.sh 19 (z := (9, 2)) (by decide) (by decide) rfl]; exact vp_nI (j := 1) (by decide) (by decide)), ?_⟩
  refine ⟨by rw [P.sh 88 (z := (20, 0)) (by decide) (by decide) rfl], ?_⟩
  rw [e1c]
  intro hn eqn
  have Po := P
  replace P : PB L xs 156 [(5, 3), (5, 4), (5, 5), (5, 6), (5, 7), (5, 8), (5, 9)] [(89, 0, 1, 40), (21, 0, 1, 40), (8, 0, 1, 6)] hn := P.rr (a := 19) (i := 1) (v := 88) eqn (by decide +kernel) [(5, 3), (5, 4), (5, 5), (5, 6), (5, 7), (5, 8), (5, 9)] (by decide +kernel)
  clear eqn
  refine ⟨by rw [Po.sh 5 (z := (29, 0)) (by decide) (by decide) rfl], ?_⟩
  refine ⟨(by decide), ?_⟩
  intro hn eqn
  replace P : PB L xs 156 [(5, 4), (5, 5), (5, 6), (5, 7), (5, 8), (5, 9)] [(89, 0, 1, 40), (21, 0, 1, 40), (8, 0, 1, 6)] hn := P.rr (a := 5) (i := 3) (v := 19) eqn (by decide +kernel) [(5, 4), (5, 5), (5, 6), (5, 7), (5, 8), (5, 9)] (by decide +kernel)
  clear eqn
  (try rw [P.1])
  intro hn eqn
  replace P : PB L xs 157 [(156, 0), (156, 1), (156, 2), (156, 3), (156, 4), (5, 4), (5, 5), (5, 6), (5, 7), (5, 8), (5, 9)] [(89, 0, 1, 40), (21, 0, 1, 40), (8, 0, 1, 6)] hn := P.nw eqn rfl (by decide) [(156, 0), (156, 1), (156, 2), (156, 3), (156, 4), (5, 4), (5, 5), (5, 6), (5, 7), (5, 8), (5, 9)] (by decide +kernel) (by decide +kernel) (by decide +kernel)
  clear eqn
  refine eX0_init (a0 := 156) (by rw [P.1]; decide) ?_
  (try rw [P.1])
  intro hn eqn
  replace P : PB L xs 158 [(157, 1), (157, 2), (156, 0), (156, 1), (156, 2), (156, 3), (156, 4), (5, 4), (5, 5), (5, 6), (5, 7), (5, 8), (5, 9)] [(89, 0, 1, 40), (21, 0, 1, 40), (8, 0, 1, 6)] hn := P.nw eqn rfl (by decide) [(157, 1), (157, 2), (156, 0), (156, 1), (156, 2), (156, 3), (156, 4), (5, 4), (5, 5), (5, 6), (5, 7), (5, 8), (5, 9)] (by decide +kernel) (by decide +kernel) (by decide +kernel)
  clear eqn
  refine eX8_init_40 (a0 := 157) (by rw [P.1]; decide) ?_
  refine ⟨by rw [P.sh 157 (z := (28, 0)) (by decide) (by decide) rfl], ?_⟩
  intro hn eqn
  replace P : PB L xs 158 [(157, 1), (157, 2), (156, 0), (156, 1), (156, 2), (156, 3), (156, 4), (5, 4), (5, 5), (5, 6), (5, 7), (5, 8), (5, 9)] [(157, 0, 1, 40), (89, 0, 1, 40), (21, 0, 1, 40), (8, 0, 1, 6)] hn := P.ii eqn (by decide)
  clear eqn
  (try rw [P.1])
  intro hn eqn
  replace P : PB L xs 199 [(157, 1), (157, 2), (156, 0), (156, 1), (156, 2), (156, 3), (156, 4), (5, 4), (5, 5), (5, 6), (5, 7), (5, 8), (5, 9)] [(157, 0, 1, 40), (89, 0, 1, 40), (21, 0, 1, 40), (8, 0, 1, 6)] hn := P.nm eqn (by decide) rfl (by decide +kernel) (by decide +kernel) (by decide +kernel) (by decide +kernel) (by decide +kernel)
  clear eqn
  refine ⟨by rw [P.sh 157 (z := (28, 0)) (by decide) (by decide) rfl], ?_⟩
  refine ⟨(by decide), ?_⟩
  intro hn eqn
  replace P : PB L xs 199 [(157, 2), (156, 0), (156, 1), (156, 2), (156, 3), (156, 4), (5, 4), (5, 5), (5, 6), (5, 7), (5, 8), (5, 9)] [(157, 0, 1, 40), (89, 0, 1, 40), (21, 0, 1, 40), (8, 0, 1, 6)] hn := P.rr (a := 157) (i := 1) (v := 158) eqn (by decide +kernel) [(157, 2), (156, 0), (156, 1), (156, 2), (156, 3), (156, 4), (5, 4), (5, 5), (5, 6), (5, 7), (5, 8), (5, 9)] (by decide +kernel)
  clear eqn
  (try rw [P.1])
  intro hn eqn
  replace P : PB L xs 200 [(157, 2), (156, 0), (156, 1), (156, 2), (156, 3), (156, 4), (5, 4), (5, 5), (5, 6), (5, 7), (5, 8), (5, 9)] [(157, 0, 1, 40), (89, 0, 1, 40), (21, 0, 1, 40), (8, 0, 1, 6)] hn := P.nw eqn rfl (by decide) [(157, 2), (156, 0), (156, 1), (156, 2), (156, 3), (156, 4), (5, 4), (5, 5), (5, 6), (5, 7), (5, 8), (5, 9)] (by decide +kernel) (by decide +kernel) (by decide +kernel)
  clear eqn
  refine ⟨by rw [P.sh 157 (z := (28, 0)) (by decide) (by decide) rfl], ?_⟩
  refine ⟨(by decide), ?_⟩
  intro hn eqn
  replace P : PB L xs 200 [(156, 0), (156, 1), (156, 2), (156, 3), (156, 4), (5, 4), (5, 5), (5, 6), (5, 7), (5, 8), (5, 9)] [(157, 0, 1, 40), (89, 0, 1, 40), (21, 0, 1, 40), (8, 0, 1, 6)] hn := P.rr (a := 157) (i := 2) (v := 199) eqn (by decide +kernel) [(156, 0), (156, 1), (156, 2), (156, 3), (156, 4), (5, 4), (5, 5), (5, 6), (5, 7), (5, 8), (5, 9)] (by decide +kernel)
  clear eqn
  refine ⟨by rw [P.sh 156 (z := (20, 0)) (by decide) (by decide) rfl], ?_⟩
  refine ⟨(by decide), ?_⟩
  intro hn eqn
  replace P : PB L xs 200 [(156, 1), (156, 2), (156, 3), (156, 4), (5, 4), (5, 5), (5, 6), (5, 7), (5, 8), (5, 9)] [(157, 0, 1, 40), (89, 0, 1, 40), (21, 0, 1, 40), (8, 0, 1, 6)] hn := P.rr (a := 156) (i := 0) (v := 157) eqn (by decide +kernel) [(156, 1), (156, 2), (156, 3), (156, 4), (5, 4), (5, 5), (5, 6), (5, 7), (5, 8), (5, 9)] (by decide +kernel)
  clear eqn
  (try rw [P.1])
  intro hn eqn
  replace P : PB L xs 221 [(156, 1), (156, 2), (156, 3), (156, 4), (5, 4), (5, 5), (5, 6), (5, 7), (5, 8), (5, 9)] [(157, 0, 1, 40), (89, 0, 1, 40), (21, 0, 1, 40), (8, 0, 1, 6)] hn := P.nm eqn (by decide) rfl (by decide +kernel) (by decide +kernel) (by decide +kernel) (by decide +kernel) (by decide +kernel)
  clear eqn
  refine ⟨by rw [P.sh 156 (z := (20, 0)) (by decide) (by decide) rfl], ?_⟩
  refine ⟨(by decide), ?_⟩
  intro hn eqn
  replace P : PB L xs 221 [(156, 2), (156, 3), (156, 4), (5, 4), (5, 5), (5, 6), (5, 7), (5, 8), (5, 9)] [(157, 0, 1, 40), (89, 0, 1, 40), (21, 0, 1, 40), (8, 0, 1, 6)] hn := P.rr (a := 156) (i := 1) (v := 200) eqn (by decide +kernel) [(156, 2), (156, 3), (156, 4), (5, 4), (5, 5), (5, 6), (5, 7), (5, 8), (5, 9)] (by decide +kernel)
  clear eqn
  (try rw [P.1])
  intro hn eqn
  replace P : PB L xs 222 [(156, 2), (156, 3), (156, 4), (5, 4), (5, 5), (5, 6), (5, 7), (5, 8), (5, 9)] [(157, 0, 1, 40), (89, 0, 1, 40), (21, 0, 1, 40), (8, 0, 1, 6)] hn := P.nw eqn rfl (by decide) [(156, 2), (156, 3), (156, 4), (5, 4), (5, 5), (5, 6), (5, 7), (5, 8), (5, 9)] (by decide +kernel) (by decide +kernel) (by decide +kernel)
  clear eqn
  refine ⟨by rw [P.sh 156 (z := (20, 0)) (by decide) (by decide) rfl], ?_⟩
  refine ⟨(by decide), ?_⟩
  intro hn eqn
  replace P : PB L xs 222 [(156, 3), (156, 4), (5, 4), (5, 5), (5, 6), (5, 7), (5, 8), (5, 9)] [(157, 0, 1, 40), (89, 0, 1, 40), (21, 0, 1, 40), (8, 0, 1, 6)] hn := P.rr (a := 156) (i := 2) (v := 221) eqn (by decide +kernel) [(156, 3), (156, 4), (5, 4), (5, 5), (5, 6), (5, 7), (5, 8), (5, 9)] (by decide +kernel)
  clear eqn
  (try rw [P.1])
  intro hn eqn
  replace P : PB L xs 223 [(156, 3), (156, 4), (5, 4), (5, 5), (5, 6), (5, 7), (5, 8), (5, 9)] [(157, 0, 1, 40), (89, 0, 1, 40), (21, 0, 1, 40), (8, 0, 1, 6)] hn := P.nw eqn rfl (by decide) [(156, 3), (156, 4), (5, 4), (5, 5), (5, 6), (5, 7), (5, 8), (5, 9)] (by decide +kernel) (by decide +kernel) (by decide +kernel)
  clear eqn
  refine ⟨by rw [P.sh 156 (z := (20, 0)) (by decide) (by decide) rfl], ?_⟩
  refine ⟨(by decide), ?_⟩
  intro hn eqn
  replace P : PB L xs 223 [(156, 4), (5, 4), (5, 5), (5, 6), (5, 7), (5, 8), (5, 9)] [(157, 0, 1, 40), (89, 0, 1, 40), (21, 0, 1, 40), (8, 0, 1, 6)] hn := P.rr (a := 156) (i := 3) (v := 222) eqn (by decide +kernel) [(156, 4), (5, 4), (5, 5), (5, 6), (5, 7), (5, 8), (5, 9)] (by decide +kernel)
  clear eqn
  (try rw [P.1])
  intro hn eqn
  replace P : PB L xs 224 [(156, 4), (5, 4), (5, 5), (5, 6), (5, 7), (5, 8), (5, 9)] [(157, 0, 1, 40), (89, 0, 1, 40), (21, 0, 1, 40), (8, 0, 1, 6)] hn := P.nw eqn rfl (by decide) [(156, 4), (5, 4), (5, 5), (5, 6), (5, 7), (5, 8), (5, 9)] (by decide +kernel) (by decide +kernel) (by decide +kernel)
  clear eqn
  refine ⟨by rw [P.sh 156 (z := (20, 0)) (by decide) (by decide) rfl], ?_⟩
  refine ⟨(by decide), ?_⟩
  intro hn eqn
  replace P : PB L xs 224 [(5, 4), (5, 5), (5, 6), (5, 7), (5, 8), (5, 9)] [(157, 0, 1, 40), (89, 0, 1, 40), (21, 0, 1, 40), (8, 0, 1, 6)] hn := P.rr (a := 156) (i := 4) (v := 223) eqn (by decide +kernel) [(5, 4), (5, 5), (5, 6), (5, 7), (5, 8), (5, 9)] (by decide +kernel)
  clear eqn
  refine ⟨by rw [P.sh 5 (z := (29, 0)) (by decide) (by decide) rfl], ?_⟩
  refine ⟨(by decide), ?_⟩
  intro hn eqn
  replace P : PB L xs 224 [(5, 5), (5, 6), (5, 7), (5, 8), (5, 9)] [(157, 0, 1, 40), (89, 0, 1, 40), (21, 0, 1, 40), (8, 0, 1, 6)] hn := P.rr (a := 5) (i := 4) (v := 156) eqn (by decide +kernel) [(5, 5), (5, 6), (5, 7), (5, 8), (5, 9)] (by decide +kernel)
  clear eqn
  (try rw [P.1])
  intro hn eqn
  replace P : PB L xs 225 [(224, 0), (224, 1), (5, 5), (5, 6), (5, 7), (5, 8), (5, 9)] [(157, 0, 1, 40), (89, 0, 1, 40), (21, 0, 1, 40), (8, 0, 1, 6)] hn := P.nw eqn rfl (by decide) [(224, 0), (224, 1), (5, 5), (5, 6), (5, 7), (5, 8), (5, 9)] (by decide +kernel) (by decide +kernel) (by decide +kernel)
  clear eqn
  refine eX3_init (a0 := 224) (by rw [P.1]; decide) ?_
  (try rw [P.1])
  intro hn eqn
  replace P : PB L xs 226 [(224, 0), (224, 1), (5, 5), (5, 6), (5, 7), (5, 8), (5, 9)] [(157, 0, 1, 40), (89, 0, 1, 40), (21, 0, 1, 40), (8, 0, 1, 6)] hn := P.nw eqn rfl (by decide) [(224, 0), (224, 1), (5, 5), (5, 6), (5, 7), (5, 8), (5, 9)] (by decide +kernel) (by decide +kernel) (by decide +kernel)
  clear eqn
  refine ⟨by rw [P.sh 224 (z := (23, 0)) (by decide) (by decide) rfl], ?_⟩
  refine ⟨(by decide), ?_⟩
  intro hn eqn
  replace P : PB L xs 226 [(224, 1), (5, 5), (5, 6), (5, 7), (5, 8), (5, 9)] [(157, 0, 1, 40), (89, 0, 1, 40), (21, 0, 1, 40), (8, 0, 1, 6)] hn := P.rr (a := 224) (i := 0) (v := 225) eqn (by decide +kernel) [(224, 1), (5, 5), (5, 6), (5, 7), (5, 8), (5, 9)] (by decide +kernel)
  clear eqn
  (try rw [P.1])
  intro hn eqn
  replace P : PB L xs 227 [(224, 1), (5, 5), (5, 6), (5, 7), (5, 8), (5, 9)] [(157, 0, 1, 40), (89, 0, 1, 40), (21, 0, 1, 40), (8, 0, 1, 6)] hn := P.nw eqn rfl (by decide) [(224, 1), (5, 5), (5, 6), (5, 7), (5, 8), (5, 9)] (by decide +kernel) (by decide +kernel) (by decide +kernel)
  clear eqn
  refine ⟨by rw [P.sh 224 (z := (23, 0)) (by decide) (by decide) rfl], ?_⟩
  refine ⟨(by decide), ?_⟩
  intro hn eqn
  replace P : PB L xs 227 [(5, 5), (5, 6), (5, 7), (5, 8), (5, 9)] [(157, 0, 1, 40), (89, 0, 1, 40), (21, 0, 1, 40), (8, 0, 1, 6)] hn := P.rr (a := 224) (i := 1) (v := 226) eqn (by decide +kernel) [(5, 5), (5, 6), (5, 7), (5, 8), (5, 9)] (by decide +kernel)
  clear eqn
  rw [P.rf 224 0 (r := 225) (by decide) (by decide) (by decide +kernel) (by decide)]
  refine ⟨(by decide), ?_⟩
  refine sp_fillI (N := 20) (by decide) (P.sh 225 (z := (1, 20)) (by decide) (by decide) rfl) (fun hn gn ln xn => ?_)
  replace P : PB L xs 227 [(5, 5), (5, 6), (5, 7), (5, 8), (5, 9)] [(225, 0, 20, -1), (157, 0, 1, 40), (89, 0, 1, 40), (21, 0, 1, 40), (8, 0, 1, 6)] hn := P.fill gn xn (by decide) (by decide)
  clear gn ln xn
  refine ⟨by rw [P.sh 224 (z := (23, 0)) (by decide) (by decide) rfl], ?_⟩
  rw [P.rf 224 1 (r := 226) (by decide) (by decide) (by decide +kernel) (by decide)]
  refine ⟨(by decide), ?_⟩
  refine sp_fillI (N := 20) (by decide) (P.sh 226 (z := (1, 20)) (by decide) (by decide) rfl) (fun hn gn ln xn => ?_)
  replace P : PB L xs 227 [(5, 5), (5, 6), (5, 7), (5, 8), (5, 9)] [(226, 0, 20, -1), (225, 0, 20, -1), (157, 0, 1, 40), (89, 0, 1, 40), (21, 0, 1, 40), (8, 0, 1, 6)] hn := P.fill gn xn (by decide) (by decide)
  clear gn ln xn
  refine ⟨by rw [P.sh 5 (z := (29, 0)) (by decide) (by decide) rfl], ?_⟩
  refine ⟨(by decide), ?_⟩
  intro hn eqn
  replace P : PB L xs 227 [(5, 6), (5, 7), (5, 8), (5, 9)] [(226, 0, 20, -1), (225, 0, 20, -1), (157, 0, 1, 40), (89, 0, 1, 40), (21, 0, 1, 40), (8, 0, 1, 6)] hn := P.rr (a := 5) (i := 5) (v := 224) eqn (by decide +kernel) [(5, 6), (5, 7), (5, 8), (5, 9)] (by decide +kernel)
  clear eqn
  (try rw [P.1])
  intro hn eqn
  replace P : PB L xs 228 [(227, 0), (227, 1), (227, 2), (5, 6), (5, 7), (5, 8), (5, 9)] [(226, 0, 20, -1), (225, 0, 20, -1), (157, 0, 1, 40), (89, 0, 1, 40), (21, 0, 1, 40), (8, 0, 1, 6)] hn := P.nw eqn rfl (by decide) [(227, 0), (227, 1), (227, 2), (5, 6), (5, 7), (5, 8), (5, 9)] (by decide +kernel) (by decide +kernel) (by decide +kernel)
  clear eqn
  refine eX4_init (a0 := 227) (by rw [P.1]; decide) ?_
  (try rw [P.1])
  intro hn eqn
  replace P : PB L xs 269 [(227, 0), (227, 1), (227, 2), (5, 6), (5, 7), (5, 8), (5, 9)] [(226, 0, 20, -1), (225, 0, 20, -1), (157, 0, 1, 40), (89, 0, 1, 40), (21, 0, 1, 40), (8, 0, 1, 6)] hn := P.nm eqn (by decide) rfl (by decide +kernel) (by decide +kernel) (by decide +kernel) (by decide +kernel) (by decide +kernel)
  clear eqn
  refine ⟨by rw [P.sh 227 (z := (24, 0)) (by decide) (by decide) rfl], ?_⟩
  refine ⟨(by decide), ?_⟩
  intro hn eqn
  replace P : PB L xs 269 [(227, 1), (227, 2), (5, 6), (5, 7), (5, 8), (5, 9)] [(226, 0, 20, -1), (225, 0, 20, -1), (157, 0, 1, 40), (89, 0, 1, 40), (21, 0, 1, 40), (8, 0, 1, 6)] hn := P.rr (a := 227) (i := 0) (v := 228) eqn (by decide +kernel) [(227, 1), (227, 2), (5, 6), (5, 7), (5, 8), (5, 9)] (by decide +kernel)
  clear eqn
  (try rw [P.1])
  intro hn eqn
  replace P : PB L xs 310 [(227, 1), (227, 2), (5, 6), (5, 7), (5, 8), (5, 9)] [(226, 0, 20, -1), (225, 0, 20, -1), (157, 0, 1, 40), (89, 0, 1, 40), (21, 0, 1, 40), (8, 0, 1, 6)] hn := P.nm eqn (by decide) rfl (by decide +kernel) (by decide +kernel) (by decide +kernel) (by decide +kernel) (by decide +kernel)
  clear eqn
  refine ⟨by rw [P.sh 227 (z := (24, 0)) (by decide) (by decide) rfl], ?_⟩
  refine ⟨(by decide), ?_⟩
  intro hn eqn
  replace P : PB L xs 310 [(227, 2), (5, 6), (5, 7), (5, 8), (5, 9)] [(226, 0, 20, -1), (225, 0, 20, -1), (157, 0, 1, 40), (89, 0, 1, 40), (21, 0, 1, 40), (8, 0, 1, 6)] hn := P.rr (a := 227) (i := 1) (v := 269) eqn (by decide +kernel) [(227, 2), (5, 6), (5, 7), (5, 8), (5, 9)] (by decide +kernel)
  clear eqn
  (try rw [P.1])
  intro hn eqn
  replace P : PB L xs 311 [(227, 2), (5, 6), (5, 7), (5, 8), (5, 9)] [(226, 0, 20, -1), (225, 0, 20, -1), (157, 0, 1, 40), (89, 0, 1, 40), (21, 0, 1, 40), (8, 0, 1, 6)] hn := P.nw eqn rfl (by decide) [(227, 2), (5, 6), (5, 7), (5, 8), (5, 9)] (by decide +kernel) (by decide +kernel) (by decide +kernel)
  clear eqn
  refine ⟨by rw [P.sh 227 (z := (24, 0)) (by decide) (by decide) rfl], ?_⟩
  refine ⟨(by decide), ?_⟩
  intro hn eqn
  replace P : PB L xs 311 [(5, 6), (5, 7), (5, 8), (5, 9)] [(226, 0, 20, -1), (225, 0, 20, -1), (157, 0, 1, 40), (89, 0, 1, 40), (21, 0, 1, 40), (8, 0, 1, 6)] hn := P.rr (a := 227) (i := 2) (v := 310) eqn (by decide +kernel) [(5, 6), (5, 7), (5, 8), (5, 9)] (by decide +kernel)
  clear eqn
  rw [P.rf 227 2 (r := 310) (by decide) (by decide) (by decide +kernel) (by decide)]
  refine ⟨(by decide), ?_⟩
  refine sp_fillI (N := 40) (by decide) (P.sh 310 (z := (1, 40)) (by decide) (by decide) rfl) (fun hn gn ln xn => ?_)
  replace P : PB L xs 311 [(5, 6), (5, 7), (5, 8), (5, 9)] [(310, 0, 40, -1), (226, 0, 20, -1), (225, 0, 20, -1), (157, 0, 1, 40), (89, 0, 1, 40), (21, 0, 1, 40), (8, 0, 1, 6)] hn := P.fill gn xn (by decide) (by decide)
  clear gn ln xn
  refine ⟨by rw [P.sh 5 (z := (29, 0)) (by decide) (by decide) rfl], ?_⟩
  refine ⟨(by decide), ?_⟩
  intro hn eqn
  replace P : PB L xs 311 [(5, 7), (5, 8), (5, 9)] [(310, 0, 40, -1), (226, 0, 20, -1), (225, 0, 20, -1), (157, 0, 1, 40), (89, 0, 1, 40), (21, 0, 1, 40), (8, 0, 1, 6)] hn := P.rr (a := 5) (i := 6) (v := 227) eqn (by decide +kernel) [(5, 7), (5, 8), (5, 9)] (by decide +kernel)
  clear eqn
  (try rw [P.1])
  intro hn eqn
  replace P : PB L xs 312 [(311, 4), (311, 5), (311, 6), (311, 7), (311, 8), (311, 9), (311, 10), (311, 13), (311, 14), (311, 15), (311, 16), (311, 0), (311, 1), (311, 2), (5, 7), (5, 8), (5, 9)] [(310, 0, 40, -1), (226, 0, 20, -1), (225, 0, 20, -1), (157, 0, 1, 40), (89, 0, 1, 40), (21, 0, 1, 40), (8, 0, 1, 6)] hn := P.nw eqn rfl (by decide) [(311, 4), (311, 5), (311, 6), (311, 7), (311, 8), (311, 9), (311, 10), (311, 13), (311, 14), (311, 15), (311, 16), (311, 0), (311, 1), (311, 2), (5, 7), (5, 8), (5, 9)] (by decide +kernel) (by decide +kernel) (by decide +kernel)
  clear eqn
  refine ⟨by rw [P.sh 5 (z := (29, 0)) (by decide) (by decide) rfl], ?_⟩
  rw [P.rf 5 3 (r := 19) (by decide) (by decide) (by decide +kernel) (by decide)]
  refine ⟨(by decide), ?_⟩
  rw [P.rf 5 5 (r := 224) (by decide) (by decide) (by decide +kernel) (by decide)]
  refine ⟨(by decide), ?_⟩
  rw [P.rf 5 6 (r := 227) (by decide) (by decide) (by decide +kernel) (by decide)]
  refine ⟨(by decide), ?_⟩
  refine eX7_init (a0 := 311) (by rw [P.1]; decide) ?_
  (try rw [P.1])
  intro hn eqn
  replace P : PB L xs 313 [(311, 4), (311, 5), (311, 6), (311, 7), (311, 8), (311, 9), (311, 10), (311, 13), (311, 14), (311, 15), (311, 16), (311, 0), (311, 1), (311, 2), (5, 7), (5, 8), (5, 9)] [(310, 0, 40, -1), (226, 0, 20, -1), (225, 0, 20, -1), (157, 0, 1, 40), (89, 0, 1, 40), (21, 0, 1, 40), (8, 0, 1, 6)] hn := P.nw eqn rfl (by decide) [(311, 4), (311, 5), (311, 6), (311, 7), (311, 8), (311, 9), (311, 10), (311, 13), (311, 14), (311, 15), (311, 16), (311, 0), (311, 1), (311, 2), (5, 7), (5, 8), (5, 9)] (by decide +kernel) (by decide +kernel) (by decide +kernel)
  clear eqn
  refine ⟨by rw [P.sh 311 (z := (27, 0)) (by decide) (by decide) rfl], ?_⟩
  refine ⟨(by decide), ?_⟩
  intro hn eqn
  replace P : PB L xs 313 [(311, 5), (311, 6), (311, 7), (311, 8), (311, 9), (311, 10), (311, 13), (311, 14), (311, 15), (311, 16), (311, 0), (311, 1), (311, 2), (5, 7), (5, 8), (5, 9)] [(310, 0, 40, -1), (226, 0, 20, -1), (225, 0, 20, -1), (157, 0, 1, 40), (89, 0, 1, 40), (21, 0, 1, 40), (8, 0, 1, 6)] hn := P.rr (a := 311) (i := 4) (v := 312) eqn (by decide +kernel) [(311, 5), (311, 6), (311, 7), (311, 8), (311, 9), (311, 10), (311, 13), (311, 14), (311, 15), (311, 16), (311, 0), (311, 1), (311, 2), (5, 7), (5, 8), (5, 9)] (by decide +kernel)
  clear eqn
  (try rw [P.1])
  intro hn eqn
  replace P : PB L xs 314 [(311, 5), (311, 6), (311, 7), (311, 8), (311, 9), (311, 10), (311, 13), (311, 14), (311, 15), (311, 16), (311, 0), (311, 1), (311, 2), (5, 7), (5, 8), (5, 9)] [(310, 0, 40, -1), (226, 0, 20, -1), (225, 0, 20, -1), (157, 0, 1, 40), (89, 0, 1, 40), (21, 0, 1, 40), (8, 0, 1, 6)] hn := P.nw eqn rfl (by decide) [(311, 5), (311, 6), (311, 7), (311, 8), (311, 9), (311, 10), (311, 13), (311, 14), (311, 15), (311, 16), (311, 0), (311, 1), (311, 2), (5, 7), (5, 8), (5, 9)] (by decide +kernel) (by decide +kernel) (by decide +kernel)
  clear eqn
  refine ⟨by rw [P.sh 311 (z := (27, 0)) (by decide) (by decide) rfl], ?_⟩
  refine ⟨(by decide), ?_⟩
  intro hn eqn
  replace P : PB L xs 314 [(311, 6), (311, 7), (311, 8), (311, 9), (311, 10), (311, 13), (311, 14), (311, 15), (311, 16), (311, 0), (311, 1), (311, 2), (5, 7), (5, 8), (5, 9)] [(310, 0, 40, -1), (226, 0, 20, -1), (225, 0, 20, -1), (157, 0, 1, 40), (89, 0, 1, 40), (21, 0, 1, 40), (8, 0, 1, 6)] hn := P.rr (a := 311) (i := 5) (v := 313) eqn (by decide +kernel) [(311, 6), (311, 7), (311, 8), (311, 9), (311, 10), (311, 13), (311, 14), (311, 15), (311, 16), (311, 0), (311, 1), (311, 2), (5, 7), (5, 8), (5, 9)] (by decide +kernel)
  clear eqn
  (try rw [P.1])
  intro hn eqn
  replace P : PB L xs 315 [(311, 6), (311, 7), (311, 8), (311, 9), (311, 10), (311, 13), (311, 14), (311, 15), (311, 16), (311, 0), (311, 1), (311, 2), (5, 7), (5, 8), (5, 9)] [(310, 0, 40, -1), (226, 0, 20, -1), (225, 0, 20, -1), (157, 0, 1, 40), (89, 0, 1, 40), (21, 0, 1, 40), (8, 0, 1, 6)] hn := P.nw eqn rfl (by decide) [(311, 6), (311, 7), (311, 8), (311, 9), (311, 10), (311, 13), (311, 14), (311, 15), (311, 16), (311, 0), (311, 1), (311, 2), (5, 7), (5, 8), (5, 9)] (by decide +kernel) (by decide +kernel) (by decide +kernel)
  clear eqn
  refine ⟨by rw [P.sh 311 (z := (27, 0)) (by decide) (by decide) rfl], ?_⟩
  refine ⟨(by decide), ?_⟩
  intro hn eqn
  replace P : PB L xs 315 [(311, 7), (311, 8), (311, 9), (311, 10), (311, 13), (311, 14), (311, 15), (311, 16), (311, 0), (311, 1), (311, 2), (5, 7), (5, 8), (5, 9)] [(310, 0, 40, -1), (226, 0, 20, -1), (225, 0, 20, -1), (157, 0, 1, 40), (89, 0, 1, 40), (21, 0, 1, 40), (8, 0, 1, 6)] hn := P.rr (a := 311) (i := 6) (v := 314) eqn (by decide +kernel) [(311, 7), (311, 8), (311, 9), (311, 10), (311, 13), (311, 14), (311, 15), (311, 16), (311, 0), (311, 1), (311, 2), (5, 7), (5, 8), (5, 9)] (by decide +kernel)
  clear eqn
  (try rw [P.1])
  intro hn eqn
  replace P : PB L xs 316 [(311, 7), (311, 8), (311, 9), (311, 10), (311, 13), (311, 14), (311, 15), (311, 16), (311, 0), (311, 1), (311, 2), (5, 7), (5, 8), (5, 9)] [(310, 0, 40, -1), (226, 0, 20, -1), (225, 0, 20, -1), (157, 0, 1, 40), (89, 0, 1, 40), (21, 0, 1, 40), (8, 0, 1, 6)] hn := P.nw eqn rfl (by decide) [(311, 7), (311, 8), (311, 9), (311, 10), (311, 13), (311, 14), (311, 15), (311, 16), (311, 0), (311, 1), (311, 2), (5, 7), (5, 8), (5, 9)] (by decide +kernel) (by decide +kernel) (by decide +kernel)
  clear eqn
  refine ⟨by rw [P.sh 311 (z := (27, 0)) (by decide) (by decide) rfl], ?_⟩
  refine ⟨(by decide), ?_⟩
  intro hn eqn
  replace P : PB L xs 316 [(311, 8), (311, 9), (311, 10), (311, 13), (311, 14), (311, 15), (311, 16), (311, 0), (311, 1), (311, 2), (5, 7), (5, 8), (5, 9)] [(310, 0, 40, -1), (226, 0, 20, -1), (225, 0, 20, -1), (157, 0, 1, 40), (89, 0, 1, 40), (21, 0, 1, 40), (8, 0, 1, 6)] hn := P.rr (a := 311) (i := 7) (v := 315) eqn (by decide +kernel) [(311, 8), (311, 9), (311, 10), (311, 13), (311, 14), (311, 15), (311, 16), (311, 0), (311, 1), (311, 2), (5, 7), (5, 8), (5, 9)] (by decide +kernel)
  clear eqn
  (try rw [P.1])
  intro hn eqn
  replace P : PB L xs 317 [(311, 8), (311, 9), (311, 10), (311, 13), (311, 14), (311, 15), (311, 16), (311, 0), (311, 1), (311, 2), (5, 7), (5, 8), (5, 9)] [(310, 0, 40, -1), (226, 0, 20, -1), (225, 0, 20, -1), (157, 0, 1, 40), (89, 0, 1, 40), (21, 0, 1, 40), (8, 0, 1, 6)] hn := P.nw eqn rfl (by decide) [(311, 8), (311, 9), (311, 10), (311, 13), (311, 14), (311, 15), (311, 16), (311, 0), (311, 1), (311, 2), (5, 7), (5, 8), (5, 9)] (by decide +kernel) (by decide +kernel) (by decide +kernel)
  clear eqn
  refine ⟨by rw [P.sh 311 (z := (27, 0)) (by decide) (by decide) rfl], ?_⟩
  refine ⟨(by decide), ?_⟩
  intro hn eqn
  replace P : PB L xs 317 [(311, 9), (311, 10), (311, 13), (311, 14), (311, 15), (311, 16), (311, 0), (311, 1), (311, 2), (5, 7), (5, 8), (5, 9)] [(310, 0, 40, -1), (226, 0, 20, -1), (225, 0, 20, -1), (157, 0, 1, 40), (89, 0, 1, 40), (21, 0, 1, 40), (8, 0, 1, 6)] hn := P.rr (a := 311) (i := 8) (v := 316) eqn (by decide +kernel) [(311, 9), (311, 10), (311, 13), (311, 14), (311, 15), (311, 16), (311, 0), (311, 1), (311, 2), (5, 7), (5, 8), (5, 9)] (by decide +kernel)
  clear eqn
  (try rw [P.1])
  intro hn eqn
  replace P : PB L xs 318 [(311, 9), (311, 10), (311, 13), (311, 14), (311, 15), (311, 16), (311, 0), (311, 1), (311, 2), (5, 7), (5, 8), (5, 9)] [(310, 0, 40, -1), (226, 0, 20, -1), (225, 0, 20, -1), (157, 0, 1, 40), (89, 0, 1, 40), (21, 0, 1, 40), (8, 0, 1, 6)] hn := P.nw eqn rfl (by decide) [(311, 9), (311, 10), (311, 13), (311, 14), (311, 15), (311, 16), (311, 0), (311, 1), (311, 2), (5, 7), (5, 8), (5, 9)] (by decide +kernel) (by decide +kernel) (by decide +kernel)
  clear eqn
  refine ⟨by rw [P.sh 311 (z := (27, 0)) (by decide) (by decide) rfl], ?_⟩
  refine ⟨(by decide), ?_⟩
  intro hn eqn
  replace P : PB L xs 318 [(311, 10), (311, 13), (311, 14), (311, 15), (311, 16), (311, 0), (311, 1), (311, 2), (5, 7), (5, 8), (5, 9)] [(310, 0, 40, -1), (226, 0, 20, -1), (225, 0, 20, -1), (157, 0, 1, 40), (89, 0, 1, 40), (21, 0, 1, 40), (8, 0, 1, 6)] hn := P.rr (a := 311) (i := 9) (v := 317) eqn (by decide +kernel) [(311, 10), (311, 13), (311, 14), (311, 15), (311, 16), (311, 0), (311, 1), (311, 2), (5, 7), (5, 8), (5, 9)] (by decide +kernel)
  clear eqn
  (try rw [P.1])
  intro hn eqn
  replace P : PB L xs 319 [(311, 10), (311, 13), (311, 14), (311, 15), (311, 16), (311, 0), (311, 1), (311, 2), (5, 7), (5, 8), (5, 9)] [(310, 0, 40, -1), (226, 0, 20, -1), (225, 0, 20, -1), (157, 0, 1, 40), (89, 0, 1, 40), (21, 0, 1, 40), (8, 0, 1, 6)] hn := P.nw eqn rfl (by decide) [(311, 10), (311, 13), (311, 14), (311, 15), (311, 16), (311, 0), (311, 1), (311, 2), (5, 7), (5, 8), (5, 9)] (by decide +kernel) (by decide +kernel) (by decide +kernel)
  clear eqn
  refine ⟨by rw [P.sh 311 (z := (27, 0)) (by decide) (by decide) rfl], ?_⟩
  refine ⟨(by decide), ?_⟩
  intro hn eqn
  replace P : PB L xs 319 [(311, 13), (311, 14), (311, 15), (311, 16), (311, 0), (311, 1), (311, 2), (5, 7), (5, 8), (5, 9)] [(310, 0, 40, -1), (226, 0, 20, -1), (225, 0, 20, -1), (157, 0, 1, 40), (89, 0, 1, 40), (21, 0, 1, 40), (8, 0, 1, 6)] hn := P.rr (a := 311) (i := 10) (v := 318) eqn (by decide +kernel) [(311, 13), (311, 14), (311, 15), (311, 16), (311, 0), (311, 1), (311, 2), (5, 7), (5, 8), (5, 9)] (by decide +kernel)
  clear eqn
  (try rw [P.1])
  intro hn eqn
  replace P : PB L xs 320 [(311, 13), (311, 14), (311, 15), (311, 16), (311, 0), (311, 1), (311, 2), (5, 7), (5, 8), (5, 9)] [(310, 0, 40, -1), (226, 0, 20, -1), (225, 0, 20, -1), (157, 0, 1, 40), (89, 0, 1, 40), (21, 0, 1, 40), (8, 0, 1, 6)] hn := P.nw eqn rfl (by decide) [(311, 13), (311, 14), (311, 15), (311, 16), (311, 0), (311, 1), (311, 2), (5, 7), (5, 8), (5, 9)] (by decide +kernel) (by decide +kernel) (by decide +kernel)
  clear eqn
  refine ⟨by rw [P.sh 311 (z := (27, 0)) (by decide) (by decide) rfl], ?_⟩
  refine ⟨(by decide), ?_⟩
  intro hn eqn
  replace P : PB L xs 320 [(311, 14), (311, 15), (311, 16), (311, 0), (311, 1), (311, 2), (5, 7), (5, 8), (5, 9)] [(310, 0, 40, -1), (226, 0, 20, -1), (225, 0, 20, -1), (157, 0, 1, 40), (89, 0, 1, 40), (21, 0, 1, 40), (8, 0, 1, 6)] hn := P.rr (a := 311) (i := 13) (v := 319) eqn (by decide +kernel) [(311, 14), (311, 15), (311, 16), (311, 0), (311, 1), (311, 2), (5, 7), (5, 8), (5, 9)] (by decide +kernel)
  clear eqn
  (try rw [P.1])
  intro hn eqn
  replace P : PB L xs 321 [(311, 14), (311, 15), (311, 16), (311, 0), (311, 1), (311, 2), (5, 7), (5, 8), (5, 9)] [(310, 0, 40, -1), (226, 0, 20, -1), (225, 0, 20, -1), (157, 0, 1, 40), (89, 0, 1, 40), (21, 0, 1, 40), (8, 0, 1, 6)] hn := P.nw eqn rfl (by decide) [(311, 14), (311, 15), (311, 16), (311, 0), (311, 1), (311, 2), (5, 7), (5, 8), (5, 9)] (by decide +kernel) (by decide +kernel) (by decide +kernel)
  clear eqn
  refine ⟨by rw [P.sh 311 (z := (27, 0)) (by decide) (by decide) rfl], ?_⟩
  refine ⟨(by decide), ?_⟩
  intro hn eqn
  replace P : PB L xs 321 [(311, 15), (311, 16), (311, 0), (311, 1), (311, 2), (5, 7), (5, 8), (5, 9)] [(310, 0, 40, -1), (226, 0, 20, -1), (225, 0, 20, -1), (157, 0, 1, 40), (89, 0, 1, 40), (21, 0, 1, 40), (8, 0, 1, 6)] hn := P.rr (a := 311) (i := 14) (v := 320) eqn (by decide +kernel) [(311, 15), (311, 16), (311, 0), (311, 1), (311, 2), (5, 7), (5, 8), (5, 9)] (by decide +kernel)
  clear eqn
  (try rw [P.1])
  intro hn eqn
  replace P : PB L xs 322 [(311, 15), (311, 16), (311, 0), (311, 1), (311, 2), (5, 7), (5, 8), (5, 9)] [(310, 0, 40, -1), (226, 0, 20, -1), (225, 0, 20, -1), (157, 0, 1, 40), (89, 0, 1, 40), (21, 0, 1, 40), (8, 0, 1, 6)] hn := P.nw eqn rfl (by decide) [(311, 15), (311, 16), (311, 0), (311, 1), (311, 2), (5, 7), (5, 8), (5, 9)] (by decide +kernel) (by decide +kernel) (by decide +kernel)
  clear eqn
  refine ⟨by rw [P.sh 311 (z := (27, 0)) (by decide) (by decide) rfl], ?_⟩
  refine ⟨(by decide), ?_⟩
  intro hn eqn
  replace P : PB L xs 322 [(311, 16), (311, 0), (311, 1), (311, 2), (5, 7), (5, 8), (5, 9)] [(310, 0, 40, -1), (226, 0, 20, -1), (225, 0, 20, -1), (157, 0, 1, 40), (89, 0, 1, 40), (21, 0, 1, 40), (8, 0, 1, 6)] hn := P.rr (a := 311) (i := 15) (v := 321) eqn (by decide +kernel) [(311, 16), (311, 0), (311, 1), (311, 2), (5, 7), (5, 8), (5, 9)] (by decide +kernel)
  clear eqn
  (try rw [P.1])
  intro hn eqn
  replace P : PB L xs 323 [(311, 16), (311, 0), (311, 1), (311, 2), (5, 7), (5, 8), (5, 9)] [(310, 0, 40, -1), (226, 0, 20, -1), (225, 0, 20, -1), (157, 0, 1, 40), (89, 0, 1, 40), (21, 0, 1, 40), (8, 0, 1, 6)] hn := P.nw eqn rfl (by decide) [(311, 16), (311, 0), (311, 1), (311, 2), (5, 7), (5, 8), (5, 9)] (by decide +kernel) (by decide +kernel) (by decide +kernel)
  clear eqn
  refine ⟨by rw [P.sh 311 (z := (27, 0)) (by decide) (by decide) rfl], ?_⟩
  refine ⟨(by decide), ?_⟩
  intro hn eqn
  replace P : PB L xs 323 [(311, 0), (311, 1), (311, 2), (5, 7), (5, 8), (5, 9)] [(310, 0, 40, -1), (226, 0, 20, -1), (225, 0, 20, -1), (157, 0, 1, 40), (89, 0, 1, 40), (21, 0, 1, 40), (8, 0, 1, 6)] hn := P.rr (a := 311) (i := 16) (v := 322) eqn (by decide +kernel) [(311, 0), (311, 1), (311, 2), (5, 7), (5, 8), (5, 9)] (by decide +kernel)
  clear eqn
  refine ⟨(by decide), ?_⟩
  intro hn eqn
  replace P : PB L xs 323 [(311, 1), (311, 2), (5, 7), (5, 8), (5, 9)] [(310, 0, 40, -1), (226, 0, 20, -1), (225, 0, 20, -1), (157, 0, 1, 40), (89, 0, 1, 40), (21, 0, 1, 40), (8, 0, 1, 6)] hn := P.rr (a := 311) (i := 0) (v := 19) eqn (by decide +kernel) [(311, 1), (311, 2), (5, 7), (5, 8), (5, 9)] (by decide +kernel)
  clear eqn
  refine ⟨(by decide), ?_⟩
  intro hn eqn
  replace P : PB L xs 323 [(311, 2), (5, 7), (5, 8), (5, 9)] [(310, 0, 40, -1), (226, 0, 20, -1), (225, 0, 20, -1), (157, 0, 1, 40), (89, 0, 1, 40), (21, 0, 1, 40), (8, 0, 1, 6)] hn := P.rr (a := 311) (i := 1) (v := 224) eqn (by decide +kernel) [(311, 2), (5, 7), (5, 8), (5, 9)] (by decide +kernel)
  clear eqn
  refine ⟨(by decide), ?_⟩
  intro hn eqn
  replace P : PB L xs 323 [(5, 7), (5, 8), (5, 9)] [(310, 0, 40, -1), (226, 0, 20, -1), (225, 0, 20, -1), (157, 0, 1, 40), (89, 0, 1, 40), (21, 0, 1, 40), (8, 0, 1, 6)] hn := P.rr (a := 311) (i := 2) (v := 227) eqn (by decide +kernel) [(5, 7), (5, 8), (5, 9)] (by decide +kernel)
  clear eqn
  refine ⟨by rw [P.sh 5 (z := (29, 0)) (by decide) (by decide) rfl], ?_⟩
  refine ⟨(by decide), ?_⟩
  intro hn eqn
  replace P : PB L xs 323 [(5, 8), (5, 9)] [(310, 0, 40, -1), (226, 0, 20, -1), (225, 0, 20, -1), (157, 0, 1, 40), (89, 0, 1, 40), (21, 0, 1, 40), (8, 0, 1, 6)] hn := P.rr (a := 5) (i := 7) (v := 311) eqn (by decide +kernel) [(5, 8), (5, 9)] (by decide +kernel)
  clear eqn
  (try rw [P.1])
  intro hn eqn
  replace P : PB L xs 324 [(323, 3), (323, 4), (323, 7), (323, 8), (323, 9), (323, 10), (323, 0), (323, 1), (323, 2), (5, 8), (5, 9)] [(310, 0, 40, -1), (226, 0, 20, -1), (225, 0, 20, -1), (157, 0, 1, 40), (89, 0, 1, 40), (21, 0, 1, 40), (8, 0, 1, 6)] hn := P.nw eqn rfl (by decide) [(323, 3), (323, 4), (323, 7), (323, 8), (323, 9), (323, 10), (323, 0), (323, 1), (323, 2), (5, 8), (5, 9)] (by decide +kernel) (by decide +kernel) (by decide +kernel)
  clear eqn
  refine ⟨by rw [P.sh 5 (z := (29, 0)) (by decide) (by decide) rfl], ?_⟩
  rw [P.rf 5 3 (r := 19) (by decide) (by decide) (by decide +kernel) (by decide)]
  refine ⟨(by decide), ?_⟩
  rw [P.rf 5 7 (r := 311) (by decide) (by decide) (by decide +kernel) (by decide)]
  refine ⟨(by decide), ?_⟩
  rw [P.rf 5 6 (r := 227) (by decide) (by decide) (by decide +kernel) (by decide)]
  refine ⟨(by decide), ?_⟩
  refine eX2_init (a0 := 323) (by rw [P.1]; decide) ?_
  (try rw [P.1])
  intro hn eqn
  replace P : PB L xs 325 [(323, 3), (323, 4), (323, 7), (323, 8), (323, 9), (323, 10), (323, 0), (323, 1), (323, 2), (5, 8), (5, 9)] [(310, 0, 40, -1), (226, 0, 20, -1), (225, 0, 20, -1), (157, 0, 1, 40), (89, 0, 1, 40), (21, 0, 1, 40), (8, 0, 1, 6)] hn := P.nw eqn rfl (by decide) [(323, 3), (323, 4), (323, 7), (323, 8), (323, 9), (323, 10), (323, 0), (323, 1), (323, 2), (5, 8), (5, 9)] (by decide +kernel) (by decide +kernel) (by decide +kernel)
  clear eqn
  refine ⟨by rw [P.sh 323 (z := (22, 0)) (by decide) (by decide) rfl], ?_⟩
  refine ⟨(by decide), ?_⟩
  intro hn eqn
  replace P : PB L xs 325 [(323, 4), (323, 7), (323, 8), (323, 9), (323, 10), (323, 0), (323, 1), (323, 2), (5, 8), (5, 9)] [(310, 0, 40, -1), (226, 0, 20, -1), (225, 0, 20, -1), (157, 0, 1, 40), (89, 0, 1, 40), (21, 0, 1, 40), (8, 0, 1, 6)] hn := P.rr (a := 323) (i := 3) (v := 324) eqn (by decide +kernel) [(323, 4), (323, 7), (323, 8), (323, 9), (323, 10), (323, 0), (323, 1), (323, 2), (5, 8), (5, 9)] (by decide +kernel)
  clear eqn
  (try rw [P.1])
  intro hn eqn
  replace P : PB L xs 326 [(323, 4), (323, 7), (323, 8), (323, 9), (323, 10), (323, 0), (323, 1), (323, 2), (5, 8), (5, 9)] [(310, 0, 40, -1), (226, 0, 20, -1), (225, 0, 20, -1), (157, 0, 1, 40), (89, 0, 1, 40), (21, 0, 1, 40), (8, 0, 1, 6)] hn := P.nw eqn rfl (by decide) [(323, 4), (323, 7), (323, 8), (323, 9), (323, 10), (323, 0), (323, 1), (323, 2), (5, 8), (5, 9)] (by decide +kernel) (by decide +kernel) (by decide +kernel)
  clear eqn
  refine ⟨by rw [P.sh 323 (z := (22, 0)) (by decide) (by decide) rfl], ?_⟩
  refine ⟨(by decide), ?_⟩
  intro hn eqn
  replace P : PB L xs 326 [(323, 7), (323, 8), (323, 9), (323, 10), (323, 0), (323, 1), (323, 2), (5, 8), (5, 9)] [(310, 0, 40, -1), (226, 0, 20, -1), (225, 0, 20, -1), (157, 0, 1, 40), (89, 0, 1, 40), (21, 0, 1, 40), (8, 0, 1, 6)] hn := P.rr (a := 323) (i := 4) (v := 325) eqn (by decide +kernel) [(323, 7), (323, 8), (323, 9), (323, 10), (323, 0), (323, 1), (323, 2), (5, 8), (5, 9)] (by decide +kernel)
  clear eqn
  (try rw [P.1])
  intro hn eqn
  replace P : PB L xs 327 [(323, 7), (323, 8), (323, 9), (323, 10), (323, 0), (323, 1), (323, 2), (5, 8), (5, 9)] [(310, 0, 40, -1), (226, 0, 20, -1), (225, 0, 20, -1), (157, 0, 1, 40), (89, 0, 1, 40), (21, 0, 1, 40), (8, 0, 1, 6)] hn := P.nw eqn rfl (by decide) [(323, 7), (323, 8), (323, 9), (323, 10), (323, 0), (323, 1), (323, 2), (5, 8), (5, 9)] (by decide +kernel) (by decide +kernel) (by decide +kernel)
  clear eqn
  refine ⟨by rw [P.sh 323 (z := (22, 0)) (by decide) (by decide) rfl], ?_⟩
  refine ⟨(by decide), ?_⟩
  intro hn eqn
  replace P : PB L xs 327 [(323, 8), (323, 9), (323, 10), (323, 0), (323, 1), (323, 2), (5, 8), (5, 9)] [(310, 0, 40, -1), (226, 0, 20, -1), (225, 0, 20, -1), (157, 0, 1, 40), (89, 0, 1, 40), (21, 0, 1, 40), (8, 0, 1, 6)] hn := P.rr (a := 323) (i := 7) (v := 326) eqn (by decide +kernel) [(323, 8), (323, 9), (323, 10), (323, 0), (323, 1), (323, 2), (5, 8), (5, 9)] (by decide +kernel)
  clear eqn
  (try rw [P.1])
  intro hn eqn
  replace P : PB L xs 328 [(323, 8), (323, 9), (323, 10), (323, 0), (323, 1), (323, 2), (5, 8), (5, 9)] [(310, 0, 40, -1), (226, 0, 20, -1), (225, 0, 20, -1), (157, 0, 1, 40), (89, 0, 1, 40), (21, 0, 1, 40), (8, 0, 1, 6)] hn := P.nw eqn rfl (by decide) [(323, 8), (323, 9), (323, 10), (323, 0), (323, 1), (323, 2), (5, 8), (5, 9)] (by decide +kernel) (by decide +kernel) (by decide +kernel)
  clear eqn
  refine ⟨by rw [P.sh 323 (z := (22, 0)) (by decide) (by decide) rfl], ?_⟩
  refine ⟨(by decide), ?_⟩
  intro hn eqn
  replace P : PB L xs 328 [(323, 9), (323, 10), (323, 0), (323, 1), (323, 2), (5, 8), (5, 9)] [(310, 0, 40, -1), (226, 0, 20, -1), (225, 0, 20, -1), (157, 0, 1, 40), (89, 0, 1, 40), (21, 0, 1, 40), (8, 0, 1, 6)] hn := P.rr (a := 323) (i := 8) (v := 327) eqn (by decide +kernel) [(323, 9), (323, 10), (323, 0), (323, 1), (323, 2), (5, 8), (5, 9)] (by decide +kernel)
  clear eqn
  (try rw [P.1])
  intro hn eqn
  replace P : PB L xs 329 [(323, 9), (323, 10), (323, 0), (323, 1), (323, 2), (5, 8), (5, 9)] [(310, 0, 40, -1), (226, 0, 20, -1), (225, 0, 20, -1), (157, 0, 1, 40), (89, 0, 1, 40), (21, 0, 1, 40), (8, 0, 1, 6)] hn := P.nw eqn rfl (by decide) [(323, 9), (323, 10), (323, 0), (323, 1), (323, 2), (5, 8), (5, 9)] (by decide +kernel) (by decide +kernel) (by decide +kernel)
  clear eqn
  refine ⟨by rw [P.sh 323 (z := (22, 0)) (by decide) (by decide) rfl], ?_⟩
  refine ⟨(by decide), ?_⟩
  intro hn eqn
  replace P : PB L xs 329 [(323, 10), (323, 0), (323, 1), (323, 2), (5, 8), (5, 9)] [(310, 0, 40, -1), (226, 0, 20, -1), (225, 0, 20, -1), (157, 0, 1, 40), (89, 0, 1, 40), (21, 0, 1, 40), (8, 0, 1, 6)] hn := P.rr (a := 323) (i := 9) (v := 328) eqn (by decide +kernel) [(323, 10), (323, 0), (323, 1), (323, 2), (5, 8), (5, 9)] (by decide +kernel)
  clear eqn
  (try rw [P.1])
  intro hn eqn
  replace P : PB L xs 330 [(323, 10), (323, 0), (323, 1), (323, 2), (5, 8), (5, 9)] [(310, 0, 40, -1), (226, 0, 20, -1), (225, 0, 20, -1), (157, 0, 1, 40), (89, 0, 1, 40), (21, 0, 1, 40), (8, 0, 1, 6)] hn := P.nw eqn rfl (by decide) [(323, 10), (323, 0), (323, 1), (323, 2), (5, 8), (5, 9)] (by decide +kernel) (by decide +kernel) (by decide +kernel)
  clear eqn
  refine ⟨by rw [P.sh 323 (z := (22, 0)) (by decide) (by decide) rfl], ?_⟩
  refine ⟨(by decide), ?_⟩
  intro hn eqn
  replace P : PB L xs 330 [(323, 0), (323, 1), (323, 2), (5, 8), (5, 9)] [(310, 0, 40, -1), (226, 0, 20, -1), (225, 0, 20, -1), (157, 0, 1, 40), (89, 0, 1, 40), (21, 0, 1, 40), (8, 0, 1, 6)] hn := P.rr (a := 323) (i := 10) (v := 329) eqn (by decide +kernel) [(323, 0), (323, 1), (323, 2), (5, 8), (5, 9)] (by decide +kernel)
  clear eqn
  refine ⟨(by decide), ?_⟩
  intro hn eqn
  replace P : PB L xs 330 [(323, 1), (323, 2), (5, 8), (5, 9)] [(310, 0, 40, -1), (226, 0, 20, -1), (225, 0, 20, -1), (157, 0, 1, 40), (89, 0, 1, 40), (21, 0, 1, 40), (8, 0, 1, 6)] hn := P.rr (a := 323) (i := 0) (v := 19) eqn (by decide +kernel) [(323, 1), (323, 2), (5, 8), (5, 9)] (by decide +kernel)
  clear eqn
  refine ⟨(by decide), ?_⟩
  intro hn eqn
  replace P : PB L xs 330 [(323, 2), (5, 8), (5, 9)] [(310, 0, 40, -1), (226, 0, 20, -1), (225, 0, 20, -1), (157, 0, 1, 40), (89, 0, 1, 40), (21, 0, 1, 40), (8, 0, 1, 6)] hn := P.rr (a := 323) (i := 1) (v := 311) eqn (by decide +kernel) [(323, 2), (5, 8), (5, 9)] (by decide +kernel)
  clear eqn
  refine ⟨(by decide), ?_⟩
  intro hn eqn
  replace P : PB L xs 330 [(5, 8), (5, 9)] [(310, 0, 40, -1), (226, 0, 20, -1), (225, 0, 20, -1), (157, 0, 1, 40), (89, 0, 1, 40), (21, 0, 1, 40), (8, 0, 1, 6)] hn := P.rr (a := 323) (i := 2) (v := 227) eqn (by decide +kernel) [(5, 8), (5, 9)] (by decide +kernel)
  clear eqn
  refine ⟨by rw [P.sh 5 (z := (29, 0)) (by decide) (by decide) rfl], ?_⟩
  refine ⟨(by decide), ?_⟩
  intro hn eqn
  replace P : PB L xs 330 [(5, 9)] [(310, 0, 40, -1), (226, 0, 20, -1), (225, 0, 20, -1), (157, 0, 1, 40), (89, 0, 1, 40), (21, 0, 1, 40), (8, 0, 1, 6)] hn := P.rr (a := 5) (i := 8) (v := 323) eqn (by decide +kernel) [(5, 9)] (by decide +kernel)
  clear eqn
  (try rw [P.1])
  intro hn eqn
  replace P : PB L xs 331 [(5, 9), (330, 0), (330, 1), (330, 2), (330, 3), (330, 4), (330, 5), (330, 6), (330, 7)] [(310, 0, 40, -1), (226, 0, 20, -1), (225, 0, 20, -1), (157, 0, 1, 40), (89, 0, 1, 40), (21, 0, 1, 40), (8, 0, 1, 6)] hn := P.nw eqn rfl (by decide) [(5, 9), (330, 0), (330, 1), (330, 2), (330, 3), (330, 4), (330, 5), (330, 6), (330, 7)] (by decide +kernel) (by decide +kernel) (by decide +kernel)
  clear eqn
  refine ⟨by rw [P.sh 5 (z := (29, 0)) (by decide) (by decide) rfl], ?_⟩
  refine ⟨(by decide), ?_⟩
  intro hn eqn
  replace P : PB L xs 331 [(330, 0), (330, 1), (330, 2), (330, 3), (330, 4), (330, 5), (330, 6), (330, 7)] [(310, 0, 40, -1), (226, 0, 20, -1), (225, 0, 20, -1), (157, 0, 1, 40), (89, 0, 1, 40), (21, 0, 1, 40), (8, 0, 1, 6)] hn := P.rr (a := 5) (i := 9) (v := 330) eqn (by decide +kernel) [(330, 0), (330, 1), (330, 2), (330, 3), (330, 4), (330, 5), (330, 6), (330, 7)] (by decide +kernel)
  clear eqn
  rw [P.rf 5 9 (r := 330) (by decide) (by decide) (by decide +kernel) (by decide)]
  simp only [kk1, kk2, kk3, kk4, kk5, kk6, kk7, cc1, cc2, cc3, cc4, cc5, cc6, cc7, e0c]
  intro hn eqn
  replace P : PB L xs 331 [(330, 0), (330, 1), (330, 2), (330, 3), (330, 4), (330, 5), (330, 6), (330, 7)] [(5, 10, 11, 0), (310, 0, 40, -1), (226, 0, 20, -1), (225, 0, 20, -1), (157, 0, 1, 40), (89, 0, 1, 40), (21, 0, 1, 40), (8, 0, 1, 6)] hn := P.ii eqn (by decide)
  clear eqn
  intro hn eqn
  replace P : PB L xs 331 [(330, 0), (330, 1), (330, 2), (330, 3), (330, 4), (330, 5), (330, 6), (330, 7)] [(5, 11, 12, 1), (5, 10, 11, 0), (310, 0, 40, -1), (226, 0, 20, -1), (225, 0, 20, -1), (157, 0, 1, 40), (89, 0, 1, 40), (21, 0, 1, 40), (8, 0, 1, 6)] hn := P.ii eqn (by decide)
  clear eqn
  refine ⟨(by decide), ?_⟩
  (try rw [P.1])
  intro hn eqn
  replace P : PB L xs 332 [(331, 2), (330, 0), (330, 1), (330, 2), (330, 3), (330, 4), (330, 5), (330, 6), (330, 7)] [(5, 11, 12, 1), (5, 10, 11, 0), (310, 0, 40, -1), (226, 0, 20, -1), (225, 0, 20, -1), (157, 0, 1, 40), (89, 0, 1, 40), (21, 0, 1, 40), (8, 0, 1, 6)] hn := P.nw eqn rfl (by decide) [(331, 2), (330, 0), (330, 1), (330, 2), (330, 3), (330, 4), (330, 5), (330, 6), (330, 7)] (by decide +kernel) (by decide +kernel) (by decide +kernel)
  clear eqn
  refine eX5_init (a0 := 331) (by rw [P.1]; decide) ?_
  refine ⟨by rw [P.sh 331 (z := (25, 0)) (by decide) (by decide) rfl], ?_⟩
  intro hn eqn
  replace P : PB L xs 332 [(331, 2), (330, 0), (330, 1), (330, 2), (330, 3), (330, 4), (330, 5), (330, 6), (330, 7)] [(331, 0, 1, 0), (5, 11, 12, 1), (5, 10, 11, 0), (310, 0, 40, -1), (226, 0, 20, -1), (225, 0, 20, -1), (157, 0, 1, 40), (89, 0, 1, 40), (21, 0, 1, 40), (8, 0, 1, 6)] hn := P.ii eqn (by decide)
  clear eqn
  (try rw [P.1])
  intro hn eqn
  replace P : PB L xs 333 [(331, 2), (330, 0), (330, 1), (330, 2), (330, 3), (330, 4), (330, 5), (330, 6), (330, 7)] [(331, 0, 1, 0), (5, 11, 12, 1), (5, 10, 11, 0), (310, 0, 40, -1), (226, 0, 20, -1), (225, 0, 20, -1), (157, 0, 1, 40), (89, 0, 1, 40), (21, 0, 1, 40), (8, 0, 1, 6)] hn := P.nw eqn rfl (by decide) [(331, 2), (330, 0), (330, 1), (330, 2), (330, 3), (330, 4), (330, 5), (330, 6), (330, 7)] (by decide +kernel) (by decide +kernel) (by decide +kernel)
  clear eqn
  refine ⟨by rw [P.sh 331 (z := (25, 0)) (by decide) (by decide) rfl], ?_⟩
  refine ⟨(by decide), ?_⟩
  intro hn eqn
  replace P : PB L xs 333 [(330, 0), (330, 1), (330, 2), (330, 3), (330, 4), (330, 5), (330, 6), (330, 7)] [(331, 0, 1, 0), (5, 11, 12, 1), (5, 10, 11, 0), (310, 0, 40, -1), (226, 0, 20, -1), (225, 0, 20, -1), (157, 0, 1, 40), (89, 0, 1, 40), (21, 0, 1, 40), (8, 0, 1, 6)] hn := P.rr (a := 331) (i := 2) (v := 332) eqn (by decide +kernel) [(330, 0), (330, 1), (330, 2), (330, 3), (330, 4), (330, 5), (330, 6), (330, 7)] (by decide +kernel)
  clear eqn
  refine ⟨by rw [P.sh 330 (z := (10, 8)) (by decide) (by decide) rfl], ?_⟩
  refine ⟨(by rw [P.sh 330 (z := (10, 8)) (by decide) (by decide) rfl]; exact vp_nI (j := 0) (by decide) (by decide)), ?_⟩
  refine ⟨by rw [P.sh 331 (z := (25, 0)) (by decide) (by decide) rfl], ?_⟩
  intro hn eqn
  have Po := P
  replace P : PB L xs 333 [(330, 1), (330, 2), (330, 3), (330, 4), (330, 5), (330, 6), (330, 7)] [(331, 0, 1, 0), (5, 11, 12, 1), (5, 10, 11, 0), (310, 0, 40, -1), (226, 0, 20, -1), (225, 0, 20, -1), (157, 0, 1, 40), (89, 0, 1, 40), (21, 0, 1, 40), (8, 0, 1, 6)] hn := P.rr (a := 330) (i := 0) (v := 331) eqn (by decide +kernel) [(330, 1), (330, 2), (330, 3), (330, 4), (330, 5), (330, 6), (330, 7)] (by decide +kernel)
  clear eqn
  refine ⟨by rw [Po.sh 5 (z := (29, 0)) (by decide) (by decide) rfl], ?_⟩
  rw [P.rf 5 9 (r := 330) (by decide) (by decide) (by decide +kernel) (by decide)]
  refine ⟨(by decide), ?_⟩
  (try rw [P.1])
  intro hn eqn
  replace P : PB L xs 334 [(333, 2), (330, 1), (330, 2), (330, 3), (330, 4), (330, 5), (330, 6), (330, 7)] [(331, 0, 1, 0), (5, 11, 12, 1), (5, 10, 11, 0), (310, 0, 40, -1), (226, 0, 20, -1), (225, 0, 20, -1), (157, 0, 1, 40), (89, 0, 1, 40), (21, 0, 1, 40), (8, 0, 1, 6)] hn := P.nw eqn rfl (by decide) [(333, 2), (330, 1), (330, 2), (330, 3), (330, 4), (330, 5), (330, 6), (330, 7)] (by decide +kernel) (by decide +kernel) (by decide +kernel)
  clear eqn
  refine eX5_init (a0 := 333) (by rw [P.1]; decide) ?_
  refine ⟨by rw [P.sh 333 (z := (25, 0)) (by decide) (by decide) rfl], ?_⟩
  intro hn eqn
  replace P : PB L xs 334 [(333, 2), (330, 1), (330, 2), (330, 3), (330, 4), (330, 5), (330, 6), (330, 7)] [(333, 0, 1, 0), (331, 0, 1, 0), (5, 11, 12, 1), (5, 10, 11, 0), (310, 0, 40, -1), (226, 0, 20, -1), (225, 0, 20, -1), (157, 0, 1, 40), (89, 0, 1, 40), (21, 0, 1, 40), (8, 0, 1, 6)] hn := P.ii eqn (by decide)
  clear eqn
  (try rw [P.1])
  intro hn eqn
  replace P : PB L xs 335 [(333, 2), (330, 1), (330, 2), (330, 3), (330, 4), (330, 5), (330, 6), (330, 7)] [(333, 0, 1, 0), (331, 0, 1, 0), (5, 11, 12, 1), (5, 10, 11, 0), (310, 0, 40, -1), (226, 0, 20, -1), (225, 0, 20, -1), (157, 0, 1, 40), (89, 0, 1, 40), (21, 0, 1, 40), (8, 0, 1, 6)] hn := P.nw eqn rfl (by decide) [(333, 2), (330, 1), (330, 2), (330, 3), (330, 4), (330, 5), (330, 6), (330, 7)] (by decide +kernel) (by decide +kernel) (by decide +kernel)
  clear eqn
  refine ⟨by rw [P.sh 333 (z := (25, 0)) (by decide) (by decide) rfl], ?_⟩
  refine ⟨(by decide), ?_⟩
  intro hn eqn
  replace P : PB L xs 335 [(330, 1), (330, 2), (330, 3), (330, 4), (330, 5), (330, 6), (330, 7)] [(333, 0, 1, 0), (331, 0, 1, 0), (5, 11, 12, 1), (5, 10, 11, 0), (310, 0, 40, -1), (226, 0, 20, -1), (225, 0, 20, -1), (157, 0, 1, 40), (89, 0, 1, 40), (21, 0, 1, 40), (8, 0, 1, 6)] hn := P.rr (a := 333) (i := 2) (v := 334) eqn (by decide +kernel) [(330, 1), (330, 2), (330, 3), (330, 4), (330, 5), (330, 6), (330, 7)] (by decide +kernel)
  clear eqn
  refine ⟨by rw [P.sh 330 (z := (10, 8)) (by decide) (by decide) rfl], ?_⟩
  refine ⟨(by rw [P.sh 330 (z := (10, 8)) (by decide) (by decide) rfl]; exact vp_nI (j := 1) (by decide) (by decide)), ?_⟩
  refine ⟨by rw [P.sh 333 (z := (25, 0)) (by decide) (by decide) rfl], ?_⟩
  intro hn eqn
  have Po := P
  replace P : PB L xs 335 [(330, 2), (330, 3), (330, 4), (330, 5), (330, 6), (330, 7)] [(333, 0, 1, 0), (331, 0, 1, 0), (5, 11, 12, 1), (5, 10, 11, 0), (310, 0, 40, -1), (226, 0, 20, -1), (225, 0, 20, -1), (157, 0, 1, 40), (89, 0, 1, 40), (21, 0, 1, 40), (8, 0, 1, 6)] hn := P.rr (a := 330) (i := 1) (v := 333) eqn (by decide +kernel) [(330, 2), (330, 3), (330, 4), (330, 5), (330, 6), (330, 7)] (by decide +kernel)
  clear eqn
  refine ⟨by rw [Po.sh 5 (z := (29, 0)) (by decide) (by decide) rfl], ?_⟩
  rw [P.rf 5 9 (r := 330) (by decide) (by decide) (by decide +kernel) (by decide)]
  refine ⟨(by decide), ?_⟩
  (try rw [P.1])
  intro hn eqn
  replace P : PB L xs 336 [(335, 2), (330, 2), (330, 3), (330, 4), (330, 5), (330, 6), (330, 7)] [(333, 0, 1, 0), (331, 0, 1, 0), (5, 11, 12, 1), (5, 10, 11, 0), (310, 0, 40, -1), (226, 0, 20, -1), (225, 0, 20, -1), (157, 0, 1, 40), (89, 0, 1, 40), (21, 0, 1, 40), (8, 0, 1, 6)] hn := P.nw eqn rfl (by decide) [(335, 2), (330, 2), (330, 3), (330, 4), (330, 5), (330, 6), (330, 7)] (by decide +kernel) (by decide +kernel) (by decide +kernel)
  clear eqn
  refine eX5_init (a0 := 335) (by rw [P.1]; decide) ?_
  refine ⟨by rw [P.sh 335 (z := (25, 0)) (by decide) (by decide) rfl], ?_⟩
  intro hn eqn
  replace P : PB L xs 336 [(335, 2), (330, 2), (330, 3), (330, 4), (330, 5), (330, 6), (330, 7)] [(335, 0, 1, 0), (333, 0, 1, 0), (331, 0, 1, 0), (5, 11, 12, 1), (5, 10, 11, 0), (310, 0, 40, -1), (226, 0, 20, -1), (225, 0, 20, -1), (157, 0, 1, 40), (89, 0, 1, 40), (21, 0, 1, 40), (8, 0, 1, 6)] hn := P.ii eqn (by decide)
  clear eqn
  (try rw [P.1])
  intro hn eqn
  replace P : PB L xs 337 [(335, 2), (330, 2), (330, 3), (330, 4), (330, 5), (330, 6), (330, 7)] [(335, 0, 1, 0), (333, 0, 1, 0), (331, 0, 1, 0), (5, 11, 12, 1), (5, 10, 11, 0), (310, 0, 40, -1), (226, 0, 20, -1), (225, 0, 20, -1), (157, 0, 1, 40), (89, 0, 1, 40), (21, 0, 1, 40), (8, 0, 1, 6)] hn := P.nw eqn rfl (by decide) [(335, 2), (330, 2), (330, 3), (330, 4), (330, 5), (330, 6), (330, 7)] (by decide +kernel) (by decide +kernel) (by decide +kernel)
  clear eqn
  refine ⟨by rw [P.sh 335 (z := (25, 0)) (by decide) (by decide) rfl], ?_⟩
  refine ⟨(by decide), ?_⟩
  intro hn eqn
  replace P : PB L xs 337 [(330, 2), (330, 3), (330, 4), (330, 5), (330, 6), (330, 7)] [(335, 0, 1, 0), (333, 0, 1, 0), (331, 0, 1, 0), (5, 11, 12, 1), (5, 10, 11, 0), (310, 0, 40, -1), (226, 0, 20, -1), (225, 0, 20, -1), (157, 0, 1, 40), (89, 0, 1, 40), (21, 0, 1, 40), (8, 0, 1, 6)] hn := P.rr (a := 335) (i := 2) (v := 336) eqn (by decide +kernel) [(330, 2), (330, 3), (330, 4), (330, 5), (330, 6), (330, 7)] (by decide +kernel)
  clear eqn
  refine ⟨by rw [P.sh 330 (z := (10, 8)) (by decide) (by decide) rfl], ?_⟩
  refine ⟨(by rw [P.sh 330 (z := (10, 8)) (by decide) (by decide) rfl]; exact vp_nI (j := 2) (by decide) (by decide)), ?_⟩
  refine ⟨by rw [P.sh 335 (z := (25, 0)) (by decide) (by decide) rfl], ?_⟩
  intro hn eqn
  have Po := P
  replace P : PB L xs 337 [(330, 3), (330, 4), (330, 5), (330, 6), (330, 7)] [(335, 0, 1, 0), (333, 0, 1, 0), (331, 0, 1, 0), (5, 11, 12, 1), (5, 10, 11, 0), (310, 0, 40, -1), (226, 0, 20, -1), (225, 0, 20, -1), (157, 0, 1, 40), (89, 0, 1, 40), (21, 0, 1, 40), (8, 0, 1, 6)] hn := P.rr (a := 330) (i := 2) (v := 335) eqn (by decide +kernel) [(330, 3), (330, 4), (330, 5), (330, 6), (330, 7)] (by decide +kernel)
  clear eqn
  refine ⟨by rw [Po.sh 5 (z := (29, 0)) (by decide) (by decide) rfl], ?_⟩
  rw [P.rf 5 9 (r := 330) (by decide) (by decide) (by decide +kernel) (by decide)]
  refine ⟨(by decide), ?_⟩
  (try rw [P.1])
  intro hn eqn
  replace P : PB L xs 338 [(337, 2), (330, 3), (330, 4), (330, 5), (330, 6), (330, 7)] [(335, 0, 1, 0), (333, 0, 1, 0), (331, 0, 1, 0), (5, 11, 12, 1), (5, 10, 11, 0), (310, 0, 40, -1), (226, 0, 20, -1), (225, 0, 20, -1), (157, 0, 1, 40), (89, 0, 1, 40), (21, 0, 1, 40), (8, 0, 1, 6)] hn := P.nw eqn rfl (by decide) [(337, 2), (330, 3), (330, 4), (330, 5), (330, 6), (330, 7)] (by decide +kernel) (by decide +kernel) (by decide +kernel)
  clear eqn
  refine eX5_init (a0 := 337) (by rw [P.1]; decide) ?_
  refine ⟨by rw [P.sh 337 (z := (25, 0)) (by decide) (by decide) rfl], ?_⟩
  intro hn eqn
  replace P : PB L xs 338 [(337, 2), (330, 3), (330, 4), (330, 5), (330, 6), (330, 7)] [(337, 0, 1, 0), (335, 0, 1, 0), (333, 0, 1, 0), (331, 0, 1, 0), (5, 11, 12, 1), (5, 10, 11, 0), (310, 0, 40, -1), (226, 0, 20, -1), (225, 0, 20, -1), (157, 0, 1, 40), (89, 0, 1, 40), (21, 0, 1, 40), (8, 0, 1, 6)] hn := P.ii eqn (by decide)
  clear eqn
  (try rw [P.1])
  intro hn eqn
  replace P : PB L xs 339 [(337, 2), (330, 3), (330, 4), (330, 5), (330, 6), (330, 7)] [(337, 0, 1, 0), (335, 0, 1, 0), (333, 0, 1, 0), (331, 0, 1, 0), (5, 11, 12, 1), (5, 10, 11, 0), (310, 0, 40, -1), (226, 0, 20, -1), (225, 0, 20, -1), (157, 0, 1, 40), (89, 0, 1, 40), (21, 0, 1, 40), (8, 0, 1, 6)] hn := P.nw eqn rfl (by decide) [(337, 2), (330, 3), (330, 4), (330, 5), (330, 6), (330, 7)] (by decide +kernel) (by decide +kernel) (by decide +kernel)
  clear eqn
  refine ⟨by rw [P.sh 337 (z := (25, 0)) (by decide) (by decide) rfl], ?_⟩
  refine ⟨(by decide), ?_⟩
  intro hn eqn
  replace P : PB L xs 339 [(330, 3), (330, 4), (330, 5), (330, 6), (330, 7)] [(337, 0, 1, 0), (335, 0, 1, 0), (333, 0, 1, 0), (331, 0, 1, 0), (5, 11, 12, 1), (5, 10, 11, 0), (310, 0, 40, -1), (226, 0, 20, -1), (225, 0, 20, -1), (157, 0, 1, 40), (89, 0, 1, 40), (21, 0, 1, 40), (8, 0, 1, 6)] hn := P.rr (a := 337) (i := 2) (v := 338) eqn (by decide +kernel) [(330, 3), (330, 4), (330, 5), (330, 6), (330, 7)] (by decide +kernel)
  clear eqn
  refine ⟨by rw [P.sh 330 (z := (10, 8)) (by decide) (by decide) rfl], ?_⟩
  refine ⟨(by rw [P.sh 330 (z := (10, 8)) (by decide) (by decide) rfl]; exact vp_nI (j := 3) (by decide) (by decide)), ?_⟩
  refine ⟨by rw [P.sh 337 (z := (25, 0)) (by decide) (by decide) rfl], ?_⟩
  intro hn eqn
  have Po := P
  replace P : PB L xs 339 [(330, 4), (330, 5), (330, 6), (330, 7)] [(337, 0, 1, 0), (335, 0, 1, 0), (333, 0, 1, 0), (331, 0, 1, 0), (5, 11, 12, 1), (5, 10, 11, 0), (310, 0, 40, -1), (226, 0, 20, -1), (225, 0, 20, -1), (157, 0, 1, 40), (89, 0, 1, 40), (21, 0, 1, 40), (8, 0, 1, 6)] hn := P.rr (a := 330) (i := 3) (v := 337) eqn (by decide +kernel) [(330, 4), (330, 5), (330, 6), (330, 7)] (by decide +kernel)
  clear eqn
  refine ⟨by rw [Po.sh 5 (z := (29, 0)) (by decide) (by decide) rfl], ?_⟩
  rw [P.rf 5 9 (r := 330) (by decide) (by decide) (by decide +kernel) (by decide)]
  refine ⟨(by decide), ?_⟩
  (try rw [P.1])
  intro hn eqn
  replace P : PB L xs 340 [(339, 2), (330, 4), (330, 5), (330, 6), (330, 7)] [(337, 0, 1, 0), (335, 0, 1, 0), (333, 0, 1, 0), (331, 0, 1, 0), (5, 11, 12, 1), (5, 10, 11, 0), (310, 0, 40, -1), (226, 0, 20, -1), (225, 0, 20, -1), (157, 0, 1, 40), (89, 0, 1, 40), (21, 0, 1, 40), (8, 0, 1, 6)] hn := P.nw eqn rfl (by decide) [(339, 2), (330, 4), (330, 5), (330, 6), (330, 7)] (by decide +kernel) (by decide +kernel) (by decide +kernel)
  clear eqn
  refine eX5_init (a0 := 339) (by rw [P.1]; decide) ?_
  refine ⟨by rw [P.sh 339 (z := (25, 0)) (by decide) (by decide) rfl], ?_⟩
  intro hn eqn
  replace P : PB L xs 340 [(339, 2), (330, 4), (330, 5), (330, 6), (330, 7)] [(339, 0, 1, 0), (337, 0, 1, 0), (335, 0, 1, 0), (333, 0, 1, 0), (331, 0, 1, 0), (5, 11, 12, 1), (5, 10, 11, 0), (310, 0, 40, -1), (226, 0, 20, -1), (225, 0, 20, -1), (157, 0, 1, 40), (89, 0, 1, 40), (21, 0, 1, 40), (8, 0, 1, 6)] hn := P.ii eqn (by decide)
  clear eqn
  (try rw [P.1])
  intro hn eqn
  replace P : PB L xs 341 [(339, 2), (330, 4), (330, 5), (330, 6), (330, 7)] [(339, 0, 1, 0), (337, 0, 1, 0), (335, 0, 1, 0), (333, 0, 1, 0), (331, 0, 1, 0), (5, 11, 12, 1), (5, 10, 11, 0), (310, 0, 40, -1), (226, 0, 20, -1), (225, 0, 20, -1), (157, 0, 1, 40), (89, 0, 1, 40), (21, 0, 1, 40), (8, 0, 1, 6)] hn := P.nw eqn rfl (by decide) [(339, 2), (330, 4), (330, 5), (330, 6), (330, 7)] (by decide +kernel) (by decide +kernel) (by decide +kernel)
  clear eqn
  refine ⟨by rw [P.sh 339 (z := (25, 0)) (by decide) (by decide) rfl], ?_⟩
  refine ⟨(by decide), ?_⟩
  intro hn eqn
  replace P : PB L xs 341 [(330, 4), (330, 5), (330, 6), (330, 7)] [(339, 0, 1, 0), (337, 0, 1, 0), (335, 0, 1, 0), (333, 0, 1, 0), (331, 0, 1, 0), (5, 11, 12, 1), (5, 10, 11, 0), (310, 0, 40, -1), (226, 0, 20, -1), (225, 0, 20, -1), (157, 0, 1, 40), (89, 0, 1, 40), (21, 0, 1, 40), (8, 0, 1, 6)] hn := P.rr (a := 339) (i := 2) (v := 340) eqn (by decide +kernel) [(330, 4), (330, 5), (330, 6), (330, 7)] (by decide +kernel)
  clear eqn
  refine ⟨by rw [P.sh 330 (z := (10, 8)) (by decide) (by decide) rfl], ?_⟩
  refine ⟨(by rw [P.sh 330 (z := (10, 8)) (by decide) (by decide) rfl]; exact vp_nI (j := 4) (by decide) (by decide)), ?_⟩
  refine ⟨by rw [P.sh 339 (z := (25, 0)) (by decide) (by decide) rfl], ?_⟩
  intro hn eqn
  have Po := P
  replace P : PB L xs 341 [(330, 5), (330, 6), (330, 7)] [(339, 0, 1, 0), (337, 0, 1, 0), (335, 0, 1, 0), (333, 0, 1, 0), (331, 0, 1, 0), (5, 11, 12, 1), (5, 10, 11, 0), (310, 0, 40, -1), (226, 0, 20, -1), (225, 0, 20, -1), (157, 0, 1, 40), (89, 0, 1, 40), (21, 0, 1, 40), (8, 0, 1, 6)] hn := P.rr (a := 330) (i := 4) (v := 339) eqn (by decide +kernel) [(330, 5), (330, 6), (330, 7)] (by decide +kernel)
  clear eqn
  refine ⟨by rw [Po.sh 5 (z := (29, 0)) (by decide) (by decide) rfl], ?_⟩
  rw [P.rf 5 9 (r := 330) (by decide) (by decide) (by decide +kernel) (by decide)]
  refine ⟨(by decide), ?_⟩
  (try rw [P.1])
  intro hn eqn
  replace P : PB L xs 342 [(341, 2), (330, 5), (330, 6), (330, 7)] [(339, 0, 1, 0), (337, 0, 1, 0), (335, 0, 1, 0), (333, 0, 1, 0), (331, 0, 1, 0), (5, 11, 12, 1), (5, 10, 11, 0), (310, 0, 40, -1), (226, 0, 20, -1), (225, 0, 20, -1), (157, 0, 1, 40), (89, 0, 1, 40), (21, 0, 1, 40), (8, 0, 1, 6)] hn := P.nw eqn rfl (by decide) [(341, 2), (330, 5), (330, 6), (330, 7)] (by decide +kernel) (by decide +kernel) (by decide +kernel)
  clear eqn
  refine eX5_init (a0 := 341) (by rw [P.1]; decide) ?_
  refine ⟨by rw [P.sh 341 (z := (25, 0)) (by decide) (by decide) rfl], ?_⟩
  intro hn eqn
  replace P : PB L xs 342 [(341, 2), (330, 5), (330, 6), (330, 7)] [(341, 0, 1, 0), (339, 0, 1, 0), (337, 0, 1, 0), (335, 0, 1, 0), (333, 0, 1, 0), (331, 0, 1, 0), (5, 11, 12, 1), (5, 10, 11, 0), (310, 0, 40, -1), (226, 0, 20, -1), (225, 0, 20, -1), (157, 0, 1, 40), (89, 0, 1, 40), (21, 0, 1, 40), (8, 0, 1, 6)] hn := P.ii eqn (by decide)
  clear eqn
  (try rw [P.1])
  intro hn eqn
  replace P : PB L xs 343 [(341, 2), (330, 5), (330, 6), (330, 7)] [(341, 0, 1, 0), (339, 0, 1, 0), (337, 0, 1, 0), (335, 0, 1, 0), (333, 0, 1, 0), (331, 0, 1, 0), (5, 11, 12, 1), (5, 10, 11, 0), (310, 0, 40, -1), (226, 0, 20, -1), (225, 0, 20, -1), (157, 0, 1, 40), (89, 0, 1, 40), (21, 0, 1, 40), (8, 0, 1, 6)] hn := P.nw eqn rfl (by decide) [(341, 2), (330, 5), (330, 6), (330, 7)] (by decide +kernel) (by decide +kernel) (by decide +kernel)
  clear eqn
  refine ⟨by rw [P.sh 341 (z := (25, 0)) (by decide) (by decide) rfl], ?_⟩
  refine ⟨(by decide), ?_⟩
  intro hn eqn
  replace P : PB L xs 343 [(330, 5), (330, 6), (330, 7)] [(341, 0, 1, 0), (339, 0, 1, 0), (337, 0, 1, 0), (335, 0, 1, 0), (333, 0, 1, 0), (331, 0, 1, 0), (5, 11, 12, 1), (5, 10, 11, 0), (310, 0, 40, -1), (226, 0, 20, -1), (225, 0, 20, -1), (157, 0, 1, 40), (89, 0, 1, 40), (21, 0, 1, 40), (8, 0, 1, 6)] hn := P.rr (a := 341) (i := 2) (v := 342) eqn (by decide +kernel) [(330, 5), (330, 6), (330, 7)] (by decide +kernel)
  clear eqn
  refine ⟨by rw [P.sh 330 (z := (10, 8)) (by decide) (by decide) rfl], ?_⟩
  refine ⟨(by rw [P.sh 330 (z := (10, 8)) (by decide) (by decide) rfl]; exact vp_nI (j := 5) (by decide) (by decide)), ?_⟩
  refine ⟨by rw [P.sh 341 (z := (25, 0)) (by decide) (by decide) rfl], ?_⟩
  intro hn eqn
  have Po := P
  replace P : PB L xs 343 [(330, 6), (330, 7)] [(341, 0, 1, 0), (339, 0, 1, 0), (337, 0, 1, 0), (335, 0, 1, 0), (333, 0, 1, 0), (331, 0, 1, 0), (5, 11, 12, 1), (5, 10, 11, 0), (310, 0, 40, -1), (226, 0, 20, -1), (225, 0, 20, -1), (157, 0, 1, 40), (89, 0, 1, 40), (21, 0, 1, 40), (8, 0, 1, 6)] hn := P.rr (a := 330) (i := 5) (v := 341) eqn (by decide +kernel) [(330, 6), (330, 7)] (by decide +kernel)
  clear eqn
  refine ⟨by rw [Po.sh 5 (z := (29, 0)) (by decide) (by decide) rfl], ?_⟩
  rw [P.rf 5 9 (r := 330) (by decide) (by decide) (by decide +kernel) (by decide)]
  refine ⟨(by decide), ?_⟩
  (try rw [P.1])
  intro hn eqn
  replace P : PB L xs 344 [(343, 2), (330, 6), (330, 7)] [(341, 0, 1, 0), (339, 0, 1, 0), (337, 0, 1, 0), (335, 0, 1, 0), (333, 0, 1, 0), (331, 0, 1, 0), (5, 11, 12, 1), (5, 10, 11, 0), (310, 0, 40, -1), (226, 0, 20, -1), (225, 0, 20, -1), (157, 0, 1, 40), (89, 0, 1, 40), (21, 0, 1, 40), (8, 0, 1, 6)] hn := P.nw eqn rfl (by decide) [(343, 2), (330, 6), (330, 7)] (by decide +kernel) (by decide +kernel) (by decide +kernel)
  clear eqn
  refine eX5_init (a0 := 343) (by rw [P.1]; decide) ?_
  refine ⟨by rw [P.sh 343 (z := (25, 0)) (by decide) (by decide) rfl], ?_⟩
  intro hn eqn
  replace P : PB L xs 344 [(343, 2), (330, 6), (330, 7)] [(343, 0, 1, 0), (341, 0, 1, 0), (339, 0, 1, 0), (337, 0, 1, 0), (335, 0, 1, 0), (333, 0, 1, 0), (331, 0, 1, 0), (5, 11, 12, 1), (5, 10, 11, 0), (310, 0, 40, -1), (226, 0, 20, -1), (225, 0, 20, -1), (157, 0, 1, 40), (89, 0, 1, 40), (21, 0, 1, 40), (8, 0, 1, 6)] hn := P.ii eqn (by decide)
  clear eqn
  (try rw [P.1])
  intro hn eqn
  replace P : PB L xs 345 [(343, 2), (330, 6), (330, 7)] [(343, 0, 1, 0), (341, 0, 1, 0), (339, 0, 1, 0), (337, 0, 1, 0), (335, 0, 1, 0), (333, 0, 1, 0), (331, 0, 1, 0), (5, 11, 12, 1), (5, 10, 11, 0), (310, 0, 40, -1), (226, 0, 20, -1), (225, 0, 20, -1), (157, 0, 1, 40), (89, 0, 1, 40), (21, 0, 1, 40), (8, 0, 1, 6)] hn := P.nw eqn rfl (by decide) [(343, 2), (330, 6), (330, 7)] (by decide +kernel) (by decide +kernel) (by decide +kernel)
  clear eqn
  refine ⟨by rw [P.sh 343 (z := (25, 0)) (by decide) (by decide) rfl], ?_⟩
  refine ⟨(by decide), ?_⟩
  intro hn eqn
  replace P : PB L xs 345 [(330, 6), (330, 7)] [(343, 0, 1, 0), (341, 0, 1, 0), (339, 0, 1, 0), (337, 0, 1, 0), (335, 0, 1, 0), (333, 0, 1, 0), (331, 0, 1, 0), (5, 11, 12, 1), (5, 10, 11, 0), (310, 0, 40, -1), (226, 0, 20, -1), (225, 0, 20, -1), (157, 0, 1, 40), (89, 0, 1, 40), (21, 0, 1, 40), (8, 0, 1, 6)] hn := P.rr (a := 343) (i := 2) (v := 344) eqn (by decide +kernel) [(330, 6), (330, 7)] (by decide +kernel)
  clear eqn
  refine ⟨by rw [P.sh 330 (z := (10, 8)) (by decide) (by decide) rfl], ?_⟩
  refine ⟨(by rw [P.sh 330 (z := (10, 8)) (by decide) (by decide) rfl]; exact vp_nI (j := 6) (by decide) (by decide)), ?_⟩
  refine ⟨by rw [P.sh 343 (z := (25, 0)) (by decide) (by decide) rfl], ?_⟩
  intro hn eqn
  have Po := P
  replace P : PB L xs 345 [(330, 7)] [(343, 0, 1, 0), (341, 0, 1, 0), (339, 0, 1, 0), (337, 0, 1, 0), (335, 0, 1, 0), (333, 0, 1, 0), (331, 0, 1, 0), (5, 11, 12, 1), (5, 10, 11, 0), (310, 0, 40, -1), (226, 0, 20, -1), (225, 0, 20, -1), (157, 0, 1, 40), (89, 0, 1, 40), (21, 0, 1, 40), (8, 0, 1, 6)] hn := P.rr (a := 330) (i := 6) (v := 343) eqn (by decide +kernel) [(330, 7)] (by decide +kernel)
  clear eqn
  refine ⟨by rw [Po.sh 5 (z := (29, 0)) (by decide) (by decide) rfl], ?_⟩
  rw [P.rf 5 9 (r := 330) (by decide) (by decide) (by decide +kernel) (by decide)]
  refine ⟨(by decide), ?_⟩
  (try rw [P.1])
  intro hn eqn
  replace P : PB L xs 346 [(345, 2), (330, 7)] [(343, 0, 1, 0), (341, 0, 1, 0), (339, 0, 1, 0), (337, 0, 1, 0), (335, 0, 1, 0), (333, 0, 1, 0), (331, 0, 1, 0), (5, 11, 12, 1), (5, 10, 11, 0), (310, 0, 40, -1), (226, 0, 20, -1), (225, 0, 20, -1), (157, 0, 1, 40), (89, 0, 1, 40), (21, 0, 1, 40), (8, 0, 1, 6)] hn := P.nw eqn rfl (by decide) [(345, 2), (330, 7)] (by decide +kernel) (by decide +kernel) (by decide +kernel)
  clear eqn
  refine eX5_init (a0 := 345) (by rw [P.1]; decide) ?_
  refine ⟨by rw [P.sh 345 (z := (25, 0)) (by decide) (by decide) rfl], ?_⟩
  intro hn eqn
  replace P : PB L xs 346 [(345, 2), (330, 7)] [(345, 0, 1, 0), (343, 0, 1, 0), (341, 0, 1, 0), (339, 0, 1, 0), (337, 0, 1, 0), (335, 0, 1, 0), (333, 0, 1, 0), (331, 0, 1, 0), (5, 11, 12, 1), (5, 10, 11, 0), (310, 0, 40, -1), (226, 0, 20, -1), (225, 0, 20, -1), (157, 0, 1, 40), (89, 0, 1, 40), (21, 0, 1, 40), (8, 0, 1, 6)] hn := P.ii eqn (by decide)
  clear eqn
  (try rw [P.1])
  intro hn eqn
  replace P : PB L xs 347 [(345, 2), (330, 7)] [(345, 0, 1, 0), (343, 0, 1, 0), (341, 0, 1, 0), (339, 0, 1, 0), (337, 0, 1, 0), (335, 0, 1, 0), (333, 0, 1, 0), (331, 0, 1, 0), (5, 11, 12, 1), (5, 10, 11, 0), (310, 0, 40, -1), (226, 0, 20, -1), (225, 0, 20, -1), (157, 0, 1, 40), (89, 0, 1, 40), (21, 0, 1, 40), (8, 0, 1, 6)] hn := P.nw eqn rfl (by decide) [(345, 2), (330, 7)] (by decide +kernel) (by decide +kernel) (by decide +kernel)
  clear eqn
  refine ⟨by rw [P.sh 345 (z := (25, 0)) (by decide) (by decide) rfl], ?_⟩
  refine ⟨(by decide), ?_⟩
  intro hn eqn
  replace P : PB L xs 347 [(330, 7)] [(345, 0, 1, 0), (343, 0, 1, 0), (341, 0, 1, 0), (339, 0, 1, 0), (337, 0, 1, 0), (335, 0, 1, 0), (333, 0, 1, 0), (331, 0, 1, 0), (5, 11, 12, 1), (5, 10, 11, 0), (310, 0, 40, -1), (226, 0, 20, -1), (225, 0, 20, -1), (157, 0, 1, 40), (89, 0, 1, 40), (21, 0, 1, 40), (8, 0, 1, 6)] hn := P.rr (a := 345) (i := 2) (v := 346) eqn (by decide +kernel) [(330, 7)] (by decide +kernel)
  clear eqn
  refine ⟨by rw [P.sh 330 (z := (10, 8)) (by decide) (by decide) rfl], ?_⟩
  refine ⟨(by rw [P.sh 330 (z := (10, 8)) (by decide) (by decide) rfl]; exact vp_nI (j := 7) (by decide) (by decide)), ?_⟩
  refine ⟨by rw [P.sh 345 (z := (25, 0)) (by decide) (by decide) rfl], ?_⟩
  intro hn eqn
  have Po := P
  replace P : PB L xs 347 [] [(345, 0, 1, 0), (343, 0, 1, 0), (341, 0, 1, 0), (339, 0, 1, 0), (337, 0, 1, 0), (335, 0, 1, 0), (333, 0, 1, 0), (331, 0, 1, 0), (5, 11, 12, 1), (5, 10, 11, 0), (310, 0, 40, -1), (226, 0, 20, -1), (225, 0, 20, -1), (157, 0, 1, 40), (89, 0, 1, 40), (21, 0, 1, 40), (8, 0, 1, 6)] hn := P.rr (a := 330) (i := 7) (v := 345) eqn (by decide +kernel) [] (by decide +kernel)
  clear eqn
  exact K _ P
set_option maxRecDepth 100000 in
set_option maxHeartbeats 4000000 in
theorem init_M {w : Wd} {L : Nat} {xs : Nat → Int32} {h : Hp} {Q : Hp → Prop} (P : PB L xs 348 [(347, 0), (347, 2), (347, 3), (347, 5), (347, 6), (347, 7), (347, 8), (347, 9), (347, 10), (347, 11), (347, 12), (347, 13), (347, 14), (347, 17), (347, 18), (347, 20), (347, 23), (347, 24), (347, 25), (347, 26), (347, 27), (347, 33), (347, 34), (347, 37), (347, 38), (347, 42), (347, 43), (347, 44), (347, 46), (347, 47), (347, 49), (347, 51), (347, 52), (347, 53), (347, 54), (347, 55), (347, 56)] iv9 h) (K : ∀ h', PB L xs 385 [] iv9 h' → AC w mX10_loseTies 0 0 (rV Q) [.ref 347] h') : AC w mX10_init 37 8902 (rV Q) [.ref 347] h := by
  refine eX10_init (a0 := 347) (by rw [P.1]; decide) ?_
  (try rw [P.1])
  intro hn eqn
  replace P : PB L xs 349 [(347, 0), (347, 2), (347, 3), (347, 5), (347, 6), (347, 7), (347, 8), (347, 9), (347, 10), (347, 11), (347, 12), (347, 13), (347, 14), (347, 17), (347, 18), (347, 20), (347, 23), (347, 24), (347, 25), (347, 26), (347, 27), (347, 33), (347, 34), (347, 37), (347, 38), (347, 42), (347, 43), (347, 44), (347, 46), (347, 47), (347, 49), (347, 51), (347, 52), (347, 53), (347, 54), (347, 55), (347, 56)] iv9 hn := P.nw eqn rfl (by decide) [(347, 0), (347, 2), (347, 3), (347, 5), (347, 6), (347, 7), (347, 8), (347, 9), (347, 10), (347, 11), (347, 12), (347, 13), (347, 14), (347, 17), (347, 18), (347, 20), (347, 23), (347, 24), (347, 25), (347, 26), (347, 27), (347, 33), (347, 34), (347, 37), (347, 38), (347, 42), (347, 43), (347, 44), (347, 46), (347, 47), (347, 49), (347, 51), (347, 52), (347, 53), (347, 54), (347, 55), (347, 56)] (by decide +kernel) (by decide +kernel) (by decide +kernel)
  clear eqn
  refine ⟨by rw [P.sh 347 (z := (30, 0)) (by decide) (by decide) rfl], ?_⟩
  refine ⟨(by decide), ?_⟩
  intro hn eqn
  replace P : PB L xs 349 [(347, 2), (347, 3), (347, 5), (347, 6), (347, 7), (347, 8), (347, 9), (347, 10), (347, 11), (347, 12), (347, 13), (347, 14), (347, 17), (347, 18), (347, 20), (347, 23), (347, 24), (347, 25), (347, 26), (347, 27), (347, 33), (347, 34), (347, 37), (347, 38), (347, 42), (347, 43), (347, 44), (347, 46), (347, 47), (347, 49), (347, 51), (347, 52), (347, 53), (347, 54), (347, 55), (347, 56)] iv9 hn := P.rr (a := 347) (i := 0) (v := 348) eqn (by decide +kernel) [(347, 2), (347, 3), (347, 5), (347, 6), (347, 7), (347, 8), (347, 9), (347, 10), (347, 11), (347, 12), (347, 13), (347, 14), (347, 17), (347, 18), (347, 20), (347, 23), (347, 24), (347, 25), (347, 26), (347, 27), (347, 33), (347, 34), (347, 37), (347, 38), (347, 42), (347, 43), (347, 44), (347, 46), (347, 47), (347, 49), (347, 51), (347, 52), (347, 53), (347, 54), (347, 55), (347, 56)] (by decide +kernel)
  clear eqn
  (try rw [P.1])
  intro hn eqn
  replace P : PB L xs 350 [(347, 2), (347, 3), (347, 5), (347, 6), (347, 7), (347, 8), (347, 9), (347, 10), (347, 11), (347, 12), (347, 13), (347, 14), (347, 17), (347, 18), (347, 20), (347, 23), (347, 24), (347, 25), (347, 26), (347, 27), (347, 33), (347, 34), (347, 37), (347, 38), (347, 42), (347, 43), (347, 44), (347, 46), (347, 47), (347, 49), (347, 51), (347, 52), (347, 53), (347, 54), (347, 55), (347, 56)] iv9 hn := P.nw eqn rfl (by decide) [(347, 2), (347, 3), (347, 5), (347, 6), (347, 7), (347, 8), (347, 9), (347, 10), (347, 11), (347, 12), (347, 13), (347, 14), (347, 17), (347, 18), (347, 20), (347, 23), (347, 24), (347, 25), (347, 26), (347, 27), (347, 33), (347, 34), (347, 37), (347, 38), (347, 42), (347, 43), (347, 44), (347, 46), (347, 47), (347, 49), (347, 51), (347, 52), (347, 53), (347, 54), (347, 55), (347, 56)] (by decide +kernel) (by decide +kernel) (by decide +kernel)
  clear eqn
  refine ⟨by rw [P.sh 347 (z := (30, 0)) (by decide) (by decide) rfl], ?_⟩
  refine ⟨(by decide), ?_⟩
  intro hn eqn
  replace P : PB L xs 350 [(347, 3), (347, 5), (347, 6), (347, 7), (347, 8), (347, 9), (347, 10), (347, 11), (347, 12), (347, 13), (347, 14), (347, 17), (347, 18), (347, 20), (347, 23), (347, 24), (347, 25), (347, 26), (347, 27), (347, 33), (347, 34), (347, 37), (347, 38), (347, 42), (347, 43), (347, 44), (347, 46), (347, 47), (347, 49), (347, 51), (347, 52), (347, 53), (347, 54), (347, 55), (347, 56)] iv9 hn := P.rr (a := 347) (i := 2) (v := 349) eqn (by decide +kernel) [(347, 3), (347, 5), (347, 6), (347, 7), (347, 8), (347, 9), (347, 10), (347, 11), (347, 12), (347, 13), (347, 14), (347, 17), (347, 18), (347, 20), (347, 23), (347, 24), (347, 25), (347, 26), (347, 27), (347, 33), (347, 34), (347, 37), (347, 38), (347, 42), (347, 43), (347, 44), (347, 46), (347, 47), (347, 49), (347, 51), (347, 52), (347, 53), (347, 54), (347, 55), (347, 56)] (by decide +kernel)
  clear eqn
  (try rw [P.1])
  intro hn eqn
  replace P : PB L xs 351 [(347, 3), (347, 5), (347, 6), (347, 7), (347, 8), (347, 9), (347, 10), (347, 11), (347, 12), (347, 13), (347, 14), (347, 17), (347, 18), (347, 20), (347, 23), (347, 24), (347, 25), (347, 26), (347, 27), (347, 33), (347, 34), (347, 37), (347, 38), (347, 42), (347, 43), (347, 44), (347, 46), (347, 47), (347, 49), (347, 51), (347, 52), (347, 53), (347, 54), (347, 55), (347, 56)] iv9 hn := P.nw eqn rfl (by decide) [(347, 3), (347, 5), (347, 6), (347, 7), (347, 8), (347, 9), (347, 10), (347, 11), (347, 12), (347, 13), (347, 14), (347, 17), (347, 18), (347, 20), (347, 23), (347, 24), (347, 25), (347, 26), (347, 27), (347, 33), (347, 34), (347, 37), (347, 38), (347, 42), (347, 43), (347, 44), (347, 46), (347, 47), (347, 49), (347, 51), (347, 52), (347, 53), (347, 54), (347, 55), (347, 56)] (by decide +kernel) (by decide +kernel) (by decide +kernel)
  clear eqn
  refine ⟨by rw [P.sh 347 (z := (30, 0)) (by decide) (by decide) rfl], ?_⟩
  refine ⟨(by decide), ?_⟩
  intro hn eqn
  replace P : PB L xs 351 [(347, 5), (347, 6), (347, 7), (347, 8), (347, 9), (347, 10), (347, 11), (347, 12), (347, 13), (347, 14), (347, 17), (347, 18), (347, 20), (347, 23), (347, 24), (347, 25), (347, 26), (347, 27), (347, 33), (347, 34), (347, 37), (347, 38), (347, 42), (347, 43), (347, 44), (347, 46), (347, 47), (347, 49), (347, 51), (347, 52), (347, 53), (347, 54), (347, 55), (347, 56)] iv9 hn := P.rr (a := 347) (i := 3) (v := 350) eqn (by decide +kernel) [(347, 5), (347, 6), (347, 7), (347, 8), (347, 9), (347, 10), (347, 11), (347, 12), (347, 13), (347, 14), (347, 17), (347, 18), (347, 20), (347, 23), (347, 24), (347, 25), (347, 26), (347, 27), (347, 33), (347, 34), (347, 37), (347, 38), (347, 42), (347, 43), (347, 44), (347, 46), (347, 47), (347, 49), (347, 51), (347, 52), (347, 53), (347, 54), (347, 55), (347, 56)] (by decide +kernel)
  clear eqn
  (try rw [P.1])
  intro hn eqn
  replace P : PB L xs 352 [(347, 5), (347, 6), (347, 7), (347, 8), (347, 9), (347, 10), (347, 11), (347, 12), (347, 13), (347, 14), (347, 17), (347, 18), (347, 20), (347, 23), (347, 24), (347, 25), (347, 26), (347, 27), (347, 33), (347, 34), (347, 37), (347, 38), (347, 42), (347, 43), (347, 44), (347, 46), (347, 47), (347, 49), (347, 51), (347, 52), (347, 53), (347, 54), (347, 55), (347, 56)] iv9 hn := P.nw eqn rfl (by decide) [(347, 5), (347, 6), (347, 7), (347, 8), (347, 9), (347, 10), (347, 11), (347, 12), (347, 13), (347, 14), (347, 17), (347, 18), (347, 20), (347, 23), (347, 24), (347, 25), (347, 26), (347, 27), (347, 33), (347, 34), (347, 37), (347, 38), (347, 42), (347, 43), (347, 44), (347, 46), (347, 47), (347, 49), (347, 51), (347, 52), (347, 53), (347, 54), (347, 55), (347, 56)] (by decide +kernel) (by decide +kernel) (by decide +kernel)
  clear eqn
  refine ⟨by rw [P.sh 347 (z := (30, 0)) (by decide) (by decide) rfl], ?_⟩
  refine ⟨(by decide), ?_⟩
  intro hn eqn
  replace P : PB L xs 352 [(347, 6), (347, 7), (347, 8), (347, 9), (347, 10), (347, 11), (347, 12), (347, 13), (347, 14), (347, 17), (347, 18), (347, 20), (347, 23), (347, 24), (347, 25), (347, 26), (347, 27), (347, 33), (347, 34), (347, 37), (347, 38), (347, 42), (347, 43), (347, 44), (347, 46), (347, 47), (347, 49), (347, 51), (347, 52), (347, 53), (347, 54), (347, 55), (347, 56)] iv9 hn := P.rr (a := 347) (i := 5) (v := 351) eqn (by decide +kernel) [(347, 6), (347, 7), (347, 8), (347, 9), (347, 10), (347, 11), (347, 12), (347, 13), (347, 14), (347, 17), (347, 18), (347, 20), (347, 23), (347, 24), (347, 25), (347, 26), (347, 27), (347, 33), (347, 34), (347, 37), (347, 38), (347, 42), (347, 43), (347, 44), (347, 46), (347, 47), (347, 49), (347, 51), (347, 52), (347, 53), (347, 54), (347, 55), (347, 56)] (by decide +kernel)
  clear eqn
  (try rw [P.1])
  intro hn eqn
  replace P : PB L xs 353 [(347, 6), (347, 7), (347, 8), (347, 9), (347, 10), (347, 11), (347, 12), (347, 13), (347, 14), (347, 17), (347, 18), (347, 20), (347, 23), (347, 24), (347, 25), (347, 26), (347, 27), (347, 33), (347, 34), (347, 37), (347, 38), (347, 42), (347, 43), (347, 44), (347, 46), (347, 47), (347, 49), (347, 51), (347, 52), (347, 53), (347, 54), (347, 55), (347, 56)] iv9 hn := P.nw eqn rfl (by decide) [(347, 6), (347, 7), (347, 8), (347, 9), (347, 10), (347, 11), (347, 12), (347, 13), (347, 14), (347, 17), (347, 18), (347, 20), (347, 23), (347, 24), (347, 25), (347, 26), (347, 27), (347, 33), (347, 34), (347, 37), (347, 38), (347, 42), (347, 43), (347, 44), (347, 46), (347, 47), (347, 49), (347, 51), (347, 52), (347, 53), (347, 54), (347, 55), (347, 56)] (by decide +kernel) (by decide +kernel) (by decide +kernel)
  clear eqn
  refine ⟨by rw [P.sh 347 (z := (30, 0)) (by decide) (by decide) rfl], ?_⟩
  refine ⟨(by decide), ?_⟩
  intro hn eqn
  replace P : PB L xs 353 [(347, 7), (347, 8), (347, 9), (347, 10), (347, 11), (347, 12), (347, 13), (347, 14), (347, 17), (347, 18), (347, 20), (347, 23), (347, 24), (347, 25), (347, 26), (347, 27), (347, 33), (347, 34), (347, 37), (347, 38), (347, 42), (347, 43), (347, 44), (347, 46), (347, 47), (347, 49), (347, 51), (347, 52), (347, 53), (347, 54), (347, 55), (347, 56)] iv9 hn := P.rr (a := 347) (i := 6) (v := 352) eqn (by decide +kernel) [(347, 7), (347, 8), (347, 9), (347, 10), (347, 11), (347, 12), (347, 13), (347, 14), (347, 17), (347, 18), (347, 20), (347, 23), (347, 24), (347, 25), (347, 26), (347, 27), (347, 33), (347, 34), (347, 37), (347, 38), (347, 42), (347, 43), (347, 44), (347, 46), (347, 47), (347, 49), (347, 51), (347, 52), (347, 53), (347, 54), (347, 55), (347, 56)] (by decide +kernel)
  clear eqn
  (try rw [P.1])
  intro hn eqn
  replace P : PB L xs 354 [(347, 7), (347, 8), (347, 9), (347, 10), (347, 11), (347, 12), (347, 13), (347, 14), (347, 17), (347, 18), (347, 20), (347, 23), (347, 24), (347, 25), (347, 26), (347, 27), (347, 33), (347, 34), (347, 37), (347, 38), (347, 42), (347, 43), (347, 44), (347, 46), (347, 47), (347, 49), (347, 51), (347, 52), (347, 53), (347, 54), (347, 55), (347, 56)] iv9 hn := P.nw eqn rfl (by decide) [(347, 7), (347, 8), (347, 9), (347, 10), (347, 11), (347, 12), (347, 13), (347, 14), (347, 17), (347, 18), (347, 20), (347, 23), (347, 24), (347, 25), (347, 26), (347, 27), (347, 33), (347, 34), (347, 37), (347, 38), (347, 42), (347, 43), (347, 44), (347, 46), (347, 47), (347, 49), (347, 51), (347, 52), (347, 53), (347, 54), (347, 55), (347, 56)] (by decide +kernel) (by decide +kernel) (by decide +kernel)
  clear eqn
  refine ⟨by rw [P.sh 347 (z := (30, 0)) (by decide) (by decide) rfl], ?_⟩
  refine ⟨(by decide), ?_⟩
  intro hn eqn
  replace P : PB L xs 354 [(347, 8), (347, 9), (347, 10), (347, 11), (347, 12), (347, 13), (347, 14), (347, 17), (347, 18), (347, 20), (347, 23), (347, 24), (347, 25), (347, 26), (347, 27), (347, 33), (347, 34), (347, 37), (347, 38), (347, 42), (347, 43), (347, 44), (347, 46), (347, 47), (347, 49), (347, 51), (347, 52), (347, 53), (347, 54), (347, 55), (347, 56)] iv9 hn := P.rr (a := 347) (i := 7) (v := 353) eqn (by decide +kernel) [(347, 8), (347, 9), (347, 10), (347, 11), (347, 12), (347, 13), (347, 14), (347, 17), (347, 18), (347, 20), (347, 23), (347, 24), (347, 25), (347, 26), (347, 27), (347, 33), (347, 34), (347, 37), (347, 38), (347, 42), (347, 43), (347, 44), (347, 46), (347, 47), (347, 49), (347, 51), (347, 52), (347, 53), (347, 54), (347, 55), (347, 56)] (by decide +kernel)
  clear eqn
  (try rw [P.1])
  intro hn eqn
  replace P : PB L xs 355 [(347, 8), (347, 9), (347, 10), (347, 11), (347, 12), (347, 13), (347, 14), (347, 17), (347, 18), (347, 20), (347, 23), (347, 24), (347, 25), (347, 26), (347, 27), (347, 33), (347, 34), (347, 37), (347, 38), (347, 42), (347, 43), (347, 44), (347, 46), (347, 47), (347, 49), (347, 51), (347, 52), (347, 53), (347, 54), (347, 55), (347, 56)] iv9 hn := P.nw eqn rfl (by decide) [(347, 8), (347, 9), (347, 10), (347, 11), (347, 12), (347, 13), (347, 14), (347, 17), (347, 18), (347, 20), (347, 23), (347, 24), (347, 25), (347, 26), (347, 27), (347, 33), (347, 34), (347, 37), (347, 38), (347, 42), (347, 43), (347, 44), (347, 46), (347, 47), (347, 49), (347, 51), (347, 52), (347, 53), (347, 54), (347, 55), (347, 56)] (by decide +kernel) (by decide +kernel) (by decide +kernel)
  clear eqn
  refine ⟨by rw [P.sh 347 (z := (30, 0)) (by decide) (by decide) rfl], ?_⟩
  refine ⟨(by decide), ?_⟩
  intro hn eqn
  replace P : PB L xs 355 [(347, 9), (347, 10), (347, 11), (347, 12), (347, 13), (347, 14), (347, 17), (347, 18), (347, 20), (347, 23), (347, 24), (347, 25), (347, 26), (347, 27), (347, 33), (347, 34), (347, 37), (347, 38), (347, 42), (347, 43), (347, 44), (347, 46), (347, 47), (347, 49), (347, 51), (347, 52), (347, 53), (347, 54), (347, 55), (347, 56)] iv9 hn := P.rr (a := 347) (i := 8) (v := 354) eqn (by decide +kernel) [(347, 9), (347, 10), (347, 11), (347, 12), (347, 13), (347, 14), (347, 17), (347, 18), (347, 20), (347, 23), (347, 24), (347, 25), (347, 26), (347, 27), (347, 33), (347, 34), (347, 37), (347, 38), (347, 42), (347, 43), (347, 44), (347, 46), (347, 47), (347, 49), (347, 51), (347, 52), (347, 53), (347, 54), (347, 55), (347, 56)] (by decide +kernel)
  clear eqn
  (try rw [P.1])
  intro hn eqn
  replace P : PB L xs 356 [(347, 9), (347, 10), (347, 11), (347, 12), (347, 13), (347, 14), (347, 17), (347, 18), (347, 20), (347, 23), (347, 24), (347, 25), (347, 26), (347, 27), (347, 33), (347, 34), (347, 37), (347, 38), (347, 42), (347, 43), (347, 44), (347, 46), (347, 47), (347, 49), (347, 51), (347, 52), (347, 53), (347, 54), (347, 55), (347, 56)] iv9 hn := P.nw eqn rfl (by decide) [(347, 9), (347, 10), (347, 11), (347, 12), (347, 13), (347, 14), (347, 17), (347, 18), (347, 20), (347, 23), (347, 24), (347, 25), (347, 26), (347, 27), (347, 33), (347, 34), (347, 37), (347, 38), (347, 42), (347, 43), (347, 44), (347, 46), (347, 47), (347, 49), (347, 51), (347, 52), (347, 53), (347, 54), (347, 55), (347, 56)] (by decide +kernel) (by decide +kernel) (by decide +kernel)
  clear eqn
  refine ⟨by rw [P.sh 347 (z := (30, 0)) (by decide) (by decide) rfl], ?_⟩
  refine ⟨(by decide), ?_⟩
  intro hn eqn
  replace P : PB L xs 356 [(347, 10), (347, 11), (347, 12), (347, 13), (347, 14), (347, 17), (347, 18), (347, 20), (347, 23), (347, 24), (347, 25), (347, 26), (347, 27), (347, 33), (347, 34), (347, 37), (347, 38), (347, 42), (347, 43), (347, 44), (347, 46), (347, 47), (347, 49), (347, 51), (347, 52), (347, 53), (347, 54), (347, 55), (347, 56)] iv9 hn := P.rr (a := 347) (i := 9) (v := 355) eqn (by decide +kernel) [(347, 10), (347, 11), (347, 12), (347, 13), (347, 14), (347, 17), (347, 18), (347, 20), (347, 23), (347, 24), (347, 25), (347, 26), (347, 27), (347, 33), (347, 34), (347, 37), (347, 38), (347, 42), (347, 43), (347, 44), (347, 46), (347, 47), (347, 49), (347, 51), (347, 52), (347, 53), (347, 54), (347, 55), (347, 56)] (by decide +kernel)
  clear eqn
  (try rw [P.1])
  intro hn eqn
  replace P : PB L xs 357 [(347, 10), (347, 11), (347, 12), (347, 13), (347, 14), (347, 17), (347, 18), (347, 20), (347, 23), (347, 24), (347, 25), (347, 26), (347, 27), (347, 33), (347, 34), (347, 37), (347, 38), (347, 42), (347, 43), (347, 44), (347, 46), (347, 47), (347, 49), (347, 51), (347, 52), (347, 53), (347, 54), (347, 55), (347, 56)] iv9 hn := P.nw eqn rfl (by decide) [(347, 10), (347, 11), (347, 12), (347, 13), (347, 14), (347, 17), (347, 18), (347, 20), (347, 23), (347, 24), (347, 25), (347, 26), (347, 27), (347, 33), (347, 34), (347, 37), (347, 38), (347, 42), (347, 43), (347, 44), (347, 46), (347, 47), (347, 49), (347, 51), (347, 52), (347, 53), (347, 54), (347, 55), (347, 56)] (by decide +kernel) (by decide +kernel) (by decide +kernel)
  clear eqn
  refine ⟨by rw [P.sh 347 (z := (30, 0)) (by decide) (by decide) rfl], ?_⟩
  refine ⟨(by decide), ?_⟩
  intro hn eqn
  replace P : PB L xs 357 [(347, 11), (347, 12), (347, 13), (347, 14), (347, 17), (347, 18), (347, 20), (347, 23), (347, 24), (347, 25), (347, 26), (347, 27), (347, 33), (347, 34), (347, 37), (347, 38), (347, 42), (347, 43), (347, 44), (347, 46), (347, 47), (347, 49), (347, 51), (347, 52), (347, 53), (347, 54), (347, 55), (347, 56)] iv9 hn := P.rr (a := 347) (i := 10) (v := 356) eqn (by decide +kernel) [(347, 11), (347, 12), (347, 13), (347, 14), (347, 17), (347, 18), (347, 20), (347, 23), (347, 24), (347, 25), (347, 26), (347, 27), (347, 33), (347, 34), (347, 37), (347, 38), (347, 42), (347, 43), (347, 44), (347, 46), (347, 47), (347, 49), (347, 51), (347, 52), (347, 53), (347, 54), (347, 55), (347, 56)] (by decide +kernel)
  clear eqn
  (try rw [P.1])
  intro hn eqn
  replace P : PB L xs 358 [(347, 11), (347, 12), (347, 13), (347, 14), (347, 17), (347, 18), (347, 20), (347, 23), (347, 24), (347, 25), (347, 26), (347, 27), (347, 33), (347, 34), (347, 37), (347, 38), (347, 42), (347, 43), (347, 44), (347, 46), (347, 47), (347, 49), (347, 51), (347, 52), (347, 53), (347, 54), (347, 55), (347, 56)] iv9 hn := P.nw eqn rfl (by decide) [(347, 11), (347, 12), (347, 13), (347, 14), (347, 17), (347, 18), (347, 20), (347, 23), (347, 24), (347, 25), (347, 26), (347, 27), (347, 33), (347, 34), (347, 37), (347, 38), (347, 42), (347, 43), (347, 44), (347, 46), (347, 47), (347, 49), (347, 51), (347, 52), (347, 53), (347, 54), (347, 55), (347, 56)] (by decide +kernel) (by decide +kernel) (by decide +kernel)
  clear eqn
  refine ⟨by rw [P.sh 347 (z := (30, 0)) (by decide) (by decide) rfl], ?_⟩
  refine ⟨(by decide), ?_⟩
  intro hn eqn
  replace P : PB L xs 358 [(347, 12), (347, 13), (347, 14), (347, 17), (347, 18), (347, 20), (347, 23), (347, 24), (347, 25), (347, 26), (347, 27), (347, 33), (347, 34), (347, 37), (347, 38), (347, 42), (347, 43), (347, 44), (347, 46), (347, 47), (347, 49), (347, 51), (347, 52), (347, 53), (347, 54), (347, 55), (347, 56)] iv9 hn := P.rr (a := 347) (i := 11) (v := 357) eqn (by decide +kernel) [(347, 12), (347, 13), (347, 14), (347, 17), (347, 18), (347, 20), (347, 23), (347, 24), (347, 25), (347, 26), (347, 27), (347, 33), (347, 34), (347, 37), (347, 38), (347, 42), (347, 43), (347, 44), (347, 46), (347, 47), (347, 49), (347, 51), (347, 52), (347, 53), (347, 54), (347, 55), (347, 56)] (by decide +kernel)
  clear eqn
  (try rw [P.1])
  intro hn eqn
  replace P : PB L xs 359 [(347, 12), (347, 13), (347, 14), (347, 17), (347, 18), (347, 20), (347, 23), (347, 24), (347, 25), (347, 26), (347, 27), (347, 33), (347, 34), (347, 37), (347, 38), (347, 42), (347, 43), (347, 44), (347, 46), (347, 47), (347, 49), (347, 51), (347, 52), (347, 53), (347, 54), (347, 55), (347, 56)] iv9 hn := P.nw eqn rfl (by decide) [(347, 12), (347, 13), (347, 14), (347, 17), (347, 18), (347, 20), (347, 23), (347, 24), (347, 25), (347, 26), (347, 27), (347, 33), (347, 34), (347, 37), (347, 38), (347, 42), (347, 43), (347, 44), (347, 46), (347, 47), (347, 49), (347, 51), (347, 52), (347, 53), (347, 54), (347, 55), (347, 56)] (by decide +kernel) (by decide +kernel) (by decide +kernel)
  clear eqn
  refine ⟨by rw [P.sh 347 (z := (30, 0)) (by decide) (by decide) rfl], ?_⟩
  refine ⟨(by decide), ?_⟩
  intro hn eqn
  replace P : PB L xs 359 [(347, 13), (347, 14), (347, 17), (347, 18), (347, 20), (347, 23), (347, 24), (347, 25), (347, 26), (347, 27), (347, 33), (347, 34), (347, 37), (347, 38), (347, 42), (347, 43), (347, 44), (347, 46), (347, 47), (347, 49), (347, 51), (347, 52), (347, 53), (347, 54), (347, 55), (347, 56)] iv9 hn := P.rr (a := 347) (i := 12) (v := 358) eqn (by decide +kernel) [(347, 13), (347, 14), (347, 17), (347, 18), (347, 20), (347, 23), (347, 24), (347, 25), (347, 26), (347, 27), (347, 33), (347, 34), (347, 37), (347, 38), (347, 42), (347, 43), (347, 44), (347, 46), (347, 47), (347, 49), (347, 51), (347, 52), (347, 53), (347, 54), (347, 55), (347, 56)] (by decide +kernel)
  clear eqn
  (try rw [P.1])
  intro hn eqn
  replace P : PB L xs 360 [(347, 13), (347, 14), (347, 17), (347, 18), (347, 20), (347, 23), (347, 24), (347, 25), (347, 26), (347, 27), (347, 33), (347, 34), (347, 37), (347, 38), (347, 42), (347, 43), (347, 44), (347, 46), (347, 47), (347, 49), (347, 51), (347, 52), (347, 53), (347, 54), (347, 55), (347, 56)] iv9 hn := P.nw eqn rfl (by decide) [(347, 13), (347, 14), (347, 17), (347, 18), (347, 20), (347, 23), (347, 24), (347, 25), (347, 26), (347, 27), (347, 33), (347, 34), (347, 37), (347, 38), (347, 42), (347, 43), (347, 44), (347, 46), (347, 47), (347, 49), (347, 51), (347, 52), (347, 53), (347, 54), (347, 55), (347, 56)] (by decide +kernel) (by decide +kernel) (by decide +kernel)
  clear eqn
  refine ⟨by rw [P.sh 347 (z := (30, 0)) (by decide) (by decide) rfl], ?_⟩
  refine ⟨(by decide), ?_⟩
  intro hn eqn
  replace P : PB L xs 360 [(347, 14), (347, 17), (347, 18), (347, 20), (347, 23), (347, 24), (347, 25), (347, 26), (347, 27), (347, 33), (347, 34), (347, 37), (347, 38), (347, 42), (347, 43), (347, 44), (347, 46), (347, 47), (347, 49), (347, 51), (347, 52), (347, 53), (347, 54), (347, 55), (347, 56)] iv9 hn := P.rr (a := 347) (i := 13) (v := 359) eqn (by decide +kernel) [(347, 14), (347, 17), (347, 18), (347, 20), (347, 23), (347, 24), (347, 25), (347, 26), (347, 27), (347, 33), (347, 34), (347, 37), (347, 38), (347, 42), (347, 43), (347, 44), (347, 46), (347, 47), (347, 49), (347, 51), (347, 52), (347, 53), (347, 54), (347, 55), (347, 56)] (by decide +kernel)
  clear eqn
  (try rw [P.1])
  intro hn eqn
  replace P : PB L xs 361 [(347, 14), (347, 17), (347, 18), (347, 20), (347, 23), (347, 24), (347, 25), (347, 26), (347, 27), (347, 33), (347, 34), (347, 37), (347, 38), (347, 42), (347, 43), (347, 44), (347, 46), (347, 47), (347, 49), (347, 51), (347, 52), (347, 53), (347, 54), (347, 55), (347, 56)] iv9 hn := P.nw eqn rfl (by decide) [(347, 14), (347, 17), (347, 18), (347, 20), (347, 23), (347, 24), (347, 25), (347, 26), (347, 27), (347, 33), (347, 34), (347, 37), (347, 38), (347, 42), (347, 43), (347, 44), (347, 46), (347, 47), (347, 49), (347, 51), (347, 52), (347, 53), (347, 54), (347, 55), (347, 56)] (by decide +kernel) (by decide +kernel) (by decide +kernel)
  clear eqn
  refine ⟨by rw [P.sh 347 (z := (30, 0)) (by decide) (by decide) rfl], ?_⟩
  refine ⟨(by decide), ?_⟩
  intro hn eqn
  replace P : PB L xs 361 [(347, 17), (347, 18), (347, 20), (347, 23), (347, 24), (347, 25), (347, 26), (347, 27), (347, 33), (347, 34), (347, 37), (347, 38), (347, 42), (347, 43), (347, 44), (347, 46), (347, 47), (347, 49), (347, 51), (347, 52), (347, 53), (347, 54), (347, 55), (347, 56)] iv9 hn := P.rr (a := 347) (i := 14) (v := 360) eqn (by decide +kernel) [(347, 17), (347, 18), (347, 20), (347, 23), (347, 24), (347, 25), (347, 26), (347, 27), (347, 33), (347, 34), (347, 37), (347, 38), (347, 42), (347, 43), (347, 44), (347, 46), (347, 47), (347, 49), (347, 51), (347, 52), (347, 53), (347, 54), (347, 55), (347, 56)] (by decide +kernel)
  clear eqn
  (try rw [P.1])
  intro hn eqn
  replace P : PB L xs 362 [(347, 17), (347, 18), (347, 20), (347, 23), (347, 24), (347, 25), (347, 26), (347, 27), (347, 33), (347, 34), (347, 37), (347, 38), (347, 42), (347, 43), (347, 44), (347, 46), (347, 47), (347, 49), (347, 51), (347, 52), (347, 53), (347, 54), (347, 55), (347, 56)] iv9 hn := P.nw eqn rfl (by decide) [(347, 17), (347, 18), (347, 20), (347, 23), (347, 24), (347, 25), (347, 26), (347, 27), (347, 33), (347, 34), (347, 37), (347, 38), (347, 42), (347, 43), (347, 44), (347, 46), (347, 47), (347, 49), (347, 51), (347, 52), (347, 53), (347, 54), (347, 55), (347, 56)] (by decide +kernel) (by decide +kernel) (by decide +kernel)
  clear eqn
  refine ⟨by rw [P.sh 347 (z := (30, 0)) (by decide) (by decide) rfl], ?_⟩
  refine ⟨(by decide), ?_⟩
  intro hn eqn
  replace P : PB L xs 362 [(347, 18), (347, 20), (347, 23), (347, 24), (347, 25), (347, 26), (347, 27), (347, 33), (347, 34), (347, 37), (347, 38), (347, 42), (347, 43), (347, 44), (347, 46), (347, 47), (347, 49), (347, 51), (347, 52), (347, 53), (347, 54), (347, 55), (347, 56)] iv9 hn := P.rr (a := 347) (i := 17) (v := 361) eqn (by decide +kernel) [(347, 18), (347, 20), (347, 23), (347, 24), (347, 25), (347, 26), (347, 27), (347, 33), (347, 34), (347, 37), (347, 38), (347, 42), (347, 43), (347, 44), (347, 46), (347, 47), (347, 49), (347, 51), (347, 52), (347, 53), (347, 54), (347, 55), (347, 56)] (by decide +kernel)
  clear eqn
  (try rw [P.1])
  intro hn eqn
  replace P : PB L xs 363 [(347, 18), (347, 20), (347, 23), (347, 24), (347, 25), (347, 26), (347, 27), (347, 33), (347, 34), (347, 37), (347, 38), (347, 42), (347, 43), (347, 44), (347, 46), (347, 47), (347, 49), (347, 51), (347, 52), (347, 53), (347, 54), (347, 55), (347, 56)] iv9 hn := P.nw eqn rfl (by decide) [(347, 18), (347, 20), (347, 23), (347, 24), (347, 25), (347, 26), (347, 27), (347, 33), (347, 34), (347, 37), (347, 38), (347, 42), (347, 43), (347, 44), (347, 46), (347, 47), (347, 49), (347, 51), (347, 52), (347, 53), (347, 54), (347, 55), (347, 56)] (by decide +kernel) (by decide +kernel) (by decide +kernel)
  clear eqn
  refine ⟨by rw [P.sh 347 (z := (30, 0)) (by decide) (by decide) rfl], ?_⟩
  refine ⟨(by decide), ?_⟩
  intro hn eqn
  replace P : PB L xs 363 [(347, 20), (347, 23), (347, 24), (347, 25), (347, 26), (347, 27), (347, 33), (347, 34), (347, 37), (347, 38), (347, 42), (347, 43), (347, 44), (347, 46), (347, 47), (347, 49), (347, 51), (347, 52), (347, 53), (347, 54), (347, 55), (347, 56)] iv9 hn := P.rr (a := 347) (i := 18) (v := 362) eqn (by decide +kernel) [(347, 20), (347, 23), (347, 24), (347, 25), (347, 26), (347, 27), (347, 33), (347, 34), (347, 37), (347, 38), (347, 42), (347, 43), (347, 44), (347, 46), (347, 47), (347, 49), (347, 51), (347, 52), (347, 53), (347, 54), (347, 55), (347, 56)] (by decide +kernel)
  clear eqn
  (try rw [P.1])
  intro hn eqn
  replace P : PB L xs 364 [(347, 20), (347, 23), (347, 24), (347, 25), (347, 26), (347, 27), (347, 33), (347, 34), (347, 37), (347, 38), (347, 42), (347, 43), (347, 44), (347, 46), (347, 47), (347, 49), (347, 51), (347, 52), (347, 53), (347, 54), (347, 55), (347, 56)] iv9 hn := P.nw eqn rfl (by decide) [(347, 20), (347, 23), (347, 24), (347, 25), (347, 26), (347, 27), (347, 33), (347, 34), (347, 37), (347, 38), (347, 42), (347, 43), (347, 44), (347, 46), (347, 47), (347, 49), (347, 51), (347, 52), (347, 53), (347, 54), (347, 55), (347, 56)] (by decide +kernel) (by decide +kernel) (by decide +kernel)
  clear eqn
  refine ⟨by rw [P.sh 347 (z := (30, 0)) (by decide) (by decide) rfl], ?_⟩
  refine ⟨(by decide), ?_⟩
  intro hn eqn
  replace P : PB L xs 364 [(347, 23), (347, 24), (347, 25), (347, 26), (347, 27), (347, 33), (347, 34), (347, 37), (347, 38), (347, 42), (347, 43), (347, 44), (347, 46), (347, 47), (347, 49), (347, 51), (347, 52), (347, 53), (347, 54), (347, 55), (347, 56)] iv9 hn := P.rr (a := 347) (i := 20) (v := 363) eqn (by decide +kernel) [(347, 23), (347, 24), (347, 25), (347, 26), (347, 27), (347, 33), (347, 34), (347, 37), (347, 38), (347, 42), (347, 43), (347, 44), (347, 46), (347, 47), (347, 49), (347, 51), (347, 52), (347, 53), (347, 54), (347, 55), (347, 56)] (by decide +kernel)
  clear eqn
  (try rw [P.1])
  intro hn eqn
  replace P : PB L xs 365 [(347, 23), (347, 24), (347, 25), (347, 26), (347, 27), (347, 33), (347, 34), (347, 37), (347, 38), (347, 42), (347, 43), (347, 44), (347, 46), (347, 47), (347, 49), (347, 51), (347, 52), (347, 53), (347, 54), (347, 55), (347, 56)] iv9 hn := P.nw eqn rfl (by decide) [(347, 23), (347, 24), (347, 25), (347, 26), (347, 27), (347, 33), (347, 34), (347, 37), (347, 38), (347, 42), (347, 43), (347, 44), (347, 46), (347, 47), (347, 49), (347, 51), (347, 52), (347, 53), (347, 54), (347, 55), (347, 56)] (by decide +kernel) (by decide +kernel) (by decide +kernel)
  clear eqn
  refine ⟨by rw [P.sh 347 (z := (30, 0)) (by decide) (by decide) rfl], ?_⟩
  refine ⟨(by decide), ?_⟩
  intro hn eqn
  replace P : PB L xs 365 [(347, 24), (347, 25), (347, 26), (347, 27), (347, 33), (347, 34), (347, 37), (347, 38), (347, 42), (347, 43), (347, 44), (347, 46), (347, 47), (347, 49), (347, 51), (347, 52), (347, 53), (347, 54), (347, 55), (347, 56)] iv9 hn := P.rr (a := 347) (i := 23) (v := 364) eqn (by decide +kernel) [(347, 24), (347, 25), (347, 26), (347, 27), (347, 33), (347, 34), (347, 37), (347, 38), (347, 42), (347, 43), (347, 44), (347, 46), (347, 47), (347, 49), (347, 51), (347, 52), (347, 53), (347, 54), (347, 55), (347, 56)] (by decide +kernel)
  clear eqn
  (try rw [P.1])
  intro hn eqn
  replace P : PB L xs 366 [(347, 24), (347, 25), (347, 26), (347, 27), (347, 33), (347, 34), (347, 37), (347, 38), (347, 42), (347, 43), (347, 44), (347, 46), (347, 47), (347, 49), (347, 51), (347, 52), (347, 53), (347, 54), (347, 55), (347, 56)] iv9 hn := P.nw eqn rfl (by decide) [(347, 24), (347, 25), (347, 26), (347, 27), (347, 33), (347, 34), (347, 37), (347, 38), (347, 42), (347, 43), (347, 44), (347, 46), (347, 47), (347, 49), (347, 51), (347, 52), (347, 53), (347, 54), (347, 55), (347, 56)] (by decide +kernel) (by decide +kernel) (by decide +kernel)
  clear eqn
  refine ⟨by rw [P.sh 347 (z := (30, 0)) (by decide) (by decide) rfl], ?_⟩
  refine ⟨(by decide), ?_⟩
  intro hn eqn
  replace P : PB L xs 366 [(347, 25), (347, 26), (347, 27), (347, 33), (347, 34), (347, 37), (347, 38), (347, 42), (347, 43), (347, 44), (347, 46), (347, 47), (347, 49), (347, 51), (347, 52), (347, 53), (347, 54), (347, 55), (347, 56)] iv9 hn := P.rr (a := 347) (i := 24) (v := 365) eqn (by decide +kernel) [(347, 25), (347, 26), (347, 27), (347, 33), (347, 34), (347, 37), (347, 38), (347, 42), (347, 43), (347, 44), (347, 46), (347, 47), (347, 49), (347, 51), (347, 52), (347, 53), (347, 54), (347, 55), (347, 56)] (by decide +kernel)
  clear eqn
  (try rw [P.1])
  intro hn eqn
  replace P : PB L xs 367 [(347, 25), (347, 26), (347, 27), (347, 33), (347, 34), (347, 37), (347, 38), (347, 42), (347, 43), (347, 44), (347, 46), (347, 47), (347, 49), (347, 51), (347, 52), (347, 53), (347, 54), (347, 55), (347, 56)] iv9 hn := P.nw eqn rfl (by decide) [(347, 25), (347, 26), (347, 27), (347, 33), (347, 34), (347, 37), (347, 38), (347, 42), (347, 43), (347, 44), (347, 46), (347, 47), (347, 49), (347, 51), (347, 52), (347, 53), (347, 54), (347, 55), (347, 56)] (by decide +kernel) (by decide +kernel) (by decide +kernel)
  clear eqn
  refine ⟨by rw [P.sh 347 (z := (30, 0)) (by decide) (by decide) rfl], ?_⟩
  refine ⟨(by decide), ?_⟩
  intro hn eqn
  replace P : PB L xs 367 [(347, 26), (347, 27), (347, 33), (347, 34), (347, 37), (347, 38), (347, 42), (347, 43), (347, 44), (347, 46), (347, 47), (347, 49), (347, 51), (347, 52), (347, 53), (347, 54), (347, 55), (347, 56)] iv9 hn := P.rr (a := 347) (i := 25) (v := 366) eqn (by decide +kernel) [(347, 26), (347, 27), (347, 33), (347, 34), (347, 37), (347, 38), (347, 42), (347, 43), (347, 44), (347, 46), (347, 47), (347, 49), (347, 51), (347, 52), (347, 53), (347, 54), (347, 55), (347, 56)] (by decide +kernel)
  clear eqn
  (try rw [P.1])
  intro hn eqn
  replace P : PB L xs 368 [(347, 26), (347, 27), (347, 33), (347, 34), (347, 37), (347, 38), (347, 42), (347, 43), (347, 44), (347, 46), (347, 47), (347, 49), (347, 51), (347, 52), (347, 53), (347, 54), (347, 55), (347, 56)] iv9 hn := P.nw eqn rfl (by decide) [(347, 26), (347, 27), (347, 33), (347, 34), (347, 37), (347, 38), (347, 42), (347, 43), (347, 44), (347, 46), (347, 47), (347, 49), (347, 51), (347, 52), (347, 53), (347, 54), (347, 55), (347, 56)] (by decide +kernel) (by decide +kernel) (by decide +kernel)
  clear eqn
  refine ⟨by rw [P.sh 347 (z := (30, 0)) (by decide) (by decide) rfl], ?_⟩
  refine ⟨(by decide), ?_⟩
  intro hn eqn
  replace P : PB L xs 368 [(347, 27), (347, 33), (347, 34), (347, 37), (347, 38), (347, 42), (347, 43), (347, 44), (347, 46), (347, 47), (347, 49), (347, 51), (347, 52), (347, 53), (347, 54), (347, 55), (347, 56)] iv9 hn := P.rr (a := 347) (i := 26) (v := 367) eqn (by decide +kernel) [(347, 27), (347, 33), (347, 34), (347, 37), (347, 38), (347, 42), (347, 43), (347, 44), (347, 46), (347, 47), (347, 49), (347, 51), (347, 52), (347, 53), (347, 54), (347, 55), (347, 56)] (by decide +kernel)
  clear eqn
  (try rw [P.1])
  intro hn eqn
  replace P : PB L xs 369 [(347, 27), (347, 33), (347, 34), (347, 37), (347, 38), (347, 42), (347, 43), (347, 44), (347, 46), (347, 47), (347, 49), (347, 51), (347, 52), (347, 53), (347, 54), (347, 55), (347, 56)] iv9 hn := P.nw eqn rfl (by decide) [(347, 27), (347, 33), (347, 34), (347, 37), (347, 38), (347, 42), (347, 43), (347, 44), (347, 46), (347, 47), (347, 49), (347, 51), (347, 52), (347, 53), (347, 54), (347, 55), (347, 56)] (by decide +kernel) (by decide +kernel) (by decide +kernel)
  clear eqn
  refine ⟨by rw [P.sh 347 (z := (30, 0)) (by decide) (by decide) rfl], ?_⟩
  refine ⟨(by decide), ?_⟩
  intro hn eqn
  replace P : PB L xs 369 [(347, 33), (347, 34), (347, 37), (347, 38), (347, 42), (347, 43), (347, 44), (347, 46), (347, 47), (347, 49), (347, 51), (347, 52), (347, 53), (347, 54), (347, 55), (347, 56)] iv9 hn := P.rr (a := 347) (i := 27) (v := 368) eqn (by decide +kernel) [(347, 33), (347, 34), (347, 37), (347, 38), (347, 42), (347, 43), (347, 44), (347, 46), (347, 47), (347, 49), (347, 51), (347, 52), (347, 53), (347, 54), (347, 55), (347, 56)] (by decide +kernel)
  clear eqn
  (try rw [P.1])
  intro hn eqn
  replace P : PB L xs 370 [(347, 33), (347, 34), (347, 37), (347, 38), (347, 42), (347, 43), (347, 44), (347, 46), (347, 47), (347, 49), (347, 51), (347, 52), (347, 53), (347, 54), (347, 55), (347, 56)] iv9 hn := P.nw eqn rfl (by decide) [(347, 33), (347, 34), (347, 37), (347, 38), (347, 42), (347, 43), (347, 44), (347, 46), (347, 47), (347, 49), (347, 51), (347, 52), (347, 53), (347, 54), (347, 55), (347, 56)] (by decide +kernel) (by decide +kernel) (by decide +kernel)
  clear eqn
  refine ⟨by rw [P.sh 347 (z := (30, 0)) (by decide) (by decide) rfl], ?_⟩
  refine ⟨(by decide), ?_⟩
  intro hn eqn
  replace P : PB L xs 370 [(347, 34), (347, 37), (347, 38), (347, 42), (347, 43), (347, 44), (347, 46), (347, 47), (347, 49), (347, 51), (347, 52), (347, 53), (347, 54), (347, 55), (347, 56)] iv9 hn := P.rr (a := 347) (i := 33) (v := 369) eqn (by decide +kernel) [(347, 34), (347, 37), (347, 38), (347, 42), (347, 43), (347, 44), (347, 46), (347, 47), (347, 49), (347, 51), (347, 52), (347, 53), (347, 54), (347, 55), (347, 56)] (by decide +kernel)
  clear eqn
  (try rw [P.1])
  intro hn eqn
  replace P : PB L xs 371 [(347, 34), (347, 37), (347, 38), (347, 42), (347, 43), (347, 44), (347, 46), (347, 47), (347, 49), (347, 51), (347, 52), (347, 53), (347, 54), (347, 55), (347, 56)] iv9 hn := P.nw eqn rfl (by decide) [(347, 34), (347, 37), (347, 38), (347, 42), (347, 43), (347, 44), (347, 46), (347, 47), (347, 49), (347, 51), (347, 52), (347, 53), (347, 54), (347, 55), (347, 56)] (by decide +kernel) (by decide +kernel) (by decide +kernel)
  clear eqn
  refine ⟨by rw [P.sh 347 (z := (30, 0)) (by decide) (by decide) rfl], ?_⟩
  refine ⟨(by decide), ?_⟩
  intro hn eqn
  replace P : PB L xs 371 [(347, 37), (347, 38), (347, 42), (347, 43), (347, 44), (347, 46), (347, 47), (347, 49), (347, 51), (347, 52), (347, 53), (347, 54), (347, 55), (347, 56)] iv9 hn := P.rr (a := 347) (i := 34) (v := 370) eqn (by decide +kernel) [(347, 37), (347, 38), (347, 42), (347, 43), (347, 44), (347, 46), (347, 47), (347, 49), (347, 51), (347, 52), (347, 53), (347, 54), (347, 55), (347, 56)] (by decide +kernel)
  clear eqn
  (try rw [P.1])
  intro hn eqn
  replace P : PB L xs 372 [(347, 37), (347, 38), (347, 42), (347, 43), (347, 44), (347, 46), (347, 47), (347, 49), (347, 51), (347, 52), (347, 53), (347, 54), (347, 55), (347, 56)] iv9 hn := P.nw eqn rfl (by decide) [(347, 37), (347, 38), (347, 42), (347, 43), (347, 44), (347, 46), (347, 47), (347, 49), (347, 51), (347, 52), (347, 53), (347, 54), (347, 55), (347, 56)] (by decide +kernel) (by decide +kernel) (by decide +kernel)
  clear eqn
  refine ⟨by rw [P.sh 347 (z := (30, 0)) (by decide) (by decide) rfl], ?_⟩
  refine ⟨(by decide), ?_⟩
  intro hn eqn
  replace P : PB L xs 372 [(347, 38), (347, 42), (347, 43), (347, 44), (347, 46), (347, 47), (347, 49), (347, 51), (347, 52), (347, 53), (347, 54), (347, 55), (347, 56)] iv9 hn := P.rr (a := 347) (i := 37) (v := 371) eqn (by decide +kernel) [(347, 38), (347, 42), (347, 43), (347, 44), (347, 46), (347, 47), (347, 49), (347, 51), (347, 52), (347, 53), (347, 54), (347, 55), (347, 56)] (by decide +kernel)
  clear eqn
  (try rw [P.1])
  intro hn eqn
  replace P : PB L xs 373 [(347, 38), (347, 42), (347, 43), (347, 44), (347, 46), (347, 47), (347, 49), (347, 51), (347, 52), (347, 53), (347, 54), (347, 55), (347, 56)] iv9 hn := P.nw eqn rfl (by decide) [(347, 38), (347, 42), (347, 43), (347, 44), (347, 46), (347, 47), (347, 49), (347, 51), (347, 52), (347, 53), (347, 54), (347, 55), (347, 56)] (by decide +kernel) (by decide +kernel) (by decide +kernel)
  clear eqn
  refine ⟨by rw [P.sh 347 (z := (30, 0)) (by decide) (by decide) rfl], ?_⟩
  refine ⟨(by decide), ?_⟩
  intro hn eqn
  replace P : PB L xs 373 [(347, 42), (347, 43), (347, 44), (347, 46), (347, 47), (347, 49), (347, 51), (347, 52), (347, 53), (347, 54), (347, 55), (347, 56)] iv9 hn := P.rr (a := 347) (i := 38) (v := 372) eqn (by decide +kernel) [(347, 42), (347, 43), (347, 44), (347, 46), (347, 47), (347, 49), (347, 51), (347, 52), (347, 53), (347, 54), (347, 55), (347, 56)] (by decide +kernel)
  clear eqn
  (try rw [P.1])
  intro hn eqn
  replace P : PB L xs 374 [(347, 42), (347, 43), (347, 44), (347, 46), (347, 47), (347, 49), (347, 51), (347, 52), (347, 53), (347, 54), (347, 55), (347, 56)] iv9 hn := P.nw eqn rfl (by decide) [(347, 42), (347, 43), (347, 44), (347, 46), (347, 47), (347, 49), (347, 51), (347, 52), (347, 53), (347, 54), (347, 55), (347, 56)] (by decide +kernel) (by decide +kernel) (by decide +kernel)
  clear eqn
  refine ⟨by rw [P.sh 347 (z := (30, 0)) (by decide) (by decide) rfl], ?_⟩
  refine ⟨(by decide), ?_⟩
  intro hn eqn
  replace P : PB L xs 374 [(347, 43), (347, 44), (347, 46), (347, 47), (347, 49), (347, 51), (347, 52), (347, 53), (347, 54), (347, 55), (347, 56)] iv9 hn := P.rr (a := 347) (i := 42) (v := 373) eqn (by decide +kernel) [(347, 43), (347, 44), (347, 46), (347, 47), (347, 49), (347, 51), (347, 52), (347, 53), (347, 54), (347, 55), (347, 56)] (by decide +kernel)
  clear eqn
  (try rw [P.1])
  intro hn eqn
  replace P : PB L xs 375 [(347, 43), (347, 44), (347, 46), (347, 47), (347, 49), (347, 51), (347, 52), (347, 53), (347, 54), (347, 55), (347, 56)] iv9 hn := P.nw eqn rfl (by decide) [(347, 43), (347, 44), (347, 46), (347, 47), (347, 49), (347, 51), (347, 52), (347, 53), (347, 54), (347, 55), (347, 56)] (by decide +kernel) (by decide +kernel) (by decide +kernel)
  clear eqn
  refine ⟨by rw [P.sh 347 (z := (30, 0)) (by decide) (by decide) rfl], ?_⟩
  refine ⟨(by decide), ?_⟩
  intro hn eqn
  replace P : PB L xs 375 [(347, 44), (347, 46), (347, 47), (347, 49), (347, 51), (347, 52), (347, 53), (347, 54), (347, 55), (347, 56)] iv9 hn := P.rr (a := 347) (i := 43) (v := 374) eqn (by decide +kernel) [(347, 44), (347, 46), (347, 47), (347, 49), (347, 51), (347, 52), (347, 53), (347, 54), (347, 55), (347, 56)] (by decide +kernel)
  clear eqn
  (try rw [P.1])
  intro hn eqn
  replace P : PB L xs 376 [(347, 44), (347, 46), (347, 47), (347, 49), (347, 51), (347, 52), (347, 53), (347, 54), (347, 55), (347, 56)] iv9 hn := P.nw eqn rfl (by decide) [(347, 44), (347, 46), (347, 47), (347, 49), (347, 51), (347, 52), (347, 53), (347, 54), (347, 55), (347, 56)] (by decide +kernel) (by decide +kernel) (by decide +kernel)
  clear eqn
  refine ⟨by rw [P.sh 347 (z := (30, 0)) (by decide) (by decide) rfl], ?_⟩
  refine ⟨(by decide), ?_⟩
  intro hn eqn
  replace P : PB L xs 376 [(347, 46), (347, 47), (347, 49), (347, 51), (347, 52), (347, 53), (347, 54), (347, 55), (347, 56)] iv9 hn := P.rr (a := 347) (i := 44) (v := 375) eqn (by decide +kernel) [(347, 46), (347, 47), (347, 49), (347, 51), (347, 52), (347, 53), (347, 54), (347, 55), (347, 56)] (by decide +kernel)
  clear eqn
  (try rw [P.1])
  intro hn eqn
  replace P : PB L xs 377 [(347, 46), (347, 47), (347, 49), (347, 51), (347, 52), (347, 53), (347, 54), (347, 55), (347, 56)] iv9 hn := P.nw eqn rfl (by decide) [(347, 46), (347, 47), (347, 49), (347, 51), (347, 52), (347, 53), (347, 54), (347, 55), (347, 56)] (by decide +kernel) (by decide +kernel) (by decide +kernel)
  clear eqn
  refine ⟨by rw [P.sh 347 (z := (30, 0)) (by decide) (by decide) rfl], ?_⟩
  refine ⟨(by decide), ?_⟩
  intro hn eqn
  replace P : PB L xs 377 [(347, 47), (347, 49), (347, 51), (347, 52), (347, 53), (347, 54), (347, 55), (347, 56)] iv9 hn := P.rr (a := 347) (i := 46) (v := 376) eqn (by decide +kernel) [(347, 47), (347, 49), (347, 51), (347, 52), (347, 53), (347, 54), (347, 55), (347, 56)] (by decide +kernel)
  clear eqn
  (try rw [P.1])
  intro hn eqn
  replace P : PB L xs 378 [(347, 47), (347, 49), (347, 51), (347, 52), (347, 53), (347, 54), (347, 55), (347, 56)] iv9 hn := P.nw eqn rfl (by decide) [(347, 47), (347, 49), (347, 51), (347, 52), (347, 53), (347, 54), (347, 55), (347, 56)] (by decide +kernel) (by decide +kernel) (by decide +kernel)
  clear eqn
  refine ⟨by rw [P.sh 347 (z := (30, 0)) (by decide) (by decide) rfl], ?_⟩
  refine ⟨(by decide), ?_⟩
  intro hn eqn
  replace P : PB L xs 378 [(347, 49), (347, 51), (347, 52), (347, 53), (347, 54), (347, 55), (347, 56)] iv9 hn := P.rr (a := 347) (i := 47) (v := 377) eqn (by decide +kernel) [(347, 49), (347, 51), (347, 52), (347, 53), (347, 54), (347, 55), (347, 56)] (by decide +kernel)
  clear eqn
  (try rw [P.1])
  intro hn eqn
  replace P : PB L xs 379 [(347, 49), (347, 51), (347, 52), (347, 53), (347, 54), (347, 55), (347, 56)] iv9 hn := P.nw eqn rfl (by decide) [(347, 49), (347, 51), (347, 52), (347, 53), (347, 54), (347, 55), (347, 56)] (by decide +kernel) (by decide +kernel) (by decide +kernel)
  clear eqn
  refine ⟨by rw [P.sh 347 (z := (30, 0)) (by decide) (by decide) rfl], ?_⟩
  refine ⟨(by decide), ?_⟩
  intro hn eqn
  replace P : PB L xs 379 [(347, 51), (347, 52), (347, 53), (347, 54), (347, 55), (347, 56)] iv9 hn := P.rr (a := 347) (i := 49) (v := 378) eqn (by decide +kernel) [(347, 51), (347, 52), (347, 53), (347, 54), (347, 55), (347, 56)] (by decide +kernel)
  clear eqn
  (try rw [P.1])
  intro hn eqn
  replace P : PB L xs 380 [(347, 51), (347, 52), (347, 53), (347, 54), (347, 55), (347, 56)] iv9 hn := P.nw eqn rfl (by decide) [(347, 51), (347, 52), (347, 53), (347, 54), (347, 55), (347, 56)] (by decide +kernel) (by decide +kernel) (by decide +kernel)
  clear eqn
  refine ⟨by rw [P.sh 347 (z := (30, 0)) (by decide) (by decide) rfl], ?_⟩
  refine ⟨(by decide), ?_⟩
  intro hn eqn
  replace P : PB L xs 380 [(347, 52), (347, 53), (347, 54), (347, 55), (347, 56)] iv9 hn := P.rr (a := 347) (i := 51) (v := 379) eqn (by decide +kernel) [(347, 52), (347, 53), (347, 54), (347, 55), (347, 56)] (by decide +kernel)
  clear eqn
  (try rw [P.1])
  intro hn eqn
  replace P : PB L xs 381 [(347, 52), (347, 53), (347, 54), (347, 55), (347, 56)] iv9 hn := P.nw eqn rfl (by decide) [(347, 52), (347, 53), (347, 54), (347, 55), (347, 56)] (by decide +kernel) (by decide +kernel) (by decide +kernel)
  clear eqn
  refine ⟨by rw [P.sh 347 (z := (30, 0)) (by decide) (by decide) rfl], ?_⟩
  refine ⟨(by decide), ?_⟩
  intro hn eqn
  replace P : PB L xs 381 [(347, 53), (347, 54), (347, 55), (347, 56)] iv9 hn := P.rr (a := 347) (i := 52) (v := 380) eqn (by decide +kernel) [(347, 53), (347, 54), (347, 55), (347, 56)] (by decide +kernel)
  clear eqn
  (try rw [P.1])
  intro hn eqn
  replace P : PB L xs 382 [(347, 53), (347, 54), (347, 55), (347, 56)] iv9 hn := P.nw eqn rfl (by decide) [(347, 53), (347, 54), (347, 55), (347, 56)] (by decide +kernel) (by decide +kernel) (by decide +kernel)
  clear eqn
  refine ⟨by rw [P.sh 347 (z := (30, 0)) (by decide) (by decide) rfl], ?_⟩
  refine ⟨(by decide), ?_⟩
  intro hn eqn
  replace P : PB L xs 382 [(347, 54), (347, 55), (347, 56)] iv9 hn := P.rr (a := 347) (i := 53) (v := 381) eqn (by decide +kernel) [(347, 54), (347, 55), (347, 56)] (by decide +kernel)
  clear eqn
  (try rw [P.1])
  intro hn eqn
  replace P : PB L xs 383 [(347, 54), (347, 55), (347, 56)] iv9 hn := P.nw eqn rfl (by decide) [(347, 54), (347, 55), (347, 56)] (by decide +kernel) (by decide +kernel) (by decide +kernel)
  clear eqn
  refine ⟨by rw [P.sh 347 (z := (30, 0)) (by decide) (by decide) rfl], ?_⟩
  refine ⟨(by decide), ?_⟩
  intro hn eqn
  replace P : PB L xs 383 [(347, 55), (347, 56)] iv9 hn := P.rr (a := 347) (i := 54) (v := 382) eqn (by decide +kernel) [(347, 55), (347, 56)] (by decide +kernel)
  clear eqn
  (try rw [P.1])
  intro hn eqn
  replace P : PB L xs 384 [(347, 55), (347, 56)] iv9 hn := P.nw eqn rfl (by decide) [(347, 55), (347, 56)] (by decide +kernel) (by decide +kernel) (by decide +kernel)
  clear eqn
  refine ⟨by rw [P.sh 347 (z := (30, 0)) (by decide) (by decide) rfl], ?_⟩
  refine ⟨(by decide), ?_⟩
  intro hn eqn
  replace P : PB L xs 384 [(347, 56)] iv9 hn := P.rr (a := 347) (i := 55) (v := 383) eqn (by decide +kernel) [(347, 56)] (by decide +kernel)
  clear eqn
  (try rw [P.1])
  intro hn eqn
  replace P : PB L xs 385 [(347, 56)] iv9 hn := P.nw eqn rfl (by decide) [(347, 56)] (by decide +kernel) (by decide +kernel) (by decide +kernel)
  clear eqn
  refine ⟨by rw [P.sh 347 (z := (30, 0)) (by decide) (by decide) rfl], ?_⟩
  refine ⟨(by decide), ?_⟩
  intro hn eqn
  replace P : PB L xs 385 [] iv9 hn := P.rr (a := 347) (i := 56) (v := 384) eqn (by decide +kernel) [] (by decide +kernel)
  clear eqn
  exact K _ P
