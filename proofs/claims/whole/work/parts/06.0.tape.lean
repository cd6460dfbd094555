set_option maxHeartbeats 4000000 in
set_option maxRecDepth 100000 in
theorem sX6_isDigitAt_0 {w : Wd} {Q : Int32 → Hp → Prop} {h : Hp} {a0 : Nat} {x1 : Int32} (H : ((x1 < 0 → Q 0 h) ∧ (¬ x1 < 0 → (hs h a0).1 = 26 ∧ (((hI h a0 1) ≤ x1 → Q 0 h) ∧ (¬ (hI h a0 1) ≤ x1 → hR h a0 0 ≠ 0 ∧ (hs h (hR h a0 0)).1 = 2 ∧ vp_in x1 (hs h (hR h a0 0)).2 ∧ (((hI h (hR h a0 0) x1.toNatClampNeg) < 48 → Q 0 h) ∧ (¬ (hI h (hR h a0 0) x1.toNatClampNeg) < 48 → ((57 < (hI h (hR h a0 0) x1.toNatClampNeg) → Q 0 h) ∧ (¬ 57 < (hI h (hR h a0 0) x1.toNatClampNeg) → Q 1 h))))))))) : AW w mX6_isDigitAt 0 0 (rI Q) 0 0 0 [some (.ref a0), some (.int x1)] [] h := by
  refine aw_iload_n 1 dX6_isDigitAt_0 rfl rfl ?_
  refine aw_if_lt 38 4 dX6_isDigitAt_1 rfl (by decide) (fun c1 => ?_) (fun c1 => ?_)
  · replace H := H.1 c1
    refine aw_iconst (v := 0) 39 dX6_isDigitAt_38 rfl (by decide) ?_
    exact aw_zreturn dX6_isDigitAt_39 rfl (by decide) (by decide) (by decide) ⟨_, rfl, H⟩
  · replace H := H.2 c1
    refine aw_iload_n 5 dX6_isDigitAt_4 rfl rfl ?_
    refine aw_aload_n 6 dX6_isDigitAt_5 rfl rfl ?_
    obtain ⟨g2, H⟩ := H
    refine aw_getI 9 dX6_isDigitAt_6 rfl fl_X6_15 (by decide) g2 ?_
    refine aw_icmp_ge 38 12 dX6_isDigitAt_9 rfl (by decide) (fun c3 => ?_) (fun c3 => ?_)
    · replace H := H.1 c3
      refine aw_iconst (v := 0) 39 dX6_isDigitAt_38 rfl (by decide) ?_
      exact aw_zreturn dX6_isDigitAt_39 rfl (by decide) (by decide) (by decide) ⟨_, rfl, H⟩
    · replace H := H.2 c3
      refine aw_aload_n 13 dX6_isDigitAt_12 rfl rfl ?_
      obtain ⟨g4, H⟩ := H
      refine aw_getR 16 dX6_isDigitAt_13 rfl fl_X6_9 ir_6_0 g2 rfl g4 ?_
      refine aw_iload_n 17 dX6_isDigitAt_16 rfl rfl ?_
      obtain ⟨g5, H⟩ := H
      obtain ⟨g6, H⟩ := H
      refine aw_bald 18 dX6_isDigitAt_17 rfl (Or.inl (shp g5)) g6 ?_
      refine aw_bipush (v := 48) 20 dX6_isDigitAt_18 rfl (by decide) ?_
      refine aw_icmp_lt 38 23 dX6_isDigitAt_20 rfl (by decide) (fun c7 => ?_) (fun c7 => ?_)
      · replace H := H.1 c7
        refine aw_iconst (v := 0) 39 dX6_isDigitAt_38 rfl (by decide) ?_
        exact aw_zreturn dX6_isDigitAt_39 rfl (by decide) (by decide) (by decide) ⟨_, rfl, H⟩
      · replace H := H.2 c7
        refine aw_aload_n 24 dX6_isDigitAt_23 rfl rfl ?_
        refine aw_getR 27 dX6_isDigitAt_24 rfl fl_X6_9 ir_6_0 g2 rfl g4 ?_
        refine aw_iload_n 28 dX6_isDigitAt_27 rfl rfl ?_
        refine aw_bald 29 dX6_isDigitAt_28 rfl (Or.inl (shp g5)) g6 ?_
        refine aw_bipush (v := 57) 31 dX6_isDigitAt_29 rfl (by decide) ?_
        refine aw_icmp_gt 38 34 dX6_isDigitAt_31 rfl (by decide) (fun c8 => ?_) (fun c8 => ?_)
        · replace H := H.1 c8
          refine aw_iconst (v := 0) 39 dX6_isDigitAt_38 rfl (by decide) ?_
          exact aw_zreturn dX6_isDigitAt_39 rfl (by decide) (by decide) (by decide) ⟨_, rfl, H⟩
        · replace H := H.2 c8
          refine aw_iconst (v := 1) 35 dX6_isDigitAt_34 rfl (by decide) ?_
          refine aw_goto 39 dX6_isDigitAt_35 (by decide) ?_
          exact aw_zreturn dX6_isDigitAt_39 rfl (by decide) (by decide) (by decide) ⟨_, rfl, H⟩
theorem eX6_isDigitAt {w : Wd} {Q : Int32 → Hp → Prop} {h : Hp} {a0 : Nat} {x1 : Int32} (H : AW w mX6_isDigitAt 0 0 (rI Q) 0 0 0 [some (.ref a0), some (.int x1)] [] h) : AC w mX6_isDigitAt 0 0 (rI Q) [.ref a0, .int x1] h := AC.ofL (by decide) (by simp [enl, Value.category]) (by simp [leL, enl, Value.category]) H
set_option maxHeartbeats 4000000 in
set_option maxRecDepth 100000 in
theorem sX6_smallAt_0 {w : Wd} {Q : Int32 → Hp → Prop} {h : Hp} {a0 : Nat} {x1 : Int32} (H : ((x1 < 0 → Q 0 h) ∧ (¬ x1 < 0 → (hs h a0).1 = 26 ∧ ((x1 < (hI h a0 1) → hR h a0 0 ≠ 0 ∧ (hs h (hR h a0 0)).1 = 2 ∧ vp_in x1 (hs h (hR h a0 0)).2 ∧ (((hI h (hR h a0 0) x1.toNatClampNeg) < 65 → Q (hI h (hR h a0 0) x1.toNatClampNeg) h) ∧ (¬ (hI h (hR h a0 0) x1.toNatClampNeg) < 65 → ((90 < (hI h (hR h a0 0) x1.toNatClampNeg) → Q (hI h (hR h a0 0) x1.toNatClampNeg) h) ∧ (¬ 90 < (hI h (hR h a0 0) x1.toNatClampNeg) → Q (((hI h (hR h a0 0) x1.toNatClampNeg) - 65) + 97) h))))) ∧ (¬ x1 < (hI h a0 1) → Q 0 h))))) : AW w mX6_smallAt 0 0 (rI Q) 0 0 0 [some (.ref a0), some (.int x1), none] [] h := by
  refine aw_iload_n 1 dX6_smallAt_0 rfl rfl ?_
  refine aw_if_lt 12 4 dX6_smallAt_1 rfl (by decide) (fun c1 => ?_) (fun c1 => ?_)
  · replace H := H.1 c1
    refine aw_iconst (v := 0) 13 dX6_smallAt_12 rfl (by decide) ?_
    exact aw_ireturn dX6_smallAt_13 rfl (by decide) (by decide) ⟨_, rfl, H⟩
  · replace H := H.2 c1
    refine aw_iload_n 5 dX6_smallAt_4 rfl rfl ?_
    refine aw_aload_n 6 dX6_smallAt_5 rfl rfl ?_
    obtain ⟨g2, H⟩ := H
    refine aw_getI 9 dX6_smallAt_6 rfl fl_X6_15 (by decide) g2 ?_
    refine aw_icmp_lt 14 12 dX6_smallAt_9 rfl (by decide) (fun c3 => ?_) (fun c3 => ?_)
    · replace H := H.1 c3
      refine aw_aload_n 15 dX6_smallAt_14 rfl rfl ?_
      obtain ⟨g4, H⟩ := H
      refine aw_getR 18 dX6_smallAt_15 rfl fl_X6_9 ir_6_0 g2 rfl g4 ?_
      refine aw_iload_n 19 dX6_smallAt_18 rfl rfl ?_
      obtain ⟨g5, H⟩ := H
      obtain ⟨g6, H⟩ := H
      refine aw_bald 20 dX6_smallAt_19 rfl (Or.inl (shp g5)) g6 ?_
      refine aw_istore_n (loc' := [some (.ref a0), some (.int x1), some (.int (hI h (hR h a0 0) x1.toNatClampNeg))]) 21 dX6_smallAt_20 rfl (by decide) rfl ?_
      refine aw_iload_n 22 dX6_smallAt_21 rfl rfl ?_
      refine aw_bipush (v := 65) 24 dX6_smallAt_22 rfl (by decide) ?_
      refine aw_icmp_lt 43 27 dX6_smallAt_24 rfl (by decide) (fun c7 => ?_) (fun c7 => ?_)
      · replace H := H.1 c7
        refine aw_iload_n 44 dX6_smallAt_43 rfl rfl ?_
        exact aw_ireturn dX6_smallAt_44 rfl (by decide) (by decide) ⟨_, rfl, H⟩
      · replace H := H.2 c7
        refine aw_iload_n 28 dX6_smallAt_27 rfl rfl ?_
        refine aw_bipush (v := 90) 30 dX6_smallAt_28 rfl (by decide) ?_
        refine aw_icmp_gt 43 33 dX6_smallAt_30 rfl (by decide) (fun c8 => ?_) (fun c8 => ?_)
        · replace H := H.1 c8
          refine aw_iload_n 44 dX6_smallAt_43 rfl rfl ?_
          exact aw_ireturn dX6_smallAt_44 rfl (by decide) (by decide) ⟨_, rfl, H⟩
        · replace H := H.2 c8
          refine aw_iload_n 34 dX6_smallAt_33 rfl rfl ?_
          refine aw_bipush (v := 65) 36 dX6_smallAt_34 rfl (by decide) ?_
          refine aw_isub 37 dX6_smallAt_36 rfl ?_
          refine aw_bipush (v := 97) 39 dX6_smallAt_37 rfl (by decide) ?_
          refine aw_iadd 40 dX6_smallAt_39 rfl ?_
          refine aw_goto 44 dX6_smallAt_40 (by decide) ?_
          exact aw_ireturn dX6_smallAt_44 rfl (by decide) (by decide) ⟨_, rfl, H⟩
    · replace H := H.2 c3
      refine aw_iconst (v := 0) 13 dX6_smallAt_12 rfl (by decide) ?_
      exact aw_ireturn dX6_smallAt_13 rfl (by decide) (by decide) ⟨_, rfl, H⟩
theorem eX6_smallAt {w : Wd} {Q : Int32 → Hp → Prop} {h : Hp} {a0 : Nat} {x1 : Int32} (H : AW w mX6_smallAt 0 0 (rI Q) 0 0 0 [some (.ref a0), some (.int x1), none] [] h) : AC w mX6_smallAt 0 0 (rI Q) [.ref a0, .int x1] h := AC.ofL (by decide) (by simp [enl, Value.category]) (by simp [leL, enl, Value.category]) H
set_option maxHeartbeats 4000000 in
set_option maxRecDepth 100000 in
theorem sX6_isLetterAt_0 {w : Wd} {Q : Int32 → Hp → Prop} {h : Hp} {a0 : Nat} {x1 : Int32} (H : ((x1 < 0 → Q 0 h) ∧ (¬ x1 < 0 → (hs h a0).1 = 26 ∧ ((x1 < (hI h a0 1) → hR h a0 0 ≠ 0 ∧ (hs h (hR h a0 0)).1 = 2 ∧ vp_in x1 (hs h (hR h a0 0)).2 ∧ (((hI h (hR h a0 0) x1.toNatClampNeg) < 97 → (((hI h (hR h a0 0) x1.toNatClampNeg) < 65 → AW w mX6_isLetterAt 0 0 (rI Q) 0 0 45 [some (.ref a0), some (.int x1), some (.int (hI h (hR h a0 0) x1.toNatClampNeg))] [] h) ∧ (¬ (hI h (hR h a0 0) x1.toNatClampNeg) < 65 → (((hI h (hR h a0 0) x1.toNatClampNeg) ≤ 90 → Q 1 h) ∧ (¬ (hI h (hR h a0 0) x1.toNatClampNeg) ≤ 90 → AW w mX6_isLetterAt 0 0 (rI Q) 0 0 45 [some (.ref a0), some (.int x1), some (.int (hI h (hR h a0 0) x1.toNatClampNeg))] [] h))))) ∧ (¬ (hI h (hR h a0 0) x1.toNatClampNeg) < 97 → (((hI h (hR h a0 0) x1.toNatClampNeg) ≤ 122 → Q 1 h) ∧ (¬ (hI h (hR h a0 0) x1.toNatClampNeg) ≤ 122 → (((hI h (hR h a0 0) x1.toNatClampNeg) < 65 → AW w mX6_isLetterAt 0 0 (rI Q) 0 0 45 [some (.ref a0), some (.int x1), some (.int (hI h (hR h a0 0) x1.toNatClampNeg))] [] h) ∧ (¬ (hI h (hR h a0 0) x1.toNatClampNeg) < 65 → (((hI h (hR h a0 0) x1.toNatClampNeg) ≤ 90 → Q 1 h) ∧ (¬ (hI h (hR h a0 0) x1.toNatClampNeg) ≤ 90 → AW w mX6_isLetterAt 0 0 (rI Q) 0 0 45 [some (.ref a0), some (.int x1), some (.int (hI h (hR h a0 0) x1.toNatClampNeg))] [] h))))))))) ∧ (¬ x1 < (hI h a0 1) → Q 0 h))))) : AW w mX6_isLetterAt 0 0 (rI Q) 0 0 0 [some (.ref a0), some (.int x1), none] [] h := by
  refine aw_iload_n 1 dX6_isLetterAt_0 rfl rfl ?_
  refine aw_if_lt 12 4 dX6_isLetterAt_1 rfl (by decide) (fun c1 => ?_) (fun c1 => ?_)
  · replace H := H.1 c1
    refine aw_iconst (v := 0) 13 dX6_isLetterAt_12 rfl (by decide) ?_
    exact aw_zreturn dX6_isLetterAt_13 rfl (by decide) (by decide) (by decide) ⟨_, rfl, H⟩
  · replace H := H.2 c1
    refine aw_iload_n 5 dX6_isLetterAt_4 rfl rfl ?_
    refine aw_aload_n 6 dX6_isLetterAt_5 rfl rfl ?_
    obtain ⟨g2, H⟩ := H
    refine aw_getI 9 dX6_isLetterAt_6 rfl fl_X6_15 (by decide) g2 ?_
    refine aw_icmp_lt 14 12 dX6_isLetterAt_9 rfl (by decide) (fun c3 => ?_) (fun c3 => ?_)
    · replace H := H.1 c3
      refine aw_aload_n 15 dX6_isLetterAt_14 rfl rfl ?_
      obtain ⟨g4, H⟩ := H
      refine aw_getR 18 dX6_isLetterAt_15 rfl fl_X6_9 ir_6_0 g2 rfl g4 ?_
      refine aw_iload_n 19 dX6_isLetterAt_18 rfl rfl ?_
      obtain ⟨g5, H⟩ := H
      obtain ⟨g6, H⟩ := H
      refine aw_bald 20 dX6_isLetterAt_19 rfl (Or.inl (shp g5)) g6 ?_
      refine aw_istore_n (loc' := [some (.ref a0), some (.int x1), some (.int (hI h (hR h a0 0) x1.toNatClampNeg))]) 21 dX6_isLetterAt_20 rfl (by decide) rfl ?_
      refine aw_iload_n 22 dX6_isLetterAt_21 rfl rfl ?_
      refine aw_bipush (v := 97) 24 dX6_isLetterAt_22 rfl (by decide) ?_
      refine aw_icmp_lt 33 27 dX6_isLetterAt_24 rfl (by decide) (fun c7 => ?_) (fun c7 => ?_)
      · replace H := H.1 c7
        refine aw_iload_n 34 dX6_isLetterAt_33 rfl rfl ?_
        refine aw_bipush (v := 65) 36 dX6_isLetterAt_34 rfl (by decide) ?_
        refine aw_icmp_lt 45 39 dX6_isLetterAt_36 rfl (by decide) (fun c8 => ?_) (fun c8 => ?_)
        · replace H := H.1 c8
          exact H
        · replace H := H.2 c8
          refine aw_iload_n 40 dX6_isLetterAt_39 rfl rfl ?_
          refine aw_bipush (v := 90) 42 dX6_isLetterAt_40 rfl (by decide) ?_
          refine aw_icmp_le 79 45 dX6_isLetterAt_42 rfl (by decide) (fun c9 => ?_) (fun c9 => ?_)
          · replace H := H.1 c9
            refine aw_iconst (v := 1) 80 dX6_isLetterAt_79 rfl (by decide) ?_
            refine aw_goto 84 dX6_isLetterAt_80 (by decide) ?_
            exact aw_zreturn dX6_isLetterAt_84 rfl (by decide) (by decide) (by decide) ⟨_, rfl, H⟩
          · replace H := H.2 c9
            exact H
      · replace H := H.2 c7
        refine aw_iload_n 28 dX6_isLetterAt_27 rfl rfl ?_
        refine aw_bipush (v := 122) 30 dX6_isLetterAt_28 rfl (by decide) ?_
        refine aw_icmp_le 79 33 dX6_isLetterAt_30 rfl (by decide) (fun c10 => ?_) (fun c10 => ?_)
        · replace H := H.1 c10
          refine aw_iconst (v := 1) 80 dX6_isLetterAt_79 rfl (by decide) ?_
          refine aw_goto 84 dX6_isLetterAt_80 (by decide) ?_
          exact aw_zreturn dX6_isLetterAt_84 rfl (by decide) (by decide) (by decide) ⟨_, rfl, H⟩
        · replace H := H.2 c10
          refine aw_iload_n 34 dX6_isLetterAt_33 rfl rfl ?_
          refine aw_bipush (v := 65) 36 dX6_isLetterAt_34 rfl (by decide) ?_
          refine aw_icmp_lt 45 39 dX6_isLetterAt_36 rfl (by decide) (fun c11 => ?_) (fun c11 => ?_)
          · replace H := H.1 c11
            exact H
          · replace H := H.2 c11
            refine aw_iload_n 40 dX6_isLetterAt_39 rfl rfl ?_
            refine aw_bipush (v := 90) 42 dX6_isLetterAt_40 rfl (by decide) ?_
            refine aw_icmp_le 79 45 dX6_isLetterAt_42 rfl (by decide) (fun c12 => ?_) (fun c12 => ?_)
            · replace H := H.1 c12
              refine aw_iconst (v := 1) 80 dX6_isLetterAt_79 rfl (by decide) ?_
              refine aw_goto 84 dX6_isLetterAt_80 (by decide) ?_
              exact aw_zreturn dX6_isLetterAt_84 rfl (by decide) (by decide) (by decide) ⟨_, rfl, H⟩
            · replace H := H.2 c12
              exact H
    · replace H := H.2 c3
      refine aw_iconst (v := 0) 13 dX6_isLetterAt_12 rfl (by decide) ?_
      exact aw_zreturn dX6_isLetterAt_13 rfl (by decide) (by decide) (by decide) ⟨_, rfl, H⟩
theorem eX6_isLetterAt {w : Wd} {Q : Int32 → Hp → Prop} {h : Hp} {a0 : Nat} {x1 : Int32} (H : AW w mX6_isLetterAt 0 0 (rI Q) 0 0 0 [some (.ref a0), some (.int x1), none] [] h) : AC w mX6_isLetterAt 0 0 (rI Q) [.ref a0, .int x1] h := AC.ofL (by decide) (by simp [enl, Value.category]) (by simp [leL, enl, Value.category]) H
set_option maxHeartbeats 4000000 in
set_option maxRecDepth 100000 in
theorem sX6_isLetterAt_45 {w : Wd} {Q : Int32 → Hp → Prop} {h : Hp} {a0 : Nat} {x1 : Int32} {x2 : Int32} (H : (hs h a0).1 = 26 ∧ AC w mX6_isDigitAt 0 0 (rI fun r1 h1 => ((¬ r1 = 0 → Q 1 h1) ∧ (r1 = 0 → ((¬ x2 = 46 → Q 0 h1) ∧ (x2 = 46 → (hs h1 a0).1 = 26 ∧ AC w mX6_isDigitAt 0 0 (rI fun r2 h2 => ((r2 = 0 → Q 0 h2) ∧ (¬ r2 = 0 → (hs h2 a0).1 = 26 ∧ AC w mX6_isDigitAt 0 0 (rI fun r3 h3 => ((r3 = 0 → Q 0 h3) ∧ (¬ r3 = 0 → Q 1 h3))) [.ref a0, .int (x1 + 1)] h2))) [.ref a0, .int (x1 - 1)] h1))))) [.ref a0, .int x1] h) : AW w mX6_isLetterAt 0 0 (rI Q) 0 0 45 [some (.ref a0), some (.int x1), some (.int x2)] [] h := by
  refine aw_aload_n 46 dX6_isLetterAt_45 rfl rfl ?_
  refine aw_iload_n 47 dX6_isLetterAt_46 rfl rfl ?_
  obtain ⟨g1, H⟩ := H
  refine aw_callV (stk := []) (ci := 6) [.int x1] 50 dX6_isLetterAt_47 rfl mv_X6_19 ⟨by decide, by decide⟩ g1 (by intro r hr; cases hr; rfl) rfl rfl (by simp [Value.category]) (by decide) H ?_
  rintro _ h1 ⟨r1, rfl, H⟩
  refine aw_if_ne 79 53 dX6_isLetterAt_50 rfl (by decide) (fun c2 => ?_) (fun c2 => ?_)
  · replace H := H.1 c2
    refine aw_iconst (v := 1) 80 dX6_isLetterAt_79 rfl (by decide) ?_
    refine aw_goto 84 dX6_isLetterAt_80 (by decide) ?_
    exact aw_zreturn dX6_isLetterAt_84 rfl (by decide) (by decide) (by decide) ⟨_, rfl, H⟩
  · replace H := H.2 c2
    refine aw_iload_n 54 dX6_isLetterAt_53 rfl rfl ?_
    refine aw_bipush (v := 46) 56 dX6_isLetterAt_54 rfl (by decide) ?_
    refine aw_icmp_ne 83 59 dX6_isLetterAt_56 rfl (by decide) (fun c3 => ?_) (fun c3 => ?_)
    · replace H := H.1 c3
      refine aw_iconst (v := 0) 84 dX6_isLetterAt_83 rfl (by decide) ?_
      exact aw_zreturn dX6_isLetterAt_84 rfl (by decide) (by decide) (by decide) ⟨_, rfl, H⟩
    · replace H := H.2 c3
      refine aw_aload_n 60 dX6_isLetterAt_59 rfl rfl ?_
      refine aw_iload_n 61 dX6_isLetterAt_60 rfl rfl ?_
      refine aw_iconst (v := 1) 62 dX6_isLetterAt_61 rfl (by decide) ?_
      refine aw_isub 63 dX6_isLetterAt_62 rfl ?_
      obtain ⟨g4, H⟩ := H
      refine aw_callV (stk := []) (ci := 6) [.int (x1 - 1)] 66 dX6_isLetterAt_63 rfl mv_X6_19 ⟨by decide, by decide⟩ g4 (by intro r hr; cases hr; rfl) rfl rfl (by simp [Value.category]) (by decide) H ?_
      rintro _ h2 ⟨r2, rfl, H⟩
      refine aw_if_eq 83 69 dX6_isLetterAt_66 rfl (by decide) (fun c5 => ?_) (fun c5 => ?_)
      · replace H := H.1 c5
        refine aw_iconst (v := 0) 84 dX6_isLetterAt_83 rfl (by decide) ?_
        exact aw_zreturn dX6_isLetterAt_84 rfl (by decide) (by decide) (by decide) ⟨_, rfl, H⟩
      · replace H := H.2 c5
        refine aw_aload_n 70 dX6_isLetterAt_69 rfl rfl ?_
        refine aw_iload_n 71 dX6_isLetterAt_70 rfl rfl ?_
        refine aw_iconst (v := 1) 72 dX6_isLetterAt_71 rfl (by decide) ?_
        refine aw_iadd 73 dX6_isLetterAt_72 rfl ?_
        obtain ⟨g6, H⟩ := H
        refine aw_callV (stk := []) (ci := 6) [.int (x1 + 1)] 76 dX6_isLetterAt_73 rfl mv_X6_19 ⟨by decide, by decide⟩ g6 (by intro r hr; cases hr; rfl) rfl rfl (by simp [Value.category]) (by decide) H ?_
        rintro _ h3 ⟨r3, rfl, H⟩
        refine aw_if_eq 83 79 dX6_isLetterAt_76 rfl (by decide) (fun c7 => ?_) (fun c7 => ?_)
        · replace H := H.1 c7
          refine aw_iconst (v := 0) 84 dX6_isLetterAt_83 rfl (by decide) ?_
          exact aw_zreturn dX6_isLetterAt_84 rfl (by decide) (by decide) (by decide) ⟨_, rfl, H⟩
        · replace H := H.2 c7
          refine aw_iconst (v := 1) 80 dX6_isLetterAt_79 rfl (by decide) ?_
          refine aw_goto 84 dX6_isLetterAt_80 (by decide) ?_
          exact aw_zreturn dX6_isLetterAt_84 rfl (by decide) (by decide) (by decide) ⟨_, rfl, H⟩
set_option maxHeartbeats 4000000 in
set_option maxRecDepth 100000 in
theorem sX6_append_0 {w : Wd} {Q : Hp → Prop} {h : Hp} {a0 : Nat} {x1 : Int32} (H : AW w mX6_append 0 0 (rV Q) 0 0 3 [some (.ref a0), some (.int x1), some (.int 24)] [] h) : AW w mX6_append 0 0 (rV Q) 0 0 0 [some (.ref a0), some (.int x1), none] [] h := by
  refine aw_bipush (v := 24) 2 dX6_append_0 rfl (by decide) ?_
  refine aw_istore_n (loc' := [some (.ref a0), some (.int x1), some (.int 24)]) 3 dX6_append_2 rfl (by decide) rfl ?_
  exact H
theorem eX6_append {w : Wd} {Q : Hp → Prop} {h : Hp} {a0 : Nat} {x1 : Int32} (H : AW w mX6_append 0 0 (rV Q) 0 0 0 [some (.ref a0), some (.int x1), none] [] h) : AC w mX6_append 0 0 (rV Q) [.ref a0, .int x1] h := AC.ofL (by decide) (by simp [enl, Value.category]) (by simp [leL, enl, Value.category]) H
set_option maxHeartbeats 4000000 in
set_option maxRecDepth 100000 in
theorem sX6_append_3 {w : Wd} {Q : Hp → Prop} {h : Hp} {a0 : Nat} {x1 : Int32} {x2 : Int32} (H : ((x2 < 0 → Q h) ∧ (¬ x2 < 0 → (hs h a0).1 = 26 ∧ ((1600 ≤ (hI h a0 1) → Q h) ∧ (¬ 1600 ≤ (hI h a0 1) → hR h a0 0 ≠ 0 ∧ (hs h (hR h a0 0)).1 = 2 ∧ vp_in (hI h a0 1) (hs h (hR h a0 0)).2 ∧ ∀ h1, h1 = sI h (hR h a0 0) (hI h a0 1).toNatClampNeg (vp_nar .byte (((x1.toUInt32 >>> (x2.toUInt32 &&& Int32.toUInt32 31)).toInt32).toInt8.toInt32)) → ∀ h2, h2 = sI h1 a0 1 ((hI h1 a0 1) + 1) → AW w mX6_append 0 0 (rV Q) 0 0 3 [some (.ref a0), some (.int x1), some (.int (x2 + (-8)))] [] h2))))) : AW w mX6_append 0 0 (rV Q) 0 0 3 [some (.ref a0), some (.int x1), some (.int x2)] [] h := by
  refine aw_iload_n 4 dX6_append_3 rfl rfl ?_
  refine aw_if_lt 46 7 dX6_append_4 rfl (by decide) (fun c1 => ?_) (fun c1 => ?_)
  · replace H := H.1 c1
    exact aw_return dX6_append_46 rfl (by decide) (by decide) ⟨rfl, H⟩
  · replace H := H.2 c1
    refine aw_aload_n 8 dX6_append_7 rfl rfl ?_
    obtain ⟨g2, H⟩ := H
    refine aw_getI 11 dX6_append_8 rfl fl_X6_15 (by decide) g2 ?_
    refine aw_sipush (v := 1600) 14 dX6_append_11 rfl (by decide) ?_
    refine aw_icmp_ge 46 17 dX6_append_14 rfl (by decide) (fun c3 => ?_) (fun c3 => ?_)
    · replace H := H.1 c3
      exact aw_return dX6_append_46 rfl (by decide) (by decide) ⟨rfl, H⟩
    · replace H := H.2 c3
      refine aw_aload_n 18 dX6_append_17 rfl rfl ?_
      obtain ⟨g4, H⟩ := H
      refine aw_getR 21 dX6_append_18 rfl fl_X6_9 ir_6_0 g2 rfl g4 ?_
      refine aw_aload_n 22 dX6_append_21 rfl rfl ?_
      refine aw_getI 25 dX6_append_22 rfl fl_X6_15 (by decide) g2 ?_
      refine aw_iload_n 26 dX6_append_25 rfl rfl ?_
      refine aw_iload_n 27 dX6_append_26 rfl rfl ?_
      refine aw_iushr 28 dX6_append_27 rfl ?_
      refine aw_i2b 29 dX6_append_28 rfl ?_
      obtain ⟨g5, H⟩ := H
      obtain ⟨g6, H⟩ := H
      refine aw_bast 30 dX6_append_29 rfl (shp g5) g6 ?_
      replace H := H _ rfl
      refine aw_aload_n 31 dX6_append_30 rfl rfl ?_
      refine aw_dup 32 dX6_append_31 rfl rfl ?_
      refine aw_getI 35 dX6_append_32 rfl fl_X6_15 (by decide) g2 ?_
      refine aw_iconst (v := 1) 36 dX6_append_35 rfl (by decide) ?_
      refine aw_iadd 37 dX6_append_36 rfl ?_
      refine aw_putI 40 dX6_append_37 rfl fl_X6_15 (by decide) g2 nf_6_1 ?_
      replace H := H _ rfl
      refine aw_iinc (y := (-8)) (loc' := [some (.ref a0), some (.int x1), some (.int (x2 + (-8)))]) 43 dX6_append_40 rfl (by decide) rfl (by decide) rfl ?_
      refine aw_goto 3 dX6_append_43 (by decide) ?_
      exact H
