set_option maxHeartbeats 4000000 in
set_option maxRecDepth 100000 in
theorem sX9_playRound_0 {w : Wd} {Q : Hp → Prop} {h : Hp} {a0 : Nat} (H : (hs h a0).1 = 29 ∧ hR h a0 6 ≠ 0 ∧ (hs h (hR h a0 6)).1 = 24 ∧ AC w mX4_startDealing 0 0 (rV fun h1 => AW w mX9_playRound 0 0 (rV Q) 0 0 9 [some (.ref a0), some (.int 0)] [] h1) [.ref (hR h a0 6)] h) : AW w mX9_playRound 0 0 (rV Q) 0 0 0 [some (.ref a0), none] [] h := by
  refine aw_aload_n 1 dX9_playRound_0 rfl rfl ?_
  obtain ⟨g1, H⟩ := H
  obtain ⟨g2, H⟩ := H
  refine aw_getR 4 dX9_playRound_1 rfl fl_X9_55 ir_9_6 g1 rfl g2 ?_
  obtain ⟨g3, H⟩ := H
  refine aw_callV (stk := []) (ci := 4) [] 7 dX9_playRound_4 rfl mv_X9_338 ⟨by decide, by decide⟩ g3 (by intro r hr; cases hr; rfl) rfl rfl (by simp [Value.category]) (by decide) H ?_
  rintro _ h1 ⟨rfl, H⟩
  refine aw_iconst (v := 0) 8 dX9_playRound_7 rfl (by decide) ?_
  refine aw_istore_n (loc' := [some (.ref a0), some (.int 0)]) 9 dX9_playRound_8 rfl (by decide) rfl ?_
  exact H
theorem eX9_playRound {w : Wd} {Q : Hp → Prop} {h : Hp} {a0 : Nat} (H : AW w mX9_playRound 0 0 (rV Q) 0 0 0 [some (.ref a0), none] [] h) : AC w mX9_playRound 0 0 (rV Q) [.ref a0] h := AC.ofL (by decide) (by simp [enl, Value.category]) (by simp [leL, enl, Value.category]) H
set_option maxHeartbeats 4000000 in
set_option maxRecDepth 100000 in
theorem sX9_playRound_9 {w : Wd} {Q : Hp → Prop} {h : Hp} {a0 : Nat} {x1 : Int32} (H : (hs h a0).1 = 29 ∧ hR h a0 7 ≠ 0 ∧ (hs h (hR h a0 7)).1 = 27 ∧ (((hI h (hR h a0 7) 12) ≤ x1 → hR h a0 6 ≠ 0 ∧ (hs h (hR h a0 6)).1 = 24 ∧ AC w mX4_settle 0 0 (rV fun h1 => (hs h1 a0).1 = 29 ∧ ∀ h2, h2 = sI h1 a0 11 1 → Q h2) [.ref (hR h a0 6)] h) ∧ (¬ (hI h (hR h a0 7) 12) ≤ x1 → AC w mX9_dealJoint 0 0 (rV fun h3 => AW w mX9_playRound 0 0 (rV Q) 0 0 9 [some (.ref a0), some (.int (x1 + 1))] [] h3) [.ref a0, .int x1] h))) : AW w mX9_playRound 0 0 (rV Q) 0 0 9 [some (.ref a0), some (.int x1)] [] h := by
  refine aw_iload_n 10 dX9_playRound_9 rfl rfl ?_
  refine aw_aload_n 11 dX9_playRound_10 rfl rfl ?_
  obtain ⟨g1, H⟩ := H
  obtain ⟨g2, H⟩ := H
  refine aw_getR 14 dX9_playRound_11 rfl fl_X9_64 ir_9_7 g1 rfl g2 ?_
  obtain ⟨g3, H⟩ := H
  refine aw_getI 17 dX9_playRound_14 rfl fl_X9_194 (by decide) g3 ?_
  refine aw_icmp_ge 31 20 dX9_playRound_17 rfl (by decide) (fun c4 => ?_) (fun c4 => ?_)
  · replace H := H.1 c4
    refine aw_aload_n 32 dX9_playRound_31 rfl rfl ?_
    obtain ⟨g5, H⟩ := H
    refine aw_getR 35 dX9_playRound_32 rfl fl_X9_55 ir_9_6 g1 rfl g5 ?_
    obtain ⟨g6, H⟩ := H
    refine aw_callV (stk := []) (ci := 4) [] 38 dX9_playRound_35 rfl mv_X9_344 ⟨by decide, by decide⟩ g6 (by intro r hr; cases hr; rfl) rfl rfl (by simp [Value.category]) (by decide) H ?_
    rintro _ h1 ⟨rfl, H⟩
    refine aw_aload_n 39 dX9_playRound_38 rfl rfl ?_
    refine aw_iconst (v := 1) 40 dX9_playRound_39 rfl (by decide) ?_
    obtain ⟨g7, H⟩ := H
    refine aw_putZ 43 dX9_playRound_40 rfl fl_X9_87 (by decide) (by decide) g7 nf_9_11 ?_
    replace H := H _ rfl
    exact aw_return dX9_playRound_43 rfl (by decide) (by decide) ⟨rfl, H⟩
  · replace H := H.2 c4
    refine aw_aload_n 21 dX9_playRound_20 rfl rfl ?_
    refine aw_iload_n 22 dX9_playRound_21 rfl rfl ?_
    refine aw_callV (stk := []) (ci := 9) [.int x1] 25 dX9_playRound_22 rfl mv_X9_341 ⟨by decide, by decide⟩ g1 (by intro r hr; cases hr; rfl) rfl rfl (by simp [Value.category]) (by decide) H ?_
    rintro _ h3 ⟨rfl, H⟩
    refine aw_iinc (y := 1) (loc' := [some (.ref a0), some (.int (x1 + 1))]) 28 dX9_playRound_25 rfl (by decide) rfl (by decide) rfl ?_
    refine aw_goto 9 dX9_playRound_28 (by decide) ?_
    exact H
set_option maxHeartbeats 4000000 in
set_option maxRecDepth 100000 in
theorem sX9_dealJoint_0 {w : Wd} {Q : Hp → Prop} {h : Hp} {a0 : Nat} {x1 : Int32} (H : (hs h a0).1 = 29 ∧ hR h a0 7 ≠ 0 ∧ (hs h (hR h a0 7)).1 = 27 ∧ hR h (hR h a0 7) 13 ≠ 0 ∧ (hs h (hR h (hR h a0 7) 13)).1 = 1 ∧ vp_in x1 (hs h (hR h (hR h a0 7) 13)).2 ∧ hR h (hR h a0 7) 14 ≠ 0 ∧ (hs h (hR h (hR h a0 7) 14)).1 = 1 ∧ vp_in x1 (hs h (hR h (hR h a0 7) 14)).2 ∧ hR h (hR h a0 7) 15 ≠ 0 ∧ (hs h (hR h (hR h a0 7) 15)).1 = 1 ∧ vp_in x1 (hs h (hR h (hR h a0 7) 15)).2 ∧ ((¬ (hI h (hR h (hR h a0 7) 13) x1.toNatClampNeg) = 6 → AC w mX9_hasBothSides 0 0 (rI fun r1 h1 => ((r1 = 0 → Q h1) ∧ (¬ r1 = 0 → (hs h1 a0).1 = 29 ∧ hR h1 a0 6 ≠ 0 ∧ hR h1 a0 3 ≠ 0 ∧ (hs h1 (hR h1 a0 3)).1 = 9 ∧ vp_in 0 (hs h1 (hR h1 a0 3)).2 ∧ hR h1 (hR h1 a0 3) (0 : Int32).toNatClampNeg ≠ 0 ∧ (hs h1 1).1 = 4 ∧ vp_in (hI h (hR h (hR h a0 7) 13) x1.toNatClampNeg) (hs h1 1).2 ∧ vp_in 1 (hs h1 (hR h1 a0 3)).2 ∧ hR h1 (hR h1 a0 3) (1 : Int32).toNatClampNeg ≠ 0 ∧ (hs h1 2).1 = 4 ∧ vp_in (hI h (hR h (hR h a0 7) 13) x1.toNatClampNeg) (hs h1 2).2 ∧ (hs h1 (hR h1 a0 6)).1 = 24 ∧ AC w mX4_deal 0 0 (rV fun h2 => Q h2) [.ref (hR h1 a0 6), .ref (hR h1 (hR h1 a0 3) (0 : Int32).toNatClampNeg), .int (hI h (hR h (hR h a0 7) 14) x1.toNatClampNeg), .int (hI h1 1 (hI h (hR h (hR h a0 7) 13) x1.toNatClampNeg).toNatClampNeg), .ref (hR h1 (hR h1 a0 3) (1 : Int32).toNatClampNeg), .int (hI h (hR h (hR h a0 7) 15) x1.toNatClampNeg), .int (hI h1 2 (hI h (hR h (hR h a0 7) 13) x1.toNatClampNeg).toNatClampNeg)] h1))) [.int (hI h (hR h (hR h a0 7) 13) x1.toNatClampNeg)] h) ∧ ((hI h (hR h (hR h a0 7) 13) x1.toNatClampNeg) = 6 → hR h a0 6 ≠ 0 ∧ hR h a0 3 ≠ 0 ∧ (hs h (hR h a0 3)).1 = 9 ∧ vp_in 0 (hs h (hR h a0 3)).2 ∧ hR h (hR h a0 3) (0 : Int32).toNatClampNeg ≠ 0 ∧ vp_in 1 (hs h (hR h a0 3)).2 ∧ hR h (hR h a0 3) (1 : Int32).toNatClampNeg ≠ 0 ∧ (hs h (hR h a0 6)).1 = 24 ∧ AC w mX4_deal 0 0 (rV fun h3 => (hs h3 a0).1 = 29 ∧ hR h3 a0 6 ≠ 0 ∧ hR h3 a0 3 ≠ 0 ∧ (hs h3 (hR h3 a0 3)).1 = 9 ∧ vp_in 0 (hs h3 (hR h3 a0 3)).2 ∧ hR h3 (hR h3 a0 3) (0 : Int32).toNatClampNeg ≠ 0 ∧ vp_in 1 (hs h3 (hR h3 a0 3)).2 ∧ hR h3 (hR h3 a0 3) (1 : Int32).toNatClampNeg ≠ 0 ∧ (hs h3 (hR h3 a0 6)).1 = 24 ∧ AC w mX4_deal 0 0 (rV fun h4 => Q h4) [.ref (hR h3 a0 6), .ref (hR h3 (hR h3 a0 3) (0 : Int32).toNatClampNeg), .int ((hI h (hR h (hR h a0 7) 14) x1.toNatClampNeg) + 1), .int 1, .ref (hR h3 (hR h3 a0 3) (1 : Int32).toNatClampNeg), .int (hI h (hR h (hR h a0 7) 15) x1.toNatClampNeg), .int 1] h3) [.ref (hR h a0 6), .ref (hR h (hR h a0 3) (0 : Int32).toNatClampNeg), .int (hI h (hR h (hR h a0 7) 14) x1.toNatClampNeg), .int 1, .ref (hR h (hR h a0 3) (1 : Int32).toNatClampNeg), .int ((hI h (hR h (hR h a0 7) 15) x1.toNatClampNeg) + 1), .int 1] h))) : AW w mX9_dealJoint 0 0 (rV Q) 0 0 0 [some (.ref a0), some (.int x1), none, none, none] [] h := by
  refine aw_aload_n 1 dX9_dealJoint_0 rfl rfl ?_
  obtain ⟨g1, H⟩ := H
  obtain ⟨g2, H⟩ := H
  refine aw_getR 4 dX9_dealJoint_1 rfl fl_X9_64 ir_9_7 g1 rfl g2 ?_
  obtain ⟨g3, H⟩ := H
  obtain ⟨g4, H⟩ := H
  refine aw_getR 7 dX9_dealJoint_4 rfl fl_X9_200 ir_7_13 g3 rfl g4 ?_
  refine aw_iload_n 8 dX9_dealJoint_7 rfl rfl ?_
  obtain ⟨g5, H⟩ := H
  obtain ⟨g6, H⟩ := H
  refine aw_iald 9 dX9_dealJoint_8 rfl (Or.inl (shp g5)) g6 ?_
  refine aw_istore_n (loc' := [some (.ref a0), some (.int x1), some (.int (hI h (hR h (hR h a0 7) 13) x1.toNatClampNeg)), none, none]) 10 dX9_dealJoint_9 rfl (by decide) rfl ?_
  refine aw_aload_n 11 dX9_dealJoint_10 rfl rfl ?_
  refine aw_getR 14 dX9_dealJoint_11 rfl fl_X9_64 ir_9_7 g1 rfl g2 ?_
  obtain ⟨g7, H⟩ := H
  refine aw_getR 17 dX9_dealJoint_14 rfl fl_X9_203 ir_7_14 g3 rfl g7 ?_
  refine aw_iload_n 18 dX9_dealJoint_17 rfl rfl ?_
  obtain ⟨g8, H⟩ := H
  obtain ⟨g9, H⟩ := H
  refine aw_iald 19 dX9_dealJoint_18 rfl (Or.inl (shp g8)) g9 ?_
  refine aw_istore_n (loc' := [some (.ref a0), some (.int x1), some (.int (hI h (hR h (hR h a0 7) 13) x1.toNatClampNeg)), some (.int (hI h (hR h (hR h a0 7) 14) x1.toNatClampNeg)), none]) 20 dX9_dealJoint_19 rfl (by decide) rfl ?_
  refine aw_aload_n 21 dX9_dealJoint_20 rfl rfl ?_
  refine aw_getR 24 dX9_dealJoint_21 rfl fl_X9_64 ir_9_7 g1 rfl g2 ?_
  obtain ⟨g10, H⟩ := H
  refine aw_getR 27 dX9_dealJoint_24 rfl fl_X9_206 ir_7_15 g3 rfl g10 ?_
  refine aw_iload_n 28 dX9_dealJoint_27 rfl rfl ?_
  obtain ⟨g11, H⟩ := H
  obtain ⟨g12, H⟩ := H
  refine aw_iald 29 dX9_dealJoint_28 rfl (Or.inl (shp g11)) g12 ?_
  refine aw_istore (loc' := [some (.ref a0), some (.int x1), some (.int (hI h (hR h (hR h a0 7) 13) x1.toNatClampNeg)), some (.int (hI h (hR h (hR h a0 7) 14) x1.toNatClampNeg)), some (.int (hI h (hR h (hR h a0 7) 15) x1.toNatClampNeg))]) 31 dX9_dealJoint_29 rfl (by decide) rfl ?_
  refine aw_iload_n 32 dX9_dealJoint_31 rfl rfl ?_
  refine aw_bipush (v := 6) 34 dX9_dealJoint_32 rfl (by decide) ?_
  refine aw_icmp_ne 92 37 dX9_dealJoint_34 rfl (by decide) (fun c13 => ?_) (fun c13 => ?_)
  · replace H := H.1 c13
    refine aw_iload_n 93 dX9_dealJoint_92 rfl rfl ?_
    refine aw_callS (stk := []) [.int (hI h (hR h (hR h a0 7) 13) x1.toNatClampNeg)] 96 dX9_dealJoint_93 rfl mv_X9_351 ⟨by decide, by decide⟩ rfl rfl (by simp [Value.category]) (by decide) H ?_
    rintro _ h1 ⟨r1, rfl, H⟩
    refine aw_if_eq 131 99 dX9_dealJoint_96 rfl (by decide) (fun c14 => ?_) (fun c14 => ?_)
    · replace H := H.1 c14
      exact aw_return dX9_dealJoint_131 rfl (by decide) (by decide) ⟨rfl, H⟩
    · replace H := H.2 c14
      refine aw_aload_n 100 dX9_dealJoint_99 rfl rfl ?_
      obtain ⟨g15, H⟩ := H
      obtain ⟨g16, H⟩ := H
      refine aw_getR 103 dX9_dealJoint_100 rfl fl_X9_55 ir_9_6 g15 rfl g16 ?_
      refine aw_aload_n 104 dX9_dealJoint_103 rfl rfl ?_
      obtain ⟨g17, H⟩ := H
      refine aw_getR 107 dX9_dealJoint_104 rfl fl_X9_37 ir_9_3 g15 rfl g17 ?_
      refine aw_iconst (v := 0) 108 dX9_dealJoint_107 rfl (by decide) ?_
      obtain ⟨g18, H⟩ := H
      obtain ⟨g19, H⟩ := H
      obtain ⟨g20, H⟩ := H
      refine aw_aald 109 dX9_dealJoint_108 rfl (shp g18) (by decide) g19 rfl g20 ?_
      refine aw_iload_n 110 dX9_dealJoint_109 rfl rfl ?_
      refine aw_gets (j := 1) 113 dX9_dealJoint_110 rfl (by decide) gs_X9_212 ?_
      refine aw_iload_n 114 dX9_dealJoint_113 rfl rfl ?_
      obtain ⟨g21, H⟩ := H
      obtain ⟨g22, H⟩ := H
      refine aw_iald 115 dX9_dealJoint_114 rfl (Or.inr (shp g21)) g22 ?_
      refine aw_aload_n 116 dX9_dealJoint_115 rfl rfl ?_
      refine aw_getR 119 dX9_dealJoint_116 rfl fl_X9_37 ir_9_3 g15 rfl g17 ?_
      refine aw_iconst (v := 1) 120 dX9_dealJoint_119 rfl (by decide) ?_
      obtain ⟨g23, H⟩ := H
      obtain ⟨g24, H⟩ := H
      refine aw_aald 121 dX9_dealJoint_120 rfl (shp g18) (by decide) g23 rfl g24 ?_
      refine aw_iload 123 dX9_dealJoint_121 rfl rfl ?_
      refine aw_gets (j := 2) 126 dX9_dealJoint_123 rfl (by decide) gs_X9_218 ?_
      refine aw_iload_n 127 dX9_dealJoint_126 rfl rfl ?_
      obtain ⟨g25, H⟩ := H
      obtain ⟨g26, H⟩ := H
      refine aw_iald 128 dX9_dealJoint_127 rfl (Or.inr (shp g25)) g26 ?_
      obtain ⟨g27, H⟩ := H
      refine aw_callV (stk := []) (ci := 4) [.ref (hR h1 (hR h1 a0 3) (0 : Int32).toNatClampNeg), .int (hI h (hR h (hR h a0 7) 14) x1.toNatClampNeg), .int (hI h1 1 (hI h (hR h (hR h a0 7) 13) x1.toNatClampNeg).toNatClampNeg), .ref (hR h1 (hR h1 a0 3) (1 : Int32).toNatClampNeg), .int (hI h (hR h (hR h a0 7) 15) x1.toNatClampNeg), .int (hI h1 2 (hI h (hR h (hR h a0 7) 13) x1.toNatClampNeg).toNatClampNeg)] 131 dX9_dealJoint_128 rfl mv_X9_347 ⟨by decide, by decide⟩ g27 (by intro r hr; cases hr; rfl) rfl rfl (by simp [Value.category]) (by decide) H ?_
      rintro _ h2 ⟨rfl, H⟩
      exact aw_return dX9_dealJoint_131 rfl (by decide) (by decide) ⟨rfl, H⟩
  · replace H := H.2 c13
    refine aw_aload_n 38 dX9_dealJoint_37 rfl rfl ?_
    obtain ⟨g28, H⟩ := H
    refine aw_getR 41 dX9_dealJoint_38 rfl fl_X9_55 ir_9_6 g1 rfl g28 ?_
    refine aw_aload_n 42 dX9_dealJoint_41 rfl rfl ?_
    obtain ⟨g29, H⟩ := H
    refine aw_getR 45 dX9_dealJoint_42 rfl fl_X9_37 ir_9_3 g1 rfl g29 ?_
    refine aw_iconst (v := 0) 46 dX9_dealJoint_45 rfl (by decide) ?_
    obtain ⟨g30, H⟩ := H
    obtain ⟨g31, H⟩ := H
    obtain ⟨g32, H⟩ := H
    refine aw_aald 47 dX9_dealJoint_46 rfl (shp g30) (by decide) g31 rfl g32 ?_
    refine aw_iload_n 48 dX9_dealJoint_47 rfl rfl ?_
    refine aw_iconst (v := 1) 49 dX9_dealJoint_48 rfl (by decide) ?_
    refine aw_aload_n 50 dX9_dealJoint_49 rfl rfl ?_
    refine aw_getR 53 dX9_dealJoint_50 rfl fl_X9_37 ir_9_3 g1 rfl g29 ?_
    refine aw_iconst (v := 1) 54 dX9_dealJoint_53 rfl (by decide) ?_
    obtain ⟨g33, H⟩ := H
    obtain ⟨g34, H⟩ := H
    refine aw_aald 55 dX9_dealJoint_54 rfl (shp g30) (by decide) g33 rfl g34 ?_
    refine aw_iload 57 dX9_dealJoint_55 rfl rfl ?_
    refine aw_iconst (v := 1) 58 dX9_dealJoint_57 rfl (by decide) ?_
    refine aw_iadd 59 dX9_dealJoint_58 rfl ?_
    refine aw_iconst (v := 1) 60 dX9_dealJoint_59 rfl (by decide) ?_
    obtain ⟨g35, H⟩ := H
    refine aw_callV (stk := []) (ci := 4) [.ref (hR h (hR h a0 3) (0 : Int32).toNatClampNeg), .int (hI h (hR h (hR h a0 7) 14) x1.toNatClampNeg), .int 1, .ref (hR h (hR h a0 3) (1 : Int32).toNatClampNeg), .int ((hI h (hR h (hR h a0 7) 15) x1.toNatClampNeg) + 1), .int 1] 63 dX9_dealJoint_60 rfl mv_X9_347 ⟨by decide, by decide⟩ g35 (by intro r hr; cases hr; rfl) rfl rfl (by simp [Value.category]) (by decide) H ?_
    rintro _ h3 ⟨rfl, H⟩
    refine aw_aload_n 64 dX9_dealJoint_63 rfl rfl ?_
    obtain ⟨g36, H⟩ := H
    obtain ⟨g37, H⟩ := H
    refine aw_getR 67 dX9_dealJoint_64 rfl fl_X9_55 ir_9_6 g36 rfl g37 ?_
    refine aw_aload_n 68 dX9_dealJoint_67 rfl rfl ?_
    obtain ⟨g38, H⟩ := H
    refine aw_getR 71 dX9_dealJoint_68 rfl fl_X9_37 ir_9_3 g36 rfl g38 ?_
    refine aw_iconst (v := 0) 72 dX9_dealJoint_71 rfl (by decide) ?_
    obtain ⟨g39, H⟩ := H
    obtain ⟨g40, H⟩ := H
    obtain ⟨g41, H⟩ := H
    refine aw_aald 73 dX9_dealJoint_72 rfl (shp g39) (by decide) g40 rfl g41 ?_
    refine aw_iload_n 74 dX9_dealJoint_73 rfl rfl ?_
    refine aw_iconst (v := 1) 75 dX9_dealJoint_74 rfl (by decide) ?_
    refine aw_iadd 76 dX9_dealJoint_75 rfl ?_
    refine aw_iconst (v := 1) 77 dX9_dealJoint_76 rfl (by decide) ?_
    refine aw_aload_n 78 dX9_dealJoint_77 rfl rfl ?_
    refine aw_getR 81 dX9_dealJoint_78 rfl fl_X9_37 ir_9_3 g36 rfl g38 ?_
    refine aw_iconst (v := 1) 82 dX9_dealJoint_81 rfl (by decide) ?_
    obtain ⟨g42, H⟩ := H
    obtain ⟨g43, H⟩ := H
    refine aw_aald 83 dX9_dealJoint_82 rfl (shp g39) (by decide) g42 rfl g43 ?_
    refine aw_iload 85 dX9_dealJoint_83 rfl rfl ?_
    refine aw_iconst (v := 1) 86 dX9_dealJoint_85 rfl (by decide) ?_
    obtain ⟨g44, H⟩ := H
    refine aw_callV (stk := []) (ci := 4) [.ref (hR h3 (hR h3 a0 3) (0 : Int32).toNatClampNeg), .int ((hI h (hR h (hR h a0 7) 14) x1.toNatClampNeg) + 1), .int 1, .ref (hR h3 (hR h3 a0 3) (1 : Int32).toNatClampNeg), .int (hI h (hR h (hR h a0 7) 15) x1.toNatClampNeg), .int 1] 89 dX9_dealJoint_86 rfl mv_X9_347 ⟨by decide, by decide⟩ g44 (by intro r hr; cases hr; rfl) rfl rfl (by simp [Value.category]) (by decide) H ?_
    rintro _ h4 ⟨rfl, H⟩
    refine aw_goto 131 dX9_dealJoint_89 (by decide) ?_
    exact aw_return dX9_dealJoint_131 rfl (by decide) (by decide) ⟨rfl, H⟩
theorem eX9_dealJoint {w : Wd} {Q : Hp → Prop} {h : Hp} {a0 : Nat} {x1 : Int32} (H : AW w mX9_dealJoint 0 0 (rV Q) 0 0 0 [some (.ref a0), some (.int x1), none, none, none] [] h) : AC w mX9_dealJoint 0 0 (rV Q) [.ref a0, .int x1] h := AC.ofL (by decide) (by simp [enl, Value.category]) (by simp [leL, enl, Value.category]) H
set_option maxHeartbeats 4000000 in
set_option maxRecDepth 100000 in
theorem sX9_breaksTerm_0 {w : Wd} {Q : Int32 → Hp → Prop} {h : Hp} {a0 : Nat} {x1 : Int32} (H : (hs h a0).1 = 29 ∧ hR h a0 7 ≠ 0 ∧ (hs h (hR h a0 7)).1 = 27 ∧ hR h (hR h a0 7) 13 ≠ 0 ∧ (hs h (hR h (hR h a0 7) 13)).1 = 1 ∧ vp_in x1 (hs h (hR h (hR h a0 7) 13)).2 ∧ AC w mX9_hasBothSides 0 0 (rI fun r1 h1 => ((¬ r1 = 0 → (hs h1 a0).1 = 29 ∧ hR h1 a0 3 ≠ 0 ∧ (hs h1 (hR h1 a0 3)).1 = 9 ∧ vp_in 1 (hs h1 (hR h1 a0 3)).2 ∧ hR h1 (hR h1 a0 3) (1 : Int32).toNatClampNeg ≠ 0 ∧ hR h1 a0 7 ≠ 0 ∧ (hs h1 (hR h1 a0 7)).1 = 27 ∧ hR h1 (hR h1 a0 7) 15 ≠ 0 ∧ (hs h1 (hR h1 (hR h1 a0 7) 15)).1 = 1 ∧ vp_in x1 (hs h1 (hR h1 (hR h1 a0 7) 15)).2 ∧ (hs h1 2).1 = 4 ∧ vp_in (hI h (hR h (hR h a0 7) 13) x1.toNatClampNeg) (hs h1 2).2 ∧ (hs h1 (hR h1 (hR h1 a0 3) (1 : Int32).toNatClampNeg)).1 = 20 ∧ AC w mX0_kindsIn 0 0 (rL fun r2 h2 => (hs h2 a0).1 = 29 ∧ hR h2 a0 7 ≠ 0 ∧ (hs h2 (hR h2 a0 7)).1 = 27 ∧ hR h2 (hR h2 a0 7) 14 ≠ 0 ∧ (hs h2 (hR h2 (hR h2 a0 7) 14)).1 = 1 ∧ vp_in x1 (hs h2 (hR h2 (hR h2 a0 7) 14)).2 ∧ AW w mX9_breaksTerm 0 0 (rI Q) 0 0 58 [some (.ref a0), none, some (.int (hI h (hR h (hR h a0 7) 13) x1.toNatClampNeg)), some (.long r2), none, some (.int (hI h2 (hR h2 (hR h2 a0 7) 14) x1.toNatClampNeg)), some (.int (hI h2 (hR h2 (hR h2 a0 7) 14) x1.toNatClampNeg)), none, none] [] h2) [.ref (hR h1 (hR h1 a0 3) (1 : Int32).toNatClampNeg), .int (hI h1 (hR h1 (hR h1 a0 7) 15) x1.toNatClampNeg), .int (hI h1 2 (hI h (hR h (hR h a0 7) 13) x1.toNatClampNeg).toNatClampNeg)] h1) ∧ (r1 = 0 → Q 0 h1))) [.int (hI h (hR h (hR h a0 7) 13) x1.toNatClampNeg)] h) : AW w mX9_breaksTerm 0 0 (rI Q) 0 0 0 [some (.ref a0), some (.int x1), none, none, none, none, none, none, none] [] h := by
  refine aw_aload_n 1 dX9_breaksTerm_0 rfl rfl ?_
  obtain ⟨g1, H⟩ := H
  obtain ⟨g2, H⟩ := H
  refine aw_getR 4 dX9_breaksTerm_1 rfl fl_X9_64 ir_9_7 g1 rfl g2 ?_
  obtain ⟨g3, H⟩ := H
  obtain ⟨g4, H⟩ := H
  refine aw_getR 7 dX9_breaksTerm_4 rfl fl_X9_200 ir_7_13 g3 rfl g4 ?_
  refine aw_iload_n 8 dX9_breaksTerm_7 rfl rfl ?_
  obtain ⟨g5, H⟩ := H
  obtain ⟨g6, H⟩ := H
  refine aw_iald 9 dX9_breaksTerm_8 rfl (Or.inl (shp g5)) g6 ?_
  refine aw_istore_n (loc' := [some (.ref a0), some (.int x1), some (.int (hI h (hR h (hR h a0 7) 13) x1.toNatClampNeg)), none, none, none, none, none, none]) 10 dX9_breaksTerm_9 rfl (by decide) rfl ?_
  refine aw_iload_n 11 dX9_breaksTerm_10 rfl rfl ?_
  refine aw_callS (stk := []) [.int (hI h (hR h (hR h a0 7) 13) x1.toNatClampNeg)] 14 dX9_breaksTerm_11 rfl mv_X9_351 ⟨by decide, by decide⟩ rfl rfl (by simp [Value.category]) (by decide) H ?_
  rintro _ h1 ⟨r1, rfl, H⟩
  refine aw_if_ne 19 17 dX9_breaksTerm_14 rfl (by decide) (fun c7 => ?_) (fun c7 => ?_)
  · replace H := H.1 c7
    refine aw_aload_n 20 dX9_breaksTerm_19 rfl rfl ?_
    obtain ⟨g8, H⟩ := H
    obtain ⟨g9, H⟩ := H
    refine aw_getR 23 dX9_breaksTerm_20 rfl fl_X9_37 ir_9_3 g8 rfl g9 ?_
    refine aw_iconst (v := 1) 24 dX9_breaksTerm_23 rfl (by decide) ?_
    obtain ⟨g10, H⟩ := H
    obtain ⟨g11, H⟩ := H
    obtain ⟨g12, H⟩ := H
    refine aw_aald 25 dX9_breaksTerm_24 rfl (shp g10) (by decide) g11 rfl g12 ?_
    refine aw_aload_n 26 dX9_breaksTerm_25 rfl rfl ?_
    obtain ⟨g13, H⟩ := H
    refine aw_getR 29 dX9_breaksTerm_26 rfl fl_X9_64 ir_9_7 g8 rfl g13 ?_
    obtain ⟨g14, H⟩ := H
    obtain ⟨g15, H⟩ := H
    refine aw_getR 32 dX9_breaksTerm_29 rfl fl_X9_206 ir_7_15 g14 rfl g15 ?_
    refine aw_iload_n 33 dX9_breaksTerm_32 rfl rfl ?_
    obtain ⟨g16, H⟩ := H
    obtain ⟨g17, H⟩ := H
    refine aw_iald 34 dX9_breaksTerm_33 rfl (Or.inl (shp g16)) g17 ?_
    refine aw_gets (j := 2) 37 dX9_breaksTerm_34 rfl (by decide) gs_X9_218 ?_
    refine aw_iload_n 38 dX9_breaksTerm_37 rfl rfl ?_
    obtain ⟨g18, H⟩ := H
    obtain ⟨g19, H⟩ := H
    refine aw_iald 39 dX9_breaksTerm_38 rfl (Or.inr (shp g18)) g19 ?_
    obtain ⟨g20, H⟩ := H
    refine aw_callV (stk := []) (ci := 0) [.int (hI h1 (hR h1 (hR h1 a0 7) 15) x1.toNatClampNeg), .int (hI h1 2 (hI h (hR h (hR h a0 7) 13) x1.toNatClampNeg).toNatClampNeg)] 42 dX9_breaksTerm_39 rfl mv_X9_354 ⟨by decide, by decide⟩ g20 (by intro r hr; cases hr; rfl) rfl rfl (by simp [Value.category]) (by decide) H ?_
    rintro _ h2 ⟨r2, rfl, H⟩
    refine aw_lstore_n (loc' := [some (.ref a0), some (.int x1), some (.int (hI h (hR h (hR h a0 7) 13) x1.toNatClampNeg)), some (.long r2), none, none, none, none, none]) 43 dX9_breaksTerm_42 rfl (by decide) rfl ?_
    refine aw_aload_n 44 dX9_breaksTerm_43 rfl rfl ?_
    obtain ⟨g21, H⟩ := H
    obtain ⟨g22, H⟩ := H
    refine aw_getR 47 dX9_breaksTerm_44 rfl fl_X9_64 ir_9_7 g21 rfl g22 ?_
    obtain ⟨g23, H⟩ := H
    obtain ⟨g24, H⟩ := H
    refine aw_getR 50 dX9_breaksTerm_47 rfl fl_X9_203 ir_7_14 g23 rfl g24 ?_
    refine aw_iload_n 51 dX9_breaksTerm_50 rfl rfl ?_
    obtain ⟨g25, H⟩ := H
    obtain ⟨g26, H⟩ := H
    refine aw_iald 52 dX9_breaksTerm_51 rfl (Or.inl (shp g25)) g26 ?_
    refine aw_istore (loc' := [some (.ref a0), some (.int x1), some (.int (hI h (hR h (hR h a0 7) 13) x1.toNatClampNeg)), some (.long r2), none, some (.int (hI h2 (hR h2 (hR h2 a0 7) 14) x1.toNatClampNeg)), none, none, none]) 54 dX9_breaksTerm_52 rfl (by decide) rfl ?_
    refine aw_iload 56 dX9_breaksTerm_54 rfl rfl ?_
    refine aw_istore (loc' := [some (.ref a0), some (.int x1), some (.int (hI h (hR h (hR h a0 7) 13) x1.toNatClampNeg)), some (.long r2), none, some (.int (hI h2 (hR h2 (hR h2 a0 7) 14) x1.toNatClampNeg)), some (.int (hI h2 (hR h2 (hR h2 a0 7) 14) x1.toNatClampNeg)), none, none]) 58 dX9_breaksTerm_56 rfl (by decide) rfl ?_
    exact aw_fgt (by simp [leL]) H
  · replace H := H.2 c7
    refine aw_iconst (v := 0) 18 dX9_breaksTerm_17 rfl (by decide) ?_
    exact aw_zreturn dX9_breaksTerm_18 rfl (by decide) (by decide) (by decide) ⟨_, rfl, H⟩
theorem eX9_breaksTerm {w : Wd} {Q : Int32 → Hp → Prop} {h : Hp} {a0 : Nat} {x1 : Int32} (H : AW w mX9_breaksTerm 0 0 (rI Q) 0 0 0 [some (.ref a0), some (.int x1), none, none, none, none, none, none, none] [] h) : AC w mX9_breaksTerm 0 0 (rI Q) [.ref a0, .int x1] h := AC.ofL (by decide) (by simp [enl, Value.category]) (by simp [leL, enl, Value.category]) H
set_option maxHeartbeats 4000000 in
set_option maxRecDepth 100000 in
theorem sX9_breaksTerm_58 {w : Wd} {Q : Int32 → Hp → Prop} {h : Hp} {a0 : Nat} {x2 : Int32} {l3 : Int64} {x5 : Int32} {x6 : Int32} (H : (hs h 1).1 = 4 ∧ vp_in x2 (hs h 1).2 ∧ (((x5 + (hI h 1 x2.toNatClampNeg)) ≤ x6 → Q 0 h) ∧ (¬ (x5 + (hI h 1 x2.toNatClampNeg)) ≤ x6 → AW w mX9_breaksTerm 0 0 (rI Q) 0 0 74 [some (.ref a0), none, some (.int x2), some (.long l3), none, some (.int x5), some (.int x6), some (.int 0), none] [] h))) : AW w mX9_breaksTerm 0 0 (rI Q) 0 0 58 [some (.ref a0), none, some (.int x2), some (.long l3), none, some (.int x5), some (.int x6), none, none] [] h := by
  refine aw_iload 60 dX9_breaksTerm_58 rfl rfl ?_
  refine aw_iload 62 dX9_breaksTerm_60 rfl rfl ?_
  refine aw_gets (j := 1) 65 dX9_breaksTerm_62 rfl (by decide) gs_X9_212 ?_
  refine aw_iload_n 66 dX9_breaksTerm_65 rfl rfl ?_
  obtain ⟨g1, H⟩ := H
  obtain ⟨g2, H⟩ := H
  refine aw_iald 67 dX9_breaksTerm_66 rfl (Or.inr (shp g1)) g2 ?_
  refine aw_iadd 68 dX9_breaksTerm_67 rfl ?_
  refine aw_icmp_ge 147 71 dX9_breaksTerm_68 rfl (by decide) (fun c3 => ?_) (fun c3 => ?_)
  · replace H := H.1 c3
    refine aw_iconst (v := 0) 148 dX9_breaksTerm_147 rfl (by decide) ?_
    exact aw_zreturn dX9_breaksTerm_148 rfl (by decide) (by decide) (by decide) ⟨_, rfl, H⟩
  · replace H := H.2 c3
    refine aw_iconst (v := 0) 72 dX9_breaksTerm_71 rfl (by decide) ?_
    refine aw_istore (loc' := [some (.ref a0), none, some (.int x2), some (.long l3), none, some (.int x5), some (.int x6), some (.int 0), none]) 74 dX9_breaksTerm_72 rfl (by decide) rfl ?_
    exact H
set_option maxHeartbeats 4000000 in
set_option maxRecDepth 100000 in
theorem sX9_breaksTerm_74 {w : Wd} {Q : Int32 → Hp → Prop} {h : Hp} {a0 : Nat} {x2 : Int32} {l3 : Int64} {x5 : Int32} {x6 : Int32} {x7 : Int32} (H : (hs h a0).1 = 29 ∧ hR h a0 3 ≠ 0 ∧ (hs h (hR h a0 3)).1 = 9 ∧ vp_in 0 (hs h (hR h a0 3)).2 ∧ hR h (hR h a0 3) (0 : Int32).toNatClampNeg ≠ 0 ∧ (hs h (hR h (hR h a0 3) (0 : Int32).toNatClampNeg)).1 = 20 ∧ hR h (hR h (hR h a0 3) (0 : Int32).toNatClampNeg) 2 ≠ 0 ∧ (hs h (hR h (hR h (hR h a0 3) (0 : Int32).toNatClampNeg) 2)).1 = 1 ∧ vp_in x6 (hs h (hR h (hR h (hR h a0 3) (0 : Int32).toNatClampNeg) 2)).2 ∧ (((hI h (hR h (hR h (hR h a0 3) (0 : Int32).toNatClampNeg) 2) x6.toNatClampNeg) ≤ x7 → AW w mX9_breaksTerm 0 0 (rI Q) 0 0 58 [some (.ref a0), none, some (.int x2), some (.long l3), none, some (.int x5), some (.int (x6 + 1)), none, none] [] h) ∧ (¬ (hI h (hR h (hR h (hR h a0 3) (0 : Int32).toNatClampNeg) 2) x6.toNatClampNeg) ≤ x7 → hR h a0 6 ≠ 0 ∧ (hs h (hR h a0 6)).1 = 24 ∧ hR h (hR h a0 6) 2 ≠ 0 ∧ hR h (hR h (hR h a0 3) (0 : Int32).toNatClampNeg) 1 ≠ 0 ∧ (hs h (hR h (hR h (hR h a0 3) (0 : Int32).toNatClampNeg) 1)).1 = 6 ∧ vp_in x6 (hs h (hR h (hR h (hR h a0 3) (0 : Int32).toNatClampNeg) 1)).2 ∧ hR h (hR h (hR h (hR h a0 3) (0 : Int32).toNatClampNeg) 1) x6.toNatClampNeg ≠ 0 ∧ (hs h (hR h (hR h (hR h (hR h a0 3) (0 : Int32).toNatClampNeg) 1) x6.toNatClampNeg)).1 = 1 ∧ vp_in x7 (hs h (hR h (hR h (hR h (hR h a0 3) (0 : Int32).toNatClampNeg) 1) x6.toNatClampNeg)).2 ∧ (hs h (hR h (hR h a0 6) 2)).1 = 1 ∧ vp_in (hI h (hR h (hR h (hR h (hR h a0 3) (0 : Int32).toNatClampNeg) 1) x6.toNatClampNeg) x7.toNatClampNeg) (hs h (hR h (hR h a0 6) 2)).2 ∧ (((hI h (hR h (hR h a0 6) 2) (hI h (hR h (hR h (hR h (hR h a0 3) (0 : Int32).toNatClampNeg) 1) x6.toNatClampNeg) x7.toNatClampNeg).toNatClampNeg) = (-1) → AW w mX9_breaksTerm 0 0 (rI Q) 0 0 74 [some (.ref a0), none, some (.int x2), some (.long l3), none, some (.int x5), some (.int x6), some (.int (x7 + 1)), none] [] h) ∧ (¬ (hI h (hR h (hR h a0 6) 2) (hI h (hR h (hR h (hR h (hR h a0 3) (0 : Int32).toNatClampNeg) 1) x6.toNatClampNeg) x7.toNatClampNeg).toNatClampNeg) = (-1) → ((¬ (lg_cmp (((l3.toUInt64 >>> ((hI h (hR h (hR h a0 6) 2) (hI h (hR h (hR h (hR h (hR h a0 3) (0 : Int32).toNatClampNeg) 1) x6.toNatClampNeg) x7.toNatClampNeg).toNatClampNeg).toInt64.toUInt64 &&& Int64.toUInt64 63)).toInt64) &&& 1) 0) = 0 → AW w mX9_breaksTerm 0 0 (rI Q) 0 0 74 [some (.ref a0), none, some (.int x2), some (.long l3), none, some (.int x5), some (.int x6), some (.int (x7 + 1)), none] [] h) ∧ ((lg_cmp (((l3.toUInt64 >>> ((hI h (hR h (hR h a0 6) 2) (hI h (hR h (hR h (hR h (hR h a0 3) (0 : Int32).toNatClampNeg) 1) x6.toNatClampNeg) x7.toNatClampNeg).toNatClampNeg).toInt64.toUInt64 &&& Int64.toUInt64 63)).toInt64) &&& 1) 0) = 0 → Q 1 h))))))) : AW w mX9_breaksTerm 0 0 (rI Q) 0 0 74 [some (.ref a0), none, some (.int x2), some (.long l3), none, some (.int x5), some (.int x6), some (.int x7), none] [] h := by
  refine aw_iload 76 dX9_breaksTerm_74 rfl rfl ?_
  refine aw_aload_n 77 dX9_breaksTerm_76 rfl rfl ?_
  obtain ⟨g1, H⟩ := H
  obtain ⟨g2, H⟩ := H
  refine aw_getR 80 dX9_breaksTerm_77 rfl fl_X9_37 ir_9_3 g1 rfl g2 ?_
  refine aw_iconst (v := 0) 81 dX9_breaksTerm_80 rfl (by decide) ?_
  obtain ⟨g3, H⟩ := H
  obtain ⟨g4, H⟩ := H
  obtain ⟨g5, H⟩ := H
  refine aw_aald 82 dX9_breaksTerm_81 rfl (shp g3) (by decide) g4 rfl g5 ?_
  obtain ⟨g6, H⟩ := H
  obtain ⟨g7, H⟩ := H
  refine aw_getR 85 dX9_breaksTerm_82 rfl fl_X9_155 ir_0_2 g6 rfl g7 ?_
  refine aw_iload 87 dX9_breaksTerm_85 rfl rfl ?_
  obtain ⟨g8, H⟩ := H
  obtain ⟨g9, H⟩ := H
  refine aw_iald 88 dX9_breaksTerm_87 rfl (Or.inl (shp g8)) g9 ?_
  refine aw_icmp_ge 141 91 dX9_breaksTerm_88 rfl (by decide) (fun c10 => ?_) (fun c10 => ?_)
  · replace H := H.1 c10
    refine aw_iinc (y := 1) (loc' := [some (.ref a0), none, some (.int x2), some (.long l3), none, some (.int x5), some (.int (x6 + 1)), some (.int x7), none]) 144 dX9_breaksTerm_141 rfl (by decide) rfl (by decide) rfl ?_
    refine aw_goto 58 dX9_breaksTerm_144 (by decide) ?_
    exact aw_fgt (by simp [leL]) H
  · replace H := H.2 c10
    refine aw_aload_n 92 dX9_breaksTerm_91 rfl rfl ?_
    obtain ⟨g11, H⟩ := H
    refine aw_getR 95 dX9_breaksTerm_92 rfl fl_X9_55 ir_9_6 g1 rfl g11 ?_
    obtain ⟨g12, H⟩ := H
    obtain ⟨g13, H⟩ := H
    refine aw_getR 98 dX9_breaksTerm_95 rfl fl_X9_248 ir_4_2 g12 rfl g13 ?_
    refine aw_aload_n 99 dX9_breaksTerm_98 rfl rfl ?_
    refine aw_getR 102 dX9_breaksTerm_99 rfl fl_X9_37 ir_9_3 g1 rfl g2 ?_
    refine aw_iconst (v := 0) 103 dX9_breaksTerm_102 rfl (by decide) ?_
    refine aw_aald 104 dX9_breaksTerm_103 rfl (shp g3) (by decide) g4 rfl g5 ?_
    obtain ⟨g14, H⟩ := H
    refine aw_getR 107 dX9_breaksTerm_104 rfl fl_X9_166 ir_0_1 g6 rfl g14 ?_
    refine aw_iload 109 dX9_breaksTerm_107 rfl rfl ?_
    obtain ⟨g15, H⟩ := H
    obtain ⟨g16, H⟩ := H
    obtain ⟨g17, H⟩ := H
    refine aw_aald 110 dX9_breaksTerm_109 rfl (shp g15) (by decide) g16 rfl g17 ?_
    refine aw_iload 112 dX9_breaksTerm_110 rfl rfl ?_
    obtain ⟨g18, H⟩ := H
    obtain ⟨g19, H⟩ := H
    refine aw_iald 113 dX9_breaksTerm_112 rfl (Or.inl (shp g18)) g19 ?_
    obtain ⟨g20, H⟩ := H
    obtain ⟨g21, H⟩ := H
    refine aw_iald 114 dX9_breaksTerm_113 rfl (Or.inl (shp g20)) g21 ?_
    refine aw_istore (loc' := [some (.ref a0), none, some (.int x2), some (.long l3), none, some (.int x5), some (.int x6), some (.int x7), some (.int (hI h (hR h (hR h a0 6) 2) (hI h (hR h (hR h (hR h (hR h a0 3) (0 : Int32).toNatClampNeg) 1) x6.toNatClampNeg) x7.toNatClampNeg).toNatClampNeg))]) 116 dX9_breaksTerm_114 rfl (by decide) rfl ?_
    refine aw_iload 118 dX9_breaksTerm_116 rfl rfl ?_
    refine aw_iconst (v := (-1)) 119 dX9_breaksTerm_118 rfl (by decide) ?_
    refine aw_icmp_eq 135 122 dX9_breaksTerm_119 rfl (by decide) (fun c22 => ?_) (fun c22 => ?_)
    · replace H := H.1 c22
      refine aw_iinc (y := 1) (loc' := [some (.ref a0), none, some (.int x2), some (.long l3), none, some (.int x5), some (.int x6), some (.int (x7 + 1)), some (.int (hI h (hR h (hR h a0 6) 2) (hI h (hR h (hR h (hR h (hR h a0 3) (0 : Int32).toNatClampNeg) 1) x6.toNatClampNeg) x7.toNatClampNeg).toNatClampNeg))]) 138 dX9_breaksTerm_135 rfl (by decide) rfl (by decide) rfl ?_
      refine aw_goto 74 dX9_breaksTerm_138 (by decide) ?_
      exact aw_fgt (by simp [leL]) H
    · replace H := H.2 c22
      refine aw_lload_n 123 dX9_breaksTerm_122 rfl rfl ?_
      refine aw_iload 125 dX9_breaksTerm_123 rfl rfl ?_
      refine aw_lushr 126 dX9_breaksTerm_125 rfl ?_
      refine aw_lconst (v := 1) 127 dX9_breaksTerm_126 rfl (by decide) ?_
      refine aw_land 128 dX9_breaksTerm_127 rfl ?_
      refine aw_lconst (v := 0) 129 dX9_breaksTerm_128 rfl (by decide) ?_
      refine aw_lcmp 130 dX9_breaksTerm_129 rfl ?_
      refine aw_if_ne 135 133 dX9_breaksTerm_130 rfl (by decide) (fun c23 => ?_) (fun c23 => ?_)
      · replace H := H.1 c23
        refine aw_iinc (y := 1) (loc' := [some (.ref a0), none, some (.int x2), some (.long l3), none, some (.int x5), some (.int x6), some (.int (x7 + 1)), some (.int (hI h (hR h (hR h a0 6) 2) (hI h (hR h (hR h (hR h (hR h a0 3) (0 : Int32).toNatClampNeg) 1) x6.toNatClampNeg) x7.toNatClampNeg).toNatClampNeg))]) 138 dX9_breaksTerm_135 rfl (by decide) rfl (by decide) rfl ?_
        refine aw_goto 74 dX9_breaksTerm_138 (by decide) ?_
        exact aw_fgt (by simp [leL]) H
      · replace H := H.2 c23
        refine aw_iconst (v := 1) 134 dX9_breaksTerm_133 rfl (by decide) ?_
        exact aw_zreturn dX9_breaksTerm_134 rfl (by decide) (by decide) (by decide) ⟨_, rfl, H⟩
set_option maxHeartbeats 4000000 in
set_option maxRecDepth 100000 in
theorem sX9_isLinkable_0 {w : Wd} {Q : Int32 → Hp → Prop} {h : Hp} {a0 : Nat} {x1 : Int32} (H : (hs h a0).1 = 29 ∧ hR h a0 7 ≠ 0 ∧ (hs h (hR h a0 7)).1 = 27 ∧ hR h (hR h a0 7) 13 ≠ 0 ∧ (hs h (hR h (hR h a0 7) 13)).1 = 1 ∧ vp_in x1 (hs h (hR h (hR h a0 7) 13)).2 ∧ AC w mX9_hasBothSides 0 0 (rI fun r1 h1 => ((r1 = 0 → Q 0 h1) ∧ (¬ r1 = 0 → (hs h1 a0).1 = 29 ∧ hR h1 a0 7 ≠ 0 ∧ (hs h1 (hR h1 a0 7)).1 = 27 ∧ hR h1 (hR h1 a0 7) 13 ≠ 0 ∧ (hs h1 (hR h1 (hR h1 a0 7) 13)).1 = 1 ∧ vp_in x1 (hs h1 (hR h1 (hR h1 a0 7) 13)).2 ∧ (((hI h1 (hR h1 (hR h1 a0 7) 13) x1.toNatClampNeg) = 6 → Q 0 h1) ∧ (¬ (hI h1 (hR h1 (hR h1 a0 7) 13) x1.toNatClampNeg) = 6 → Q 1 h1))))) [.int (hI h (hR h (hR h a0 7) 13) x1.toNatClampNeg)] h) : AW w mX9_isLinkable 0 0 (rI Q) 0 0 0 [some (.ref a0), some (.int x1)] [] h := by
  refine aw_aload_n 1 dX9_isLinkable_0 rfl rfl ?_
  obtain ⟨g1, H⟩ := H
  obtain ⟨g2, H⟩ := H
  refine aw_getR 4 dX9_isLinkable_1 rfl fl_X9_64 ir_9_7 g1 rfl g2 ?_
  obtain ⟨g3, H⟩ := H
  obtain ⟨g4, H⟩ := H
  refine aw_getR 7 dX9_isLinkable_4 rfl fl_X9_200 ir_7_13 g3 rfl g4 ?_
  refine aw_iload_n 8 dX9_isLinkable_7 rfl rfl ?_
  obtain ⟨g5, H⟩ := H
  obtain ⟨g6, H⟩ := H
  refine aw_iald 9 dX9_isLinkable_8 rfl (Or.inl (shp g5)) g6 ?_
  refine aw_callS (stk := []) [.int (hI h (hR h (hR h a0 7) 13) x1.toNatClampNeg)] 12 dX9_isLinkable_9 rfl mv_X9_351 ⟨by decide, by decide⟩ rfl rfl (by simp [Value.category]) (by decide) H ?_
  rintro _ h1 ⟨r1, rfl, H⟩
  refine aw_if_eq 33 15 dX9_isLinkable_12 rfl (by decide) (fun c7 => ?_) (fun c7 => ?_)
  · replace H := H.1 c7
    refine aw_iconst (v := 0) 34 dX9_isLinkable_33 rfl (by decide) ?_
    exact aw_zreturn dX9_isLinkable_34 rfl (by decide) (by decide) (by decide) ⟨_, rfl, H⟩
  · replace H := H.2 c7
    refine aw_aload_n 16 dX9_isLinkable_15 rfl rfl ?_
    obtain ⟨g8, H⟩ := H
    obtain ⟨g9, H⟩ := H
    refine aw_getR 19 dX9_isLinkable_16 rfl fl_X9_64 ir_9_7 g8 rfl g9 ?_
    obtain ⟨g10, H⟩ := H
    obtain ⟨g11, H⟩ := H
    refine aw_getR 22 dX9_isLinkable_19 rfl fl_X9_200 ir_7_13 g10 rfl g11 ?_
    refine aw_iload_n 23 dX9_isLinkable_22 rfl rfl ?_
    obtain ⟨g12, H⟩ := H
    obtain ⟨g13, H⟩ := H
    refine aw_iald 24 dX9_isLinkable_23 rfl (Or.inl (shp g12)) g13 ?_
    refine aw_bipush (v := 6) 26 dX9_isLinkable_24 rfl (by decide) ?_
    refine aw_icmp_eq 33 29 dX9_isLinkable_26 rfl (by decide) (fun c14 => ?_) (fun c14 => ?_)
    · replace H := H.1 c14
      refine aw_iconst (v := 0) 34 dX9_isLinkable_33 rfl (by decide) ?_
      exact aw_zreturn dX9_isLinkable_34 rfl (by decide) (by decide) (by decide) ⟨_, rfl, H⟩
    · replace H := H.2 c14
      refine aw_iconst (v := 1) 30 dX9_isLinkable_29 rfl (by decide) ?_
      refine aw_goto 34 dX9_isLinkable_30 (by decide) ?_
      exact aw_zreturn dX9_isLinkable_34 rfl (by decide) (by decide) (by decide) ⟨_, rfl, H⟩
theorem eX9_isLinkable {w : Wd} {Q : Int32 → Hp → Prop} {h : Hp} {a0 : Nat} {x1 : Int32} (H : AW w mX9_isLinkable 0 0 (rI Q) 0 0 0 [some (.ref a0), some (.int x1)] [] h) : AC w mX9_isLinkable 0 0 (rI Q) [.ref a0, .int x1] h := AC.ofL (by decide) (by simp [enl, Value.category]) (by simp [leL, enl, Value.category]) H
set_option maxHeartbeats 4000000 in
set_option maxRecDepth 100000 in
theorem sX9_hasBothSides_0 {w : Wd} {Q : Int32 → Hp → Prop} {h : Hp} {x0 : Int32} (H : ((x0 = 1 → Q 0 h) ∧ (¬ x0 = 1 → ((x0 = 2 → Q 0 h) ∧ (¬ x0 = 2 → Q 1 h))))) : AW w mX9_hasBothSides 0 0 (rI Q) 0 0 0 [some (.int x0)] [] h := by
  refine aw_iload_n 1 dX9_hasBothSides_0 rfl rfl ?_
  refine aw_iconst (v := 1) 2 dX9_hasBothSides_1 rfl (by decide) ?_
  refine aw_icmp_eq 14 5 dX9_hasBothSides_2 rfl (by decide) (fun c1 => ?_) (fun c1 => ?_)
  · replace H := H.1 c1
    refine aw_iconst (v := 0) 15 dX9_hasBothSides_14 rfl (by decide) ?_
    exact aw_zreturn dX9_hasBothSides_15 rfl (by decide) (by decide) (by decide) ⟨_, rfl, H⟩
  · replace H := H.2 c1
    refine aw_iload_n 6 dX9_hasBothSides_5 rfl rfl ?_
    refine aw_iconst (v := 2) 7 dX9_hasBothSides_6 rfl (by decide) ?_
    refine aw_icmp_eq 14 10 dX9_hasBothSides_7 rfl (by decide) (fun c2 => ?_) (fun c2 => ?_)
    · replace H := H.1 c2
      refine aw_iconst (v := 0) 15 dX9_hasBothSides_14 rfl (by decide) ?_
      exact aw_zreturn dX9_hasBothSides_15 rfl (by decide) (by decide) (by decide) ⟨_, rfl, H⟩
    · replace H := H.2 c2
      refine aw_iconst (v := 1) 11 dX9_hasBothSides_10 rfl (by decide) ?_
      refine aw_goto 15 dX9_hasBothSides_11 (by decide) ?_
      exact aw_zreturn dX9_hasBothSides_15 rfl (by decide) (by decide) (by decide) ⟨_, rfl, H⟩
theorem eX9_hasBothSides {w : Wd} {Q : Int32 → Hp → Prop} {h : Hp} {x0 : Int32} (H : AW w mX9_hasBothSides 0 0 (rI Q) 0 0 0 [some (.int x0)] [] h) : AC w mX9_hasBothSides 0 0 (rI Q) [.int x0] h := AC.ofL (by decide) (by simp [enl, Value.category]) (by simp [leL, enl, Value.category]) H
set_option maxHeartbeats 4000000 in
set_option maxRecDepth 100000 in
theorem sX9_meet_0 {w : Wd} {Q : Int32 → Hp → Prop} {h : Hp} {a0 : Nat} {x1 : Int32} (H : (hs h a0).1 = 29 ∧ ∀ h1, h1 = sI h a0 10 x1 → Q 0 h1) : AW w mX9_meet 0 0 (rI Q) 0 0 0 [some (.ref a0), some (.int x1)] [] h := by
  refine aw_aload_n 1 dX9_meet_0 rfl rfl ?_
  refine aw_iload_n 2 dX9_meet_1 rfl rfl ?_
  obtain ⟨g1, H⟩ := H
  refine aw_putI 5 dX9_meet_2 rfl fl_X9_83 (by decide) g1 nf_9_10 ?_
  replace H := H _ rfl
  refine aw_iconst (v := 0) 6 dX9_meet_5 rfl (by decide) ?_
  exact aw_ireturn dX9_meet_6 rfl (by decide) (by decide) ⟨_, rfl, H⟩
theorem eX9_meet {w : Wd} {Q : Int32 → Hp → Prop} {h : Hp} {a0 : Nat} {x1 : Int32} (H : AW w mX9_meet 0 0 (rI Q) 0 0 0 [some (.ref a0), some (.int x1)] [] h) : AC w mX9_meet 0 0 (rI Q) [.ref a0, .int x1] h := AC.ofL (by decide) (by simp [enl, Value.category]) (by simp [leL, enl, Value.category]) H
set_option maxHeartbeats 4000000 in
set_option maxRecDepth 100000 in
theorem sX9_fine_0 {w : Wd} {Q : Int32 → Hp → Prop} {h : Hp} {a0 : Nat} {x1 : Int32} (H : (hs h a0).1 = 29 ∧ ∀ h1, h1 = sI h a0 10 0 → Q x1 h1) : AW w mX9_fine 0 0 (rI Q) 0 0 0 [some (.ref a0), some (.int x1)] [] h := by
  refine aw_aload_n 1 dX9_fine_0 rfl rfl ?_
  refine aw_iconst (v := 0) 2 dX9_fine_1 rfl (by decide) ?_
  obtain ⟨g1, H⟩ := H
  refine aw_putI 5 dX9_fine_2 rfl fl_X9_83 (by decide) g1 nf_9_10 ?_
  replace H := H _ rfl
  refine aw_iload_n 6 dX9_fine_5 rfl rfl ?_
  exact aw_ireturn dX9_fine_6 rfl (by decide) (by decide) ⟨_, rfl, H⟩
theorem eX9_fine {w : Wd} {Q : Int32 → Hp → Prop} {h : Hp} {a0 : Nat} {x1 : Int32} (H : AW w mX9_fine 0 0 (rI Q) 0 0 0 [some (.ref a0), some (.int x1)] [] h) : AC w mX9_fine 0 0 (rI Q) [.ref a0, .int x1] h := AC.ofL (by decide) (by simp [enl, Value.category]) (by simp [leL, enl, Value.category]) H
set_option maxHeartbeats 4000000 in
set_option maxRecDepth 100000 in
theorem sX9_sortCode_0 {w : Wd} {Q : Int32 → Hp → Prop} {h : Hp} {a0 : Nat} {x1 : Int32} {x2 : Int32} (H : (hs h a0).1 = 29 ∧ hR h a0 9 ≠ 0 ∧ (hs h (hR h a0 9)).1 = 10 ∧ vp_in x1 (hs h (hR h a0 9)).2 ∧ hR h (hR h a0 9) x1.toNatClampNeg ≠ 0 ∧ (hs h (hR h (hR h a0 9) x1.toNatClampNeg)).1 = 25 ∧ ((¬ (hI h (hR h (hR h a0 9) x1.toNatClampNeg) 0) = 0 → ((¬ (hI h (hR h (hR h a0 9) x1.toNatClampNeg) 0) = x2 → Q 2 h) ∧ ((hI h (hR h (hR h a0 9) x1.toNatClampNeg) 0) = x2 → Q 0 h))) ∧ ((hI h (hR h (hR h a0 9) x1.toNatClampNeg) 0) = 0 → Q 1 h))) : AW w mX9_sortCode 0 0 (rI Q) 0 0 0 [some (.ref a0), some (.int x1), some (.int x2)] [] h := by
  refine aw_aload_n 1 dX9_sortCode_0 rfl rfl ?_
  obtain ⟨g1, H⟩ := H
  obtain ⟨g2, H⟩ := H
  refine aw_getR 4 dX9_sortCode_1 rfl fl_X9_79 ir_9_9 g1 rfl g2 ?_
  refine aw_iload_n 5 dX9_sortCode_4 rfl rfl ?_
  obtain ⟨g3, H⟩ := H
  obtain ⟨g4, H⟩ := H
  obtain ⟨g5, H⟩ := H
  refine aw_aald 6 dX9_sortCode_5 rfl (shp g3) (by decide) g4 rfl g5 ?_
  obtain ⟨g6, H⟩ := H
  refine aw_getI 9 dX9_sortCode_6 rfl fl_X9_306 (by decide) g6 ?_
  refine aw_if_ne 14 12 dX9_sortCode_9 rfl (by decide) (fun c7 => ?_) (fun c7 => ?_)
  · replace H := H.1 c7
    refine aw_aload_n 15 dX9_sortCode_14 rfl rfl ?_
    refine aw_getR 18 dX9_sortCode_15 rfl fl_X9_79 ir_9_9 g1 rfl g2 ?_
    refine aw_iload_n 19 dX9_sortCode_18 rfl rfl ?_
    refine aw_aald 20 dX9_sortCode_19 rfl (shp g3) (by decide) g4 rfl g5 ?_
    refine aw_getI 23 dX9_sortCode_20 rfl fl_X9_306 (by decide) g6 ?_
    refine aw_iload_n 24 dX9_sortCode_23 rfl rfl ?_
    refine aw_icmp_ne 31 27 dX9_sortCode_24 rfl (by decide) (fun c8 => ?_) (fun c8 => ?_)
    · replace H := H.1 c8
      refine aw_iconst (v := 2) 32 dX9_sortCode_31 rfl (by decide) ?_
      exact aw_ireturn dX9_sortCode_32 rfl (by decide) (by decide) ⟨_, rfl, H⟩
    · replace H := H.2 c8
      refine aw_iconst (v := 0) 28 dX9_sortCode_27 rfl (by decide) ?_
      refine aw_goto 32 dX9_sortCode_28 (by decide) ?_
      exact aw_ireturn dX9_sortCode_32 rfl (by decide) (by decide) ⟨_, rfl, H⟩
  · replace H := H.2 c7
    refine aw_iconst (v := 1) 13 dX9_sortCode_12 rfl (by decide) ?_
    exact aw_ireturn dX9_sortCode_13 rfl (by decide) (by decide) ⟨_, rfl, H⟩
theorem eX9_sortCode {w : Wd} {Q : Int32 → Hp → Prop} {h : Hp} {a0 : Nat} {x1 : Int32} {x2 : Int32} (H : AW w mX9_sortCode 0 0 (rI Q) 0 0 0 [some (.ref a0), some (.int x1), some (.int x2)] [] h) : AC w mX9_sortCode 0 0 (rI Q) [.ref a0, .int x1, .int x2] h := AC.ofL (by decide) (by simp [enl, Value.category]) (by simp [leL, enl, Value.category]) H
set_option maxHeartbeats 4000000 in
set_option maxRecDepth 100000 in
theorem sX9_placeCode_0 {w : Wd} {Q : Int32 → Hp → Prop} {h : Hp} {a0 : Nat} {x1 : Int32} {x2 : Int32} (H : (hs h a0).1 = 29 ∧ AC w mX9_sortCode 0 0 (rI fun r1 h1 => ((r1 = 0 → ((x2 < 0 → Q 3 h1) ∧ (¬ x2 < 0 → (hs h1 a0).1 = 29 ∧ hR h1 a0 9 ≠ 0 ∧ (hs h1 (hR h1 a0 9)).1 = 10 ∧ vp_in x1 (hs h1 (hR h1 a0 9)).2 ∧ hR h1 (hR h1 a0 9) x1.toNatClampNeg ≠ 0 ∧ (hs h1 (hR h1 (hR h1 a0 9) x1.toNatClampNeg)).1 = 25 ∧ (((hI h1 (hR h1 (hR h1 a0 9) x1.toNatClampNeg) 1) ≤ x2 → Q 3 h1) ∧ (¬ (hI h1 (hR h1 (hR h1 a0 9) x1.toNatClampNeg) 1) ≤ x2 → Q 0 h1))))) ∧ (¬ r1 = 0 → Q r1 h1))) [.ref a0, .int x1, .int 3] h) : AW w mX9_placeCode 0 0 (rI Q) 0 0 0 [some (.ref a0), some (.int x1), some (.int x2), none] [] h := by
  refine aw_aload_n 1 dX9_placeCode_0 rfl rfl ?_
  refine aw_iload_n 2 dX9_placeCode_1 rfl rfl ?_
  refine aw_iconst (v := 3) 3 dX9_placeCode_2 rfl (by decide) ?_
  obtain ⟨g1, H⟩ := H
  refine aw_callV (stk := []) (ci := 9) [.int x1, .int 3] 6 dX9_placeCode_3 rfl mv_X9_315 ⟨by decide, by decide⟩ g1 (by intro r hr; cases hr; rfl) rfl rfl (by simp [Value.category]) (by decide) H ?_
  rintro _ h1 ⟨r1, rfl, H⟩
  refine aw_istore_n (loc' := [some (.ref a0), some (.int x1), some (.int x2), some (.int r1)]) 7 dX9_placeCode_6 rfl (by decide) rfl ?_
  refine aw_iload_n 8 dX9_placeCode_7 rfl rfl ?_
  refine aw_if_eq 13 11 dX9_placeCode_8 rfl (by decide) (fun c2 => ?_) (fun c2 => ?_)
  · replace H := H.1 c2
    refine aw_iload_n 14 dX9_placeCode_13 rfl rfl ?_
    refine aw_if_lt 34 17 dX9_placeCode_14 rfl (by decide) (fun c3 => ?_) (fun c3 => ?_)
    · replace H := H.1 c3
      refine aw_iconst (v := 3) 35 dX9_placeCode_34 rfl (by decide) ?_
      exact aw_ireturn dX9_placeCode_35 rfl (by decide) (by decide) ⟨_, rfl, H⟩
    · replace H := H.2 c3
      refine aw_iload_n 18 dX9_placeCode_17 rfl rfl ?_
      refine aw_aload_n 19 dX9_placeCode_18 rfl rfl ?_
      obtain ⟨g4, H⟩ := H
      obtain ⟨g5, H⟩ := H
      refine aw_getR 22 dX9_placeCode_19 rfl fl_X9_79 ir_9_9 g4 rfl g5 ?_
      refine aw_iload_n 23 dX9_placeCode_22 rfl rfl ?_
      obtain ⟨g6, H⟩ := H
      obtain ⟨g7, H⟩ := H
      obtain ⟨g8, H⟩ := H
      refine aw_aald 24 dX9_placeCode_23 rfl (shp g6) (by decide) g7 rfl g8 ?_
      obtain ⟨g9, H⟩ := H
      refine aw_getI 27 dX9_placeCode_24 rfl fl_X9_322 (by decide) g9 ?_
      refine aw_icmp_ge 34 30 dX9_placeCode_27 rfl (by decide) (fun c10 => ?_) (fun c10 => ?_)
      · replace H := H.1 c10
        refine aw_iconst (v := 3) 35 dX9_placeCode_34 rfl (by decide) ?_
        exact aw_ireturn dX9_placeCode_35 rfl (by decide) (by decide) ⟨_, rfl, H⟩
      · replace H := H.2 c10
        refine aw_iconst (v := 0) 31 dX9_placeCode_30 rfl (by decide) ?_
        refine aw_goto 35 dX9_placeCode_31 (by decide) ?_
        exact aw_ireturn dX9_placeCode_35 rfl (by decide) (by decide) ⟨_, rfl, H⟩
  · replace H := H.2 c2
    refine aw_iload_n 12 dX9_placeCode_11 rfl rfl ?_
    exact aw_ireturn dX9_placeCode_12 rfl (by decide) (by decide) ⟨_, rfl, H⟩
theorem eX9_placeCode {w : Wd} {Q : Int32 → Hp → Prop} {h : Hp} {a0 : Nat} {x1 : Int32} {x2 : Int32} (H : AW w mX9_placeCode 0 0 (rI Q) 0 0 0 [some (.ref a0), some (.int x1), some (.int x2), none] [] h) : AC w mX9_placeCode 0 0 (rI Q) [.ref a0, .int x1, .int x2] h := AC.ofL (by decide) (by simp [enl, Value.category]) (by simp [leL, enl, Value.category]) H
set_option maxHeartbeats 4000000 in
set_option maxRecDepth 100000 in
theorem sX10_in_0 {w : Wd} {Q : Int32 → Hp → Prop} {h : Hp} {l0 : Int64} {l2 : Int64} {l4 : Int64} (H : (((lg_cmp l0 l2) < 0 → Q 0 h) ∧ (¬ (lg_cmp l0 l2) < 0 → ((0 < (lg_cmp l0 l4) → Q 0 h) ∧ (¬ 0 < (lg_cmp l0 l4) → Q 1 h))))) : AW w mX10_in 0 0 (rI Q) 0 0 0 [some (.long l0), none, some (.long l2), none, some (.long l4), none] [] h := by
  refine aw_lload_n 1 dX10_in_0 rfl rfl ?_
  refine aw_lload_n 2 dX10_in_1 rfl rfl ?_
  refine aw_lcmp 3 dX10_in_2 rfl ?_
  refine aw_if_lt 17 6 dX10_in_3 rfl (by decide) (fun c1 => ?_) (fun c1 => ?_)
  · replace H := H.1 c1
    refine aw_iconst (v := 0) 18 dX10_in_17 rfl (by decide) ?_
    exact aw_zreturn dX10_in_18 rfl (by decide) (by decide) (by decide) ⟨_, rfl, H⟩
  · replace H := H.2 c1
    refine aw_lload_n 7 dX10_in_6 rfl rfl ?_
    refine aw_lload 9 dX10_in_7 rfl rfl ?_
    refine aw_lcmp 10 dX10_in_9 rfl ?_
    refine aw_if_gt 17 13 dX10_in_10 rfl (by decide) (fun c2 => ?_) (fun c2 => ?_)
    · replace H := H.1 c2
      refine aw_iconst (v := 0) 18 dX10_in_17 rfl (by decide) ?_
      exact aw_zreturn dX10_in_18 rfl (by decide) (by decide) (by decide) ⟨_, rfl, H⟩
    · replace H := H.2 c2
      refine aw_iconst (v := 1) 14 dX10_in_13 rfl (by decide) ?_
      refine aw_goto 18 dX10_in_14 (by decide) ?_
      exact aw_zreturn dX10_in_18 rfl (by decide) (by decide) (by decide) ⟨_, rfl, H⟩
theorem eX10_in {w : Wd} {Q : Int32 → Hp → Prop} {h : Hp} {l0 : Int64} {l2 : Int64} {l4 : Int64} (H : AW w mX10_in 0 0 (rI Q) 0 0 0 [some (.long l0), none, some (.long l2), none, some (.long l4), none] [] h) : AC w mX10_in 0 0 (rI Q) [.long l0, .long l2, .long l4] h := AC.ofL (by decide) (by simp [enl, Value.category]) (by simp [leL, enl, Value.category]) H
set_option maxHeartbeats 4000000 in
set_option maxRecDepth 100000 in
theorem sX10_feed_0 {w : Wd} {Q : Int32 → Hp → Prop} {h : Hp} {a0 : Nat} {x1 : Int32} {x2 : Int32} {x3 : Int32} {x4 : Int32} {x5 : Int32} (H : (hs h a0).1 = 30 ∧ ((((hI h a0 1) + 20) ≤ 1600 → AW w mX10_feed 0 0 (rI Q) 0 0 19 [some (.ref a0), some (.int x1), some (.int x2), some (.int x3), some (.int x4), some (.int x5), some (.int 0), none] [] h) ∧ (¬ ((hI h a0 1) + 20) ≤ 1600 → Q (-100004) h))) : AW w mX10_feed 0 0 (rI Q) 0 0 0 [some (.ref a0), some (.int x1), some (.int x2), some (.int x3), some (.int x4), some (.int x5), none, none] [] h := by
  refine aw_aload_n 1 dX10_feed_0 rfl rfl ?_
  obtain ⟨g1, H⟩ := H
  refine aw_getI 4 dX10_feed_1 rfl fl_X10_126 (by decide) g1 ?_
  refine aw_bipush (v := 20) 6 dX10_feed_4 rfl (by decide) ?_
  refine aw_iadd 7 dX10_feed_6 rfl ?_
  refine aw_sipush (v := 1600) 10 dX10_feed_7 rfl (by decide) ?_
  refine aw_icmp_le 16 13 dX10_feed_10 rfl (by decide) (fun c2 => ?_) (fun c2 => ?_)
  · replace H := H.1 c2
    refine aw_iconst (v := 0) 17 dX10_feed_16 rfl (by decide) ?_
    refine aw_istore (loc' := [some (.ref a0), some (.int x1), some (.int x2), some (.int x3), some (.int x4), some (.int x5), some (.int 0), none]) 19 dX10_feed_17 rfl (by decide) rfl ?_
    exact H
  · replace H := H.2 c2
    refine aw_ldc 15 dX10_feed_13 rfl kc_X10_130 ?_
    exact aw_ireturn dX10_feed_15 rfl (by decide) (by decide) ⟨_, rfl, H⟩
theorem eX10_feed {w : Wd} {Q : Int32 → Hp → Prop} {h : Hp} {a0 : Nat} {x1 : Int32} {x2 : Int32} {x3 : Int32} {x4 : Int32} {x5 : Int32} (H : AW w mX10_feed 0 0 (rI Q) 0 0 0 [some (.ref a0), some (.int x1), some (.int x2), some (.int x3), some (.int x4), some (.int x5), none, none] [] h) : AC w mX10_feed 0 0 (rI Q) [.ref a0, .int x1, .int x2, .int x3, .int x4, .int x5] h := AC.ofL (by decide) (by simp [enl, Value.category]) (by simp [leL, enl, Value.category]) H
set_option maxHeartbeats 4000000 in
set_option maxRecDepth 100000 in
theorem sX10_feed_19 {w : Wd} {Q : Int32 → Hp → Prop} {h : Hp} {a0 : Nat} {x1 : Int32} {x2 : Int32} {x3 : Int32} {x4 : Int32} {x5 : Int32} {x6 : Int32} (H : ((20 ≤ x6 → (hs h a0).1 = 30 ∧ Q (hI h a0 1) h) ∧ (¬ 20 ≤ x6 → ((4 ≤ x6 → ((8 ≤ x6 → ((12 ≤ x6 → ((16 ≤ x6 → AW w mX10_feed 0 0 (rI Q) 0 0 72 [some (.ref a0), some (.int x1), some (.int x2), some (.int x3), some (.int x4), some (.int x5), some (.int x6), none] [.int x5] h) ∧ (¬ 16 ≤ x6 → AW w mX10_feed 0 0 (rI Q) 0 0 72 [some (.ref a0), some (.int x1), some (.int x2), some (.int x3), some (.int x4), some (.int x5), some (.int x6), none] [.int x4] h))) ∧ (¬ 12 ≤ x6 → AW w mX10_feed 0 0 (rI Q) 0 0 72 [some (.ref a0), some (.int x1), some (.int x2), some (.int x3), some (.int x4), some (.int x5), some (.int x6), none] [.int x3] h))) ∧ (¬ 8 ≤ x6 → AW w mX10_feed 0 0 (rI Q) 0 0 72 [some (.ref a0), some (.int x1), some (.int x2), some (.int x3), some (.int x4), some (.int x5), some (.int x6), none] [.int x2] h))) ∧ (¬ 4 ≤ x6 → AW w mX10_feed 0 0 (rI Q) 0 0 72 [some (.ref a0), some (.int x1), some (.int x2), some (.int x3), some (.int x4), some (.int x5), some (.int x6), none] [.int x1] h))))) : AW w mX10_feed 0 0 (rI Q) 0 0 19 [some (.ref a0), some (.int x1), some (.int x2), some (.int x3), some (.int x4), some (.int x5), some (.int x6), none] [] h := by
  refine aw_iload 21 dX10_feed_19 rfl rfl ?_
  refine aw_bipush (v := 20) 23 dX10_feed_21 rfl (by decide) ?_
  refine aw_icmp_ge 116 26 dX10_feed_23 rfl (by decide) (fun c1 => ?_) (fun c1 => ?_)
  · replace H := H.1 c1
    refine aw_aload_n 117 dX10_feed_116 rfl rfl ?_
    obtain ⟨g2, H⟩ := H
    refine aw_getI 120 dX10_feed_117 rfl fl_X10_126 (by decide) g2 ?_
    exact aw_ireturn dX10_feed_120 rfl (by decide) (by decide) ⟨_, rfl, H⟩
  · replace H := H.2 c1
    refine aw_iload 28 dX10_feed_26 rfl rfl ?_
    refine aw_iconst (v := 4) 29 dX10_feed_28 rfl (by decide) ?_
    refine aw_icmp_ge 36 32 dX10_feed_29 rfl (by decide) (fun c3 => ?_) (fun c3 => ?_)
    · replace H := H.1 c3
      refine aw_iload 38 dX10_feed_36 rfl rfl ?_
      refine aw_bipush (v := 8) 40 dX10_feed_38 rfl (by decide) ?_
      refine aw_icmp_ge 47 43 dX10_feed_40 rfl (by decide) (fun c4 => ?_) (fun c4 => ?_)
      · replace H := H.1 c4
        refine aw_iload 49 dX10_feed_47 rfl rfl ?_
        refine aw_bipush (v := 12) 51 dX10_feed_49 rfl (by decide) ?_
        refine aw_icmp_ge 58 54 dX10_feed_51 rfl (by decide) (fun c5 => ?_) (fun c5 => ?_)
        · replace H := H.1 c5
          refine aw_iload 60 dX10_feed_58 rfl rfl ?_
          refine aw_bipush (v := 16) 62 dX10_feed_60 rfl (by decide) ?_
          refine aw_icmp_ge 70 65 dX10_feed_62 rfl (by decide) (fun c6 => ?_) (fun c6 => ?_)
          · replace H := H.1 c6
            refine aw_iload 72 dX10_feed_70 rfl rfl ?_
            exact H
          · replace H := H.2 c6
            refine aw_iload 67 dX10_feed_65 rfl rfl ?_
            refine aw_goto 72 dX10_feed_67 (by decide) ?_
            exact H
        · replace H := H.2 c5
          refine aw_iload_n 55 dX10_feed_54 rfl rfl ?_
          refine aw_goto 72 dX10_feed_55 (by decide) ?_
          exact H
      · replace H := H.2 c4
        refine aw_iload_n 44 dX10_feed_43 rfl rfl ?_
        refine aw_goto 72 dX10_feed_44 (by decide) ?_
        exact H
    · replace H := H.2 c3
      refine aw_iload_n 33 dX10_feed_32 rfl rfl ?_
      refine aw_goto 72 dX10_feed_33 (by decide) ?_
      exact H
set_option maxHeartbeats 4000000 in
set_option maxRecDepth 100000 in
theorem sX10_feed_72 {w : Wd} {Q : Int32 → Hp → Prop} {h : Hp} {a0 : Nat} {x1 : Int32} {x2 : Int32} {x3 : Int32} {x4 : Int32} {x5 : Int32} {x6 : Int32} {y0 : Int32} (H : (hs h a0).1 = 30 ∧ hR h a0 0 ≠ 0 ∧ (hs h (hR h a0 0)).1 = 1 ∧ vp_in (hI h a0 1) (hs h (hR h a0 0)).2 ∧ ∀ h1, h1 = sI h (hR h a0 0) (hI h a0 1).toNatClampNeg ((y0 >>> ((24 - (8 * (x6 - x6 / 4 * 4))) &&& 31)) &&& 255) → ∀ h2, h2 = sI h1 a0 1 ((hI h1 a0 1) + 1) → AW w mX10_feed 0 0 (rI Q) 0 0 19 [some (.ref a0), some (.int x1), some (.int x2), some (.int x3), some (.int x4), some (.int x5), some (.int (x6 + 1)), none] [] h2) : AW w mX10_feed 0 0 (rI Q) 0 0 72 [some (.ref a0), some (.int x1), some (.int x2), some (.int x3), some (.int x4), some (.int x5), some (.int x6), none] [.int y0] h := by
  refine aw_istore (loc' := [some (.ref a0), some (.int x1), some (.int x2), some (.int x3), some (.int x4), some (.int x5), some (.int x6), some (.int y0)]) 74 dX10_feed_72 rfl (by decide) rfl ?_
  refine aw_aload_n 75 dX10_feed_74 rfl rfl ?_
  obtain ⟨g1, H⟩ := H
  obtain ⟨g2, H⟩ := H
  refine aw_getR 78 dX10_feed_75 rfl fl_X10_7 ir_10_0 g1 rfl g2 ?_
  refine aw_aload_n 79 dX10_feed_78 rfl rfl ?_
  refine aw_getI 82 dX10_feed_79 rfl fl_X10_126 (by decide) g1 ?_
  refine aw_iload 84 dX10_feed_82 rfl rfl ?_
  refine aw_bipush (v := 24) 86 dX10_feed_84 rfl (by decide) ?_
  refine aw_bipush (v := 8) 88 dX10_feed_86 rfl (by decide) ?_
  refine aw_iload 90 dX10_feed_88 rfl rfl ?_
  refine aw_iconst (v := 4) 91 dX10_feed_90 rfl (by decide) ?_
  refine aw_irem 92 dX10_feed_91 rfl (by decide) ?_
  refine aw_imul 93 dX10_feed_92 rfl ?_
  refine aw_isub 94 dX10_feed_93 rfl ?_
  refine aw_ishr 95 dX10_feed_94 rfl ?_
  refine aw_sipush (v := 255) 98 dX10_feed_95 rfl (by decide) ?_
  refine aw_iand 99 dX10_feed_98 rfl ?_
  obtain ⟨g3, H⟩ := H
  obtain ⟨g4, H⟩ := H
  refine aw_iast 100 dX10_feed_99 rfl (shp g3) g4 ?_
  replace H := H _ rfl
  refine aw_aload_n 101 dX10_feed_100 rfl rfl ?_
  refine aw_dup 102 dX10_feed_101 rfl rfl ?_
  refine aw_getI 105 dX10_feed_102 rfl fl_X10_126 (by decide) g1 ?_
  refine aw_iconst (v := 1) 106 dX10_feed_105 rfl (by decide) ?_
  refine aw_iadd 107 dX10_feed_106 rfl ?_
  refine aw_putI 110 dX10_feed_107 rfl fl_X10_126 (by decide) g1 nf_10_1 ?_
  replace H := H _ rfl
  refine aw_iinc (y := 1) (loc' := [some (.ref a0), some (.int x1), some (.int x2), some (.int x3), some (.int x4), some (.int x5), some (.int (x6 + 1)), some (.int y0)]) 113 dX10_feed_110 rfl (by decide) rfl (by decide) rfl ?_
  refine aw_goto 19 dX10_feed_113 (by decide) ?_
  exact aw_fgt (by simp [leL]) H
set_option maxHeartbeats 4000000 in
set_option maxRecDepth 100000 in
theorem sX10_cut_0 {w : Wd} {Q : Int32 → Hp → Prop} {h : Hp} {a0 : Nat} {x1 : Int32} (H : (hs h a0).1 = 30 ∧ AC w mX10_in 0 0 (rI fun r1 h1 => ((¬ r1 = 0 → (hs h1 a0).1 = 30 ∧ ∀ h2, h2 = sI h1 a0 1 x1 → Q ((hI h1 a0 1) - x1) h2) ∧ (r1 = 0 → Q (-100002) h1))) [.long x1.toInt64, .long 0, .long ((hI h a0 1).toInt64)] h) : AW w mX10_cut 0 0 (rI Q) 0 0 0 [some (.ref a0), some (.int x1), none] [] h := by
  refine aw_iload_n 1 dX10_cut_0 rfl rfl ?_
  refine aw_i2l 2 dX10_cut_1 rfl ?_
  refine aw_lconst (v := 0) 3 dX10_cut_2 rfl (by decide) ?_
  refine aw_aload_n 4 dX10_cut_3 rfl rfl ?_
  obtain ⟨g1, H⟩ := H
  refine aw_getI 7 dX10_cut_4 rfl fl_X10_126 (by decide) g1 ?_
  refine aw_i2l 8 dX10_cut_7 rfl ?_
  refine aw_callS (stk := []) [.long x1.toInt64, .long 0, .long ((hI h a0 1).toInt64)] 11 dX10_cut_8 rfl mv_X10_131 ⟨by decide, by decide⟩ rfl rfl (by simp [Value.category]) (by decide) H ?_
  rintro _ h1 ⟨r1, rfl, H⟩
  refine aw_if_ne 17 14 dX10_cut_11 rfl (by decide) (fun c2 => ?_) (fun c2 => ?_)
  · replace H := H.1 c2
    refine aw_aload_n 18 dX10_cut_17 rfl rfl ?_
    obtain ⟨g3, H⟩ := H
    refine aw_getI 21 dX10_cut_18 rfl fl_X10_126 (by decide) g3 ?_
    refine aw_iload_n 22 dX10_cut_21 rfl rfl ?_
    refine aw_isub 23 dX10_cut_22 rfl ?_
    refine aw_istore_n (loc' := [some (.ref a0), some (.int x1), some (.int ((hI h1 a0 1) - x1))]) 24 dX10_cut_23 rfl (by decide) rfl ?_
    refine aw_aload_n 25 dX10_cut_24 rfl rfl ?_
    refine aw_iload_n 26 dX10_cut_25 rfl rfl ?_
    refine aw_putI 29 dX10_cut_26 rfl fl_X10_126 (by decide) g3 nf_10_1 ?_
    replace H := H _ rfl
    refine aw_iload_n 30 dX10_cut_29 rfl rfl ?_
    exact aw_ireturn dX10_cut_30 rfl (by decide) (by decide) ⟨_, rfl, H⟩
  · replace H := H.2 c2
    refine aw_ldc 16 dX10_cut_14 rfl kc_X10_135 ?_
    exact aw_ireturn dX10_cut_16 rfl (by decide) (by decide) ⟨_, rfl, H⟩
theorem eX10_cut {w : Wd} {Q : Int32 → Hp → Prop} {h : Hp} {a0 : Nat} {x1 : Int32} (H : AW w mX10_cut 0 0 (rI Q) 0 0 0 [some (.ref a0), some (.int x1), none] [] h) : AC w mX10_cut 0 0 (rI Q) [.ref a0, .int x1] h := AC.ofL (by decide) (by simp [enl, Value.category]) (by simp [leL, enl, Value.category]) H
set_option maxHeartbeats 4000000 in
set_option maxRecDepth 100000 in
theorem sX10_isDigit_0 {w : Wd} {Q : Int32 → Hp → Prop} {h : Hp} {a0 : Nat} {x1 : Int32} (H : ((x1 < 0 → Q 0 h) ∧ (¬ x1 < 0 → (hs h a0).1 = 30 ∧ (((hI h a0 1) ≤ x1 → Q 0 h) ∧ (¬ (hI h a0 1) ≤ x1 → hR h a0 0 ≠ 0 ∧ (hs h (hR h a0 0)).1 = 1 ∧ vp_in x1 (hs h (hR h a0 0)).2 ∧ (((hI h (hR h a0 0) x1.toNatClampNeg) < 48 → Q 0 h) ∧ (¬ (hI h (hR h a0 0) x1.toNatClampNeg) < 48 → ((57 < (hI h (hR h a0 0) x1.toNatClampNeg) → Q 0 h) ∧ (¬ 57 < (hI h (hR h a0 0) x1.toNatClampNeg) → Q 1 h))))))))) : AW w mX10_isDigit 0 0 (rI Q) 0 0 0 [some (.ref a0), some (.int x1)] [] h := by
  refine aw_iload_n 1 dX10_isDigit_0 rfl rfl ?_
  refine aw_if_lt 38 4 dX10_isDigit_1 rfl (by decide) (fun c1 => ?_) (fun c1 => ?_)
  · replace H := H.1 c1
    refine aw_iconst (v := 0) 39 dX10_isDigit_38 rfl (by decide) ?_
    exact aw_zreturn dX10_isDigit_39 rfl (by decide) (by decide) (by decide) ⟨_, rfl, H⟩
  · replace H := H.2 c1
    refine aw_iload_n 5 dX10_isDigit_4 rfl rfl ?_
    refine aw_aload_n 6 dX10_isDigit_5 rfl rfl ?_
    obtain ⟨g2, H⟩ := H
    refine aw_getI 9 dX10_isDigit_6 rfl fl_X10_126 (by decide) g2 ?_
    refine aw_icmp_ge 38 12 dX10_isDigit_9 rfl (by decide) (fun c3 => ?_) (fun c3 => ?_)
    · replace H := H.1 c3
      refine aw_iconst (v := 0) 39 dX10_isDigit_38 rfl (by decide) ?_
      exact aw_zreturn dX10_isDigit_39 rfl (by decide) (by decide) (by decide) ⟨_, rfl, H⟩
    · replace H := H.2 c3
      refine aw_aload_n 13 dX10_isDigit_12 rfl rfl ?_
      obtain ⟨g4, H⟩ := H
      refine aw_getR 16 dX10_isDigit_13 rfl fl_X10_7 ir_10_0 g2 rfl g4 ?_
      refine aw_iload_n 17 dX10_isDigit_16 rfl rfl ?_
      obtain ⟨g5, H⟩ := H
      obtain ⟨g6, H⟩ := H
      refine aw_iald 18 dX10_isDigit_17 rfl (Or.inl (shp g5)) g6 ?_
      refine aw_bipush (v := 48) 20 dX10_isDigit_18 rfl (by decide) ?_
      refine aw_icmp_lt 38 23 dX10_isDigit_20 rfl (by decide) (fun c7 => ?_) (fun c7 => ?_)
      · replace H := H.1 c7
        refine aw_iconst (v := 0) 39 dX10_isDigit_38 rfl (by decide) ?_
        exact aw_zreturn dX10_isDigit_39 rfl (by decide) (by decide) (by decide) ⟨_, rfl, H⟩
      · replace H := H.2 c7
        refine aw_aload_n 24 dX10_isDigit_23 rfl rfl ?_
        refine aw_getR 27 dX10_isDigit_24 rfl fl_X10_7 ir_10_0 g2 rfl g4 ?_
        refine aw_iload_n 28 dX10_isDigit_27 rfl rfl ?_
        refine aw_iald 29 dX10_isDigit_28 rfl (Or.inl (shp g5)) g6 ?_
        refine aw_bipush (v := 57) 31 dX10_isDigit_29 rfl (by decide) ?_
        refine aw_icmp_gt 38 34 dX10_isDigit_31 rfl (by decide) (fun c8 => ?_) (fun c8 => ?_)
        · replace H := H.1 c8
          refine aw_iconst (v := 0) 39 dX10_isDigit_38 rfl (by decide) ?_
          exact aw_zreturn dX10_isDigit_39 rfl (by decide) (by decide) (by decide) ⟨_, rfl, H⟩
        · replace H := H.2 c8
          refine aw_iconst (v := 1) 35 dX10_isDigit_34 rfl (by decide) ?_
          refine aw_goto 39 dX10_isDigit_35 (by decide) ?_
          exact aw_zreturn dX10_isDigit_39 rfl (by decide) (by decide) (by decide) ⟨_, rfl, H⟩
theorem eX10_isDigit {w : Wd} {Q : Int32 → Hp → Prop} {h : Hp} {a0 : Nat} {x1 : Int32} (H : AW w mX10_isDigit 0 0 (rI Q) 0 0 0 [some (.ref a0), some (.int x1)] [] h) : AC w mX10_isDigit 0 0 (rI Q) [.ref a0, .int x1] h := AC.ofL (by decide) (by simp [enl, Value.category]) (by simp [leL, enl, Value.category]) H
set_option maxHeartbeats 4000000 in
set_option maxRecDepth 100000 in
theorem sX10_letterOf_0 {w : Wd} {Q : Int32 → Hp → Prop} {h : Hp} {a0 : Nat} {x1 : Int32} (H : (hs h a0).1 = 30 ∧ ((x1 < (hI h a0 1) → hR h a0 0 ≠ 0 ∧ (hs h (hR h a0 0)).1 = 1 ∧ vp_in x1 (hs h (hR h a0 0)).2 ∧ (((hI h (hR h a0 0) x1.toNatClampNeg) < 65 → AW w mX10_letterOf 0 0 (rI Q) 0 0 34 [some (.ref a0), some (.int x1), some (.int (hI h (hR h a0 0) x1.toNatClampNeg))] [] h) ∧ (¬ (hI h (hR h a0 0) x1.toNatClampNeg) < 65 → ((90 < (hI h (hR h a0 0) x1.toNatClampNeg) → AW w mX10_letterOf 0 0 (rI Q) 0 0 34 [some (.ref a0), some (.int x1), some (.int (hI h (hR h a0 0) x1.toNatClampNeg))] [] h) ∧ (¬ 90 < (hI h (hR h a0 0) x1.toNatClampNeg) → Q ((hI h (hR h a0 0) x1.toNatClampNeg) + 32) h))))) ∧ (¬ x1 < (hI h a0 1) → Q 0 h))) : AW w mX10_letterOf 0 0 (rI Q) 0 0 0 [some (.ref a0), some (.int x1), none] [] h := by
  refine aw_iload_n 1 dX10_letterOf_0 rfl rfl ?_
  refine aw_aload_n 2 dX10_letterOf_1 rfl rfl ?_
  obtain ⟨g1, H⟩ := H
  refine aw_getI 5 dX10_letterOf_2 rfl fl_X10_126 (by decide) g1 ?_
  refine aw_icmp_lt 10 8 dX10_letterOf_5 rfl (by decide) (fun c2 => ?_) (fun c2 => ?_)
  · replace H := H.1 c2
    refine aw_aload_n 11 dX10_letterOf_10 rfl rfl ?_
    obtain ⟨g3, H⟩ := H
    refine aw_getR 14 dX10_letterOf_11 rfl fl_X10_7 ir_10_0 g1 rfl g3 ?_
    refine aw_iload_n 15 dX10_letterOf_14 rfl rfl ?_
    obtain ⟨g4, H⟩ := H
    obtain ⟨g5, H⟩ := H
    refine aw_iald 16 dX10_letterOf_15 rfl (Or.inl (shp g4)) g5 ?_
    refine aw_istore_n (loc' := [some (.ref a0), some (.int x1), some (.int (hI h (hR h a0 0) x1.toNatClampNeg))]) 17 dX10_letterOf_16 rfl (by decide) rfl ?_
    refine aw_iload_n 18 dX10_letterOf_17 rfl rfl ?_
    refine aw_bipush (v := 65) 20 dX10_letterOf_18 rfl (by decide) ?_
    refine aw_icmp_lt 34 23 dX10_letterOf_20 rfl (by decide) (fun c6 => ?_) (fun c6 => ?_)
    · replace H := H.1 c6
      exact H
    · replace H := H.2 c6
      refine aw_iload_n 24 dX10_letterOf_23 rfl rfl ?_
      refine aw_bipush (v := 90) 26 dX10_letterOf_24 rfl (by decide) ?_
      refine aw_icmp_gt 34 29 dX10_letterOf_26 rfl (by decide) (fun c7 => ?_) (fun c7 => ?_)
      · replace H := H.1 c7
        exact H
      · replace H := H.2 c7
        refine aw_iload_n 30 dX10_letterOf_29 rfl rfl ?_
        refine aw_bipush (v := 32) 32 dX10_letterOf_30 rfl (by decide) ?_
        refine aw_iadd 33 dX10_letterOf_32 rfl ?_
        exact aw_ireturn dX10_letterOf_33 rfl (by decide) (by decide) ⟨_, rfl, H⟩
  · replace H := H.2 c2
    refine aw_iconst (v := 0) 9 dX10_letterOf_8 rfl (by decide) ?_
    exact aw_ireturn dX10_letterOf_9 rfl (by decide) (by decide) ⟨_, rfl, H⟩
theorem eX10_letterOf {w : Wd} {Q : Int32 → Hp → Prop} {h : Hp} {a0 : Nat} {x1 : Int32} (H : AW w mX10_letterOf 0 0 (rI Q) 0 0 0 [some (.ref a0), some (.int x1), none] [] h) : AC w mX10_letterOf 0 0 (rI Q) [.ref a0, .int x1] h := AC.ofL (by decide) (by simp [enl, Value.category]) (by simp [leL, enl, Value.category]) H
set_option maxHeartbeats 4000000 in
set_option maxRecDepth 100000 in
theorem sX10_letterOf_34 {w : Wd} {Q : Int32 → Hp → Prop} {h : Hp} {a0 : Nat} {x1 : Int32} {x2 : Int32} (H : ((x2 < 97 → ((x2 < 48 → AW w mX10_letterOf 0 0 (rI Q) 0 0 60 [some (.ref a0), some (.int x1), some (.int x2)] [] h) ∧ (¬ x2 < 48 → ((57 < x2 → AW w mX10_letterOf 0 0 (rI Q) 0 0 60 [some (.ref a0), some (.int x1), some (.int x2)] [] h) ∧ (¬ 57 < x2 → Q x2 h))))) ∧ (¬ x2 < 97 → ((x2 ≤ 122 → Q x2 h) ∧ (¬ x2 ≤ 122 → ((x2 < 48 → AW w mX10_letterOf 0 0 (rI Q) 0 0 60 [some (.ref a0), some (.int x1), some (.int x2)] [] h) ∧ (¬ x2 < 48 → ((57 < x2 → AW w mX10_letterOf 0 0 (rI Q) 0 0 60 [some (.ref a0), some (.int x1), some (.int x2)] [] h) ∧ (¬ 57 < x2 → Q x2 h))))))))) : AW w mX10_letterOf 0 0 (rI Q) 0 0 34 [some (.ref a0), some (.int x1), some (.int x2)] [] h := by
  refine aw_iload_n 35 dX10_letterOf_34 rfl rfl ?_
  refine aw_bipush (v := 97) 37 dX10_letterOf_35 rfl (by decide) ?_
  refine aw_icmp_lt 46 40 dX10_letterOf_37 rfl (by decide) (fun c1 => ?_) (fun c1 => ?_)
  · replace H := H.1 c1
    refine aw_iload_n 47 dX10_letterOf_46 rfl rfl ?_
    refine aw_bipush (v := 48) 49 dX10_letterOf_47 rfl (by decide) ?_
    refine aw_icmp_lt 60 52 dX10_letterOf_49 rfl (by decide) (fun c2 => ?_) (fun c2 => ?_)
    · replace H := H.1 c2
      exact H
    · replace H := H.2 c2
      refine aw_iload_n 53 dX10_letterOf_52 rfl rfl ?_
      refine aw_bipush (v := 57) 55 dX10_letterOf_53 rfl (by decide) ?_
      refine aw_icmp_gt 60 58 dX10_letterOf_55 rfl (by decide) (fun c3 => ?_) (fun c3 => ?_)
      · replace H := H.1 c3
        exact H
      · replace H := H.2 c3
        refine aw_iload_n 59 dX10_letterOf_58 rfl rfl ?_
        exact aw_ireturn dX10_letterOf_59 rfl (by decide) (by decide) ⟨_, rfl, H⟩
  · replace H := H.2 c1
    refine aw_iload_n 41 dX10_letterOf_40 rfl rfl ?_
    refine aw_bipush (v := 122) 43 dX10_letterOf_41 rfl (by decide) ?_
    refine aw_icmp_le 58 46 dX10_letterOf_43 rfl (by decide) (fun c4 => ?_) (fun c4 => ?_)
    · replace H := H.1 c4
      refine aw_iload_n 59 dX10_letterOf_58 rfl rfl ?_
      exact aw_ireturn dX10_letterOf_59 rfl (by decide) (by decide) ⟨_, rfl, H⟩
    · replace H := H.2 c4
      refine aw_iload_n 47 dX10_letterOf_46 rfl rfl ?_
      refine aw_bipush (v := 48) 49 dX10_letterOf_47 rfl (by decide) ?_
      refine aw_icmp_lt 60 52 dX10_letterOf_49 rfl (by decide) (fun c5 => ?_) (fun c5 => ?_)
      · replace H := H.1 c5
        exact H
      · replace H := H.2 c5
        refine aw_iload_n 53 dX10_letterOf_52 rfl rfl ?_
        refine aw_bipush (v := 57) 55 dX10_letterOf_53 rfl (by decide) ?_
        refine aw_icmp_gt 60 58 dX10_letterOf_55 rfl (by decide) (fun c6 => ?_) (fun c6 => ?_)
        · replace H := H.1 c6
          exact H
        · replace H := H.2 c6
          refine aw_iload_n 59 dX10_letterOf_58 rfl rfl ?_
          exact aw_ireturn dX10_letterOf_59 rfl (by decide) (by decide) ⟨_, rfl, H⟩
set_option maxHeartbeats 4000000 in
set_option maxRecDepth 100000 in
theorem sX10_letterOf_60 {w : Wd} {Q : Int32 → Hp → Prop} {h : Hp} {a0 : Nat} {x1 : Int32} {x2 : Int32} (H : ((¬ x2 = 46 → Q 0 h) ∧ (x2 = 46 → (hs h a0).1 = 30 ∧ AC w mX10_isDigit 0 0 (rI fun r1 h1 => ((r1 = 0 → Q 0 h1) ∧ (¬ r1 = 0 → (hs h1 a0).1 = 30 ∧ AC w mX10_isDigit 0 0 (rI fun r2 h2 => ((r2 = 0 → Q 0 h2) ∧ (¬ r2 = 0 → Q x2 h2))) [.ref a0, .int (x1 + 1)] h1))) [.ref a0, .int (x1 - 1)] h))) : AW w mX10_letterOf 0 0 (rI Q) 0 0 60 [some (.ref a0), some (.int x1), some (.int x2)] [] h := by
  refine aw_iload_n 61 dX10_letterOf_60 rfl rfl ?_
  refine aw_bipush (v := 46) 63 dX10_letterOf_61 rfl (by decide) ?_
  refine aw_icmp_ne 90 66 dX10_letterOf_63 rfl (by decide) (fun c1 => ?_) (fun c1 => ?_)
  · replace H := H.1 c1
    refine aw_iconst (v := 0) 91 dX10_letterOf_90 rfl (by decide) ?_
    exact aw_ireturn dX10_letterOf_91 rfl (by decide) (by decide) ⟨_, rfl, H⟩
  · replace H := H.2 c1
    refine aw_aload_n 67 dX10_letterOf_66 rfl rfl ?_
    refine aw_iload_n 68 dX10_letterOf_67 rfl rfl ?_
    refine aw_iconst (v := 1) 69 dX10_letterOf_68 rfl (by decide) ?_
    refine aw_isub 70 dX10_letterOf_69 rfl ?_
    obtain ⟨g2, H⟩ := H
    refine aw_callV (stk := []) (ci := 10) [.int (x1 - 1)] 73 dX10_letterOf_70 rfl mv_X10_136 ⟨by decide, by decide⟩ g2 (by intro r hr; cases hr; rfl) rfl rfl (by simp [Value.category]) (by decide) H ?_
    rintro _ h1 ⟨r1, rfl, H⟩
    refine aw_if_eq 90 76 dX10_letterOf_73 rfl (by decide) (fun c3 => ?_) (fun c3 => ?_)
    · replace H := H.1 c3
      refine aw_iconst (v := 0) 91 dX10_letterOf_90 rfl (by decide) ?_
      exact aw_ireturn dX10_letterOf_91 rfl (by decide) (by decide) ⟨_, rfl, H⟩
    · replace H := H.2 c3
      refine aw_aload_n 77 dX10_letterOf_76 rfl rfl ?_
      refine aw_iload_n 78 dX10_letterOf_77 rfl rfl ?_
      refine aw_iconst (v := 1) 79 dX10_letterOf_78 rfl (by decide) ?_
      refine aw_iadd 80 dX10_letterOf_79 rfl ?_
      obtain ⟨g4, H⟩ := H
      refine aw_callV (stk := []) (ci := 10) [.int (x1 + 1)] 83 dX10_letterOf_80 rfl mv_X10_136 ⟨by decide, by decide⟩ g4 (by intro r hr; cases hr; rfl) rfl rfl (by simp [Value.category]) (by decide) H ?_
      rintro _ h2 ⟨r2, rfl, H⟩
      refine aw_if_eq 90 86 dX10_letterOf_83 rfl (by decide) (fun c5 => ?_) (fun c5 => ?_)
      · replace H := H.1 c5
        refine aw_iconst (v := 0) 91 dX10_letterOf_90 rfl (by decide) ?_
        exact aw_ireturn dX10_letterOf_91 rfl (by decide) (by decide) ⟨_, rfl, H⟩
      · replace H := H.2 c5
        refine aw_iload_n 87 dX10_letterOf_86 rfl rfl ?_
        refine aw_goto 91 dX10_letterOf_87 (by decide) ?_
        exact aw_ireturn dX10_letterOf_91 rfl (by decide) (by decide) ⟨_, rfl, H⟩
set_option maxHeartbeats 4000000 in
set_option maxRecDepth 100000 in
theorem sX10_cutWord_0 {w : Wd} {Q : Hp → Prop} {h : Hp} {a0 : Nat} (H : (hs h a0).1 = 30 ∧ ∀ h1, h1 = sI h a0 21 0 → AW w mX10_cutWord 0 0 (rV Q) 0 0 5 [some (.ref a0)] [] h1) : AW w mX10_cutWord 0 0 (rV Q) 0 0 0 [some (.ref a0)] [] h := by
  refine aw_aload_n 1 dX10_cutWord_0 rfl rfl ?_
  refine aw_iconst (v := 0) 2 dX10_cutWord_1 rfl (by decide) ?_
  obtain ⟨g1, H⟩ := H
  refine aw_putI 5 dX10_cutWord_2 rfl fl_X10_140 (by decide) g1 nf_10_21 ?_
  replace H := H _ rfl
  exact H
theorem eX10_cutWord {w : Wd} {Q : Hp → Prop} {h : Hp} {a0 : Nat} (H : AW w mX10_cutWord 0 0 (rV Q) 0 0 0 [some (.ref a0)] [] h) : AC w mX10_cutWord 0 0 (rV Q) [.ref a0] h := AC.ofL (by decide) (by simp [enl, Value.category]) (by simp [leL, enl, Value.category]) H
set_option maxHeartbeats 4000000 in
set_option maxRecDepth 100000 in
theorem sX10_cutWord_5 {w : Wd} {Q : Hp → Prop} {h : Hp} {a0 : Nat} (H : (hs h a0).1 = 30 ∧ AC w mX10_letterOf 0 0 (rI fun r1 h1 => ((r1 = 0 → Q h1) ∧ (¬ r1 = 0 → (hs h1 a0).1 = 30 ∧ ((10 ≤ (hI h1 a0 21) → ∀ h2, h2 = sI h1 a0 22 ((hI h1 a0 22) + 1) → AW w mX10_cutWord 0 0 (rV Q) 0 0 5 [some (.ref a0)] [] h2) ∧ (¬ 10 ≤ (hI h1 a0 21) → hR h1 a0 20 ≠ 0 ∧ AC w mX10_letterOf 0 0 (rI fun r2 h3 => (hs h3 (hR h1 a0 20)).1 = 1 ∧ vp_in (hI h1 a0 21) (hs h3 (hR h1 a0 20)).2 ∧ ∀ h4, h4 = sI h3 (hR h1 a0 20) (hI h1 a0 21).toNatClampNeg r2 → (hs h3 a0).1 = 30 ∧ ∀ h5, h5 = sI h4 a0 21 ((hI h4 a0 21) + 1) → ∀ h6, h6 = sI h5 a0 22 ((hI h5 a0 22) + 1) → AW w mX10_cutWord 0 0 (rV Q) 0 0 5 [some (.ref a0)] [] h6) [.ref a0, .int (hI h1 a0 22)] h1))))) [.ref a0, .int (hI h a0 22)] h) : AW w mX10_cutWord 0 0 (rV Q) 0 0 5 [some (.ref a0)] [] h := by
  refine aw_aload_n 6 dX10_cutWord_5 rfl rfl ?_
  refine aw_aload_n 7 dX10_cutWord_6 rfl rfl ?_
  obtain ⟨g1, H⟩ := H
  refine aw_getI 10 dX10_cutWord_7 rfl fl_X10_143 (by decide) g1 ?_
  refine aw_callV (stk := []) (ci := 10) [.int (hI h a0 22)] 13 dX10_cutWord_10 rfl mv_X10_146 ⟨by decide, by decide⟩ g1 (by intro r hr; cases hr; rfl) rfl rfl (by simp [Value.category]) (by decide) H ?_
  rintro _ h1 ⟨r1, rfl, H⟩
  refine aw_if_eq 65 16 dX10_cutWord_13 rfl (by decide) (fun c2 => ?_) (fun c2 => ?_)
  · replace H := H.1 c2
    exact aw_return dX10_cutWord_65 rfl (by decide) (by decide) ⟨rfl, H⟩
  · replace H := H.2 c2
    refine aw_aload_n 17 dX10_cutWord_16 rfl rfl ?_
    obtain ⟨g3, H⟩ := H
    refine aw_getI 20 dX10_cutWord_17 rfl fl_X10_140 (by decide) g3 ?_
    refine aw_bipush (v := 10) 22 dX10_cutWord_20 rfl (by decide) ?_
    refine aw_icmp_ge 52 25 dX10_cutWord_22 rfl (by decide) (fun c4 => ?_) (fun c4 => ?_)
    · replace H := H.1 c4
      refine aw_aload_n 53 dX10_cutWord_52 rfl rfl ?_
      refine aw_dup 54 dX10_cutWord_53 rfl rfl ?_
      refine aw_getI 57 dX10_cutWord_54 rfl fl_X10_143 (by decide) g3 ?_
      refine aw_iconst (v := 1) 58 dX10_cutWord_57 rfl (by decide) ?_
      refine aw_iadd 59 dX10_cutWord_58 rfl ?_
      refine aw_putI 62 dX10_cutWord_59 rfl fl_X10_143 (by decide) g3 nf_10_22 ?_
      replace H := H _ rfl
      refine aw_goto 5 dX10_cutWord_62 (by decide) ?_
      exact H
    · replace H := H.2 c4
      refine aw_aload_n 26 dX10_cutWord_25 rfl rfl ?_
      obtain ⟨g5, H⟩ := H
      refine aw_getR 29 dX10_cutWord_26 rfl fl_X10_55 ir_10_20 g3 rfl g5 ?_
      refine aw_aload_n 30 dX10_cutWord_29 rfl rfl ?_
      refine aw_getI 33 dX10_cutWord_30 rfl fl_X10_140 (by decide) g3 ?_
      refine aw_aload_n 34 dX10_cutWord_33 rfl rfl ?_
      refine aw_aload_n 35 dX10_cutWord_34 rfl rfl ?_
      refine aw_getI 38 dX10_cutWord_35 rfl fl_X10_143 (by decide) g3 ?_
      refine aw_callV (stk := [.int (hI h1 a0 21), .ref (hR h1 a0 20)]) (ci := 10) [.int (hI h1 a0 22)] 41 dX10_cutWord_38 rfl mv_X10_146 ⟨by decide, by decide⟩ g3 (by intro r hr; cases hr; rfl) rfl rfl (by simp [Value.category]) (by decide) H ?_
      rintro _ h3 ⟨r2, rfl, H⟩
      obtain ⟨g6, H⟩ := H
      obtain ⟨g7, H⟩ := H
      refine aw_iast 42 dX10_cutWord_41 rfl (shp g6) g7 ?_
      replace H := H _ rfl
      refine aw_aload_n 43 dX10_cutWord_42 rfl rfl ?_
      refine aw_dup 44 dX10_cutWord_43 rfl rfl ?_
      obtain ⟨g8, H⟩ := H
      refine aw_getI 47 dX10_cutWord_44 rfl fl_X10_140 (by decide) g8 ?_
      refine aw_iconst (v := 1) 48 dX10_cutWord_47 rfl (by decide) ?_
      refine aw_iadd 49 dX10_cutWord_48 rfl ?_
      refine aw_putI 52 dX10_cutWord_49 rfl fl_X10_140 (by decide) g8 nf_10_21 ?_
      replace H := H _ rfl
      refine aw_aload_n 53 dX10_cutWord_52 rfl rfl ?_
      refine aw_dup 54 dX10_cutWord_53 rfl rfl ?_
      refine aw_getI 57 dX10_cutWord_54 rfl fl_X10_143 (by decide) g8 ?_
      refine aw_iconst (v := 1) 58 dX10_cutWord_57 rfl (by decide) ?_
      refine aw_iadd 59 dX10_cutWord_58 rfl ?_
      refine aw_putI 62 dX10_cutWord_59 rfl fl_X10_143 (by decide) g8 nf_10_22 ?_
      replace H := H _ rfl
      refine aw_goto 5 dX10_cutWord_62 (by decide) ?_
      exact H
set_option maxHeartbeats 4000000 in
set_option maxRecDepth 100000 in
theorem sX10_isShort_0 {w : Wd} {Q : Int32 → Hp → Prop} {h : Hp} {a0 : Nat} (H : AW w mX10_isShort 0 0 (rI Q) 0 0 4 [some (.ref a0), some (.int 0), some (.int 0), none] [] h) : AW w mX10_isShort 0 0 (rI Q) 0 0 0 [some (.ref a0), none, none, none] [] h := by
  refine aw_iconst (v := 0) 1 dX10_isShort_0 rfl (by decide) ?_
  refine aw_istore_n (loc' := [some (.ref a0), some (.int 0), none, none]) 2 dX10_isShort_1 rfl (by decide) rfl ?_
  refine aw_iconst (v := 0) 3 dX10_isShort_2 rfl (by decide) ?_
  refine aw_istore_n (loc' := [some (.ref a0), some (.int 0), some (.int 0), none]) 4 dX10_isShort_3 rfl (by decide) rfl ?_
  exact H
theorem eX10_isShort {w : Wd} {Q : Int32 → Hp → Prop} {h : Hp} {a0 : Nat} (H : AW w mX10_isShort 0 0 (rI Q) 0 0 0 [some (.ref a0), none, none, none] [] h) : AC w mX10_isShort 0 0 (rI Q) [.ref a0] h := AC.ofL (by decide) (by simp [enl, Value.category]) (by simp [leL, enl, Value.category]) H
set_option maxHeartbeats 4000000 in
set_option maxRecDepth 100000 in
theorem sX10_isShort_4 {w : Wd} {Q : Int32 → Hp → Prop} {h : Hp} {a0 : Nat} {x1 : Int32} {x2 : Int32} (H : (hs h a0).1 = 30 ∧ (((hI h a0 4) ≤ x2 → (x1 = 0 ∨ x1 = 1) ∧ Q x1 h) ∧ (¬ (hI h a0 4) ≤ x2 → ((¬ x1 = 0 → (x1 = 0 ∨ x1 = 1) ∧ Q x1 h) ∧ (x1 = 0 → hR h a0 3 ≠ 0 ∧ (hs h (hR h a0 3)).1 = 1 ∧ vp_in x2 (hs h (hR h a0 3)).2 ∧ ((¬ (hI h (hR h a0 3) x2.toNatClampNeg) = (hI h a0 21) → AW w mX10_isShort 0 0 (rI Q) 0 0 37 [some (.ref a0), some (.int 0), some (.int x2), some (.int 0)] [] h) ∧ ((hI h (hR h a0 3) x2.toNatClampNeg) = (hI h a0 21) → AW w mX10_isShort 0 0 (rI Q) 0 0 37 [some (.ref a0), some (.int 1), some (.int x2), some (.int 0)] [] h))))))) : AW w mX10_isShort 0 0 (rI Q) 0 0 4 [some (.ref a0), some (.int x1), some (.int x2), none] [] h := by
  refine aw_iload_n 5 dX10_isShort_4 rfl rfl ?_
  refine aw_aload_n 6 dX10_isShort_5 rfl rfl ?_
  obtain ⟨g1, H⟩ := H
  refine aw_getI 9 dX10_isShort_6 rfl fl_X10_150 (by decide) g1 ?_
  refine aw_icmp_ge 87 12 dX10_isShort_9 rfl (by decide) (fun c2 => ?_) (fun c2 => ?_)
  · replace H := H.1 c2
    refine aw_iload_n 88 dX10_isShort_87 rfl rfl ?_
    obtain ⟨g3, H⟩ := H
    exact aw_zreturn dX10_isShort_88 rfl g3 (by decide) (by decide) ⟨_, rfl, H⟩
  · replace H := H.2 c2
    refine aw_iload_n 13 dX10_isShort_12 rfl rfl ?_
    refine aw_if_ne 87 16 dX10_isShort_13 rfl (by decide) (fun c4 => ?_) (fun c4 => ?_)
    · replace H := H.1 c4
      refine aw_iload_n 88 dX10_isShort_87 rfl rfl ?_
      obtain ⟨g5, H⟩ := H
      exact aw_zreturn dX10_isShort_88 rfl g5 (by decide) (by decide) ⟨_, rfl, H⟩
    · replace H := H.2 c4
      refine aw_aload_n 17 dX10_isShort_16 rfl rfl ?_
      obtain ⟨g6, H⟩ := H
      refine aw_getR 20 dX10_isShort_17 rfl fl_X10_16 ir_10_3 g1 rfl g6 ?_
      refine aw_iload_n 21 dX10_isShort_20 rfl rfl ?_
      obtain ⟨g7, H⟩ := H
      obtain ⟨g8, H⟩ := H
      refine aw_iald 22 dX10_isShort_21 rfl (Or.inl (shp g7)) g8 ?_
      refine aw_aload_n 23 dX10_isShort_22 rfl rfl ?_
      refine aw_getI 26 dX10_isShort_23 rfl fl_X10_140 (by decide) g1 ?_
      refine aw_icmp_ne 33 29 dX10_isShort_26 rfl (by decide) (fun c9 => ?_) (fun c9 => ?_)
      · replace H := H.1 c9
        refine aw_iconst (v := 0) 34 dX10_isShort_33 rfl (by decide) ?_
        refine aw_istore_n (loc' := [some (.ref a0), some (.int 0), some (.int x2), none]) 35 dX10_isShort_34 rfl (by decide) rfl ?_
        refine aw_iconst (v := 0) 36 dX10_isShort_35 rfl (by decide) ?_
        refine aw_istore_n (loc' := [some (.ref a0), some (.int 0), some (.int x2), some (.int 0)]) 37 dX10_isShort_36 rfl (by decide) rfl ?_
        exact H
      · replace H := H.2 c9
        refine aw_iconst (v := 1) 30 dX10_isShort_29 rfl (by decide) ?_
        refine aw_goto 34 dX10_isShort_30 (by decide) ?_
        refine aw_istore_n (loc' := [some (.ref a0), some (.int 1), some (.int x2), none]) 35 dX10_isShort_34 rfl (by decide) rfl ?_
        refine aw_iconst (v := 0) 36 dX10_isShort_35 rfl (by decide) ?_
        refine aw_istore_n (loc' := [some (.ref a0), some (.int 1), some (.int x2), some (.int 0)]) 37 dX10_isShort_36 rfl (by decide) rfl ?_
        exact H
set_option maxHeartbeats 4000000 in
set_option maxRecDepth 100000 in
theorem sX10_isShort_37 {w : Wd} {Q : Int32 → Hp → Prop} {h : Hp} {a0 : Nat} {x1 : Int32} {x2 : Int32} {x3 : Int32} (H : (hs h a0).1 = 30 ∧ (((hI h a0 21) ≤ x3 → AW w mX10_isShort 0 0 (rI Q) 0 0 4 [some (.ref a0), some (.int x1), some (.int (x2 + 1)), none] [] h) ∧ (¬ (hI h a0 21) ≤ x3 → ((x1 = 0 → AW w mX10_isShort 0 0 (rI Q) 0 0 4 [some (.ref a0), some (.int x1), some (.int (x2 + 1)), none] [] h) ∧ (¬ x1 = 0 → hR h a0 2 ≠ 0 ∧ (hs h (hR h a0 2)).1 = 1 ∧ vp_in ((10 * x2) + x3) (hs h (hR h a0 2)).2 ∧ hR h a0 20 ≠ 0 ∧ (hs h (hR h a0 20)).1 = 1 ∧ vp_in x3 (hs h (hR h a0 20)).2 ∧ ((¬ (hI h (hR h a0 2) ((10 * x2) + x3).toNatClampNeg) = (hI h (hR h a0 20) x3.toNatClampNeg) → AW w mX10_isShort 0 0 (rI Q) 0 0 37 [some (.ref a0), some (.int 0), some (.int x2), some (.int (x3 + 1))] [] h) ∧ ((hI h (hR h a0 2) ((10 * x2) + x3).toNatClampNeg) = (hI h (hR h a0 20) x3.toNatClampNeg) → AW w mX10_isShort 0 0 (rI Q) 0 0 37 [some (.ref a0), some (.int 1), some (.int x2), some (.int (x3 + 1))] [] h))))))) : AW w mX10_isShort 0 0 (rI Q) 0 0 37 [some (.ref a0), some (.int x1), some (.int x2), some (.int x3)] [] h := by
  refine aw_iload_n 38 dX10_isShort_37 rfl rfl ?_
  refine aw_aload_n 39 dX10_isShort_38 rfl rfl ?_
  obtain ⟨g1, H⟩ := H
  refine aw_getI 42 dX10_isShort_39 rfl fl_X10_140 (by decide) g1 ?_
  refine aw_icmp_ge 81 45 dX10_isShort_42 rfl (by decide) (fun c2 => ?_) (fun c2 => ?_)
  · replace H := H.1 c2
    refine aw_iinc (y := 1) (loc' := [some (.ref a0), some (.int x1), some (.int (x2 + 1)), some (.int x3)]) 84 dX10_isShort_81 rfl (by decide) rfl (by decide) rfl ?_
    refine aw_goto 4 dX10_isShort_84 (by decide) ?_
    exact aw_fgt (by simp [leL]) H
  · replace H := H.2 c2
    refine aw_iload_n 46 dX10_isShort_45 rfl rfl ?_
    refine aw_if_eq 81 49 dX10_isShort_46 rfl (by decide) (fun c3 => ?_) (fun c3 => ?_)
    · replace H := H.1 c3
      refine aw_iinc (y := 1) (loc' := [some (.ref a0), some (.int x1), some (.int (x2 + 1)), some (.int x3)]) 84 dX10_isShort_81 rfl (by decide) rfl (by decide) rfl ?_
      refine aw_goto 4 dX10_isShort_84 (by decide) ?_
      exact aw_fgt (by simp [leL]) H
    · replace H := H.2 c3
      refine aw_aload_n 50 dX10_isShort_49 rfl rfl ?_
      obtain ⟨g4, H⟩ := H
      refine aw_getR 53 dX10_isShort_50 rfl fl_X10_13 ir_10_2 g1 rfl g4 ?_
      refine aw_bipush (v := 10) 55 dX10_isShort_53 rfl (by decide) ?_
      refine aw_iload_n 56 dX10_isShort_55 rfl rfl ?_
      refine aw_imul 57 dX10_isShort_56 rfl ?_
      refine aw_iload_n 58 dX10_isShort_57 rfl rfl ?_
      refine aw_iadd 59 dX10_isShort_58 rfl ?_
      obtain ⟨g5, H⟩ := H
      obtain ⟨g6, H⟩ := H
      refine aw_iald 60 dX10_isShort_59 rfl (Or.inl (shp g5)) g6 ?_
      refine aw_aload_n 61 dX10_isShort_60 rfl rfl ?_
      obtain ⟨g7, H⟩ := H
      refine aw_getR 64 dX10_isShort_61 rfl fl_X10_55 ir_10_20 g1 rfl g7 ?_
      refine aw_iload_n 65 dX10_isShort_64 rfl rfl ?_
      obtain ⟨g8, H⟩ := H
      obtain ⟨g9, H⟩ := H
      refine aw_iald 66 dX10_isShort_65 rfl (Or.inl (shp g8)) g9 ?_
      refine aw_icmp_ne 73 69 dX10_isShort_66 rfl (by decide) (fun c10 => ?_) (fun c10 => ?_)
      · replace H := H.1 c10
        refine aw_iconst (v := 0) 74 dX10_isShort_73 rfl (by decide) ?_
        refine aw_istore_n (loc' := [some (.ref a0), some (.int 0), some (.int x2), some (.int x3)]) 75 dX10_isShort_74 rfl (by decide) rfl ?_
        refine aw_iinc (y := 1) (loc' := [some (.ref a0), some (.int 0), some (.int x2), some (.int (x3 + 1))]) 78 dX10_isShort_75 rfl (by decide) rfl (by decide) rfl ?_
        refine aw_goto 37 dX10_isShort_78 (by decide) ?_
        exact H
      · replace H := H.2 c10
        refine aw_iconst (v := 1) 70 dX10_isShort_69 rfl (by decide) ?_
        refine aw_goto 74 dX10_isShort_70 (by decide) ?_
        refine aw_istore_n (loc' := [some (.ref a0), some (.int 1), some (.int x2), some (.int x3)]) 75 dX10_isShort_74 rfl (by decide) rfl ?_
        refine aw_iinc (y := 1) (loc' := [some (.ref a0), some (.int 1), some (.int x2), some (.int (x3 + 1))]) 78 dX10_isShort_75 rfl (by decide) rfl (by decide) rfl ?_
        refine aw_goto 37 dX10_isShort_78 (by decide) ?_
        exact H
set_option maxHeartbeats 4000000 in
set_option maxRecDepth 100000 in
theorem sX10_abbreviate_0 {w : Wd} {Q : Int32 → Hp → Prop} {h : Hp} {a0 : Nat} (H : (hs h a0).1 = 30 ∧ ∀ h1, h1 = sI h a0 22 0 → AW w mX10_abbreviate 0 0 (rI Q) 0 0 7 [some (.ref a0), some (.int 0), none] [] h1) : AW w mX10_abbreviate 0 0 (rI Q) 0 0 0 [some (.ref a0), none, none] [] h := by
  refine aw_iconst (v := 0) 1 dX10_abbreviate_0 rfl (by decide) ?_
  refine aw_istore_n (loc' := [some (.ref a0), some (.int 0), none]) 2 dX10_abbreviate_1 rfl (by decide) rfl ?_
  refine aw_aload_n 3 dX10_abbreviate_2 rfl rfl ?_
  refine aw_iconst (v := 0) 4 dX10_abbreviate_3 rfl (by decide) ?_
  obtain ⟨g1, H⟩ := H
  refine aw_putI 7 dX10_abbreviate_4 rfl fl_X10_143 (by decide) g1 nf_10_22 ?_
  replace H := H _ rfl
  exact H
theorem eX10_abbreviate {w : Wd} {Q : Int32 → Hp → Prop} {h : Hp} {a0 : Nat} (H : AW w mX10_abbreviate 0 0 (rI Q) 0 0 0 [some (.ref a0), none, none] [] h) : AC w mX10_abbreviate 0 0 (rI Q) [.ref a0] h := AC.ofL (by decide) (by simp [enl, Value.category]) (by simp [leL, enl, Value.category]) H
set_option maxHeartbeats 4000000 in
set_option maxRecDepth 100000 in
theorem sX10_abbreviate_7 {w : Wd} {Q : Int32 → Hp → Prop} {h : Hp} {a0 : Nat} {x1 : Int32} (H : (hs h a0).1 = 30 ∧ (((hI h a0 1) ≤ (hI h a0 22) → ((x1 = 1 → AC w mX10_isShort 0 0 (rI fun r1 h1 => ((¬ r1 = 0 → (hs h1 a0).1 = 30 ∧ ∀ h2, h2 = sI h1 a0 1 0 → Q (hI h2 a0 4) h2) ∧ (r1 = 0 → (hs h1 a0).1 = 30 ∧ ((¬ (hI h1 a0 4) = 6 → hR h1 a0 3 ≠ 0 ∧ (hs h1 (hR h1 a0 3)).1 = 1 ∧ vp_in (hI h1 a0 4) (hs h1 (hR h1 a0 3)).2 ∧ ∀ h3, h3 = sI h1 (hR h1 a0 3) (hI h1 a0 4).toNatClampNeg (hI h1 a0 21) → AW w mX10_abbreviate 0 0 (rI Q) 0 0 109 [some (.ref a0), none, some (.int 0)] [] h3) ∧ ((hI h1 a0 4) = 6 → Q (-100004) h1))))) [.ref a0] h) ∧ (¬ x1 = 1 → Q (-100003) h))) ∧ (¬ (hI h a0 1) ≤ (hI h a0 22) → AC w mX10_letterOf 0 0 (rI fun r2 h4 => ((¬ r2 = 0 → ((¬ x1 = 0 → (hs h4 a0).1 = 30 ∧ ∀ h5, h5 = sI h4 a0 22 (hI h4 a0 1) → AW w mX10_abbreviate 0 0 (rI Q) 0 0 7 [some (.ref a0), some (.int (x1 + 1)), none] [] h5) ∧ (x1 = 0 → (hs h4 a0).1 = 30 ∧ AC w mX10_cutWord 0 0 (rV fun h6 => AW w mX10_abbreviate 0 0 (rI Q) 0 0 7 [some (.ref a0), some (.int (x1 + 1)), none] [] h6) [.ref a0] h4))) ∧ (r2 = 0 → (hs h4 a0).1 = 30 ∧ ∀ h7, h7 = sI h4 a0 22 ((hI h4 a0 22) + 1) → AW w mX10_abbreviate 0 0 (rI Q) 0 0 7 [some (.ref a0), some (.int x1), none] [] h7))) [.ref a0, .int (hI h a0 22)] h))) : AW w mX10_abbreviate 0 0 (rI Q) 0 0 7 [some (.ref a0), some (.int x1), none] [] h := by
  refine aw_aload_n 8 dX10_abbreviate_7 rfl rfl ?_
  obtain ⟨g1, H⟩ := H
  refine aw_getI 11 dX10_abbreviate_8 rfl fl_X10_143 (by decide) g1 ?_
  refine aw_aload_n 12 dX10_abbreviate_11 rfl rfl ?_
  refine aw_getI 15 dX10_abbreviate_12 rfl fl_X10_126 (by decide) g1 ?_
  refine aw_icmp_ge 67 18 dX10_abbreviate_15 rfl (by decide) (fun c2 => ?_) (fun c2 => ?_)
  · replace H := H.1 c2
    refine aw_iload_n 68 dX10_abbreviate_67 rfl rfl ?_
    refine aw_iconst (v := 1) 69 dX10_abbreviate_68 rfl (by decide) ?_
    refine aw_icmp_eq 75 72 dX10_abbreviate_69 rfl (by decide) (fun c3 => ?_) (fun c3 => ?_)
    · replace H := H.1 c3
      refine aw_aload_n 76 dX10_abbreviate_75 rfl rfl ?_
      refine aw_callV (stk := []) (ci := 10) [] 79 dX10_abbreviate_76 rfl mv_X10_157 ⟨by decide, by decide⟩ g1 (by intro r hr; cases hr; rfl) rfl rfl (by simp [Value.category]) (by decide) H ?_
      rintro _ h1 ⟨r1, rfl, H⟩
      refine aw_if_ne 153 82 dX10_abbreviate_79 rfl (by decide) (fun c4 => ?_) (fun c4 => ?_)
      · replace H := H.1 c4
        refine aw_aload_n 154 dX10_abbreviate_153 rfl rfl ?_
        refine aw_iconst (v := 0) 155 dX10_abbreviate_154 rfl (by decide) ?_
        obtain ⟨g5, H⟩ := H
        refine aw_putI 158 dX10_abbreviate_155 rfl fl_X10_126 (by decide) g5 nf_10_1 ?_
        replace H := H _ rfl
        refine aw_aload_n 159 dX10_abbreviate_158 rfl rfl ?_
        refine aw_getI 162 dX10_abbreviate_159 rfl fl_X10_150 (by decide) g5 ?_
        exact aw_ireturn dX10_abbreviate_162 rfl (by decide) (by decide) ⟨_, rfl, H⟩
      · replace H := H.2 c4
        refine aw_aload_n 83 dX10_abbreviate_82 rfl rfl ?_
        obtain ⟨g6, H⟩ := H
        refine aw_getI 86 dX10_abbreviate_83 rfl fl_X10_150 (by decide) g6 ?_
        refine aw_bipush (v := 6) 88 dX10_abbreviate_86 rfl (by decide) ?_
        refine aw_icmp_ne 94 91 dX10_abbreviate_88 rfl (by decide) (fun c7 => ?_) (fun c7 => ?_)
        · replace H := H.1 c7
          refine aw_aload_n 95 dX10_abbreviate_94 rfl rfl ?_
          obtain ⟨g8, H⟩ := H
          refine aw_getR 98 dX10_abbreviate_95 rfl fl_X10_16 ir_10_3 g6 rfl g8 ?_
          refine aw_aload_n 99 dX10_abbreviate_98 rfl rfl ?_
          refine aw_getI 102 dX10_abbreviate_99 rfl fl_X10_150 (by decide) g6 ?_
          refine aw_aload_n 103 dX10_abbreviate_102 rfl rfl ?_
          refine aw_getI 106 dX10_abbreviate_103 rfl fl_X10_140 (by decide) g6 ?_
          obtain ⟨g9, H⟩ := H
          obtain ⟨g10, H⟩ := H
          refine aw_iast 107 dX10_abbreviate_106 rfl (shp g9) g10 ?_
          replace H := H _ rfl
          refine aw_iconst (v := 0) 108 dX10_abbreviate_107 rfl (by decide) ?_
          refine aw_istore_n (loc' := [some (.ref a0), some (.int x1), some (.int 0)]) 109 dX10_abbreviate_108 rfl (by decide) rfl ?_
          exact aw_fgt (by simp [leL]) H
        · replace H := H.2 c7
          refine aw_ldc 93 dX10_abbreviate_91 rfl kc_X10_130 ?_
          exact aw_ireturn dX10_abbreviate_93 rfl (by decide) (by decide) ⟨_, rfl, H⟩
    · replace H := H.2 c3
      refine aw_ldc 74 dX10_abbreviate_72 rfl kc_X10_156 ?_
      exact aw_ireturn dX10_abbreviate_74 rfl (by decide) (by decide) ⟨_, rfl, H⟩
  · replace H := H.2 c2
    refine aw_aload_n 19 dX10_abbreviate_18 rfl rfl ?_
    refine aw_aload_n 20 dX10_abbreviate_19 rfl rfl ?_
    refine aw_getI 23 dX10_abbreviate_20 rfl fl_X10_143 (by decide) g1 ?_
    refine aw_callV (stk := []) (ci := 10) [.int (hI h a0 22)] 26 dX10_abbreviate_23 rfl mv_X10_146 ⟨by decide, by decide⟩ g1 (by intro r hr; cases hr; rfl) rfl rfl (by simp [Value.category]) (by decide) H ?_
    rintro _ h4 ⟨r2, rfl, H⟩
    refine aw_if_ne 42 29 dX10_abbreviate_26 rfl (by decide) (fun c11 => ?_) (fun c11 => ?_)
    · replace H := H.1 c11
      refine aw_iload_n 43 dX10_abbreviate_42 rfl rfl ?_
      refine aw_if_ne 53 46 dX10_abbreviate_43 rfl (by decide) (fun c12 => ?_) (fun c12 => ?_)
      · replace H := H.1 c12
        refine aw_aload_n 54 dX10_abbreviate_53 rfl rfl ?_
        refine aw_aload_n 55 dX10_abbreviate_54 rfl rfl ?_
        obtain ⟨g13, H⟩ := H
        refine aw_getI 58 dX10_abbreviate_55 rfl fl_X10_126 (by decide) g13 ?_
        refine aw_putI 61 dX10_abbreviate_58 rfl fl_X10_143 (by decide) g13 nf_10_22 ?_
        replace H := H _ rfl
        refine aw_iinc (y := 1) (loc' := [some (.ref a0), some (.int (x1 + 1)), none]) 64 dX10_abbreviate_61 rfl (by decide) rfl (by decide) rfl ?_
        refine aw_goto 7 dX10_abbreviate_64 (by decide) ?_
        exact H
      · replace H := H.2 c12
        refine aw_aload_n 47 dX10_abbreviate_46 rfl rfl ?_
        obtain ⟨g14, H⟩ := H
        refine aw_callV (stk := []) (ci := 10) [] 50 dX10_abbreviate_47 rfl mv_X10_153 ⟨by decide, by decide⟩ g14 (by intro r hr; cases hr; rfl) rfl rfl (by simp [Value.category]) (by decide) H ?_
        rintro _ h6 ⟨rfl, H⟩
        refine aw_goto 61 dX10_abbreviate_50 (by decide) ?_
        refine aw_iinc (y := 1) (loc' := [some (.ref a0), some (.int (x1 + 1)), none]) 64 dX10_abbreviate_61 rfl (by decide) rfl (by decide) rfl ?_
        refine aw_goto 7 dX10_abbreviate_64 (by decide) ?_
        exact H
    · replace H := H.2 c11
      refine aw_aload_n 30 dX10_abbreviate_29 rfl rfl ?_
      refine aw_dup 31 dX10_abbreviate_30 rfl rfl ?_
      obtain ⟨g15, H⟩ := H
      refine aw_getI 34 dX10_abbreviate_31 rfl fl_X10_143 (by decide) g15 ?_
      refine aw_iconst (v := 1) 35 dX10_abbreviate_34 rfl (by decide) ?_
      refine aw_iadd 36 dX10_abbreviate_35 rfl ?_
      refine aw_putI 39 dX10_abbreviate_36 rfl fl_X10_143 (by decide) g15 nf_10_22 ?_
      replace H := H _ rfl
      refine aw_goto 7 dX10_abbreviate_39 (by decide) ?_
      exact H
set_option maxHeartbeats 4000000 in
set_option maxRecDepth 100000 in
theorem sX10_abbreviate_109 {w : Wd} {Q : Int32 → Hp → Prop} {h : Hp} {a0 : Nat} {x2 : Int32} (H : (hs h a0).1 = 30 ∧ (((hI h a0 21) ≤ x2 → ∀ h1, h1 = sI h a0 4 ((hI h a0 4) + 1) → ∀ h2, h2 = sI h1 a0 1 0 → Q (hI h2 a0 4) h2) ∧ (¬ (hI h a0 21) ≤ x2 → hR h a0 2 ≠ 0 ∧ hR h a0 20 ≠ 0 ∧ (hs h (hR h a0 20)).1 = 1 ∧ vp_in x2 (hs h (hR h a0 20)).2 ∧ (hs h (hR h a0 2)).1 = 1 ∧ vp_in ((10 * (hI h a0 4)) + x2) (hs h (hR h a0 2)).2 ∧ ∀ h3, h3 = sI h (hR h a0 2) ((10 * (hI h a0 4)) + x2).toNatClampNeg (hI h (hR h a0 20) x2.toNatClampNeg) → AW w mX10_abbreviate 0 0 (rI Q) 0 0 109 [some (.ref a0), none, some (.int (x2 + 1))] [] h3))) : AW w mX10_abbreviate 0 0 (rI Q) 0 0 109 [some (.ref a0), none, some (.int x2)] [] h := by
  refine aw_iload_n 110 dX10_abbreviate_109 rfl rfl ?_
  refine aw_aload_n 111 dX10_abbreviate_110 rfl rfl ?_
  obtain ⟨g1, H⟩ := H
  refine aw_getI 114 dX10_abbreviate_111 rfl fl_X10_140 (by decide) g1 ?_
  refine aw_icmp_ge 143 117 dX10_abbreviate_114 rfl (by decide) (fun c2 => ?_) (fun c2 => ?_)
  · replace H := H.1 c2
    refine aw_aload_n 144 dX10_abbreviate_143 rfl rfl ?_
    refine aw_dup 145 dX10_abbreviate_144 rfl rfl ?_
    refine aw_getI 148 dX10_abbreviate_145 rfl fl_X10_150 (by decide) g1 ?_
    refine aw_iconst (v := 1) 149 dX10_abbreviate_148 rfl (by decide) ?_
    refine aw_iadd 150 dX10_abbreviate_149 rfl ?_
    refine aw_putI 153 dX10_abbreviate_150 rfl fl_X10_150 (by decide) g1 nf_10_4 ?_
    replace H := H _ rfl
    refine aw_aload_n 154 dX10_abbreviate_153 rfl rfl ?_
    refine aw_iconst (v := 0) 155 dX10_abbreviate_154 rfl (by decide) ?_
    refine aw_putI 158 dX10_abbreviate_155 rfl fl_X10_126 (by decide) g1 nf_10_1 ?_
    replace H := H _ rfl
    refine aw_aload_n 159 dX10_abbreviate_158 rfl rfl ?_
    refine aw_getI 162 dX10_abbreviate_159 rfl fl_X10_150 (by decide) g1 ?_
    exact aw_ireturn dX10_abbreviate_162 rfl (by decide) (by decide) ⟨_, rfl, H⟩
  · replace H := H.2 c2
    refine aw_aload_n 118 dX10_abbreviate_117 rfl rfl ?_
    obtain ⟨g3, H⟩ := H
    refine aw_getR 121 dX10_abbreviate_118 rfl fl_X10_13 ir_10_2 g1 rfl g3 ?_
    refine aw_bipush (v := 10) 123 dX10_abbreviate_121 rfl (by decide) ?_
    refine aw_aload_n 124 dX10_abbreviate_123 rfl rfl ?_
    refine aw_getI 127 dX10_abbreviate_124 rfl fl_X10_150 (by decide) g1 ?_
    refine aw_imul 128 dX10_abbreviate_127 rfl ?_
    refine aw_iload_n 129 dX10_abbreviate_128 rfl rfl ?_
    refine aw_iadd 130 dX10_abbreviate_129 rfl ?_
    refine aw_aload_n 131 dX10_abbreviate_130 rfl rfl ?_
    obtain ⟨g4, H⟩ := H
    refine aw_getR 134 dX10_abbreviate_131 rfl fl_X10_55 ir_10_20 g1 rfl g4 ?_
    refine aw_iload_n 135 dX10_abbreviate_134 rfl rfl ?_
    obtain ⟨g5, H⟩ := H
    obtain ⟨g6, H⟩ := H
    refine aw_iald 136 dX10_abbreviate_135 rfl (Or.inl (shp g5)) g6 ?_
    obtain ⟨g7, H⟩ := H
    obtain ⟨g8, H⟩ := H
    refine aw_iast 137 dX10_abbreviate_136 rfl (shp g7) g8 ?_
    replace H := H _ rfl
    refine aw_iinc (y := 1) (loc' := [some (.ref a0), none, some (.int (x2 + 1))]) 140 dX10_abbreviate_137 rfl (by decide) rfl (by decide) rfl ?_
    refine aw_goto 109 dX10_abbreviate_140 (by decide) ?_
    exact H
set_option maxHeartbeats 4000000 in
set_option maxRecDepth 100000 in
theorem sX10_newKind_0 {w : Wd} {Q : Int32 → Hp → Prop} {h : Hp} {a0 : Nat} (H : AW w mX10_newKind 0 0 (rI Q) 0 0 2 [some (.ref a0), some (.int 0), none, none] [] h) : AW w mX10_newKind 0 0 (rI Q) 0 0 0 [some (.ref a0), none, none, none] [] h := by
  refine aw_iconst (v := 0) 1 dX10_newKind_0 rfl (by decide) ?_
  refine aw_istore_n (loc' := [some (.ref a0), some (.int 0), none, none]) 2 dX10_newKind_1 rfl (by decide) rfl ?_
  exact H
theorem eX10_newKind {w : Wd} {Q : Int32 → Hp → Prop} {h : Hp} {a0 : Nat} (H : AW w mX10_newKind 0 0 (rI Q) 0 0 0 [some (.ref a0), none, none, none] [] h) : AC w mX10_newKind 0 0 (rI Q) [.ref a0] h := AC.ofL (by decide) (by simp [enl, Value.category]) (by simp [leL, enl, Value.category]) H
set_option maxHeartbeats 4000000 in
set_option maxRecDepth 100000 in
theorem sX10_newKind_2 {w : Wd} {Q : Int32 → Hp → Prop} {h : Hp} {a0 : Nat} {x1 : Int32} (H : (hs h a0).1 = 30 ∧ (((hI h a0 29) ≤ x1 → ((¬ (hI h a0 29) = 40 → hR h a0 26 ≠ 0 ∧ (hs h (hR h a0 26)).1 = 1 ∧ vp_in (hI h a0 29) (hs h (hR h a0 26)).2 ∧ ∀ h1, h1 = sI h (hR h a0 26) (hI h a0 29).toNatClampNeg (hI h a0 21) → AW w mX10_newKind 0 0 (rI Q) 0 0 113 [some (.ref a0), some (.int 0), none, none] [] h1) ∧ ((hI h a0 29) = 40 → Q (-1) h))) ∧ (¬ (hI h a0 29) ≤ x1 → hR h a0 26 ≠ 0 ∧ (hs h (hR h a0 26)).1 = 1 ∧ vp_in x1 (hs h (hR h a0 26)).2 ∧ ((¬ (hI h (hR h a0 26) x1.toNatClampNeg) = (hI h a0 21) → AW w mX10_newKind 0 0 (rI Q) 0 0 31 [some (.ref a0), some (.int x1), some (.int 0), some (.int 0)] [] h) ∧ ((hI h (hR h a0 26) x1.toNatClampNeg) = (hI h a0 21) → AW w mX10_newKind 0 0 (rI Q) 0 0 31 [some (.ref a0), some (.int x1), some (.int 1), some (.int 0)] [] h))))) : AW w mX10_newKind 0 0 (rI Q) 0 0 2 [some (.ref a0), some (.int x1), none, none] [] h := by
  refine aw_iload_n 3 dX10_newKind_2 rfl rfl ?_
  refine aw_aload_n 4 dX10_newKind_3 rfl rfl ?_
  obtain ⟨g1, H⟩ := H
  refine aw_getI 7 dX10_newKind_4 rfl fl_X10_161 (by decide) g1 ?_
  refine aw_icmp_ge 87 10 dX10_newKind_7 rfl (by decide) (fun c2 => ?_) (fun c2 => ?_)
  · replace H := H.1 c2
    refine aw_aload_n 88 dX10_newKind_87 rfl rfl ?_
    refine aw_getI 91 dX10_newKind_88 rfl fl_X10_161 (by decide) g1 ?_
    refine aw_bipush (v := 40) 93 dX10_newKind_91 rfl (by decide) ?_
    refine aw_icmp_ne 98 96 dX10_newKind_93 rfl (by decide) (fun c3 => ?_) (fun c3 => ?_)
    · replace H := H.1 c3
      refine aw_aload_n 99 dX10_newKind_98 rfl rfl ?_
      obtain ⟨g4, H⟩ := H
      refine aw_getR 102 dX10_newKind_99 rfl fl_X10_67 ir_10_26 g1 rfl g4 ?_
      refine aw_aload_n 103 dX10_newKind_102 rfl rfl ?_
      refine aw_getI 106 dX10_newKind_103 rfl fl_X10_161 (by decide) g1 ?_
      refine aw_aload_n 107 dX10_newKind_106 rfl rfl ?_
      refine aw_getI 110 dX10_newKind_107 rfl fl_X10_140 (by decide) g1 ?_
      obtain ⟨g5, H⟩ := H
      obtain ⟨g6, H⟩ := H
      refine aw_iast 111 dX10_newKind_110 rfl (shp g5) g6 ?_
      replace H := H _ rfl
      refine aw_iconst (v := 0) 112 dX10_newKind_111 rfl (by decide) ?_
      refine aw_istore_n (loc' := [some (.ref a0), some (.int 0), none, none]) 113 dX10_newKind_112 rfl (by decide) rfl ?_
      exact H
    · replace H := H.2 c3
      refine aw_iconst (v := (-1)) 97 dX10_newKind_96 rfl (by decide) ?_
      exact aw_ireturn dX10_newKind_97 rfl (by decide) (by decide) ⟨_, rfl, H⟩
  · replace H := H.2 c2
    refine aw_aload_n 11 dX10_newKind_10 rfl rfl ?_
    obtain ⟨g7, H⟩ := H
    refine aw_getR 14 dX10_newKind_11 rfl fl_X10_67 ir_10_26 g1 rfl g7 ?_
    refine aw_iload_n 15 dX10_newKind_14 rfl rfl ?_
    obtain ⟨g8, H⟩ := H
    obtain ⟨g9, H⟩ := H
    refine aw_iald 16 dX10_newKind_15 rfl (Or.inl (shp g8)) g9 ?_
    refine aw_aload_n 17 dX10_newKind_16 rfl rfl ?_
    refine aw_getI 20 dX10_newKind_17 rfl fl_X10_140 (by decide) g1 ?_
    refine aw_icmp_ne 27 23 dX10_newKind_20 rfl (by decide) (fun c10 => ?_) (fun c10 => ?_)
    · replace H := H.1 c10
      refine aw_iconst (v := 0) 28 dX10_newKind_27 rfl (by decide) ?_
      refine aw_istore_n (loc' := [some (.ref a0), some (.int x1), some (.int 0), none]) 29 dX10_newKind_28 rfl (by decide) rfl ?_
      refine aw_iconst (v := 0) 30 dX10_newKind_29 rfl (by decide) ?_
      refine aw_istore_n (loc' := [some (.ref a0), some (.int x1), some (.int 0), some (.int 0)]) 31 dX10_newKind_30 rfl (by decide) rfl ?_
      exact H
    · replace H := H.2 c10
      refine aw_iconst (v := 1) 24 dX10_newKind_23 rfl (by decide) ?_
      refine aw_goto 28 dX10_newKind_24 (by decide) ?_
      refine aw_istore_n (loc' := [some (.ref a0), some (.int x1), some (.int 1), none]) 29 dX10_newKind_28 rfl (by decide) rfl ?_
      refine aw_iconst (v := 0) 30 dX10_newKind_29 rfl (by decide) ?_
      refine aw_istore_n (loc' := [some (.ref a0), some (.int x1), some (.int 1), some (.int 0)]) 31 dX10_newKind_30 rfl (by decide) rfl ?_
      exact H
set_option maxHeartbeats 4000000 in
set_option maxRecDepth 100000 in
theorem sX10_newKind_31 {w : Wd} {Q : Int32 → Hp → Prop} {h : Hp} {a0 : Nat} {x1 : Int32} {x2 : Int32} {x3 : Int32} (H : (hs h a0).1 = 30 ∧ (((hI h a0 21) ≤ x3 → ((x2 = 0 → AW w mX10_newKind 0 0 (rI Q) 0 0 2 [some (.ref a0), some (.int (x1 + 1)), none, none] [] h) ∧ (¬ x2 = 0 → Q x1 h))) ∧ (¬ (hI h a0 21) ≤ x3 → ((x2 = 0 → ((x2 = 0 → AW w mX10_newKind 0 0 (rI Q) 0 0 2 [some (.ref a0), some (.int (x1 + 1)), none, none] [] h) ∧ (¬ x2 = 0 → Q x1 h))) ∧ (¬ x2 = 0 → hR h a0 27 ≠ 0 ∧ (hs h (hR h a0 27)).1 = 1 ∧ vp_in ((10 * x1) + x3) (hs h (hR h a0 27)).2 ∧ hR h a0 20 ≠ 0 ∧ (hs h (hR h a0 20)).1 = 1 ∧ vp_in x3 (hs h (hR h a0 20)).2 ∧ ((¬ (hI h (hR h a0 27) ((10 * x1) + x3).toNatClampNeg) = (hI h (hR h a0 20) x3.toNatClampNeg) → AW w mX10_newKind 0 0 (rI Q) 0 0 31 [some (.ref a0), some (.int x1), some (.int 0), some (.int (x3 + 1))] [] h) ∧ ((hI h (hR h a0 27) ((10 * x1) + x3).toNatClampNeg) = (hI h (hR h a0 20) x3.toNatClampNeg) → AW w mX10_newKind 0 0 (rI Q) 0 0 31 [some (.ref a0), some (.int x1), some (.int 1), some (.int (x3 + 1))] [] h))))))) : AW w mX10_newKind 0 0 (rI Q) 0 0 31 [some (.ref a0), some (.int x1), some (.int x2), some (.int x3)] [] h := by
  refine aw_iload_n 32 dX10_newKind_31 rfl rfl ?_
  refine aw_aload_n 33 dX10_newKind_32 rfl rfl ?_
  obtain ⟨g1, H⟩ := H
  refine aw_getI 36 dX10_newKind_33 rfl fl_X10_140 (by decide) g1 ?_
  refine aw_icmp_ge 75 39 dX10_newKind_36 rfl (by decide) (fun c2 => ?_) (fun c2 => ?_)
  · replace H := H.1 c2
    refine aw_iload_n 76 dX10_newKind_75 rfl rfl ?_
    refine aw_if_eq 81 79 dX10_newKind_76 rfl (by decide) (fun c3 => ?_) (fun c3 => ?_)
    · replace H := H.1 c3
      refine aw_iinc (y := 1) (loc' := [some (.ref a0), some (.int (x1 + 1)), some (.int x2), some (.int x3)]) 84 dX10_newKind_81 rfl (by decide) rfl (by decide) rfl ?_
      refine aw_goto 2 dX10_newKind_84 (by decide) ?_
      exact aw_fgt (by simp [leL]) H
    · replace H := H.2 c3
      refine aw_iload_n 80 dX10_newKind_79 rfl rfl ?_
      exact aw_ireturn dX10_newKind_80 rfl (by decide) (by decide) ⟨_, rfl, H⟩
  · replace H := H.2 c2
    refine aw_iload_n 40 dX10_newKind_39 rfl rfl ?_
    refine aw_if_eq 75 43 dX10_newKind_40 rfl (by decide) (fun c4 => ?_) (fun c4 => ?_)
    · replace H := H.1 c4
      refine aw_iload_n 76 dX10_newKind_75 rfl rfl ?_
      refine aw_if_eq 81 79 dX10_newKind_76 rfl (by decide) (fun c5 => ?_) (fun c5 => ?_)
      · replace H := H.1 c5
        refine aw_iinc (y := 1) (loc' := [some (.ref a0), some (.int (x1 + 1)), some (.int x2), some (.int x3)]) 84 dX10_newKind_81 rfl (by decide) rfl (by decide) rfl ?_
        refine aw_goto 2 dX10_newKind_84 (by decide) ?_
        exact aw_fgt (by simp [leL]) H
      · replace H := H.2 c5
        refine aw_iload_n 80 dX10_newKind_79 rfl rfl ?_
        exact aw_ireturn dX10_newKind_80 rfl (by decide) (by decide) ⟨_, rfl, H⟩
    · replace H := H.2 c4
      refine aw_aload_n 44 dX10_newKind_43 rfl rfl ?_
      obtain ⟨g6, H⟩ := H
      refine aw_getR 47 dX10_newKind_44 rfl fl_X10_70 ir_10_27 g1 rfl g6 ?_
      refine aw_bipush (v := 10) 49 dX10_newKind_47 rfl (by decide) ?_
      refine aw_iload_n 50 dX10_newKind_49 rfl rfl ?_
      refine aw_imul 51 dX10_newKind_50 rfl ?_
      refine aw_iload_n 52 dX10_newKind_51 rfl rfl ?_
      refine aw_iadd 53 dX10_newKind_52 rfl ?_
      obtain ⟨g7, H⟩ := H
      obtain ⟨g8, H⟩ := H
      refine aw_iald 54 dX10_newKind_53 rfl (Or.inl (shp g7)) g8 ?_
      refine aw_aload_n 55 dX10_newKind_54 rfl rfl ?_
      obtain ⟨g9, H⟩ := H
      refine aw_getR 58 dX10_newKind_55 rfl fl_X10_55 ir_10_20 g1 rfl g9 ?_
      refine aw_iload_n 59 dX10_newKind_58 rfl rfl ?_
      obtain ⟨g10, H⟩ := H
      obtain ⟨g11, H⟩ := H
      refine aw_iald 60 dX10_newKind_59 rfl (Or.inl (shp g10)) g11 ?_
      refine aw_icmp_ne 67 63 dX10_newKind_60 rfl (by decide) (fun c12 => ?_) (fun c12 => ?_)
      · replace H := H.1 c12
        refine aw_iconst (v := 0) 68 dX10_newKind_67 rfl (by decide) ?_
        refine aw_istore_n (loc' := [some (.ref a0), some (.int x1), some (.int 0), some (.int x3)]) 69 dX10_newKind_68 rfl (by decide) rfl ?_
        refine aw_iinc (y := 1) (loc' := [some (.ref a0), some (.int x1), some (.int 0), some (.int (x3 + 1))]) 72 dX10_newKind_69 rfl (by decide) rfl (by decide) rfl ?_
        refine aw_goto 31 dX10_newKind_72 (by decide) ?_
        exact H
      · replace H := H.2 c12
        refine aw_iconst (v := 1) 64 dX10_newKind_63 rfl (by decide) ?_
        refine aw_goto 68 dX10_newKind_64 (by decide) ?_
        refine aw_istore_n (loc' := [some (.ref a0), some (.int x1), some (.int 1), some (.int x3)]) 69 dX10_newKind_68 rfl (by decide) rfl ?_
        refine aw_iinc (y := 1) (loc' := [some (.ref a0), some (.int x1), some (.int 1), some (.int (x3 + 1))]) 72 dX10_newKind_69 rfl (by decide) rfl (by decide) rfl ?_
        refine aw_goto 31 dX10_newKind_72 (by decide) ?_
        exact H
set_option maxHeartbeats 4000000 in
set_option maxRecDepth 100000 in
theorem sX10_newKind_113 {w : Wd} {Q : Int32 → Hp → Prop} {h : Hp} {a0 : Nat} {x1 : Int32} (H : (hs h a0).1 = 30 ∧ (((hI h a0 21) ≤ x1 → ∀ h1, h1 = sI h a0 29 ((hI h a0 29) + 1) → Q ((hI h1 a0 29) - 1) h1) ∧ (¬ (hI h a0 21) ≤ x1 → hR h a0 27 ≠ 0 ∧ hR h a0 20 ≠ 0 ∧ (hs h (hR h a0 20)).1 = 1 ∧ vp_in x1 (hs h (hR h a0 20)).2 ∧ (hs h (hR h a0 27)).1 = 1 ∧ vp_in ((10 * (hI h a0 29)) + x1) (hs h (hR h a0 27)).2 ∧ ∀ h2, h2 = sI h (hR h a0 27) ((10 * (hI h a0 29)) + x1).toNatClampNeg (hI h (hR h a0 20) x1.toNatClampNeg) → AW w mX10_newKind 0 0 (rI Q) 0 0 113 [some (.ref a0), some (.int (x1 + 1)), none, none] [] h2))) : AW w mX10_newKind 0 0 (rI Q) 0 0 113 [some (.ref a0), some (.int x1), none, none] [] h := by
  refine aw_iload_n 114 dX10_newKind_113 rfl rfl ?_
  refine aw_aload_n 115 dX10_newKind_114 rfl rfl ?_
  obtain ⟨g1, H⟩ := H
  refine aw_getI 118 dX10_newKind_115 rfl fl_X10_140 (by decide) g1 ?_
  refine aw_icmp_ge 147 121 dX10_newKind_118 rfl (by decide) (fun c2 => ?_) (fun c2 => ?_)
  · replace H := H.1 c2
    refine aw_aload_n 148 dX10_newKind_147 rfl rfl ?_
    refine aw_dup 149 dX10_newKind_148 rfl rfl ?_
    refine aw_getI 152 dX10_newKind_149 rfl fl_X10_161 (by decide) g1 ?_
    refine aw_iconst (v := 1) 153 dX10_newKind_152 rfl (by decide) ?_
    refine aw_iadd 154 dX10_newKind_153 rfl ?_
    refine aw_putI 157 dX10_newKind_154 rfl fl_X10_161 (by decide) g1 nf_10_29 ?_
    replace H := H _ rfl
    refine aw_aload_n 158 dX10_newKind_157 rfl rfl ?_
    refine aw_getI 161 dX10_newKind_158 rfl fl_X10_161 (by decide) g1 ?_
    refine aw_iconst (v := 1) 162 dX10_newKind_161 rfl (by decide) ?_
    refine aw_isub 163 dX10_newKind_162 rfl ?_
    exact aw_ireturn dX10_newKind_163 rfl (by decide) (by decide) ⟨_, rfl, H⟩
  · replace H := H.2 c2
    refine aw_aload_n 122 dX10_newKind_121 rfl rfl ?_
    obtain ⟨g3, H⟩ := H
    refine aw_getR 125 dX10_newKind_122 rfl fl_X10_70 ir_10_27 g1 rfl g3 ?_
    refine aw_bipush (v := 10) 127 dX10_newKind_125 rfl (by decide) ?_
    refine aw_aload_n 128 dX10_newKind_127 rfl rfl ?_
    refine aw_getI 131 dX10_newKind_128 rfl fl_X10_161 (by decide) g1 ?_
    refine aw_imul 132 dX10_newKind_131 rfl ?_
    refine aw_iload_n 133 dX10_newKind_132 rfl rfl ?_
    refine aw_iadd 134 dX10_newKind_133 rfl ?_
    refine aw_aload_n 135 dX10_newKind_134 rfl rfl ?_
    obtain ⟨g4, H⟩ := H
    refine aw_getR 138 dX10_newKind_135 rfl fl_X10_55 ir_10_20 g1 rfl g4 ?_
    refine aw_iload_n 139 dX10_newKind_138 rfl rfl ?_
    obtain ⟨g5, H⟩ := H
    obtain ⟨g6, H⟩ := H
    refine aw_iald 140 dX10_newKind_139 rfl (Or.inl (shp g5)) g6 ?_
    obtain ⟨g7, H⟩ := H
    obtain ⟨g8, H⟩ := H
    refine aw_iast 141 dX10_newKind_140 rfl (shp g7) g8 ?_
    replace H := H _ rfl
    refine aw_iinc (y := 1) (loc' := [some (.ref a0), some (.int (x1 + 1)), none, none]) 144 dX10_newKind_141 rfl (by decide) rfl (by decide) rfl ?_
    refine aw_goto 113 dX10_newKind_144 (by decide) ?_
    exact H
set_option maxHeartbeats 4000000 in
set_option maxRecDepth 100000 in
theorem sX10_addWord_0 {w : Wd} {Q : Hp → Prop} {h : Hp} {a0 : Nat} (H : (hs h a0).1 = 30 ∧ (((hI h a0 28) = 20 → ∀ h1, h1 = sI h a0 32 1 → Q h1) ∧ (¬ (hI h a0 28) = 20 → hR h a0 23 ≠ 0 ∧ (hs h (hR h a0 23)).1 = 1 ∧ vp_in (hI h a0 28) (hs h (hR h a0 23)).2 ∧ ((¬ (hI h (hR h a0 23) (hI h a0 28).toNatClampNeg) = 10 → AC w mX10_newKind 0 0 (rI fun r1 h2 => ((0 ≤ r1 → AW w mX10_addWord 0 0 (rV Q) 0 0 44 [some (.ref a0), some (.int r1)] [.int 0, .ref a0] h2) ∧ (¬ 0 ≤ r1 → AW w mX10_addWord 0 0 (rV Q) 0 0 44 [some (.ref a0), some (.int r1)] [.int 1, .ref a0] h2))) [.ref a0] h) ∧ ((hI h (hR h a0 23) (hI h a0 28).toNatClampNeg) = 10 → ∀ h3, h3 = sI h a0 32 1 → Q h3))))) : AW w mX10_addWord 0 0 (rV Q) 0 0 0 [some (.ref a0), none] [] h := by
  refine aw_aload_n 1 dX10_addWord_0 rfl rfl ?_
  obtain ⟨g1, H⟩ := H
  refine aw_getI 4 dX10_addWord_1 rfl fl_X10_164 (by decide) g1 ?_
  refine aw_bipush (v := 20) 6 dX10_addWord_4 rfl (by decide) ?_
  refine aw_icmp_eq 23 9 dX10_addWord_6 rfl (by decide) (fun c2 => ?_) (fun c2 => ?_)
  · replace H := H.1 c2
    refine aw_aload_n 24 dX10_addWord_23 rfl rfl ?_
    refine aw_iconst (v := 1) 25 dX10_addWord_24 rfl (by decide) ?_
    refine aw_putZ 28 dX10_addWord_25 rfl fl_X10_167 (by decide) (by decide) g1 nf_10_32 ?_
    replace H := H _ rfl
    exact aw_return dX10_addWord_28 rfl (by decide) (by decide) ⟨rfl, H⟩
  · replace H := H.2 c2
    refine aw_aload_n 10 dX10_addWord_9 rfl rfl ?_
    obtain ⟨g3, H⟩ := H
    refine aw_getR 13 dX10_addWord_10 rfl fl_X10_58 ir_10_23 g1 rfl g3 ?_
    refine aw_aload_n 14 dX10_addWord_13 rfl rfl ?_
    refine aw_getI 17 dX10_addWord_14 rfl fl_X10_164 (by decide) g1 ?_
    obtain ⟨g4, H⟩ := H
    obtain ⟨g5, H⟩ := H
    refine aw_iald 18 dX10_addWord_17 rfl (Or.inl (shp g4)) g5 ?_
    refine aw_bipush (v := 10) 20 dX10_addWord_18 rfl (by decide) ?_
    refine aw_icmp_ne 29 23 dX10_addWord_20 rfl (by decide) (fun c6 => ?_) (fun c6 => ?_)
    · replace H := H.1 c6
      refine aw_aload_n 30 dX10_addWord_29 rfl rfl ?_
      refine aw_callV (stk := []) (ci := 10) [] 33 dX10_addWord_30 rfl mv_X10_171 ⟨by decide, by decide⟩ g1 (by intro r hr; cases hr; rfl) rfl rfl (by simp [Value.category]) (by decide) H ?_
      rintro _ h2 ⟨r1, rfl, H⟩
      refine aw_istore_n (loc' := [some (.ref a0), some (.int r1)]) 34 dX10_addWord_33 rfl (by decide) rfl ?_
      refine aw_aload_n 35 dX10_addWord_34 rfl rfl ?_
      refine aw_iload_n 36 dX10_addWord_35 rfl rfl ?_
      refine aw_if_ge 43 39 dX10_addWord_36 rfl (by decide) (fun c7 => ?_) (fun c7 => ?_)
      · replace H := H.1 c7
        refine aw_iconst (v := 0) 44 dX10_addWord_43 rfl (by decide) ?_
        exact H
      · replace H := H.2 c7
        refine aw_iconst (v := 1) 40 dX10_addWord_39 rfl (by decide) ?_
        refine aw_goto 44 dX10_addWord_40 (by decide) ?_
        exact H
    · replace H := H.2 c6
      refine aw_aload_n 24 dX10_addWord_23 rfl rfl ?_
      refine aw_iconst (v := 1) 25 dX10_addWord_24 rfl (by decide) ?_
      refine aw_putZ 28 dX10_addWord_25 rfl fl_X10_167 (by decide) (by decide) g1 nf_10_32 ?_
      replace H := H _ rfl
      exact aw_return dX10_addWord_28 rfl (by decide) (by decide) ⟨rfl, H⟩
theorem eX10_addWord {w : Wd} {Q : Hp → Prop} {h : Hp} {a0 : Nat} (H : AW w mX10_addWord 0 0 (rV Q) 0 0 0 [some (.ref a0), none] [] h) : AC w mX10_addWord 0 0 (rV Q) [.ref a0] h := AC.ofL (by decide) (by simp [enl, Value.category]) (by simp [leL, enl, Value.category]) H
set_option maxHeartbeats 4000000 in
set_option maxRecDepth 100000 in
theorem sX10_addWord_44 {w : Wd} {Q : Hp → Prop} {h : Hp} {a0 : Nat} {x1 : Int32} {b0 : Nat} {y1 : Int32} (H : (hs h b0).1 = 30 ∧ (y1 = 0 ∨ y1 = 1) ∧ ∀ h1, h1 = sI h b0 32 y1 → (hs h a0).1 = 30 ∧ hR h a0 24 ≠ 0 ∧ hR h a0 23 ≠ 0 ∧ (hs h (hR h a0 23)).1 = 1 ∧ vp_in (hI h1 a0 28) (hs h (hR h a0 23)).2 ∧ (hs h (hR h a0 24)).1 = 1 ∧ vp_in ((10 * (hI h1 a0 28)) + (hI h1 (hR h a0 23) (hI h1 a0 28).toNatClampNeg)) (hs h (hR h a0 24)).2 ∧ ∀ h2, h2 = sI h1 (hR h a0 24) ((10 * (hI h1 a0 28)) + (hI h1 (hR h a0 23) (hI h1 a0 28).toNatClampNeg)).toNatClampNeg x1 → vp_in (hI h2 a0 28) (hs h (hR h a0 23)).2 ∧ ∀ h3, h3 = sI h2 (hR h a0 23) (hI h2 a0 28).toNatClampNeg ((hI h2 (hR h a0 23) (hI h2 a0 28).toNatClampNeg) + 1) → Q h3) : AW w mX10_addWord 0 0 (rV Q) 0 0 44 [some (.ref a0), some (.int x1)] [.int y1, .ref b0] h := by
  obtain ⟨g1, H⟩ := H
  obtain ⟨g2, H⟩ := H
  refine aw_putZ 47 dX10_addWord_44 rfl fl_X10_167 (by decide) g2 g1 nf_10_32 ?_
  replace H := H _ rfl
  refine aw_aload_n 48 dX10_addWord_47 rfl rfl ?_
  obtain ⟨g3, H⟩ := H
  obtain ⟨g4, H⟩ := H
  refine aw_getR 51 dX10_addWord_48 rfl fl_X10_61 ir_10_24 g3 rfl g4 ?_
  refine aw_bipush (v := 10) 53 dX10_addWord_51 rfl (by decide) ?_
  refine aw_aload_n 54 dX10_addWord_53 rfl rfl ?_
  refine aw_getI 57 dX10_addWord_54 rfl fl_X10_164 (by decide) g3 ?_
  refine aw_imul 58 dX10_addWord_57 rfl ?_
  refine aw_aload_n 59 dX10_addWord_58 rfl rfl ?_
  obtain ⟨g5, H⟩ := H
  refine aw_getR 62 dX10_addWord_59 rfl fl_X10_58 ir_10_23 g3 rfl g5 ?_
  refine aw_aload_n 63 dX10_addWord_62 rfl rfl ?_
  refine aw_getI 66 dX10_addWord_63 rfl fl_X10_164 (by decide) g3 ?_
  obtain ⟨g6, H⟩ := H
  obtain ⟨g7, H⟩ := H
  refine aw_iald 67 dX10_addWord_66 rfl (Or.inl (shp g6)) g7 ?_
  refine aw_iadd 68 dX10_addWord_67 rfl ?_
  refine aw_iload_n 69 dX10_addWord_68 rfl rfl ?_
  obtain ⟨g8, H⟩ := H
  obtain ⟨g9, H⟩ := H
  refine aw_iast 70 dX10_addWord_69 rfl (shp g8) g9 ?_
  replace H := H _ rfl
  refine aw_aload_n 71 dX10_addWord_70 rfl rfl ?_
  refine aw_getR 74 dX10_addWord_71 rfl fl_X10_58 ir_10_23 g3 rfl g5 ?_
  refine aw_aload_n 75 dX10_addWord_74 rfl rfl ?_
  refine aw_getI 78 dX10_addWord_75 rfl fl_X10_164 (by decide) g3 ?_
  refine aw_dup2 79 dX10_addWord_78 rfl rfl rfl ?_
  obtain ⟨g10, H⟩ := H
  refine aw_iald 80 dX10_addWord_79 rfl (Or.inl (shp g6)) g10 ?_
  refine aw_iconst (v := 1) 81 dX10_addWord_80 rfl (by decide) ?_
  refine aw_iadd 82 dX10_addWord_81 rfl ?_
  refine aw_iast 83 dX10_addWord_82 rfl (shp g6) g10 ?_
  replace H := H _ rfl
  exact aw_return dX10_addWord_83 rfl (by decide) (by decide) ⟨rfl, H⟩
set_option maxHeartbeats 4000000 in
set_option maxRecDepth 100000 in
theorem sX10_endSentence_0 {w : Wd} {Q : Hp → Prop} {h : Hp} {a0 : Nat} (H : (hs h a0).1 = 30 ∧ hR h a0 23 ≠ 0 ∧ (hs h (hR h a0 23)).1 = 1 ∧ vp_in (hI h a0 28) (hs h (hR h a0 23)).2 ∧ (((hI h (hR h a0 23) (hI h a0 28).toNatClampNeg) ≤ 0 → Q h) ∧ (¬ (hI h (hR h a0 23) (hI h a0 28).toNatClampNeg) ≤ 0 → hR h a0 25 ≠ 0 ∧ (hs h (hR h a0 25)).1 = 1 ∧ vp_in (hI h a0 28) (hs h (hR h a0 25)).2 ∧ ∀ h1, h1 = sI h (hR h a0 25) (hI h a0 28).toNatClampNeg (hI h a0 30) → ∀ h2, h2 = sI h1 a0 28 ((hI h1 a0 28) + 1) → vp_in (hI h2 a0 28) (hs h (hR h a0 23)).2 ∧ ∀ h3, h3 = sI h2 (hR h a0 23) (hI h2 a0 28).toNatClampNeg 0 → ∀ h4, h4 = sI h3 a0 31 1 → Q h4))) : AW w mX10_endSentence 0 0 (rV Q) 0 0 0 [some (.ref a0)] [] h := by
  refine aw_aload_n 1 dX10_endSentence_0 rfl rfl ?_
  obtain ⟨g1, H⟩ := H
  obtain ⟨g2, H⟩ := H
  refine aw_getR 4 dX10_endSentence_1 rfl fl_X10_58 ir_10_23 g1 rfl g2 ?_
  refine aw_aload_n 5 dX10_endSentence_4 rfl rfl ?_
  refine aw_getI 8 dX10_endSentence_5 rfl fl_X10_164 (by decide) g1 ?_
  obtain ⟨g3, H⟩ := H
  obtain ⟨g4, H⟩ := H
  refine aw_iald 9 dX10_endSentence_8 rfl (Or.inl (shp g3)) g4 ?_
  refine aw_if_le 50 12 dX10_endSentence_9 rfl (by decide) (fun c5 => ?_) (fun c5 => ?_)
  · replace H := H.1 c5
    exact aw_return dX10_endSentence_50 rfl (by decide) (by decide) ⟨rfl, H⟩
  · replace H := H.2 c5
    refine aw_aload_n 13 dX10_endSentence_12 rfl rfl ?_
    obtain ⟨g6, H⟩ := H
    refine aw_getR 16 dX10_endSentence_13 rfl fl_X10_64 ir_10_25 g1 rfl g6 ?_
    refine aw_aload_n 17 dX10_endSentence_16 rfl rfl ?_
    refine aw_getI 20 dX10_endSentence_17 rfl fl_X10_164 (by decide) g1 ?_
    refine aw_aload_n 21 dX10_endSentence_20 rfl rfl ?_
    refine aw_getI 24 dX10_endSentence_21 rfl fl_X10_175 (by decide) g1 ?_
    obtain ⟨g7, H⟩ := H
    obtain ⟨g8, H⟩ := H
    refine aw_iast 25 dX10_endSentence_24 rfl (shp g7) g8 ?_
    replace H := H _ rfl
    refine aw_aload_n 26 dX10_endSentence_25 rfl rfl ?_
    refine aw_dup 27 dX10_endSentence_26 rfl rfl ?_
    refine aw_getI 30 dX10_endSentence_27 rfl fl_X10_164 (by decide) g1 ?_
    refine aw_iconst (v := 1) 31 dX10_endSentence_30 rfl (by decide) ?_
    refine aw_iadd 32 dX10_endSentence_31 rfl ?_
    refine aw_putI 35 dX10_endSentence_32 rfl fl_X10_164 (by decide) g1 nf_10_28 ?_
    replace H := H _ rfl
    refine aw_aload_n 36 dX10_endSentence_35 rfl rfl ?_
    refine aw_getR 39 dX10_endSentence_36 rfl fl_X10_58 ir_10_23 g1 rfl g2 ?_
    refine aw_aload_n 40 dX10_endSentence_39 rfl rfl ?_
    refine aw_getI 43 dX10_endSentence_40 rfl fl_X10_164 (by decide) g1 ?_
    refine aw_iconst (v := 0) 44 dX10_endSentence_43 rfl (by decide) ?_
    obtain ⟨g9, H⟩ := H
    refine aw_iast 45 dX10_endSentence_44 rfl (shp g3) g9 ?_
    replace H := H _ rfl
    refine aw_aload_n 46 dX10_endSentence_45 rfl rfl ?_
    refine aw_iconst (v := 1) 47 dX10_endSentence_46 rfl (by decide) ?_
    refine aw_putZ 50 dX10_endSentence_47 rfl fl_X10_178 (by decide) (by decide) g1 nf_10_31 ?_
    replace H := H _ rfl
    exact aw_return dX10_endSentence_50 rfl (by decide) (by decide) ⟨rfl, H⟩
theorem eX10_endSentence {w : Wd} {Q : Hp → Prop} {h : Hp} {a0 : Nat} (H : AW w mX10_endSentence 0 0 (rV Q) 0 0 0 [some (.ref a0)] [] h) : AC w mX10_endSentence 0 0 (rV Q) [.ref a0] h := AC.ofL (by decide) (by simp [enl, Value.category]) (by simp [leL, enl, Value.category]) H
set_option maxHeartbeats 4000000 in
set_option maxRecDepth 100000 in
theorem sX10_endParagraph_0 {w : Wd} {Q : Hp → Prop} {h : Hp} {a0 : Nat} (H : (hs h a0).1 = 30 ∧ AC w mX10_endSentence 0 0 (rV fun h1 => (hs h1 a0).1 = 30 ∧ (((hI h1 a0 31) = 0 → ∀ h2, h2 = sI h1 a0 30 ((hI h1 a0 30) + 0) → ∀ h3, h3 = sI h2 a0 31 0 → Q h3) ∧ (¬ (hI h1 a0 31) = 0 → ∀ h4, h4 = sI h1 a0 30 ((hI h1 a0 30) + 1) → ∀ h5, h5 = sI h4 a0 31 0 → Q h5))) [.ref a0] h) : AW w mX10_endParagraph 0 0 (rV Q) 0 0 0 [some (.ref a0)] [] h := by
  refine aw_aload_n 1 dX10_endParagraph_0 rfl rfl ?_
  obtain ⟨g1, H⟩ := H
  refine aw_callV (stk := []) (ci := 10) [] 4 dX10_endParagraph_1 rfl mv_X10_181 ⟨by decide, by decide⟩ g1 (by intro r hr; cases hr; rfl) rfl rfl (by simp [Value.category]) (by decide) H ?_
  rintro _ h1 ⟨rfl, H⟩
  refine aw_aload_n 5 dX10_endParagraph_4 rfl rfl ?_
  refine aw_dup 6 dX10_endParagraph_5 rfl rfl ?_
  obtain ⟨g2, H⟩ := H
  refine aw_getI 9 dX10_endParagraph_6 rfl fl_X10_175 (by decide) g2 ?_
  refine aw_aload_n 10 dX10_endParagraph_9 rfl rfl ?_
  refine aw_getI 13 dX10_endParagraph_10 rfl fl_X10_178 (by decide) g2 ?_
  refine aw_if_eq 20 16 dX10_endParagraph_13 rfl (by decide) (fun c3 => ?_) (fun c3 => ?_)
  · replace H := H.1 c3
    refine aw_iconst (v := 0) 21 dX10_endParagraph_20 rfl (by decide) ?_
    refine aw_iadd 22 dX10_endParagraph_21 rfl ?_
    refine aw_putI 25 dX10_endParagraph_22 rfl fl_X10_175 (by decide) g2 nf_10_30 ?_
    replace H := H _ rfl
    refine aw_aload_n 26 dX10_endParagraph_25 rfl rfl ?_
    refine aw_iconst (v := 0) 27 dX10_endParagraph_26 rfl (by decide) ?_
    refine aw_putZ 30 dX10_endParagraph_27 rfl fl_X10_178 (by decide) (by decide) g2 nf_10_31 ?_
    replace H := H _ rfl
    exact aw_return dX10_endParagraph_30 rfl (by decide) (by decide) ⟨rfl, H⟩
  · replace H := H.2 c3
    refine aw_iconst (v := 1) 17 dX10_endParagraph_16 rfl (by decide) ?_
    refine aw_goto 21 dX10_endParagraph_17 (by decide) ?_
    refine aw_iadd 22 dX10_endParagraph_21 rfl ?_
    refine aw_putI 25 dX10_endParagraph_22 rfl fl_X10_175 (by decide) g2 nf_10_30 ?_
    replace H := H _ rfl
    refine aw_aload_n 26 dX10_endParagraph_25 rfl rfl ?_
    refine aw_iconst (v := 0) 27 dX10_endParagraph_26 rfl (by decide) ?_
    refine aw_putZ 30 dX10_endParagraph_27 rfl fl_X10_178 (by decide) (by decide) g2 nf_10_31 ?_
    replace H := H _ rfl
    exact aw_return dX10_endParagraph_30 rfl (by decide) (by decide) ⟨rfl, H⟩
theorem eX10_endParagraph {w : Wd} {Q : Hp → Prop} {h : Hp} {a0 : Nat} (H : AW w mX10_endParagraph 0 0 (rV Q) 0 0 0 [some (.ref a0)] [] h) : AC w mX10_endParagraph 0 0 (rV Q) [.ref a0] h := AC.ofL (by decide) (by simp [enl, Value.category]) (by simp [leL, enl, Value.category]) H
