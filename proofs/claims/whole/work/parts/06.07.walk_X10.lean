set_option maxHeartbeats 4000000 in
set_option maxRecDepth 100000 in
theorem sX10_prepare_0 {w : Wd} {Q : Hp → Prop} {h : Hp} {a0 : Nat} (H : AW w mX10_prepare 0 0 (rV Q) 0 0 2 [some (.ref a0), some (.int 0), none] [] h) : AW w mX10_prepare 0 0 (rV Q) 0 0 0 [some (.ref a0), none, none] [] h := by
  refine aw_iconst (v := 0) 1 dX10_prepare_0 rfl (by decide) ?_
  refine aw_istore_n (loc' := [some (.ref a0), some (.int 0), none]) 2 dX10_prepare_1 rfl (by decide) rfl ?_
  exact H
theorem eX10_prepare {w : Wd} {Q : Hp → Prop} {h : Hp} {a0 : Nat} (H : AW w mX10_prepare 0 0 (rV Q) 0 0 0 [some (.ref a0), none, none] [] h) : AC w mX10_prepare 0 0 (rV Q) [.ref a0] h := AC.ofL (by decide) (by simp [enl, Value.category]) (by simp [leL, enl, Value.category]) H
set_option maxHeartbeats 4000000 in
set_option maxRecDepth 100000 in
theorem sX10_prepare_2 {w : Wd} {Q : Hp → Prop} {h : Hp} {a0 : Nat} {x1 : Int32} (H : (hs h a0).1 = 30 ∧ hR h a0 10 ≠ 0 ∧ (hs h (hR h a0 10)).1 = 1 ∧ vp_in 0 (hs h (hR h a0 10)).2 ∧ (((hI h (hR h a0 10) (0 : Int32).toNatClampNeg) ≤ x1 → AW w mX10_prepare 0 0 (rV Q) 0 0 31 [some (.ref a0), some (.int 0), none] [] h) ∧ (¬ (hI h (hR h a0 10) (0 : Int32).toNatClampNeg) ≤ x1 → hR h a0 33 ≠ 0 ∧ AC w mX10_partnerOf 0 0 (rI fun r1 h1 => (hs h1 (hR h a0 33)).1 = 1 ∧ vp_in x1 (hs h1 (hR h a0 33)).2 ∧ ∀ h2, h2 = sI h1 (hR h a0 33) x1.toNatClampNeg r1 → AW w mX10_prepare 0 0 (rV Q) 0 0 2 [some (.ref a0), some (.int (x1 + 1)), none] [] h2) [.ref a0, .int x1] h))) : AW w mX10_prepare 0 0 (rV Q) 0 0 2 [some (.ref a0), some (.int x1), none] [] h := by
  refine aw_iload_n 3 dX10_prepare_2 rfl rfl ?_
  refine aw_aload_n 4 dX10_prepare_3 rfl rfl ?_
  obtain ⟨g1, H⟩ := H
  obtain ⟨g2, H⟩ := H
  refine aw_getR 7 dX10_prepare_4 rfl fl_X10_34 ir_10_10 g1 rfl g2 ?_
  refine aw_iconst (v := 0) 8 dX10_prepare_7 rfl (by decide) ?_
  obtain ⟨g3, H⟩ := H
  obtain ⟨g4, H⟩ := H
  refine aw_iald 9 dX10_prepare_8 rfl (Or.inl (shp g3)) g4 ?_
  refine aw_icmp_ge 29 12 dX10_prepare_9 rfl (by decide) (fun c5 => ?_) (fun c5 => ?_)
  · replace H := H.1 c5
    refine aw_iconst (v := 0) 30 dX10_prepare_29 rfl (by decide) ?_
    refine aw_istore_n (loc' := [some (.ref a0), some (.int 0), none]) 31 dX10_prepare_30 rfl (by decide) rfl ?_
    exact H
  · replace H := H.2 c5
    refine aw_aload_n 13 dX10_prepare_12 rfl rfl ?_
    obtain ⟨g6, H⟩ := H
    refine aw_getR 16 dX10_prepare_13 rfl fl_X10_73 ir_10_33 g1 rfl g6 ?_
    refine aw_iload_n 17 dX10_prepare_16 rfl rfl ?_
    refine aw_aload_n 18 dX10_prepare_17 rfl rfl ?_
    refine aw_iload_n 19 dX10_prepare_18 rfl rfl ?_
    refine aw_callV (stk := [.int x1, .ref (hR h a0 33)]) (ci := 10) [.int x1] 22 dX10_prepare_19 rfl mv_X10_227 ⟨by decide, by decide⟩ g1 (by intro r hr; cases hr; rfl) rfl rfl (by simp [Value.category]) (by decide) H ?_
    rintro _ h1 ⟨r1, rfl, H⟩
    obtain ⟨g7, H⟩ := H
    obtain ⟨g8, H⟩ := H
    refine aw_iast 23 dX10_prepare_22 rfl (shp g7) g8 ?_
    replace H := H _ rfl
    refine aw_iinc (y := 1) (loc' := [some (.ref a0), some (.int (x1 + 1)), none]) 26 dX10_prepare_23 rfl (by decide) rfl (by decide) rfl ?_
    refine aw_goto 2 dX10_prepare_26 (by decide) ?_
    exact H
set_option maxHeartbeats 4000000 in
set_option maxRecDepth 100000 in
theorem sX10_prepare_31 {w : Wd} {Q : Hp → Prop} {h : Hp} {a0 : Nat} {x1 : Int32} (H : ((2 ≤ x1 → (hs h a0).1 = 30 ∧ AC w mX10_lengthOfAll 0 0 (rI fun r1 h1 => (hs h1 a0).1 = 30 ∧ ∀ h2, h2 = sL h1 a0 35 r1.toInt64 → AC w mX10_lengthOfAll 0 0 (rI fun r2 h3 => (hs h3 a0).1 = 30 ∧ ∀ h4, h4 = sL h3 a0 36 r2.toInt64 → Q h4) [.ref a0, .int 1] h2) [.ref a0, .int 0] h) ∧ (¬ 2 ≤ x1 → AW w mX10_prepare 0 0 (rV Q) 0 0 38 [some (.ref a0), some (.int x1), some (.int 0)] [] h))) : AW w mX10_prepare 0 0 (rV Q) 0 0 31 [some (.ref a0), some (.int x1), none] [] h := by
  refine aw_iload_n 32 dX10_prepare_31 rfl rfl ?_
  refine aw_iconst (v := 2) 33 dX10_prepare_32 rfl (by decide) ?_
  refine aw_icmp_ge 77 36 dX10_prepare_33 rfl (by decide) (fun c1 => ?_) (fun c1 => ?_)
  · replace H := H.1 c1
    refine aw_aload_n 78 dX10_prepare_77 rfl rfl ?_
    refine aw_aload_n 79 dX10_prepare_78 rfl rfl ?_
    refine aw_iconst (v := 0) 80 dX10_prepare_79 rfl (by decide) ?_
    obtain ⟨g2, H⟩ := H
    refine aw_callV (stk := [.ref a0]) (ci := 10) [.int 0] 83 dX10_prepare_80 rfl mv_X10_209 ⟨by decide, by decide⟩ g2 (by intro r hr; cases hr; rfl) rfl rfl (by simp [Value.category]) (by decide) H ?_
    rintro _ h1 ⟨r1, rfl, H⟩
    refine aw_i2l 84 dX10_prepare_83 rfl ?_
    obtain ⟨g3, H⟩ := H
    refine aw_putJ 87 dX10_prepare_84 rfl fl_X10_230 (by decide) g3 nf_10_35 ?_
    replace H := H _ rfl
    refine aw_aload_n 88 dX10_prepare_87 rfl rfl ?_
    refine aw_aload_n 89 dX10_prepare_88 rfl rfl ?_
    refine aw_iconst (v := 1) 90 dX10_prepare_89 rfl (by decide) ?_
    refine aw_callV (stk := [.ref a0]) (ci := 10) [.int 1] 93 dX10_prepare_90 rfl mv_X10_209 ⟨by decide, by decide⟩ g3 (by intro r hr; cases hr; rfl) rfl rfl (by simp [Value.category]) (by decide) H ?_
    rintro _ h3 ⟨r2, rfl, H⟩
    refine aw_i2l 94 dX10_prepare_93 rfl ?_
    obtain ⟨g4, H⟩ := H
    refine aw_putJ 97 dX10_prepare_94 rfl fl_X10_234 (by decide) g4 nf_10_36 ?_
    replace H := H _ rfl
    exact aw_return dX10_prepare_97 rfl (by decide) (by decide) ⟨rfl, H⟩
  · replace H := H.2 c1
    refine aw_iconst (v := 0) 37 dX10_prepare_36 rfl (by decide) ?_
    refine aw_istore_n (loc' := [some (.ref a0), some (.int x1), some (.int 0)]) 38 dX10_prepare_37 rfl (by decide) rfl ?_
    exact H
set_option maxHeartbeats 4000000 in
set_option maxRecDepth 100000 in
theorem sX10_prepare_38 {w : Wd} {Q : Hp → Prop} {h : Hp} {a0 : Nat} {x1 : Int32} {x2 : Int32} (H : (hs h a0).1 = 30 ∧ hR h a0 5 ≠ 0 ∧ (hs h (hR h a0 5)).1 = 1 ∧ vp_in x1 (hs h (hR h a0 5)).2 ∧ (((hI h (hR h a0 5) x1.toNatClampNeg) ≤ x2 → AW w mX10_prepare 0 0 (rV Q) 0 0 31 [some (.ref a0), some (.int (x1 + 1)), none] [] h) ∧ (¬ (hI h (hR h a0 5) x1.toNatClampNeg) ≤ x2 → hR h a0 34 ≠ 0 ∧ AC w mX10_lengthOf 0 0 (rI fun r1 h1 => (hs h1 (hR h a0 34)).1 = 1 ∧ vp_in ((20 * x1) + x2) (hs h1 (hR h a0 34)).2 ∧ ∀ h2, h2 = sI h1 (hR h a0 34) ((20 * x1) + x2).toNatClampNeg r1 → AW w mX10_prepare 0 0 (rV Q) 0 0 38 [some (.ref a0), some (.int x1), some (.int (x2 + 1))] [] h2) [.ref a0, .int x1, .int x2] h))) : AW w mX10_prepare 0 0 (rV Q) 0 0 38 [some (.ref a0), some (.int x1), some (.int x2)] [] h := by
  refine aw_iload_n 39 dX10_prepare_38 rfl rfl ?_
  refine aw_aload_n 40 dX10_prepare_39 rfl rfl ?_
  obtain ⟨g1, H⟩ := H
  obtain ⟨g2, H⟩ := H
  refine aw_getR 43 dX10_prepare_40 rfl fl_X10_19 ir_10_5 g1 rfl g2 ?_
  refine aw_iload_n 44 dX10_prepare_43 rfl rfl ?_
  obtain ⟨g3, H⟩ := H
  obtain ⟨g4, H⟩ := H
  refine aw_iald 45 dX10_prepare_44 rfl (Or.inl (shp g3)) g4 ?_
  refine aw_icmp_ge 71 48 dX10_prepare_45 rfl (by decide) (fun c5 => ?_) (fun c5 => ?_)
  · replace H := H.1 c5
    refine aw_iinc (y := 1) (loc' := [some (.ref a0), some (.int (x1 + 1)), some (.int x2)]) 74 dX10_prepare_71 rfl (by decide) rfl (by decide) rfl ?_
    refine aw_goto 31 dX10_prepare_74 (by decide) ?_
    exact aw_fgt (by simp [leL]) H
  · replace H := H.2 c5
    refine aw_aload_n 49 dX10_prepare_48 rfl rfl ?_
    obtain ⟨g6, H⟩ := H
    refine aw_getR 52 dX10_prepare_49 rfl fl_X10_76 ir_10_34 g1 rfl g6 ?_
    refine aw_bipush (v := 20) 54 dX10_prepare_52 rfl (by decide) ?_
    refine aw_iload_n 55 dX10_prepare_54 rfl rfl ?_
    refine aw_imul 56 dX10_prepare_55 rfl ?_
    refine aw_iload_n 57 dX10_prepare_56 rfl rfl ?_
    refine aw_iadd 58 dX10_prepare_57 rfl ?_
    refine aw_aload_n 59 dX10_prepare_58 rfl rfl ?_
    refine aw_iload_n 60 dX10_prepare_59 rfl rfl ?_
    refine aw_iload_n 61 dX10_prepare_60 rfl rfl ?_
    refine aw_callV (stk := [.int ((20 * x1) + x2), .ref (hR h a0 34)]) (ci := 10) [.int x1, .int x2] 64 dX10_prepare_61 rfl mv_X10_205 ⟨by decide, by decide⟩ g1 (by intro r hr; cases hr; rfl) rfl rfl (by simp [Value.category]) (by decide) H ?_
    rintro _ h1 ⟨r1, rfl, H⟩
    obtain ⟨g7, H⟩ := H
    obtain ⟨g8, H⟩ := H
    refine aw_iast 65 dX10_prepare_64 rfl (shp g7) g8 ?_
    replace H := H _ rfl
    refine aw_iinc (y := 1) (loc' := [some (.ref a0), some (.int x1), some (.int (x2 + 1))]) 68 dX10_prepare_65 rfl (by decide) rfl (by decide) rfl ?_
    refine aw_goto 38 dX10_prepare_68 (by decide) ?_
    exact H
set_option maxHeartbeats 4000000 in
set_option maxRecDepth 100000 in
theorem sX10_square_0 {w : Wd} {Q : Int32 → Hp → Prop} {h : Hp} {a0 : Nat} {l1 : Int64} {l3 : Int64} (H : (hs h a0).1 = 30 ∧ ((0 ≤ (lg_cmp ((l1 * (hL h a0 36)) - (l3 * (hL h a0 35))) 0) → AW w mX10_square 0 0 (rI Q) 0 0 38 [none, some (.long l1), none, some (.long l3), none, some (.long (hL h a0 35)), none, some (.long (hL h a0 36)), none, none, none, none, none] [.long ((l1 * (hL h a0 36)) - (l3 * (hL h a0 35)))] h) ∧ (¬ 0 ≤ (lg_cmp ((l1 * (hL h a0 36)) - (l3 * (hL h a0 35))) 0) → AW w mX10_square 0 0 (rI Q) 0 0 38 [none, some (.long l1), none, some (.long l3), none, some (.long (hL h a0 35)), none, some (.long (hL h a0 36)), none, none, none, none, none] [.long (-((l1 * (hL h a0 36)) - (l3 * (hL h a0 35))))] h))) : AW w mX10_square 0 0 (rI Q) 0 0 0 [some (.ref a0), some (.long l1), none, some (.long l3), none, none, none, none, none, none, none, none, none] [] h := by
  refine aw_aload_n 1 dX10_square_0 rfl rfl ?_
  obtain ⟨g1, H⟩ := H
  refine aw_getJ 4 dX10_square_1 rfl fl_X10_230 (by decide) g1 ?_
  refine aw_lstore (loc' := [some (.ref a0), some (.long l1), none, some (.long l3), none, some (.long (hL h a0 35)), none, none, none, none, none, none, none]) 6 dX10_square_4 rfl (by decide) rfl ?_
  refine aw_aload_n 7 dX10_square_6 rfl rfl ?_
  refine aw_getJ 10 dX10_square_7 rfl fl_X10_234 (by decide) g1 ?_
  refine aw_lstore (loc' := [some (.ref a0), some (.long l1), none, some (.long l3), none, some (.long (hL h a0 35)), none, some (.long (hL h a0 36)), none, none, none, none, none]) 12 dX10_square_10 rfl (by decide) rfl ?_
  refine aw_lload_n 13 dX10_square_12 rfl rfl ?_
  refine aw_lload 15 dX10_square_13 rfl rfl ?_
  refine aw_lmul 16 dX10_square_15 rfl ?_
  refine aw_lload_n 17 dX10_square_16 rfl rfl ?_
  refine aw_lload 19 dX10_square_17 rfl rfl ?_
  refine aw_lmul 20 dX10_square_19 rfl ?_
  refine aw_lsub 21 dX10_square_20 rfl ?_
  refine aw_lstore (loc' := [some (.ref a0), some (.long l1), none, some (.long l3), none, some (.long (hL h a0 35)), none, some (.long (hL h a0 36)), none, some (.long ((l1 * (hL h a0 36)) - (l3 * (hL h a0 35)))), none, none, none]) 23 dX10_square_21 rfl (by decide) rfl ?_
  refine aw_lload 25 dX10_square_23 rfl rfl ?_
  refine aw_lconst (v := 0) 26 dX10_square_25 rfl (by decide) ?_
  refine aw_lcmp 27 dX10_square_26 rfl ?_
  refine aw_if_ge 36 30 dX10_square_27 rfl (by decide) (fun c2 => ?_) (fun c2 => ?_)
  · replace H := H.1 c2
    refine aw_lload 38 dX10_square_36 rfl rfl ?_
    exact aw_fgt (by simp [leL]) H
  · replace H := H.2 c2
    refine aw_lload 32 dX10_square_30 rfl rfl ?_
    refine aw_lneg 33 dX10_square_32 rfl ?_
    refine aw_goto 38 dX10_square_33 (by decide) ?_
    exact aw_fgt (by simp [leL]) H
theorem eX10_square {w : Wd} {Q : Int32 → Hp → Prop} {h : Hp} {a0 : Nat} {l1 : Int64} {l3 : Int64} (H : AW w mX10_square 0 0 (rI Q) 0 0 0 [some (.ref a0), some (.long l1), none, some (.long l3), none, none, none, none, none, none, none, none, none] [] h) : AC w mX10_square 0 0 (rI Q) [.ref a0, .long l1, .long l3] h := AC.ofL (by decide) (by simp [enl, Value.category]) (by simp [leL, enl, Value.category]) H
set_option maxHeartbeats 4000000 in
set_option maxRecDepth 100000 in
theorem sX10_square_38 {w : Wd} {Q : Int32 → Hp → Prop} {h : Hp} {l1 : Int64} {l3 : Int64} {l5 : Int64} {l7 : Int64} {z0 : Int64} (H : ¬ ((l1 * l7) + (l3 * l5)) = 0 ∧ Q ((((z0 * 20) / ((l1 * l7) + (l3 * l5))) * ((z0 * 20) / ((l1 * l7) + (l3 * l5)))).toInt32) h) : AW w mX10_square 0 0 (rI Q) 0 0 38 [none, some (.long l1), none, some (.long l3), none, some (.long l5), none, some (.long l7), none, none, none, none, none] [.long z0] h := by
  refine aw_ldc2 41 dX10_square_38 rfl kc_X10_237 ?_
  refine aw_lmul 42 dX10_square_41 rfl ?_
  refine aw_lload_n 43 dX10_square_42 rfl rfl ?_
  refine aw_lload 45 dX10_square_43 rfl rfl ?_
  refine aw_lmul 46 dX10_square_45 rfl ?_
  refine aw_lload_n 47 dX10_square_46 rfl rfl ?_
  refine aw_lload 49 dX10_square_47 rfl rfl ?_
  refine aw_lmul 50 dX10_square_49 rfl ?_
  refine aw_ladd 51 dX10_square_50 rfl ?_
  obtain ⟨g1, H⟩ := H
  refine aw_ldiv 52 dX10_square_51 rfl g1 ?_
  refine aw_lstore (loc' := [none, some (.long l1), none, some (.long l3), none, some (.long l5), none, some (.long l7), none, none, none, some (.long ((z0 * 20) / ((l1 * l7) + (l3 * l5)))), none]) 54 dX10_square_52 rfl (by decide) rfl ?_
  refine aw_lload 56 dX10_square_54 rfl rfl ?_
  refine aw_lload 58 dX10_square_56 rfl rfl ?_
  refine aw_lmul 59 dX10_square_58 rfl ?_
  refine aw_l2i 60 dX10_square_59 rfl ?_
  exact aw_ireturn dX10_square_60 rfl (by decide) (by decide) ⟨_, rfl, H⟩
set_option maxHeartbeats 4000000 in
set_option maxRecDepth 100000 in
theorem sX10_hasWord_0 {w : Wd} {Q : Int32 → Hp → Prop} {h : Hp} {a0 : Nat} {x1 : Int32} {x2 : Int32} {x3 : Int32} {x4 : Int32} (H : AW w mX10_hasWord 0 0 (rI Q) 0 0 6 [some (.ref a0), some (.int x1), some (.int x2), some (.int x3), some (.int x4), some (.int 0), some (.int x2), none] [] h) : AW w mX10_hasWord 0 0 (rI Q) 0 0 0 [some (.ref a0), some (.int x1), some (.int x2), some (.int x3), some (.int x4), none, none, none] [] h := by
  refine aw_iconst (v := 0) 1 dX10_hasWord_0 rfl (by decide) ?_
  refine aw_istore (loc' := [some (.ref a0), some (.int x1), some (.int x2), some (.int x3), some (.int x4), some (.int 0), none, none]) 3 dX10_hasWord_1 rfl (by decide) rfl ?_
  refine aw_iload_n 4 dX10_hasWord_3 rfl rfl ?_
  refine aw_istore (loc' := [some (.ref a0), some (.int x1), some (.int x2), some (.int x3), some (.int x4), some (.int 0), some (.int x2), none]) 6 dX10_hasWord_4 rfl (by decide) rfl ?_
  exact H
theorem eX10_hasWord {w : Wd} {Q : Int32 → Hp → Prop} {h : Hp} {a0 : Nat} {x1 : Int32} {x2 : Int32} {x3 : Int32} {x4 : Int32} (H : AW w mX10_hasWord 0 0 (rI Q) 0 0 0 [some (.ref a0), some (.int x1), some (.int x2), some (.int x3), some (.int x4), none, none, none] [] h) : AC w mX10_hasWord 0 0 (rI Q) [.ref a0, .int x1, .int x2, .int x3, .int x4] h := AC.ofL (by decide) (by simp [enl, Value.category]) (by simp [leL, enl, Value.category]) H
set_option maxHeartbeats 4000000 in
set_option maxRecDepth 100000 in
theorem sX10_hasWord_6 {w : Wd} {Q : Int32 → Hp → Prop} {h : Hp} {a0 : Nat} {x1 : Int32} {x2 : Int32} {x3 : Int32} {x4 : Int32} {x5 : Int32} {x6 : Int32} (H : (((x2 + x3) ≤ x6 → (x5 = 0 ∨ x5 = 1) ∧ Q x5 h) ∧ (¬ (x2 + x3) ≤ x6 → AW w mX10_hasWord 0 0 (rI Q) 0 0 17 [some (.ref a0), some (.int x1), some (.int x2), some (.int x3), some (.int x4), some (.int x5), some (.int x6), some (.int 0)] [] h))) : AW w mX10_hasWord 0 0 (rI Q) 0 0 6 [some (.ref a0), some (.int x1), some (.int x2), some (.int x3), some (.int x4), some (.int x5), some (.int x6), none] [] h := by
  refine aw_iload 8 dX10_hasWord_6 rfl rfl ?_
  refine aw_iload_n 9 dX10_hasWord_8 rfl rfl ?_
  refine aw_iload_n 10 dX10_hasWord_9 rfl rfl ?_
  refine aw_iadd 11 dX10_hasWord_10 rfl ?_
  refine aw_icmp_ge 72 14 dX10_hasWord_11 rfl (by decide) (fun c1 => ?_) (fun c1 => ?_)
  · replace H := H.1 c1
    refine aw_iload 74 dX10_hasWord_72 rfl rfl ?_
    obtain ⟨g2, H⟩ := H
    exact aw_zreturn dX10_hasWord_74 rfl g2 (by decide) (by decide) ⟨_, rfl, H⟩
  · replace H := H.2 c1
    refine aw_iconst (v := 0) 15 dX10_hasWord_14 rfl (by decide) ?_
    refine aw_istore (loc' := [some (.ref a0), some (.int x1), some (.int x2), some (.int x3), some (.int x4), some (.int x5), some (.int x6), some (.int 0)]) 17 dX10_hasWord_15 rfl (by decide) rfl ?_
    exact H
set_option maxHeartbeats 4000000 in
set_option maxRecDepth 100000 in
theorem sX10_hasWord_17 {w : Wd} {Q : Int32 → Hp → Prop} {h : Hp} {a0 : Nat} {x1 : Int32} {x2 : Int32} {x3 : Int32} {x4 : Int32} {x5 : Int32} {x6 : Int32} {x7 : Int32} (H : (hs h a0).1 = 30 ∧ hR h a0 6 ≠ 0 ∧ (hs h (hR h a0 6)).1 = 1 ∧ vp_in ((20 * x1) + x6) (hs h (hR h a0 6)).2 ∧ (((hI h (hR h a0 6) ((20 * x1) + x6).toNatClampNeg) ≤ x7 → AW w mX10_hasWord 0 0 (rI Q) 0 0 6 [some (.ref a0), some (.int x1), some (.int x2), some (.int x3), some (.int x4), some (.int x5), some (.int (x6 + 1)), none] [] h) ∧ (¬ (hI h (hR h a0 6) ((20 * x1) + x6).toNatClampNeg) ≤ x7 → ((¬ x5 = 0 → AW w mX10_hasWord 0 0 (rI Q) 0 0 17 [some (.ref a0), some (.int x1), some (.int x2), some (.int x3), some (.int x4), some (.int 1), some (.int x6), some (.int (x7 + 1))] [] h) ∧ (x5 = 0 → AC w mX10_kindOf 0 0 (rI fun r1 h1 => ((¬ r1 = x4 → AW w mX10_hasWord 0 0 (rI Q) 0 0 17 [some (.ref a0), some (.int x1), some (.int x2), some (.int x3), some (.int x4), some (.int 0), some (.int x6), some (.int (x7 + 1))] [] h1) ∧ (r1 = x4 → AW w mX10_hasWord 0 0 (rI Q) 0 0 17 [some (.ref a0), some (.int x1), some (.int x2), some (.int x3), some (.int x4), some (.int 1), some (.int x6), some (.int (x7 + 1))] [] h1))) [.ref a0, .int x1, .int x6, .int x7] h))))) : AW w mX10_hasWord 0 0 (rI Q) 0 0 17 [some (.ref a0), some (.int x1), some (.int x2), some (.int x3), some (.int x4), some (.int x5), some (.int x6), some (.int x7)] [] h := by
  refine aw_iload 19 dX10_hasWord_17 rfl rfl ?_
  refine aw_aload_n 20 dX10_hasWord_19 rfl rfl ?_
  obtain ⟨g1, H⟩ := H
  obtain ⟨g2, H⟩ := H
  refine aw_getR 23 dX10_hasWord_20 rfl fl_X10_22 ir_10_6 g1 rfl g2 ?_
  refine aw_bipush (v := 20) 25 dX10_hasWord_23 rfl (by decide) ?_
  refine aw_iload_n 26 dX10_hasWord_25 rfl rfl ?_
  refine aw_imul 27 dX10_hasWord_26 rfl ?_
  refine aw_iload 29 dX10_hasWord_27 rfl rfl ?_
  refine aw_iadd 30 dX10_hasWord_29 rfl ?_
  obtain ⟨g3, H⟩ := H
  obtain ⟨g4, H⟩ := H
  refine aw_iald 31 dX10_hasWord_30 rfl (Or.inl (shp g3)) g4 ?_
  refine aw_icmp_ge 66 34 dX10_hasWord_31 rfl (by decide) (fun c5 => ?_) (fun c5 => ?_)
  · replace H := H.1 c5
    refine aw_iinc (y := 1) (loc' := [some (.ref a0), some (.int x1), some (.int x2), some (.int x3), some (.int x4), some (.int x5), some (.int (x6 + 1)), some (.int x7)]) 69 dX10_hasWord_66 rfl (by decide) rfl (by decide) rfl ?_
    refine aw_goto 6 dX10_hasWord_69 (by decide) ?_
    exact aw_fgt (by simp [leL]) H
  · replace H := H.2 c5
    refine aw_iload 36 dX10_hasWord_34 rfl rfl ?_
    refine aw_if_ne 53 39 dX10_hasWord_36 rfl (by decide) (fun c6 => ?_) (fun c6 => ?_)
    · replace H := H.1 c6
      refine aw_iconst (v := 1) 54 dX10_hasWord_53 rfl (by decide) ?_
      refine aw_goto 58 dX10_hasWord_54 (by decide) ?_
      refine aw_istore (loc' := [some (.ref a0), some (.int x1), some (.int x2), some (.int x3), some (.int x4), some (.int 1), some (.int x6), some (.int x7)]) 60 dX10_hasWord_58 rfl (by decide) rfl ?_
      refine aw_iinc (y := 1) (loc' := [some (.ref a0), some (.int x1), some (.int x2), some (.int x3), some (.int x4), some (.int 1), some (.int x6), some (.int (x7 + 1))]) 63 dX10_hasWord_60 rfl (by decide) rfl (by decide) rfl ?_
      refine aw_goto 17 dX10_hasWord_63 (by decide) ?_
      exact H
    · replace H := H.2 c6
      refine aw_aload_n 40 dX10_hasWord_39 rfl rfl ?_
      refine aw_iload_n 41 dX10_hasWord_40 rfl rfl ?_
      refine aw_iload 43 dX10_hasWord_41 rfl rfl ?_
      refine aw_iload 45 dX10_hasWord_43 rfl rfl ?_
      refine aw_callV (stk := []) (ci := 10) [.int x1, .int x6, .int x7] 48 dX10_hasWord_45 rfl mv_X10_201 ⟨by decide, by decide⟩ g1 (by intro r hr; cases hr; rfl) rfl rfl (by simp [Value.category]) (by decide) H ?_
      rintro _ h1 ⟨r1, rfl, H⟩
      refine aw_iload 50 dX10_hasWord_48 rfl rfl ?_
      refine aw_icmp_ne 57 53 dX10_hasWord_50 rfl (by decide) (fun c7 => ?_) (fun c7 => ?_)
      · replace H := H.1 c7
        refine aw_iconst (v := 0) 58 dX10_hasWord_57 rfl (by decide) ?_
        refine aw_istore (loc' := [some (.ref a0), some (.int x1), some (.int x2), some (.int x3), some (.int x4), some (.int 0), some (.int x6), some (.int x7)]) 60 dX10_hasWord_58 rfl (by decide) rfl ?_
        refine aw_iinc (y := 1) (loc' := [some (.ref a0), some (.int x1), some (.int x2), some (.int x3), some (.int x4), some (.int 0), some (.int x6), some (.int (x7 + 1))]) 63 dX10_hasWord_60 rfl (by decide) rfl (by decide) rfl ?_
        refine aw_goto 17 dX10_hasWord_63 (by decide) ?_
        exact H
      · replace H := H.2 c7
        refine aw_iconst (v := 1) 54 dX10_hasWord_53 rfl (by decide) ?_
        refine aw_goto 58 dX10_hasWord_54 (by decide) ?_
        refine aw_istore (loc' := [some (.ref a0), some (.int x1), some (.int x2), some (.int x3), some (.int x4), some (.int 1), some (.int x6), some (.int x7)]) 60 dX10_hasWord_58 rfl (by decide) rfl ?_
        refine aw_iinc (y := 1) (loc' := [some (.ref a0), some (.int x1), some (.int x2), some (.int x3), some (.int x4), some (.int 1), some (.int x6), some (.int (x7 + 1))]) 63 dX10_hasWord_60 rfl (by decide) rfl (by decide) rfl ?_
        refine aw_goto 17 dX10_hasWord_63 (by decide) ?_
        exact H
set_option maxHeartbeats 4000000 in
set_option maxRecDepth 100000 in
theorem sX10_known_0 {w : Wd} {Q : Int32 → Hp → Prop} {h : Hp} {a0 : Nat} {x1 : Int32} {x2 : Int32} {x3 : Int32} {x4 : Int32} (H : AW w mX10_known 0 0 (rI Q) 0 0 6 [some (.ref a0), some (.int x1), some (.int x2), some (.int x3), some (.int x4), some (.int 0), some (.int x1), none, none] [] h) : AW w mX10_known 0 0 (rI Q) 0 0 0 [some (.ref a0), some (.int x1), some (.int x2), some (.int x3), some (.int x4), none, none, none, none] [] h := by
  refine aw_iconst (v := 0) 1 dX10_known_0 rfl (by decide) ?_
  refine aw_istore (loc' := [some (.ref a0), some (.int x1), some (.int x2), some (.int x3), some (.int x4), some (.int 0), none, none, none]) 3 dX10_known_1 rfl (by decide) rfl ?_
  refine aw_iload_n 4 dX10_known_3 rfl rfl ?_
  refine aw_istore (loc' := [some (.ref a0), some (.int x1), some (.int x2), some (.int x3), some (.int x4), some (.int 0), some (.int x1), none, none]) 6 dX10_known_4 rfl (by decide) rfl ?_
  exact H
theorem eX10_known {w : Wd} {Q : Int32 → Hp → Prop} {h : Hp} {a0 : Nat} {x1 : Int32} {x2 : Int32} {x3 : Int32} {x4 : Int32} (H : AW w mX10_known 0 0 (rI Q) 0 0 0 [some (.ref a0), some (.int x1), some (.int x2), some (.int x3), some (.int x4), none, none, none, none] [] h) : AC w mX10_known 0 0 (rI Q) [.ref a0, .int x1, .int x2, .int x3, .int x4] h := AC.ofL (by decide) (by simp [enl, Value.category]) (by simp [leL, enl, Value.category]) H
set_option maxHeartbeats 4000000 in
set_option maxRecDepth 100000 in
theorem sX10_known_6 {w : Wd} {Q : Int32 → Hp → Prop} {h : Hp} {a0 : Nat} {x1 : Int32} {x2 : Int32} {x3 : Int32} {x4 : Int32} {x5 : Int32} {x6 : Int32} (H : (((x1 + x2) ≤ x6 → Q x5 h) ∧ (¬ (x1 + x2) ≤ x6 → AW w mX10_known 0 0 (rI Q) 0 0 17 [some (.ref a0), some (.int x1), some (.int x2), some (.int x3), some (.int x4), some (.int x5), some (.int x6), some (.int 0), none] [] h))) : AW w mX10_known 0 0 (rI Q) 0 0 6 [some (.ref a0), some (.int x1), some (.int x2), some (.int x3), some (.int x4), some (.int x5), some (.int x6), none, none] [] h := by
  refine aw_iload 8 dX10_known_6 rfl rfl ?_
  refine aw_iload_n 9 dX10_known_8 rfl rfl ?_
  refine aw_iload_n 10 dX10_known_9 rfl rfl ?_
  refine aw_iadd 11 dX10_known_10 rfl ?_
  refine aw_icmp_ge 85 14 dX10_known_11 rfl (by decide) (fun c1 => ?_) (fun c1 => ?_)
  · replace H := H.1 c1
    refine aw_iload 87 dX10_known_85 rfl rfl ?_
    exact aw_ireturn dX10_known_87 rfl (by decide) (by decide) ⟨_, rfl, H⟩
  · replace H := H.2 c1
    refine aw_iconst (v := 0) 15 dX10_known_14 rfl (by decide) ?_
    refine aw_istore (loc' := [some (.ref a0), some (.int x1), some (.int x2), some (.int x3), some (.int x4), some (.int x5), some (.int x6), some (.int 0), none]) 17 dX10_known_15 rfl (by decide) rfl ?_
    exact H
set_option maxHeartbeats 4000000 in
set_option maxRecDepth 100000 in
theorem sX10_known_17 {w : Wd} {Q : Int32 → Hp → Prop} {h : Hp} {a0 : Nat} {x1 : Int32} {x2 : Int32} {x3 : Int32} {x4 : Int32} {x5 : Int32} {x6 : Int32} {x7 : Int32} (H : (hs h a0).1 = 30 ∧ hR h a0 6 ≠ 0 ∧ (hs h (hR h a0 6)).1 = 1 ∧ vp_in x6 (hs h (hR h a0 6)).2 ∧ (((hI h (hR h a0 6) x6.toNatClampNeg) ≤ x7 → AW w mX10_known 0 0 (rI Q) 0 0 6 [some (.ref a0), some (.int x1), some (.int x2), some (.int x3), some (.int x4), some (.int x5), some (.int (x6 + 1)), none, none] [] h) ∧ (¬ (hI h (hR h a0 6) x6.toNatClampNeg) ≤ x7 → hR h a0 33 ≠ 0 ∧ AC w mX10_kindOf 0 0 (rI fun r1 h1 => (hs h1 (hR h a0 33)).1 = 1 ∧ vp_in r1 (hs h1 (hR h a0 33)).2 ∧ (((hI h1 (hR h a0 33) r1.toNatClampNeg) < 0 → AW w mX10_known 0 0 (rI Q) 0 0 17 [some (.ref a0), some (.int x1), some (.int x2), some (.int x3), some (.int x4), some (.int (x5 + 0)), some (.int x6), some (.int (x7 + 1)), none] [] h1) ∧ (¬ (hI h1 (hR h a0 33) r1.toNatClampNeg) < 0 → (hs h1 a0).1 = 30 ∧ AC w mX10_hasWord 0 0 (rI fun r2 h2 => ((r2 = 0 → AW w mX10_known 0 0 (rI Q) 0 0 17 [some (.ref a0), some (.int x1), some (.int x2), some (.int x3), some (.int x4), some (.int (x5 + 0)), some (.int x6), some (.int (x7 + 1)), none] [] h2) ∧ (¬ r2 = 0 → AW w mX10_known 0 0 (rI Q) 0 0 17 [some (.ref a0), some (.int x1), some (.int x2), some (.int x3), some (.int x4), some (.int (x5 + 1)), some (.int x6), some (.int (x7 + 1)), none] [] h2))) [.ref a0, .int 1, .int x3, .int x4, .int (hI h1 (hR h a0 33) r1.toNatClampNeg)] h1))) [.ref a0, .int 0, .int x6, .int x7] h))) : AW w mX10_known 0 0 (rI Q) 0 0 17 [some (.ref a0), some (.int x1), some (.int x2), some (.int x3), some (.int x4), some (.int x5), some (.int x6), some (.int x7), none] [] h := by
  refine aw_iload 19 dX10_known_17 rfl rfl ?_
  refine aw_aload_n 20 dX10_known_19 rfl rfl ?_
  obtain ⟨g1, H⟩ := H
  obtain ⟨g2, H⟩ := H
  refine aw_getR 23 dX10_known_20 rfl fl_X10_22 ir_10_6 g1 rfl g2 ?_
  refine aw_iload 25 dX10_known_23 rfl rfl ?_
  obtain ⟨g3, H⟩ := H
  obtain ⟨g4, H⟩ := H
  refine aw_iald 26 dX10_known_25 rfl (Or.inl (shp g3)) g4 ?_
  refine aw_icmp_ge 79 29 dX10_known_26 rfl (by decide) (fun c5 => ?_) (fun c5 => ?_)
  · replace H := H.1 c5
    refine aw_iinc (y := 1) (loc' := [some (.ref a0), some (.int x1), some (.int x2), some (.int x3), some (.int x4), some (.int x5), some (.int (x6 + 1)), some (.int x7), none]) 82 dX10_known_79 rfl (by decide) rfl (by decide) rfl ?_
    refine aw_goto 6 dX10_known_82 (by decide) ?_
    exact aw_fgt (by simp [leL]) H
  · replace H := H.2 c5
    refine aw_aload_n 30 dX10_known_29 rfl rfl ?_
    obtain ⟨g6, H⟩ := H
    refine aw_getR 33 dX10_known_30 rfl fl_X10_73 ir_10_33 g1 rfl g6 ?_
    refine aw_aload_n 34 dX10_known_33 rfl rfl ?_
    refine aw_iconst (v := 0) 35 dX10_known_34 rfl (by decide) ?_
    refine aw_iload 37 dX10_known_35 rfl rfl ?_
    refine aw_iload 39 dX10_known_37 rfl rfl ?_
    refine aw_callV (stk := [.ref (hR h a0 33)]) (ci := 10) [.int 0, .int x6, .int x7] 42 dX10_known_39 rfl mv_X10_201 ⟨by decide, by decide⟩ g1 (by intro r hr; cases hr; rfl) rfl rfl (by simp [Value.category]) (by decide) H ?_
    rintro _ h1 ⟨r1, rfl, H⟩
    obtain ⟨g7, H⟩ := H
    obtain ⟨g8, H⟩ := H
    refine aw_iald 43 dX10_known_42 rfl (Or.inl (shp g7)) g8 ?_
    refine aw_istore (loc' := [some (.ref a0), some (.int x1), some (.int x2), some (.int x3), some (.int x4), some (.int x5), some (.int x6), some (.int x7), some (.int (hI h1 (hR h a0 33) r1.toNatClampNeg))]) 45 dX10_known_43 rfl (by decide) rfl ?_
    refine aw_iload 47 dX10_known_45 rfl rfl ?_
    refine aw_iload 49 dX10_known_47 rfl rfl ?_
    refine aw_if_lt 69 52 dX10_known_49 rfl (by decide) (fun c9 => ?_) (fun c9 => ?_)
    · replace H := H.1 c9
      refine aw_iconst (v := 0) 70 dX10_known_69 rfl (by decide) ?_
      refine aw_iadd 71 dX10_known_70 rfl ?_
      refine aw_istore (loc' := [some (.ref a0), some (.int x1), some (.int x2), some (.int x3), some (.int x4), some (.int (x5 + 0)), some (.int x6), some (.int x7), some (.int (hI h1 (hR h a0 33) r1.toNatClampNeg))]) 73 dX10_known_71 rfl (by decide) rfl ?_
      refine aw_iinc (y := 1) (loc' := [some (.ref a0), some (.int x1), some (.int x2), some (.int x3), some (.int x4), some (.int (x5 + 0)), some (.int x6), some (.int (x7 + 1)), some (.int (hI h1 (hR h a0 33) r1.toNatClampNeg))]) 76 dX10_known_73 rfl (by decide) rfl (by decide) rfl ?_
      refine aw_goto 17 dX10_known_76 (by decide) ?_
      exact aw_fgt (by simp [leL]) H
    · replace H := H.2 c9
      refine aw_aload_n 53 dX10_known_52 rfl rfl ?_
      refine aw_iconst (v := 1) 54 dX10_known_53 rfl (by decide) ?_
      refine aw_iload_n 55 dX10_known_54 rfl rfl ?_
      refine aw_iload 57 dX10_known_55 rfl rfl ?_
      refine aw_iload 59 dX10_known_57 rfl rfl ?_
      obtain ⟨g10, H⟩ := H
      refine aw_callV (stk := [.int x5]) (ci := 10) [.int 1, .int x3, .int x4, .int (hI h1 (hR h a0 33) r1.toNatClampNeg)] 62 dX10_known_59 rfl mv_X10_239 ⟨by decide, by decide⟩ g10 (by intro r hr; cases hr; rfl) rfl rfl (by simp [Value.category]) (by decide) H ?_
      rintro _ h2 ⟨r2, rfl, H⟩
      refine aw_if_eq 69 65 dX10_known_62 rfl (by decide) (fun c11 => ?_) (fun c11 => ?_)
      · replace H := H.1 c11
        refine aw_iconst (v := 0) 70 dX10_known_69 rfl (by decide) ?_
        refine aw_iadd 71 dX10_known_70 rfl ?_
        refine aw_istore (loc' := [some (.ref a0), some (.int x1), some (.int x2), some (.int x3), some (.int x4), some (.int (x5 + 0)), some (.int x6), some (.int x7), some (.int (hI h1 (hR h a0 33) r1.toNatClampNeg))]) 73 dX10_known_71 rfl (by decide) rfl ?_
        refine aw_iinc (y := 1) (loc' := [some (.ref a0), some (.int x1), some (.int x2), some (.int x3), some (.int x4), some (.int (x5 + 0)), some (.int x6), some (.int (x7 + 1)), some (.int (hI h1 (hR h a0 33) r1.toNatClampNeg))]) 76 dX10_known_73 rfl (by decide) rfl (by decide) rfl ?_
        refine aw_goto 17 dX10_known_76 (by decide) ?_
        exact aw_fgt (by simp [leL]) H
      · replace H := H.2 c11
        refine aw_iconst (v := 1) 66 dX10_known_65 rfl (by decide) ?_
        refine aw_goto 70 dX10_known_66 (by decide) ?_
        refine aw_iadd 71 dX10_known_70 rfl ?_
        refine aw_istore (loc' := [some (.ref a0), some (.int x1), some (.int x2), some (.int x3), some (.int x4), some (.int (x5 + 1)), some (.int x6), some (.int x7), some (.int (hI h1 (hR h a0 33) r1.toNatClampNeg))]) 73 dX10_known_71 rfl (by decide) rfl ?_
        refine aw_iinc (y := 1) (loc' := [some (.ref a0), some (.int x1), some (.int x2), some (.int x3), some (.int x4), some (.int (x5 + 1)), some (.int x6), some (.int (x7 + 1)), some (.int (hI h1 (hR h a0 33) r1.toNatClampNeg))]) 76 dX10_known_73 rfl (by decide) rfl (by decide) rfl ?_
        refine aw_goto 17 dX10_known_76 (by decide) ?_
        exact aw_fgt (by simp [leL]) H
set_option maxHeartbeats 4000000 in
set_option maxRecDepth 100000 in
theorem sX10_price0_0 {w : Wd} {Q : Int32 → Hp → Prop} {h : Hp} {x0 : Int32} (H : ((¬ x0 = 0 → ((3 ≤ x0 → ((5 ≤ x0 → ((¬ x0 = 5 → Q 480 h) ∧ (x0 = 5 → Q 440 h))) ∧ (¬ 5 ≤ x0 → Q 230 h))) ∧ (¬ 3 ≤ x0 → Q 450 h))) ∧ (x0 = 0 → Q 0 h))) : AW w mX10_price0 0 0 (rI Q) 0 0 0 [some (.int x0)] [] h := by
  refine aw_iload_n 1 dX10_price0_0 rfl rfl ?_
  refine aw_if_ne 8 4 dX10_price0_1 rfl (by decide) (fun c1 => ?_) (fun c1 => ?_)
  · replace H := H.1 c1
    refine aw_iload_n 9 dX10_price0_8 rfl rfl ?_
    refine aw_iconst (v := 3) 10 dX10_price0_9 rfl (by decide) ?_
    refine aw_icmp_ge 19 13 dX10_price0_10 rfl (by decide) (fun c2 => ?_) (fun c2 => ?_)
    · replace H := H.1 c2
      refine aw_iload_n 20 dX10_price0_19 rfl rfl ?_
      refine aw_iconst (v := 5) 21 dX10_price0_20 rfl (by decide) ?_
      refine aw_icmp_ge 30 24 dX10_price0_21 rfl (by decide) (fun c3 => ?_) (fun c3 => ?_)
      · replace H := H.1 c3
        refine aw_iload_n 31 dX10_price0_30 rfl rfl ?_
        refine aw_iconst (v := 5) 32 dX10_price0_31 rfl (by decide) ?_
        refine aw_icmp_ne 41 35 dX10_price0_32 rfl (by decide) (fun c4 => ?_) (fun c4 => ?_)
        · replace H := H.1 c4
          refine aw_sipush (v := 480) 44 dX10_price0_41 rfl (by decide) ?_
          exact aw_ireturn dX10_price0_44 rfl (by decide) (by decide) ⟨_, rfl, H⟩
        · replace H := H.2 c4
          refine aw_sipush (v := 440) 38 dX10_price0_35 rfl (by decide) ?_
          refine aw_goto 44 dX10_price0_38 (by decide) ?_
          exact aw_ireturn dX10_price0_44 rfl (by decide) (by decide) ⟨_, rfl, H⟩
      · replace H := H.2 c3
        refine aw_sipush (v := 230) 27 dX10_price0_24 rfl (by decide) ?_
        refine aw_goto 44 dX10_price0_27 (by decide) ?_
        exact aw_ireturn dX10_price0_44 rfl (by decide) (by decide) ⟨_, rfl, H⟩
    · replace H := H.2 c2
      refine aw_sipush (v := 450) 16 dX10_price0_13 rfl (by decide) ?_
      refine aw_goto 44 dX10_price0_16 (by decide) ?_
      exact aw_ireturn dX10_price0_44 rfl (by decide) (by decide) ⟨_, rfl, H⟩
  · replace H := H.2 c1
    refine aw_iconst (v := 0) 5 dX10_price0_4 rfl (by decide) ?_
    refine aw_goto 44 dX10_price0_5 (by decide) ?_
    exact aw_ireturn dX10_price0_44 rfl (by decide) (by decide) ⟨_, rfl, H⟩
theorem eX10_price0 {w : Wd} {Q : Int32 → Hp → Prop} {h : Hp} {x0 : Int32} (H : AW w mX10_price0 0 0 (rI Q) 0 0 0 [some (.int x0)] [] h) : AC w mX10_price0 0 0 (rI Q) [.int x0] h := AC.ofL (by decide) (by simp [enl, Value.category]) (by simp [leL, enl, Value.category]) H
set_option maxHeartbeats 4000000 in
set_option maxRecDepth 100000 in
theorem sX10_priceOf_0 {w : Wd} {Q : Int32 → Hp → Prop} {h : Hp} {a0 : Nat} {x1 : Int32} {x2 : Int32} {x3 : Int32} (H : AC w mX10_price0 0 0 (rI fun r1 h1 => ((x1 = 1 → Q r1 h1) ∧ (¬ x1 = 1 → ((¬ x1 = 2 → ((¬ x1 = 6 → (hs h1 a0).1 = 30 ∧ hR h1 a0 34 ≠ 0 ∧ (hs h1 (hR h1 a0 34)).1 = 1 ∧ vp_in x2 (hs h1 (hR h1 a0 34)).2 ∧ AC w mX10_leftOf 0 0 (rI fun r2 h2 => ((¬ r2 = 2 → AW w mX10_priceOf 0 0 (rI Q) 0 0 127 [some (.ref a0), some (.int x1), some (.int x2), some (.int x3), some (.int r1), none, none, none] [.int 0, .int (hI h1 (hR h1 a0 34) x2.toNatClampNeg)] h2) ∧ (r2 = 2 → (hs h2 a0).1 = 30 ∧ hR h2 a0 34 ≠ 0 ∧ (hs h2 (hR h2 a0 34)).1 = 1 ∧ vp_in (x2 + 1) (hs h2 (hR h2 a0 34)).2 ∧ AW w mX10_priceOf 0 0 (rI Q) 0 0 127 [some (.ref a0), some (.int x1), some (.int x2), some (.int x3), some (.int r1), none, none, none] [.int (hI h2 (hR h2 a0 34) (x2 + 1).toNatClampNeg), .int (hI h1 (hR h1 a0 34) x2.toNatClampNeg)] h2))) [.int x1] h1) ∧ (x1 = 6 → (hs h1 a0).1 = 30 ∧ hR h1 a0 34 ≠ 0 ∧ (hs h1 (hR h1 a0 34)).1 = 1 ∧ vp_in x2 (hs h1 (hR h1 a0 34)).2 ∧ vp_in (21 + x3) (hs h1 (hR h1 a0 34)).2 ∧ AC w mX10_square 0 0 (rI fun r3 h3 => (hs h3 a0).1 = 30 ∧ hR h3 a0 34 ≠ 0 ∧ (hs h3 (hR h3 a0 34)).1 = 1 ∧ vp_in (x2 + 1) (hs h3 (hR h3 a0 34)).2 ∧ vp_in (20 + x3) (hs h3 (hR h3 a0 34)).2 ∧ AC w mX10_square 0 0 (rI fun r4 h4 => (hs h4 a0).1 = 30 ∧ AC w mX10_known 0 0 (rI fun r5 h5 => (hs h5 a0).1 = 30 ∧ AC w mX10_known 0 0 (rI fun r6 h6 => AW w mX10_priceOf 0 0 (rI Q) 0 0 194 [none, none, none, none, some (.int (r1 + (r3 + r4))), some (.int (r5 + r6)), none, none] [] h6) [.ref a0, .int (x2 + 1), .int 1, .int x3, .int 1] h5) [.ref a0, .int x2, .int 1, .int (x3 + 1), .int 1] h4) [.ref a0, .long ((hI h3 (hR h3 a0 34) (x2 + 1).toNatClampNeg).toInt64), .long ((hI h3 (hR h3 a0 34) (20 + x3).toNatClampNeg).toInt64)] h3) [.ref a0, .long ((hI h1 (hR h1 a0 34) x2.toNatClampNeg).toInt64), .long ((hI h1 (hR h1 a0 34) (21 + x3).toNatClampNeg).toInt64)] h1))) ∧ (x1 = 2 → Q r1 h1))))) [.int x1] h) : AW w mX10_priceOf 0 0 (rI Q) 0 0 0 [some (.ref a0), some (.int x1), some (.int x2), some (.int x3), none, none, none, none] [] h := by
  refine aw_iload_n 1 dX10_priceOf_0 rfl rfl ?_
  refine aw_callS (stk := []) [.int x1] 4 dX10_priceOf_1 rfl mv_X10_243 ⟨by decide, by decide⟩ rfl rfl (by simp [Value.category]) (by decide) H ?_
  rintro _ h1 ⟨r1, rfl, H⟩
  refine aw_istore (loc' := [some (.ref a0), some (.int x1), some (.int x2), some (.int x3), some (.int r1), none, none, none]) 6 dX10_priceOf_4 rfl (by decide) rfl ?_
  refine aw_iload_n 7 dX10_priceOf_6 rfl rfl ?_
  refine aw_iconst (v := 1) 8 dX10_priceOf_7 rfl (by decide) ?_
  refine aw_icmp_eq 16 11 dX10_priceOf_8 rfl (by decide) (fun c1 => ?_) (fun c1 => ?_)
  · replace H := H.1 c1
    refine aw_iload 18 dX10_priceOf_16 rfl rfl ?_
    exact aw_ireturn dX10_priceOf_18 rfl (by decide) (by decide) ⟨_, rfl, H⟩
  · replace H := H.2 c1
    refine aw_iload_n 12 dX10_priceOf_11 rfl rfl ?_
    refine aw_iconst (v := 2) 13 dX10_priceOf_12 rfl (by decide) ?_
    refine aw_icmp_ne 19 16 dX10_priceOf_13 rfl (by decide) (fun c2 => ?_) (fun c2 => ?_)
    · replace H := H.1 c2
      refine aw_iload_n 20 dX10_priceOf_19 rfl rfl ?_
      refine aw_bipush (v := 6) 22 dX10_priceOf_20 rfl (by decide) ?_
      refine aw_icmp_ne 101 25 dX10_priceOf_22 rfl (by decide) (fun c3 => ?_) (fun c3 => ?_)
      · replace H := H.1 c3
        refine aw_aload_n 102 dX10_priceOf_101 rfl rfl ?_
        obtain ⟨g4, H⟩ := H
        obtain ⟨g5, H⟩ := H
        refine aw_getR 105 dX10_priceOf_102 rfl fl_X10_76 ir_10_34 g4 rfl g5 ?_
        refine aw_iload_n 106 dX10_priceOf_105 rfl rfl ?_
        obtain ⟨g6, H⟩ := H
        obtain ⟨g7, H⟩ := H
        refine aw_iald 107 dX10_priceOf_106 rfl (Or.inl (shp g6)) g7 ?_
        refine aw_iload_n 108 dX10_priceOf_107 rfl rfl ?_
        refine aw_callS (stk := [.int (hI h1 (hR h1 a0 34) x2.toNatClampNeg)]) [.int x1] 111 dX10_priceOf_108 rfl mv_X10_254 ⟨by decide, by decide⟩ rfl rfl (by simp [Value.category]) (by decide) H ?_
        rintro _ h2 ⟨r2, rfl, H⟩
        refine aw_iconst (v := 2) 112 dX10_priceOf_111 rfl (by decide) ?_
        refine aw_icmp_ne 126 115 dX10_priceOf_112 rfl (by decide) (fun c8 => ?_) (fun c8 => ?_)
        · replace H := H.1 c8
          refine aw_iconst (v := 0) 127 dX10_priceOf_126 rfl (by decide) ?_
          exact H
        · replace H := H.2 c8
          refine aw_aload_n 116 dX10_priceOf_115 rfl rfl ?_
          obtain ⟨g9, H⟩ := H
          obtain ⟨g10, H⟩ := H
          refine aw_getR 119 dX10_priceOf_116 rfl fl_X10_76 ir_10_34 g9 rfl g10 ?_
          refine aw_iload_n 120 dX10_priceOf_119 rfl rfl ?_
          refine aw_iconst (v := 1) 121 dX10_priceOf_120 rfl (by decide) ?_
          refine aw_iadd 122 dX10_priceOf_121 rfl ?_
          obtain ⟨g11, H⟩ := H
          obtain ⟨g12, H⟩ := H
          refine aw_iald 123 dX10_priceOf_122 rfl (Or.inl (shp g11)) g12 ?_
          refine aw_goto 127 dX10_priceOf_123 (by decide) ?_
          exact H
      · replace H := H.2 c3
        refine aw_iload 27 dX10_priceOf_25 rfl rfl ?_
        refine aw_aload_n 28 dX10_priceOf_27 rfl rfl ?_
        refine aw_aload_n 29 dX10_priceOf_28 rfl rfl ?_
        obtain ⟨g13, H⟩ := H
        obtain ⟨g14, H⟩ := H
        refine aw_getR 32 dX10_priceOf_29 rfl fl_X10_76 ir_10_34 g13 rfl g14 ?_
        refine aw_iload_n 33 dX10_priceOf_32 rfl rfl ?_
        obtain ⟨g15, H⟩ := H
        obtain ⟨g16, H⟩ := H
        refine aw_iald 34 dX10_priceOf_33 rfl (Or.inl (shp g15)) g16 ?_
        refine aw_i2l 35 dX10_priceOf_34 rfl ?_
        refine aw_aload_n 36 dX10_priceOf_35 rfl rfl ?_
        refine aw_getR 39 dX10_priceOf_36 rfl fl_X10_76 ir_10_34 g13 rfl g14 ?_
        refine aw_bipush (v := 21) 41 dX10_priceOf_39 rfl (by decide) ?_
        refine aw_iload_n 42 dX10_priceOf_41 rfl rfl ?_
        refine aw_iadd 43 dX10_priceOf_42 rfl ?_
        obtain ⟨g17, H⟩ := H
        refine aw_iald 44 dX10_priceOf_43 rfl (Or.inl (shp g15)) g17 ?_
        refine aw_i2l 45 dX10_priceOf_44 rfl ?_
        refine aw_callV (stk := [.int r1]) (ci := 10) [.long ((hI h1 (hR h1 a0 34) x2.toNatClampNeg).toInt64), .long ((hI h1 (hR h1 a0 34) (21 + x3).toNatClampNeg).toInt64)] 48 dX10_priceOf_45 rfl mv_X10_246 ⟨by decide, by decide⟩ g13 (by intro r hr; cases hr; rfl) rfl rfl (by simp [Value.category]) (by decide) H ?_
        rintro _ h3 ⟨r3, rfl, H⟩
        refine aw_aload_n 49 dX10_priceOf_48 rfl rfl ?_
        refine aw_aload_n 50 dX10_priceOf_49 rfl rfl ?_
        obtain ⟨g18, H⟩ := H
        obtain ⟨g19, H⟩ := H
        refine aw_getR 53 dX10_priceOf_50 rfl fl_X10_76 ir_10_34 g18 rfl g19 ?_
        refine aw_iload_n 54 dX10_priceOf_53 rfl rfl ?_
        refine aw_iconst (v := 1) 55 dX10_priceOf_54 rfl (by decide) ?_
        refine aw_iadd 56 dX10_priceOf_55 rfl ?_
        obtain ⟨g20, H⟩ := H
        obtain ⟨g21, H⟩ := H
        refine aw_iald 57 dX10_priceOf_56 rfl (Or.inl (shp g20)) g21 ?_
        refine aw_i2l 58 dX10_priceOf_57 rfl ?_
        refine aw_aload_n 59 dX10_priceOf_58 rfl rfl ?_
        refine aw_getR 62 dX10_priceOf_59 rfl fl_X10_76 ir_10_34 g18 rfl g19 ?_
        refine aw_bipush (v := 20) 64 dX10_priceOf_62 rfl (by decide) ?_
        refine aw_iload_n 65 dX10_priceOf_64 rfl rfl ?_
        refine aw_iadd 66 dX10_priceOf_65 rfl ?_
        obtain ⟨g22, H⟩ := H
        refine aw_iald 67 dX10_priceOf_66 rfl (Or.inl (shp g20)) g22 ?_
        refine aw_i2l 68 dX10_priceOf_67 rfl ?_
        refine aw_callV (stk := [.int r3, .int r1]) (ci := 10) [.long ((hI h3 (hR h3 a0 34) (x2 + 1).toNatClampNeg).toInt64), .long ((hI h3 (hR h3 a0 34) (20 + x3).toNatClampNeg).toInt64)] 71 dX10_priceOf_68 rfl mv_X10_246 ⟨by decide, by decide⟩ g18 (by intro r hr; cases hr; rfl) rfl rfl (by simp [Value.category]) (by decide) H ?_
        rintro _ h4 ⟨r4, rfl, H⟩
        refine aw_iadd 72 dX10_priceOf_71 rfl ?_
        refine aw_iadd 73 dX10_priceOf_72 rfl ?_
        refine aw_istore (loc' := [some (.ref a0), some (.int x1), some (.int x2), some (.int x3), some (.int (r1 + (r3 + r4))), none, none, none]) 75 dX10_priceOf_73 rfl (by decide) rfl ?_
        refine aw_aload_n 76 dX10_priceOf_75 rfl rfl ?_
        refine aw_iload_n 77 dX10_priceOf_76 rfl rfl ?_
        refine aw_iconst (v := 1) 78 dX10_priceOf_77 rfl (by decide) ?_
        refine aw_iload_n 79 dX10_priceOf_78 rfl rfl ?_
        refine aw_iconst (v := 1) 80 dX10_priceOf_79 rfl (by decide) ?_
        refine aw_iadd 81 dX10_priceOf_80 rfl ?_
        refine aw_iconst (v := 1) 82 dX10_priceOf_81 rfl (by decide) ?_
        obtain ⟨g23, H⟩ := H
        refine aw_callV (stk := []) (ci := 10) [.int x2, .int 1, .int (x3 + 1), .int 1] 85 dX10_priceOf_82 rfl mv_X10_250 ⟨by decide, by decide⟩ g23 (by intro r hr; cases hr; rfl) rfl rfl (by simp [Value.category]) (by decide) H ?_
        rintro _ h5 ⟨r5, rfl, H⟩
        refine aw_aload_n 86 dX10_priceOf_85 rfl rfl ?_
        refine aw_iload_n 87 dX10_priceOf_86 rfl rfl ?_
        refine aw_iconst (v := 1) 88 dX10_priceOf_87 rfl (by decide) ?_
        refine aw_iadd 89 dX10_priceOf_88 rfl ?_
        refine aw_iconst (v := 1) 90 dX10_priceOf_89 rfl (by decide) ?_
        refine aw_iload_n 91 dX10_priceOf_90 rfl rfl ?_
        refine aw_iconst (v := 1) 92 dX10_priceOf_91 rfl (by decide) ?_
        obtain ⟨g24, H⟩ := H
        refine aw_callV (stk := [.int r5]) (ci := 10) [.int (x2 + 1), .int 1, .int x3, .int 1] 95 dX10_priceOf_92 rfl mv_X10_250 ⟨by decide, by decide⟩ g24 (by intro r hr; cases hr; rfl) rfl rfl (by simp [Value.category]) (by decide) H ?_
        rintro _ h6 ⟨r6, rfl, H⟩
        refine aw_iadd 96 dX10_priceOf_95 rfl ?_
        refine aw_istore (loc' := [some (.ref a0), some (.int x1), some (.int x2), some (.int x3), some (.int (r1 + (r3 + r4))), some (.int (r5 + r6)), none, none]) 98 dX10_priceOf_96 rfl (by decide) rfl ?_
        refine aw_goto 194 dX10_priceOf_98 (by decide) ?_
        exact aw_fgt (by simp [leL]) H
    · replace H := H.2 c2
      refine aw_iload 18 dX10_priceOf_16 rfl rfl ?_
      exact aw_ireturn dX10_priceOf_18 rfl (by decide) (by decide) ⟨_, rfl, H⟩
theorem eX10_priceOf {w : Wd} {Q : Int32 → Hp → Prop} {h : Hp} {a0 : Nat} {x1 : Int32} {x2 : Int32} {x3 : Int32} (H : AW w mX10_priceOf 0 0 (rI Q) 0 0 0 [some (.ref a0), some (.int x1), some (.int x2), some (.int x3), none, none, none, none] [] h) : AC w mX10_priceOf 0 0 (rI Q) [.ref a0, .int x1, .int x2, .int x3] h := AC.ofL (by decide) (by simp [enl, Value.category]) (by simp [leL, enl, Value.category]) H
set_option maxHeartbeats 4000000 in
set_option maxRecDepth 100000 in
theorem sX10_priceOf_127 {w : Wd} {Q : Int32 → Hp → Prop} {h : Hp} {a0 : Nat} {x1 : Int32} {x2 : Int32} {x3 : Int32} {x4 : Int32} {y0 : Int32} {y1 : Int32} (H : (hs h a0).1 = 30 ∧ hR h a0 34 ≠ 0 ∧ (hs h (hR h a0 34)).1 = 1 ∧ vp_in (20 + x3) (hs h (hR h a0 34)).2 ∧ AC w mX10_rightOf 0 0 (rI fun r1 h1 => ((¬ r1 = 2 → AW w mX10_priceOf 0 0 (rI Q) 0 0 160 [some (.ref a0), some (.int x1), some (.int x2), some (.int x3), some (.int x4), none, some (.int (y0 + y1)), none] [.int 0, .int (hI h (hR h a0 34) (20 + x3).toNatClampNeg)] h1) ∧ (r1 = 2 → (hs h1 a0).1 = 30 ∧ hR h1 a0 34 ≠ 0 ∧ (hs h1 (hR h1 a0 34)).1 = 1 ∧ vp_in (21 + x3) (hs h1 (hR h1 a0 34)).2 ∧ AW w mX10_priceOf 0 0 (rI Q) 0 0 160 [some (.ref a0), some (.int x1), some (.int x2), some (.int x3), some (.int x4), none, some (.int (y0 + y1)), none] [.int (hI h1 (hR h1 a0 34) (21 + x3).toNatClampNeg), .int (hI h (hR h a0 34) (20 + x3).toNatClampNeg)] h1))) [.int x1] h) : AW w mX10_priceOf 0 0 (rI Q) 0 0 127 [some (.ref a0), some (.int x1), some (.int x2), some (.int x3), some (.int x4), none, none, none] [.int y1, .int y0] h := by
  refine aw_iadd 128 dX10_priceOf_127 rfl ?_
  refine aw_istore (loc' := [some (.ref a0), some (.int x1), some (.int x2), some (.int x3), some (.int x4), none, some (.int (y0 + y1)), none]) 130 dX10_priceOf_128 rfl (by decide) rfl ?_
  refine aw_aload_n 131 dX10_priceOf_130 rfl rfl ?_
  obtain ⟨g1, H⟩ := H
  obtain ⟨g2, H⟩ := H
  refine aw_getR 134 dX10_priceOf_131 rfl fl_X10_76 ir_10_34 g1 rfl g2 ?_
  refine aw_bipush (v := 20) 136 dX10_priceOf_134 rfl (by decide) ?_
  refine aw_iload_n 137 dX10_priceOf_136 rfl rfl ?_
  refine aw_iadd 138 dX10_priceOf_137 rfl ?_
  obtain ⟨g3, H⟩ := H
  obtain ⟨g4, H⟩ := H
  refine aw_iald 139 dX10_priceOf_138 rfl (Or.inl (shp g3)) g4 ?_
  refine aw_iload_n 140 dX10_priceOf_139 rfl rfl ?_
  refine aw_callS (stk := [.int (hI h (hR h a0 34) (20 + x3).toNatClampNeg)]) [.int x1] 143 dX10_priceOf_140 rfl mv_X10_257 ⟨by decide, by decide⟩ rfl rfl (by simp [Value.category]) (by decide) H ?_
  rintro _ h1 ⟨r1, rfl, H⟩
  refine aw_iconst (v := 2) 144 dX10_priceOf_143 rfl (by decide) ?_
  refine aw_icmp_ne 159 147 dX10_priceOf_144 rfl (by decide) (fun c5 => ?_) (fun c5 => ?_)
  · replace H := H.1 c5
    refine aw_iconst (v := 0) 160 dX10_priceOf_159 rfl (by decide) ?_
    exact H
  · replace H := H.2 c5
    refine aw_aload_n 148 dX10_priceOf_147 rfl rfl ?_
    obtain ⟨g6, H⟩ := H
    obtain ⟨g7, H⟩ := H
    refine aw_getR 151 dX10_priceOf_148 rfl fl_X10_76 ir_10_34 g6 rfl g7 ?_
    refine aw_bipush (v := 21) 153 dX10_priceOf_151 rfl (by decide) ?_
    refine aw_iload_n 154 dX10_priceOf_153 rfl rfl ?_
    refine aw_iadd 155 dX10_priceOf_154 rfl ?_
    obtain ⟨g8, H⟩ := H
    obtain ⟨g9, H⟩ := H
    refine aw_iald 156 dX10_priceOf_155 rfl (Or.inl (shp g8)) g9 ?_
    refine aw_goto 160 dX10_priceOf_156 (by decide) ?_
    exact H
set_option maxHeartbeats 4000000 in
set_option maxRecDepth 100000 in
theorem sX10_priceOf_160 {w : Wd} {Q : Int32 → Hp → Prop} {h : Hp} {a0 : Nat} {x1 : Int32} {x2 : Int32} {x3 : Int32} {x4 : Int32} {x6 : Int32} {y0 : Int32} {y1 : Int32} (H : (hs h a0).1 = 30 ∧ AC w mX10_square 0 0 (rI fun r1 h1 => AC w mX10_leftOf 0 0 (rI fun r2 h2 => AC w mX10_rightOf 0 0 (rI fun r3 h3 => (hs h3 a0).1 = 30 ∧ AC w mX10_known 0 0 (rI fun r4 h4 => AW w mX10_priceOf 0 0 (rI Q) 0 0 194 [none, none, none, none, some (.int (x4 + r1)), some (.int r4), none, none] [] h4) [.ref a0, .int x2, .int r2, .int x3, .int r3] h3) [.int x1] h2) [.int x1] h1) [.ref a0, .long x6.toInt64, .long ((y0 + y1).toInt64)] h) : AW w mX10_priceOf 0 0 (rI Q) 0 0 160 [some (.ref a0), some (.int x1), some (.int x2), some (.int x3), some (.int x4), none, some (.int x6), none] [.int y1, .int y0] h := by
  refine aw_iadd 161 dX10_priceOf_160 rfl ?_
  refine aw_istore (loc' := [some (.ref a0), some (.int x1), some (.int x2), some (.int x3), some (.int x4), none, some (.int x6), some (.int (y0 + y1))]) 163 dX10_priceOf_161 rfl (by decide) rfl ?_
  refine aw_iload 165 dX10_priceOf_163 rfl rfl ?_
  refine aw_aload_n 166 dX10_priceOf_165 rfl rfl ?_
  refine aw_iload 168 dX10_priceOf_166 rfl rfl ?_
  refine aw_i2l 169 dX10_priceOf_168 rfl ?_
  refine aw_iload 171 dX10_priceOf_169 rfl rfl ?_
  refine aw_i2l 172 dX10_priceOf_171 rfl ?_
  obtain ⟨g1, H⟩ := H
  refine aw_callV (stk := [.int x4]) (ci := 10) [.long x6.toInt64, .long ((y0 + y1).toInt64)] 175 dX10_priceOf_172 rfl mv_X10_246 ⟨by decide, by decide⟩ g1 (by intro r hr; cases hr; rfl) rfl rfl (by simp [Value.category]) (by decide) H ?_
  rintro _ h1 ⟨r1, rfl, H⟩
  refine aw_iadd 176 dX10_priceOf_175 rfl ?_
  refine aw_istore (loc' := [some (.ref a0), some (.int x1), some (.int x2), some (.int x3), some (.int (x4 + r1)), none, some (.int x6), some (.int (y0 + y1))]) 178 dX10_priceOf_176 rfl (by decide) rfl ?_
  refine aw_aload_n 179 dX10_priceOf_178 rfl rfl ?_
  refine aw_iload_n 180 dX10_priceOf_179 rfl rfl ?_
  refine aw_iload_n 181 dX10_priceOf_180 rfl rfl ?_
  refine aw_callS (stk := [.int x2, .ref a0]) [.int x1] 184 dX10_priceOf_181 rfl mv_X10_254 ⟨by decide, by decide⟩ rfl rfl (by simp [Value.category]) (by decide) H ?_
  rintro _ h2 ⟨r2, rfl, H⟩
  refine aw_iload_n 185 dX10_priceOf_184 rfl rfl ?_
  refine aw_iload_n 186 dX10_priceOf_185 rfl rfl ?_
  refine aw_callS (stk := [.int x3, .int r2, .int x2, .ref a0]) [.int x1] 189 dX10_priceOf_186 rfl mv_X10_257 ⟨by decide, by decide⟩ rfl rfl (by simp [Value.category]) (by decide) H ?_
  rintro _ h3 ⟨r3, rfl, H⟩
  obtain ⟨g2, H⟩ := H
  refine aw_callV (stk := []) (ci := 10) [.int x2, .int r2, .int x3, .int r3] 192 dX10_priceOf_189 rfl mv_X10_250 ⟨by decide, by decide⟩ g2 (by intro r hr; cases hr; rfl) rfl rfl (by simp [Value.category]) (by decide) H ?_
  rintro _ h4 ⟨r4, rfl, H⟩
  refine aw_istore (loc' := [some (.ref a0), some (.int x1), some (.int x2), some (.int x3), some (.int (x4 + r1)), some (.int r4), some (.int x6), some (.int (y0 + y1))]) 194 dX10_priceOf_192 rfl (by decide) rfl ?_
  exact aw_fgt (by simp [leL]) H
set_option maxHeartbeats 4000000 in
set_option maxRecDepth 100000 in
theorem sX10_priceOf_194 {w : Wd} {Q : Int32 → Hp → Prop} {h : Hp} {x4 : Int32} {x5 : Int32} (H : ((6 ≤ x5 → Q (x4 - (15 * 6)) h) ∧ (¬ 6 ≤ x5 → Q (x4 - (15 * x5)) h))) : AW w mX10_priceOf 0 0 (rI Q) 0 0 194 [none, none, none, none, some (.int x4), some (.int x5), none, none] [] h := by
  refine aw_iload 196 dX10_priceOf_194 rfl rfl ?_
  refine aw_bipush (v := 15) 198 dX10_priceOf_196 rfl (by decide) ?_
  refine aw_iload 200 dX10_priceOf_198 rfl rfl ?_
  refine aw_bipush (v := 6) 202 dX10_priceOf_200 rfl (by decide) ?_
  refine aw_icmp_ge 210 205 dX10_priceOf_202 rfl (by decide) (fun c1 => ?_) (fun c1 => ?_)
  · replace H := H.1 c1
    refine aw_bipush (v := 6) 212 dX10_priceOf_210 rfl (by decide) ?_
    refine aw_imul 213 dX10_priceOf_212 rfl ?_
    refine aw_isub 214 dX10_priceOf_213 rfl ?_
    exact aw_ireturn dX10_priceOf_214 rfl (by decide) (by decide) ⟨_, rfl, H⟩
  · replace H := H.2 c1
    refine aw_iload 207 dX10_priceOf_205 rfl rfl ?_
    refine aw_goto 212 dX10_priceOf_207 (by decide) ?_
    refine aw_imul 213 dX10_priceOf_212 rfl ?_
    refine aw_isub 214 dX10_priceOf_213 rfl ?_
    exact aw_ireturn dX10_priceOf_214 rfl (by decide) (by decide) ⟨_, rfl, H⟩
set_option maxHeartbeats 4000000 in
set_option maxRecDepth 100000 in
theorem sX10_isFastKept_0 {w : Wd} {Q : Int32 → Hp → Prop} {h : Hp} {a0 : Nat} {x1 : Int32} {x2 : Int32} {x3 : Int32} (H : AW w mX10_isFastKept 0 0 (rI Q) 0 0 6 [some (.ref a0), some (.int x1), some (.int x2), some (.int x3), some (.int 1), some (.int x2), none] [] h) : AW w mX10_isFastKept 0 0 (rI Q) 0 0 0 [some (.ref a0), some (.int x1), some (.int x2), some (.int x3), none, none, none] [] h := by
  refine aw_iconst (v := 1) 1 dX10_isFastKept_0 rfl (by decide) ?_
  refine aw_istore (loc' := [some (.ref a0), some (.int x1), some (.int x2), some (.int x3), some (.int 1), none, none]) 3 dX10_isFastKept_1 rfl (by decide) rfl ?_
  refine aw_iload_n 4 dX10_isFastKept_3 rfl rfl ?_
  refine aw_istore (loc' := [some (.ref a0), some (.int x1), some (.int x2), some (.int x3), some (.int 1), some (.int x2), none]) 6 dX10_isFastKept_4 rfl (by decide) rfl ?_
  exact H
theorem eX10_isFastKept {w : Wd} {Q : Int32 → Hp → Prop} {h : Hp} {a0 : Nat} {x1 : Int32} {x2 : Int32} {x3 : Int32} (H : AW w mX10_isFastKept 0 0 (rI Q) 0 0 0 [some (.ref a0), some (.int x1), some (.int x2), some (.int x3), none, none, none] [] h) : AC w mX10_isFastKept 0 0 (rI Q) [.ref a0, .int x1, .int x2, .int x3] h := AC.ofL (by decide) (by simp [enl, Value.category]) (by simp [leL, enl, Value.category]) H
set_option maxHeartbeats 4000000 in
set_option maxRecDepth 100000 in
theorem sX10_isFastKept_6 {w : Wd} {Q : Int32 → Hp → Prop} {h : Hp} {a0 : Nat} {x1 : Int32} {x2 : Int32} {x3 : Int32} {x4 : Int32} {x5 : Int32} (H : AC w mX10_leftOf 0 0 (rI fun r1 h1 => (((x2 + r1) ≤ x5 → AW w mX10_isFastKept 0 0 (rI Q) 0 0 91 [some (.ref a0), some (.int x1), some (.int x2), some (.int x3), some (.int x4), some (.int x3), none] [] h1) ∧ (¬ (x2 + r1) ≤ x5 → ((x4 = 0 → AW w mX10_isFastKept 0 0 (rI Q) 0 0 91 [some (.ref a0), some (.int x1), some (.int x2), some (.int x3), some (.int x4), some (.int x3), none] [] h1) ∧ (¬ x4 = 0 → (hs h1 a0).1 = 30 ∧ hR h1 a0 13 ≠ 0 ∧ (hs h1 (hR h1 a0 13)).1 = 1 ∧ vp_in x5 (hs h1 (hR h1 a0 13)).2 ∧ (((hI h1 (hR h1 a0 13) x5.toNatClampNeg) < 0 → AW w mX10_isFastKept 0 0 (rI Q) 0 0 6 [some (.ref a0), some (.int x1), some (.int x2), some (.int x3), some (.int 1), some (.int (x5 + 1)), none] [] h1) ∧ (¬ (hI h1 (hR h1 a0 13) x5.toNatClampNeg) < 0 → ((¬ x1 = 6 → (((hI h1 (hR h1 a0 13) x5.toNatClampNeg) < x3 → AW w mX10_isFastKept 0 0 (rI Q) 0 0 6 [some (.ref a0), some (.int x1), some (.int x2), some (.int x3), some (.int 0), some (.int (x5 + 1)), none] [] h1) ∧ (¬ (hI h1 (hR h1 a0 13) x5.toNatClampNeg) < x3 → AC w mX10_rightOf 0 0 (rI fun r2 h2 => (((x3 + r2) ≤ (hI h1 (hR h1 a0 13) x5.toNatClampNeg) → AW w mX10_isFastKept 0 0 (rI Q) 0 0 6 [some (.ref a0), some (.int x1), some (.int x2), some (.int x3), some (.int 0), some (.int (x5 + 1)), none] [] h2) ∧ (¬ (x3 + r2) ≤ (hI h1 (hR h1 a0 13) x5.toNatClampNeg) → AW w mX10_isFastKept 0 0 (rI Q) 0 0 6 [some (.ref a0), some (.int x1), some (.int x2), some (.int x3), some (.int 1), some (.int (x5 + 1)), none] [] h2))) [.int x1] h1))) ∧ (x1 = 6 → ((¬ (hI h1 (hR h1 a0 13) x5.toNatClampNeg) = ((x3 + 1) - (x5 - x2)) → AW w mX10_isFastKept 0 0 (rI Q) 0 0 6 [some (.ref a0), some (.int x1), some (.int x2), some (.int x3), some (.int 0), some (.int (x5 + 1)), none] [] h1) ∧ ((hI h1 (hR h1 a0 13) x5.toNatClampNeg) = ((x3 + 1) - (x5 - x2)) → AW w mX10_isFastKept 0 0 (rI Q) 0 0 6 [some (.ref a0), some (.int x1), some (.int x2), some (.int x3), some (.int 1), some (.int (x5 + 1)), none] [] h1))))))))))) [.int x1] h) : AW w mX10_isFastKept 0 0 (rI Q) 0 0 6 [some (.ref a0), some (.int x1), some (.int x2), some (.int x3), some (.int x4), some (.int x5), none] [] h := by
  refine aw_iload 8 dX10_isFastKept_6 rfl rfl ?_
  refine aw_iload_n 9 dX10_isFastKept_8 rfl rfl ?_
  refine aw_iload_n 10 dX10_isFastKept_9 rfl rfl ?_
  refine aw_callS (stk := [.int x2, .int x5]) [.int x1] 13 dX10_isFastKept_10 rfl mv_X10_254 ⟨by decide, by decide⟩ rfl rfl (by simp [Value.category]) (by decide) H ?_
  rintro _ h1 ⟨r1, rfl, H⟩
  refine aw_iadd 14 dX10_isFastKept_13 rfl ?_
  refine aw_icmp_ge 88 17 dX10_isFastKept_14 rfl (by decide) (fun c1 => ?_) (fun c1 => ?_)
  · replace H := H.1 c1
    refine aw_iload_n 89 dX10_isFastKept_88 rfl rfl ?_
    refine aw_istore (loc' := [some (.ref a0), some (.int x1), some (.int x2), some (.int x3), some (.int x4), some (.int x3), none]) 91 dX10_isFastKept_89 rfl (by decide) rfl ?_
    exact H
  · replace H := H.2 c1
    refine aw_iload 19 dX10_isFastKept_17 rfl rfl ?_
    refine aw_if_eq 88 22 dX10_isFastKept_19 rfl (by decide) (fun c2 => ?_) (fun c2 => ?_)
    · replace H := H.1 c2
      refine aw_iload_n 89 dX10_isFastKept_88 rfl rfl ?_
      refine aw_istore (loc' := [some (.ref a0), some (.int x1), some (.int x2), some (.int x3), some (.int x4), some (.int x3), none]) 91 dX10_isFastKept_89 rfl (by decide) rfl ?_
      exact H
    · replace H := H.2 c2
      refine aw_aload_n 23 dX10_isFastKept_22 rfl rfl ?_
      obtain ⟨g3, H⟩ := H
      obtain ⟨g4, H⟩ := H
      refine aw_getR 26 dX10_isFastKept_23 rfl fl_X10_43 ir_10_13 g3 rfl g4 ?_
      refine aw_iload 28 dX10_isFastKept_26 rfl rfl ?_
      obtain ⟨g5, H⟩ := H
      obtain ⟨g6, H⟩ := H
      refine aw_iald 29 dX10_isFastKept_28 rfl (Or.inl (shp g5)) g6 ?_
      refine aw_istore (loc' := [some (.ref a0), some (.int x1), some (.int x2), some (.int x3), some (.int x4), some (.int x5), some (.int (hI h1 (hR h1 a0 13) x5.toNatClampNeg))]) 31 dX10_isFastKept_29 rfl (by decide) rfl ?_
      refine aw_iload 33 dX10_isFastKept_31 rfl rfl ?_
      refine aw_if_lt 75 36 dX10_isFastKept_33 rfl (by decide) (fun c7 => ?_) (fun c7 => ?_)
      · replace H := H.1 c7
        refine aw_iconst (v := 1) 76 dX10_isFastKept_75 rfl (by decide) ?_
        refine aw_goto 80 dX10_isFastKept_76 (by decide) ?_
        refine aw_istore (loc' := [some (.ref a0), some (.int x1), some (.int x2), some (.int x3), some (.int 1), some (.int x5), some (.int (hI h1 (hR h1 a0 13) x5.toNatClampNeg))]) 82 dX10_isFastKept_80 rfl (by decide) rfl ?_
        refine aw_iinc (y := 1) (loc' := [some (.ref a0), some (.int x1), some (.int x2), some (.int x3), some (.int 1), some (.int (x5 + 1)), some (.int (hI h1 (hR h1 a0 13) x5.toNatClampNeg))]) 85 dX10_isFastKept_82 rfl (by decide) rfl (by decide) rfl ?_
        refine aw_goto 6 dX10_isFastKept_85 (by decide) ?_
        exact aw_fgt (by simp [leL]) H
      · replace H := H.2 c7
        refine aw_iload_n 37 dX10_isFastKept_36 rfl rfl ?_
        refine aw_bipush (v := 6) 39 dX10_isFastKept_37 rfl (by decide) ?_
        refine aw_icmp_ne 58 42 dX10_isFastKept_39 rfl (by decide) (fun c8 => ?_) (fun c8 => ?_)
        · replace H := H.1 c8
          refine aw_iload 60 dX10_isFastKept_58 rfl rfl ?_
          refine aw_iload_n 61 dX10_isFastKept_60 rfl rfl ?_
          refine aw_icmp_lt 79 64 dX10_isFastKept_61 rfl (by decide) (fun c9 => ?_) (fun c9 => ?_)
          · replace H := H.1 c9
            refine aw_iconst (v := 0) 80 dX10_isFastKept_79 rfl (by decide) ?_
            refine aw_istore (loc' := [some (.ref a0), some (.int x1), some (.int x2), some (.int x3), some (.int 0), some (.int x5), some (.int (hI h1 (hR h1 a0 13) x5.toNatClampNeg))]) 82 dX10_isFastKept_80 rfl (by decide) rfl ?_
            refine aw_iinc (y := 1) (loc' := [some (.ref a0), some (.int x1), some (.int x2), some (.int x3), some (.int 0), some (.int (x5 + 1)), some (.int (hI h1 (hR h1 a0 13) x5.toNatClampNeg))]) 85 dX10_isFastKept_82 rfl (by decide) rfl (by decide) rfl ?_
            refine aw_goto 6 dX10_isFastKept_85 (by decide) ?_
            exact aw_fgt (by simp [leL]) H
          · replace H := H.2 c9
            refine aw_iload 66 dX10_isFastKept_64 rfl rfl ?_
            refine aw_iload_n 67 dX10_isFastKept_66 rfl rfl ?_
            refine aw_iload_n 68 dX10_isFastKept_67 rfl rfl ?_
            refine aw_callS (stk := [.int x3, .int (hI h1 (hR h1 a0 13) x5.toNatClampNeg)]) [.int x1] 71 dX10_isFastKept_68 rfl mv_X10_257 ⟨by decide, by decide⟩ rfl rfl (by simp [Value.category]) (by decide) H ?_
            rintro _ h2 ⟨r2, rfl, H⟩
            refine aw_iadd 72 dX10_isFastKept_71 rfl ?_
            refine aw_icmp_ge 79 75 dX10_isFastKept_72 rfl (by decide) (fun c10 => ?_) (fun c10 => ?_)
            · replace H := H.1 c10
              refine aw_iconst (v := 0) 80 dX10_isFastKept_79 rfl (by decide) ?_
              refine aw_istore (loc' := [some (.ref a0), some (.int x1), some (.int x2), some (.int x3), some (.int 0), some (.int x5), some (.int (hI h1 (hR h1 a0 13) x5.toNatClampNeg))]) 82 dX10_isFastKept_80 rfl (by decide) rfl ?_
              refine aw_iinc (y := 1) (loc' := [some (.ref a0), some (.int x1), some (.int x2), some (.int x3), some (.int 0), some (.int (x5 + 1)), some (.int (hI h1 (hR h1 a0 13) x5.toNatClampNeg))]) 85 dX10_isFastKept_82 rfl (by decide) rfl (by decide) rfl ?_
              refine aw_goto 6 dX10_isFastKept_85 (by decide) ?_
              exact aw_fgt (by simp [leL]) H
            · replace H := H.2 c10
              refine aw_iconst (v := 1) 76 dX10_isFastKept_75 rfl (by decide) ?_
              refine aw_goto 80 dX10_isFastKept_76 (by decide) ?_
              refine aw_istore (loc' := [some (.ref a0), some (.int x1), some (.int x2), some (.int x3), some (.int 1), some (.int x5), some (.int (hI h1 (hR h1 a0 13) x5.toNatClampNeg))]) 82 dX10_isFastKept_80 rfl (by decide) rfl ?_
              refine aw_iinc (y := 1) (loc' := [some (.ref a0), some (.int x1), some (.int x2), some (.int x3), some (.int 1), some (.int (x5 + 1)), some (.int (hI h1 (hR h1 a0 13) x5.toNatClampNeg))]) 85 dX10_isFastKept_82 rfl (by decide) rfl (by decide) rfl ?_
              refine aw_goto 6 dX10_isFastKept_85 (by decide) ?_
              exact aw_fgt (by simp [leL]) H
        · replace H := H.2 c8
          refine aw_iload 44 dX10_isFastKept_42 rfl rfl ?_
          refine aw_iload_n 45 dX10_isFastKept_44 rfl rfl ?_
          refine aw_iconst (v := 1) 46 dX10_isFastKept_45 rfl (by decide) ?_
          refine aw_iadd 47 dX10_isFastKept_46 rfl ?_
          refine aw_iload 49 dX10_isFastKept_47 rfl rfl ?_
          refine aw_iload_n 50 dX10_isFastKept_49 rfl rfl ?_
          refine aw_isub 51 dX10_isFastKept_50 rfl ?_
          refine aw_isub 52 dX10_isFastKept_51 rfl ?_
          refine aw_icmp_ne 79 55 dX10_isFastKept_52 rfl (by decide) (fun c11 => ?_) (fun c11 => ?_)
          · replace H := H.1 c11
            refine aw_iconst (v := 0) 80 dX10_isFastKept_79 rfl (by decide) ?_
            refine aw_istore (loc' := [some (.ref a0), some (.int x1), some (.int x2), some (.int x3), some (.int 0), some (.int x5), some (.int (hI h1 (hR h1 a0 13) x5.toNatClampNeg))]) 82 dX10_isFastKept_80 rfl (by decide) rfl ?_
            refine aw_iinc (y := 1) (loc' := [some (.ref a0), some (.int x1), some (.int x2), some (.int x3), some (.int 0), some (.int (x5 + 1)), some (.int (hI h1 (hR h1 a0 13) x5.toNatClampNeg))]) 85 dX10_isFastKept_82 rfl (by decide) rfl (by decide) rfl ?_
            refine aw_goto 6 dX10_isFastKept_85 (by decide) ?_
            exact aw_fgt (by simp [leL]) H
          · replace H := H.2 c11
            refine aw_goto 75 dX10_isFastKept_55 (by decide) ?_
            refine aw_iconst (v := 1) 76 dX10_isFastKept_75 rfl (by decide) ?_
            refine aw_goto 80 dX10_isFastKept_76 (by decide) ?_
            refine aw_istore (loc' := [some (.ref a0), some (.int x1), some (.int x2), some (.int x3), some (.int 1), some (.int x5), some (.int (hI h1 (hR h1 a0 13) x5.toNatClampNeg))]) 82 dX10_isFastKept_80 rfl (by decide) rfl ?_
            refine aw_iinc (y := 1) (loc' := [some (.ref a0), some (.int x1), some (.int x2), some (.int x3), some (.int 1), some (.int (x5 + 1)), some (.int (hI h1 (hR h1 a0 13) x5.toNatClampNeg))]) 85 dX10_isFastKept_82 rfl (by decide) rfl (by decide) rfl ?_
            refine aw_goto 6 dX10_isFastKept_85 (by decide) ?_
            exact aw_fgt (by simp [leL]) H
set_option maxHeartbeats 4000000 in
set_option maxRecDepth 100000 in
theorem sX10_isFastKept_91 {w : Wd} {Q : Int32 → Hp → Prop} {h : Hp} {a0 : Nat} {x1 : Int32} {x2 : Int32} {x3 : Int32} {x4 : Int32} {x5 : Int32} (H : AC w mX10_rightOf 0 0 (rI fun r1 h1 => (((x3 + r1) ≤ x5 → (x4 = 0 ∨ x4 = 1) ∧ Q x4 h1) ∧ (¬ (x3 + r1) ≤ x5 → ((x4 = 0 → (x4 = 0 ∨ x4 = 1) ∧ Q x4 h1) ∧ (¬ x4 = 0 → (hs h1 a0).1 = 30 ∧ hR h1 a0 14 ≠ 0 ∧ (hs h1 (hR h1 a0 14)).1 = 1 ∧ vp_in x5 (hs h1 (hR h1 a0 14)).2 ∧ (((hI h1 (hR h1 a0 14) x5.toNatClampNeg) < 0 → AW w mX10_isFastKept 0 0 (rI Q) 0 0 91 [some (.ref a0), some (.int x1), some (.int x2), some (.int x3), some (.int 1), some (.int (x5 + 1)), none] [] h1) ∧ (¬ (hI h1 (hR h1 a0 14) x5.toNatClampNeg) < 0 → ((¬ x1 = 6 → (((hI h1 (hR h1 a0 14) x5.toNatClampNeg) < x2 → AW w mX10_isFastKept 0 0 (rI Q) 0 0 91 [some (.ref a0), some (.int x1), some (.int x2), some (.int x3), some (.int 0), some (.int (x5 + 1)), none] [] h1) ∧ (¬ (hI h1 (hR h1 a0 14) x5.toNatClampNeg) < x2 → AC w mX10_leftOf 0 0 (rI fun r2 h2 => (((x2 + r2) ≤ (hI h1 (hR h1 a0 14) x5.toNatClampNeg) → AW w mX10_isFastKept 0 0 (rI Q) 0 0 91 [some (.ref a0), some (.int x1), some (.int x2), some (.int x3), some (.int 0), some (.int (x5 + 1)), none] [] h2) ∧ (¬ (x2 + r2) ≤ (hI h1 (hR h1 a0 14) x5.toNatClampNeg) → AW w mX10_isFastKept 0 0 (rI Q) 0 0 91 [some (.ref a0), some (.int x1), some (.int x2), some (.int x3), some (.int 1), some (.int (x5 + 1)), none] [] h2))) [.int x1] h1))) ∧ (x1 = 6 → ((¬ (hI h1 (hR h1 a0 14) x5.toNatClampNeg) = ((x2 + 1) - (x5 - x3)) → AW w mX10_isFastKept 0 0 (rI Q) 0 0 91 [some (.ref a0), some (.int x1), some (.int x2), some (.int x3), some (.int 0), some (.int (x5 + 1)), none] [] h1) ∧ ((hI h1 (hR h1 a0 14) x5.toNatClampNeg) = ((x2 + 1) - (x5 - x3)) → AW w mX10_isFastKept 0 0 (rI Q) 0 0 91 [some (.ref a0), some (.int x1), some (.int x2), some (.int x3), some (.int 1), some (.int (x5 + 1)), none] [] h1))))))))))) [.int x1] h) : AW w mX10_isFastKept 0 0 (rI Q) 0 0 91 [some (.ref a0), some (.int x1), some (.int x2), some (.int x3), some (.int x4), some (.int x5), none] [] h := by
  refine aw_iload 93 dX10_isFastKept_91 rfl rfl ?_
  refine aw_iload_n 94 dX10_isFastKept_93 rfl rfl ?_
  refine aw_iload_n 95 dX10_isFastKept_94 rfl rfl ?_
  refine aw_callS (stk := [.int x3, .int x5]) [.int x1] 98 dX10_isFastKept_95 rfl mv_X10_257 ⟨by decide, by decide⟩ rfl rfl (by simp [Value.category]) (by decide) H ?_
  rintro _ h1 ⟨r1, rfl, H⟩
  refine aw_iadd 99 dX10_isFastKept_98 rfl ?_
  refine aw_icmp_ge 173 102 dX10_isFastKept_99 rfl (by decide) (fun c1 => ?_) (fun c1 => ?_)
  · replace H := H.1 c1
    refine aw_iload 175 dX10_isFastKept_173 rfl rfl ?_
    obtain ⟨g2, H⟩ := H
    exact aw_zreturn dX10_isFastKept_175 rfl g2 (by decide) (by decide) ⟨_, rfl, H⟩
  · replace H := H.2 c1
    refine aw_iload 104 dX10_isFastKept_102 rfl rfl ?_
    refine aw_if_eq 173 107 dX10_isFastKept_104 rfl (by decide) (fun c3 => ?_) (fun c3 => ?_)
    · replace H := H.1 c3
      refine aw_iload 175 dX10_isFastKept_173 rfl rfl ?_
      obtain ⟨g4, H⟩ := H
      exact aw_zreturn dX10_isFastKept_175 rfl g4 (by decide) (by decide) ⟨_, rfl, H⟩
    · replace H := H.2 c3
      refine aw_aload_n 108 dX10_isFastKept_107 rfl rfl ?_
      obtain ⟨g5, H⟩ := H
      obtain ⟨g6, H⟩ := H
      refine aw_getR 111 dX10_isFastKept_108 rfl fl_X10_46 ir_10_14 g5 rfl g6 ?_
      refine aw_iload 113 dX10_isFastKept_111 rfl rfl ?_
      obtain ⟨g7, H⟩ := H
      obtain ⟨g8, H⟩ := H
      refine aw_iald 114 dX10_isFastKept_113 rfl (Or.inl (shp g7)) g8 ?_
      refine aw_istore (loc' := [some (.ref a0), some (.int x1), some (.int x2), some (.int x3), some (.int x4), some (.int x5), some (.int (hI h1 (hR h1 a0 14) x5.toNatClampNeg))]) 116 dX10_isFastKept_114 rfl (by decide) rfl ?_
      refine aw_iload 118 dX10_isFastKept_116 rfl rfl ?_
      refine aw_if_lt 160 121 dX10_isFastKept_118 rfl (by decide) (fun c9 => ?_) (fun c9 => ?_)
      · replace H := H.1 c9
        refine aw_iconst (v := 1) 161 dX10_isFastKept_160 rfl (by decide) ?_
        refine aw_goto 165 dX10_isFastKept_161 (by decide) ?_
        refine aw_istore (loc' := [some (.ref a0), some (.int x1), some (.int x2), some (.int x3), some (.int 1), some (.int x5), some (.int (hI h1 (hR h1 a0 14) x5.toNatClampNeg))]) 167 dX10_isFastKept_165 rfl (by decide) rfl ?_
        refine aw_iinc (y := 1) (loc' := [some (.ref a0), some (.int x1), some (.int x2), some (.int x3), some (.int 1), some (.int (x5 + 1)), some (.int (hI h1 (hR h1 a0 14) x5.toNatClampNeg))]) 170 dX10_isFastKept_167 rfl (by decide) rfl (by decide) rfl ?_
        refine aw_goto 91 dX10_isFastKept_170 (by decide) ?_
        exact aw_fgt (by simp [leL]) H
      · replace H := H.2 c9
        refine aw_iload_n 122 dX10_isFastKept_121 rfl rfl ?_
        refine aw_bipush (v := 6) 124 dX10_isFastKept_122 rfl (by decide) ?_
        refine aw_icmp_ne 143 127 dX10_isFastKept_124 rfl (by decide) (fun c10 => ?_) (fun c10 => ?_)
        · replace H := H.1 c10
          refine aw_iload 145 dX10_isFastKept_143 rfl rfl ?_
          refine aw_iload_n 146 dX10_isFastKept_145 rfl rfl ?_
          refine aw_icmp_lt 164 149 dX10_isFastKept_146 rfl (by decide) (fun c11 => ?_) (fun c11 => ?_)
          · replace H := H.1 c11
            refine aw_iconst (v := 0) 165 dX10_isFastKept_164 rfl (by decide) ?_
            refine aw_istore (loc' := [some (.ref a0), some (.int x1), some (.int x2), some (.int x3), some (.int 0), some (.int x5), some (.int (hI h1 (hR h1 a0 14) x5.toNatClampNeg))]) 167 dX10_isFastKept_165 rfl (by decide) rfl ?_
            refine aw_iinc (y := 1) (loc' := [some (.ref a0), some (.int x1), some (.int x2), some (.int x3), some (.int 0), some (.int (x5 + 1)), some (.int (hI h1 (hR h1 a0 14) x5.toNatClampNeg))]) 170 dX10_isFastKept_167 rfl (by decide) rfl (by decide) rfl ?_
            refine aw_goto 91 dX10_isFastKept_170 (by decide) ?_
            exact aw_fgt (by simp [leL]) H
          · replace H := H.2 c11
            refine aw_iload 151 dX10_isFastKept_149 rfl rfl ?_
            refine aw_iload_n 152 dX10_isFastKept_151 rfl rfl ?_
            refine aw_iload_n 153 dX10_isFastKept_152 rfl rfl ?_
            refine aw_callS (stk := [.int x2, .int (hI h1 (hR h1 a0 14) x5.toNatClampNeg)]) [.int x1] 156 dX10_isFastKept_153 rfl mv_X10_254 ⟨by decide, by decide⟩ rfl rfl (by simp [Value.category]) (by decide) H ?_
            rintro _ h2 ⟨r2, rfl, H⟩
            refine aw_iadd 157 dX10_isFastKept_156 rfl ?_
            refine aw_icmp_ge 164 160 dX10_isFastKept_157 rfl (by decide) (fun c12 => ?_) (fun c12 => ?_)
            · replace H := H.1 c12
              refine aw_iconst (v := 0) 165 dX10_isFastKept_164 rfl (by decide) ?_
              refine aw_istore (loc' := [some (.ref a0), some (.int x1), some (.int x2), some (.int x3), some (.int 0), some (.int x5), some (.int (hI h1 (hR h1 a0 14) x5.toNatClampNeg))]) 167 dX10_isFastKept_165 rfl (by decide) rfl ?_
              refine aw_iinc (y := 1) (loc' := [some (.ref a0), some (.int x1), some (.int x2), some (.int x3), some (.int 0), some (.int (x5 + 1)), some (.int (hI h1 (hR h1 a0 14) x5.toNatClampNeg))]) 170 dX10_isFastKept_167 rfl (by decide) rfl (by decide) rfl ?_
              refine aw_goto 91 dX10_isFastKept_170 (by decide) ?_
              exact aw_fgt (by simp [leL]) H
            · replace H := H.2 c12
              refine aw_iconst (v := 1) 161 dX10_isFastKept_160 rfl (by decide) ?_
              refine aw_goto 165 dX10_isFastKept_161 (by decide) ?_
              refine aw_istore (loc' := [some (.ref a0), some (.int x1), some (.int x2), some (.int x3), some (.int 1), some (.int x5), some (.int (hI h1 (hR h1 a0 14) x5.toNatClampNeg))]) 167 dX10_isFastKept_165 rfl (by decide) rfl ?_
              refine aw_iinc (y := 1) (loc' := [some (.ref a0), some (.int x1), some (.int x2), some (.int x3), some (.int 1), some (.int (x5 + 1)), some (.int (hI h1 (hR h1 a0 14) x5.toNatClampNeg))]) 170 dX10_isFastKept_167 rfl (by decide) rfl (by decide) rfl ?_
              refine aw_goto 91 dX10_isFastKept_170 (by decide) ?_
              exact aw_fgt (by simp [leL]) H
        · replace H := H.2 c10
          refine aw_iload 129 dX10_isFastKept_127 rfl rfl ?_
          refine aw_iload_n 130 dX10_isFastKept_129 rfl rfl ?_
          refine aw_iconst (v := 1) 131 dX10_isFastKept_130 rfl (by decide) ?_
          refine aw_iadd 132 dX10_isFastKept_131 rfl ?_
          refine aw_iload 134 dX10_isFastKept_132 rfl rfl ?_
          refine aw_iload_n 135 dX10_isFastKept_134 rfl rfl ?_
          refine aw_isub 136 dX10_isFastKept_135 rfl ?_
          refine aw_isub 137 dX10_isFastKept_136 rfl ?_
          refine aw_icmp_ne 164 140 dX10_isFastKept_137 rfl (by decide) (fun c13 => ?_) (fun c13 => ?_)
          · replace H := H.1 c13
            refine aw_iconst (v := 0) 165 dX10_isFastKept_164 rfl (by decide) ?_
            refine aw_istore (loc' := [some (.ref a0), some (.int x1), some (.int x2), some (.int x3), some (.int 0), some (.int x5), some (.int (hI h1 (hR h1 a0 14) x5.toNatClampNeg))]) 167 dX10_isFastKept_165 rfl (by decide) rfl ?_
            refine aw_iinc (y := 1) (loc' := [some (.ref a0), some (.int x1), some (.int x2), some (.int x3), some (.int 0), some (.int (x5 + 1)), some (.int (hI h1 (hR h1 a0 14) x5.toNatClampNeg))]) 170 dX10_isFastKept_167 rfl (by decide) rfl (by decide) rfl ?_
            refine aw_goto 91 dX10_isFastKept_170 (by decide) ?_
            exact aw_fgt (by simp [leL]) H
          · replace H := H.2 c13
            refine aw_goto 160 dX10_isFastKept_140 (by decide) ?_
            refine aw_iconst (v := 1) 161 dX10_isFastKept_160 rfl (by decide) ?_
            refine aw_goto 165 dX10_isFastKept_161 (by decide) ?_
            refine aw_istore (loc' := [some (.ref a0), some (.int x1), some (.int x2), some (.int x3), some (.int 1), some (.int x5), some (.int (hI h1 (hR h1 a0 14) x5.toNatClampNeg))]) 167 dX10_isFastKept_165 rfl (by decide) rfl ?_
            refine aw_iinc (y := 1) (loc' := [some (.ref a0), some (.int x1), some (.int x2), some (.int x3), some (.int 1), some (.int (x5 + 1)), some (.int (hI h1 (hR h1 a0 14) x5.toNatClampNeg))]) 170 dX10_isFastKept_167 rfl (by decide) rfl (by decide) rfl ?_
            refine aw_goto 91 dX10_isFastKept_170 (by decide) ?_
            exact aw_fgt (by simp [leL]) H
set_option maxHeartbeats 4000000 in
set_option maxRecDepth 100000 in
theorem sX10_isParagraphKept_0 {w : Wd} {Q : Int32 → Hp → Prop} {h : Hp} {a0 : Nat} {x1 : Int32} {x2 : Int32} {x3 : Int32} {x4 : Int32} (H : (hs h a0).1 = 30 ∧ hR h a0 9 ≠ 0 ∧ (hs h (hR h a0 9)).1 = 1 ∧ vp_in 0 (hs h (hR h a0 9)).2 ∧ vp_in 1 (hs h (hR h a0 9)).2 ∧ (((hI h (hR h a0 9) (1 : Int32).toNatClampNeg) ≤ (hI h (hR h a0 9) (0 : Int32).toNatClampNeg) → AW w mX10_isParagraphKept 0 0 (rI Q) 0 0 38 [some (.ref a0), some (.int x1), some (.int x2), some (.int x3), some (.int x4), some (.int (hI h (hR h a0 9) (1 : Int32).toNatClampNeg)), some (.int 1), some (.int 0), none, none] [] h) ∧ (¬ (hI h (hR h a0 9) (1 : Int32).toNatClampNeg) ≤ (hI h (hR h a0 9) (0 : Int32).toNatClampNeg) → AW w mX10_isParagraphKept 0 0 (rI Q) 0 0 38 [some (.ref a0), some (.int x1), some (.int x2), some (.int x3), some (.int x4), some (.int (hI h (hR h a0 9) (0 : Int32).toNatClampNeg)), some (.int 1), some (.int 0), none, none] [] h))) : AW w mX10_isParagraphKept 0 0 (rI Q) 0 0 0 [some (.ref a0), some (.int x1), some (.int x2), some (.int x3), some (.int x4), none, none, none, none, none] [] h := by
  refine aw_aload_n 1 dX10_isParagraphKept_0 rfl rfl ?_
  obtain ⟨g1, H⟩ := H
  obtain ⟨g2, H⟩ := H
  refine aw_getR 4 dX10_isParagraphKept_1 rfl fl_X10_31 ir_10_9 g1 rfl g2 ?_
  refine aw_iconst (v := 0) 5 dX10_isParagraphKept_4 rfl (by decide) ?_
  obtain ⟨g3, H⟩ := H
  obtain ⟨g4, H⟩ := H
  refine aw_iald 6 dX10_isParagraphKept_5 rfl (Or.inl (shp g3)) g4 ?_
  refine aw_aload_n 7 dX10_isParagraphKept_6 rfl rfl ?_
  refine aw_getR 10 dX10_isParagraphKept_7 rfl fl_X10_31 ir_10_9 g1 rfl g2 ?_
  refine aw_iconst (v := 1) 11 dX10_isParagraphKept_10 rfl (by decide) ?_
  obtain ⟨g5, H⟩ := H
  refine aw_iald 12 dX10_isParagraphKept_11 rfl (Or.inl (shp g3)) g5 ?_
  refine aw_icmp_ge 24 15 dX10_isParagraphKept_12 rfl (by decide) (fun c6 => ?_) (fun c6 => ?_)
  · replace H := H.1 c6
    refine aw_aload_n 25 dX10_isParagraphKept_24 rfl rfl ?_
    refine aw_getR 28 dX10_isParagraphKept_25 rfl fl_X10_31 ir_10_9 g1 rfl g2 ?_
    refine aw_iconst (v := 1) 29 dX10_isParagraphKept_28 rfl (by decide) ?_
    refine aw_iald 30 dX10_isParagraphKept_29 rfl (Or.inl (shp g3)) g5 ?_
    refine aw_istore (loc' := [some (.ref a0), some (.int x1), some (.int x2), some (.int x3), some (.int x4), some (.int (hI h (hR h a0 9) (1 : Int32).toNatClampNeg)), none, none, none, none]) 32 dX10_isParagraphKept_30 rfl (by decide) rfl ?_
    refine aw_iconst (v := 1) 33 dX10_isParagraphKept_32 rfl (by decide) ?_
    refine aw_istore (loc' := [some (.ref a0), some (.int x1), some (.int x2), some (.int x3), some (.int x4), some (.int (hI h (hR h a0 9) (1 : Int32).toNatClampNeg)), some (.int 1), none, none, none]) 35 dX10_isParagraphKept_33 rfl (by decide) rfl ?_
    refine aw_iconst (v := 0) 36 dX10_isParagraphKept_35 rfl (by decide) ?_
    refine aw_istore (loc' := [some (.ref a0), some (.int x1), some (.int x2), some (.int x3), some (.int x4), some (.int (hI h (hR h a0 9) (1 : Int32).toNatClampNeg)), some (.int 1), some (.int 0), none, none]) 38 dX10_isParagraphKept_36 rfl (by decide) rfl ?_
    exact H
  · replace H := H.2 c6
    refine aw_aload_n 16 dX10_isParagraphKept_15 rfl rfl ?_
    refine aw_getR 19 dX10_isParagraphKept_16 rfl fl_X10_31 ir_10_9 g1 rfl g2 ?_
    refine aw_iconst (v := 0) 20 dX10_isParagraphKept_19 rfl (by decide) ?_
    refine aw_iald 21 dX10_isParagraphKept_20 rfl (Or.inl (shp g3)) g4 ?_
    refine aw_goto 30 dX10_isParagraphKept_21 (by decide) ?_
    refine aw_istore (loc' := [some (.ref a0), some (.int x1), some (.int x2), some (.int x3), some (.int x4), some (.int (hI h (hR h a0 9) (0 : Int32).toNatClampNeg)), none, none, none, none]) 32 dX10_isParagraphKept_30 rfl (by decide) rfl ?_
    refine aw_iconst (v := 1) 33 dX10_isParagraphKept_32 rfl (by decide) ?_
    refine aw_istore (loc' := [some (.ref a0), some (.int x1), some (.int x2), some (.int x3), some (.int x4), some (.int (hI h (hR h a0 9) (0 : Int32).toNatClampNeg)), some (.int 1), none, none, none]) 35 dX10_isParagraphKept_33 rfl (by decide) rfl ?_
    refine aw_iconst (v := 0) 36 dX10_isParagraphKept_35 rfl (by decide) ?_
    refine aw_istore (loc' := [some (.ref a0), some (.int x1), some (.int x2), some (.int x3), some (.int x4), some (.int (hI h (hR h a0 9) (0 : Int32).toNatClampNeg)), some (.int 1), some (.int 0), none, none]) 38 dX10_isParagraphKept_36 rfl (by decide) rfl ?_
    exact H
theorem eX10_isParagraphKept {w : Wd} {Q : Int32 → Hp → Prop} {h : Hp} {a0 : Nat} {x1 : Int32} {x2 : Int32} {x3 : Int32} {x4 : Int32} (H : AW w mX10_isParagraphKept 0 0 (rI Q) 0 0 0 [some (.ref a0), some (.int x1), some (.int x2), some (.int x3), some (.int x4), none, none, none, none, none] [] h) : AC w mX10_isParagraphKept 0 0 (rI Q) [.ref a0, .int x1, .int x2, .int x3, .int x4] h := AC.ofL (by decide) (by simp [enl, Value.category]) (by simp [leL, enl, Value.category]) H
set_option maxHeartbeats 4000000 in
set_option maxRecDepth 100000 in
theorem sX10_isParagraphKept_38 {w : Wd} {Q : Int32 → Hp → Prop} {h : Hp} {a0 : Nat} {x1 : Int32} {x2 : Int32} {x3 : Int32} {x4 : Int32} {x5 : Int32} {x6 : Int32} {x7 : Int32} (H : ((x5 ≤ x7 → (x6 = 0 ∨ x6 = 1) ∧ Q x6 h) ∧ (¬ x5 ≤ x7 → ((x6 = 0 → (x6 = 0 ∨ x6 = 1) ∧ Q x6 h) ∧ (¬ x6 = 0 → (hs h a0).1 = 30 ∧ AC w mX10_upTo 0 0 (rI fun r1 h1 => (hs h1 a0).1 = 30 ∧ AC w mX10_upTo 0 0 (rI fun r2 h2 => ((r1 < x3 → AW w mX10_isParagraphKept 0 0 (rI Q) 0 0 81 [some (.ref a0), some (.int x1), some (.int x2), some (.int x3), some (.int x4), some (.int x5), none, some (.int x7), some (.int r1), some (.int r2)] [] h2) ∧ (¬ r1 < x3 → ((x4 ≤ r2 → AW w mX10_isParagraphKept 0 0 (rI Q) 0 0 38 [some (.ref a0), some (.int x1), some (.int x2), some (.int x3), some (.int x4), some (.int x5), some (.int 1), some (.int (x7 + 1)), none, none] [] h2) ∧ (¬ x4 ≤ r2 → AW w mX10_isParagraphKept 0 0 (rI Q) 0 0 81 [some (.ref a0), some (.int x1), some (.int x2), some (.int x3), some (.int x4), some (.int x5), none, some (.int x7), some (.int r1), some (.int r2)] [] h2))))) [.ref a0, .int 1, .int x7] h1) [.ref a0, .int 0, .int x7] h))))) : AW w mX10_isParagraphKept 0 0 (rI Q) 0 0 38 [some (.ref a0), some (.int x1), some (.int x2), some (.int x3), some (.int x4), some (.int x5), some (.int x6), some (.int x7), none, none] [] h := by
  refine aw_iload 40 dX10_isParagraphKept_38 rfl rfl ?_
  refine aw_iload 42 dX10_isParagraphKept_40 rfl rfl ?_
  refine aw_icmp_ge 106 45 dX10_isParagraphKept_42 rfl (by decide) (fun c1 => ?_) (fun c1 => ?_)
  · replace H := H.1 c1
    refine aw_iload 108 dX10_isParagraphKept_106 rfl rfl ?_
    obtain ⟨g2, H⟩ := H
    exact aw_zreturn dX10_isParagraphKept_108 rfl g2 (by decide) (by decide) ⟨_, rfl, H⟩
  · replace H := H.2 c1
    refine aw_iload 47 dX10_isParagraphKept_45 rfl rfl ?_
    refine aw_if_eq 106 50 dX10_isParagraphKept_47 rfl (by decide) (fun c3 => ?_) (fun c3 => ?_)
    · replace H := H.1 c3
      refine aw_iload 108 dX10_isParagraphKept_106 rfl rfl ?_
      obtain ⟨g4, H⟩ := H
      exact aw_zreturn dX10_isParagraphKept_108 rfl g4 (by decide) (by decide) ⟨_, rfl, H⟩
    · replace H := H.2 c3
      refine aw_aload_n 51 dX10_isParagraphKept_50 rfl rfl ?_
      refine aw_iconst (v := 0) 52 dX10_isParagraphKept_51 rfl (by decide) ?_
      refine aw_iload 54 dX10_isParagraphKept_52 rfl rfl ?_
      obtain ⟨g5, H⟩ := H
      refine aw_callV (stk := []) (ci := 10) [.int 0, .int x7] 57 dX10_isParagraphKept_54 rfl mv_X10_260 ⟨by decide, by decide⟩ g5 (by intro r hr; cases hr; rfl) rfl rfl (by simp [Value.category]) (by decide) H ?_
      rintro _ h1 ⟨r1, rfl, H⟩
      refine aw_istore (loc' := [some (.ref a0), some (.int x1), some (.int x2), some (.int x3), some (.int x4), some (.int x5), some (.int x6), some (.int x7), some (.int r1), none]) 59 dX10_isParagraphKept_57 rfl (by decide) rfl ?_
      refine aw_aload_n 60 dX10_isParagraphKept_59 rfl rfl ?_
      refine aw_iconst (v := 1) 61 dX10_isParagraphKept_60 rfl (by decide) ?_
      refine aw_iload 63 dX10_isParagraphKept_61 rfl rfl ?_
      obtain ⟨g6, H⟩ := H
      refine aw_callV (stk := []) (ci := 10) [.int 1, .int x7] 66 dX10_isParagraphKept_63 rfl mv_X10_260 ⟨by decide, by decide⟩ g6 (by intro r hr; cases hr; rfl) rfl rfl (by simp [Value.category]) (by decide) H ?_
      rintro _ h2 ⟨r2, rfl, H⟩
      refine aw_istore (loc' := [some (.ref a0), some (.int x1), some (.int x2), some (.int x3), some (.int x4), some (.int x5), some (.int x6), some (.int x7), some (.int r1), some (.int r2)]) 68 dX10_isParagraphKept_66 rfl (by decide) rfl ?_
      refine aw_iload_n 69 dX10_isParagraphKept_68 rfl rfl ?_
      refine aw_iload 71 dX10_isParagraphKept_69 rfl rfl ?_
      refine aw_icmp_gt 81 74 dX10_isParagraphKept_71 rfl (by decide) (fun c7 => ?_) (fun c7 => ?_)
      · replace H := H.1 c7
        exact aw_fgt (by simp [leL]) H
      · replace H := H.2 c7
        refine aw_iload 76 dX10_isParagraphKept_74 rfl rfl ?_
        refine aw_iload 78 dX10_isParagraphKept_76 rfl rfl ?_
        refine aw_icmp_le 93 81 dX10_isParagraphKept_78 rfl (by decide) (fun c8 => ?_) (fun c8 => ?_)
        · replace H := H.1 c8
          refine aw_iconst (v := 1) 94 dX10_isParagraphKept_93 rfl (by decide) ?_
          refine aw_goto 98 dX10_isParagraphKept_94 (by decide) ?_
          refine aw_istore (loc' := [some (.ref a0), some (.int x1), some (.int x2), some (.int x3), some (.int x4), some (.int x5), some (.int 1), some (.int x7), some (.int r1), some (.int r2)]) 100 dX10_isParagraphKept_98 rfl (by decide) rfl ?_
          refine aw_iinc (y := 1) (loc' := [some (.ref a0), some (.int x1), some (.int x2), some (.int x3), some (.int x4), some (.int x5), some (.int 1), some (.int (x7 + 1)), some (.int r1), some (.int r2)]) 103 dX10_isParagraphKept_100 rfl (by decide) rfl (by decide) rfl ?_
          refine aw_goto 38 dX10_isParagraphKept_103 (by decide) ?_
          exact aw_fgt (by simp [leL]) H
        · replace H := H.2 c8
          exact aw_fgt (by simp [leL]) H
set_option maxHeartbeats 4000000 in
set_option maxRecDepth 100000 in
theorem sX10_isParagraphKept_81 {w : Wd} {Q : Int32 → Hp → Prop} {h : Hp} {a0 : Nat} {x1 : Int32} {x2 : Int32} {x3 : Int32} {x4 : Int32} {x5 : Int32} {x7 : Int32} {x8 : Int32} {x9 : Int32} (H : ((x1 < x8 → AW w mX10_isParagraphKept 0 0 (rI Q) 0 0 38 [some (.ref a0), some (.int x1), some (.int x2), some (.int x3), some (.int x4), some (.int x5), some (.int 0), some (.int (x7 + 1)), none, none] [] h) ∧ (¬ x1 < x8 → ((x2 < x9 → AW w mX10_isParagraphKept 0 0 (rI Q) 0 0 38 [some (.ref a0), some (.int x1), some (.int x2), some (.int x3), some (.int x4), some (.int x5), some (.int 0), some (.int (x7 + 1)), none, none] [] h) ∧ (¬ x2 < x9 → AW w mX10_isParagraphKept 0 0 (rI Q) 0 0 38 [some (.ref a0), some (.int x1), some (.int x2), some (.int x3), some (.int x4), some (.int x5), some (.int 1), some (.int (x7 + 1)), none, none] [] h))))) : AW w mX10_isParagraphKept 0 0 (rI Q) 0 0 81 [some (.ref a0), some (.int x1), some (.int x2), some (.int x3), some (.int x4), some (.int x5), none, some (.int x7), some (.int x8), some (.int x9)] [] h := by
  refine aw_iload_n 82 dX10_isParagraphKept_81 rfl rfl ?_
  refine aw_iload 84 dX10_isParagraphKept_82 rfl rfl ?_
  refine aw_icmp_lt 97 87 dX10_isParagraphKept_84 rfl (by decide) (fun c1 => ?_) (fun c1 => ?_)
  · replace H := H.1 c1
    refine aw_iconst (v := 0) 98 dX10_isParagraphKept_97 rfl (by decide) ?_
    refine aw_istore (loc' := [some (.ref a0), some (.int x1), some (.int x2), some (.int x3), some (.int x4), some (.int x5), some (.int 0), some (.int x7), some (.int x8), some (.int x9)]) 100 dX10_isParagraphKept_98 rfl (by decide) rfl ?_
    refine aw_iinc (y := 1) (loc' := [some (.ref a0), some (.int x1), some (.int x2), some (.int x3), some (.int x4), some (.int x5), some (.int 0), some (.int (x7 + 1)), some (.int x8), some (.int x9)]) 103 dX10_isParagraphKept_100 rfl (by decide) rfl (by decide) rfl ?_
    refine aw_goto 38 dX10_isParagraphKept_103 (by decide) ?_
    exact aw_fgt (by simp [leL]) H
  · replace H := H.2 c1
    refine aw_iload_n 88 dX10_isParagraphKept_87 rfl rfl ?_
    refine aw_iload 90 dX10_isParagraphKept_88 rfl rfl ?_
    refine aw_icmp_lt 97 93 dX10_isParagraphKept_90 rfl (by decide) (fun c2 => ?_) (fun c2 => ?_)
    · replace H := H.1 c2
      refine aw_iconst (v := 0) 98 dX10_isParagraphKept_97 rfl (by decide) ?_
      refine aw_istore (loc' := [some (.ref a0), some (.int x1), some (.int x2), some (.int x3), some (.int x4), some (.int x5), some (.int 0), some (.int x7), some (.int x8), some (.int x9)]) 100 dX10_isParagraphKept_98 rfl (by decide) rfl ?_
      refine aw_iinc (y := 1) (loc' := [some (.ref a0), some (.int x1), some (.int x2), some (.int x3), some (.int x4), some (.int x5), some (.int 0), some (.int (x7 + 1)), some (.int x8), some (.int x9)]) 103 dX10_isParagraphKept_100 rfl (by decide) rfl (by decide) rfl ?_
      refine aw_goto 38 dX10_isParagraphKept_103 (by decide) ?_
      exact aw_fgt (by simp [leL]) H
    · replace H := H.2 c2
      refine aw_iconst (v := 1) 94 dX10_isParagraphKept_93 rfl (by decide) ?_
      refine aw_goto 98 dX10_isParagraphKept_94 (by decide) ?_
      refine aw_istore (loc' := [some (.ref a0), some (.int x1), some (.int x2), some (.int x3), some (.int x4), some (.int x5), some (.int 1), some (.int x7), some (.int x8), some (.int x9)]) 100 dX10_isParagraphKept_98 rfl (by decide) rfl ?_
      refine aw_iinc (y := 1) (loc' := [some (.ref a0), some (.int x1), some (.int x2), some (.int x3), some (.int x4), some (.int x5), some (.int 1), some (.int (x7 + 1)), some (.int x8), some (.int x9)]) 103 dX10_isParagraphKept_100 rfl (by decide) rfl (by decide) rfl ?_
      refine aw_goto 38 dX10_isParagraphKept_103 (by decide) ?_
      exact aw_fgt (by simp [leL]) H
set_option maxHeartbeats 4000000 in
set_option maxRecDepth 100000 in
theorem sX10_upTo_0 {w : Wd} {Q : Int32 → Hp → Prop} {h : Hp} {a0 : Nat} {x1 : Int32} {x2 : Int32} (H : AW w mX10_upTo 0 0 (rI Q) 0 0 5 [some (.ref a0), some (.int x1), some (.int x2), some (.int 0), some (.int 0)] [] h) : AW w mX10_upTo 0 0 (rI Q) 0 0 0 [some (.ref a0), some (.int x1), some (.int x2), none, none] [] h := by
  refine aw_iconst (v := 0) 1 dX10_upTo_0 rfl (by decide) ?_
  refine aw_istore_n (loc' := [some (.ref a0), some (.int x1), some (.int x2), some (.int 0), none]) 2 dX10_upTo_1 rfl (by decide) rfl ?_
  refine aw_iconst (v := 0) 3 dX10_upTo_2 rfl (by decide) ?_
  refine aw_istore (loc' := [some (.ref a0), some (.int x1), some (.int x2), some (.int 0), some (.int 0)]) 5 dX10_upTo_3 rfl (by decide) rfl ?_
  exact H
theorem eX10_upTo {w : Wd} {Q : Int32 → Hp → Prop} {h : Hp} {a0 : Nat} {x1 : Int32} {x2 : Int32} (H : AW w mX10_upTo 0 0 (rI Q) 0 0 0 [some (.ref a0), some (.int x1), some (.int x2), none, none] [] h) : AC w mX10_upTo 0 0 (rI Q) [.ref a0, .int x1, .int x2] h := AC.ofL (by decide) (by simp [enl, Value.category]) (by simp [leL, enl, Value.category]) H
set_option maxHeartbeats 4000000 in
set_option maxRecDepth 100000 in
theorem sX10_upTo_5 {w : Wd} {Q : Int32 → Hp → Prop} {h : Hp} {a0 : Nat} {x1 : Int32} {x2 : Int32} {x3 : Int32} {x4 : Int32} (H : (hs h a0).1 = 30 ∧ hR h a0 5 ≠ 0 ∧ (hs h (hR h a0 5)).1 = 1 ∧ vp_in x1 (hs h (hR h a0 5)).2 ∧ (((hI h (hR h a0 5) x1.toNatClampNeg) ≤ x4 → Q x3 h) ∧ (¬ (hI h (hR h a0 5) x1.toNatClampNeg) ≤ x4 → hR h a0 8 ≠ 0 ∧ (hs h (hR h a0 8)).1 = 1 ∧ vp_in ((20 * x1) + x4) (hs h (hR h a0 8)).2 ∧ ((x2 < (hI h (hR h a0 8) ((20 * x1) + x4).toNatClampNeg) → AW w mX10_upTo 0 0 (rI Q) 0 0 5 [some (.ref a0), some (.int x1), some (.int x2), some (.int (x3 + 0)), some (.int (x4 + 1))] [] h) ∧ (¬ x2 < (hI h (hR h a0 8) ((20 * x1) + x4).toNatClampNeg) → AW w mX10_upTo 0 0 (rI Q) 0 0 5 [some (.ref a0), some (.int x1), some (.int x2), some (.int (x3 + 1)), some (.int (x4 + 1))] [] h))))) : AW w mX10_upTo 0 0 (rI Q) 0 0 5 [some (.ref a0), some (.int x1), some (.int x2), some (.int x3), some (.int x4)] [] h := by
  refine aw_iload 7 dX10_upTo_5 rfl rfl ?_
  refine aw_aload_n 8 dX10_upTo_7 rfl rfl ?_
  obtain ⟨g1, H⟩ := H
  obtain ⟨g2, H⟩ := H
  refine aw_getR 11 dX10_upTo_8 rfl fl_X10_19 ir_10_5 g1 rfl g2 ?_
  refine aw_iload_n 12 dX10_upTo_11 rfl rfl ?_
  obtain ⟨g3, H⟩ := H
  obtain ⟨g4, H⟩ := H
  refine aw_iald 13 dX10_upTo_12 rfl (Or.inl (shp g3)) g4 ?_
  refine aw_icmp_ge 46 16 dX10_upTo_13 rfl (by decide) (fun c5 => ?_) (fun c5 => ?_)
  · replace H := H.1 c5
    refine aw_iload_n 47 dX10_upTo_46 rfl rfl ?_
    exact aw_ireturn dX10_upTo_47 rfl (by decide) (by decide) ⟨_, rfl, H⟩
  · replace H := H.2 c5
    refine aw_iload_n 17 dX10_upTo_16 rfl rfl ?_
    refine aw_aload_n 18 dX10_upTo_17 rfl rfl ?_
    obtain ⟨g6, H⟩ := H
    refine aw_getR 21 dX10_upTo_18 rfl fl_X10_28 ir_10_8 g1 rfl g6 ?_
    refine aw_bipush (v := 20) 23 dX10_upTo_21 rfl (by decide) ?_
    refine aw_iload_n 24 dX10_upTo_23 rfl rfl ?_
    refine aw_imul 25 dX10_upTo_24 rfl ?_
    refine aw_iload 27 dX10_upTo_25 rfl rfl ?_
    refine aw_iadd 28 dX10_upTo_27 rfl ?_
    obtain ⟨g7, H⟩ := H
    obtain ⟨g8, H⟩ := H
    refine aw_iald 29 dX10_upTo_28 rfl (Or.inl (shp g7)) g8 ?_
    refine aw_iload_n 30 dX10_upTo_29 rfl rfl ?_
    refine aw_icmp_gt 37 33 dX10_upTo_30 rfl (by decide) (fun c9 => ?_) (fun c9 => ?_)
    · replace H := H.1 c9
      refine aw_iconst (v := 0) 38 dX10_upTo_37 rfl (by decide) ?_
      refine aw_iadd 39 dX10_upTo_38 rfl ?_
      refine aw_istore_n (loc' := [some (.ref a0), some (.int x1), some (.int x2), some (.int (x3 + 0)), some (.int x4)]) 40 dX10_upTo_39 rfl (by decide) rfl ?_
      refine aw_iinc (y := 1) (loc' := [some (.ref a0), some (.int x1), some (.int x2), some (.int (x3 + 0)), some (.int (x4 + 1))]) 43 dX10_upTo_40 rfl (by decide) rfl (by decide) rfl ?_
      refine aw_goto 5 dX10_upTo_43 (by decide) ?_
      exact H
    · replace H := H.2 c9
      refine aw_iconst (v := 1) 34 dX10_upTo_33 rfl (by decide) ?_
      refine aw_goto 38 dX10_upTo_34 (by decide) ?_
      refine aw_iadd 39 dX10_upTo_38 rfl ?_
      refine aw_istore_n (loc' := [some (.ref a0), some (.int x1), some (.int x2), some (.int (x3 + 1)), some (.int x4)]) 40 dX10_upTo_39 rfl (by decide) rfl ?_
      refine aw_iinc (y := 1) (loc' := [some (.ref a0), some (.int x1), some (.int x2), some (.int (x3 + 1)), some (.int (x4 + 1))]) 43 dX10_upTo_40 rfl (by decide) rfl (by decide) rfl ?_
      refine aw_goto 5 dX10_upTo_43 (by decide) ?_
      exact H
set_option maxHeartbeats 4000000 in
set_option maxRecDepth 100000 in
theorem sX10_may_0 {w : Wd} {Q : Int32 → Hp → Prop} {h : Hp} {a0 : Nat} {x1 : Int32} {x2 : Int32} {x3 : Int32} (H : AC w mX10_leftOf 0 0 (rI fun r1 h1 => AC w mX10_rightOf 0 0 (rI fun r2 h2 => (hs h2 a0).1 = 30 ∧ hR h2 a0 5 ≠ 0 ∧ (hs h2 (hR h2 a0 5)).1 = 1 ∧ vp_in 0 (hs h2 (hR h2 a0 5)).2 ∧ (((hI h2 (hR h2 a0 5) (0 : Int32).toNatClampNeg) < (x2 + r1) → Q 0 h2) ∧ (¬ (hI h2 (hR h2 a0 5) (0 : Int32).toNatClampNeg) < (x2 + r1) → vp_in 1 (hs h2 (hR h2 a0 5)).2 ∧ (((hI h2 (hR h2 a0 5) (1 : Int32).toNatClampNeg) < (x3 + r2) → Q 0 h2) ∧ (¬ (hI h2 (hR h2 a0 5) (1 : Int32).toNatClampNeg) < (x3 + r2) → AC w mX10_isFastKept 0 0 (rI fun r3 h3 => ((r3 = 0 → Q 0 h3) ∧ (¬ r3 = 0 → (hs h3 a0).1 = 30 ∧ (((hI h3 a0 16) = 0 → Q 1 h3) ∧ (¬ (hI h3 a0 16) = 0 → AC w mX10_isParagraphKept 0 0 (rI fun r4 h4 => ((r4 = 0 → Q 0 h4) ∧ (¬ r4 = 0 → Q 1 h4))) [.ref a0, .int x2, .int x3, .int (x2 + r1), .int (x3 + r2)] h3))))) [.ref a0, .int x1, .int x2, .int x3] h2))))) [.int x1] h1) [.int x1] h) : AW w mX10_may 0 0 (rI Q) 0 0 0 [some (.ref a0), some (.int x1), some (.int x2), some (.int x3), none, none] [] h := by
  refine aw_iload_n 1 dX10_may_0 rfl rfl ?_
  refine aw_iload_n 2 dX10_may_1 rfl rfl ?_
  refine aw_callS (stk := [.int x2]) [.int x1] 5 dX10_may_2 rfl mv_X10_254 ⟨by decide, by decide⟩ rfl rfl (by simp [Value.category]) (by decide) H ?_
  rintro _ h1 ⟨r1, rfl, H⟩
  refine aw_iadd 6 dX10_may_5 rfl ?_
  refine aw_istore (loc' := [some (.ref a0), some (.int x1), some (.int x2), some (.int x3), some (.int (x2 + r1)), none]) 8 dX10_may_6 rfl (by decide) rfl ?_
  refine aw_iload_n 9 dX10_may_8 rfl rfl ?_
  refine aw_iload_n 10 dX10_may_9 rfl rfl ?_
  refine aw_callS (stk := [.int x3]) [.int x1] 13 dX10_may_10 rfl mv_X10_257 ⟨by decide, by decide⟩ rfl rfl (by simp [Value.category]) (by decide) H ?_
  rintro _ h2 ⟨r2, rfl, H⟩
  refine aw_iadd 14 dX10_may_13 rfl ?_
  refine aw_istore (loc' := [some (.ref a0), some (.int x1), some (.int x2), some (.int x3), some (.int (x2 + r1)), some (.int (x3 + r2))]) 16 dX10_may_14 rfl (by decide) rfl ?_
  refine aw_iload 18 dX10_may_16 rfl rfl ?_
  refine aw_aload_n 19 dX10_may_18 rfl rfl ?_
  obtain ⟨g1, H⟩ := H
  obtain ⟨g2, H⟩ := H
  refine aw_getR 22 dX10_may_19 rfl fl_X10_19 ir_10_5 g1 rfl g2 ?_
  refine aw_iconst (v := 0) 23 dX10_may_22 rfl (by decide) ?_
  obtain ⟨g3, H⟩ := H
  obtain ⟨g4, H⟩ := H
  refine aw_iald 24 dX10_may_23 rfl (Or.inl (shp g3)) g4 ?_
  refine aw_icmp_gt 72 27 dX10_may_24 rfl (by decide) (fun c5 => ?_) (fun c5 => ?_)
  · replace H := H.1 c5
    refine aw_iconst (v := 0) 73 dX10_may_72 rfl (by decide) ?_
    exact aw_zreturn dX10_may_73 rfl (by decide) (by decide) (by decide) ⟨_, rfl, H⟩
  · replace H := H.2 c5
    refine aw_iload 29 dX10_may_27 rfl rfl ?_
    refine aw_aload_n 30 dX10_may_29 rfl rfl ?_
    refine aw_getR 33 dX10_may_30 rfl fl_X10_19 ir_10_5 g1 rfl g2 ?_
    refine aw_iconst (v := 1) 34 dX10_may_33 rfl (by decide) ?_
    obtain ⟨g6, H⟩ := H
    refine aw_iald 35 dX10_may_34 rfl (Or.inl (shp g3)) g6 ?_
    refine aw_icmp_gt 72 38 dX10_may_35 rfl (by decide) (fun c7 => ?_) (fun c7 => ?_)
    · replace H := H.1 c7
      refine aw_iconst (v := 0) 73 dX10_may_72 rfl (by decide) ?_
      exact aw_zreturn dX10_may_73 rfl (by decide) (by decide) (by decide) ⟨_, rfl, H⟩
    · replace H := H.2 c7
      refine aw_aload_n 39 dX10_may_38 rfl rfl ?_
      refine aw_iload_n 40 dX10_may_39 rfl rfl ?_
      refine aw_iload_n 41 dX10_may_40 rfl rfl ?_
      refine aw_iload_n 42 dX10_may_41 rfl rfl ?_
      refine aw_callV (stk := []) (ci := 10) [.int x1, .int x2, .int x3] 45 dX10_may_42 rfl mv_X10_263 ⟨by decide, by decide⟩ g1 (by intro r hr; cases hr; rfl) rfl rfl (by simp [Value.category]) (by decide) H ?_
      rintro _ h3 ⟨r3, rfl, H⟩
      refine aw_if_eq 72 48 dX10_may_45 rfl (by decide) (fun c8 => ?_) (fun c8 => ?_)
      · replace H := H.1 c8
        refine aw_iconst (v := 0) 73 dX10_may_72 rfl (by decide) ?_
        exact aw_zreturn dX10_may_73 rfl (by decide) (by decide) (by decide) ⟨_, rfl, H⟩
      · replace H := H.2 c8
        refine aw_aload_n 49 dX10_may_48 rfl rfl ?_
        obtain ⟨g9, H⟩ := H
        refine aw_getI 52 dX10_may_49 rfl fl_X10_223 (by decide) g9 ?_
        refine aw_if_eq 68 55 dX10_may_52 rfl (by decide) (fun c10 => ?_) (fun c10 => ?_)
        · replace H := H.1 c10
          refine aw_iconst (v := 1) 69 dX10_may_68 rfl (by decide) ?_
          refine aw_goto 73 dX10_may_69 (by decide) ?_
          exact aw_zreturn dX10_may_73 rfl (by decide) (by decide) (by decide) ⟨_, rfl, H⟩
        · replace H := H.2 c10
          refine aw_aload_n 56 dX10_may_55 rfl rfl ?_
          refine aw_iload_n 57 dX10_may_56 rfl rfl ?_
          refine aw_iload_n 58 dX10_may_57 rfl rfl ?_
          refine aw_iload 60 dX10_may_58 rfl rfl ?_
          refine aw_iload 62 dX10_may_60 rfl rfl ?_
          refine aw_callV (stk := []) (ci := 10) [.int x2, .int x3, .int (x2 + r1), .int (x3 + r2)] 65 dX10_may_62 rfl mv_X10_266 ⟨by decide, by decide⟩ g9 (by intro r hr; cases hr; rfl) rfl rfl (by simp [Value.category]) (by decide) H ?_
          rintro _ h4 ⟨r4, rfl, H⟩
          refine aw_if_eq 72 68 dX10_may_65 rfl (by decide) (fun c11 => ?_) (fun c11 => ?_)
          · replace H := H.1 c11
            refine aw_iconst (v := 0) 73 dX10_may_72 rfl (by decide) ?_
            exact aw_zreturn dX10_may_73 rfl (by decide) (by decide) (by decide) ⟨_, rfl, H⟩
          · replace H := H.2 c11
            refine aw_iconst (v := 1) 69 dX10_may_68 rfl (by decide) ?_
            refine aw_goto 73 dX10_may_69 (by decide) ?_
            exact aw_zreturn dX10_may_73 rfl (by decide) (by decide) (by decide) ⟨_, rfl, H⟩
theorem eX10_may {w : Wd} {Q : Int32 → Hp → Prop} {h : Hp} {a0 : Nat} {x1 : Int32} {x2 : Int32} {x3 : Int32} (H : AW w mX10_may 0 0 (rI Q) 0 0 0 [some (.ref a0), some (.int x1), some (.int x2), some (.int x3), none, none] [] h) : AC w mX10_may 0 0 (rI Q) [.ref a0, .int x1, .int x2, .int x3] h := AC.ofL (by decide) (by simp [enl, Value.category]) (by simp [leL, enl, Value.category]) H
set_option maxHeartbeats 4000000 in
set_option maxRecDepth 100000 in
theorem sX10_work_0 {w : Wd} {Q : Hp → Prop} {h : Hp} {a0 : Nat} (H : (hs h a0).1 = 30 ∧ AC w mX10_prepare 0 0 (rV fun h1 => (hs h1 a0).1 = 30 ∧ hR h1 a0 5 ≠ 0 ∧ (hs h1 (hR h1 a0 5)).1 = 1 ∧ vp_in 0 (hs h1 (hR h1 a0 5)).2 ∧ AW w mX10_work 0 0 (rV Q) 0 0 11 [some (.ref a0), some (.int (hI h1 (hR h1 a0 5) (0 : Int32).toNatClampNeg)), none, none, none, none, none, none, none, none, none] [] h1) [.ref a0] h) : AW w mX10_work 0 0 (rV Q) 0 0 0 [some (.ref a0), none, none, none, none, none, none, none, none, none, none] [] h := by
  refine aw_aload_n 1 dX10_work_0 rfl rfl ?_
  obtain ⟨g1, H⟩ := H
  refine aw_callV (stk := []) (ci := 10) [] 4 dX10_work_1 rfl mv_X10_269 ⟨by decide, by decide⟩ g1 (by intro r hr; cases hr; rfl) rfl rfl (by simp [Value.category]) (by decide) H ?_
  rintro _ h1 ⟨rfl, H⟩
  refine aw_aload_n 5 dX10_work_4 rfl rfl ?_
  obtain ⟨g2, H⟩ := H
  obtain ⟨g3, H⟩ := H
  refine aw_getR 8 dX10_work_5 rfl fl_X10_19 ir_10_5 g2 rfl g3 ?_
  refine aw_iconst (v := 0) 9 dX10_work_8 rfl (by decide) ?_
  obtain ⟨g4, H⟩ := H
  obtain ⟨g5, H⟩ := H
  refine aw_iald 10 dX10_work_9 rfl (Or.inl (shp g4)) g5 ?_
  refine aw_istore_n (loc' := [some (.ref a0), some (.int (hI h1 (hR h1 a0 5) (0 : Int32).toNatClampNeg)), none, none, none, none, none, none, none, none, none]) 11 dX10_work_10 rfl (by decide) rfl ?_
  exact H
theorem eX10_work {w : Wd} {Q : Hp → Prop} {h : Hp} {a0 : Nat} (H : AW w mX10_work 0 0 (rV Q) 0 0 0 [some (.ref a0), none, none, none, none, none, none, none, none, none, none] [] h) : AC w mX10_work 0 0 (rV Q) [.ref a0] h := AC.ofL (by decide) (by simp [enl, Value.category]) (by simp [leL, enl, Value.category]) H
set_option maxHeartbeats 4000000 in
set_option maxRecDepth 100000 in
theorem sX10_work_11 {w : Wd} {Q : Hp → Prop} {h : Hp} {a0 : Nat} {x1 : Int32} (H : ((x1 < 0 → Q h) ∧ (¬ x1 < 0 → (hs h a0).1 = 30 ∧ hR h a0 5 ≠ 0 ∧ (hs h (hR h a0 5)).1 = 1 ∧ vp_in 1 (hs h (hR h a0 5)).2 ∧ AW w mX10_work 0 0 (rV Q) 0 0 22 [some (.ref a0), some (.int x1), some (.int (hI h (hR h a0 5) (1 : Int32).toNatClampNeg)), none, none, none, none, none, none, none, none] [] h))) : AW w mX10_work 0 0 (rV Q) 0 0 11 [some (.ref a0), some (.int x1), none, none, none, none, none, none, none, none, none] [] h := by
  refine aw_iload_n 12 dX10_work_11 rfl rfl ?_
  refine aw_if_lt 303 15 dX10_work_12 rfl (by decide) (fun c1 => ?_) (fun c1 => ?_)
  · replace H := H.1 c1
    exact aw_return dX10_work_303 rfl (by decide) (by decide) ⟨rfl, H⟩
  · replace H := H.2 c1
    refine aw_aload_n 16 dX10_work_15 rfl rfl ?_
    obtain ⟨g2, H⟩ := H
    obtain ⟨g3, H⟩ := H
    refine aw_getR 19 dX10_work_16 rfl fl_X10_19 ir_10_5 g2 rfl g3 ?_
    refine aw_iconst (v := 1) 20 dX10_work_19 rfl (by decide) ?_
    obtain ⟨g4, H⟩ := H
    obtain ⟨g5, H⟩ := H
    refine aw_iald 21 dX10_work_20 rfl (Or.inl (shp g4)) g5 ?_
    refine aw_istore_n (loc' := [some (.ref a0), some (.int x1), some (.int (hI h (hR h a0 5) (1 : Int32).toNatClampNeg)), none, none, none, none, none, none, none, none]) 22 dX10_work_21 rfl (by decide) rfl ?_
    exact H
set_option maxHeartbeats 4000000 in
set_option maxRecDepth 100000 in
theorem sX10_work_22 {w : Wd} {Q : Hp → Prop} {h : Hp} {a0 : Nat} {x1 : Int32} {x2 : Int32} (H : ((x2 < 0 → AW w mX10_work 0 0 (rV Q) 0 0 11 [some (.ref a0), some (.int (x1 + (-1))), none, none, none, none, none, none, none, none, none] [] h) ∧ (¬ x2 < 0 → (hs h a0).1 = 30 ∧ hR h a0 5 ≠ 0 ∧ (hs h (hR h a0 5)).1 = 1 ∧ vp_in 0 (hs h (hR h a0 5)).2 ∧ ((¬ x1 = (hI h (hR h a0 5) (0 : Int32).toNatClampNeg) → AW w mX10_work 0 0 (rV Q) 0 0 60 [some (.ref a0), some (.int x1), some (.int x2), some (.int 1000000000), some (.int 1000000000), some (.int 0), none, none, none, none, none] [] h) ∧ (x1 = (hI h (hR h a0 5) (0 : Int32).toNatClampNeg) → vp_in 1 (hs h (hR h a0 5)).2 ∧ ((¬ x2 = (hI h (hR h a0 5) (1 : Int32).toNatClampNeg) → AW w mX10_work 0 0 (rV Q) 0 0 60 [some (.ref a0), some (.int x1), some (.int x2), some (.int 1000000000), some (.int 1000000000), some (.int 0), none, none, none, none, none] [] h) ∧ (x2 = (hI h (hR h a0 5) (1 : Int32).toNatClampNeg) → AW w mX10_work 0 0 (rV Q) 0 0 60 [some (.ref a0), some (.int x1), some (.int x2), some (.int 0), some (.int 1000000000), some (.int 0), none, none, none, none, none] [] h))))))) : AW w mX10_work 0 0 (rV Q) 0 0 22 [some (.ref a0), some (.int x1), some (.int x2), none, none, none, none, none, none, none, none] [] h := by
  refine aw_iload_n 23 dX10_work_22 rfl rfl ?_
  refine aw_if_lt 297 26 dX10_work_23 rfl (by decide) (fun c1 => ?_) (fun c1 => ?_)
  · replace H := H.1 c1
    refine aw_iinc (y := (-1)) (loc' := [some (.ref a0), some (.int (x1 + (-1))), some (.int x2), none, none, none, none, none, none, none, none]) 300 dX10_work_297 rfl (by decide) rfl (by decide) rfl ?_
    refine aw_goto 11 dX10_work_300 (by decide) ?_
    exact aw_fgt (by simp [leL]) H
  · replace H := H.2 c1
    refine aw_ldcw 29 dX10_work_26 rfl kc_X10_272 ?_
    refine aw_istore_n (loc' := [some (.ref a0), some (.int x1), some (.int x2), some (.int 1000000000), none, none, none, none, none, none, none]) 30 dX10_work_29 rfl (by decide) rfl ?_
    refine aw_ldcw 33 dX10_work_30 rfl kc_X10_272 ?_
    refine aw_istore (loc' := [some (.ref a0), some (.int x1), some (.int x2), some (.int 1000000000), some (.int 1000000000), none, none, none, none, none, none]) 35 dX10_work_33 rfl (by decide) rfl ?_
    refine aw_iload_n 36 dX10_work_35 rfl rfl ?_
    refine aw_aload_n 37 dX10_work_36 rfl rfl ?_
    obtain ⟨g2, H⟩ := H
    obtain ⟨g3, H⟩ := H
    refine aw_getR 40 dX10_work_37 rfl fl_X10_19 ir_10_5 g2 rfl g3 ?_
    refine aw_iconst (v := 0) 41 dX10_work_40 rfl (by decide) ?_
    obtain ⟨g4, H⟩ := H
    obtain ⟨g5, H⟩ := H
    refine aw_iald 42 dX10_work_41 rfl (Or.inl (shp g4)) g5 ?_
    refine aw_icmp_ne 57 45 dX10_work_42 rfl (by decide) (fun c6 => ?_) (fun c6 => ?_)
    · replace H := H.1 c6
      refine aw_iconst (v := 0) 58 dX10_work_57 rfl (by decide) ?_
      refine aw_istore (loc' := [some (.ref a0), some (.int x1), some (.int x2), some (.int 1000000000), some (.int 1000000000), some (.int 0), none, none, none, none, none]) 60 dX10_work_58 rfl (by decide) rfl ?_
      exact H
    · replace H := H.2 c6
      refine aw_iload_n 46 dX10_work_45 rfl rfl ?_
      refine aw_aload_n 47 dX10_work_46 rfl rfl ?_
      refine aw_getR 50 dX10_work_47 rfl fl_X10_19 ir_10_5 g2 rfl g3 ?_
      refine aw_iconst (v := 1) 51 dX10_work_50 rfl (by decide) ?_
      obtain ⟨g7, H⟩ := H
      refine aw_iald 52 dX10_work_51 rfl (Or.inl (shp g4)) g7 ?_
      refine aw_icmp_ne 57 55 dX10_work_52 rfl (by decide) (fun c8 => ?_) (fun c8 => ?_)
      · replace H := H.1 c8
        refine aw_iconst (v := 0) 58 dX10_work_57 rfl (by decide) ?_
        refine aw_istore (loc' := [some (.ref a0), some (.int x1), some (.int x2), some (.int 1000000000), some (.int 1000000000), some (.int 0), none, none, none, none, none]) 60 dX10_work_58 rfl (by decide) rfl ?_
        exact H
      · replace H := H.2 c8
        refine aw_iconst (v := 0) 56 dX10_work_55 rfl (by decide) ?_
        refine aw_istore_n (loc' := [some (.ref a0), some (.int x1), some (.int x2), some (.int 0), some (.int 1000000000), none, none, none, none, none, none]) 57 dX10_work_56 rfl (by decide) rfl ?_
        refine aw_iconst (v := 0) 58 dX10_work_57 rfl (by decide) ?_
        refine aw_istore (loc' := [some (.ref a0), some (.int x1), some (.int x2), some (.int 0), some (.int 1000000000), some (.int 0), none, none, none, none, none]) 60 dX10_work_58 rfl (by decide) rfl ?_
        exact H
set_option maxHeartbeats 4000000 in
set_option maxRecDepth 100000 in
theorem sX10_work_60 {w : Wd} {Q : Hp → Prop} {h : Hp} {a0 : Nat} {x1 : Int32} {x2 : Int32} {x3 : Int32} {x4 : Int32} {x5 : Int32} (H : ((7 ≤ x5 → (hs h a0).1 = 30 ∧ hR h a0 37 ≠ 0 ∧ (hs h (hR h a0 37)).1 = 1 ∧ vp_in ((21 * x1) + x2) (hs h (hR h a0 37)).2 ∧ ∀ h1, h1 = sI h (hR h a0 37) ((21 * x1) + x2).toNatClampNeg x3 → hR h a0 38 ≠ 0 ∧ (hs h (hR h a0 38)).1 = 1 ∧ vp_in ((21 * x1) + x2) (hs h (hR h a0 38)).2 ∧ ∀ h2, h2 = sI h1 (hR h a0 38) ((21 * x1) + x2).toNatClampNeg x4 → AW w mX10_work 0 0 (rV Q) 0 0 22 [some (.ref a0), some (.int x1), some (.int (x2 + (-1))), none, none, none, none, none, none, none, none] [] h2) ∧ (¬ 7 ≤ x5 → (hs h a0).1 = 30 ∧ AC w mX10_may 0 0 (rI fun r1 h3 => ((r1 = 0 → AW w mX10_work 0 0 (rV Q) 0 0 108 [some (.ref a0), some (.int x1), some (.int x2), some (.int x3), some (.int x4), some (.int x5), none, none, none, none, none] [.int 0] h3) ∧ (¬ r1 = 0 → (hs h3 a0).1 = 30 ∧ ((¬ x5 = (hI h3 a0 39) → AW w mX10_work 0 0 (rV Q) 0 0 108 [some (.ref a0), some (.int x1), some (.int x2), some (.int x3), some (.int x4), some (.int x5), none, none, none, none, none] [.int 1] h3) ∧ (x5 = (hI h3 a0 39) → ((¬ x1 = (hI h3 a0 40) → AW w mX10_work 0 0 (rV Q) 0 0 108 [some (.ref a0), some (.int x1), some (.int x2), some (.int x3), some (.int x4), some (.int x5), none, none, none, none, none] [.int 1] h3) ∧ (x1 = (hI h3 a0 40) → ((x2 = (hI h3 a0 41) → AW w mX10_work 0 0 (rV Q) 0 0 108 [some (.ref a0), some (.int x1), some (.int x2), some (.int x3), some (.int x4), some (.int x5), none, none, none, none, none] [.int 0] h3) ∧ (¬ x2 = (hI h3 a0 41) → AW w mX10_work 0 0 (rV Q) 0 0 108 [some (.ref a0), some (.int x1), some (.int x2), some (.int x3), some (.int x4), some (.int x5), none, none, none, none, none] [.int 1] h3))))))))) [.ref a0, .int x5, .int x1, .int x2] h))) : AW w mX10_work 0 0 (rV Q) 0 0 60 [some (.ref a0), some (.int x1), some (.int x2), some (.int x3), some (.int x4), some (.int x5), none, none, none, none, none] [] h := by
  refine aw_iload 62 dX10_work_60 rfl rfl ?_
  refine aw_bipush (v := 7) 64 dX10_work_62 rfl (by decide) ?_
  refine aw_icmp_ge 266 67 dX10_work_64 rfl (by decide) (fun c1 => ?_) (fun c1 => ?_)
  · replace H := H.1 c1
    refine aw_aload_n 267 dX10_work_266 rfl rfl ?_
    obtain ⟨g2, H⟩ := H
    obtain ⟨g3, H⟩ := H
    refine aw_getR 270 dX10_work_267 rfl fl_X10_79 ir_10_37 g2 rfl g3 ?_
    refine aw_bipush (v := 21) 272 dX10_work_270 rfl (by decide) ?_
    refine aw_iload_n 273 dX10_work_272 rfl rfl ?_
    refine aw_imul 274 dX10_work_273 rfl ?_
    refine aw_iload_n 275 dX10_work_274 rfl rfl ?_
    refine aw_iadd 276 dX10_work_275 rfl ?_
    refine aw_iload_n 277 dX10_work_276 rfl rfl ?_
    obtain ⟨g4, H⟩ := H
    obtain ⟨g5, H⟩ := H
    refine aw_iast 278 dX10_work_277 rfl (shp g4) g5 ?_
    replace H := H _ rfl
    refine aw_aload_n 279 dX10_work_278 rfl rfl ?_
    obtain ⟨g6, H⟩ := H
    refine aw_getR 282 dX10_work_279 rfl fl_X10_82 ir_10_38 g2 rfl g6 ?_
    refine aw_bipush (v := 21) 284 dX10_work_282 rfl (by decide) ?_
    refine aw_iload_n 285 dX10_work_284 rfl rfl ?_
    refine aw_imul 286 dX10_work_285 rfl ?_
    refine aw_iload_n 287 dX10_work_286 rfl rfl ?_
    refine aw_iadd 288 dX10_work_287 rfl ?_
    refine aw_iload 290 dX10_work_288 rfl rfl ?_
    obtain ⟨g7, H⟩ := H
    obtain ⟨g8, H⟩ := H
    refine aw_iast 291 dX10_work_290 rfl (shp g7) g8 ?_
    replace H := H _ rfl
    refine aw_iinc (y := (-1)) (loc' := [some (.ref a0), some (.int x1), some (.int (x2 + (-1))), some (.int x3), some (.int x4), some (.int x5), none, none, none, none, none]) 294 dX10_work_291 rfl (by decide) rfl (by decide) rfl ?_
    refine aw_goto 22 dX10_work_294 (by decide) ?_
    exact aw_fgt (by simp [leL]) H
  · replace H := H.2 c1
    refine aw_aload_n 68 dX10_work_67 rfl rfl ?_
    refine aw_iload 70 dX10_work_68 rfl rfl ?_
    refine aw_iload_n 71 dX10_work_70 rfl rfl ?_
    refine aw_iload_n 72 dX10_work_71 rfl rfl ?_
    obtain ⟨g9, H⟩ := H
    refine aw_callV (stk := []) (ci := 10) [.int x5, .int x1, .int x2] 75 dX10_work_72 rfl mv_X10_273 ⟨by decide, by decide⟩ g9 (by intro r hr; cases hr; rfl) rfl rfl (by simp [Value.category]) (by decide) H ?_
    rintro _ h3 ⟨r1, rfl, H⟩
    refine aw_if_eq 107 78 dX10_work_75 rfl (by decide) (fun c10 => ?_) (fun c10 => ?_)
    · replace H := H.1 c10
      refine aw_iconst (v := 0) 108 dX10_work_107 rfl (by decide) ?_
      exact H
    · replace H := H.2 c10
      refine aw_iload 80 dX10_work_78 rfl rfl ?_
      refine aw_aload_n 81 dX10_work_80 rfl rfl ?_
      obtain ⟨g11, H⟩ := H
      refine aw_getI 84 dX10_work_81 rfl fl_X10_276 (by decide) g11 ?_
      refine aw_icmp_ne 103 87 dX10_work_84 rfl (by decide) (fun c12 => ?_) (fun c12 => ?_)
      · replace H := H.1 c12
        refine aw_iconst (v := 1) 104 dX10_work_103 rfl (by decide) ?_
        refine aw_goto 108 dX10_work_104 (by decide) ?_
        exact H
      · replace H := H.2 c12
        refine aw_iload_n 88 dX10_work_87 rfl rfl ?_
        refine aw_aload_n 89 dX10_work_88 rfl rfl ?_
        refine aw_getI 92 dX10_work_89 rfl fl_X10_279 (by decide) g11 ?_
        refine aw_icmp_ne 103 95 dX10_work_92 rfl (by decide) (fun c13 => ?_) (fun c13 => ?_)
        · replace H := H.1 c13
          refine aw_iconst (v := 1) 104 dX10_work_103 rfl (by decide) ?_
          refine aw_goto 108 dX10_work_104 (by decide) ?_
          exact H
        · replace H := H.2 c13
          refine aw_iload_n 96 dX10_work_95 rfl rfl ?_
          refine aw_aload_n 97 dX10_work_96 rfl rfl ?_
          refine aw_getI 100 dX10_work_97 rfl fl_X10_282 (by decide) g11 ?_
          refine aw_icmp_eq 107 103 dX10_work_100 rfl (by decide) (fun c14 => ?_) (fun c14 => ?_)
          · replace H := H.1 c14
            refine aw_iconst (v := 0) 108 dX10_work_107 rfl (by decide) ?_
            exact H
          · replace H := H.2 c14
            refine aw_iconst (v := 1) 104 dX10_work_103 rfl (by decide) ?_
            refine aw_goto 108 dX10_work_104 (by decide) ?_
            exact H
set_option maxHeartbeats 4000000 in
set_option maxRecDepth 100000 in
theorem sX10_work_108 {w : Wd} {Q : Hp → Prop} {h : Hp} {a0 : Nat} {x1 : Int32} {x2 : Int32} {x3 : Int32} {x4 : Int32} {x5 : Int32} {y0 : Int32} (H : ((y0 = 0 → AW w mX10_work 0 0 (rV Q) 0 0 137 [some (.ref a0), some (.int x1), some (.int x2), some (.int x3), some (.int x4), some (.int x5), some (.int y0), none, none, none, none] [.int 0] h) ∧ (¬ y0 = 0 → AC w mX10_leftOf 0 0 (rI fun r1 h1 => AC w mX10_rightOf 0 0 (rI fun r2 h2 => AW w mX10_work 0 0 (rV Q) 0 0 137 [some (.ref a0), some (.int x1), some (.int x2), some (.int x3), some (.int x4), some (.int x5), some (.int y0), none, none, none, none] [.int (((21 * (x1 + r1)) + x2) + r2)] h2) [.int x5] h1) [.int x5] h))) : AW w mX10_work 0 0 (rV Q) 0 0 108 [some (.ref a0), some (.int x1), some (.int x2), some (.int x3), some (.int x4), some (.int x5), none, none, none, none, none] [.int y0] h := by
  refine aw_istore (loc' := [some (.ref a0), some (.int x1), some (.int x2), some (.int x3), some (.int x4), some (.int x5), some (.int y0), none, none, none, none]) 110 dX10_work_108 rfl (by decide) rfl ?_
  refine aw_iload 112 dX10_work_110 rfl rfl ?_
  refine aw_if_eq 136 115 dX10_work_112 rfl (by decide) (fun c1 => ?_) (fun c1 => ?_)
  · replace H := H.1 c1
    refine aw_iconst (v := 0) 137 dX10_work_136 rfl (by decide) ?_
    exact H
  · replace H := H.2 c1
    refine aw_bipush (v := 21) 117 dX10_work_115 rfl (by decide) ?_
    refine aw_iload_n 118 dX10_work_117 rfl rfl ?_
    refine aw_iload 120 dX10_work_118 rfl rfl ?_
    refine aw_callS (stk := [.int x1, .int 21]) [.int x5] 123 dX10_work_120 rfl mv_X10_254 ⟨by decide, by decide⟩ rfl rfl (by simp [Value.category]) (by decide) H ?_
    rintro _ h1 ⟨r1, rfl, H⟩
    refine aw_iadd 124 dX10_work_123 rfl ?_
    refine aw_imul 125 dX10_work_124 rfl ?_
    refine aw_iload_n 126 dX10_work_125 rfl rfl ?_
    refine aw_iadd 127 dX10_work_126 rfl ?_
    refine aw_iload 129 dX10_work_127 rfl rfl ?_
    refine aw_callS (stk := [.int ((21 * (x1 + r1)) + x2)]) [.int x5] 132 dX10_work_129 rfl mv_X10_257 ⟨by decide, by decide⟩ rfl rfl (by simp [Value.category]) (by decide) H ?_
    rintro _ h2 ⟨r2, rfl, H⟩
    refine aw_iadd 133 dX10_work_132 rfl ?_
    refine aw_goto 137 dX10_work_133 (by decide) ?_
    exact H
set_option maxHeartbeats 4000000 in
set_option maxRecDepth 100000 in
theorem sX10_work_137 {w : Wd} {Q : Hp → Prop} {h : Hp} {a0 : Nat} {x1 : Int32} {x2 : Int32} {x3 : Int32} {x4 : Int32} {x5 : Int32} {x6 : Int32} {y0 : Int32} (H : ((x6 = 0 → AW w mX10_work 0 0 (rV Q) 0 0 60 [some (.ref a0), some (.int x1), some (.int x2), some (.int x3), some (.int x4), some (.int (x5 + 1)), none, none, none, none, none] [] h) ∧ (¬ x6 = 0 → (hs h a0).1 = 30 ∧ hR h a0 37 ≠ 0 ∧ (hs h (hR h a0 37)).1 = 1 ∧ vp_in y0 (hs h (hR h a0 37)).2 ∧ ((1000000000 ≤ (hI h (hR h a0 37) y0.toNatClampNeg) → AW w mX10_work 0 0 (rV Q) 0 0 60 [some (.ref a0), some (.int x1), some (.int x2), some (.int x3), some (.int x4), some (.int (x5 + 1)), none, none, none, none, none] [] h) ∧ (¬ 1000000000 ≤ (hI h (hR h a0 37) y0.toNatClampNeg) → AC w mX10_priceOf 0 0 (rI fun r1 h1 => (hs h1 a0).1 = 30 ∧ hR h1 a0 37 ≠ 0 ∧ (hs h1 (hR h1 a0 37)).1 = 1 ∧ vp_in y0 (hs h1 (hR h1 a0 37)).2 ∧ hR h1 a0 38 ≠ 0 ∧ (hs h1 (hR h1 a0 38)).1 = 1 ∧ vp_in y0 (hs h1 (hR h1 a0 38)).2 ∧ ((1000000000 ≤ (hI h1 (hR h1 a0 38) y0.toNatClampNeg) → AW w mX10_work 0 0 (rV Q) 0 0 208 [some (.ref a0), some (.int x1), some (.int x2), some (.int x3), some (.int x4), some (.int x5), none, none, none, some (.int (r1 + (hI h1 (hR h1 a0 37) y0.toNatClampNeg))), none] [.int 1000000000] h1) ∧ (¬ 1000000000 ≤ (hI h1 (hR h1 a0 38) y0.toNatClampNeg) → AW w mX10_work 0 0 (rV Q) 0 0 208 [some (.ref a0), some (.int x1), some (.int x2), some (.int x3), some (.int x4), some (.int x5), none, none, none, some (.int (r1 + (hI h1 (hR h1 a0 37) y0.toNatClampNeg))), none] [.int (r1 + (hI h1 (hR h1 a0 38) y0.toNatClampNeg))] h1))) [.ref a0, .int x5, .int x1, .int x2] h))))) : AW w mX10_work 0 0 (rV Q) 0 0 137 [some (.ref a0), some (.int x1), some (.int x2), some (.int x3), some (.int x4), some (.int x5), some (.int x6), none, none, none, none] [.int y0] h := by
  refine aw_istore (loc' := [some (.ref a0), some (.int x1), some (.int x2), some (.int x3), some (.int x4), some (.int x5), some (.int x6), some (.int y0), none, none, none]) 139 dX10_work_137 rfl (by decide) rfl ?_
  refine aw_iload 141 dX10_work_139 rfl rfl ?_
  refine aw_if_eq 260 144 dX10_work_141 rfl (by decide) (fun c1 => ?_) (fun c1 => ?_)
  · replace H := H.1 c1
    refine aw_iinc (y := 1) (loc' := [some (.ref a0), some (.int x1), some (.int x2), some (.int x3), some (.int x4), some (.int (x5 + 1)), some (.int x6), some (.int y0), none, none, none]) 263 dX10_work_260 rfl (by decide) rfl (by decide) rfl ?_
    refine aw_goto 60 dX10_work_263 (by decide) ?_
    exact aw_fgt (by simp [leL]) H
  · replace H := H.2 c1
    refine aw_aload_n 145 dX10_work_144 rfl rfl ?_
    obtain ⟨g2, H⟩ := H
    obtain ⟨g3, H⟩ := H
    refine aw_getR 148 dX10_work_145 rfl fl_X10_79 ir_10_37 g2 rfl g3 ?_
    refine aw_iload 150 dX10_work_148 rfl rfl ?_
    obtain ⟨g4, H⟩ := H
    obtain ⟨g5, H⟩ := H
    refine aw_iald 151 dX10_work_150 rfl (Or.inl (shp g4)) g5 ?_
    refine aw_ldcw 154 dX10_work_151 rfl kc_X10_272 ?_
    refine aw_icmp_ge 260 157 dX10_work_154 rfl (by decide) (fun c6 => ?_) (fun c6 => ?_)
    · replace H := H.1 c6
      refine aw_iinc (y := 1) (loc' := [some (.ref a0), some (.int x1), some (.int x2), some (.int x3), some (.int x4), some (.int (x5 + 1)), some (.int x6), some (.int y0), none, none, none]) 263 dX10_work_260 rfl (by decide) rfl (by decide) rfl ?_
      refine aw_goto 60 dX10_work_263 (by decide) ?_
      exact aw_fgt (by simp [leL]) H
    · replace H := H.2 c6
      refine aw_aload_n 158 dX10_work_157 rfl rfl ?_
      refine aw_iload 160 dX10_work_158 rfl rfl ?_
      refine aw_iload_n 161 dX10_work_160 rfl rfl ?_
      refine aw_iload_n 162 dX10_work_161 rfl rfl ?_
      refine aw_callV (stk := []) (ci := 10) [.int x5, .int x1, .int x2] 165 dX10_work_162 rfl mv_X10_285 ⟨by decide, by decide⟩ g2 (by intro r hr; cases hr; rfl) rfl rfl (by simp [Value.category]) (by decide) H ?_
      rintro _ h1 ⟨r1, rfl, H⟩
      refine aw_istore (loc' := [some (.ref a0), some (.int x1), some (.int x2), some (.int x3), some (.int x4), some (.int x5), some (.int x6), some (.int y0), some (.int r1), none, none]) 167 dX10_work_165 rfl (by decide) rfl ?_
      refine aw_iload 169 dX10_work_167 rfl rfl ?_
      refine aw_aload_n 170 dX10_work_169 rfl rfl ?_
      obtain ⟨g7, H⟩ := H
      obtain ⟨g8, H⟩ := H
      refine aw_getR 173 dX10_work_170 rfl fl_X10_79 ir_10_37 g7 rfl g8 ?_
      refine aw_iload 175 dX10_work_173 rfl rfl ?_
      obtain ⟨g9, H⟩ := H
      obtain ⟨g10, H⟩ := H
      refine aw_iald 176 dX10_work_175 rfl (Or.inl (shp g9)) g10 ?_
      refine aw_iadd 177 dX10_work_176 rfl ?_
      refine aw_istore (loc' := [some (.ref a0), some (.int x1), some (.int x2), some (.int x3), some (.int x4), some (.int x5), some (.int x6), some (.int y0), some (.int r1), some (.int (r1 + (hI h1 (hR h1 a0 37) y0.toNatClampNeg))), none]) 179 dX10_work_177 rfl (by decide) rfl ?_
      refine aw_aload_n 180 dX10_work_179 rfl rfl ?_
      obtain ⟨g11, H⟩ := H
      refine aw_getR 183 dX10_work_180 rfl fl_X10_82 ir_10_38 g7 rfl g11 ?_
      refine aw_iload 185 dX10_work_183 rfl rfl ?_
      obtain ⟨g12, H⟩ := H
      obtain ⟨g13, H⟩ := H
      refine aw_iald 186 dX10_work_185 rfl (Or.inl (shp g12)) g13 ?_
      refine aw_ldcw 189 dX10_work_186 rfl kc_X10_272 ?_
      refine aw_icmp_ge 205 192 dX10_work_189 rfl (by decide) (fun c14 => ?_) (fun c14 => ?_)
      · replace H := H.1 c14
        refine aw_ldcw 208 dX10_work_205 rfl kc_X10_272 ?_
        exact aw_fgt (by simp [leL]) H
      · replace H := H.2 c14
        refine aw_iload 194 dX10_work_192 rfl rfl ?_
        refine aw_aload_n 195 dX10_work_194 rfl rfl ?_
        refine aw_getR 198 dX10_work_195 rfl fl_X10_82 ir_10_38 g7 rfl g11 ?_
        refine aw_iload 200 dX10_work_198 rfl rfl ?_
        refine aw_iald 201 dX10_work_200 rfl (Or.inl (shp g12)) g13 ?_
        refine aw_iadd 202 dX10_work_201 rfl ?_
        refine aw_goto 208 dX10_work_202 (by decide) ?_
        exact aw_fgt (by simp [leL]) H
set_option maxHeartbeats 4000000 in
set_option maxRecDepth 100000 in
theorem sX10_work_208 {w : Wd} {Q : Hp → Prop} {h : Hp} {a0 : Nat} {x1 : Int32} {x2 : Int32} {x3 : Int32} {x4 : Int32} {x5 : Int32} {x9 : Int32} {y0 : Int32} (H : ((x3 ≤ x9 → ((x4 ≤ x9 → AW w mX10_work 0 0 (rV Q) 0 0 245 [some (.ref a0), some (.int x1), some (.int x2), some (.int x3), none, some (.int x5), none, none, none, some (.int x9), none] [.int x4] h) ∧ (¬ x4 ≤ x9 → AW w mX10_work 0 0 (rV Q) 0 0 245 [some (.ref a0), some (.int x1), some (.int x2), some (.int x3), none, some (.int x5), none, none, none, some (.int x9), none] [.int x9] h))) ∧ (¬ x3 ≤ x9 → ((y0 ≤ x3 → AW w mX10_work 0 0 (rV Q) 0 0 245 [some (.ref a0), some (.int x1), some (.int x2), some (.int x3), none, some (.int x5), none, none, none, some (.int x9), none] [.int y0] h) ∧ (¬ y0 ≤ x3 → AW w mX10_work 0 0 (rV Q) 0 0 245 [some (.ref a0), some (.int x1), some (.int x2), some (.int x3), none, some (.int x5), none, none, none, some (.int x9), none] [.int x3] h))))) : AW w mX10_work 0 0 (rV Q) 0 0 208 [some (.ref a0), some (.int x1), some (.int x2), some (.int x3), some (.int x4), some (.int x5), none, none, none, some (.int x9), none] [.int y0] h := by
  refine aw_istore (loc' := [some (.ref a0), some (.int x1), some (.int x2), some (.int x3), some (.int x4), some (.int x5), none, none, none, some (.int x9), some (.int y0)]) 210 dX10_work_208 rfl (by decide) rfl ?_
  refine aw_iload 212 dX10_work_210 rfl rfl ?_
  refine aw_iload_n 213 dX10_work_212 rfl rfl ?_
  refine aw_icmp_ge 231 216 dX10_work_213 rfl (by decide) (fun c1 => ?_) (fun c1 => ?_)
  · replace H := H.1 c1
    refine aw_iload 233 dX10_work_231 rfl rfl ?_
    refine aw_iload 235 dX10_work_233 rfl rfl ?_
    refine aw_icmp_ge 243 238 dX10_work_235 rfl (by decide) (fun c2 => ?_) (fun c2 => ?_)
    · replace H := H.1 c2
      refine aw_iload 245 dX10_work_243 rfl rfl ?_
      exact aw_fgt (by simp [leL]) H
    · replace H := H.2 c2
      refine aw_iload 240 dX10_work_238 rfl rfl ?_
      refine aw_goto 245 dX10_work_240 (by decide) ?_
      exact aw_fgt (by simp [leL]) H
  · replace H := H.2 c1
    refine aw_iload_n 217 dX10_work_216 rfl rfl ?_
    refine aw_iload 219 dX10_work_217 rfl rfl ?_
    refine aw_icmp_ge 226 222 dX10_work_219 rfl (by decide) (fun c3 => ?_) (fun c3 => ?_)
    · replace H := H.1 c3
      refine aw_iload 228 dX10_work_226 rfl rfl ?_
      refine aw_goto 245 dX10_work_228 (by decide) ?_
      exact aw_fgt (by simp [leL]) H
    · replace H := H.2 c3
      refine aw_iload_n 223 dX10_work_222 rfl rfl ?_
      refine aw_goto 245 dX10_work_223 (by decide) ?_
      exact aw_fgt (by simp [leL]) H
set_option maxHeartbeats 4000000 in
set_option maxRecDepth 100000 in
theorem sX10_work_245 {w : Wd} {Q : Hp → Prop} {h : Hp} {a0 : Nat} {x1 : Int32} {x2 : Int32} {x3 : Int32} {x5 : Int32} {x9 : Int32} {y0 : Int32} (H : ((x3 ≤ x9 → AW w mX10_work 0 0 (rV Q) 0 0 60 [some (.ref a0), some (.int x1), some (.int x2), some (.int x3), some (.int y0), some (.int (x5 + 1)), none, none, none, none, none] [] h) ∧ (¬ x3 ≤ x9 → AW w mX10_work 0 0 (rV Q) 0 0 60 [some (.ref a0), some (.int x1), some (.int x2), some (.int x9), some (.int y0), some (.int (x5 + 1)), none, none, none, none, none] [] h))) : AW w mX10_work 0 0 (rV Q) 0 0 245 [some (.ref a0), some (.int x1), some (.int x2), some (.int x3), none, some (.int x5), none, none, none, some (.int x9), none] [.int y0] h := by
  refine aw_istore (loc' := [some (.ref a0), some (.int x1), some (.int x2), some (.int x3), some (.int y0), some (.int x5), none, none, none, some (.int x9), none]) 247 dX10_work_245 rfl (by decide) rfl ?_
  refine aw_iload 249 dX10_work_247 rfl rfl ?_
  refine aw_iload_n 250 dX10_work_249 rfl rfl ?_
  refine aw_icmp_ge 258 253 dX10_work_250 rfl (by decide) (fun c1 => ?_) (fun c1 => ?_)
  · replace H := H.1 c1
    refine aw_iload_n 259 dX10_work_258 rfl rfl ?_
    refine aw_istore_n (loc' := [some (.ref a0), some (.int x1), some (.int x2), some (.int x3), some (.int y0), some (.int x5), none, none, none, some (.int x9), none]) 260 dX10_work_259 rfl (by decide) rfl ?_
    refine aw_iinc (y := 1) (loc' := [some (.ref a0), some (.int x1), some (.int x2), some (.int x3), some (.int y0), some (.int (x5 + 1)), none, none, none, some (.int x9), none]) 263 dX10_work_260 rfl (by decide) rfl (by decide) rfl ?_
    refine aw_goto 60 dX10_work_263 (by decide) ?_
    exact aw_fgt (by simp [leL]) H
  · replace H := H.2 c1
    refine aw_iload 255 dX10_work_253 rfl rfl ?_
    refine aw_goto 259 dX10_work_255 (by decide) ?_
    refine aw_istore_n (loc' := [some (.ref a0), some (.int x1), some (.int x2), some (.int x9), some (.int y0), some (.int x5), none, none, none, some (.int x9), none]) 260 dX10_work_259 rfl (by decide) rfl ?_
    refine aw_iinc (y := 1) (loc' := [some (.ref a0), some (.int x1), some (.int x2), some (.int x9), some (.int y0), some (.int (x5 + 1)), none, none, none, some (.int x9), none]) 263 dX10_work_260 rfl (by decide) rfl (by decide) rfl ?_
    refine aw_goto 60 dX10_work_263 (by decide) ?_
    exact aw_fgt (by simp [leL]) H
