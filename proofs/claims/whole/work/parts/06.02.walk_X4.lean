set_option maxHeartbeats 4000000 in
set_option maxRecDepth 100000 in
theorem sX4_deal_0 {w : Wd} {Q : Hp → Prop} {h : Hp} {a0 : Nat} {a1 : Nat} {x2 : Int32} {x3 : Int32} {a4 : Nat} {x5 : Int32} {x6 : Int32} (H : AW w mX4_deal 0 0 (rV Q) 0 0 3 [some (.ref a0), some (.ref a1), some (.int x2), some (.int x3), some (.ref a4), some (.int x5), some (.int x6), some (.int x2), none] [] h) : AW w mX4_deal 0 0 (rV Q) 0 0 0 [some (.ref a0), some (.ref a1), some (.int x2), some (.int x3), some (.ref a4), some (.int x5), some (.int x6), none, none] [] h := by
  refine aw_iload_n 1 dX4_deal_0 rfl rfl ?_
  refine aw_istore (loc' := [some (.ref a0), some (.ref a1), some (.int x2), some (.int x3), some (.ref a4), some (.int x5), some (.int x6), some (.int x2), none]) 3 dX4_deal_1 rfl (by decide) rfl ?_
  exact H
theorem eX4_deal {w : Wd} {Q : Hp → Prop} {h : Hp} {a0 : Nat} {a1 : Nat} {x2 : Int32} {x3 : Int32} {a4 : Nat} {x5 : Int32} {x6 : Int32} (H : AW w mX4_deal 0 0 (rV Q) 0 0 0 [some (.ref a0), some (.ref a1), some (.int x2), some (.int x3), some (.ref a4), some (.int x5), some (.int x6), none, none] [] h) : AC w mX4_deal 0 0 (rV Q) [.ref a0, .ref a1, .int x2, .int x3, .ref a4, .int x5, .int x6] h := AC.ofL (by decide) (by simp [enl, Value.category]) (by simp [leL, enl, Value.category]) H
set_option maxHeartbeats 4000000 in
set_option maxRecDepth 100000 in
theorem sX4_deal_3 {w : Wd} {Q : Hp → Prop} {h : Hp} {a0 : Nat} {a1 : Nat} {x2 : Int32} {x3 : Int32} {a4 : Nat} {x5 : Int32} {x6 : Int32} {x7 : Int32} (H : (((x2 + x3) ≤ x7 → Q h) ∧ (¬ (x2 + x3) ≤ x7 → AW w mX4_deal 0 0 (rV Q) 0 0 14 [some (.ref a0), some (.ref a1), some (.int x2), some (.int x3), some (.ref a4), some (.int x5), some (.int x6), some (.int x7), some (.int 0)] [] h))) : AW w mX4_deal 0 0 (rV Q) 0 0 3 [some (.ref a0), some (.ref a1), some (.int x2), some (.int x3), some (.ref a4), some (.int x5), some (.int x6), some (.int x7), none] [] h := by
  refine aw_iload 5 dX4_deal_3 rfl rfl ?_
  refine aw_iload_n 6 dX4_deal_5 rfl rfl ?_
  refine aw_iload_n 7 dX4_deal_6 rfl rfl ?_
  refine aw_iadd 8 dX4_deal_7 rfl ?_
  refine aw_icmp_ge 58 11 dX4_deal_8 rfl (by decide) (fun c1 => ?_) (fun c1 => ?_)
  · replace H := H.1 c1
    exact aw_return dX4_deal_58 rfl (by decide) (by decide) ⟨rfl, H⟩
  · replace H := H.2 c1
    refine aw_iconst (v := 0) 12 dX4_deal_11 rfl (by decide) ?_
    refine aw_istore (loc' := [some (.ref a0), some (.ref a1), some (.int x2), some (.int x3), some (.ref a4), some (.int x5), some (.int x6), some (.int x7), some (.int 0)]) 14 dX4_deal_12 rfl (by decide) rfl ?_
    exact H
set_option maxHeartbeats 4000000 in
set_option maxRecDepth 100000 in
theorem sX4_deal_14 {w : Wd} {Q : Hp → Prop} {h : Hp} {a0 : Nat} {a1 : Nat} {x2 : Int32} {x3 : Int32} {a4 : Nat} {x5 : Int32} {x6 : Int32} {x7 : Int32} {x8 : Int32} (H : (hs h a1).1 = 20 ∧ hR h a1 2 ≠ 0 ∧ (hs h (hR h a1 2)).1 = 1 ∧ vp_in x7 (hs h (hR h a1 2)).2 ∧ (((hI h (hR h a1 2) x7.toNatClampNeg) ≤ x8 → AW w mX4_deal 0 0 (rV Q) 0 0 3 [some (.ref a0), some (.ref a1), some (.int x2), some (.int x3), some (.ref a4), some (.int x5), some (.int x6), some (.int (x7 + 1)), none] [] h) ∧ (¬ (hI h (hR h a1 2) x7.toNatClampNeg) ≤ x8 → hR h a1 1 ≠ 0 ∧ (hs h (hR h a1 1)).1 = 6 ∧ vp_in x7 (hs h (hR h a1 1)).2 ∧ hR h (hR h a1 1) x7.toNatClampNeg ≠ 0 ∧ (hs h (hR h (hR h a1 1) x7.toNatClampNeg)).1 = 1 ∧ vp_in x8 (hs h (hR h (hR h a1 1) x7.toNatClampNeg)).2 ∧ (hs h a0).1 = 24 ∧ AC w mX4_dealWord 0 0 (rV fun h1 => AW w mX4_deal 0 0 (rV Q) 0 0 14 [some (.ref a0), some (.ref a1), some (.int x2), some (.int x3), some (.ref a4), some (.int x5), some (.int x6), some (.int x7), some (.int (x8 + 1))] [] h1) [.ref a0, .int (hI h (hR h (hR h a1 1) x7.toNatClampNeg) x8.toNatClampNeg), .ref a4, .int x5, .int x6] h))) : AW w mX4_deal 0 0 (rV Q) 0 0 14 [some (.ref a0), some (.ref a1), some (.int x2), some (.int x3), some (.ref a4), some (.int x5), some (.int x6), some (.int x7), some (.int x8)] [] h := by
  refine aw_iload 16 dX4_deal_14 rfl rfl ?_
  refine aw_aload_n 17 dX4_deal_16 rfl rfl ?_
  obtain ⟨g1, H⟩ := H
  obtain ⟨g2, H⟩ := H
  refine aw_getR 20 dX4_deal_17 rfl fl_X4_42 ir_0_2 g1 rfl g2 ?_
  refine aw_iload 22 dX4_deal_20 rfl rfl ?_
  obtain ⟨g3, H⟩ := H
  obtain ⟨g4, H⟩ := H
  refine aw_iald 23 dX4_deal_22 rfl (Or.inl (shp g3)) g4 ?_
  refine aw_icmp_ge 52 26 dX4_deal_23 rfl (by decide) (fun c5 => ?_) (fun c5 => ?_)
  · replace H := H.1 c5
    refine aw_iinc (y := 1) (loc' := [some (.ref a0), some (.ref a1), some (.int x2), some (.int x3), some (.ref a4), some (.int x5), some (.int x6), some (.int (x7 + 1)), some (.int x8)]) 55 dX4_deal_52 rfl (by decide) rfl (by decide) rfl ?_
    refine aw_goto 3 dX4_deal_55 (by decide) ?_
    exact aw_fgt (by simp [leL]) H
  · replace H := H.2 c5
    refine aw_aload_n 27 dX4_deal_26 rfl rfl ?_
    refine aw_aload_n 28 dX4_deal_27 rfl rfl ?_
    obtain ⟨g6, H⟩ := H
    refine aw_getR 31 dX4_deal_28 rfl fl_X4_47 ir_0_1 g1 rfl g6 ?_
    refine aw_iload 33 dX4_deal_31 rfl rfl ?_
    obtain ⟨g7, H⟩ := H
    obtain ⟨g8, H⟩ := H
    obtain ⟨g9, H⟩ := H
    refine aw_aald 34 dX4_deal_33 rfl (shp g7) (by decide) g8 rfl g9 ?_
    refine aw_iload 36 dX4_deal_34 rfl rfl ?_
    obtain ⟨g10, H⟩ := H
    obtain ⟨g11, H⟩ := H
    refine aw_iald 37 dX4_deal_36 rfl (Or.inl (shp g10)) g11 ?_
    refine aw_aload 39 dX4_deal_37 rfl rfl ?_
    refine aw_iload 41 dX4_deal_39 rfl rfl ?_
    refine aw_iload 43 dX4_deal_41 rfl rfl ?_
    obtain ⟨g12, H⟩ := H
    refine aw_callV (stk := []) (ci := 4) [.int (hI h (hR h (hR h a1 1) x7.toNatClampNeg) x8.toNatClampNeg), .ref a4, .int x5, .int x6] 46 dX4_deal_43 rfl mv_X4_50 ⟨by decide, by decide⟩ g12 (by intro r hr; cases hr; rfl) rfl rfl (by simp [Value.category]) (by decide) H ?_
    rintro _ h1 ⟨rfl, H⟩
    refine aw_iinc (y := 1) (loc' := [some (.ref a0), some (.ref a1), some (.int x2), some (.int x3), some (.ref a4), some (.int x5), some (.int x6), some (.int x7), some (.int (x8 + 1))]) 49 dX4_deal_46 rfl (by decide) rfl (by decide) rfl ?_
    refine aw_goto 14 dX4_deal_49 (by decide) ?_
    exact H
set_option maxHeartbeats 4000000 in
set_option maxRecDepth 100000 in
theorem sX4_dealWord_0 {w : Wd} {Q : Hp → Prop} {h : Hp} {a0 : Nat} {x1 : Int32} {a2 : Nat} {x3 : Int32} {x4 : Int32} (H : (hs h a0).1 = 24 ∧ hR h a0 0 ≠ 0 ∧ (hs h (hR h a0 0)).1 = 6 ∧ vp_in x1 (hs h (hR h a0 0)).2 ∧ hR h (hR h a0 0) x1.toNatClampNeg ≠ 0 ∧ (hs h (hR h (hR h a0 0) x1.toNatClampNeg)).1 = 1 ∧ vp_in 40 (hs h (hR h (hR h a0 0) x1.toNatClampNeg)).2 ∧ AW w mX4_dealWord 0 0 (rV Q) 0 0 15 [some (.ref a0), some (.int x1), some (.ref a2), some (.int x3), some (.int x4), some (.long ((hI h (hR h (hR h a0 0) x1.toNatClampNeg) (40 : Int32).toNatClampNeg).toInt64)), none, some (.int x3), none] [] h) : AW w mX4_dealWord 0 0 (rV Q) 0 0 0 [some (.ref a0), some (.int x1), some (.ref a2), some (.int x3), some (.int x4), none, none, none, none] [] h := by
  refine aw_aload_n 1 dX4_dealWord_0 rfl rfl ?_
  obtain ⟨g1, H⟩ := H
  obtain ⟨g2, H⟩ := H
  refine aw_getR 4 dX4_dealWord_1 rfl fl_X4_11 ir_4_0 g1 rfl g2 ?_
  refine aw_iload_n 5 dX4_dealWord_4 rfl rfl ?_
  obtain ⟨g3, H⟩ := H
  obtain ⟨g4, H⟩ := H
  obtain ⟨g5, H⟩ := H
  refine aw_aald 6 dX4_dealWord_5 rfl (shp g3) (by decide) g4 rfl g5 ?_
  refine aw_bipush (v := 40) 8 dX4_dealWord_6 rfl (by decide) ?_
  obtain ⟨g6, H⟩ := H
  obtain ⟨g7, H⟩ := H
  refine aw_iald 9 dX4_dealWord_8 rfl (Or.inl (shp g6)) g7 ?_
  refine aw_i2l 10 dX4_dealWord_9 rfl ?_
  refine aw_lstore (loc' := [some (.ref a0), some (.int x1), some (.ref a2), some (.int x3), some (.int x4), some (.long ((hI h (hR h (hR h a0 0) x1.toNatClampNeg) (40 : Int32).toNatClampNeg).toInt64)), none, none, none]) 12 dX4_dealWord_10 rfl (by decide) rfl ?_
  refine aw_iload_n 13 dX4_dealWord_12 rfl rfl ?_
  refine aw_istore (loc' := [some (.ref a0), some (.int x1), some (.ref a2), some (.int x3), some (.int x4), some (.long ((hI h (hR h (hR h a0 0) x1.toNatClampNeg) (40 : Int32).toNatClampNeg).toInt64)), none, some (.int x3), none]) 15 dX4_dealWord_13 rfl (by decide) rfl ?_
  exact H
theorem eX4_dealWord {w : Wd} {Q : Hp → Prop} {h : Hp} {a0 : Nat} {x1 : Int32} {a2 : Nat} {x3 : Int32} {x4 : Int32} (H : AW w mX4_dealWord 0 0 (rV Q) 0 0 0 [some (.ref a0), some (.int x1), some (.ref a2), some (.int x3), some (.int x4), none, none, none, none] [] h) : AC w mX4_dealWord 0 0 (rV Q) [.ref a0, .int x1, .ref a2, .int x3, .int x4] h := AC.ofL (by decide) (by simp [enl, Value.category]) (by simp [leL, enl, Value.category]) H
set_option maxHeartbeats 4000000 in
set_option maxRecDepth 100000 in
theorem sX4_dealWord_15 {w : Wd} {Q : Hp → Prop} {h : Hp} {a0 : Nat} {x1 : Int32} {a2 : Nat} {x3 : Int32} {x4 : Int32} {l5 : Int64} {x7 : Int32} (H : (((x3 + x4) ≤ x7 → ((0 < (lg_cmp l5 0) → AW w mX4_dealWord 0 0 (rV Q) 0 0 85 [some (.ref a0), some (.int x1), some (.ref a2), some (.int x3), some (.int x4), some (.long l5), none, some (.int x3), none] [] h) ∧ (¬ 0 < (lg_cmp l5 0) → Q h))) ∧ (¬ (x3 + x4) ≤ x7 → AW w mX4_dealWord 0 0 (rV Q) 0 0 27 [some (.ref a0), some (.int x1), some (.ref a2), some (.int x3), some (.int x4), some (.long l5), none, some (.int x7), some (.int 0)] [] h))) : AW w mX4_dealWord 0 0 (rV Q) 0 0 15 [some (.ref a0), some (.int x1), some (.ref a2), some (.int x3), some (.int x4), some (.long l5), none, some (.int x7), none] [] h := by
  refine aw_iload 17 dX4_dealWord_15 rfl rfl ?_
  refine aw_iload_n 18 dX4_dealWord_17 rfl rfl ?_
  refine aw_iload 20 dX4_dealWord_18 rfl rfl ?_
  refine aw_iadd 21 dX4_dealWord_20 rfl ?_
  refine aw_icmp_ge 74 24 dX4_dealWord_21 rfl (by decide) (fun c1 => ?_) (fun c1 => ?_)
  · replace H := H.1 c1
    refine aw_lload 76 dX4_dealWord_74 rfl rfl ?_
    refine aw_lconst (v := 0) 77 dX4_dealWord_76 rfl (by decide) ?_
    refine aw_lcmp 78 dX4_dealWord_77 rfl ?_
    refine aw_if_gt 82 81 dX4_dealWord_78 rfl (by decide) (fun c2 => ?_) (fun c2 => ?_)
    · replace H := H.1 c2
      refine aw_iload_n 83 dX4_dealWord_82 rfl rfl ?_
      refine aw_istore (loc' := [some (.ref a0), some (.int x1), some (.ref a2), some (.int x3), some (.int x4), some (.long l5), none, some (.int x3), none]) 85 dX4_dealWord_83 rfl (by decide) rfl ?_
      exact H
    · replace H := H.2 c2
      exact aw_return dX4_dealWord_81 rfl (by decide) (by decide) ⟨rfl, H⟩
  · replace H := H.2 c1
    refine aw_iconst (v := 0) 25 dX4_dealWord_24 rfl (by decide) ?_
    refine aw_istore (loc' := [some (.ref a0), some (.int x1), some (.ref a2), some (.int x3), some (.int x4), some (.long l5), none, some (.int x7), some (.int 0)]) 27 dX4_dealWord_25 rfl (by decide) rfl ?_
    exact H
set_option maxHeartbeats 4000000 in
set_option maxRecDepth 100000 in
theorem sX4_dealWord_27 {w : Wd} {Q : Hp → Prop} {h : Hp} {a0 : Nat} {x1 : Int32} {a2 : Nat} {x3 : Int32} {x4 : Int32} {l5 : Int64} {x7 : Int32} {x8 : Int32} (H : (hs h a2).1 = 20 ∧ hR h a2 2 ≠ 0 ∧ (hs h (hR h a2 2)).1 = 1 ∧ vp_in x7 (hs h (hR h a2 2)).2 ∧ (((hI h (hR h a2 2) x7.toNatClampNeg) ≤ x8 → AW w mX4_dealWord 0 0 (rV Q) 0 0 15 [some (.ref a0), some (.int x1), some (.ref a2), some (.int x3), some (.int x4), some (.long l5), none, some (.int (x7 + 1)), none] [] h) ∧ (¬ (hI h (hR h a2 2) x7.toNatClampNeg) ≤ x8 → (hs h a0).1 = 24 ∧ hR h a0 0 ≠ 0 ∧ (hs h (hR h a0 0)).1 = 6 ∧ vp_in x1 (hs h (hR h a0 0)).2 ∧ hR h (hR h a0 0) x1.toNatClampNeg ≠ 0 ∧ hR h a2 1 ≠ 0 ∧ (hs h (hR h a2 1)).1 = 6 ∧ vp_in x7 (hs h (hR h a2 1)).2 ∧ hR h (hR h a2 1) x7.toNatClampNeg ≠ 0 ∧ (hs h (hR h (hR h a2 1) x7.toNatClampNeg)).1 = 1 ∧ vp_in x8 (hs h (hR h (hR h a2 1) x7.toNatClampNeg)).2 ∧ (hs h (hR h (hR h a0 0) x1.toNatClampNeg)).1 = 1 ∧ vp_in (hI h (hR h (hR h a2 1) x7.toNatClampNeg) x8.toNatClampNeg) (hs h (hR h (hR h a0 0) x1.toNatClampNeg)).2 ∧ AW w mX4_dealWord 0 0 (rV Q) 0 0 27 [some (.ref a0), some (.int x1), some (.ref a2), some (.int x3), some (.int x4), some (.long (l5 + ((hI h (hR h (hR h a0 0) x1.toNatClampNeg) (hI h (hR h (hR h a2 1) x7.toNatClampNeg) x8.toNatClampNeg).toNatClampNeg).toInt64))), none, some (.int x7), some (.int (x8 + 1))] [] h))) : AW w mX4_dealWord 0 0 (rV Q) 0 0 27 [some (.ref a0), some (.int x1), some (.ref a2), some (.int x3), some (.int x4), some (.long l5), none, some (.int x7), some (.int x8)] [] h := by
  refine aw_iload 29 dX4_dealWord_27 rfl rfl ?_
  refine aw_aload_n 30 dX4_dealWord_29 rfl rfl ?_
  obtain ⟨g1, H⟩ := H
  obtain ⟨g2, H⟩ := H
  refine aw_getR 33 dX4_dealWord_30 rfl fl_X4_42 ir_0_2 g1 rfl g2 ?_
  refine aw_iload 35 dX4_dealWord_33 rfl rfl ?_
  obtain ⟨g3, H⟩ := H
  obtain ⟨g4, H⟩ := H
  refine aw_iald 36 dX4_dealWord_35 rfl (Or.inl (shp g3)) g4 ?_
  refine aw_icmp_ge 68 39 dX4_dealWord_36 rfl (by decide) (fun c5 => ?_) (fun c5 => ?_)
  · replace H := H.1 c5
    refine aw_iinc (y := 1) (loc' := [some (.ref a0), some (.int x1), some (.ref a2), some (.int x3), some (.int x4), some (.long l5), none, some (.int (x7 + 1)), some (.int x8)]) 71 dX4_dealWord_68 rfl (by decide) rfl (by decide) rfl ?_
    refine aw_goto 15 dX4_dealWord_71 (by decide) ?_
    exact aw_fgt (by simp [leL]) H
  · replace H := H.2 c5
    refine aw_lload 41 dX4_dealWord_39 rfl rfl ?_
    refine aw_aload_n 42 dX4_dealWord_41 rfl rfl ?_
    obtain ⟨g6, H⟩ := H
    obtain ⟨g7, H⟩ := H
    refine aw_getR 45 dX4_dealWord_42 rfl fl_X4_11 ir_4_0 g6 rfl g7 ?_
    refine aw_iload_n 46 dX4_dealWord_45 rfl rfl ?_
    obtain ⟨g8, H⟩ := H
    obtain ⟨g9, H⟩ := H
    obtain ⟨g10, H⟩ := H
    refine aw_aald 47 dX4_dealWord_46 rfl (shp g8) (by decide) g9 rfl g10 ?_
    refine aw_aload_n 48 dX4_dealWord_47 rfl rfl ?_
    obtain ⟨g11, H⟩ := H
    refine aw_getR 51 dX4_dealWord_48 rfl fl_X4_47 ir_0_1 g1 rfl g11 ?_
    refine aw_iload 53 dX4_dealWord_51 rfl rfl ?_
    obtain ⟨g12, H⟩ := H
    obtain ⟨g13, H⟩ := H
    obtain ⟨g14, H⟩ := H
    refine aw_aald 54 dX4_dealWord_53 rfl (shp g12) (by decide) g13 rfl g14 ?_
    refine aw_iload 56 dX4_dealWord_54 rfl rfl ?_
    obtain ⟨g15, H⟩ := H
    obtain ⟨g16, H⟩ := H
    refine aw_iald 57 dX4_dealWord_56 rfl (Or.inl (shp g15)) g16 ?_
    obtain ⟨g17, H⟩ := H
    obtain ⟨g18, H⟩ := H
    refine aw_iald 58 dX4_dealWord_57 rfl (Or.inl (shp g17)) g18 ?_
    refine aw_i2l 59 dX4_dealWord_58 rfl ?_
    refine aw_ladd 60 dX4_dealWord_59 rfl ?_
    refine aw_lstore (loc' := [some (.ref a0), some (.int x1), some (.ref a2), some (.int x3), some (.int x4), some (.long (l5 + ((hI h (hR h (hR h a0 0) x1.toNatClampNeg) (hI h (hR h (hR h a2 1) x7.toNatClampNeg) x8.toNatClampNeg).toNatClampNeg).toInt64))), none, some (.int x7), some (.int x8)]) 62 dX4_dealWord_60 rfl (by decide) rfl ?_
    refine aw_iinc (y := 1) (loc' := [some (.ref a0), some (.int x1), some (.ref a2), some (.int x3), some (.int x4), some (.long (l5 + ((hI h (hR h (hR h a0 0) x1.toNatClampNeg) (hI h (hR h (hR h a2 1) x7.toNatClampNeg) x8.toNatClampNeg).toNatClampNeg).toInt64))), none, some (.int x7), some (.int (x8 + 1))]) 65 dX4_dealWord_62 rfl (by decide) rfl (by decide) rfl ?_
    refine aw_goto 27 dX4_dealWord_65 (by decide) ?_
    exact H
set_option maxHeartbeats 4000000 in
set_option maxRecDepth 100000 in
theorem sX4_dealWord_85 {w : Wd} {Q : Hp → Prop} {h : Hp} {a0 : Nat} {x1 : Int32} {a2 : Nat} {x3 : Int32} {x4 : Int32} {l5 : Int64} {x7 : Int32} (H : (((x3 + x4) ≤ x7 → (hs h a0).1 = 24 ∧ AC w mX4_dealPart 0 0 (rV fun h1 => Q h1) [.ref a0, .int x1, .int 40, .long l5] h) ∧ (¬ (x3 + x4) ≤ x7 → AW w mX4_dealWord 0 0 (rV Q) 0 0 97 [some (.ref a0), some (.int x1), some (.ref a2), some (.int x3), some (.int x4), some (.long l5), none, some (.int x7), some (.int 0)] [] h))) : AW w mX4_dealWord 0 0 (rV Q) 0 0 85 [some (.ref a0), some (.int x1), some (.ref a2), some (.int x3), some (.int x4), some (.long l5), none, some (.int x7), none] [] h := by
  refine aw_iload 87 dX4_dealWord_85 rfl rfl ?_
  refine aw_iload_n 88 dX4_dealWord_87 rfl rfl ?_
  refine aw_iload 90 dX4_dealWord_88 rfl rfl ?_
  refine aw_iadd 91 dX4_dealWord_90 rfl ?_
  refine aw_icmp_ge 138 94 dX4_dealWord_91 rfl (by decide) (fun c1 => ?_) (fun c1 => ?_)
  · replace H := H.1 c1
    refine aw_aload_n 139 dX4_dealWord_138 rfl rfl ?_
    refine aw_iload_n 140 dX4_dealWord_139 rfl rfl ?_
    refine aw_bipush (v := 40) 142 dX4_dealWord_140 rfl (by decide) ?_
    refine aw_lload 144 dX4_dealWord_142 rfl rfl ?_
    obtain ⟨g2, H⟩ := H
    refine aw_callV (stk := []) (ci := 4) [.int x1, .int 40, .long l5] 147 dX4_dealWord_144 rfl mv_X4_54 ⟨by decide, by decide⟩ g2 (by intro r hr; cases hr; rfl) rfl rfl (by simp [Value.category]) (by decide) H ?_
    rintro _ h1 ⟨rfl, H⟩
    exact aw_return dX4_dealWord_147 rfl (by decide) (by decide) ⟨rfl, H⟩
  · replace H := H.2 c1
    refine aw_iconst (v := 0) 95 dX4_dealWord_94 rfl (by decide) ?_
    refine aw_istore (loc' := [some (.ref a0), some (.int x1), some (.ref a2), some (.int x3), some (.int x4), some (.long l5), none, some (.int x7), some (.int 0)]) 97 dX4_dealWord_95 rfl (by decide) rfl ?_
    exact H
set_option maxHeartbeats 4000000 in
set_option maxRecDepth 100000 in
theorem sX4_dealWord_97 {w : Wd} {Q : Hp → Prop} {h : Hp} {a0 : Nat} {x1 : Int32} {a2 : Nat} {x3 : Int32} {x4 : Int32} {l5 : Int64} {x7 : Int32} {x8 : Int32} (H : (hs h a2).1 = 20 ∧ hR h a2 2 ≠ 0 ∧ (hs h (hR h a2 2)).1 = 1 ∧ vp_in x7 (hs h (hR h a2 2)).2 ∧ (((hI h (hR h a2 2) x7.toNatClampNeg) ≤ x8 → AW w mX4_dealWord 0 0 (rV Q) 0 0 85 [some (.ref a0), some (.int x1), some (.ref a2), some (.int x3), some (.int x4), some (.long l5), none, some (.int (x7 + 1)), none] [] h) ∧ (¬ (hI h (hR h a2 2) x7.toNatClampNeg) ≤ x8 → hR h a2 1 ≠ 0 ∧ (hs h (hR h a2 1)).1 = 6 ∧ vp_in x7 (hs h (hR h a2 1)).2 ∧ hR h (hR h a2 1) x7.toNatClampNeg ≠ 0 ∧ (hs h (hR h (hR h a2 1) x7.toNatClampNeg)).1 = 1 ∧ vp_in x8 (hs h (hR h (hR h a2 1) x7.toNatClampNeg)).2 ∧ (hs h a0).1 = 24 ∧ AC w mX4_dealPart 0 0 (rV fun h1 => AW w mX4_dealWord 0 0 (rV Q) 0 0 97 [some (.ref a0), some (.int x1), some (.ref a2), some (.int x3), some (.int x4), some (.long l5), none, some (.int x7), some (.int (x8 + 1))] [] h1) [.ref a0, .int x1, .int (hI h (hR h (hR h a2 1) x7.toNatClampNeg) x8.toNatClampNeg), .long l5] h))) : AW w mX4_dealWord 0 0 (rV Q) 0 0 97 [some (.ref a0), some (.int x1), some (.ref a2), some (.int x3), some (.int x4), some (.long l5), none, some (.int x7), some (.int x8)] [] h := by
  refine aw_iload 99 dX4_dealWord_97 rfl rfl ?_
  refine aw_aload_n 100 dX4_dealWord_99 rfl rfl ?_
  obtain ⟨g1, H⟩ := H
  obtain ⟨g2, H⟩ := H
  refine aw_getR 103 dX4_dealWord_100 rfl fl_X4_42 ir_0_2 g1 rfl g2 ?_
  refine aw_iload 105 dX4_dealWord_103 rfl rfl ?_
  obtain ⟨g3, H⟩ := H
  obtain ⟨g4, H⟩ := H
  refine aw_iald 106 dX4_dealWord_105 rfl (Or.inl (shp g3)) g4 ?_
  refine aw_icmp_ge 132 109 dX4_dealWord_106 rfl (by decide) (fun c5 => ?_) (fun c5 => ?_)
  · replace H := H.1 c5
    refine aw_iinc (y := 1) (loc' := [some (.ref a0), some (.int x1), some (.ref a2), some (.int x3), some (.int x4), some (.long l5), none, some (.int (x7 + 1)), some (.int x8)]) 135 dX4_dealWord_132 rfl (by decide) rfl (by decide) rfl ?_
    refine aw_goto 85 dX4_dealWord_135 (by decide) ?_
    exact aw_fgt (by simp [leL]) H
  · replace H := H.2 c5
    refine aw_aload_n 110 dX4_dealWord_109 rfl rfl ?_
    refine aw_iload_n 111 dX4_dealWord_110 rfl rfl ?_
    refine aw_aload_n 112 dX4_dealWord_111 rfl rfl ?_
    obtain ⟨g6, H⟩ := H
    refine aw_getR 115 dX4_dealWord_112 rfl fl_X4_47 ir_0_1 g1 rfl g6 ?_
    refine aw_iload 117 dX4_dealWord_115 rfl rfl ?_
    obtain ⟨g7, H⟩ := H
    obtain ⟨g8, H⟩ := H
    obtain ⟨g9, H⟩ := H
    refine aw_aald 118 dX4_dealWord_117 rfl (shp g7) (by decide) g8 rfl g9 ?_
    refine aw_iload 120 dX4_dealWord_118 rfl rfl ?_
    obtain ⟨g10, H⟩ := H
    obtain ⟨g11, H⟩ := H
    refine aw_iald 121 dX4_dealWord_120 rfl (Or.inl (shp g10)) g11 ?_
    refine aw_lload 123 dX4_dealWord_121 rfl rfl ?_
    obtain ⟨g12, H⟩ := H
    refine aw_callV (stk := []) (ci := 4) [.int x1, .int (hI h (hR h (hR h a2 1) x7.toNatClampNeg) x8.toNatClampNeg), .long l5] 126 dX4_dealWord_123 rfl mv_X4_54 ⟨by decide, by decide⟩ g12 (by intro r hr; cases hr; rfl) rfl rfl (by simp [Value.category]) (by decide) H ?_
    rintro _ h1 ⟨rfl, H⟩
    refine aw_iinc (y := 1) (loc' := [some (.ref a0), some (.int x1), some (.ref a2), some (.int x3), some (.int x4), some (.long l5), none, some (.int x7), some (.int (x8 + 1))]) 129 dX4_dealWord_126 rfl (by decide) rfl (by decide) rfl ?_
    refine aw_goto 97 dX4_dealWord_129 (by decide) ?_
    exact H
set_option maxHeartbeats 4000000 in
set_option maxRecDepth 100000 in
theorem sX4_dealPart_0 {w : Wd} {Q : Hp → Prop} {h : Hp} {a0 : Nat} {x1 : Int32} {x2 : Int32} {l3 : Int64} (H : (hs h a0).1 = 24 ∧ hR h a0 1 ≠ 0 ∧ (hs h (hR h a0 1)).1 = 8 ∧ vp_in x1 (hs h (hR h a0 1)).2 ∧ hR h (hR h a0 1) x1.toNatClampNeg ≠ 0 ∧ (hs h (hR h (hR h a0 1) x1.toNatClampNeg)).1 = 5 ∧ vp_in x2 (hs h (hR h (hR h a0 1) x1.toNatClampNeg)).2 ∧ hR h a0 0 ≠ 0 ∧ (hs h (hR h a0 0)).1 = 6 ∧ vp_in x1 (hs h (hR h a0 0)).2 ∧ hR h (hR h a0 0) x1.toNatClampNeg ≠ 0 ∧ (hs h (hR h (hR h a0 0) x1.toNatClampNeg)).1 = 1 ∧ vp_in x2 (hs h (hR h (hR h a0 0) x1.toNatClampNeg)).2 ∧ ¬ l3 = 0 ∧ ∀ h1, h1 = sL h (hR h (hR h a0 1) x1.toNatClampNeg) x2.toNatClampNeg ((hL h (hR h (hR h a0 1) x1.toNatClampNeg) x2.toNatClampNeg) + ((1048576 * ((hI h (hR h (hR h a0 0) x1.toNatClampNeg) x2.toNatClampNeg).toInt64)) / l3)) → Q h1) : AW w mX4_dealPart 0 0 (rV Q) 0 0 0 [some (.ref a0), some (.int x1), some (.int x2), some (.long l3), none] [] h := by
  refine aw_aload_n 1 dX4_dealPart_0 rfl rfl ?_
  obtain ⟨g1, H⟩ := H
  obtain ⟨g2, H⟩ := H
  refine aw_getR 4 dX4_dealPart_1 rfl fl_X4_18 ir_4_1 g1 rfl g2 ?_
  refine aw_iload_n 5 dX4_dealPart_4 rfl rfl ?_
  obtain ⟨g3, H⟩ := H
  obtain ⟨g4, H⟩ := H
  obtain ⟨g5, H⟩ := H
  refine aw_aald 6 dX4_dealPart_5 rfl (shp g3) (by decide) g4 rfl g5 ?_
  refine aw_iload_n 7 dX4_dealPart_6 rfl rfl ?_
  refine aw_dup2 8 dX4_dealPart_7 rfl rfl rfl ?_
  obtain ⟨g6, H⟩ := H
  obtain ⟨g7, H⟩ := H
  refine aw_lald 9 dX4_dealPart_8 rfl (shp g6) g7 ?_
  refine aw_ldc2 12 dX4_dealPart_9 rfl kc_X4_58 ?_
  refine aw_aload_n 13 dX4_dealPart_12 rfl rfl ?_
  obtain ⟨g8, H⟩ := H
  refine aw_getR 16 dX4_dealPart_13 rfl fl_X4_11 ir_4_0 g1 rfl g8 ?_
  refine aw_iload_n 17 dX4_dealPart_16 rfl rfl ?_
  obtain ⟨g9, H⟩ := H
  obtain ⟨g10, H⟩ := H
  obtain ⟨g11, H⟩ := H
  refine aw_aald 18 dX4_dealPart_17 rfl (shp g9) (by decide) g10 rfl g11 ?_
  refine aw_iload_n 19 dX4_dealPart_18 rfl rfl ?_
  obtain ⟨g12, H⟩ := H
  obtain ⟨g13, H⟩ := H
  refine aw_iald 20 dX4_dealPart_19 rfl (Or.inl (shp g12)) g13 ?_
  refine aw_i2l 21 dX4_dealPart_20 rfl ?_
  refine aw_lmul 22 dX4_dealPart_21 rfl ?_
  refine aw_lload_n 23 dX4_dealPart_22 rfl rfl ?_
  obtain ⟨g14, H⟩ := H
  refine aw_ldiv 24 dX4_dealPart_23 rfl g14 ?_
  refine aw_ladd 25 dX4_dealPart_24 rfl ?_
  refine aw_last 26 dX4_dealPart_25 rfl (shp g6) g7 ?_
  replace H := H _ rfl
  exact aw_return dX4_dealPart_26 rfl (by decide) (by decide) ⟨rfl, H⟩
theorem eX4_dealPart {w : Wd} {Q : Hp → Prop} {h : Hp} {a0 : Nat} {x1 : Int32} {x2 : Int32} {l3 : Int64} (H : AW w mX4_dealPart 0 0 (rV Q) 0 0 0 [some (.ref a0), some (.int x1), some (.int x2), some (.long l3), none] [] h) : AC w mX4_dealPart 0 0 (rV Q) [.ref a0, .int x1, .int x2, .long l3] h := AC.ofL (by decide) (by simp [enl, Value.category]) (by simp [leL, enl, Value.category]) H
set_option maxHeartbeats 4000000 in
set_option maxRecDepth 100000 in
theorem sX4_settle_0 {w : Wd} {Q : Hp → Prop} {h : Hp} {a0 : Nat} (H : AW w mX4_settle 0 0 (rV Q) 0 0 2 [some (.ref a0), some (.int 0)] [] h) : AW w mX4_settle 0 0 (rV Q) 0 0 0 [some (.ref a0), none] [] h := by
  refine aw_iconst (v := 0) 1 dX4_settle_0 rfl (by decide) ?_
  refine aw_istore_n (loc' := [some (.ref a0), some (.int 0)]) 2 dX4_settle_1 rfl (by decide) rfl ?_
  exact H
theorem eX4_settle {w : Wd} {Q : Hp → Prop} {h : Hp} {a0 : Nat} (H : AW w mX4_settle 0 0 (rV Q) 0 0 0 [some (.ref a0), none] [] h) : AC w mX4_settle 0 0 (rV Q) [.ref a0] h := AC.ofL (by decide) (by simp [enl, Value.category]) (by simp [leL, enl, Value.category]) H
set_option maxHeartbeats 4000000 in
set_option maxRecDepth 100000 in
theorem sX4_settle_2 {w : Wd} {Q : Hp → Prop} {h : Hp} {a0 : Nat} {x1 : Int32} (H : (hs h a0).1 = 24 ∧ (((hI h a0 3) ≤ x1 → Q h) ∧ (¬ (hI h a0 3) ≤ x1 → AC w mX4_settleKind 0 0 (rV fun h1 => (hs h1 a0).1 = 24 ∧ AC w mX4_obeyTerm 0 0 (rV fun h2 => AW w mX4_settle 0 0 (rV Q) 0 0 2 [some (.ref a0), some (.int (x1 + 1))] [] h2) [.ref a0, .int x1] h1) [.ref a0, .int x1] h))) : AW w mX4_settle 0 0 (rV Q) 0 0 2 [some (.ref a0), some (.int x1)] [] h := by
  refine aw_iload_n 3 dX4_settle_2 rfl rfl ?_
  refine aw_aload_n 4 dX4_settle_3 rfl rfl ?_
  obtain ⟨g1, H⟩ := H
  refine aw_getI 7 dX4_settle_4 rfl fl_X4_31 (by decide) g1 ?_
  refine aw_icmp_ge 26 10 dX4_settle_7 rfl (by decide) (fun c2 => ?_) (fun c2 => ?_)
  · replace H := H.1 c2
    exact aw_return dX4_settle_26 rfl (by decide) (by decide) ⟨rfl, H⟩
  · replace H := H.2 c2
    refine aw_aload_n 11 dX4_settle_10 rfl rfl ?_
    refine aw_iload_n 12 dX4_settle_11 rfl rfl ?_
    refine aw_callV (stk := []) (ci := 4) [.int x1] 15 dX4_settle_12 rfl mv_X4_60 ⟨by decide, by decide⟩ g1 (by intro r hr; cases hr; rfl) rfl rfl (by simp [Value.category]) (by decide) H ?_
    rintro _ h1 ⟨rfl, H⟩
    refine aw_aload_n 16 dX4_settle_15 rfl rfl ?_
    refine aw_iload_n 17 dX4_settle_16 rfl rfl ?_
    obtain ⟨g3, H⟩ := H
    refine aw_callV (stk := []) (ci := 4) [.int x1] 20 dX4_settle_17 rfl mv_X4_64 ⟨by decide, by decide⟩ g3 (by intro r hr; cases hr; rfl) rfl rfl (by simp [Value.category]) (by decide) H ?_
    rintro _ h2 ⟨rfl, H⟩
    refine aw_iinc (y := 1) (loc' := [some (.ref a0), some (.int (x1 + 1))]) 23 dX4_settle_20 rfl (by decide) rfl (by decide) rfl ?_
    refine aw_goto 2 dX4_settle_23 (by decide) ?_
    exact H
set_option maxHeartbeats 4000000 in
set_option maxRecDepth 100000 in
theorem sX4_settleKind_0 {w : Wd} {Q : Hp → Prop} {h : Hp} {a0 : Nat} {x1 : Int32} (H : (hs h a0).1 = 24 ∧ hR h a0 1 ≠ 0 ∧ (hs h (hR h a0 1)).1 = 8 ∧ vp_in x1 (hs h (hR h a0 1)).2 ∧ hR h (hR h a0 1) x1.toNatClampNeg ≠ 0 ∧ (hs h (hR h (hR h a0 1) x1.toNatClampNeg)).1 = 5 ∧ vp_in 40 (hs h (hR h (hR h a0 1) x1.toNatClampNeg)).2 ∧ AW w mX4_settleKind 0 0 (rV Q) 0 0 13 [some (.ref a0), some (.int x1), some (.long (hL h (hR h (hR h a0 1) x1.toNatClampNeg) (40 : Int32).toNatClampNeg)), none, some (.int 0)] [] h) : AW w mX4_settleKind 0 0 (rV Q) 0 0 0 [some (.ref a0), some (.int x1), none, none, none] [] h := by
  refine aw_aload_n 1 dX4_settleKind_0 rfl rfl ?_
  obtain ⟨g1, H⟩ := H
  obtain ⟨g2, H⟩ := H
  refine aw_getR 4 dX4_settleKind_1 rfl fl_X4_18 ir_4_1 g1 rfl g2 ?_
  refine aw_iload_n 5 dX4_settleKind_4 rfl rfl ?_
  obtain ⟨g3, H⟩ := H
  obtain ⟨g4, H⟩ := H
  obtain ⟨g5, H⟩ := H
  refine aw_aald 6 dX4_settleKind_5 rfl (shp g3) (by decide) g4 rfl g5 ?_
  refine aw_bipush (v := 40) 8 dX4_settleKind_6 rfl (by decide) ?_
  obtain ⟨g6, H⟩ := H
  obtain ⟨g7, H⟩ := H
  refine aw_lald 9 dX4_settleKind_8 rfl (shp g6) g7 ?_
  refine aw_lstore_n (loc' := [some (.ref a0), some (.int x1), some (.long (hL h (hR h (hR h a0 1) x1.toNatClampNeg) (40 : Int32).toNatClampNeg)), none, none]) 10 dX4_settleKind_9 rfl (by decide) rfl ?_
  refine aw_iconst (v := 0) 11 dX4_settleKind_10 rfl (by decide) ?_
  refine aw_istore (loc' := [some (.ref a0), some (.int x1), some (.long (hL h (hR h (hR h a0 1) x1.toNatClampNeg) (40 : Int32).toNatClampNeg)), none, some (.int 0)]) 13 dX4_settleKind_11 rfl (by decide) rfl ?_
  exact H
theorem eX4_settleKind {w : Wd} {Q : Hp → Prop} {h : Hp} {a0 : Nat} {x1 : Int32} (H : AW w mX4_settleKind 0 0 (rV Q) 0 0 0 [some (.ref a0), some (.int x1), none, none, none] [] h) : AC w mX4_settleKind 0 0 (rV Q) [.ref a0, .int x1] h := AC.ofL (by decide) (by simp [enl, Value.category]) (by simp [leL, enl, Value.category]) H
set_option maxHeartbeats 4000000 in
set_option maxRecDepth 100000 in
theorem sX4_settleKind_13 {w : Wd} {Q : Hp → Prop} {h : Hp} {a0 : Nat} {x1 : Int32} {l2 : Int64} {x4 : Int32} (H : (hs h a0).1 = 24 ∧ (((hI h a0 4) ≤ x4 → ((0 < (lg_cmp l2 0) → AW w mX4_settleKind 0 0 (rV Q) 0 0 50 [some (.ref a0), some (.int x1), some (.long l2), none, some (.int 0)] [] h) ∧ (¬ 0 < (lg_cmp l2 0) → Q h))) ∧ (¬ (hI h a0 4) ≤ x4 → hR h a0 1 ≠ 0 ∧ (hs h (hR h a0 1)).1 = 8 ∧ vp_in x1 (hs h (hR h a0 1)).2 ∧ hR h (hR h a0 1) x1.toNatClampNeg ≠ 0 ∧ (hs h (hR h (hR h a0 1) x1.toNatClampNeg)).1 = 5 ∧ vp_in x4 (hs h (hR h (hR h a0 1) x1.toNatClampNeg)).2 ∧ AW w mX4_settleKind 0 0 (rV Q) 0 0 13 [some (.ref a0), some (.int x1), some (.long (l2 + (hL h (hR h (hR h a0 1) x1.toNatClampNeg) x4.toNatClampNeg))), none, some (.int (x4 + 1))] [] h))) : AW w mX4_settleKind 0 0 (rV Q) 0 0 13 [some (.ref a0), some (.int x1), some (.long l2), none, some (.int x4)] [] h := by
  refine aw_iload 15 dX4_settleKind_13 rfl rfl ?_
  refine aw_aload_n 16 dX4_settleKind_15 rfl rfl ?_
  obtain ⟨g1, H⟩ := H
  refine aw_getI 19 dX4_settleKind_16 rfl fl_X4_35 (by decide) g1 ?_
  refine aw_icmp_ge 40 22 dX4_settleKind_19 rfl (by decide) (fun c2 => ?_) (fun c2 => ?_)
  · replace H := H.1 c2
    refine aw_lload_n 41 dX4_settleKind_40 rfl rfl ?_
    refine aw_lconst (v := 0) 42 dX4_settleKind_41 rfl (by decide) ?_
    refine aw_lcmp 43 dX4_settleKind_42 rfl ?_
    refine aw_if_gt 47 46 dX4_settleKind_43 rfl (by decide) (fun c3 => ?_) (fun c3 => ?_)
    · replace H := H.1 c3
      refine aw_iconst (v := 0) 48 dX4_settleKind_47 rfl (by decide) ?_
      refine aw_istore (loc' := [some (.ref a0), some (.int x1), some (.long l2), none, some (.int 0)]) 50 dX4_settleKind_48 rfl (by decide) rfl ?_
      exact H
    · replace H := H.2 c3
      exact aw_return dX4_settleKind_46 rfl (by decide) (by decide) ⟨rfl, H⟩
  · replace H := H.2 c2
    refine aw_lload_n 23 dX4_settleKind_22 rfl rfl ?_
    refine aw_aload_n 24 dX4_settleKind_23 rfl rfl ?_
    obtain ⟨g4, H⟩ := H
    refine aw_getR 27 dX4_settleKind_24 rfl fl_X4_18 ir_4_1 g1 rfl g4 ?_
    refine aw_iload_n 28 dX4_settleKind_27 rfl rfl ?_
    obtain ⟨g5, H⟩ := H
    obtain ⟨g6, H⟩ := H
    obtain ⟨g7, H⟩ := H
    refine aw_aald 29 dX4_settleKind_28 rfl (shp g5) (by decide) g6 rfl g7 ?_
    refine aw_iload 31 dX4_settleKind_29 rfl rfl ?_
    obtain ⟨g8, H⟩ := H
    obtain ⟨g9, H⟩ := H
    refine aw_lald 32 dX4_settleKind_31 rfl (shp g8) g9 ?_
    refine aw_ladd 33 dX4_settleKind_32 rfl ?_
    refine aw_lstore_n (loc' := [some (.ref a0), some (.int x1), some (.long (l2 + (hL h (hR h (hR h a0 1) x1.toNatClampNeg) x4.toNatClampNeg))), none, some (.int x4)]) 34 dX4_settleKind_33 rfl (by decide) rfl ?_
    refine aw_iinc (y := 1) (loc' := [some (.ref a0), some (.int x1), some (.long (l2 + (hL h (hR h (hR h a0 1) x1.toNatClampNeg) x4.toNatClampNeg))), none, some (.int (x4 + 1))]) 37 dX4_settleKind_34 rfl (by decide) rfl (by decide) rfl ?_
    refine aw_goto 13 dX4_settleKind_37 (by decide) ?_
    exact H
set_option maxHeartbeats 4000000 in
set_option maxRecDepth 100000 in
theorem sX4_settleKind_50 {w : Wd} {Q : Hp → Prop} {h : Hp} {a0 : Nat} {x1 : Int32} {l2 : Int64} {x4 : Int32} (H : (hs h a0).1 = 24 ∧ (((hI h a0 4) ≤ x4 → hR h a0 0 ≠ 0 ∧ (hs h (hR h a0 0)).1 = 6 ∧ vp_in x1 (hs h (hR h a0 0)).2 ∧ hR h (hR h a0 0) x1.toNatClampNeg ≠ 0 ∧ hR h a0 1 ≠ 0 ∧ (hs h (hR h a0 1)).1 = 8 ∧ vp_in x1 (hs h (hR h a0 1)).2 ∧ hR h (hR h a0 1) x1.toNatClampNeg ≠ 0 ∧ (hs h (hR h (hR h a0 1) x1.toNatClampNeg)).1 = 5 ∧ vp_in 40 (hs h (hR h (hR h a0 1) x1.toNatClampNeg)).2 ∧ ¬ l2 = 0 ∧ (hs h (hR h (hR h a0 0) x1.toNatClampNeg)).1 = 1 ∧ vp_in 40 (hs h (hR h (hR h a0 0) x1.toNatClampNeg)).2 ∧ ∀ h1, h1 = sI h (hR h (hR h a0 0) x1.toNatClampNeg) (40 : Int32).toNatClampNeg (((1048576 * (hL h (hR h (hR h a0 1) x1.toNatClampNeg) (40 : Int32).toNatClampNeg)) / l2).toInt32) → Q h1) ∧ (¬ (hI h a0 4) ≤ x4 → hR h a0 0 ≠ 0 ∧ (hs h (hR h a0 0)).1 = 6 ∧ vp_in x1 (hs h (hR h a0 0)).2 ∧ hR h (hR h a0 0) x1.toNatClampNeg ≠ 0 ∧ hR h a0 1 ≠ 0 ∧ (hs h (hR h a0 1)).1 = 8 ∧ vp_in x1 (hs h (hR h a0 1)).2 ∧ hR h (hR h a0 1) x1.toNatClampNeg ≠ 0 ∧ (hs h (hR h (hR h a0 1) x1.toNatClampNeg)).1 = 5 ∧ vp_in x4 (hs h (hR h (hR h a0 1) x1.toNatClampNeg)).2 ∧ ¬ l2 = 0 ∧ (hs h (hR h (hR h a0 0) x1.toNatClampNeg)).1 = 1 ∧ vp_in x4 (hs h (hR h (hR h a0 0) x1.toNatClampNeg)).2 ∧ ∀ h2, h2 = sI h (hR h (hR h a0 0) x1.toNatClampNeg) x4.toNatClampNeg (((1048576 * (hL h (hR h (hR h a0 1) x1.toNatClampNeg) x4.toNatClampNeg)) / l2).toInt32) → AW w mX4_settleKind 0 0 (rV Q) 0 0 50 [some (.ref a0), some (.int x1), some (.long l2), none, some (.int (x4 + 1))] [] h2))) : AW w mX4_settleKind 0 0 (rV Q) 0 0 50 [some (.ref a0), some (.int x1), some (.long l2), none, some (.int x4)] [] h := by
  refine aw_iload 52 dX4_settleKind_50 rfl rfl ?_
  refine aw_aload_n 53 dX4_settleKind_52 rfl rfl ?_
  obtain ⟨g1, H⟩ := H
  refine aw_getI 56 dX4_settleKind_53 rfl fl_X4_35 (by decide) g1 ?_
  refine aw_icmp_ge 90 59 dX4_settleKind_56 rfl (by decide) (fun c2 => ?_) (fun c2 => ?_)
  · replace H := H.1 c2
    refine aw_aload_n 91 dX4_settleKind_90 rfl rfl ?_
    obtain ⟨g3, H⟩ := H
    refine aw_getR 94 dX4_settleKind_91 rfl fl_X4_11 ir_4_0 g1 rfl g3 ?_
    refine aw_iload_n 95 dX4_settleKind_94 rfl rfl ?_
    obtain ⟨g4, H⟩ := H
    obtain ⟨g5, H⟩ := H
    obtain ⟨g6, H⟩ := H
    refine aw_aald 96 dX4_settleKind_95 rfl (shp g4) (by decide) g5 rfl g6 ?_
    refine aw_bipush (v := 40) 98 dX4_settleKind_96 rfl (by decide) ?_
    refine aw_ldc2 101 dX4_settleKind_98 rfl kc_X4_58 ?_
    refine aw_aload_n 102 dX4_settleKind_101 rfl rfl ?_
    obtain ⟨g7, H⟩ := H
    refine aw_getR 105 dX4_settleKind_102 rfl fl_X4_18 ir_4_1 g1 rfl g7 ?_
    refine aw_iload_n 106 dX4_settleKind_105 rfl rfl ?_
    obtain ⟨g8, H⟩ := H
    obtain ⟨g9, H⟩ := H
    obtain ⟨g10, H⟩ := H
    refine aw_aald 107 dX4_settleKind_106 rfl (shp g8) (by decide) g9 rfl g10 ?_
    refine aw_bipush (v := 40) 109 dX4_settleKind_107 rfl (by decide) ?_
    obtain ⟨g11, H⟩ := H
    obtain ⟨g12, H⟩ := H
    refine aw_lald 110 dX4_settleKind_109 rfl (shp g11) g12 ?_
    refine aw_lmul 111 dX4_settleKind_110 rfl ?_
    refine aw_lload_n 112 dX4_settleKind_111 rfl rfl ?_
    obtain ⟨g13, H⟩ := H
    refine aw_ldiv 113 dX4_settleKind_112 rfl g13 ?_
    refine aw_l2i 114 dX4_settleKind_113 rfl ?_
    obtain ⟨g14, H⟩ := H
    obtain ⟨g15, H⟩ := H
    refine aw_iast 115 dX4_settleKind_114 rfl (shp g14) g15 ?_
    replace H := H _ rfl
    exact aw_return dX4_settleKind_115 rfl (by decide) (by decide) ⟨rfl, H⟩
  · replace H := H.2 c2
    refine aw_aload_n 60 dX4_settleKind_59 rfl rfl ?_
    obtain ⟨g16, H⟩ := H
    refine aw_getR 63 dX4_settleKind_60 rfl fl_X4_11 ir_4_0 g1 rfl g16 ?_
    refine aw_iload_n 64 dX4_settleKind_63 rfl rfl ?_
    obtain ⟨g17, H⟩ := H
    obtain ⟨g18, H⟩ := H
    obtain ⟨g19, H⟩ := H
    refine aw_aald 65 dX4_settleKind_64 rfl (shp g17) (by decide) g18 rfl g19 ?_
    refine aw_iload 67 dX4_settleKind_65 rfl rfl ?_
    refine aw_ldc2 70 dX4_settleKind_67 rfl kc_X4_58 ?_
    refine aw_aload_n 71 dX4_settleKind_70 rfl rfl ?_
    obtain ⟨g20, H⟩ := H
    refine aw_getR 74 dX4_settleKind_71 rfl fl_X4_18 ir_4_1 g1 rfl g20 ?_
    refine aw_iload_n 75 dX4_settleKind_74 rfl rfl ?_
    obtain ⟨g21, H⟩ := H
    obtain ⟨g22, H⟩ := H
    obtain ⟨g23, H⟩ := H
    refine aw_aald 76 dX4_settleKind_75 rfl (shp g21) (by decide) g22 rfl g23 ?_
    refine aw_iload 78 dX4_settleKind_76 rfl rfl ?_
    obtain ⟨g24, H⟩ := H
    obtain ⟨g25, H⟩ := H
    refine aw_lald 79 dX4_settleKind_78 rfl (shp g24) g25 ?_
    refine aw_lmul 80 dX4_settleKind_79 rfl ?_
    refine aw_lload_n 81 dX4_settleKind_80 rfl rfl ?_
    obtain ⟨g26, H⟩ := H
    refine aw_ldiv 82 dX4_settleKind_81 rfl g26 ?_
    refine aw_l2i 83 dX4_settleKind_82 rfl ?_
    obtain ⟨g27, H⟩ := H
    obtain ⟨g28, H⟩ := H
    refine aw_iast 84 dX4_settleKind_83 rfl (shp g27) g28 ?_
    replace H := H _ rfl
    refine aw_iinc (y := 1) (loc' := [some (.ref a0), some (.int x1), some (.long l2), none, some (.int (x4 + 1))]) 87 dX4_settleKind_84 rfl (by decide) rfl (by decide) rfl ?_
    refine aw_goto 50 dX4_settleKind_87 (by decide) ?_
    exact H
set_option maxHeartbeats 4000000 in
set_option maxRecDepth 100000 in
theorem sX4_obeyTerm_0 {w : Wd} {Q : Hp → Prop} {h : Hp} {a0 : Nat} {x1 : Int32} (H : (hs h a0).1 = 24 ∧ hR h a0 2 ≠ 0 ∧ (hs h (hR h a0 2)).1 = 1 ∧ vp_in x1 (hs h (hR h a0 2)).2 ∧ (((hI h (hR h a0 2) x1.toNatClampNeg) = (-1) → Q h) ∧ (¬ (hI h (hR h a0 2) x1.toNatClampNeg) = (-1) → hR h a0 0 ≠ 0 ∧ (hs h (hR h a0 0)).1 = 6 ∧ vp_in x1 (hs h (hR h a0 0)).2 ∧ hR h (hR h a0 0) x1.toNatClampNeg ≠ 0 ∧ AC w mJ7_fill_53178 0 0 (rV fun h1 => (hs h1 a0).1 = 24 ∧ hR h1 a0 0 ≠ 0 ∧ (hs h1 (hR h1 a0 0)).1 = 6 ∧ vp_in x1 (hs h1 (hR h1 a0 0)).2 ∧ hR h1 (hR h1 a0 0) x1.toNatClampNeg ≠ 0 ∧ hR h1 a0 2 ≠ 0 ∧ (hs h1 (hR h1 a0 2)).1 = 1 ∧ vp_in x1 (hs h1 (hR h1 a0 2)).2 ∧ (hs h1 (hR h1 (hR h1 a0 0) x1.toNatClampNeg)).1 = 1 ∧ vp_in (hI h1 (hR h1 a0 2) x1.toNatClampNeg) (hs h1 (hR h1 (hR h1 a0 0) x1.toNatClampNeg)).2 ∧ ∀ h2, h2 = sI h1 (hR h1 (hR h1 a0 0) x1.toNatClampNeg) (hI h1 (hR h1 a0 2) x1.toNatClampNeg).toNatClampNeg 1048576 → Q h2) [.ref (hR h (hR h a0 0) x1.toNatClampNeg), .int 0] h))) : AW w mX4_obeyTerm 0 0 (rV Q) 0 0 0 [some (.ref a0), some (.int x1)] [] h := by
  refine aw_aload_n 1 dX4_obeyTerm_0 rfl rfl ?_
  obtain ⟨g1, H⟩ := H
  obtain ⟨g2, H⟩ := H
  refine aw_getR 4 dX4_obeyTerm_1 rfl fl_X4_21 ir_4_2 g1 rfl g2 ?_
  refine aw_iload_n 5 dX4_obeyTerm_4 rfl rfl ?_
  obtain ⟨g3, H⟩ := H
  obtain ⟨g4, H⟩ := H
  refine aw_iald 6 dX4_obeyTerm_5 rfl (Or.inl (shp g3)) g4 ?_
  refine aw_iconst (v := (-1)) 7 dX4_obeyTerm_6 rfl (by decide) ?_
  refine aw_icmp_eq 35 10 dX4_obeyTerm_7 rfl (by decide) (fun c5 => ?_) (fun c5 => ?_)
  · replace H := H.1 c5
    exact aw_return dX4_obeyTerm_35 rfl (by decide) (by decide) ⟨rfl, H⟩
  · replace H := H.2 c5
    refine aw_aload_n 11 dX4_obeyTerm_10 rfl rfl ?_
    obtain ⟨g6, H⟩ := H
    refine aw_getR 14 dX4_obeyTerm_11 rfl fl_X4_11 ir_4_0 g1 rfl g6 ?_
    refine aw_iload_n 15 dX4_obeyTerm_14 rfl rfl ?_
    obtain ⟨g7, H⟩ := H
    obtain ⟨g8, H⟩ := H
    obtain ⟨g9, H⟩ := H
    refine aw_aald 16 dX4_obeyTerm_15 rfl (shp g7) (by decide) g8 rfl g9 ?_
    refine aw_iconst (v := 0) 17 dX4_obeyTerm_16 rfl (by decide) ?_
    refine aw_callS (stk := []) [.ref (hR h (hR h a0 0) x1.toNatClampNeg), .int 0] 20 dX4_obeyTerm_17 rfl mv_X4_25 ⟨by decide, by decide⟩ rfl rfl (by simp [Value.category]) (by decide) H ?_
    rintro _ h1 ⟨rfl, H⟩
    refine aw_aload_n 21 dX4_obeyTerm_20 rfl rfl ?_
    obtain ⟨g10, H⟩ := H
    obtain ⟨g11, H⟩ := H
    refine aw_getR 24 dX4_obeyTerm_21 rfl fl_X4_11 ir_4_0 g10 rfl g11 ?_
    refine aw_iload_n 25 dX4_obeyTerm_24 rfl rfl ?_
    obtain ⟨g12, H⟩ := H
    obtain ⟨g13, H⟩ := H
    obtain ⟨g14, H⟩ := H
    refine aw_aald 26 dX4_obeyTerm_25 rfl (shp g12) (by decide) g13 rfl g14 ?_
    refine aw_aload_n 27 dX4_obeyTerm_26 rfl rfl ?_
    obtain ⟨g15, H⟩ := H
    refine aw_getR 30 dX4_obeyTerm_27 rfl fl_X4_21 ir_4_2 g10 rfl g15 ?_
    refine aw_iload_n 31 dX4_obeyTerm_30 rfl rfl ?_
    obtain ⟨g16, H⟩ := H
    obtain ⟨g17, H⟩ := H
    refine aw_iald 32 dX4_obeyTerm_31 rfl (Or.inl (shp g16)) g17 ?_
    refine aw_ldc 34 dX4_obeyTerm_32 rfl kc_X4_38 ?_
    obtain ⟨g18, H⟩ := H
    obtain ⟨g19, H⟩ := H
    refine aw_iast 35 dX4_obeyTerm_34 rfl (shp g18) g19 ?_
    replace H := H _ rfl
    exact aw_return dX4_obeyTerm_35 rfl (by decide) (by decide) ⟨rfl, H⟩
theorem eX4_obeyTerm {w : Wd} {Q : Hp → Prop} {h : Hp} {a0 : Nat} {x1 : Int32} (H : AW w mX4_obeyTerm 0 0 (rV Q) 0 0 0 [some (.ref a0), some (.int x1)] [] h) : AC w mX4_obeyTerm 0 0 (rV Q) [.ref a0, .int x1] h := AC.ofL (by decide) (by simp [enl, Value.category]) (by simp [leL, enl, Value.category]) H
set_option maxHeartbeats 4000000 in
set_option maxRecDepth 100000 in
theorem sX4_partnerOf_0 {w : Wd} {Q : Int32 → Hp → Prop} {h : Hp} {a0 : Nat} {x1 : Int32} (H : (hs h a0).1 = 24 ∧ hR h a0 0 ≠ 0 ∧ (hs h (hR h a0 0)).1 = 6 ∧ vp_in x1 (hs h (hR h a0 0)).2 ∧ hR h (hR h a0 0) x1.toNatClampNeg ≠ 0 ∧ (hs h (hR h (hR h a0 0) x1.toNatClampNeg)).1 = 1 ∧ vp_in 40 (hs h (hR h (hR h a0 0) x1.toNatClampNeg)).2 ∧ AW w mX4_partnerOf 0 0 (rI Q) 0 0 20 [some (.ref a0), some (.int x1), some (.int (-1)), some (.int (if (hI h (hR h (hR h a0 0) x1.toNatClampNeg) (40 : Int32).toNatClampNeg) < (131071 : Int32) then 131071 else (hI h (hR h (hR h a0 0) x1.toNatClampNeg) (40 : Int32).toNatClampNeg))), some (.int 0)] [] h) : AW w mX4_partnerOf 0 0 (rI Q) 0 0 0 [some (.ref a0), some (.int x1), none, none, none] [] h := by
  refine aw_iconst (v := (-1)) 1 dX4_partnerOf_0 rfl (by decide) ?_
  refine aw_istore_n (loc' := [some (.ref a0), some (.int x1), some (.int (-1)), none, none]) 2 dX4_partnerOf_1 rfl (by decide) rfl ?_
  refine aw_aload_n 3 dX4_partnerOf_2 rfl rfl ?_
  obtain ⟨g1, H⟩ := H
  obtain ⟨g2, H⟩ := H
  refine aw_getR 6 dX4_partnerOf_3 rfl fl_X4_11 ir_4_0 g1 rfl g2 ?_
  refine aw_iload_n 7 dX4_partnerOf_6 rfl rfl ?_
  obtain ⟨g3, H⟩ := H
  obtain ⟨g4, H⟩ := H
  obtain ⟨g5, H⟩ := H
  refine aw_aald 8 dX4_partnerOf_7 rfl (shp g3) (by decide) g4 rfl g5 ?_
  refine aw_bipush (v := 40) 10 dX4_partnerOf_8 rfl (by decide) ?_
  obtain ⟨g6, H⟩ := H
  obtain ⟨g7, H⟩ := H
  refine aw_iald 11 dX4_partnerOf_10 rfl (Or.inl (shp g6)) g7 ?_
  refine aw_ldc 13 dX4_partnerOf_11 rfl kc_X4_67 ?_
  refine aw_mmax (stk := []) 16 dX4_partnerOf_13 rfl mv_X4_68 (by decide) (by simp [Value.category]) (by decide) (by decide) ?_
  refine aw_istore_n (loc' := [some (.ref a0), some (.int x1), some (.int (-1)), some (.int (if (hI h (hR h (hR h a0 0) x1.toNatClampNeg) (40 : Int32).toNatClampNeg) < (131071 : Int32) then 131071 else (hI h (hR h (hR h a0 0) x1.toNatClampNeg) (40 : Int32).toNatClampNeg))), none]) 17 dX4_partnerOf_16 rfl (by decide) rfl ?_
  refine aw_iconst (v := 0) 18 dX4_partnerOf_17 rfl (by decide) ?_
  refine aw_istore (loc' := [some (.ref a0), some (.int x1), some (.int (-1)), some (.int (if (hI h (hR h (hR h a0 0) x1.toNatClampNeg) (40 : Int32).toNatClampNeg) < (131071 : Int32) then 131071 else (hI h (hR h (hR h a0 0) x1.toNatClampNeg) (40 : Int32).toNatClampNeg))), some (.int 0)]) 20 dX4_partnerOf_18 rfl (by decide) rfl ?_
  exact H
theorem eX4_partnerOf {w : Wd} {Q : Int32 → Hp → Prop} {h : Hp} {a0 : Nat} {x1 : Int32} (H : AW w mX4_partnerOf 0 0 (rI Q) 0 0 0 [some (.ref a0), some (.int x1), none, none, none] [] h) : AC w mX4_partnerOf 0 0 (rI Q) [.ref a0, .int x1] h := AC.ofL (by decide) (by simp [enl, Value.category]) (by simp [leL, enl, Value.category]) H
set_option maxHeartbeats 4000000 in
set_option maxRecDepth 100000 in
theorem sX4_partnerOf_20 {w : Wd} {Q : Int32 → Hp → Prop} {h : Hp} {a0 : Nat} {x1 : Int32} {x2 : Int32} {x3 : Int32} {x4 : Int32} (H : (hs h a0).1 = 24 ∧ (((hI h a0 4) ≤ x4 → Q x2 h) ∧ (¬ (hI h a0 4) ≤ x4 → hR h a0 0 ≠ 0 ∧ (hs h (hR h a0 0)).1 = 6 ∧ vp_in x1 (hs h (hR h a0 0)).2 ∧ hR h (hR h a0 0) x1.toNatClampNeg ≠ 0 ∧ (hs h (hR h (hR h a0 0) x1.toNatClampNeg)).1 = 1 ∧ vp_in x4 (hs h (hR h (hR h a0 0) x1.toNatClampNeg)).2 ∧ (((hI h (hR h (hR h a0 0) x1.toNatClampNeg) x4.toNatClampNeg) ≤ x3 → AW w mX4_partnerOf 0 0 (rI Q) 0 0 20 [some (.ref a0), some (.int x1), some (.int x2), some (.int x3), some (.int (x4 + 1))] [] h) ∧ (¬ (hI h (hR h (hR h a0 0) x1.toNatClampNeg) x4.toNatClampNeg) ≤ x3 → AW w mX4_partnerOf 0 0 (rI Q) 0 0 20 [some (.ref a0), some (.int x1), some (.int x4), some (.int (hI h (hR h (hR h a0 0) x1.toNatClampNeg) x4.toNatClampNeg)), some (.int (x4 + 1))] [] h))))) : AW w mX4_partnerOf 0 0 (rI Q) 0 0 20 [some (.ref a0), some (.int x1), some (.int x2), some (.int x3), some (.int x4)] [] h := by
  refine aw_iload 22 dX4_partnerOf_20 rfl rfl ?_
  refine aw_aload_n 23 dX4_partnerOf_22 rfl rfl ?_
  obtain ⟨g1, H⟩ := H
  refine aw_getI 26 dX4_partnerOf_23 rfl fl_X4_35 (by decide) g1 ?_
  refine aw_icmp_ge 61 29 dX4_partnerOf_26 rfl (by decide) (fun c2 => ?_) (fun c2 => ?_)
  · replace H := H.1 c2
    refine aw_iload_n 62 dX4_partnerOf_61 rfl rfl ?_
    exact aw_ireturn dX4_partnerOf_62 rfl (by decide) (by decide) ⟨_, rfl, H⟩
  · replace H := H.2 c2
    refine aw_aload_n 30 dX4_partnerOf_29 rfl rfl ?_
    obtain ⟨g3, H⟩ := H
    refine aw_getR 33 dX4_partnerOf_30 rfl fl_X4_11 ir_4_0 g1 rfl g3 ?_
    refine aw_iload_n 34 dX4_partnerOf_33 rfl rfl ?_
    obtain ⟨g4, H⟩ := H
    obtain ⟨g5, H⟩ := H
    obtain ⟨g6, H⟩ := H
    refine aw_aald 35 dX4_partnerOf_34 rfl (shp g4) (by decide) g5 rfl g6 ?_
    refine aw_iload 37 dX4_partnerOf_35 rfl rfl ?_
    obtain ⟨g7, H⟩ := H
    obtain ⟨g8, H⟩ := H
    refine aw_iald 38 dX4_partnerOf_37 rfl (Or.inl (shp g7)) g8 ?_
    refine aw_iload_n 39 dX4_partnerOf_38 rfl rfl ?_
    refine aw_icmp_le 55 42 dX4_partnerOf_39 rfl (by decide) (fun c9 => ?_) (fun c9 => ?_)
    · replace H := H.1 c9
      refine aw_iinc (y := 1) (loc' := [some (.ref a0), some (.int x1), some (.int x2), some (.int x3), some (.int (x4 + 1))]) 58 dX4_partnerOf_55 rfl (by decide) rfl (by decide) rfl ?_
      refine aw_goto 20 dX4_partnerOf_58 (by decide) ?_
      exact H
    · replace H := H.2 c9
      refine aw_aload_n 43 dX4_partnerOf_42 rfl rfl ?_
      refine aw_getR 46 dX4_partnerOf_43 rfl fl_X4_11 ir_4_0 g1 rfl g3 ?_
      refine aw_iload_n 47 dX4_partnerOf_46 rfl rfl ?_
      refine aw_aald 48 dX4_partnerOf_47 rfl (shp g4) (by decide) g5 rfl g6 ?_
      refine aw_iload 50 dX4_partnerOf_48 rfl rfl ?_
      refine aw_iald 51 dX4_partnerOf_50 rfl (Or.inl (shp g7)) g8 ?_
      refine aw_istore_n (loc' := [some (.ref a0), some (.int x1), some (.int x2), some (.int (hI h (hR h (hR h a0 0) x1.toNatClampNeg) x4.toNatClampNeg)), some (.int x4)]) 52 dX4_partnerOf_51 rfl (by decide) rfl ?_
      refine aw_iload 54 dX4_partnerOf_52 rfl rfl ?_
      refine aw_istore_n (loc' := [some (.ref a0), some (.int x1), some (.int x4), some (.int (hI h (hR h (hR h a0 0) x1.toNatClampNeg) x4.toNatClampNeg)), some (.int x4)]) 55 dX4_partnerOf_54 rfl (by decide) rfl ?_
      refine aw_iinc (y := 1) (loc' := [some (.ref a0), some (.int x1), some (.int x4), some (.int (hI h (hR h (hR h a0 0) x1.toNatClampNeg) x4.toNatClampNeg)), some (.int (x4 + 1))]) 58 dX4_partnerOf_55 rfl (by decide) rfl (by decide) rfl ?_
      refine aw_goto 20 dX4_partnerOf_58 (by decide) ?_
      exact H
set_option maxHeartbeats 4000000 in
set_option maxRecDepth 100000 in
theorem sX4_lossOf_0 {w : Wd} {Q : Int32 → Hp → Prop} {h : Hp} {a0 : Nat} {x1 : Int32} (H : (hs h a0).1 = 24 ∧ hR h a0 0 ≠ 0 ∧ (hs h (hR h a0 0)).1 = 6 ∧ vp_in x1 (hs h (hR h a0 0)).2 ∧ hR h (hR h a0 0) x1.toNatClampNeg ≠ 0 ∧ (hs h (hR h (hR h a0 0) x1.toNatClampNeg)).1 = 1 ∧ vp_in 40 (hs h (hR h (hR h a0 0) x1.toNatClampNeg)).2 ∧ AW w mX4_lossOf 0 0 (rI Q) 0 0 12 [some (.ref a0), some (.int x1), some (.int (hI h (hR h (hR h a0 0) x1.toNatClampNeg) (40 : Int32).toNatClampNeg)), some (.int 0)] [] h) : AW w mX4_lossOf 0 0 (rI Q) 0 0 0 [some (.ref a0), some (.int x1), none, none] [] h := by
  refine aw_aload_n 1 dX4_lossOf_0 rfl rfl ?_
  obtain ⟨g1, H⟩ := H
  obtain ⟨g2, H⟩ := H
  refine aw_getR 4 dX4_lossOf_1 rfl fl_X4_11 ir_4_0 g1 rfl g2 ?_
  refine aw_iload_n 5 dX4_lossOf_4 rfl rfl ?_
  obtain ⟨g3, H⟩ := H
  obtain ⟨g4, H⟩ := H
  obtain ⟨g5, H⟩ := H
  refine aw_aald 6 dX4_lossOf_5 rfl (shp g3) (by decide) g4 rfl g5 ?_
  refine aw_bipush (v := 40) 8 dX4_lossOf_6 rfl (by decide) ?_
  obtain ⟨g6, H⟩ := H
  obtain ⟨g7, H⟩ := H
  refine aw_iald 9 dX4_lossOf_8 rfl (Or.inl (shp g6)) g7 ?_
  refine aw_istore_n (loc' := [some (.ref a0), some (.int x1), some (.int (hI h (hR h (hR h a0 0) x1.toNatClampNeg) (40 : Int32).toNatClampNeg)), none]) 10 dX4_lossOf_9 rfl (by decide) rfl ?_
  refine aw_iconst (v := 0) 11 dX4_lossOf_10 rfl (by decide) ?_
  refine aw_istore_n (loc' := [some (.ref a0), some (.int x1), some (.int (hI h (hR h (hR h a0 0) x1.toNatClampNeg) (40 : Int32).toNatClampNeg)), some (.int 0)]) 12 dX4_lossOf_11 rfl (by decide) rfl ?_
  exact H
theorem eX4_lossOf {w : Wd} {Q : Int32 → Hp → Prop} {h : Hp} {a0 : Nat} {x1 : Int32} (H : AW w mX4_lossOf 0 0 (rI Q) 0 0 0 [some (.ref a0), some (.int x1), none, none] [] h) : AC w mX4_lossOf 0 0 (rI Q) [.ref a0, .int x1] h := AC.ofL (by decide) (by simp [enl, Value.category]) (by simp [leL, enl, Value.category]) H
set_option maxHeartbeats 4000000 in
set_option maxRecDepth 100000 in
theorem sX4_lossOf_12 {w : Wd} {Q : Int32 → Hp → Prop} {h : Hp} {a0 : Nat} {x1 : Int32} {x2 : Int32} {x3 : Int32} (H : (hs h a0).1 = 24 ∧ (((hI h a0 4) ≤ x3 → Q (1048576 - x2) h) ∧ (¬ (hI h a0 4) ≤ x3 → hR h a0 0 ≠ 0 ∧ (hs h (hR h a0 0)).1 = 6 ∧ vp_in x1 (hs h (hR h a0 0)).2 ∧ hR h (hR h a0 0) x1.toNatClampNeg ≠ 0 ∧ (hs h (hR h (hR h a0 0) x1.toNatClampNeg)).1 = 1 ∧ vp_in x3 (hs h (hR h (hR h a0 0) x1.toNatClampNeg)).2 ∧ AW w mX4_lossOf 0 0 (rI Q) 0 0 12 [some (.ref a0), some (.int x1), some (.int (x2 + (hI h (hR h (hR h a0 0) x1.toNatClampNeg) x3.toNatClampNeg))), some (.int (x3 + 1))] [] h))) : AW w mX4_lossOf 0 0 (rI Q) 0 0 12 [some (.ref a0), some (.int x1), some (.int x2), some (.int x3)] [] h := by
  refine aw_iload_n 13 dX4_lossOf_12 rfl rfl ?_
  refine aw_aload_n 14 dX4_lossOf_13 rfl rfl ?_
  obtain ⟨g1, H⟩ := H
  refine aw_getI 17 dX4_lossOf_14 rfl fl_X4_35 (by decide) g1 ?_
  refine aw_icmp_ge 37 20 dX4_lossOf_17 rfl (by decide) (fun c2 => ?_) (fun c2 => ?_)
  · replace H := H.1 c2
    refine aw_ldc 39 dX4_lossOf_37 rfl kc_X4_38 ?_
    refine aw_iload_n 40 dX4_lossOf_39 rfl rfl ?_
    refine aw_isub 41 dX4_lossOf_40 rfl ?_
    exact aw_ireturn dX4_lossOf_41 rfl (by decide) (by decide) ⟨_, rfl, H⟩
  · replace H := H.2 c2
    refine aw_iload_n 21 dX4_lossOf_20 rfl rfl ?_
    refine aw_aload_n 22 dX4_lossOf_21 rfl rfl ?_
    obtain ⟨g3, H⟩ := H
    refine aw_getR 25 dX4_lossOf_22 rfl fl_X4_11 ir_4_0 g1 rfl g3 ?_
    refine aw_iload_n 26 dX4_lossOf_25 rfl rfl ?_
    obtain ⟨g4, H⟩ := H
    obtain ⟨g5, H⟩ := H
    obtain ⟨g6, H⟩ := H
    refine aw_aald 27 dX4_lossOf_26 rfl (shp g4) (by decide) g5 rfl g6 ?_
    refine aw_iload_n 28 dX4_lossOf_27 rfl rfl ?_
    obtain ⟨g7, H⟩ := H
    obtain ⟨g8, H⟩ := H
    refine aw_iald 29 dX4_lossOf_28 rfl (Or.inl (shp g7)) g8 ?_
    refine aw_iadd 30 dX4_lossOf_29 rfl ?_
    refine aw_istore_n (loc' := [some (.ref a0), some (.int x1), some (.int (x2 + (hI h (hR h (hR h a0 0) x1.toNatClampNeg) x3.toNatClampNeg))), some (.int x3)]) 31 dX4_lossOf_30 rfl (by decide) rfl ?_
    refine aw_iinc (y := 1) (loc' := [some (.ref a0), some (.int x1), some (.int (x2 + (hI h (hR h (hR h a0 0) x1.toNatClampNeg) x3.toNatClampNeg))), some (.int (x3 + 1))]) 34 dX4_lossOf_31 rfl (by decide) rfl (by decide) rfl ?_
    refine aw_goto 12 dX4_lossOf_34 (by decide) ?_
    exact H
set_option maxHeartbeats 4000000 in
set_option maxRecDepth 100000 in
theorem sX7_measure_0 {w : Wd} {Q : Hp → Prop} {h : Hp} {a0 : Nat} (H : (hs h a0).1 = 27 ∧ hR h a0 0 ≠ 0 ∧ (hs h (hR h a0 0)).1 = 9 ∧ vp_in 0 (hs h (hR h a0 0)).2 ∧ hR h (hR h a0 0) (0 : Int32).toNatClampNeg ≠ 0 ∧ hR h a0 4 ≠ 0 ∧ AC w mX7_addUpLengths 0 0 (rV fun h1 => (hs h1 a0).1 = 27 ∧ hR h1 a0 0 ≠ 0 ∧ (hs h1 (hR h1 a0 0)).1 = 9 ∧ vp_in 1 (hs h1 (hR h1 a0 0)).2 ∧ hR h1 (hR h1 a0 0) (1 : Int32).toNatClampNeg ≠ 0 ∧ hR h1 a0 5 ≠ 0 ∧ AC w mX7_addUpLengths 0 0 (rV fun h2 => AW w mX7_measure 0 0 (rV Q) 0 0 28 [some (.ref a0), some (.int 0), none] [] h2) [.ref (hR h1 (hR h1 a0 0) (1 : Int32).toNatClampNeg), .ref (hR h1 a0 5)] h1) [.ref (hR h (hR h a0 0) (0 : Int32).toNatClampNeg), .ref (hR h a0 4)] h) : AW w mX7_measure 0 0 (rV Q) 0 0 0 [some (.ref a0), none, none] [] h := by
  refine aw_aload_n 1 dX7_measure_0 rfl rfl ?_
  obtain ⟨g1, H⟩ := H
  obtain ⟨g2, H⟩ := H
  refine aw_getR 4 dX7_measure_1 rfl fl_X7_46 ir_7_0 g1 rfl g2 ?_
  refine aw_iconst (v := 0) 5 dX7_measure_4 rfl (by decide) ?_
  obtain ⟨g3, H⟩ := H
  obtain ⟨g4, H⟩ := H
  obtain ⟨g5, H⟩ := H
  refine aw_aald 6 dX7_measure_5 rfl (shp g3) (by decide) g4 rfl g5 ?_
  refine aw_aload_n 7 dX7_measure_6 rfl rfl ?_
  obtain ⟨g6, H⟩ := H
  refine aw_getR 10 dX7_measure_7 rfl fl_X7_11 ir_7_4 g1 rfl g6 ?_
  refine aw_callS (stk := []) [.ref (hR h (hR h a0 0) (0 : Int32).toNatClampNeg), .ref (hR h a0 4)] 13 dX7_measure_10 rfl mv_X7_58 ⟨by decide, by decide⟩ rfl rfl (by simp [Value.category]) (by decide) H ?_
  rintro _ h1 ⟨rfl, H⟩
  refine aw_aload_n 14 dX7_measure_13 rfl rfl ?_
  obtain ⟨g7, H⟩ := H
  obtain ⟨g8, H⟩ := H
  refine aw_getR 17 dX7_measure_14 rfl fl_X7_46 ir_7_0 g7 rfl g8 ?_
  refine aw_iconst (v := 1) 18 dX7_measure_17 rfl (by decide) ?_
  obtain ⟨g9, H⟩ := H
  obtain ⟨g10, H⟩ := H
  obtain ⟨g11, H⟩ := H
  refine aw_aald 19 dX7_measure_18 rfl (shp g9) (by decide) g10 rfl g11 ?_
  refine aw_aload_n 20 dX7_measure_19 rfl rfl ?_
  obtain ⟨g12, H⟩ := H
  refine aw_getR 23 dX7_measure_20 rfl fl_X7_15 ir_7_5 g7 rfl g12 ?_
  refine aw_callS (stk := []) [.ref (hR h1 (hR h1 a0 0) (1 : Int32).toNatClampNeg), .ref (hR h1 a0 5)] 26 dX7_measure_23 rfl mv_X7_58 ⟨by decide, by decide⟩ rfl rfl (by simp [Value.category]) (by decide) H ?_
  rintro _ h2 ⟨rfl, H⟩
  refine aw_iconst (v := 0) 27 dX7_measure_26 rfl (by decide) ?_
  refine aw_istore_n (loc' := [some (.ref a0), some (.int 0), none]) 28 dX7_measure_27 rfl (by decide) rfl ?_
  exact H
theorem eX7_measure {w : Wd} {Q : Hp → Prop} {h : Hp} {a0 : Nat} (H : AW w mX7_measure 0 0 (rV Q) 0 0 0 [some (.ref a0), none, none] [] h) : AC w mX7_measure 0 0 (rV Q) [.ref a0] h := AC.ofL (by decide) (by simp [enl, Value.category]) (by simp [leL, enl, Value.category]) H
set_option maxHeartbeats 4000000 in
set_option maxRecDepth 100000 in
theorem sX7_measure_28 {w : Wd} {Q : Hp → Prop} {h : Hp} {a0 : Nat} {x1 : Int32} (H : (hs h a0).1 = 27 ∧ hR h a0 0 ≠ 0 ∧ (hs h (hR h a0 0)).1 = 9 ∧ vp_in 0 (hs h (hR h a0 0)).2 ∧ hR h (hR h a0 0) (0 : Int32).toNatClampNeg ≠ 0 ∧ (hs h (hR h (hR h a0 0) (0 : Int32).toNatClampNeg)).1 = 20 ∧ hR h (hR h (hR h a0 0) (0 : Int32).toNatClampNeg) 0 ≠ 0 ∧ (hs h (hR h (hR h (hR h a0 0) (0 : Int32).toNatClampNeg) 0)).1 = 28 ∧ (((hI h (hR h (hR h (hR h a0 0) (0 : Int32).toNatClampNeg) 0) 3) ≤ x1 → AW w mX7_measure 0 0 (rV Q) 0 0 79 [some (.ref a0), some (.int 0), none] [] h) ∧ (¬ (hI h (hR h (hR h (hR h a0 0) (0 : Int32).toNatClampNeg) 0) 3) ≤ x1 → hR h a0 2 ≠ 0 ∧ (hs h (hR h a0 2)).1 = 24 ∧ AC w mX4_partnerOf 0 0 (rI fun r1 h1 => (hs h1 a0).1 = 27 ∧ hR h1 a0 6 ≠ 0 ∧ ((¬ r1 = (-1) → (hs h1 (hR h1 a0 6)).1 = 5 ∧ vp_in x1 (hs h1 (hR h1 a0 6)).2 ∧ ∀ h2, h2 = sL h1 (hR h1 a0 6) x1.toNatClampNeg (1 <<< (r1.toInt64 &&& 63)) → AW w mX7_measure 0 0 (rV Q) 0 0 28 [some (.ref a0), some (.int (x1 + 1)), none] [] h2) ∧ (r1 = (-1) → (hs h1 (hR h1 a0 6)).1 = 5 ∧ vp_in x1 (hs h1 (hR h1 a0 6)).2 ∧ ∀ h3, h3 = sL h1 (hR h1 a0 6) x1.toNatClampNeg 0 → AW w mX7_measure 0 0 (rV Q) 0 0 28 [some (.ref a0), some (.int (x1 + 1)), none] [] h3))) [.ref (hR h a0 2), .int x1] h))) : AW w mX7_measure 0 0 (rV Q) 0 0 28 [some (.ref a0), some (.int x1), none] [] h := by
  refine aw_iload_n 29 dX7_measure_28 rfl rfl ?_
  refine aw_aload_n 30 dX7_measure_29 rfl rfl ?_
  obtain ⟨g1, H⟩ := H
  obtain ⟨g2, H⟩ := H
  refine aw_getR 33 dX7_measure_30 rfl fl_X7_46 ir_7_0 g1 rfl g2 ?_
  refine aw_iconst (v := 0) 34 dX7_measure_33 rfl (by decide) ?_
  obtain ⟨g3, H⟩ := H
  obtain ⟨g4, H⟩ := H
  obtain ⟨g5, H⟩ := H
  refine aw_aald 35 dX7_measure_34 rfl (shp g3) (by decide) g4 rfl g5 ?_
  obtain ⟨g6, H⟩ := H
  obtain ⟨g7, H⟩ := H
  refine aw_getR 38 dX7_measure_35 rfl fl_X7_62 ir_0_0 g6 rfl g7 ?_
  obtain ⟨g8, H⟩ := H
  refine aw_getI 41 dX7_measure_38 rfl fl_X7_68 (by decide) g8 ?_
  refine aw_icmp_ge 77 44 dX7_measure_41 rfl (by decide) (fun c9 => ?_) (fun c9 => ?_)
  · replace H := H.1 c9
    refine aw_iconst (v := 0) 78 dX7_measure_77 rfl (by decide) ?_
    refine aw_istore_n (loc' := [some (.ref a0), some (.int 0), none]) 79 dX7_measure_78 rfl (by decide) rfl ?_
    exact H
  · replace H := H.2 c9
    refine aw_aload_n 45 dX7_measure_44 rfl rfl ?_
    obtain ⟨g10, H⟩ := H
    refine aw_getR 48 dX7_measure_45 rfl fl_X7_54 ir_7_2 g1 rfl g10 ?_
    refine aw_iload_n 49 dX7_measure_48 rfl rfl ?_
    obtain ⟨g11, H⟩ := H
    refine aw_callV (stk := []) (ci := 4) [.int x1] 52 dX7_measure_49 rfl mv_X7_74 ⟨by decide, by decide⟩ g11 (by intro r hr; cases hr; rfl) rfl rfl (by simp [Value.category]) (by decide) H ?_
    rintro _ h1 ⟨r1, rfl, H⟩
    refine aw_istore_n (loc' := [some (.ref a0), some (.int x1), some (.int r1)]) 53 dX7_measure_52 rfl (by decide) rfl ?_
    refine aw_aload_n 54 dX7_measure_53 rfl rfl ?_
    obtain ⟨g12, H⟩ := H
    obtain ⟨g13, H⟩ := H
    refine aw_getR 57 dX7_measure_54 rfl fl_X7_18 ir_7_6 g12 rfl g13 ?_
    refine aw_iload_n 58 dX7_measure_57 rfl rfl ?_
    refine aw_iload_n 59 dX7_measure_58 rfl rfl ?_
    refine aw_iconst (v := (-1)) 60 dX7_measure_59 rfl (by decide) ?_
    refine aw_icmp_ne 67 63 dX7_measure_60 rfl (by decide) (fun c14 => ?_) (fun c14 => ?_)
    · replace H := H.1 c14
      refine aw_lconst (v := 1) 68 dX7_measure_67 rfl (by decide) ?_
      refine aw_iload_n 69 dX7_measure_68 rfl rfl ?_
      refine aw_lshl 70 dX7_measure_69 rfl ?_
      obtain ⟨g15, H⟩ := H
      obtain ⟨g16, H⟩ := H
      refine aw_last 71 dX7_measure_70 rfl (shp g15) g16 ?_
      replace H := H _ rfl
      refine aw_iinc (y := 1) (loc' := [some (.ref a0), some (.int (x1 + 1)), some (.int r1)]) 74 dX7_measure_71 rfl (by decide) rfl (by decide) rfl ?_
      refine aw_goto 28 dX7_measure_74 (by decide) ?_
      exact aw_fgt (by simp [leL]) H
    · replace H := H.2 c14
      refine aw_lconst (v := 0) 64 dX7_measure_63 rfl (by decide) ?_
      refine aw_goto 70 dX7_measure_64 (by decide) ?_
      obtain ⟨g17, H⟩ := H
      obtain ⟨g18, H⟩ := H
      refine aw_last 71 dX7_measure_70 rfl (shp g17) g18 ?_
      replace H := H _ rfl
      refine aw_iinc (y := 1) (loc' := [some (.ref a0), some (.int (x1 + 1)), some (.int r1)]) 74 dX7_measure_71 rfl (by decide) rfl (by decide) rfl ?_
      refine aw_goto 28 dX7_measure_74 (by decide) ?_
      exact aw_fgt (by simp [leL]) H
set_option maxHeartbeats 4000000 in
set_option maxRecDepth 100000 in
theorem sX7_measure_79 {w : Wd} {Q : Hp → Prop} {h : Hp} {a0 : Nat} {x1 : Int32} (H : (hs h a0).1 = 27 ∧ hR h a0 0 ≠ 0 ∧ (hs h (hR h a0 0)).1 = 9 ∧ vp_in 1 (hs h (hR h a0 0)).2 ∧ hR h (hR h a0 0) (1 : Int32).toNatClampNeg ≠ 0 ∧ (hs h (hR h (hR h a0 0) (1 : Int32).toNatClampNeg)).1 = 20 ∧ (((hI h (hR h (hR h a0 0) (1 : Int32).toNatClampNeg) 5) ≤ x1 → Q h) ∧ (¬ (hI h (hR h (hR h a0 0) (1 : Int32).toNatClampNeg) 5) ≤ x1 → hR h a0 7 ≠ 0 ∧ AC w mX0_kindsIn 0 0 (rL fun r1 h1 => (hs h1 (hR h a0 7)).1 = 5 ∧ vp_in x1 (hs h1 (hR h a0 7)).2 ∧ ∀ h2, h2 = sL h1 (hR h a0 7) x1.toNatClampNeg r1 → AW w mX7_measure 0 0 (rV Q) 0 0 79 [some (.ref a0), some (.int (x1 + 1)), none] [] h2) [.ref (hR h (hR h a0 0) (1 : Int32).toNatClampNeg), .int x1, .int 1] h))) : AW w mX7_measure 0 0 (rV Q) 0 0 79 [some (.ref a0), some (.int x1), none] [] h := by
  refine aw_iload_n 80 dX7_measure_79 rfl rfl ?_
  refine aw_aload_n 81 dX7_measure_80 rfl rfl ?_
  obtain ⟨g1, H⟩ := H
  obtain ⟨g2, H⟩ := H
  refine aw_getR 84 dX7_measure_81 rfl fl_X7_46 ir_7_0 g1 rfl g2 ?_
  refine aw_iconst (v := 1) 85 dX7_measure_84 rfl (by decide) ?_
  obtain ⟨g3, H⟩ := H
  obtain ⟨g4, H⟩ := H
  obtain ⟨g5, H⟩ := H
  refine aw_aald 86 dX7_measure_85 rfl (shp g3) (by decide) g4 rfl g5 ?_
  obtain ⟨g6, H⟩ := H
  refine aw_getI 89 dX7_measure_86 rfl fl_X7_80 (by decide) g6 ?_
  refine aw_icmp_ge 115 92 dX7_measure_89 rfl (by decide) (fun c7 => ?_) (fun c7 => ?_)
  · replace H := H.1 c7
    exact aw_return dX7_measure_115 rfl (by decide) (by decide) ⟨rfl, H⟩
  · replace H := H.2 c7
    refine aw_aload_n 93 dX7_measure_92 rfl rfl ?_
    obtain ⟨g8, H⟩ := H
    refine aw_getR 96 dX7_measure_93 rfl fl_X7_22 ir_7_7 g1 rfl g8 ?_
    refine aw_iload_n 97 dX7_measure_96 rfl rfl ?_
    refine aw_aload_n 98 dX7_measure_97 rfl rfl ?_
    refine aw_getR 101 dX7_measure_98 rfl fl_X7_46 ir_7_0 g1 rfl g2 ?_
    refine aw_iconst (v := 1) 102 dX7_measure_101 rfl (by decide) ?_
    refine aw_aald 103 dX7_measure_102 rfl (shp g3) (by decide) g4 rfl g5 ?_
    refine aw_iload_n 104 dX7_measure_103 rfl rfl ?_
    refine aw_iconst (v := 1) 105 dX7_measure_104 rfl (by decide) ?_
    refine aw_callV (stk := [.int x1, .ref (hR h a0 7)]) (ci := 0) [.int x1, .int 1] 108 dX7_measure_105 rfl mv_X7_83 ⟨by decide, by decide⟩ g6 (by intro r hr; cases hr; rfl) rfl rfl (by simp [Value.category]) (by decide) H ?_
    rintro _ h1 ⟨r1, rfl, H⟩
    obtain ⟨g9, H⟩ := H
    obtain ⟨g10, H⟩ := H
    refine aw_last 109 dX7_measure_108 rfl (shp g9) g10 ?_
    replace H := H _ rfl
    refine aw_iinc (y := 1) (loc' := [some (.ref a0), some (.int (x1 + 1)), none]) 112 dX7_measure_109 rfl (by decide) rfl (by decide) rfl ?_
    refine aw_goto 79 dX7_measure_112 (by decide) ?_
    exact H
set_option maxHeartbeats 4000000 in
set_option maxRecDepth 100000 in
theorem sX7_addUpLengths_0 {w : Wd} {Q : Hp → Prop} {h : Hp} {a0 : Nat} {a1 : Nat} (H : (hs h a1).1 = 1 ∧ vp_in 0 (hs h a1).2 ∧ ∀ h1, h1 = sI h a1 (0 : Int32).toNatClampNeg 0 → AW w mX7_addUpLengths 0 0 (rV Q) 0 0 6 [some (.ref a0), some (.ref a1), some (.int 0)] [] h1) : AW w mX7_addUpLengths 0 0 (rV Q) 0 0 0 [some (.ref a0), some (.ref a1), none] [] h := by
  refine aw_aload_n 1 dX7_addUpLengths_0 rfl rfl ?_
  refine aw_iconst (v := 0) 2 dX7_addUpLengths_1 rfl (by decide) ?_
  refine aw_iconst (v := 0) 3 dX7_addUpLengths_2 rfl (by decide) ?_
  obtain ⟨g1, H⟩ := H
  obtain ⟨g2, H⟩ := H
  refine aw_iast 4 dX7_addUpLengths_3 rfl (shp g1) g2 ?_
  replace H := H _ rfl
  refine aw_iconst (v := 0) 5 dX7_addUpLengths_4 rfl (by decide) ?_
  refine aw_istore_n (loc' := [some (.ref a0), some (.ref a1), some (.int 0)]) 6 dX7_addUpLengths_5 rfl (by decide) rfl ?_
  exact H
theorem eX7_addUpLengths {w : Wd} {Q : Hp → Prop} {h : Hp} {a0 : Nat} {a1 : Nat} (H : AW w mX7_addUpLengths 0 0 (rV Q) 0 0 0 [some (.ref a0), some (.ref a1), none] [] h) : AC w mX7_addUpLengths 0 0 (rV Q) [.ref a0, .ref a1] h := AC.ofL (by decide) (by simp [enl, Value.category]) (by simp [leL, enl, Value.category]) H
set_option maxHeartbeats 4000000 in
set_option maxRecDepth 100000 in
theorem sX7_addUpLengths_6 {w : Wd} {Q : Hp → Prop} {h : Hp} {a0 : Nat} {a1 : Nat} {x2 : Int32} (H : (hs h a0).1 = 20 ∧ (((hI h a0 5) ≤ x2 → Q h) ∧ (¬ (hI h a0 5) ≤ x2 → (hs h a1).1 = 1 ∧ vp_in x2 (hs h a1).2 ∧ AC w mX0_lengthOf 0 0 (rI fun r1 h1 => (hs h1 a1).1 = 1 ∧ vp_in (x2 + 1) (hs h1 a1).2 ∧ ∀ h2, h2 = sI h1 a1 (x2 + 1).toNatClampNeg ((hI h a1 x2.toNatClampNeg) + r1) → AW w mX7_addUpLengths 0 0 (rV Q) 0 0 6 [some (.ref a0), some (.ref a1), some (.int (x2 + 1))] [] h2) [.ref a0, .int x2, .int 1] h))) : AW w mX7_addUpLengths 0 0 (rV Q) 0 0 6 [some (.ref a0), some (.ref a1), some (.int x2)] [] h := by
  refine aw_iload_n 7 dX7_addUpLengths_6 rfl rfl ?_
  refine aw_aload_n 8 dX7_addUpLengths_7 rfl rfl ?_
  obtain ⟨g1, H⟩ := H
  refine aw_getI 11 dX7_addUpLengths_8 rfl fl_X7_80 (by decide) g1 ?_
  refine aw_icmp_ge 35 14 dX7_addUpLengths_11 rfl (by decide) (fun c2 => ?_) (fun c2 => ?_)
  · replace H := H.1 c2
    exact aw_return dX7_addUpLengths_35 rfl (by decide) (by decide) ⟨rfl, H⟩
  · replace H := H.2 c2
    refine aw_aload_n 15 dX7_addUpLengths_14 rfl rfl ?_
    refine aw_iload_n 16 dX7_addUpLengths_15 rfl rfl ?_
    refine aw_iconst (v := 1) 17 dX7_addUpLengths_16 rfl (by decide) ?_
    refine aw_iadd 18 dX7_addUpLengths_17 rfl ?_
    refine aw_aload_n 19 dX7_addUpLengths_18 rfl rfl ?_
    refine aw_iload_n 20 dX7_addUpLengths_19 rfl rfl ?_
    obtain ⟨g3, H⟩ := H
    obtain ⟨g4, H⟩ := H
    refine aw_iald 21 dX7_addUpLengths_20 rfl (Or.inl (shp g3)) g4 ?_
    refine aw_aload_n 22 dX7_addUpLengths_21 rfl rfl ?_
    refine aw_iload_n 23 dX7_addUpLengths_22 rfl rfl ?_
    refine aw_iconst (v := 1) 24 dX7_addUpLengths_23 rfl (by decide) ?_
    refine aw_callV (stk := [.int (hI h a1 x2.toNatClampNeg), .int (x2 + 1), .ref a1]) (ci := 0) [.int x2, .int 1] 27 dX7_addUpLengths_24 rfl mv_X7_87 ⟨by decide, by decide⟩ g1 (by intro r hr; cases hr; rfl) rfl rfl (by simp [Value.category]) (by decide) H ?_
    rintro _ h1 ⟨r1, rfl, H⟩
    refine aw_iadd 28 dX7_addUpLengths_27 rfl ?_
    obtain ⟨g5, H⟩ := H
    obtain ⟨g6, H⟩ := H
    refine aw_iast 29 dX7_addUpLengths_28 rfl (shp g5) g6 ?_
    replace H := H _ rfl
    refine aw_iinc (y := 1) (loc' := [some (.ref a0), some (.ref a1), some (.int (x2 + 1))]) 32 dX7_addUpLengths_29 rfl (by decide) rfl (by decide) rfl ?_
    refine aw_goto 6 dX7_addUpLengths_32 (by decide) ?_
    exact H
set_option maxHeartbeats 4000000 in
set_option maxRecDepth 100000 in
theorem sX7_placeOf_0 {w : Wd} {Q : Int32 → Hp → Prop} {h : Hp} {x0 : Int32} {x1 : Int32} (H : Q ((x0 * 21) + x1) h) : AW w mX7_placeOf 0 0 (rI Q) 0 0 0 [some (.int x0), some (.int x1)] [] h := by
  refine aw_iload_n 1 dX7_placeOf_0 rfl rfl ?_
  refine aw_bipush (v := 21) 3 dX7_placeOf_1 rfl (by decide) ?_
  refine aw_imul 4 dX7_placeOf_3 rfl ?_
  refine aw_iload_n 5 dX7_placeOf_4 rfl rfl ?_
  refine aw_iadd 6 dX7_placeOf_5 rfl ?_
  exact aw_ireturn dX7_placeOf_6 rfl (by decide) (by decide) ⟨_, rfl, H⟩
theorem eX7_placeOf {w : Wd} {Q : Int32 → Hp → Prop} {h : Hp} {x0 : Int32} {x1 : Int32} (H : AW w mX7_placeOf 0 0 (rI Q) 0 0 0 [some (.int x0), some (.int x1)] [] h) : AC w mX7_placeOf 0 0 (rI Q) [.int x0, .int x1] h := AC.ofL (by decide) (by simp [enl, Value.category]) (by simp [leL, enl, Value.category]) H
set_option maxHeartbeats 4000000 in
set_option maxRecDepth 100000 in
theorem sX7_costIndex_0 {w : Wd} {Q : Int32 → Hp → Prop} {h : Hp} {x0 : Int32} {x1 : Int32} {x2 : Int32} (H : Q (((x0 * 441) + (x1 * 21)) + x2) h) : AW w mX7_costIndex 0 0 (rI Q) 0 0 0 [some (.int x0), some (.int x1), some (.int x2)] [] h := by
  refine aw_iload_n 1 dX7_costIndex_0 rfl rfl ?_
  refine aw_sipush (v := 441) 4 dX7_costIndex_1 rfl (by decide) ?_
  refine aw_imul 5 dX7_costIndex_4 rfl ?_
  refine aw_iload_n 6 dX7_costIndex_5 rfl rfl ?_
  refine aw_bipush (v := 21) 8 dX7_costIndex_6 rfl (by decide) ?_
  refine aw_imul 9 dX7_costIndex_8 rfl ?_
  refine aw_iadd 10 dX7_costIndex_9 rfl ?_
  refine aw_iload_n 11 dX7_costIndex_10 rfl rfl ?_
  refine aw_iadd 12 dX7_costIndex_11 rfl ?_
  exact aw_ireturn dX7_costIndex_12 rfl (by decide) (by decide) ⟨_, rfl, H⟩
theorem eX7_costIndex {w : Wd} {Q : Int32 → Hp → Prop} {h : Hp} {x0 : Int32} {x1 : Int32} {x2 : Int32} (H : AW w mX7_costIndex 0 0 (rI Q) 0 0 0 [some (.int x0), some (.int x1), some (.int x2)] [] h) : AC w mX7_costIndex 0 0 (rI Q) [.int x0, .int x1, .int x2] h := AC.ofL (by decide) (by simp [enl, Value.category]) (by simp [leL, enl, Value.category]) H
set_option maxHeartbeats 4000000 in
set_option maxRecDepth 100000 in
theorem sX7_fillCosts_0 {w : Wd} {Q : Hp → Prop} {h : Hp} {a0 : Nat} (H : AW w mX7_fillCosts 0 0 (rV Q) 0 0 2 [some (.ref a0), some (.int 0), none, none] [] h) : AW w mX7_fillCosts 0 0 (rV Q) 0 0 0 [some (.ref a0), none, none, none] [] h := by
  refine aw_iconst (v := 0) 1 dX7_fillCosts_0 rfl (by decide) ?_
  refine aw_istore_n (loc' := [some (.ref a0), some (.int 0), none, none]) 2 dX7_fillCosts_1 rfl (by decide) rfl ?_
  exact H
theorem eX7_fillCosts {w : Wd} {Q : Hp → Prop} {h : Hp} {a0 : Nat} (H : AW w mX7_fillCosts 0 0 (rV Q) 0 0 0 [some (.ref a0), none, none, none] [] h) : AC w mX7_fillCosts 0 0 (rV Q) [.ref a0] h := AC.ofL (by decide) (by simp [enl, Value.category]) (by simp [leL, enl, Value.category]) H
set_option maxHeartbeats 4000000 in
set_option maxRecDepth 100000 in
theorem sX7_fillCosts_2 {w : Wd} {Q : Hp → Prop} {h : Hp} {a0 : Nat} {x1 : Int32} (H : ((7 ≤ x1 → Q h) ∧ (¬ 7 ≤ x1 → AW w mX7_fillCosts 0 0 (rV Q) 0 0 10 [some (.ref a0), some (.int x1), some (.int 0), none] [] h))) : AW w mX7_fillCosts 0 0 (rV Q) 0 0 2 [some (.ref a0), some (.int x1), none, none] [] h := by
  refine aw_iload_n 3 dX7_fillCosts_2 rfl rfl ?_
  refine aw_bipush (v := 7) 5 dX7_fillCosts_3 rfl (by decide) ?_
  refine aw_icmp_ge 89 8 dX7_fillCosts_5 rfl (by decide) (fun c1 => ?_) (fun c1 => ?_)
  · replace H := H.1 c1
    exact aw_return dX7_fillCosts_89 rfl (by decide) (by decide) ⟨rfl, H⟩
  · replace H := H.2 c1
    refine aw_iconst (v := 0) 9 dX7_fillCosts_8 rfl (by decide) ?_
    refine aw_istore_n (loc' := [some (.ref a0), some (.int x1), some (.int 0), none]) 10 dX7_fillCosts_9 rfl (by decide) rfl ?_
    exact H
set_option maxHeartbeats 4000000 in
set_option maxRecDepth 100000 in
theorem sX7_fillCosts_10 {w : Wd} {Q : Hp → Prop} {h : Hp} {a0 : Nat} {x1 : Int32} {x2 : Int32} (H : (hs h a0).1 = 27 ∧ hR h a0 0 ≠ 0 ∧ (hs h (hR h a0 0)).1 = 9 ∧ vp_in 0 (hs h (hR h a0 0)).2 ∧ hR h (hR h a0 0) (0 : Int32).toNatClampNeg ≠ 0 ∧ (hs h (hR h (hR h a0 0) (0 : Int32).toNatClampNeg)).1 = 20 ∧ (((hI h (hR h (hR h a0 0) (0 : Int32).toNatClampNeg) 5) < x2 → AW w mX7_fillCosts 0 0 (rV Q) 0 0 2 [some (.ref a0), some (.int (x1 + 1)), none, none] [] h) ∧ (¬ (hI h (hR h (hR h a0 0) (0 : Int32).toNatClampNeg) 5) < x2 → AW w mX7_fillCosts 0 0 (rV Q) 0 0 25 [some (.ref a0), some (.int x1), some (.int x2), some (.int 0)] [] h))) : AW w mX7_fillCosts 0 0 (rV Q) 0 0 10 [some (.ref a0), some (.int x1), some (.int x2), none] [] h := by
  refine aw_iload_n 11 dX7_fillCosts_10 rfl rfl ?_
  refine aw_aload_n 12 dX7_fillCosts_11 rfl rfl ?_
  obtain ⟨g1, H⟩ := H
  obtain ⟨g2, H⟩ := H
  refine aw_getR 15 dX7_fillCosts_12 rfl fl_X7_46 ir_7_0 g1 rfl g2 ?_
  refine aw_iconst (v := 0) 16 dX7_fillCosts_15 rfl (by decide) ?_
  obtain ⟨g3, H⟩ := H
  obtain ⟨g4, H⟩ := H
  obtain ⟨g5, H⟩ := H
  refine aw_aald 17 dX7_fillCosts_16 rfl (shp g3) (by decide) g4 rfl g5 ?_
  obtain ⟨g6, H⟩ := H
  refine aw_getI 20 dX7_fillCosts_17 rfl fl_X7_80 (by decide) g6 ?_
  refine aw_icmp_gt 83 23 dX7_fillCosts_20 rfl (by decide) (fun c7 => ?_) (fun c7 => ?_)
  · replace H := H.1 c7
    refine aw_iinc (y := 1) (loc' := [some (.ref a0), some (.int (x1 + 1)), some (.int x2), none]) 86 dX7_fillCosts_83 rfl (by decide) rfl (by decide) rfl ?_
    refine aw_goto 2 dX7_fillCosts_86 (by decide) ?_
    exact aw_fgt (by simp [leL]) H
  · replace H := H.2 c7
    refine aw_iconst (v := 0) 24 dX7_fillCosts_23 rfl (by decide) ?_
    refine aw_istore_n (loc' := [some (.ref a0), some (.int x1), some (.int x2), some (.int 0)]) 25 dX7_fillCosts_24 rfl (by decide) rfl ?_
    exact H
set_option maxHeartbeats 4000000 in
set_option maxRecDepth 100000 in
theorem sX7_fillCosts_25 {w : Wd} {Q : Hp → Prop} {h : Hp} {a0 : Nat} {x1 : Int32} {x2 : Int32} {x3 : Int32} (H : (hs h a0).1 = 27 ∧ hR h a0 0 ≠ 0 ∧ (hs h (hR h a0 0)).1 = 9 ∧ vp_in 1 (hs h (hR h a0 0)).2 ∧ hR h (hR h a0 0) (1 : Int32).toNatClampNeg ≠ 0 ∧ (hs h (hR h (hR h a0 0) (1 : Int32).toNatClampNeg)).1 = 20 ∧ (((hI h (hR h (hR h a0 0) (1 : Int32).toNatClampNeg) 5) < x3 → AW w mX7_fillCosts 0 0 (rV Q) 0 0 10 [some (.ref a0), some (.int x1), some (.int (x2 + 1)), none] [] h) ∧ (¬ (hI h (hR h (hR h a0 0) (1 : Int32).toNatClampNeg) 5) < x3 → hR h a0 8 ≠ 0 ∧ AC w mX7_costIndex 0 0 (rI fun r1 h1 => (hs h1 a0).1 = 27 ∧ AC w mX7_mayStand 0 0 (rI fun r2 h2 => ((r2 = 0 → (hs h2 (hR h a0 8)).1 = 1 ∧ vp_in r1 (hs h2 (hR h a0 8)).2 ∧ ∀ h3, h3 = sI h2 (hR h a0 8) r1.toNatClampNeg 1000000000 → AW w mX7_fillCosts 0 0 (rV Q) 0 0 25 [some (.ref a0), some (.int x1), some (.int x2), some (.int (x3 + 1))] [] h3) ∧ (¬ r2 = 0 → (hs h2 a0).1 = 27 ∧ AC w mX7_priceAt 0 0 (rI fun r3 h4 => (hs h4 (hR h a0 8)).1 = 1 ∧ vp_in r1 (hs h4 (hR h a0 8)).2 ∧ ∀ h5, h5 = sI h4 (hR h a0 8) r1.toNatClampNeg r3 → AW w mX7_fillCosts 0 0 (rV Q) 0 0 25 [some (.ref a0), some (.int x1), some (.int x2), some (.int (x3 + 1))] [] h5) [.ref a0, .int x1, .int x2, .int x3] h2))) [.ref a0, .int x1, .int x2, .int x3] h1) [.int x1, .int x2, .int x3] h))) : AW w mX7_fillCosts 0 0 (rV Q) 0 0 25 [some (.ref a0), some (.int x1), some (.int x2), some (.int x3)] [] h := by
  refine aw_iload_n 26 dX7_fillCosts_25 rfl rfl ?_
  refine aw_aload_n 27 dX7_fillCosts_26 rfl rfl ?_
  obtain ⟨g1, H⟩ := H
  obtain ⟨g2, H⟩ := H
  refine aw_getR 30 dX7_fillCosts_27 rfl fl_X7_46 ir_7_0 g1 rfl g2 ?_
  refine aw_iconst (v := 1) 31 dX7_fillCosts_30 rfl (by decide) ?_
  obtain ⟨g3, H⟩ := H
  obtain ⟨g4, H⟩ := H
  obtain ⟨g5, H⟩ := H
  refine aw_aald 32 dX7_fillCosts_31 rfl (shp g3) (by decide) g4 rfl g5 ?_
  obtain ⟨g6, H⟩ := H
  refine aw_getI 35 dX7_fillCosts_32 rfl fl_X7_80 (by decide) g6 ?_
  refine aw_icmp_gt 77 38 dX7_fillCosts_35 rfl (by decide) (fun c7 => ?_) (fun c7 => ?_)
  · replace H := H.1 c7
    refine aw_iinc (y := 1) (loc' := [some (.ref a0), some (.int x1), some (.int (x2 + 1)), some (.int x3)]) 80 dX7_fillCosts_77 rfl (by decide) rfl (by decide) rfl ?_
    refine aw_goto 10 dX7_fillCosts_80 (by decide) ?_
    exact aw_fgt (by simp [leL]) H
  · replace H := H.2 c7
    refine aw_aload_n 39 dX7_fillCosts_38 rfl rfl ?_
    obtain ⟨g8, H⟩ := H
    refine aw_getR 42 dX7_fillCosts_39 rfl fl_X7_25 ir_7_8 g1 rfl g8 ?_
    refine aw_iload_n 43 dX7_fillCosts_42 rfl rfl ?_
    refine aw_iload_n 44 dX7_fillCosts_43 rfl rfl ?_
    refine aw_iload_n 45 dX7_fillCosts_44 rfl rfl ?_
    refine aw_callS (stk := [.ref (hR h a0 8)]) [.int x1, .int x2, .int x3] 48 dX7_fillCosts_45 rfl mv_X7_91 ⟨by decide, by decide⟩ rfl rfl (by simp [Value.category]) (by decide) H ?_
    rintro _ h1 ⟨r1, rfl, H⟩
    refine aw_aload_n 49 dX7_fillCosts_48 rfl rfl ?_
    refine aw_iload_n 50 dX7_fillCosts_49 rfl rfl ?_
    refine aw_iload_n 51 dX7_fillCosts_50 rfl rfl ?_
    refine aw_iload_n 52 dX7_fillCosts_51 rfl rfl ?_
    obtain ⟨g9, H⟩ := H
    refine aw_callV (stk := [.int r1, .ref (hR h a0 8)]) (ci := 7) [.int x1, .int x2, .int x3] 55 dX7_fillCosts_52 rfl mv_X7_95 ⟨by decide, by decide⟩ g9 (by intro r hr; cases hr; rfl) rfl rfl (by simp [Value.category]) (by decide) H ?_
    rintro _ h2 ⟨r2, rfl, H⟩
    refine aw_if_eq 68 58 dX7_fillCosts_55 rfl (by decide) (fun c10 => ?_) (fun c10 => ?_)
    · replace H := H.1 c10
      refine aw_ldc 70 dX7_fillCosts_68 rfl kc_X7_102 ?_
      obtain ⟨g11, H⟩ := H
      obtain ⟨g12, H⟩ := H
      refine aw_iast 71 dX7_fillCosts_70 rfl (shp g11) g12 ?_
      replace H := H _ rfl
      refine aw_iinc (y := 1) (loc' := [some (.ref a0), some (.int x1), some (.int x2), some (.int (x3 + 1))]) 74 dX7_fillCosts_71 rfl (by decide) rfl (by decide) rfl ?_
      refine aw_goto 25 dX7_fillCosts_74 (by decide) ?_
      exact H
    · replace H := H.2 c10
      refine aw_aload_n 59 dX7_fillCosts_58 rfl rfl ?_
      refine aw_iload_n 60 dX7_fillCosts_59 rfl rfl ?_
      refine aw_iload_n 61 dX7_fillCosts_60 rfl rfl ?_
      refine aw_iload_n 62 dX7_fillCosts_61 rfl rfl ?_
      obtain ⟨g13, H⟩ := H
      refine aw_callV (stk := [.int r1, .ref (hR h a0 8)]) (ci := 7) [.int x1, .int x2, .int x3] 65 dX7_fillCosts_62 rfl mv_X7_99 ⟨by decide, by decide⟩ g13 (by intro r hr; cases hr; rfl) rfl rfl (by simp [Value.category]) (by decide) H ?_
      rintro _ h4 ⟨r3, rfl, H⟩
      refine aw_goto 70 dX7_fillCosts_65 (by decide) ?_
      obtain ⟨g14, H⟩ := H
      obtain ⟨g15, H⟩ := H
      refine aw_iast 71 dX7_fillCosts_70 rfl (shp g14) g15 ?_
      replace H := H _ rfl
      refine aw_iinc (y := 1) (loc' := [some (.ref a0), some (.int x1), some (.int x2), some (.int (x3 + 1))]) 74 dX7_fillCosts_71 rfl (by decide) rfl (by decide) rfl ?_
      refine aw_goto 25 dX7_fillCosts_74 (by decide) ?_
      exact H
set_option maxHeartbeats 4000000 in
set_option maxRecDepth 100000 in
theorem sX7_mayStand_0 {w : Wd} {Q : Int32 → Hp → Prop} {h : Hp} {a0 : Nat} {x1 : Int32} {x2 : Int32} {x3 : Int32} (H : (hs h a0).1 = 27 ∧ hR h a0 0 ≠ 0 ∧ (hs h (hR h a0 0)).1 = 9 ∧ vp_in 0 (hs h (hR h a0 0)).2 ∧ hR h (hR h a0 0) (0 : Int32).toNatClampNeg ≠ 0 ∧ (hs h 1).1 = 4 ∧ vp_in x1 (hs h 1).2 ∧ (hs h (hR h (hR h a0 0) (0 : Int32).toNatClampNeg)).1 = 20 ∧ AC w mX0_hasRun 0 0 (rI fun r1 h1 => ((r1 = 0 → Q 0 h1) ∧ (¬ r1 = 0 → (hs h1 a0).1 = 27 ∧ hR h1 a0 0 ≠ 0 ∧ (hs h1 (hR h1 a0 0)).1 = 9 ∧ vp_in 1 (hs h1 (hR h1 a0 0)).2 ∧ hR h1 (hR h1 a0 0) (1 : Int32).toNatClampNeg ≠ 0 ∧ (hs h1 2).1 = 4 ∧ vp_in x1 (hs h1 2).2 ∧ (hs h1 (hR h1 (hR h1 a0 0) (1 : Int32).toNatClampNeg)).1 = 20 ∧ AC w mX0_hasRun 0 0 (rI fun r2 h2 => ((r2 = 0 → Q 0 h2) ∧ (¬ r2 = 0 → (hs h2 a0).1 = 27 ∧ hR h2 a0 1 ≠ 0 ∧ (hs h2 (hR h2 a0 1)).1 = 23 ∧ AC w mX3_allow 0 0 (rI fun r3 h3 => ((r3 = 0 → Q 0 h3) ∧ (¬ r3 = 0 → (hs h3 a0).1 = 27 ∧ (((hI h3 a0 3) = 0 → Q 1 h3) ∧ (¬ (hI h3 a0 3) = 0 → (hs h3 1).1 = 4 ∧ vp_in x1 (hs h3 1).2 ∧ (hs h3 2).1 = 4 ∧ vp_in x1 (hs h3 2).2 ∧ AC w mX7_keepsParagraphs 0 0 (rI fun r4 h4 => ((r4 = 0 → Q 0 h4) ∧ (¬ r4 = 0 → Q 1 h4))) [.ref a0, .int x2, .int x3, .int (x2 + (hI h3 1 x1.toNatClampNeg)), .int (x3 + (hI h3 2 x1.toNatClampNeg))] h3))))) [.ref (hR h2 a0 1), .int x1, .int x2, .int x3] h2))) [.ref (hR h1 (hR h1 a0 0) (1 : Int32).toNatClampNeg), .int x3, .int (hI h1 2 x1.toNatClampNeg)] h1))) [.ref (hR h (hR h a0 0) (0 : Int32).toNatClampNeg), .int x2, .int (hI h 1 x1.toNatClampNeg)] h) : AW w mX7_mayStand 0 0 (rI Q) 0 0 0 [some (.ref a0), some (.int x1), some (.int x2), some (.int x3)] [] h := by
  refine aw_aload_n 1 dX7_mayStand_0 rfl rfl ?_
  obtain ⟨g1, H⟩ := H
  obtain ⟨g2, H⟩ := H
  refine aw_getR 4 dX7_mayStand_1 rfl fl_X7_46 ir_7_0 g1 rfl g2 ?_
  refine aw_iconst (v := 0) 5 dX7_mayStand_4 rfl (by decide) ?_
  obtain ⟨g3, H⟩ := H
  obtain ⟨g4, H⟩ := H
  obtain ⟨g5, H⟩ := H
  refine aw_aald 6 dX7_mayStand_5 rfl (shp g3) (by decide) g4 rfl g5 ?_
  refine aw_iload_n 7 dX7_mayStand_6 rfl rfl ?_
  refine aw_getsN (j := 1) 10 dX7_mayStand_7 rfl (by decide) gs_X7_103 ?_
  refine aw_iload_n 11 dX7_mayStand_10 rfl rfl ?_
  obtain ⟨g6, H⟩ := H
  obtain ⟨g7, H⟩ := H
  refine aw_iald 12 dX7_mayStand_11 rfl (Or.inr (shp g6)) g7 ?_
  obtain ⟨g8, H⟩ := H
  refine aw_callV (stk := []) (ci := 0) [.int x2, .int (hI h 1 x1.toNatClampNeg)] 15 dX7_mayStand_12 rfl mv_X7_106 ⟨by decide, by decide⟩ g8 (by intro r hr; cases hr; rfl) rfl rfl (by simp [Value.category]) (by decide) H ?_
  rintro _ h1 ⟨r1, rfl, H⟩
  refine aw_if_eq 83 18 dX7_mayStand_15 rfl (by decide) (fun c9 => ?_) (fun c9 => ?_)
  · replace H := H.1 c9
    refine aw_iconst (v := 0) 84 dX7_mayStand_83 rfl (by decide) ?_
    exact aw_zreturn dX7_mayStand_84 rfl (by decide) (by decide) (by decide) ⟨_, rfl, H⟩
  · replace H := H.2 c9
    refine aw_aload_n 19 dX7_mayStand_18 rfl rfl ?_
    obtain ⟨g10, H⟩ := H
    obtain ⟨g11, H⟩ := H
    refine aw_getR 22 dX7_mayStand_19 rfl fl_X7_46 ir_7_0 g10 rfl g11 ?_
    refine aw_iconst (v := 1) 23 dX7_mayStand_22 rfl (by decide) ?_
    obtain ⟨g12, H⟩ := H
    obtain ⟨g13, H⟩ := H
    obtain ⟨g14, H⟩ := H
    refine aw_aald 24 dX7_mayStand_23 rfl (shp g12) (by decide) g13 rfl g14 ?_
    refine aw_iload_n 25 dX7_mayStand_24 rfl rfl ?_
    refine aw_getsN (j := 2) 28 dX7_mayStand_25 rfl (by decide) gs_X7_110 ?_
    refine aw_iload_n 29 dX7_mayStand_28 rfl rfl ?_
    obtain ⟨g15, H⟩ := H
    obtain ⟨g16, H⟩ := H
    refine aw_iald 30 dX7_mayStand_29 rfl (Or.inr (shp g15)) g16 ?_
    obtain ⟨g17, H⟩ := H
    refine aw_callV (stk := []) (ci := 0) [.int x3, .int (hI h1 2 x1.toNatClampNeg)] 33 dX7_mayStand_30 rfl mv_X7_106 ⟨by decide, by decide⟩ g17 (by intro r hr; cases hr; rfl) rfl rfl (by simp [Value.category]) (by decide) H ?_
    rintro _ h2 ⟨r2, rfl, H⟩
    refine aw_if_eq 83 36 dX7_mayStand_33 rfl (by decide) (fun c18 => ?_) (fun c18 => ?_)
    · replace H := H.1 c18
      refine aw_iconst (v := 0) 84 dX7_mayStand_83 rfl (by decide) ?_
      exact aw_zreturn dX7_mayStand_84 rfl (by decide) (by decide) (by decide) ⟨_, rfl, H⟩
    · replace H := H.2 c18
      refine aw_aload_n 37 dX7_mayStand_36 rfl rfl ?_
      obtain ⟨g19, H⟩ := H
      obtain ⟨g20, H⟩ := H
      refine aw_getR 40 dX7_mayStand_37 rfl fl_X7_50 ir_7_1 g19 rfl g20 ?_
      refine aw_iload_n 41 dX7_mayStand_40 rfl rfl ?_
      refine aw_iload_n 42 dX7_mayStand_41 rfl rfl ?_
      refine aw_iload_n 43 dX7_mayStand_42 rfl rfl ?_
      obtain ⟨g21, H⟩ := H
      refine aw_callV (stk := []) (ci := 3) [.int x1, .int x2, .int x3] 46 dX7_mayStand_43 rfl mv_X7_113 ⟨by decide, by decide⟩ g21 (by intro r hr; cases hr; rfl) rfl rfl (by simp [Value.category]) (by decide) H ?_
      rintro _ h3 ⟨r3, rfl, H⟩
      refine aw_if_eq 83 49 dX7_mayStand_46 rfl (by decide) (fun c22 => ?_) (fun c22 => ?_)
      · replace H := H.1 c22
        refine aw_iconst (v := 0) 84 dX7_mayStand_83 rfl (by decide) ?_
        exact aw_zreturn dX7_mayStand_84 rfl (by decide) (by decide) (by decide) ⟨_, rfl, H⟩
      · replace H := H.2 c22
        refine aw_aload_n 50 dX7_mayStand_49 rfl rfl ?_
        obtain ⟨g23, H⟩ := H
        refine aw_getI 53 dX7_mayStand_50 rfl fl_X7_118 (by decide) g23 ?_
        refine aw_if_eq 79 56 dX7_mayStand_53 rfl (by decide) (fun c24 => ?_) (fun c24 => ?_)
        · replace H := H.1 c24
          refine aw_iconst (v := 1) 80 dX7_mayStand_79 rfl (by decide) ?_
          refine aw_goto 84 dX7_mayStand_80 (by decide) ?_
          exact aw_zreturn dX7_mayStand_84 rfl (by decide) (by decide) (by decide) ⟨_, rfl, H⟩
        · replace H := H.2 c24
          refine aw_aload_n 57 dX7_mayStand_56 rfl rfl ?_
          refine aw_iload_n 58 dX7_mayStand_57 rfl rfl ?_
          refine aw_iload_n 59 dX7_mayStand_58 rfl rfl ?_
          refine aw_iload_n 60 dX7_mayStand_59 rfl rfl ?_
          refine aw_getsN (j := 1) 63 dX7_mayStand_60 rfl (by decide) gs_X7_103 ?_
          refine aw_iload_n 64 dX7_mayStand_63 rfl rfl ?_
          obtain ⟨g25, H⟩ := H
          obtain ⟨g26, H⟩ := H
          refine aw_iald 65 dX7_mayStand_64 rfl (Or.inr (shp g25)) g26 ?_
          refine aw_iadd 66 dX7_mayStand_65 rfl ?_
          refine aw_iload_n 67 dX7_mayStand_66 rfl rfl ?_
          refine aw_getsN (j := 2) 70 dX7_mayStand_67 rfl (by decide) gs_X7_110 ?_
          refine aw_iload_n 71 dX7_mayStand_70 rfl rfl ?_
          obtain ⟨g27, H⟩ := H
          obtain ⟨g28, H⟩ := H
          refine aw_iald 72 dX7_mayStand_71 rfl (Or.inr (shp g27)) g28 ?_
          refine aw_iadd 73 dX7_mayStand_72 rfl ?_
          refine aw_callV (stk := []) (ci := 7) [.int x2, .int x3, .int (x2 + (hI h3 1 x1.toNatClampNeg)), .int (x3 + (hI h3 2 x1.toNatClampNeg))] 76 dX7_mayStand_73 rfl mv_X7_122 ⟨by decide, by decide⟩ g23 (by intro r hr; cases hr; rfl) rfl rfl (by simp [Value.category]) (by decide) H ?_
          rintro _ h4 ⟨r4, rfl, H⟩
          refine aw_if_eq 83 79 dX7_mayStand_76 rfl (by decide) (fun c29 => ?_) (fun c29 => ?_)
          · replace H := H.1 c29
            refine aw_iconst (v := 0) 84 dX7_mayStand_83 rfl (by decide) ?_
            exact aw_zreturn dX7_mayStand_84 rfl (by decide) (by decide) (by decide) ⟨_, rfl, H⟩
          · replace H := H.2 c29
            refine aw_iconst (v := 1) 80 dX7_mayStand_79 rfl (by decide) ?_
            refine aw_goto 84 dX7_mayStand_80 (by decide) ?_
            exact aw_zreturn dX7_mayStand_84 rfl (by decide) (by decide) (by decide) ⟨_, rfl, H⟩
theorem eX7_mayStand {w : Wd} {Q : Int32 → Hp → Prop} {h : Hp} {a0 : Nat} {x1 : Int32} {x2 : Int32} {x3 : Int32} (H : AW w mX7_mayStand 0 0 (rI Q) 0 0 0 [some (.ref a0), some (.int x1), some (.int x2), some (.int x3)] [] h) : AC w mX7_mayStand 0 0 (rI Q) [.ref a0, .int x1, .int x2, .int x3] h := AC.ofL (by decide) (by simp [enl, Value.category]) (by simp [leL, enl, Value.category]) H
set_option maxHeartbeats 4000000 in
set_option maxRecDepth 100000 in
theorem sX7_keepsParagraphs_0 {w : Wd} {Q : Int32 → Hp → Prop} {h : Hp} {a0 : Nat} {x1 : Int32} {x2 : Int32} {x3 : Int32} {x4 : Int32} (H : (hs h a0).1 = 27 ∧ hR h a0 0 ≠ 0 ∧ (hs h (hR h a0 0)).1 = 9 ∧ vp_in 0 (hs h (hR h a0 0)).2 ∧ hR h (hR h a0 0) (0 : Int32).toNatClampNeg ≠ 0 ∧ (hs h (hR h (hR h a0 0) (0 : Int32).toNatClampNeg)).1 = 20 ∧ vp_in 1 (hs h (hR h a0 0)).2 ∧ hR h (hR h a0 0) (1 : Int32).toNatClampNeg ≠ 0 ∧ (hs h (hR h (hR h a0 0) (1 : Int32).toNatClampNeg)).1 = 20 ∧ AW w mX7_keepsParagraphs 0 0 (rI Q) 0 0 26 [some (.ref a0), some (.int x1), some (.int x2), some (.int x3), some (.int x4), some (.int (if (hI h (hR h (hR h a0 0) (1 : Int32).toNatClampNeg) 6) < (hI h (hR h (hR h a0 0) (0 : Int32).toNatClampNeg) 6) then (hI h (hR h (hR h a0 0) (1 : Int32).toNatClampNeg) 6) else (hI h (hR h (hR h a0 0) (0 : Int32).toNatClampNeg) 6))), some (.int 0), none, none, none, none] [] h) : AW w mX7_keepsParagraphs 0 0 (rI Q) 0 0 0 [some (.ref a0), some (.int x1), some (.int x2), some (.int x3), some (.int x4), none, none, none, none, none, none] [] h := by
  refine aw_aload_n 1 dX7_keepsParagraphs_0 rfl rfl ?_
  obtain ⟨g1, H⟩ := H
  obtain ⟨g2, H⟩ := H
  refine aw_getR 4 dX7_keepsParagraphs_1 rfl fl_X7_46 ir_7_0 g1 rfl g2 ?_
  refine aw_iconst (v := 0) 5 dX7_keepsParagraphs_4 rfl (by decide) ?_
  obtain ⟨g3, H⟩ := H
  obtain ⟨g4, H⟩ := H
  obtain ⟨g5, H⟩ := H
  refine aw_aald 6 dX7_keepsParagraphs_5 rfl (shp g3) (by decide) g4 rfl g5 ?_
  obtain ⟨g6, H⟩ := H
  refine aw_getI 9 dX7_keepsParagraphs_6 rfl fl_X7_126 (by decide) g6 ?_
  refine aw_aload_n 10 dX7_keepsParagraphs_9 rfl rfl ?_
  refine aw_getR 13 dX7_keepsParagraphs_10 rfl fl_X7_46 ir_7_0 g1 rfl g2 ?_
  refine aw_iconst (v := 1) 14 dX7_keepsParagraphs_13 rfl (by decide) ?_
  obtain ⟨g7, H⟩ := H
  obtain ⟨g8, H⟩ := H
  refine aw_aald 15 dX7_keepsParagraphs_14 rfl (shp g3) (by decide) g7 rfl g8 ?_
  obtain ⟨g9, H⟩ := H
  refine aw_getI 18 dX7_keepsParagraphs_15 rfl fl_X7_126 (by decide) g9 ?_
  refine aw_mmin (stk := []) 21 dX7_keepsParagraphs_18 rfl mv_X7_129 (by decide) (by simp [Value.category]) (by decide) (by decide) ?_
  refine aw_istore (loc' := [some (.ref a0), some (.int x1), some (.int x2), some (.int x3), some (.int x4), some (.int (if (hI h (hR h (hR h a0 0) (1 : Int32).toNatClampNeg) 6) < (hI h (hR h (hR h a0 0) (0 : Int32).toNatClampNeg) 6) then (hI h (hR h (hR h a0 0) (1 : Int32).toNatClampNeg) 6) else (hI h (hR h (hR h a0 0) (0 : Int32).toNatClampNeg) 6))), none, none, none, none, none]) 23 dX7_keepsParagraphs_21 rfl (by decide) rfl ?_
  refine aw_iconst (v := 0) 24 dX7_keepsParagraphs_23 rfl (by decide) ?_
  refine aw_istore (loc' := [some (.ref a0), some (.int x1), some (.int x2), some (.int x3), some (.int x4), some (.int (if (hI h (hR h (hR h a0 0) (1 : Int32).toNatClampNeg) 6) < (hI h (hR h (hR h a0 0) (0 : Int32).toNatClampNeg) 6) then (hI h (hR h (hR h a0 0) (1 : Int32).toNatClampNeg) 6) else (hI h (hR h (hR h a0 0) (0 : Int32).toNatClampNeg) 6))), some (.int 0), none, none, none, none]) 26 dX7_keepsParagraphs_24 rfl (by decide) rfl ?_
  exact H
theorem eX7_keepsParagraphs {w : Wd} {Q : Int32 → Hp → Prop} {h : Hp} {a0 : Nat} {x1 : Int32} {x2 : Int32} {x3 : Int32} {x4 : Int32} (H : AW w mX7_keepsParagraphs 0 0 (rI Q) 0 0 0 [some (.ref a0), some (.int x1), some (.int x2), some (.int x3), some (.int x4), none, none, none, none, none, none] [] h) : AC w mX7_keepsParagraphs 0 0 (rI Q) [.ref a0, .int x1, .int x2, .int x3, .int x4] h := AC.ofL (by decide) (by simp [enl, Value.category]) (by simp [leL, enl, Value.category]) H
set_option maxHeartbeats 4000000 in
set_option maxRecDepth 100000 in
theorem sX7_keepsParagraphs_26 {w : Wd} {Q : Int32 → Hp → Prop} {h : Hp} {a0 : Nat} {x1 : Int32} {x2 : Int32} {x3 : Int32} {x4 : Int32} {x5 : Int32} {x6 : Int32} (H : ((x5 ≤ x6 → Q 1 h) ∧ (¬ x5 ≤ x6 → (hs h a0).1 = 27 ∧ hR h a0 0 ≠ 0 ∧ (hs h (hR h a0 0)).1 = 9 ∧ vp_in 0 (hs h (hR h a0 0)).2 ∧ hR h (hR h a0 0) (0 : Int32).toNatClampNeg ≠ 0 ∧ (hs h (hR h (hR h a0 0) (0 : Int32).toNatClampNeg)).1 = 20 ∧ hR h (hR h (hR h a0 0) (0 : Int32).toNatClampNeg) 4 ≠ 0 ∧ (hs h (hR h (hR h (hR h a0 0) (0 : Int32).toNatClampNeg) 4)).1 = 1 ∧ vp_in x6 (hs h (hR h (hR h (hR h a0 0) (0 : Int32).toNatClampNeg) 4)).2 ∧ vp_in 1 (hs h (hR h a0 0)).2 ∧ hR h (hR h a0 0) (1 : Int32).toNatClampNeg ≠ 0 ∧ (hs h (hR h (hR h a0 0) (1 : Int32).toNatClampNeg)).1 = 20 ∧ hR h (hR h (hR h a0 0) (1 : Int32).toNatClampNeg) 4 ≠ 0 ∧ (hs h (hR h (hR h (hR h a0 0) (1 : Int32).toNatClampNeg) 4)).1 = 1 ∧ vp_in x6 (hs h (hR h (hR h (hR h a0 0) (1 : Int32).toNatClampNeg) 4)).2 ∧ (((hI h (hR h (hR h (hR h a0 0) (0 : Int32).toNatClampNeg) 4) x6.toNatClampNeg) < x3 → AW w mX7_keepsParagraphs 0 0 (rI Q) 0 0 79 [some (.ref a0), some (.int x1), some (.int x2), some (.int x3), some (.int x4), some (.int x5), some (.int x6), some (.int (hI h (hR h (hR h (hR h a0 0) (0 : Int32).toNatClampNeg) 4) x6.toNatClampNeg)), some (.int (hI h (hR h (hR h (hR h a0 0) (1 : Int32).toNatClampNeg) 4) x6.toNatClampNeg)), none, none] [.int 0] h) ∧ (¬ (hI h (hR h (hR h (hR h a0 0) (0 : Int32).toNatClampNeg) 4) x6.toNatClampNeg) < x3 → (((hI h (hR h (hR h (hR h a0 0) (1 : Int32).toNatClampNeg) 4) x6.toNatClampNeg) < x4 → AW w mX7_keepsParagraphs 0 0 (rI Q) 0 0 79 [some (.ref a0), some (.int x1), some (.int x2), some (.int x3), some (.int x4), some (.int x5), some (.int x6), some (.int (hI h (hR h (hR h (hR h a0 0) (0 : Int32).toNatClampNeg) 4) x6.toNatClampNeg)), some (.int (hI h (hR h (hR h (hR h a0 0) (1 : Int32).toNatClampNeg) 4) x6.toNatClampNeg)), none, none] [.int 0] h) ∧ (¬ (hI h (hR h (hR h (hR h a0 0) (1 : Int32).toNatClampNeg) 4) x6.toNatClampNeg) < x4 → AW w mX7_keepsParagraphs 0 0 (rI Q) 0 0 79 [some (.ref a0), some (.int x1), some (.int x2), some (.int x3), some (.int x4), some (.int x5), some (.int x6), some (.int (hI h (hR h (hR h (hR h a0 0) (0 : Int32).toNatClampNeg) 4) x6.toNatClampNeg)), some (.int (hI h (hR h (hR h (hR h a0 0) (1 : Int32).toNatClampNeg) 4) x6.toNatClampNeg)), none, none] [.int 1] h))))))) : AW w mX7_keepsParagraphs 0 0 (rI Q) 0 0 26 [some (.ref a0), some (.int x1), some (.int x2), some (.int x3), some (.int x4), some (.int x5), some (.int x6), none, none, none, none] [] h := by
  refine aw_iload 28 dX7_keepsParagraphs_26 rfl rfl ?_
  refine aw_iload 30 dX7_keepsParagraphs_28 rfl rfl ?_
  refine aw_icmp_ge 118 33 dX7_keepsParagraphs_30 rfl (by decide) (fun c1 => ?_) (fun c1 => ?_)
  · replace H := H.1 c1
    refine aw_iconst (v := 1) 119 dX7_keepsParagraphs_118 rfl (by decide) ?_
    exact aw_zreturn dX7_keepsParagraphs_119 rfl (by decide) (by decide) (by decide) ⟨_, rfl, H⟩
  · replace H := H.2 c1
    refine aw_aload_n 34 dX7_keepsParagraphs_33 rfl rfl ?_
    obtain ⟨g2, H⟩ := H
    obtain ⟨g3, H⟩ := H
    refine aw_getR 37 dX7_keepsParagraphs_34 rfl fl_X7_46 ir_7_0 g2 rfl g3 ?_
    refine aw_iconst (v := 0) 38 dX7_keepsParagraphs_37 rfl (by decide) ?_
    obtain ⟨g4, H⟩ := H
    obtain ⟨g5, H⟩ := H
    obtain ⟨g6, H⟩ := H
    refine aw_aald 39 dX7_keepsParagraphs_38 rfl (shp g4) (by decide) g5 rfl g6 ?_
    obtain ⟨g7, H⟩ := H
    obtain ⟨g8, H⟩ := H
    refine aw_getR 42 dX7_keepsParagraphs_39 rfl fl_X7_134 ir_0_4 g7 rfl g8 ?_
    refine aw_iload 44 dX7_keepsParagraphs_42 rfl rfl ?_
    obtain ⟨g9, H⟩ := H
    obtain ⟨g10, H⟩ := H
    refine aw_iald 45 dX7_keepsParagraphs_44 rfl (Or.inl (shp g9)) g10 ?_
    refine aw_istore (loc' := [some (.ref a0), some (.int x1), some (.int x2), some (.int x3), some (.int x4), some (.int x5), some (.int x6), some (.int (hI h (hR h (hR h (hR h a0 0) (0 : Int32).toNatClampNeg) 4) x6.toNatClampNeg)), none, none, none]) 47 dX7_keepsParagraphs_45 rfl (by decide) rfl ?_
    refine aw_aload_n 48 dX7_keepsParagraphs_47 rfl rfl ?_
    refine aw_getR 51 dX7_keepsParagraphs_48 rfl fl_X7_46 ir_7_0 g2 rfl g3 ?_
    refine aw_iconst (v := 1) 52 dX7_keepsParagraphs_51 rfl (by decide) ?_
    obtain ⟨g11, H⟩ := H
    obtain ⟨g12, H⟩ := H
    refine aw_aald 53 dX7_keepsParagraphs_52 rfl (shp g4) (by decide) g11 rfl g12 ?_
    obtain ⟨g13, H⟩ := H
    obtain ⟨g14, H⟩ := H
    refine aw_getR 56 dX7_keepsParagraphs_53 rfl fl_X7_134 ir_0_4 g13 rfl g14 ?_
    refine aw_iload 58 dX7_keepsParagraphs_56 rfl rfl ?_
    obtain ⟨g15, H⟩ := H
    obtain ⟨g16, H⟩ := H
    refine aw_iald 59 dX7_keepsParagraphs_58 rfl (Or.inl (shp g15)) g16 ?_
    refine aw_istore (loc' := [some (.ref a0), some (.int x1), some (.int x2), some (.int x3), some (.int x4), some (.int x5), some (.int x6), some (.int (hI h (hR h (hR h (hR h a0 0) (0 : Int32).toNatClampNeg) 4) x6.toNatClampNeg)), some (.int (hI h (hR h (hR h (hR h a0 0) (1 : Int32).toNatClampNeg) 4) x6.toNatClampNeg)), none, none]) 61 dX7_keepsParagraphs_59 rfl (by decide) rfl ?_
    refine aw_iload_n 62 dX7_keepsParagraphs_61 rfl rfl ?_
    refine aw_iload 64 dX7_keepsParagraphs_62 rfl rfl ?_
    refine aw_icmp_gt 78 67 dX7_keepsParagraphs_64 rfl (by decide) (fun c17 => ?_) (fun c17 => ?_)
    · replace H := H.1 c17
      refine aw_iconst (v := 0) 79 dX7_keepsParagraphs_78 rfl (by decide) ?_
      exact H
    · replace H := H.2 c17
      refine aw_iload 69 dX7_keepsParagraphs_67 rfl rfl ?_
      refine aw_iload 71 dX7_keepsParagraphs_69 rfl rfl ?_
      refine aw_icmp_gt 78 74 dX7_keepsParagraphs_71 rfl (by decide) (fun c18 => ?_) (fun c18 => ?_)
      · replace H := H.1 c18
        refine aw_iconst (v := 0) 79 dX7_keepsParagraphs_78 rfl (by decide) ?_
        exact H
      · replace H := H.2 c18
        refine aw_iconst (v := 1) 75 dX7_keepsParagraphs_74 rfl (by decide) ?_
        refine aw_goto 79 dX7_keepsParagraphs_75 (by decide) ?_
        exact H
set_option maxHeartbeats 4000000 in
set_option maxRecDepth 100000 in
theorem sX7_keepsParagraphs_79 {w : Wd} {Q : Int32 → Hp → Prop} {h : Hp} {a0 : Nat} {x1 : Int32} {x2 : Int32} {x3 : Int32} {x4 : Int32} {x5 : Int32} {x6 : Int32} {x7 : Int32} {x8 : Int32} {y0 : Int32} (H : ((x1 < x7 → ((¬ y0 = 0 → AW w mX7_keepsParagraphs 0 0 (rI Q) 0 0 26 [some (.ref a0), some (.int x1), some (.int x2), some (.int x3), some (.int x4), some (.int x5), some (.int (x6 + 1)), none, none, none, none] [] h) ∧ (y0 = 0 → Q 0 h))) ∧ (¬ x1 < x7 → ((x2 < x8 → ((¬ y0 = 0 → AW w mX7_keepsParagraphs 0 0 (rI Q) 0 0 26 [some (.ref a0), some (.int x1), some (.int x2), some (.int x3), some (.int x4), some (.int x5), some (.int (x6 + 1)), none, none, none, none] [] h) ∧ (y0 = 0 → Q 0 h))) ∧ (¬ x2 < x8 → ((¬ y0 = 0 → AW w mX7_keepsParagraphs 0 0 (rI Q) 0 0 26 [some (.ref a0), some (.int x1), some (.int x2), some (.int x3), some (.int x4), some (.int x5), some (.int (x6 + 1)), none, none, none, none] [] h) ∧ (y0 = 0 → AW w mX7_keepsParagraphs 0 0 (rI Q) 0 0 26 [some (.ref a0), some (.int x1), some (.int x2), some (.int x3), some (.int x4), some (.int x5), some (.int (x6 + 1)), none, none, none, none] [] h))))))) : AW w mX7_keepsParagraphs 0 0 (rI Q) 0 0 79 [some (.ref a0), some (.int x1), some (.int x2), some (.int x3), some (.int x4), some (.int x5), some (.int x6), some (.int x7), some (.int x8), none, none] [.int y0] h := by
  refine aw_istore (loc' := [some (.ref a0), some (.int x1), some (.int x2), some (.int x3), some (.int x4), some (.int x5), some (.int x6), some (.int x7), some (.int x8), some (.int y0), none]) 81 dX7_keepsParagraphs_79 rfl (by decide) rfl ?_
  refine aw_iload_n 82 dX7_keepsParagraphs_81 rfl rfl ?_
  refine aw_iload 84 dX7_keepsParagraphs_82 rfl rfl ?_
  refine aw_icmp_lt 97 87 dX7_keepsParagraphs_84 rfl (by decide) (fun c1 => ?_) (fun c1 => ?_)
  · replace H := H.1 c1
    refine aw_iconst (v := 0) 98 dX7_keepsParagraphs_97 rfl (by decide) ?_
    refine aw_istore (loc' := [some (.ref a0), some (.int x1), some (.int x2), some (.int x3), some (.int x4), some (.int x5), some (.int x6), some (.int x7), some (.int x8), some (.int y0), some (.int 0)]) 100 dX7_keepsParagraphs_98 rfl (by decide) rfl ?_
    refine aw_iload 102 dX7_keepsParagraphs_100 rfl rfl ?_
    refine aw_if_ne 112 105 dX7_keepsParagraphs_102 rfl (by decide) (fun c2 => ?_) (fun c2 => ?_)
    · replace H := H.1 c2
      refine aw_iinc (y := 1) (loc' := [some (.ref a0), some (.int x1), some (.int x2), some (.int x3), some (.int x4), some (.int x5), some (.int (x6 + 1)), some (.int x7), some (.int x8), some (.int y0), some (.int 0)]) 115 dX7_keepsParagraphs_112 rfl (by decide) rfl (by decide) rfl ?_
      refine aw_goto 26 dX7_keepsParagraphs_115 (by decide) ?_
      exact aw_fgt (by simp [leL]) H
    · replace H := H.2 c2
      refine aw_iload 107 dX7_keepsParagraphs_105 rfl rfl ?_
      refine aw_if_ne 112 110 dX7_keepsParagraphs_107 rfl (by decide) (fun c => absurd (by decide) c) (fun _ => ?_)
      refine aw_iconst (v := 0) 111 dX7_keepsParagraphs_110 rfl (by decide) ?_
      exact aw_zreturn dX7_keepsParagraphs_111 rfl (by decide) (by decide) (by decide) ⟨_, rfl, H⟩
  · replace H := H.2 c1
    refine aw_iload_n 88 dX7_keepsParagraphs_87 rfl rfl ?_
    refine aw_iload 90 dX7_keepsParagraphs_88 rfl rfl ?_
    refine aw_icmp_lt 97 93 dX7_keepsParagraphs_90 rfl (by decide) (fun c4 => ?_) (fun c4 => ?_)
    · replace H := H.1 c4
      refine aw_iconst (v := 0) 98 dX7_keepsParagraphs_97 rfl (by decide) ?_
      refine aw_istore (loc' := [some (.ref a0), some (.int x1), some (.int x2), some (.int x3), some (.int x4), some (.int x5), some (.int x6), some (.int x7), some (.int x8), some (.int y0), some (.int 0)]) 100 dX7_keepsParagraphs_98 rfl (by decide) rfl ?_
      refine aw_iload 102 dX7_keepsParagraphs_100 rfl rfl ?_
      refine aw_if_ne 112 105 dX7_keepsParagraphs_102 rfl (by decide) (fun c5 => ?_) (fun c5 => ?_)
      · replace H := H.1 c5
        refine aw_iinc (y := 1) (loc' := [some (.ref a0), some (.int x1), some (.int x2), some (.int x3), some (.int x4), some (.int x5), some (.int (x6 + 1)), some (.int x7), some (.int x8), some (.int y0), some (.int 0)]) 115 dX7_keepsParagraphs_112 rfl (by decide) rfl (by decide) rfl ?_
        refine aw_goto 26 dX7_keepsParagraphs_115 (by decide) ?_
        exact aw_fgt (by simp [leL]) H
      · replace H := H.2 c5
        refine aw_iload 107 dX7_keepsParagraphs_105 rfl rfl ?_
        refine aw_if_ne 112 110 dX7_keepsParagraphs_107 rfl (by decide) (fun c => absurd (by decide) c) (fun _ => ?_)
        refine aw_iconst (v := 0) 111 dX7_keepsParagraphs_110 rfl (by decide) ?_
        exact aw_zreturn dX7_keepsParagraphs_111 rfl (by decide) (by decide) (by decide) ⟨_, rfl, H⟩
    · replace H := H.2 c4
      refine aw_iconst (v := 1) 94 dX7_keepsParagraphs_93 rfl (by decide) ?_
      refine aw_goto 98 dX7_keepsParagraphs_94 (by decide) ?_
      refine aw_istore (loc' := [some (.ref a0), some (.int x1), some (.int x2), some (.int x3), some (.int x4), some (.int x5), some (.int x6), some (.int x7), some (.int x8), some (.int y0), some (.int 1)]) 100 dX7_keepsParagraphs_98 rfl (by decide) rfl ?_
      refine aw_iload 102 dX7_keepsParagraphs_100 rfl rfl ?_
      refine aw_if_ne 112 105 dX7_keepsParagraphs_102 rfl (by decide) (fun c7 => ?_) (fun c7 => ?_)
      · replace H := H.1 c7
        refine aw_iinc (y := 1) (loc' := [some (.ref a0), some (.int x1), some (.int x2), some (.int x3), some (.int x4), some (.int x5), some (.int (x6 + 1)), some (.int x7), some (.int x8), some (.int y0), some (.int 1)]) 115 dX7_keepsParagraphs_112 rfl (by decide) rfl (by decide) rfl ?_
        refine aw_goto 26 dX7_keepsParagraphs_115 (by decide) ?_
        exact aw_fgt (by simp [leL]) H
      · replace H := H.2 c7
        refine aw_iload 107 dX7_keepsParagraphs_105 rfl rfl ?_
        refine aw_if_ne 112 110 dX7_keepsParagraphs_107 rfl (by decide) (fun _ => ?_) (fun c => absurd c (by decide))
        refine aw_iinc (y := 1) (loc' := [some (.ref a0), some (.int x1), some (.int x2), some (.int x3), some (.int x4), some (.int x5), some (.int (x6 + 1)), some (.int x7), some (.int x8), some (.int y0), some (.int 1)]) 115 dX7_keepsParagraphs_112 rfl (by decide) rfl (by decide) rfl ?_
        refine aw_goto 26 dX7_keepsParagraphs_115 (by decide) ?_
        exact aw_fgt (by simp [leL]) H
set_option maxHeartbeats 4000000 in
set_option maxRecDepth 100000 in
theorem sX7_priceAt_0 {w : Wd} {Q : Int32 → Hp → Prop} {h : Hp} {a0 : Nat} {x1 : Int32} {x2 : Int32} {x3 : Int32} (H : (hs h 3).1 = 4 ∧ vp_in x1 (hs h 3).2 ∧ AC w mX9_hasBothSides 0 0 (rI fun r1 h1 => ((¬ r1 = 0 → ((¬ x1 = 6 → (hs h1 1).1 = 4 ∧ vp_in x1 (hs h1 1).2 ∧ (hs h1 2).1 = 4 ∧ vp_in x1 (hs h1 2).2 ∧ (hs h1 a0).1 = 27 ∧ AC w mX7_stretch 0 0 (rI fun r2 h2 => (hs h2 a0).1 = 27 ∧ AC w mX7_friendsOf 0 0 (rI fun r3 h3 => Q (((hI h 3 x1.toNatClampNeg) + r2) - (15 * (if 6 < r3 then 6 else r3))) h3) [.ref a0, .int x1, .int x2, .int x3] h2) [.ref a0, .int x2, .int (hI h1 1 x1.toNatClampNeg), .int x3, .int (hI h1 2 x1.toNatClampNeg)] h1) ∧ (x1 = 6 → (hs h1 a0).1 = 27 ∧ AC w mX7_stretch 0 0 (rI fun r4 h4 => (hs h4 a0).1 = 27 ∧ AC w mX7_stretch 0 0 (rI fun r5 h5 => (hs h5 a0).1 = 27 ∧ hR h5 a0 7 ≠ 0 ∧ (hs h5 (hR h5 a0 7)).1 = 5 ∧ vp_in (x3 + 1) (hs h5 (hR h5 a0 7)).2 ∧ AC w mX7_countFriends 0 0 (rI fun r6 h6 => (hs h6 a0).1 = 27 ∧ hR h6 a0 7 ≠ 0 ∧ (hs h6 (hR h6 a0 7)).1 = 5 ∧ vp_in x3 (hs h6 (hR h6 a0 7)).2 ∧ AC w mX7_countFriends 0 0 (rI fun r7 h7 => Q (((hI h 3 x1.toNatClampNeg) + (r4 + r5)) - (15 * (if 6 < (r6 + r7) then 6 else (r6 + r7)))) h7) [.ref a0, .int (x2 + 1), .long (hL h6 (hR h6 a0 7) x3.toNatClampNeg)] h6) [.ref a0, .int x2, .long (hL h5 (hR h5 a0 7) (x3 + 1).toNatClampNeg)] h5) [.ref a0, .int (x2 + 1), .int 1, .int x3, .int 1] h4) [.ref a0, .int x2, .int 1, .int (x3 + 1), .int 1] h1))) ∧ (r1 = 0 → Q (hI h 3 x1.toNatClampNeg) h1))) [.int x1] h) : AW w mX7_priceAt 0 0 (rI Q) 0 0 0 [some (.ref a0), some (.int x1), some (.int x2), some (.int x3), none, none] [] h := by
  refine aw_getsN (j := 3) 3 dX7_priceAt_0 rfl (by decide) gs_X7_137 ?_
  refine aw_iload_n 4 dX7_priceAt_3 rfl rfl ?_
  obtain ⟨g1, H⟩ := H
  obtain ⟨g2, H⟩ := H
  refine aw_iald 5 dX7_priceAt_4 rfl (Or.inr (shp g1)) g2 ?_
  refine aw_istore (loc' := [some (.ref a0), some (.int x1), some (.int x2), some (.int x3), some (.int (hI h 3 x1.toNatClampNeg)), none]) 7 dX7_priceAt_5 rfl (by decide) rfl ?_
  refine aw_iload_n 8 dX7_priceAt_7 rfl rfl ?_
  refine aw_callSN (stk := []) [.int x1] 11 dX7_priceAt_8 rfl mv_X7_140 ⟨by decide, by decide⟩ rfl rfl (by simp [Value.category]) (by decide) H ?_
  rintro _ h1 ⟨r1, rfl, H⟩
  refine aw_if_ne 17 14 dX7_priceAt_11 rfl (by decide) (fun c3 => ?_) (fun c3 => ?_)
  · replace H := H.1 c3
    refine aw_iload_n 18 dX7_priceAt_17 rfl rfl ?_
    refine aw_bipush (v := 6) 20 dX7_priceAt_18 rfl (by decide) ?_
    refine aw_icmp_ne 81 23 dX7_priceAt_20 rfl (by decide) (fun c4 => ?_) (fun c4 => ?_)
    · replace H := H.1 c4
      refine aw_iload 83 dX7_priceAt_81 rfl rfl ?_
      refine aw_aload_n 84 dX7_priceAt_83 rfl rfl ?_
      refine aw_iload_n 85 dX7_priceAt_84 rfl rfl ?_
      refine aw_getsN (j := 1) 88 dX7_priceAt_85 rfl (by decide) gs_X7_103 ?_
      refine aw_iload_n 89 dX7_priceAt_88 rfl rfl ?_
      obtain ⟨g5, H⟩ := H
      obtain ⟨g6, H⟩ := H
      refine aw_iald 90 dX7_priceAt_89 rfl (Or.inr (shp g5)) g6 ?_
      refine aw_iload_n 91 dX7_priceAt_90 rfl rfl ?_
      refine aw_getsN (j := 2) 94 dX7_priceAt_91 rfl (by decide) gs_X7_110 ?_
      refine aw_iload_n 95 dX7_priceAt_94 rfl rfl ?_
      obtain ⟨g7, H⟩ := H
      obtain ⟨g8, H⟩ := H
      refine aw_iald 96 dX7_priceAt_95 rfl (Or.inr (shp g7)) g8 ?_
      obtain ⟨g9, H⟩ := H
      refine aw_callV (stk := [.int (hI h 3 x1.toNatClampNeg)]) (ci := 7) [.int x2, .int (hI h1 1 x1.toNatClampNeg), .int x3, .int (hI h1 2 x1.toNatClampNeg)] 99 dX7_priceAt_96 rfl mv_X7_144 ⟨by decide, by decide⟩ g9 (by intro r hr; cases hr; rfl) rfl rfl (by simp [Value.category]) (by decide) H ?_
      rintro _ h2 ⟨r2, rfl, H⟩
      refine aw_iadd 100 dX7_priceAt_99 rfl ?_
      refine aw_istore (loc' := [some (.ref a0), some (.int x1), some (.int x2), some (.int x3), some (.int ((hI h 3 x1.toNatClampNeg) + r2)), none]) 102 dX7_priceAt_100 rfl (by decide) rfl ?_
      refine aw_aload_n 103 dX7_priceAt_102 rfl rfl ?_
      refine aw_iload_n 104 dX7_priceAt_103 rfl rfl ?_
      refine aw_iload_n 105 dX7_priceAt_104 rfl rfl ?_
      refine aw_iload_n 106 dX7_priceAt_105 rfl rfl ?_
      obtain ⟨g10, H⟩ := H
      refine aw_callV (stk := []) (ci := 7) [.int x1, .int x2, .int x3] 109 dX7_priceAt_106 rfl mv_X7_152 ⟨by decide, by decide⟩ g10 (by intro r hr; cases hr; rfl) rfl rfl (by simp [Value.category]) (by decide) H ?_
      rintro _ h3 ⟨r3, rfl, H⟩
      refine aw_istore (loc' := [some (.ref a0), some (.int x1), some (.int x2), some (.int x3), some (.int ((hI h 3 x1.toNatClampNeg) + r2)), some (.int r3)]) 111 dX7_priceAt_109 rfl (by decide) rfl ?_
      refine aw_iload 113 dX7_priceAt_111 rfl rfl ?_
      refine aw_bipush (v := 15) 115 dX7_priceAt_113 rfl (by decide) ?_
      refine aw_iload 117 dX7_priceAt_115 rfl rfl ?_
      refine aw_bipush (v := 6) 119 dX7_priceAt_117 rfl (by decide) ?_
      refine aw_mmin (stk := [.int 15, .int ((hI h 3 x1.toNatClampNeg) + r2)]) 122 dX7_priceAt_119 rfl mv_X7_129 (by decide) (by simp [Value.category]) (by decide) (by decide) ?_
      refine aw_imul 123 dX7_priceAt_122 rfl ?_
      refine aw_isub 124 dX7_priceAt_123 rfl ?_
      exact aw_ireturn dX7_priceAt_124 rfl (by decide) (by decide) ⟨_, rfl, H⟩
    · replace H := H.2 c4
      refine aw_iload 25 dX7_priceAt_23 rfl rfl ?_
      refine aw_aload_n 26 dX7_priceAt_25 rfl rfl ?_
      refine aw_iload_n 27 dX7_priceAt_26 rfl rfl ?_
      refine aw_iconst (v := 1) 28 dX7_priceAt_27 rfl (by decide) ?_
      refine aw_iload_n 29 dX7_priceAt_28 rfl rfl ?_
      refine aw_iconst (v := 1) 30 dX7_priceAt_29 rfl (by decide) ?_
      refine aw_iadd 31 dX7_priceAt_30 rfl ?_
      refine aw_iconst (v := 1) 32 dX7_priceAt_31 rfl (by decide) ?_
      obtain ⟨g11, H⟩ := H
      refine aw_callV (stk := [.int (hI h 3 x1.toNatClampNeg)]) (ci := 7) [.int x2, .int 1, .int (x3 + 1), .int 1] 35 dX7_priceAt_32 rfl mv_X7_144 ⟨by decide, by decide⟩ g11 (by intro r hr; cases hr; rfl) rfl rfl (by simp [Value.category]) (by decide) H ?_
      rintro _ h4 ⟨r4, rfl, H⟩
      refine aw_aload_n 36 dX7_priceAt_35 rfl rfl ?_
      refine aw_iload_n 37 dX7_priceAt_36 rfl rfl ?_
      refine aw_iconst (v := 1) 38 dX7_priceAt_37 rfl (by decide) ?_
      refine aw_iadd 39 dX7_priceAt_38 rfl ?_
      refine aw_iconst (v := 1) 40 dX7_priceAt_39 rfl (by decide) ?_
      refine aw_iload_n 41 dX7_priceAt_40 rfl rfl ?_
      refine aw_iconst (v := 1) 42 dX7_priceAt_41 rfl (by decide) ?_
      obtain ⟨g12, H⟩ := H
      refine aw_callV (stk := [.int r4, .int (hI h 3 x1.toNatClampNeg)]) (ci := 7) [.int (x2 + 1), .int 1, .int x3, .int 1] 45 dX7_priceAt_42 rfl mv_X7_144 ⟨by decide, by decide⟩ g12 (by intro r hr; cases hr; rfl) rfl rfl (by simp [Value.category]) (by decide) H ?_
      rintro _ h5 ⟨r5, rfl, H⟩
      refine aw_iadd 46 dX7_priceAt_45 rfl ?_
      refine aw_iadd 47 dX7_priceAt_46 rfl ?_
      refine aw_istore (loc' := [some (.ref a0), some (.int x1), some (.int x2), some (.int x3), some (.int ((hI h 3 x1.toNatClampNeg) + (r4 + r5))), none]) 49 dX7_priceAt_47 rfl (by decide) rfl ?_
      refine aw_aload_n 50 dX7_priceAt_49 rfl rfl ?_
      refine aw_iload_n 51 dX7_priceAt_50 rfl rfl ?_
      refine aw_aload_n 52 dX7_priceAt_51 rfl rfl ?_
      obtain ⟨g13, H⟩ := H
      obtain ⟨g14, H⟩ := H
      refine aw_getR 55 dX7_priceAt_52 rfl fl_X7_22 ir_7_7 g13 rfl g14 ?_
      refine aw_iload_n 56 dX7_priceAt_55 rfl rfl ?_
      refine aw_iconst (v := 1) 57 dX7_priceAt_56 rfl (by decide) ?_
      refine aw_iadd 58 dX7_priceAt_57 rfl ?_
      obtain ⟨g15, H⟩ := H
      obtain ⟨g16, H⟩ := H
      refine aw_lald 59 dX7_priceAt_58 rfl (shp g15) g16 ?_
      refine aw_callV (stk := []) (ci := 7) [.int x2, .long (hL h5 (hR h5 a0 7) (x3 + 1).toNatClampNeg)] 62 dX7_priceAt_59 rfl mv_X7_148 ⟨by decide, by decide⟩ g13 (by intro r hr; cases hr; rfl) rfl rfl (by simp [Value.category]) (by decide) H ?_
      rintro _ h6 ⟨r6, rfl, H⟩
      refine aw_aload_n 63 dX7_priceAt_62 rfl rfl ?_
      refine aw_iload_n 64 dX7_priceAt_63 rfl rfl ?_
      refine aw_iconst (v := 1) 65 dX7_priceAt_64 rfl (by decide) ?_
      refine aw_iadd 66 dX7_priceAt_65 rfl ?_
      refine aw_aload_n 67 dX7_priceAt_66 rfl rfl ?_
      obtain ⟨g17, H⟩ := H
      obtain ⟨g18, H⟩ := H
      refine aw_getR 70 dX7_priceAt_67 rfl fl_X7_22 ir_7_7 g17 rfl g18 ?_
      refine aw_iload_n 71 dX7_priceAt_70 rfl rfl ?_
      obtain ⟨g19, H⟩ := H
      obtain ⟨g20, H⟩ := H
      refine aw_lald 72 dX7_priceAt_71 rfl (shp g19) g20 ?_
      refine aw_callV (stk := [.int r6]) (ci := 7) [.int (x2 + 1), .long (hL h6 (hR h6 a0 7) x3.toNatClampNeg)] 75 dX7_priceAt_72 rfl mv_X7_148 ⟨by decide, by decide⟩ g17 (by intro r hr; cases hr; rfl) rfl rfl (by simp [Value.category]) (by decide) H ?_
      rintro _ h7 ⟨r7, rfl, H⟩
      refine aw_iadd 76 dX7_priceAt_75 rfl ?_
      refine aw_istore (loc' := [some (.ref a0), some (.int x1), some (.int x2), some (.int x3), some (.int ((hI h 3 x1.toNatClampNeg) + (r4 + r5))), some (.int (r6 + r7))]) 78 dX7_priceAt_76 rfl (by decide) rfl ?_
      refine aw_goto 111 dX7_priceAt_78 (by decide) ?_
      refine aw_iload 113 dX7_priceAt_111 rfl rfl ?_
      refine aw_bipush (v := 15) 115 dX7_priceAt_113 rfl (by decide) ?_
      refine aw_iload 117 dX7_priceAt_115 rfl rfl ?_
      refine aw_bipush (v := 6) 119 dX7_priceAt_117 rfl (by decide) ?_
      refine aw_mmin (stk := [.int 15, .int ((hI h 3 x1.toNatClampNeg) + (r4 + r5))]) 122 dX7_priceAt_119 rfl mv_X7_129 (by decide) (by simp [Value.category]) (by decide) (by decide) ?_
      refine aw_imul 123 dX7_priceAt_122 rfl ?_
      refine aw_isub 124 dX7_priceAt_123 rfl ?_
      exact aw_ireturn dX7_priceAt_124 rfl (by decide) (by decide) ⟨_, rfl, H⟩
  · replace H := H.2 c3
    refine aw_iload 16 dX7_priceAt_14 rfl rfl ?_
    exact aw_ireturn dX7_priceAt_16 rfl (by decide) (by decide) ⟨_, rfl, H⟩
theorem eX7_priceAt {w : Wd} {Q : Int32 → Hp → Prop} {h : Hp} {a0 : Nat} {x1 : Int32} {x2 : Int32} {x3 : Int32} (H : AW w mX7_priceAt 0 0 (rI Q) 0 0 0 [some (.ref a0), some (.int x1), some (.int x2), some (.int x3), none, none] [] h) : AC w mX7_priceAt 0 0 (rI Q) [.ref a0, .int x1, .int x2, .int x3] h := AC.ofL (by decide) (by simp [enl, Value.category]) (by simp [leL, enl, Value.category]) H
set_option maxHeartbeats 4000000 in
set_option maxRecDepth 100000 in
theorem sX7_stretch_0 {w : Wd} {Q : Int32 → Hp → Prop} {h : Hp} {a0 : Nat} {x1 : Int32} {x2 : Int32} {x3 : Int32} {x4 : Int32} (H : (hs h a0).1 = 27 ∧ hR h a0 4 ≠ 0 ∧ (hs h (hR h a0 4)).1 = 1 ∧ vp_in (x1 + x2) (hs h (hR h a0 4)).2 ∧ vp_in x1 (hs h (hR h a0 4)).2 ∧ hR h a0 5 ≠ 0 ∧ hR h a0 0 ≠ 0 ∧ (hs h (hR h a0 0)).1 = 9 ∧ vp_in 1 (hs h (hR h a0 0)).2 ∧ hR h (hR h a0 0) (1 : Int32).toNatClampNeg ≠ 0 ∧ (hs h (hR h (hR h a0 0) (1 : Int32).toNatClampNeg)).1 = 20 ∧ (hs h (hR h a0 5)).1 = 1 ∧ vp_in (hI h (hR h (hR h a0 0) (1 : Int32).toNatClampNeg) 5) (hs h (hR h a0 5)).2 ∧ vp_in (x3 + x4) (hs h (hR h a0 5)).2 ∧ vp_in x3 (hs h (hR h a0 5)).2 ∧ vp_in 0 (hs h (hR h a0 0)).2 ∧ hR h (hR h a0 0) (0 : Int32).toNatClampNeg ≠ 0 ∧ (hs h (hR h (hR h a0 0) (0 : Int32).toNatClampNeg)).1 = 20 ∧ vp_in (hI h (hR h (hR h a0 0) (0 : Int32).toNatClampNeg) 5) (hs h (hR h a0 4)).2 ∧ ((0 < ((((hI h (hR h a0 4) (x1 + x2).toNatClampNeg) - (hI h (hR h a0 4) x1.toNatClampNeg)) * (hI h (hR h a0 5) (hI h (hR h (hR h a0 0) (1 : Int32).toNatClampNeg) 5).toNatClampNeg)) + (((hI h (hR h a0 5) (x3 + x4).toNatClampNeg) - (hI h (hR h a0 5) x3.toNatClampNeg)) * (hI h (hR h a0 4) (hI h (hR h (hR h a0 0) (0 : Int32).toNatClampNeg) 5).toNatClampNeg))) → ¬ ((((hI h (hR h a0 4) (x1 + x2).toNatClampNeg) - (hI h (hR h a0 4) x1.toNatClampNeg)) * (hI h (hR h a0 5) (hI h (hR h (hR h a0 0) (1 : Int32).toNatClampNeg) 5).toNatClampNeg)) + (((hI h (hR h a0 5) (x3 + x4).toNatClampNeg) - (hI h (hR h a0 5) x3.toNatClampNeg)) * (hI h (hR h a0 4) (hI h (hR h (hR h a0 0) (0 : Int32).toNatClampNeg) 5).toNatClampNeg))) = 0 ∧ Q ((((if 0 ≤ ((((hI h (hR h a0 4) (x1 + x2).toNatClampNeg) - (hI h (hR h a0 4) x1.toNatClampNeg)) * (hI h (hR h a0 5) (hI h (hR h (hR h a0 0) (1 : Int32).toNatClampNeg) 5).toNatClampNeg)) - (((hI h (hR h a0 5) (x3 + x4).toNatClampNeg) - (hI h (hR h a0 5) x3.toNatClampNeg)) * (hI h (hR h a0 4) (hI h (hR h (hR h a0 0) (0 : Int32).toNatClampNeg) 5).toNatClampNeg))) then ((((hI h (hR h a0 4) (x1 + x2).toNatClampNeg) - (hI h (hR h a0 4) x1.toNatClampNeg)) * (hI h (hR h a0 5) (hI h (hR h (hR h a0 0) (1 : Int32).toNatClampNeg) 5).toNatClampNeg)) - (((hI h (hR h a0 5) (x3 + x4).toNatClampNeg) - (hI h (hR h a0 5) x3.toNatClampNeg)) * (hI h (hR h a0 4) (hI h (hR h (hR h a0 0) (0 : Int32).toNatClampNeg) 5).toNatClampNeg))) else 0 - ((((hI h (hR h a0 4) (x1 + x2).toNatClampNeg) - (hI h (hR h a0 4) x1.toNatClampNeg)) * (hI h (hR h a0 5) (hI h (hR h (hR h a0 0) (1 : Int32).toNatClampNeg) 5).toNatClampNeg)) - (((hI h (hR h a0 5) (x3 + x4).toNatClampNeg) - (hI h (hR h a0 5) x3.toNatClampNeg)) * (hI h (hR h a0 4) (hI h (hR h (hR h a0 0) (0 : Int32).toNatClampNeg) 5).toNatClampNeg)))) * 20) / ((((hI h (hR h a0 4) (x1 + x2).toNatClampNeg) - (hI h (hR h a0 4) x1.toNatClampNeg)) * (hI h (hR h a0 5) (hI h (hR h (hR h a0 0) (1 : Int32).toNatClampNeg) 5).toNatClampNeg)) + (((hI h (hR h a0 5) (x3 + x4).toNatClampNeg) - (hI h (hR h a0 5) x3.toNatClampNeg)) * (hI h (hR h a0 4) (hI h (hR h (hR h a0 0) (0 : Int32).toNatClampNeg) 5).toNatClampNeg)))) * (((if 0 ≤ ((((hI h (hR h a0 4) (x1 + x2).toNatClampNeg) - (hI h (hR h a0 4) x1.toNatClampNeg)) * (hI h (hR h a0 5) (hI h (hR h (hR h a0 0) (1 : Int32).toNatClampNeg) 5).toNatClampNeg)) - (((hI h (hR h a0 5) (x3 + x4).toNatClampNeg) - (hI h (hR h a0 5) x3.toNatClampNeg)) * (hI h (hR h a0 4) (hI h (hR h (hR h a0 0) (0 : Int32).toNatClampNeg) 5).toNatClampNeg))) then ((((hI h (hR h a0 4) (x1 + x2).toNatClampNeg) - (hI h (hR h a0 4) x1.toNatClampNeg)) * (hI h (hR h a0 5) (hI h (hR h (hR h a0 0) (1 : Int32).toNatClampNeg) 5).toNatClampNeg)) - (((hI h (hR h a0 5) (x3 + x4).toNatClampNeg) - (hI h (hR h a0 5) x3.toNatClampNeg)) * (hI h (hR h a0 4) (hI h (hR h (hR h a0 0) (0 : Int32).toNatClampNeg) 5).toNatClampNeg))) else 0 - ((((hI h (hR h a0 4) (x1 + x2).toNatClampNeg) - (hI h (hR h a0 4) x1.toNatClampNeg)) * (hI h (hR h a0 5) (hI h (hR h (hR h a0 0) (1 : Int32).toNatClampNeg) 5).toNatClampNeg)) - (((hI h (hR h a0 5) (x3 + x4).toNatClampNeg) - (hI h (hR h a0 5) x3.toNatClampNeg)) * (hI h (hR h a0 4) (hI h (hR h (hR h a0 0) (0 : Int32).toNatClampNeg) 5).toNatClampNeg)))) * 20) / ((((hI h (hR h a0 4) (x1 + x2).toNatClampNeg) - (hI h (hR h a0 4) x1.toNatClampNeg)) * (hI h (hR h a0 5) (hI h (hR h (hR h a0 0) (1 : Int32).toNatClampNeg) 5).toNatClampNeg)) + (((hI h (hR h a0 5) (x3 + x4).toNatClampNeg) - (hI h (hR h a0 5) x3.toNatClampNeg)) * (hI h (hR h a0 4) (hI h (hR h (hR h a0 0) (0 : Int32).toNatClampNeg) 5).toNatClampNeg))))) h) ∧ (¬ 0 < ((((hI h (hR h a0 4) (x1 + x2).toNatClampNeg) - (hI h (hR h a0 4) x1.toNatClampNeg)) * (hI h (hR h a0 5) (hI h (hR h (hR h a0 0) (1 : Int32).toNatClampNeg) 5).toNatClampNeg)) + (((hI h (hR h a0 5) (x3 + x4).toNatClampNeg) - (hI h (hR h a0 5) x3.toNatClampNeg)) * (hI h (hR h a0 4) (hI h (hR h (hR h a0 0) (0 : Int32).toNatClampNeg) 5).toNatClampNeg))) → Q 0 h))) : AW w mX7_stretch 0 0 (rI Q) 0 0 0 [some (.ref a0), some (.int x1), some (.int x2), some (.int x3), some (.int x4), none, none, none, none] [] h := by
  refine aw_aload_n 1 dX7_stretch_0 rfl rfl ?_
  obtain ⟨g1, H⟩ := H
  obtain ⟨g2, H⟩ := H
  refine aw_getR 4 dX7_stretch_1 rfl fl_X7_11 ir_7_4 g1 rfl g2 ?_
  refine aw_iload_n 5 dX7_stretch_4 rfl rfl ?_
  refine aw_iload_n 6 dX7_stretch_5 rfl rfl ?_
  refine aw_iadd 7 dX7_stretch_6 rfl ?_
  obtain ⟨g3, H⟩ := H
  obtain ⟨g4, H⟩ := H
  refine aw_iald 8 dX7_stretch_7 rfl (Or.inl (shp g3)) g4 ?_
  refine aw_aload_n 9 dX7_stretch_8 rfl rfl ?_
  refine aw_getR 12 dX7_stretch_9 rfl fl_X7_11 ir_7_4 g1 rfl g2 ?_
  refine aw_iload_n 13 dX7_stretch_12 rfl rfl ?_
  obtain ⟨g5, H⟩ := H
  refine aw_iald 14 dX7_stretch_13 rfl (Or.inl (shp g3)) g5 ?_
  refine aw_isub 15 dX7_stretch_14 rfl ?_
  refine aw_aload_n 16 dX7_stretch_15 rfl rfl ?_
  obtain ⟨g6, H⟩ := H
  refine aw_getR 19 dX7_stretch_16 rfl fl_X7_15 ir_7_5 g1 rfl g6 ?_
  refine aw_aload_n 20 dX7_stretch_19 rfl rfl ?_
  obtain ⟨g7, H⟩ := H
  refine aw_getR 23 dX7_stretch_20 rfl fl_X7_46 ir_7_0 g1 rfl g7 ?_
  refine aw_iconst (v := 1) 24 dX7_stretch_23 rfl (by decide) ?_
  obtain ⟨g8, H⟩ := H
  obtain ⟨g9, H⟩ := H
  obtain ⟨g10, H⟩ := H
  refine aw_aald 25 dX7_stretch_24 rfl (shp g8) (by decide) g9 rfl g10 ?_
  obtain ⟨g11, H⟩ := H
  refine aw_getI 28 dX7_stretch_25 rfl fl_X7_80 (by decide) g11 ?_
  obtain ⟨g12, H⟩ := H
  obtain ⟨g13, H⟩ := H
  refine aw_iald 29 dX7_stretch_28 rfl (Or.inl (shp g12)) g13 ?_
  refine aw_imul 30 dX7_stretch_29 rfl ?_
  refine aw_istore (loc' := [some (.ref a0), some (.int x1), some (.int x2), some (.int x3), some (.int x4), some (.int (((hI h (hR h a0 4) (x1 + x2).toNatClampNeg) - (hI h (hR h a0 4) x1.toNatClampNeg)) * (hI h (hR h a0 5) (hI h (hR h (hR h a0 0) (1 : Int32).toNatClampNeg) 5).toNatClampNeg))), none, none, none]) 32 dX7_stretch_30 rfl (by decide) rfl ?_
  refine aw_aload_n 33 dX7_stretch_32 rfl rfl ?_
  refine aw_getR 36 dX7_stretch_33 rfl fl_X7_15 ir_7_5 g1 rfl g6 ?_
  refine aw_iload_n 37 dX7_stretch_36 rfl rfl ?_
  refine aw_iload 39 dX7_stretch_37 rfl rfl ?_
  refine aw_iadd 40 dX7_stretch_39 rfl ?_
  obtain ⟨g14, H⟩ := H
  refine aw_iald 41 dX7_stretch_40 rfl (Or.inl (shp g12)) g14 ?_
  refine aw_aload_n 42 dX7_stretch_41 rfl rfl ?_
  refine aw_getR 45 dX7_stretch_42 rfl fl_X7_15 ir_7_5 g1 rfl g6 ?_
  refine aw_iload_n 46 dX7_stretch_45 rfl rfl ?_
  obtain ⟨g15, H⟩ := H
  refine aw_iald 47 dX7_stretch_46 rfl (Or.inl (shp g12)) g15 ?_
  refine aw_isub 48 dX7_stretch_47 rfl ?_
  refine aw_aload_n 49 dX7_stretch_48 rfl rfl ?_
  refine aw_getR 52 dX7_stretch_49 rfl fl_X7_11 ir_7_4 g1 rfl g2 ?_
  refine aw_aload_n 53 dX7_stretch_52 rfl rfl ?_
  refine aw_getR 56 dX7_stretch_53 rfl fl_X7_46 ir_7_0 g1 rfl g7 ?_
  refine aw_iconst (v := 0) 57 dX7_stretch_56 rfl (by decide) ?_
  obtain ⟨g16, H⟩ := H
  obtain ⟨g17, H⟩ := H
  refine aw_aald 58 dX7_stretch_57 rfl (shp g8) (by decide) g16 rfl g17 ?_
  obtain ⟨g18, H⟩ := H
  refine aw_getI 61 dX7_stretch_58 rfl fl_X7_80 (by decide) g18 ?_
  obtain ⟨g19, H⟩ := H
  refine aw_iald 62 dX7_stretch_61 rfl (Or.inl (shp g3)) g19 ?_
  refine aw_imul 63 dX7_stretch_62 rfl ?_
  refine aw_istore (loc' := [some (.ref a0), some (.int x1), some (.int x2), some (.int x3), some (.int x4), some (.int (((hI h (hR h a0 4) (x1 + x2).toNatClampNeg) - (hI h (hR h a0 4) x1.toNatClampNeg)) * (hI h (hR h a0 5) (hI h (hR h (hR h a0 0) (1 : Int32).toNatClampNeg) 5).toNatClampNeg))), some (.int (((hI h (hR h a0 5) (x3 + x4).toNatClampNeg) - (hI h (hR h a0 5) x3.toNatClampNeg)) * (hI h (hR h a0 4) (hI h (hR h (hR h a0 0) (0 : Int32).toNatClampNeg) 5).toNatClampNeg))), none, none]) 65 dX7_stretch_63 rfl (by decide) rfl ?_
  refine aw_iload 67 dX7_stretch_65 rfl rfl ?_
  refine aw_iload 69 dX7_stretch_67 rfl rfl ?_
  refine aw_iadd 70 dX7_stretch_69 rfl ?_
  refine aw_istore (loc' := [some (.ref a0), some (.int x1), some (.int x2), some (.int x3), some (.int x4), some (.int (((hI h (hR h a0 4) (x1 + x2).toNatClampNeg) - (hI h (hR h a0 4) x1.toNatClampNeg)) * (hI h (hR h a0 5) (hI h (hR h (hR h a0 0) (1 : Int32).toNatClampNeg) 5).toNatClampNeg))), some (.int (((hI h (hR h a0 5) (x3 + x4).toNatClampNeg) - (hI h (hR h a0 5) x3.toNatClampNeg)) * (hI h (hR h a0 4) (hI h (hR h (hR h a0 0) (0 : Int32).toNatClampNeg) 5).toNatClampNeg))), some (.int ((((hI h (hR h a0 4) (x1 + x2).toNatClampNeg) - (hI h (hR h a0 4) x1.toNatClampNeg)) * (hI h (hR h a0 5) (hI h (hR h (hR h a0 0) (1 : Int32).toNatClampNeg) 5).toNatClampNeg)) + (((hI h (hR h a0 5) (x3 + x4).toNatClampNeg) - (hI h (hR h a0 5) x3.toNatClampNeg)) * (hI h (hR h a0 4) (hI h (hR h (hR h a0 0) (0 : Int32).toNatClampNeg) 5).toNatClampNeg)))), none]) 72 dX7_stretch_70 rfl (by decide) rfl ?_
  refine aw_iload 74 dX7_stretch_72 rfl rfl ?_
  refine aw_if_gt 79 77 dX7_stretch_74 rfl (by decide) (fun c20 => ?_) (fun c20 => ?_)
  · replace H := H.1 c20
    refine aw_iload 81 dX7_stretch_79 rfl rfl ?_
    refine aw_iload 83 dX7_stretch_81 rfl rfl ?_
    refine aw_isub 84 dX7_stretch_83 rfl ?_
    refine aw_mabs (stk := []) 87 dX7_stretch_84 rfl mv_X7_155 (by decide) (by simp [Value.category]) (by decide) (by decide) ?_
    refine aw_bipush (v := 20) 89 dX7_stretch_87 rfl (by decide) ?_
    refine aw_imul 90 dX7_stretch_89 rfl ?_
    refine aw_iload 92 dX7_stretch_90 rfl rfl ?_
    obtain ⟨g21, H⟩ := H
    refine aw_idiv 93 dX7_stretch_92 rfl g21 ?_
    refine aw_istore (loc' := [some (.ref a0), some (.int x1), some (.int x2), some (.int x3), some (.int x4), some (.int (((hI h (hR h a0 4) (x1 + x2).toNatClampNeg) - (hI h (hR h a0 4) x1.toNatClampNeg)) * (hI h (hR h a0 5) (hI h (hR h (hR h a0 0) (1 : Int32).toNatClampNeg) 5).toNatClampNeg))), some (.int (((hI h (hR h a0 5) (x3 + x4).toNatClampNeg) - (hI h (hR h a0 5) x3.toNatClampNeg)) * (hI h (hR h a0 4) (hI h (hR h (hR h a0 0) (0 : Int32).toNatClampNeg) 5).toNatClampNeg))), some (.int ((((hI h (hR h a0 4) (x1 + x2).toNatClampNeg) - (hI h (hR h a0 4) x1.toNatClampNeg)) * (hI h (hR h a0 5) (hI h (hR h (hR h a0 0) (1 : Int32).toNatClampNeg) 5).toNatClampNeg)) + (((hI h (hR h a0 5) (x3 + x4).toNatClampNeg) - (hI h (hR h a0 5) x3.toNatClampNeg)) * (hI h (hR h a0 4) (hI h (hR h (hR h a0 0) (0 : Int32).toNatClampNeg) 5).toNatClampNeg)))), some (.int (((if 0 ≤ ((((hI h (hR h a0 4) (x1 + x2).toNatClampNeg) - (hI h (hR h a0 4) x1.toNatClampNeg)) * (hI h (hR h a0 5) (hI h (hR h (hR h a0 0) (1 : Int32).toNatClampNeg) 5).toNatClampNeg)) - (((hI h (hR h a0 5) (x3 + x4).toNatClampNeg) - (hI h (hR h a0 5) x3.toNatClampNeg)) * (hI h (hR h a0 4) (hI h (hR h (hR h a0 0) (0 : Int32).toNatClampNeg) 5).toNatClampNeg))) then ((((hI h (hR h a0 4) (x1 + x2).toNatClampNeg) - (hI h (hR h a0 4) x1.toNatClampNeg)) * (hI h (hR h a0 5) (hI h (hR h (hR h a0 0) (1 : Int32).toNatClampNeg) 5).toNatClampNeg)) - (((hI h (hR h a0 5) (x3 + x4).toNatClampNeg) - (hI h (hR h a0 5) x3.toNatClampNeg)) * (hI h (hR h a0 4) (hI h (hR h (hR h a0 0) (0 : Int32).toNatClampNeg) 5).toNatClampNeg))) else 0 - ((((hI h (hR h a0 4) (x1 + x2).toNatClampNeg) - (hI h (hR h a0 4) x1.toNatClampNeg)) * (hI h (hR h a0 5) (hI h (hR h (hR h a0 0) (1 : Int32).toNatClampNeg) 5).toNatClampNeg)) - (((hI h (hR h a0 5) (x3 + x4).toNatClampNeg) - (hI h (hR h a0 5) x3.toNatClampNeg)) * (hI h (hR h a0 4) (hI h (hR h (hR h a0 0) (0 : Int32).toNatClampNeg) 5).toNatClampNeg)))) * 20) / ((((hI h (hR h a0 4) (x1 + x2).toNatClampNeg) - (hI h (hR h a0 4) x1.toNatClampNeg)) * (hI h (hR h a0 5) (hI h (hR h (hR h a0 0) (1 : Int32).toNatClampNeg) 5).toNatClampNeg)) + (((hI h (hR h a0 5) (x3 + x4).toNatClampNeg) - (hI h (hR h a0 5) x3.toNatClampNeg)) * (hI h (hR h a0 4) (hI h (hR h (hR h a0 0) (0 : Int32).toNatClampNeg) 5).toNatClampNeg)))))]) 95 dX7_stretch_93 rfl (by decide) rfl ?_
    refine aw_iload 97 dX7_stretch_95 rfl rfl ?_
    refine aw_iload 99 dX7_stretch_97 rfl rfl ?_
    refine aw_imul 100 dX7_stretch_99 rfl ?_
    exact aw_ireturn dX7_stretch_100 rfl (by decide) (by decide) ⟨_, rfl, H⟩
  · replace H := H.2 c20
    refine aw_iconst (v := 0) 78 dX7_stretch_77 rfl (by decide) ?_
    exact aw_ireturn dX7_stretch_78 rfl (by decide) (by decide) ⟨_, rfl, H⟩
theorem eX7_stretch {w : Wd} {Q : Int32 → Hp → Prop} {h : Hp} {a0 : Nat} {x1 : Int32} {x2 : Int32} {x3 : Int32} {x4 : Int32} (H : AW w mX7_stretch 0 0 (rI Q) 0 0 0 [some (.ref a0), some (.int x1), some (.int x2), some (.int x3), some (.int x4), none, none, none, none] [] h) : AC w mX7_stretch 0 0 (rI Q) [.ref a0, .int x1, .int x2, .int x3, .int x4] h := AC.ofL (by decide) (by simp [enl, Value.category]) (by simp [leL, enl, Value.category]) H
set_option maxHeartbeats 4000000 in
set_option maxRecDepth 100000 in
theorem sX7_friendsOf_0 {w : Wd} {Q : Int32 → Hp → Prop} {h : Hp} {a0 : Nat} {x1 : Int32} {x2 : Int32} {x3 : Int32} (H : AW w mX7_friendsOf 0 0 (rI Q) 0 0 6 [some (.ref a0), some (.int x1), some (.int x2), some (.int x3), some (.long 0), none, some (.int x3), none] [] h) : AW w mX7_friendsOf 0 0 (rI Q) 0 0 0 [some (.ref a0), some (.int x1), some (.int x2), some (.int x3), none, none, none, none] [] h := by
  refine aw_lconst (v := 0) 1 dX7_friendsOf_0 rfl (by decide) ?_
  refine aw_lstore (loc' := [some (.ref a0), some (.int x1), some (.int x2), some (.int x3), some (.long 0), none, none, none]) 3 dX7_friendsOf_1 rfl (by decide) rfl ?_
  refine aw_iload_n 4 dX7_friendsOf_3 rfl rfl ?_
  refine aw_istore (loc' := [some (.ref a0), some (.int x1), some (.int x2), some (.int x3), some (.long 0), none, some (.int x3), none]) 6 dX7_friendsOf_4 rfl (by decide) rfl ?_
  exact H
theorem eX7_friendsOf {w : Wd} {Q : Int32 → Hp → Prop} {h : Hp} {a0 : Nat} {x1 : Int32} {x2 : Int32} {x3 : Int32} (H : AW w mX7_friendsOf 0 0 (rI Q) 0 0 0 [some (.ref a0), some (.int x1), some (.int x2), some (.int x3), none, none, none, none] [] h) : AC w mX7_friendsOf 0 0 (rI Q) [.ref a0, .int x1, .int x2, .int x3] h := AC.ofL (by decide) (by simp [enl, Value.category]) (by simp [leL, enl, Value.category]) H
set_option maxHeartbeats 4000000 in
set_option maxRecDepth 100000 in
theorem sX7_friendsOf_6 {w : Wd} {Q : Int32 → Hp → Prop} {h : Hp} {a0 : Nat} {x1 : Int32} {x2 : Int32} {x3 : Int32} {l4 : Int64} {x6 : Int32} (H : (hs h 2).1 = 4 ∧ vp_in x1 (hs h 2).2 ∧ (((x3 + (hI h 2 x1.toNatClampNeg)) ≤ x6 → AW w mX7_friendsOf 0 0 (rI Q) 0 0 42 [some (.ref a0), some (.int x1), some (.int x2), none, some (.long l4), none, some (.int 0), some (.int x2)] [] h) ∧ (¬ (x3 + (hI h 2 x1.toNatClampNeg)) ≤ x6 → (hs h a0).1 = 27 ∧ hR h a0 7 ≠ 0 ∧ (hs h (hR h a0 7)).1 = 5 ∧ vp_in x6 (hs h (hR h a0 7)).2 ∧ AW w mX7_friendsOf 0 0 (rI Q) 0 0 6 [some (.ref a0), some (.int x1), some (.int x2), some (.int x3), some (.long (l4 ||| (hL h (hR h a0 7) x6.toNatClampNeg))), none, some (.int (x6 + 1)), none] [] h))) : AW w mX7_friendsOf 0 0 (rI Q) 0 0 6 [some (.ref a0), some (.int x1), some (.int x2), some (.int x3), some (.long l4), none, some (.int x6), none] [] h := by
  refine aw_iload 8 dX7_friendsOf_6 rfl rfl ?_
  refine aw_iload_n 9 dX7_friendsOf_8 rfl rfl ?_
  refine aw_getsN (j := 2) 12 dX7_friendsOf_9 rfl (by decide) gs_X7_110 ?_
  refine aw_iload_n 13 dX7_friendsOf_12 rfl rfl ?_
  obtain ⟨g1, H⟩ := H
  obtain ⟨g2, H⟩ := H
  refine aw_iald 14 dX7_friendsOf_13 rfl (Or.inr (shp g1)) g2 ?_
  refine aw_iadd 15 dX7_friendsOf_14 rfl ?_
  refine aw_icmp_ge 36 18 dX7_friendsOf_15 rfl (by decide) (fun c3 => ?_) (fun c3 => ?_)
  · replace H := H.1 c3
    refine aw_iconst (v := 0) 37 dX7_friendsOf_36 rfl (by decide) ?_
    refine aw_istore (loc' := [some (.ref a0), some (.int x1), some (.int x2), some (.int x3), some (.long l4), none, some (.int 0), none]) 39 dX7_friendsOf_37 rfl (by decide) rfl ?_
    refine aw_iload_n 40 dX7_friendsOf_39 rfl rfl ?_
    refine aw_istore (loc' := [some (.ref a0), some (.int x1), some (.int x2), some (.int x3), some (.long l4), none, some (.int 0), some (.int x2)]) 42 dX7_friendsOf_40 rfl (by decide) rfl ?_
    exact aw_fgt (by simp [leL]) H
  · replace H := H.2 c3
    refine aw_lload 20 dX7_friendsOf_18 rfl rfl ?_
    refine aw_aload_n 21 dX7_friendsOf_20 rfl rfl ?_
    obtain ⟨g4, H⟩ := H
    obtain ⟨g5, H⟩ := H
    refine aw_getR 24 dX7_friendsOf_21 rfl fl_X7_22 ir_7_7 g4 rfl g5 ?_
    refine aw_iload 26 dX7_friendsOf_24 rfl rfl ?_
    obtain ⟨g6, H⟩ := H
    obtain ⟨g7, H⟩ := H
    refine aw_lald 27 dX7_friendsOf_26 rfl (shp g6) g7 ?_
    refine aw_lor 28 dX7_friendsOf_27 rfl ?_
    refine aw_lstore (loc' := [some (.ref a0), some (.int x1), some (.int x2), some (.int x3), some (.long (l4 ||| (hL h (hR h a0 7) x6.toNatClampNeg))), none, some (.int x6), none]) 30 dX7_friendsOf_28 rfl (by decide) rfl ?_
    refine aw_iinc (y := 1) (loc' := [some (.ref a0), some (.int x1), some (.int x2), some (.int x3), some (.long (l4 ||| (hL h (hR h a0 7) x6.toNatClampNeg))), none, some (.int (x6 + 1)), none]) 33 dX7_friendsOf_30 rfl (by decide) rfl (by decide) rfl ?_
    refine aw_goto 6 dX7_friendsOf_33 (by decide) ?_
    exact H
set_option maxHeartbeats 4000000 in
set_option maxRecDepth 100000 in
theorem sX7_friendsOf_42 {w : Wd} {Q : Int32 → Hp → Prop} {h : Hp} {a0 : Nat} {x1 : Int32} {x2 : Int32} {l4 : Int64} {x6 : Int32} {x7 : Int32} (H : (hs h 1).1 = 4 ∧ vp_in x1 (hs h 1).2 ∧ (((x2 + (hI h 1 x1.toNatClampNeg)) ≤ x7 → Q x6 h) ∧ (¬ (x2 + (hI h 1 x1.toNatClampNeg)) ≤ x7 → (hs h a0).1 = 27 ∧ AC w mX7_countFriends 0 0 (rI fun r1 h1 => AW w mX7_friendsOf 0 0 (rI Q) 0 0 42 [some (.ref a0), some (.int x1), some (.int x2), none, some (.long l4), none, some (.int (x6 + r1)), some (.int (x7 + 1))] [] h1) [.ref a0, .int x7, .long l4] h))) : AW w mX7_friendsOf 0 0 (rI Q) 0 0 42 [some (.ref a0), some (.int x1), some (.int x2), none, some (.long l4), none, some (.int x6), some (.int x7)] [] h := by
  refine aw_iload 44 dX7_friendsOf_42 rfl rfl ?_
  refine aw_iload_n 45 dX7_friendsOf_44 rfl rfl ?_
  refine aw_getsN (j := 1) 48 dX7_friendsOf_45 rfl (by decide) gs_X7_103 ?_
  refine aw_iload_n 49 dX7_friendsOf_48 rfl rfl ?_
  obtain ⟨g1, H⟩ := H
  obtain ⟨g2, H⟩ := H
  refine aw_iald 50 dX7_friendsOf_49 rfl (Or.inr (shp g1)) g2 ?_
  refine aw_iadd 51 dX7_friendsOf_50 rfl ?_
  refine aw_icmp_ge 73 54 dX7_friendsOf_51 rfl (by decide) (fun c3 => ?_) (fun c3 => ?_)
  · replace H := H.1 c3
    refine aw_iload 75 dX7_friendsOf_73 rfl rfl ?_
    exact aw_ireturn dX7_friendsOf_75 rfl (by decide) (by decide) ⟨_, rfl, H⟩
  · replace H := H.2 c3
    refine aw_iload 56 dX7_friendsOf_54 rfl rfl ?_
    refine aw_aload_n 57 dX7_friendsOf_56 rfl rfl ?_
    refine aw_iload 59 dX7_friendsOf_57 rfl rfl ?_
    refine aw_lload 61 dX7_friendsOf_59 rfl rfl ?_
    obtain ⟨g4, H⟩ := H
    refine aw_callV (stk := [.int x6]) (ci := 7) [.int x7, .long l4] 64 dX7_friendsOf_61 rfl mv_X7_148 ⟨by decide, by decide⟩ g4 (by intro r hr; cases hr; rfl) rfl rfl (by simp [Value.category]) (by decide) H ?_
    rintro _ h1 ⟨r1, rfl, H⟩
    refine aw_iadd 65 dX7_friendsOf_64 rfl ?_
    refine aw_istore (loc' := [some (.ref a0), some (.int x1), some (.int x2), none, some (.long l4), none, some (.int (x6 + r1)), some (.int x7)]) 67 dX7_friendsOf_65 rfl (by decide) rfl ?_
    refine aw_iinc (y := 1) (loc' := [some (.ref a0), some (.int x1), some (.int x2), none, some (.long l4), none, some (.int (x6 + r1)), some (.int (x7 + 1))]) 70 dX7_friendsOf_67 rfl (by decide) rfl (by decide) rfl ?_
    refine aw_goto 42 dX7_friendsOf_70 (by decide) ?_
    exact H
