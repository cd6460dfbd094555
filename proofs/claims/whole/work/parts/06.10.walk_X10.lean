set_option maxHeartbeats 4000000 in
set_option maxRecDepth 100000 in
theorem sX10_goTogether_0 {w : Wd} {Q : Int32 → Hp → Prop} {h : Hp} {a0 : Nat} {x1 : Int32} {x2 : Int32} {x3 : Int32} {x4 : Int32} (H : AW w mX10_goTogether 0 0 (rI Q) 0 0 6 [some (.ref a0), some (.int x1), some (.int x2), some (.int x3), some (.int x4), some (.int 0), some (.int 0), none, none, none] [] h) : AW w mX10_goTogether 0 0 (rI Q) 0 0 0 [some (.ref a0), some (.int x1), some (.int x2), some (.int x3), some (.int x4), none, none, none, none, none] [] h := by
  refine aw_iconst (v := 0) 1 dX10_goTogether_0 rfl (by decide) ?_
  refine aw_istore (loc' := [some (.ref a0), some (.int x1), some (.int x2), some (.int x3), some (.int x4), some (.int 0), none, none, none, none]) 3 dX10_goTogether_1 rfl (by decide) rfl ?_
  refine aw_iconst (v := 0) 4 dX10_goTogether_3 rfl (by decide) ?_
  refine aw_istore (loc' := [some (.ref a0), some (.int x1), some (.int x2), some (.int x3), some (.int x4), some (.int 0), some (.int 0), none, none, none]) 6 dX10_goTogether_4 rfl (by decide) rfl ?_
  exact H
theorem eX10_goTogether {w : Wd} {Q : Int32 → Hp → Prop} {h : Hp} {a0 : Nat} {x1 : Int32} {x2 : Int32} {x3 : Int32} {x4 : Int32} (H : AW w mX10_goTogether 0 0 (rI Q) 0 0 0 [some (.ref a0), some (.int x1), some (.int x2), some (.int x3), some (.int x4), none, none, none, none, none] [] h) : AC w mX10_goTogether 0 0 (rI Q) [.ref a0, .int x1, .int x2, .int x3, .int x4] h := AC.ofL (by decide) (by simp [enl, Value.category]) (by simp [leL, enl, Value.category]) H
set_option maxHeartbeats 4000000 in
set_option maxRecDepth 100000 in
theorem sX10_goTogether_6 {w : Wd} {Q : Int32 → Hp → Prop} {h : Hp} {a0 : Nat} {x1 : Int32} {x2 : Int32} {x3 : Int32} {x4 : Int32} {x5 : Int32} {x6 : Int32} (H : (hs h a0).1 = 30 ∧ (((hI h a0 48) ≤ x6 → (x5 = 0 ∨ x5 = 1) ∧ Q x5 h) ∧ (¬ (hI h a0 48) ≤ x6 → AW w mX10_goTogether 0 0 (rI Q) 0 0 18 [some (.ref a0), some (.int x1), some (.int x2), some (.int x3), some (.int x4), some (.int x5), some (.int x6), some (.int 0), none, none] [] h))) : AW w mX10_goTogether 0 0 (rI Q) 0 0 6 [some (.ref a0), some (.int x1), some (.int x2), some (.int x3), some (.int x4), some (.int x5), some (.int x6), none, none, none] [] h := by
  refine aw_iload 8 dX10_goTogether_6 rfl rfl ?_
  refine aw_aload_n 9 dX10_goTogether_8 rfl rfl ?_
  obtain ⟨g1, H⟩ := H
  refine aw_getI 12 dX10_goTogether_9 rfl fl_X10_319 (by decide) g1 ?_
  refine aw_icmp_ge 140 15 dX10_goTogether_12 rfl (by decide) (fun c2 => ?_) (fun c2 => ?_)
  · replace H := H.1 c2
    refine aw_iload 142 dX10_goTogether_140 rfl rfl ?_
    obtain ⟨g3, H⟩ := H
    exact aw_zreturn dX10_goTogether_142 rfl g3 (by decide) (by decide) ⟨_, rfl, H⟩
  · replace H := H.2 c2
    refine aw_iconst (v := 0) 16 dX10_goTogether_15 rfl (by decide) ?_
    refine aw_istore (loc' := [some (.ref a0), some (.int x1), some (.int x2), some (.int x3), some (.int x4), some (.int x5), some (.int x6), some (.int 0), none, none]) 18 dX10_goTogether_16 rfl (by decide) rfl ?_
    exact H
set_option maxHeartbeats 4000000 in
set_option maxRecDepth 100000 in
theorem sX10_goTogether_18 {w : Wd} {Q : Int32 → Hp → Prop} {h : Hp} {a0 : Nat} {x1 : Int32} {x2 : Int32} {x3 : Int32} {x4 : Int32} {x5 : Int32} {x6 : Int32} {x7 : Int32} (H : (hs h a0).1 = 30 ∧ (((hI h a0 50) ≤ x7 → AW w mX10_goTogether 0 0 (rI Q) 0 0 6 [some (.ref a0), some (.int x1), some (.int x2), some (.int x3), some (.int x4), some (.int x5), some (.int (x6 + 1)), none, none, none] [] h) ∧ (¬ (hI h a0 50) ≤ x7 → ((x6 < x1 → AW w mX10_goTogether 0 0 (rI Q) 0 0 46 [some (.ref a0), some (.int x1), some (.int x2), some (.int x3), some (.int x4), some (.int x5), some (.int x6), some (.int x7), none, none] [.int 0] h) ∧ (¬ x6 < x1 → (((x1 + x2) < x6 → AW w mX10_goTogether 0 0 (rI Q) 0 0 46 [some (.ref a0), some (.int x1), some (.int x2), some (.int x3), some (.int x4), some (.int x5), some (.int x6), some (.int x7), none, none] [.int 0] h) ∧ (¬ (x1 + x2) < x6 → AW w mX10_goTogether 0 0 (rI Q) 0 0 46 [some (.ref a0), some (.int x1), some (.int x2), some (.int x3), some (.int x4), some (.int x5), some (.int x6), some (.int x7), none, none] [.int 1] h))))))) : AW w mX10_goTogether 0 0 (rI Q) 0 0 18 [some (.ref a0), some (.int x1), some (.int x2), some (.int x3), some (.int x4), some (.int x5), some (.int x6), some (.int x7), none, none] [] h := by
  refine aw_iload 20 dX10_goTogether_18 rfl rfl ?_
  refine aw_aload_n 21 dX10_goTogether_20 rfl rfl ?_
  obtain ⟨g1, H⟩ := H
  refine aw_getI 24 dX10_goTogether_21 rfl fl_X10_322 (by decide) g1 ?_
  refine aw_icmp_ge 134 27 dX10_goTogether_24 rfl (by decide) (fun c2 => ?_) (fun c2 => ?_)
  · replace H := H.1 c2
    refine aw_iinc (y := 1) (loc' := [some (.ref a0), some (.int x1), some (.int x2), some (.int x3), some (.int x4), some (.int x5), some (.int (x6 + 1)), some (.int x7), none, none]) 137 dX10_goTogether_134 rfl (by decide) rfl (by decide) rfl ?_
    refine aw_goto 6 dX10_goTogether_137 (by decide) ?_
    exact aw_fgt (by simp [leL]) H
  · replace H := H.2 c2
    refine aw_iload 29 dX10_goTogether_27 rfl rfl ?_
    refine aw_iload_n 30 dX10_goTogether_29 rfl rfl ?_
    refine aw_icmp_lt 45 33 dX10_goTogether_30 rfl (by decide) (fun c3 => ?_) (fun c3 => ?_)
    · replace H := H.1 c3
      refine aw_iconst (v := 0) 46 dX10_goTogether_45 rfl (by decide) ?_
      exact H
    · replace H := H.2 c3
      refine aw_iload 35 dX10_goTogether_33 rfl rfl ?_
      refine aw_iload_n 36 dX10_goTogether_35 rfl rfl ?_
      refine aw_iload_n 37 dX10_goTogether_36 rfl rfl ?_
      refine aw_iadd 38 dX10_goTogether_37 rfl ?_
      refine aw_icmp_gt 45 41 dX10_goTogether_38 rfl (by decide) (fun c4 => ?_) (fun c4 => ?_)
      · replace H := H.1 c4
        refine aw_iconst (v := 0) 46 dX10_goTogether_45 rfl (by decide) ?_
        exact H
      · replace H := H.2 c4
        refine aw_iconst (v := 1) 42 dX10_goTogether_41 rfl (by decide) ?_
        refine aw_goto 46 dX10_goTogether_42 (by decide) ?_
        exact H
set_option maxHeartbeats 4000000 in
set_option maxRecDepth 100000 in
theorem sX10_goTogether_46 {w : Wd} {Q : Int32 → Hp → Prop} {h : Hp} {a0 : Nat} {x1 : Int32} {x2 : Int32} {x3 : Int32} {x4 : Int32} {x5 : Int32} {x6 : Int32} {x7 : Int32} {y0 : Int32} (H : ((x7 < x3 → AW w mX10_goTogether 0 0 (rI Q) 0 0 68 [some (.ref a0), some (.int x1), some (.int x2), some (.int x3), some (.int x4), some (.int x5), some (.int x6), some (.int x7), some (.int y0), none] [.int 0] h) ∧ (¬ x7 < x3 → (((x3 + x4) < x7 → AW w mX10_goTogether 0 0 (rI Q) 0 0 68 [some (.ref a0), some (.int x1), some (.int x2), some (.int x3), some (.int x4), some (.int x5), some (.int x6), some (.int x7), some (.int y0), none] [.int 0] h) ∧ (¬ (x3 + x4) < x7 → AW w mX10_goTogether 0 0 (rI Q) 0 0 68 [some (.ref a0), some (.int x1), some (.int x2), some (.int x3), some (.int x4), some (.int x5), some (.int x6), some (.int x7), some (.int y0), none] [.int 1] h))))) : AW w mX10_goTogether 0 0 (rI Q) 0 0 46 [some (.ref a0), some (.int x1), some (.int x2), some (.int x3), some (.int x4), some (.int x5), some (.int x6), some (.int x7), none, none] [.int y0] h := by
  refine aw_istore (loc' := [some (.ref a0), some (.int x1), some (.int x2), some (.int x3), some (.int x4), some (.int x5), some (.int x6), some (.int x7), some (.int y0), none]) 48 dX10_goTogether_46 rfl (by decide) rfl ?_
  refine aw_iload 50 dX10_goTogether_48 rfl rfl ?_
  refine aw_iload_n 51 dX10_goTogether_50 rfl rfl ?_
  refine aw_icmp_lt 67 54 dX10_goTogether_51 rfl (by decide) (fun c1 => ?_) (fun c1 => ?_)
  · replace H := H.1 c1
    refine aw_iconst (v := 0) 68 dX10_goTogether_67 rfl (by decide) ?_
    exact H
  · replace H := H.2 c1
    refine aw_iload 56 dX10_goTogether_54 rfl rfl ?_
    refine aw_iload_n 57 dX10_goTogether_56 rfl rfl ?_
    refine aw_iload 59 dX10_goTogether_57 rfl rfl ?_
    refine aw_iadd 60 dX10_goTogether_59 rfl ?_
    refine aw_icmp_gt 67 63 dX10_goTogether_60 rfl (by decide) (fun c2 => ?_) (fun c2 => ?_)
    · replace H := H.1 c2
      refine aw_iconst (v := 0) 68 dX10_goTogether_67 rfl (by decide) ?_
      exact H
    · replace H := H.2 c2
      refine aw_iconst (v := 1) 64 dX10_goTogether_63 rfl (by decide) ?_
      refine aw_goto 68 dX10_goTogether_64 (by decide) ?_
      exact H
set_option maxHeartbeats 4000000 in
set_option maxRecDepth 100000 in
theorem sX10_goTogether_68 {w : Wd} {Q : Int32 → Hp → Prop} {h : Hp} {a0 : Nat} {x1 : Int32} {x2 : Int32} {x3 : Int32} {x4 : Int32} {x5 : Int32} {x6 : Int32} {x7 : Int32} {x8 : Int32} {y0 : Int32} (H : (hs h a0).1 = 30 ∧ hR h a0 53 ≠ 0 ∧ (hs h (hR h a0 53)).1 = 3 ∧ vp_in ((20 * x6) + x7) (hs h (hR h a0 53)).2 ∧ (((hI h (hR h a0 53) ((20 * x6) + x7).toNatClampNeg) = 0 → AW w mX10_goTogether 0 0 (rI Q) 0 0 95 [some (.ref a0), some (.int x1), some (.int x2), some (.int x3), some (.int x4), some (.int x5), some (.int x6), some (.int x7), some (.int x8), none] [] h) ∧ (¬ (hI h (hR h a0 53) ((20 * x6) + x7).toNatClampNeg) = 0 → ((x8 = y0 → AW w mX10_goTogether 0 0 (rI Q) 0 0 95 [some (.ref a0), some (.int x1), some (.int x2), some (.int x3), some (.int x4), some (.int x5), some (.int x6), some (.int x7), some (.int x8), none] [] h) ∧ (¬ x8 = y0 → Q 0 h))))) : AW w mX10_goTogether 0 0 (rI Q) 0 0 68 [some (.ref a0), some (.int x1), some (.int x2), some (.int x3), some (.int x4), some (.int x5), some (.int x6), some (.int x7), some (.int x8), none] [.int y0] h := by
  refine aw_istore (loc' := [some (.ref a0), some (.int x1), some (.int x2), some (.int x3), some (.int x4), some (.int x5), some (.int x6), some (.int x7), some (.int x8), some (.int y0)]) 70 dX10_goTogether_68 rfl (by decide) rfl ?_
  refine aw_aload_n 71 dX10_goTogether_70 rfl rfl ?_
  obtain ⟨g1, H⟩ := H
  obtain ⟨g2, H⟩ := H
  refine aw_getR 74 dX10_goTogether_71 rfl fl_X10_110 ir_10_53 g1 rfl g2 ?_
  refine aw_bipush (v := 20) 76 dX10_goTogether_74 rfl (by decide) ?_
  refine aw_iload 78 dX10_goTogether_76 rfl rfl ?_
  refine aw_imul 79 dX10_goTogether_78 rfl ?_
  refine aw_iload 81 dX10_goTogether_79 rfl rfl ?_
  refine aw_iadd 82 dX10_goTogether_81 rfl ?_
  obtain ⟨g3, H⟩ := H
  obtain ⟨g4, H⟩ := H
  refine aw_bald 83 dX10_goTogether_82 rfl (Or.inr (shp g3)) g4 ?_
  refine aw_if_eq 95 86 dX10_goTogether_83 rfl (by decide) (fun c5 => ?_) (fun c5 => ?_)
  · replace H := H.1 c5
    exact aw_fgt (by simp [leL]) H
  · replace H := H.2 c5
    refine aw_iload 88 dX10_goTogether_86 rfl rfl ?_
    refine aw_iload 90 dX10_goTogether_88 rfl rfl ?_
    refine aw_icmp_eq 95 93 dX10_goTogether_90 rfl (by decide) (fun c6 => ?_) (fun c6 => ?_)
    · replace H := H.1 c6
      exact aw_fgt (by simp [leL]) H
    · replace H := H.2 c6
      refine aw_iconst (v := 0) 94 dX10_goTogether_93 rfl (by decide) ?_
      exact aw_zreturn dX10_goTogether_94 rfl (by decide) (by decide) (by decide) ⟨_, rfl, H⟩
set_option maxHeartbeats 4000000 in
set_option maxRecDepth 100000 in
theorem sX10_goTogether_95 {w : Wd} {Q : Int32 → Hp → Prop} {h : Hp} {a0 : Nat} {x1 : Int32} {x2 : Int32} {x3 : Int32} {x4 : Int32} {x5 : Int32} {x6 : Int32} {x7 : Int32} {x8 : Int32} (H : ((¬ x5 = 0 → AW w mX10_goTogether 0 0 (rI Q) 0 0 18 [some (.ref a0), some (.int x1), some (.int x2), some (.int x3), some (.int x4), some (.int 1), some (.int x6), some (.int (x7 + 1)), none, none] [] h) ∧ (x5 = 0 → (hs h a0).1 = 30 ∧ hR h a0 53 ≠ 0 ∧ (hs h (hR h a0 53)).1 = 3 ∧ vp_in ((20 * x6) + x7) (hs h (hR h a0 53)).2 ∧ (((hI h (hR h a0 53) ((20 * x6) + x7).toNatClampNeg) = 0 → AW w mX10_goTogether 0 0 (rI Q) 0 0 18 [some (.ref a0), some (.int x1), some (.int x2), some (.int x3), some (.int x4), some (.int 0), some (.int x6), some (.int (x7 + 1)), none, none] [] h) ∧ (¬ (hI h (hR h a0 53) ((20 * x6) + x7).toNatClampNeg) = 0 → ((x8 = 0 → AW w mX10_goTogether 0 0 (rI Q) 0 0 18 [some (.ref a0), some (.int x1), some (.int x2), some (.int x3), some (.int x4), some (.int 0), some (.int x6), some (.int (x7 + 1)), none, none] [] h) ∧ (¬ x8 = 0 → AW w mX10_goTogether 0 0 (rI Q) 0 0 18 [some (.ref a0), some (.int x1), some (.int x2), some (.int x3), some (.int x4), some (.int 1), some (.int x6), some (.int (x7 + 1)), none, none] [] h))))))) : AW w mX10_goTogether 0 0 (rI Q) 0 0 95 [some (.ref a0), some (.int x1), some (.int x2), some (.int x3), some (.int x4), some (.int x5), some (.int x6), some (.int x7), some (.int x8), none] [] h := by
  refine aw_iload 97 dX10_goTogether_95 rfl rfl ?_
  refine aw_if_ne 121 100 dX10_goTogether_97 rfl (by decide) (fun c1 => ?_) (fun c1 => ?_)
  · replace H := H.1 c1
    refine aw_iconst (v := 1) 122 dX10_goTogether_121 rfl (by decide) ?_
    refine aw_goto 126 dX10_goTogether_122 (by decide) ?_
    refine aw_istore (loc' := [some (.ref a0), some (.int x1), some (.int x2), some (.int x3), some (.int x4), some (.int 1), some (.int x6), some (.int x7), some (.int x8), none]) 128 dX10_goTogether_126 rfl (by decide) rfl ?_
    refine aw_iinc (y := 1) (loc' := [some (.ref a0), some (.int x1), some (.int x2), some (.int x3), some (.int x4), some (.int 1), some (.int x6), some (.int (x7 + 1)), some (.int x8), none]) 131 dX10_goTogether_128 rfl (by decide) rfl (by decide) rfl ?_
    refine aw_goto 18 dX10_goTogether_131 (by decide) ?_
    exact aw_fgt (by simp [leL]) H
  · replace H := H.2 c1
    refine aw_aload_n 101 dX10_goTogether_100 rfl rfl ?_
    obtain ⟨g2, H⟩ := H
    obtain ⟨g3, H⟩ := H
    refine aw_getR 104 dX10_goTogether_101 rfl fl_X10_110 ir_10_53 g2 rfl g3 ?_
    refine aw_bipush (v := 20) 106 dX10_goTogether_104 rfl (by decide) ?_
    refine aw_iload 108 dX10_goTogether_106 rfl rfl ?_
    refine aw_imul 109 dX10_goTogether_108 rfl ?_
    refine aw_iload 111 dX10_goTogether_109 rfl rfl ?_
    refine aw_iadd 112 dX10_goTogether_111 rfl ?_
    obtain ⟨g4, H⟩ := H
    obtain ⟨g5, H⟩ := H
    refine aw_bald 113 dX10_goTogether_112 rfl (Or.inr (shp g4)) g5 ?_
    refine aw_if_eq 125 116 dX10_goTogether_113 rfl (by decide) (fun c6 => ?_) (fun c6 => ?_)
    · replace H := H.1 c6
      refine aw_iconst (v := 0) 126 dX10_goTogether_125 rfl (by decide) ?_
      refine aw_istore (loc' := [some (.ref a0), some (.int x1), some (.int x2), some (.int x3), some (.int x4), some (.int 0), some (.int x6), some (.int x7), some (.int x8), none]) 128 dX10_goTogether_126 rfl (by decide) rfl ?_
      refine aw_iinc (y := 1) (loc' := [some (.ref a0), some (.int x1), some (.int x2), some (.int x3), some (.int x4), some (.int 0), some (.int x6), some (.int (x7 + 1)), some (.int x8), none]) 131 dX10_goTogether_128 rfl (by decide) rfl (by decide) rfl ?_
      refine aw_goto 18 dX10_goTogether_131 (by decide) ?_
      exact aw_fgt (by simp [leL]) H
    · replace H := H.2 c6
      refine aw_iload 118 dX10_goTogether_116 rfl rfl ?_
      refine aw_if_eq 125 121 dX10_goTogether_118 rfl (by decide) (fun c7 => ?_) (fun c7 => ?_)
      · replace H := H.1 c7
        refine aw_iconst (v := 0) 126 dX10_goTogether_125 rfl (by decide) ?_
        refine aw_istore (loc' := [some (.ref a0), some (.int x1), some (.int x2), some (.int x3), some (.int x4), some (.int 0), some (.int x6), some (.int x7), some (.int x8), none]) 128 dX10_goTogether_126 rfl (by decide) rfl ?_
        refine aw_iinc (y := 1) (loc' := [some (.ref a0), some (.int x1), some (.int x2), some (.int x3), some (.int x4), some (.int 0), some (.int x6), some (.int (x7 + 1)), some (.int x8), none]) 131 dX10_goTogether_128 rfl (by decide) rfl (by decide) rfl ?_
        refine aw_goto 18 dX10_goTogether_131 (by decide) ?_
        exact aw_fgt (by simp [leL]) H
      · replace H := H.2 c7
        refine aw_iconst (v := 1) 122 dX10_goTogether_121 rfl (by decide) ?_
        refine aw_goto 126 dX10_goTogether_122 (by decide) ?_
        refine aw_istore (loc' := [some (.ref a0), some (.int x1), some (.int x2), some (.int x3), some (.int x4), some (.int 1), some (.int x6), some (.int x7), some (.int x8), none]) 128 dX10_goTogether_126 rfl (by decide) rfl ?_
        refine aw_iinc (y := 1) (loc' := [some (.ref a0), some (.int x1), some (.int x2), some (.int x3), some (.int x4), some (.int 1), some (.int x6), some (.int (x7 + 1)), some (.int x8), none]) 131 dX10_goTogether_128 rfl (by decide) rfl (by decide) rfl ?_
        refine aw_goto 18 dX10_goTogether_131 (by decide) ?_
        exact aw_fgt (by simp [leL]) H
set_option maxHeartbeats 4000000 in
set_option maxRecDepth 100000 in
theorem sX10_phrases_0 {w : Wd} {Q : Int32 → Hp → Prop} {h : Hp} {a0 : Nat} {x1 : Int32} (H : (hs h a0).1 = 30 ∧ AC w mX10_isJoint 0 0 (rI fun r1 h1 => ((¬ r1 = 0 → (hs h1 a0).1 = 30 ∧ AC w mX10_isLinkable 0 0 (rI fun r2 h2 => ((¬ r2 = 0 → (hs h2 a0).1 = 30 ∧ AC w mX10_gather 0 0 (rV fun h3 => (hs h3 a0).1 = 30 ∧ AC w mX10_linkAll 0 0 (rV fun h4 => (hs h4 a0).1 = 30 ∧ AC w mX10_grow 0 0 (rV fun h5 => AW w mX10_phrases 0 0 (rI Q) 0 0 39 [some (.ref a0), none, some (.int 0), some (.int 0), none, none, none] [] h5) [.ref a0] h4) [.ref a0] h3) [.ref a0, .int x1] h2) ∧ (r2 = 0 → Q (-100003) h2))) [.ref a0, .int x1] h1) ∧ (r1 = 0 → Q (-100001) h1))) [.ref a0, .int x1] h) : AW w mX10_phrases 0 0 (rI Q) 0 0 0 [some (.ref a0), some (.int x1), none, none, none, none, none] [] h := by
  refine aw_aload_n 1 dX10_phrases_0 rfl rfl ?_
  refine aw_iload_n 2 dX10_phrases_1 rfl rfl ?_
  obtain ⟨g1, H⟩ := H
  refine aw_callV (stk := []) (ci := 10) [.int x1] 5 dX10_phrases_2 rfl mv_X10_297 ⟨by decide, by decide⟩ g1 (by intro r hr; cases hr; rfl) rfl rfl (by simp [Value.category]) (by decide) H ?_
  rintro _ h1 ⟨r1, rfl, H⟩
  refine aw_if_ne 11 8 dX10_phrases_5 rfl (by decide) (fun c2 => ?_) (fun c2 => ?_)
  · replace H := H.1 c2
    refine aw_aload_n 12 dX10_phrases_11 rfl rfl ?_
    refine aw_iload_n 13 dX10_phrases_12 rfl rfl ?_
    obtain ⟨g3, H⟩ := H
    refine aw_callV (stk := []) (ci := 10) [.int x1] 16 dX10_phrases_13 rfl mv_X10_344 ⟨by decide, by decide⟩ g3 (by intro r hr; cases hr; rfl) rfl rfl (by simp [Value.category]) (by decide) H ?_
    rintro _ h2 ⟨r2, rfl, H⟩
    refine aw_if_ne 22 19 dX10_phrases_16 rfl (by decide) (fun c4 => ?_) (fun c4 => ?_)
    · replace H := H.1 c4
      refine aw_aload_n 23 dX10_phrases_22 rfl rfl ?_
      refine aw_iload_n 24 dX10_phrases_23 rfl rfl ?_
      obtain ⟨g5, H⟩ := H
      refine aw_callV (stk := []) (ci := 10) [.int x1] 27 dX10_phrases_24 rfl mv_X10_341 ⟨by decide, by decide⟩ g5 (by intro r hr; cases hr; rfl) rfl rfl (by simp [Value.category]) (by decide) H ?_
      rintro _ h3 ⟨rfl, H⟩
      refine aw_aload_n 28 dX10_phrases_27 rfl rfl ?_
      obtain ⟨g6, H⟩ := H
      refine aw_callV (stk := []) (ci := 10) [] 31 dX10_phrases_28 rfl mv_X10_347 ⟨by decide, by decide⟩ g6 (by intro r hr; cases hr; rfl) rfl rfl (by simp [Value.category]) (by decide) H ?_
      rintro _ h4 ⟨rfl, H⟩
      refine aw_aload_n 32 dX10_phrases_31 rfl rfl ?_
      obtain ⟨g7, H⟩ := H
      refine aw_callV (stk := []) (ci := 10) [] 35 dX10_phrases_32 rfl mv_X10_350 ⟨by decide, by decide⟩ g7 (by intro r hr; cases hr; rfl) rfl rfl (by simp [Value.category]) (by decide) H ?_
      rintro _ h5 ⟨rfl, H⟩
      refine aw_iconst (v := 0) 36 dX10_phrases_35 rfl (by decide) ?_
      refine aw_istore_n (loc' := [some (.ref a0), some (.int x1), some (.int 0), none, none, none, none]) 37 dX10_phrases_36 rfl (by decide) rfl ?_
      refine aw_iconst (v := 0) 38 dX10_phrases_37 rfl (by decide) ?_
      refine aw_istore_n (loc' := [some (.ref a0), some (.int x1), some (.int 0), some (.int 0), none, none, none]) 39 dX10_phrases_38 rfl (by decide) rfl ?_
      exact aw_fgt (by simp [leL]) H
    · replace H := H.2 c4
      refine aw_ldc 21 dX10_phrases_19 rfl kc_X10_156 ?_
      exact aw_ireturn dX10_phrases_21 rfl (by decide) (by decide) ⟨_, rfl, H⟩
  · replace H := H.2 c2
    refine aw_ldc 10 dX10_phrases_8 rfl kc_X10_194 ?_
    exact aw_ireturn dX10_phrases_10 rfl (by decide) (by decide) ⟨_, rfl, H⟩
theorem eX10_phrases {w : Wd} {Q : Int32 → Hp → Prop} {h : Hp} {a0 : Nat} {x1 : Int32} (H : AW w mX10_phrases 0 0 (rI Q) 0 0 0 [some (.ref a0), some (.int x1), none, none, none, none, none] [] h) : AC w mX10_phrases 0 0 (rI Q) [.ref a0, .int x1] h := AC.ofL (by decide) (by simp [enl, Value.category]) (by simp [leL, enl, Value.category]) H
set_option maxHeartbeats 4000000 in
set_option maxRecDepth 100000 in
theorem sX10_phrases_39 {w : Wd} {Q : Int32 → Hp → Prop} {h : Hp} {a0 : Nat} {x2 : Int32} {x3 : Int32} (H : (hs h a0).1 = 30 ∧ (((hI h a0 48) ≤ x3 → Q x2 h) ∧ (¬ (hI h a0 48) ≤ x3 → AW w mX10_phrases 0 0 (rI Q) 0 0 50 [some (.ref a0), none, some (.int x2), some (.int x3), some (.int 0), none, none] [] h))) : AW w mX10_phrases 0 0 (rI Q) 0 0 39 [some (.ref a0), none, some (.int x2), some (.int x3), none, none, none] [] h := by
  refine aw_iload_n 40 dX10_phrases_39 rfl rfl ?_
  refine aw_aload_n 41 dX10_phrases_40 rfl rfl ?_
  obtain ⟨g1, H⟩ := H
  refine aw_getI 44 dX10_phrases_41 rfl fl_X10_319 (by decide) g1 ?_
  refine aw_icmp_ge 146 47 dX10_phrases_44 rfl (by decide) (fun c2 => ?_) (fun c2 => ?_)
  · replace H := H.1 c2
    refine aw_iload_n 147 dX10_phrases_146 rfl rfl ?_
    exact aw_ireturn dX10_phrases_147 rfl (by decide) (by decide) ⟨_, rfl, H⟩
  · replace H := H.2 c2
    refine aw_iconst (v := 0) 48 dX10_phrases_47 rfl (by decide) ?_
    refine aw_istore (loc' := [some (.ref a0), none, some (.int x2), some (.int x3), some (.int 0), none, none]) 50 dX10_phrases_48 rfl (by decide) rfl ?_
    exact H
set_option maxHeartbeats 4000000 in
set_option maxRecDepth 100000 in
theorem sX10_phrases_50 {w : Wd} {Q : Int32 → Hp → Prop} {h : Hp} {a0 : Nat} {x2 : Int32} {x3 : Int32} {x4 : Int32} (H : ((4 ≤ x4 → AW w mX10_phrases 0 0 (rI Q) 0 0 39 [some (.ref a0), none, some (.int x2), some (.int (x3 + 1)), none, none, none] [] h) ∧ (¬ 4 ≤ x4 → (hs h a0).1 = 30 ∧ (((hI h a0 48) ≤ (x3 + x4) → AW w mX10_phrases 0 0 (rI Q) 0 0 39 [some (.ref a0), none, some (.int x2), some (.int (x3 + 1)), none, none, none] [] h) ∧ (¬ (hI h a0 48) ≤ (x3 + x4) → AW w mX10_phrases 0 0 (rI Q) 0 0 70 [some (.ref a0), none, some (.int x2), some (.int x3), some (.int x4), some (.int 0), none] [] h))))) : AW w mX10_phrases 0 0 (rI Q) 0 0 50 [some (.ref a0), none, some (.int x2), some (.int x3), some (.int x4), none, none] [] h := by
  refine aw_iload 52 dX10_phrases_50 rfl rfl ?_
  refine aw_iconst (v := 4) 53 dX10_phrases_52 rfl (by decide) ?_
  refine aw_icmp_ge 140 56 dX10_phrases_53 rfl (by decide) (fun c1 => ?_) (fun c1 => ?_)
  · replace H := H.1 c1
    refine aw_iinc (y := 1) (loc' := [some (.ref a0), none, some (.int x2), some (.int (x3 + 1)), some (.int x4), none, none]) 143 dX10_phrases_140 rfl (by decide) rfl (by decide) rfl ?_
    refine aw_goto 39 dX10_phrases_143 (by decide) ?_
    exact aw_fgt (by simp [leL]) H
  · replace H := H.2 c1
    refine aw_iload_n 57 dX10_phrases_56 rfl rfl ?_
    refine aw_iload 59 dX10_phrases_57 rfl rfl ?_
    refine aw_iadd 60 dX10_phrases_59 rfl ?_
    refine aw_aload_n 61 dX10_phrases_60 rfl rfl ?_
    obtain ⟨g2, H⟩ := H
    refine aw_getI 64 dX10_phrases_61 rfl fl_X10_319 (by decide) g2 ?_
    refine aw_icmp_ge 140 67 dX10_phrases_64 rfl (by decide) (fun c3 => ?_) (fun c3 => ?_)
    · replace H := H.1 c3
      refine aw_iinc (y := 1) (loc' := [some (.ref a0), none, some (.int x2), some (.int (x3 + 1)), some (.int x4), none, none]) 143 dX10_phrases_140 rfl (by decide) rfl (by decide) rfl ?_
      refine aw_goto 39 dX10_phrases_143 (by decide) ?_
      exact aw_fgt (by simp [leL]) H
    · replace H := H.2 c3
      refine aw_iconst (v := 0) 68 dX10_phrases_67 rfl (by decide) ?_
      refine aw_istore (loc' := [some (.ref a0), none, some (.int x2), some (.int x3), some (.int x4), some (.int 0), none]) 70 dX10_phrases_68 rfl (by decide) rfl ?_
      exact H
set_option maxHeartbeats 4000000 in
set_option maxRecDepth 100000 in
theorem sX10_phrases_70 {w : Wd} {Q : Int32 → Hp → Prop} {h : Hp} {a0 : Nat} {x2 : Int32} {x3 : Int32} {x4 : Int32} {x5 : Int32} (H : (hs h a0).1 = 30 ∧ (((hI h a0 50) ≤ x5 → AW w mX10_phrases 0 0 (rI Q) 0 0 50 [some (.ref a0), none, some (.int x2), some (.int x3), some (.int (x4 + 1)), none, none] [] h) ∧ (¬ (hI h a0 50) ≤ x5 → AW w mX10_phrases 0 0 (rI Q) 0 0 82 [some (.ref a0), none, some (.int x2), some (.int x3), some (.int x4), some (.int x5), some (.int 0)] [] h))) : AW w mX10_phrases 0 0 (rI Q) 0 0 70 [some (.ref a0), none, some (.int x2), some (.int x3), some (.int x4), some (.int x5), none] [] h := by
  refine aw_iload 72 dX10_phrases_70 rfl rfl ?_
  refine aw_aload_n 73 dX10_phrases_72 rfl rfl ?_
  obtain ⟨g1, H⟩ := H
  refine aw_getI 76 dX10_phrases_73 rfl fl_X10_322 (by decide) g1 ?_
  refine aw_icmp_ge 134 79 dX10_phrases_76 rfl (by decide) (fun c2 => ?_) (fun c2 => ?_)
  · replace H := H.1 c2
    refine aw_iinc (y := 1) (loc' := [some (.ref a0), none, some (.int x2), some (.int x3), some (.int (x4 + 1)), some (.int x5), none]) 137 dX10_phrases_134 rfl (by decide) rfl (by decide) rfl ?_
    refine aw_goto 50 dX10_phrases_137 (by decide) ?_
    exact aw_fgt (by simp [leL]) H
  · replace H := H.2 c2
    refine aw_iconst (v := 0) 80 dX10_phrases_79 rfl (by decide) ?_
    refine aw_istore (loc' := [some (.ref a0), none, some (.int x2), some (.int x3), some (.int x4), some (.int x5), some (.int 0)]) 82 dX10_phrases_80 rfl (by decide) rfl ?_
    exact H
set_option maxHeartbeats 4000000 in
set_option maxRecDepth 100000 in
theorem sX10_phrases_82 {w : Wd} {Q : Int32 → Hp → Prop} {h : Hp} {a0 : Nat} {x2 : Int32} {x3 : Int32} {x4 : Int32} {x5 : Int32} {x6 : Int32} (H : ((4 ≤ x6 → AW w mX10_phrases 0 0 (rI Q) 0 0 70 [some (.ref a0), none, some (.int x2), some (.int x3), some (.int x4), some (.int (x5 + 1)), none] [] h) ∧ (¬ 4 ≤ x6 → (hs h a0).1 = 30 ∧ (((hI h a0 50) ≤ (x5 + x6) → AW w mX10_phrases 0 0 (rI Q) 0 0 70 [some (.ref a0), none, some (.int x2), some (.int x3), some (.int x4), some (.int (x5 + 1)), none] [] h) ∧ (¬ (hI h a0 50) ≤ (x5 + x6) → AC w mX10_goTogether 0 0 (rI fun r1 h1 => ((r1 = 0 → AW w mX10_phrases 0 0 (rI Q) 0 0 82 [some (.ref a0), none, some (.int (x2 + 0)), some (.int x3), some (.int x4), some (.int x5), some (.int (x6 + 1))] [] h1) ∧ (¬ r1 = 0 → AW w mX10_phrases 0 0 (rI Q) 0 0 82 [some (.ref a0), none, some (.int (x2 + 1)), some (.int x3), some (.int x4), some (.int x5), some (.int (x6 + 1))] [] h1))) [.ref a0, .int x3, .int x4, .int x5, .int x6] h))))) : AW w mX10_phrases 0 0 (rI Q) 0 0 82 [some (.ref a0), none, some (.int x2), some (.int x3), some (.int x4), some (.int x5), some (.int x6)] [] h := by
  refine aw_iload 84 dX10_phrases_82 rfl rfl ?_
  refine aw_iconst (v := 4) 85 dX10_phrases_84 rfl (by decide) ?_
  refine aw_icmp_ge 128 88 dX10_phrases_85 rfl (by decide) (fun c1 => ?_) (fun c1 => ?_)
  · replace H := H.1 c1
    refine aw_iinc (y := 1) (loc' := [some (.ref a0), none, some (.int x2), some (.int x3), some (.int x4), some (.int (x5 + 1)), some (.int x6)]) 131 dX10_phrases_128 rfl (by decide) rfl (by decide) rfl ?_
    refine aw_goto 70 dX10_phrases_131 (by decide) ?_
    exact aw_fgt (by simp [leL]) H
  · replace H := H.2 c1
    refine aw_iload 90 dX10_phrases_88 rfl rfl ?_
    refine aw_iload 92 dX10_phrases_90 rfl rfl ?_
    refine aw_iadd 93 dX10_phrases_92 rfl ?_
    refine aw_aload_n 94 dX10_phrases_93 rfl rfl ?_
    obtain ⟨g2, H⟩ := H
    refine aw_getI 97 dX10_phrases_94 rfl fl_X10_322 (by decide) g2 ?_
    refine aw_icmp_ge 128 100 dX10_phrases_97 rfl (by decide) (fun c3 => ?_) (fun c3 => ?_)
    · replace H := H.1 c3
      refine aw_iinc (y := 1) (loc' := [some (.ref a0), none, some (.int x2), some (.int x3), some (.int x4), some (.int (x5 + 1)), some (.int x6)]) 131 dX10_phrases_128 rfl (by decide) rfl (by decide) rfl ?_
      refine aw_goto 70 dX10_phrases_131 (by decide) ?_
      exact aw_fgt (by simp [leL]) H
    · replace H := H.2 c3
      refine aw_iload_n 101 dX10_phrases_100 rfl rfl ?_
      refine aw_aload_n 102 dX10_phrases_101 rfl rfl ?_
      refine aw_iload_n 103 dX10_phrases_102 rfl rfl ?_
      refine aw_iload 105 dX10_phrases_103 rfl rfl ?_
      refine aw_iload 107 dX10_phrases_105 rfl rfl ?_
      refine aw_iload 109 dX10_phrases_107 rfl rfl ?_
      refine aw_callV (stk := [.int x2]) (ci := 10) [.int x3, .int x4, .int x5, .int x6] 112 dX10_phrases_109 rfl mv_X10_353 ⟨by decide, by decide⟩ g2 (by intro r hr; cases hr; rfl) rfl rfl (by simp [Value.category]) (by decide) H ?_
      rintro _ h1 ⟨r1, rfl, H⟩
      refine aw_if_eq 119 115 dX10_phrases_112 rfl (by decide) (fun c4 => ?_) (fun c4 => ?_)
      · replace H := H.1 c4
        refine aw_iconst (v := 0) 120 dX10_phrases_119 rfl (by decide) ?_
        refine aw_iadd 121 dX10_phrases_120 rfl ?_
        refine aw_istore_n (loc' := [some (.ref a0), none, some (.int (x2 + 0)), some (.int x3), some (.int x4), some (.int x5), some (.int x6)]) 122 dX10_phrases_121 rfl (by decide) rfl ?_
        refine aw_iinc (y := 1) (loc' := [some (.ref a0), none, some (.int (x2 + 0)), some (.int x3), some (.int x4), some (.int x5), some (.int (x6 + 1))]) 125 dX10_phrases_122 rfl (by decide) rfl (by decide) rfl ?_
        refine aw_goto 82 dX10_phrases_125 (by decide) ?_
        exact H
      · replace H := H.2 c4
        refine aw_iconst (v := 1) 116 dX10_phrases_115 rfl (by decide) ?_
        refine aw_goto 120 dX10_phrases_116 (by decide) ?_
        refine aw_iadd 121 dX10_phrases_120 rfl ?_
        refine aw_istore_n (loc' := [some (.ref a0), none, some (.int (x2 + 1)), some (.int x3), some (.int x4), some (.int x5), some (.int x6)]) 122 dX10_phrases_121 rfl (by decide) rfl ?_
        refine aw_iinc (y := 1) (loc' := [some (.ref a0), none, some (.int (x2 + 1)), some (.int x3), some (.int x4), some (.int x5), some (.int (x6 + 1))]) 125 dX10_phrases_122 rfl (by decide) rfl (by decide) rfl ?_
        refine aw_goto 82 dX10_phrases_125 (by decide) ?_
        exact H
set_option maxHeartbeats 4000000 in
set_option maxRecDepth 100000 in
theorem sX10_isSlot_0 {w : Wd} {Q : Int32 → Hp → Prop} {h : Hp} {x0 : Int32} (H : AC w mX10_in 0 0 (rI fun r1 h1 => (r1 = 0 ∨ r1 = 1) ∧ Q r1 h1) [.long x0.toInt64, .long 0, .long 7] h) : AW w mX10_isSlot 0 0 (rI Q) 0 0 0 [some (.int x0)] [] h := by
  refine aw_iload_n 1 dX10_isSlot_0 rfl rfl ?_
  refine aw_i2l 2 dX10_isSlot_1 rfl ?_
  refine aw_lconst (v := 0) 3 dX10_isSlot_2 rfl (by decide) ?_
  refine aw_ldc2 6 dX10_isSlot_3 rfl kc_X10_356 ?_
  refine aw_callS (stk := []) [.long x0.toInt64, .long 0, .long 7] 9 dX10_isSlot_6 rfl mv_X10_131 ⟨by decide, by decide⟩ rfl rfl (by simp [Value.category]) (by decide) H ?_
  rintro _ h1 ⟨r1, rfl, H⟩
  obtain ⟨g1, H⟩ := H
  exact aw_zreturn dX10_isSlot_9 rfl g1 (by decide) (by decide) ⟨_, rfl, H⟩
theorem eX10_isSlot {w : Wd} {Q : Int32 → Hp → Prop} {h : Hp} {x0 : Int32} (H : AW w mX10_isSlot 0 0 (rI Q) 0 0 0 [some (.int x0)] [] h) : AC w mX10_isSlot 0 0 (rI Q) [.int x0] h := AC.ofL (by decide) (by simp [enl, Value.category]) (by simp [leL, enl, Value.category]) H
set_option maxHeartbeats 4000000 in
set_option maxRecDepth 100000 in
theorem sX10_putSentence_0 {w : Wd} {Q : Int32 → Hp → Prop} {h : Hp} {a0 : Nat} {x1 : Int32} {x2 : Int32} {x3 : Int32} (H : AC w mX10_isSlot 0 0 (rI fun r1 h1 => ((r1 = 0 → Q (-100001) h1) ∧ (¬ r1 = 0 → (hs h1 a0).1 = 30 ∧ AC w mX10_isSentence 0 0 (rI fun r2 h2 => ((¬ r2 = 0 → (hs h2 a0).1 = 30 ∧ hR h2 a0 54 ≠ 0 ∧ (hs h2 (hR h2 a0 54)).1 = 1 ∧ vp_in x1 (hs h2 (hR h2 a0 54)).2 ∧ ∀ h3, h3 = sI h2 (hR h2 a0 54) x1.toNatClampNeg 1 → hR h2 a0 55 ≠ 0 ∧ hR h2 a0 6 ≠ 0 ∧ (hs h2 (hR h2 a0 6)).1 = 1 ∧ vp_in ((20 * x2) + x3) (hs h2 (hR h2 a0 6)).2 ∧ (hs h2 (hR h2 a0 55)).1 = 1 ∧ vp_in x1 (hs h2 (hR h2 a0 55)).2 ∧ ∀ h4, h4 = sI h3 (hR h2 a0 55) x1.toNatClampNeg (hI h3 (hR h2 a0 6) ((20 * x2) + x3).toNatClampNeg) → AW w mX10_putSentence 0 0 (rI Q) 0 0 46 [some (.ref a0), some (.int x1), some (.int x2), some (.int x3), some (.int 0)] [] h4) ∧ (r2 = 0 → Q (-100001) h2))) [.ref a0, .int x2, .int x3] h1))) [.int x1] h) : AW w mX10_putSentence 0 0 (rI Q) 0 0 0 [some (.ref a0), some (.int x1), some (.int x2), some (.int x3), none] [] h := by
  refine aw_iload_n 1 dX10_putSentence_0 rfl rfl ?_
  refine aw_callS (stk := []) [.int x1] 4 dX10_putSentence_1 rfl mv_X10_358 ⟨by decide, by decide⟩ rfl rfl (by simp [Value.category]) (by decide) H ?_
  rintro _ h1 ⟨r1, rfl, H⟩
  refine aw_if_eq 16 7 dX10_putSentence_4 rfl (by decide) (fun c1 => ?_) (fun c1 => ?_)
  · replace H := H.1 c1
    refine aw_ldc 18 dX10_putSentence_16 rfl kc_X10_194 ?_
    exact aw_ireturn dX10_putSentence_18 rfl (by decide) (by decide) ⟨_, rfl, H⟩
  · replace H := H.2 c1
    refine aw_aload_n 8 dX10_putSentence_7 rfl rfl ?_
    refine aw_iload_n 9 dX10_putSentence_8 rfl rfl ?_
    refine aw_iload_n 10 dX10_putSentence_9 rfl rfl ?_
    obtain ⟨g2, H⟩ := H
    refine aw_callV (stk := []) (ci := 10) [.int x2, .int x3] 13 dX10_putSentence_10 rfl mv_X10_212 ⟨by decide, by decide⟩ g2 (by intro r hr; cases hr; rfl) rfl rfl (by simp [Value.category]) (by decide) H ?_
    rintro _ h2 ⟨r2, rfl, H⟩
    refine aw_if_ne 19 16 dX10_putSentence_13 rfl (by decide) (fun c3 => ?_) (fun c3 => ?_)
    · replace H := H.1 c3
      refine aw_aload_n 20 dX10_putSentence_19 rfl rfl ?_
      obtain ⟨g4, H⟩ := H
      obtain ⟨g5, H⟩ := H
      refine aw_getR 23 dX10_putSentence_20 rfl fl_X10_114 ir_10_54 g4 rfl g5 ?_
      refine aw_iload_n 24 dX10_putSentence_23 rfl rfl ?_
      refine aw_iconst (v := 1) 25 dX10_putSentence_24 rfl (by decide) ?_
      obtain ⟨g6, H⟩ := H
      obtain ⟨g7, H⟩ := H
      refine aw_iast 26 dX10_putSentence_25 rfl (shp g6) g7 ?_
      replace H := H _ rfl
      refine aw_aload_n 27 dX10_putSentence_26 rfl rfl ?_
      obtain ⟨g8, H⟩ := H
      refine aw_getR 30 dX10_putSentence_27 rfl fl_X10_117 ir_10_55 g4 rfl g8 ?_
      refine aw_iload_n 31 dX10_putSentence_30 rfl rfl ?_
      refine aw_aload_n 32 dX10_putSentence_31 rfl rfl ?_
      obtain ⟨g9, H⟩ := H
      refine aw_getR 35 dX10_putSentence_32 rfl fl_X10_22 ir_10_6 g4 rfl g9 ?_
      refine aw_bipush (v := 20) 37 dX10_putSentence_35 rfl (by decide) ?_
      refine aw_iload_n 38 dX10_putSentence_37 rfl rfl ?_
      refine aw_imul 39 dX10_putSentence_38 rfl ?_
      refine aw_iload_n 40 dX10_putSentence_39 rfl rfl ?_
      refine aw_iadd 41 dX10_putSentence_40 rfl ?_
      obtain ⟨g10, H⟩ := H
      obtain ⟨g11, H⟩ := H
      refine aw_iald 42 dX10_putSentence_41 rfl (Or.inl (shp g10)) g11 ?_
      obtain ⟨g12, H⟩ := H
      obtain ⟨g13, H⟩ := H
      refine aw_iast 43 dX10_putSentence_42 rfl (shp g12) g13 ?_
      replace H := H _ rfl
      refine aw_iconst (v := 0) 44 dX10_putSentence_43 rfl (by decide) ?_
      refine aw_istore (loc' := [some (.ref a0), some (.int x1), some (.int x2), some (.int x3), some (.int 0)]) 46 dX10_putSentence_44 rfl (by decide) rfl ?_
      exact H
    · replace H := H.2 c3
      refine aw_ldc 18 dX10_putSentence_16 rfl kc_X10_194 ?_
      exact aw_ireturn dX10_putSentence_18 rfl (by decide) (by decide) ⟨_, rfl, H⟩
theorem eX10_putSentence {w : Wd} {Q : Int32 → Hp → Prop} {h : Hp} {a0 : Nat} {x1 : Int32} {x2 : Int32} {x3 : Int32} (H : AW w mX10_putSentence 0 0 (rI Q) 0 0 0 [some (.ref a0), some (.int x1), some (.int x2), some (.int x3), none] [] h) : AC w mX10_putSentence 0 0 (rI Q) [.ref a0, .int x1, .int x2, .int x3] h := AC.ofL (by decide) (by simp [enl, Value.category]) (by simp [leL, enl, Value.category]) H
set_option maxHeartbeats 4000000 in
set_option maxRecDepth 100000 in
theorem sX10_putSentence_46 {w : Wd} {Q : Int32 → Hp → Prop} {h : Hp} {a0 : Nat} {x1 : Int32} {x2 : Int32} {x3 : Int32} {x4 : Int32} (H : (hs h a0).1 = 30 ∧ hR h a0 55 ≠ 0 ∧ (hs h (hR h a0 55)).1 = 1 ∧ vp_in x1 (hs h (hR h a0 55)).2 ∧ (((hI h (hR h a0 55) x1.toNatClampNeg) ≤ x4 → Q 1 h) ∧ (¬ (hI h (hR h a0 55) x1.toNatClampNeg) ≤ x4 → hR h a0 56 ≠ 0 ∧ AC w mX10_kindOf 0 0 (rI fun r1 h1 => (hs h1 (hR h a0 56)).1 = 1 ∧ vp_in ((30 * x1) + x4) (hs h1 (hR h a0 56)).2 ∧ ∀ h2, h2 = sI h1 (hR h a0 56) ((30 * x1) + x4).toNatClampNeg r1 → AW w mX10_putSentence 0 0 (rI Q) 0 0 46 [some (.ref a0), some (.int x1), some (.int x2), some (.int x3), some (.int (x4 + 1))] [] h2) [.ref a0, .int x2, .int x3, .int x4] h))) : AW w mX10_putSentence 0 0 (rI Q) 0 0 46 [some (.ref a0), some (.int x1), some (.int x2), some (.int x3), some (.int x4)] [] h := by
  refine aw_iload 48 dX10_putSentence_46 rfl rfl ?_
  refine aw_aload_n 49 dX10_putSentence_48 rfl rfl ?_
  obtain ⟨g1, H⟩ := H
  obtain ⟨g2, H⟩ := H
  refine aw_getR 52 dX10_putSentence_49 rfl fl_X10_117 ir_10_55 g1 rfl g2 ?_
  refine aw_iload_n 53 dX10_putSentence_52 rfl rfl ?_
  obtain ⟨g3, H⟩ := H
  obtain ⟨g4, H⟩ := H
  refine aw_iald 54 dX10_putSentence_53 rfl (Or.inl (shp g3)) g4 ?_
  refine aw_icmp_ge 83 57 dX10_putSentence_54 rfl (by decide) (fun c5 => ?_) (fun c5 => ?_)
  · replace H := H.1 c5
    refine aw_iconst (v := 1) 84 dX10_putSentence_83 rfl (by decide) ?_
    exact aw_ireturn dX10_putSentence_84 rfl (by decide) (by decide) ⟨_, rfl, H⟩
  · replace H := H.2 c5
    refine aw_aload_n 58 dX10_putSentence_57 rfl rfl ?_
    obtain ⟨g6, H⟩ := H
    refine aw_getR 61 dX10_putSentence_58 rfl fl_X10_120 ir_10_56 g1 rfl g6 ?_
    refine aw_bipush (v := 30) 63 dX10_putSentence_61 rfl (by decide) ?_
    refine aw_iload_n 64 dX10_putSentence_63 rfl rfl ?_
    refine aw_imul 65 dX10_putSentence_64 rfl ?_
    refine aw_iload 67 dX10_putSentence_65 rfl rfl ?_
    refine aw_iadd 68 dX10_putSentence_67 rfl ?_
    refine aw_aload_n 69 dX10_putSentence_68 rfl rfl ?_
    refine aw_iload_n 70 dX10_putSentence_69 rfl rfl ?_
    refine aw_iload_n 71 dX10_putSentence_70 rfl rfl ?_
    refine aw_iload 73 dX10_putSentence_71 rfl rfl ?_
    refine aw_callV (stk := [.int ((30 * x1) + x4), .ref (hR h a0 56)]) (ci := 10) [.int x2, .int x3, .int x4] 76 dX10_putSentence_73 rfl mv_X10_201 ⟨by decide, by decide⟩ g1 (by intro r hr; cases hr; rfl) rfl rfl (by simp [Value.category]) (by decide) H ?_
    rintro _ h1 ⟨r1, rfl, H⟩
    obtain ⟨g7, H⟩ := H
    obtain ⟨g8, H⟩ := H
    refine aw_iast 77 dX10_putSentence_76 rfl (shp g7) g8 ?_
    replace H := H _ rfl
    refine aw_iinc (y := 1) (loc' := [some (.ref a0), some (.int x1), some (.int x2), some (.int x3), some (.int (x4 + 1))]) 80 dX10_putSentence_77 rfl (by decide) rfl (by decide) rfl ?_
    refine aw_goto 46 dX10_putSentence_80 (by decide) ?_
    exact H
set_option maxHeartbeats 4000000 in
set_option maxRecDepth 100000 in
theorem sX10_putJoint_0 {w : Wd} {Q : Int32 → Hp → Prop} {h : Hp} {a0 : Nat} {x1 : Int32} {x2 : Int32} (H : AC w mX10_isSlot 0 0 (rI fun r1 h1 => ((r1 = 0 → Q (-100001) h1) ∧ (¬ r1 = 0 → (hs h1 a0).1 = 30 ∧ AC w mX10_isJoint 0 0 (rI fun r2 h2 => ((¬ r2 = 0 → (hs h2 a0).1 = 30 ∧ AC w mX10_gather 0 0 (rV fun h3 => (hs h3 a0).1 = 30 ∧ hR h3 a0 54 ≠ 0 ∧ (hs h3 (hR h3 a0 54)).1 = 1 ∧ vp_in x1 (hs h3 (hR h3 a0 54)).2 ∧ ∀ h4, h4 = sI h3 (hR h3 a0 54) x1.toNatClampNeg 2 → hR h3 a0 56 ≠ 0 ∧ hR h3 a0 42 ≠ 0 ∧ (hs h3 (hR h3 a0 42)).1 = 1 ∧ vp_in x2 (hs h3 (hR h3 a0 42)).2 ∧ hR h3 a0 43 ≠ 0 ∧ (hs h3 (hR h3 a0 43)).1 = 1 ∧ vp_in x2 (hs h3 (hR h3 a0 43)).2 ∧ hR h3 a0 44 ≠ 0 ∧ (hs h3 (hR h3 a0 44)).1 = 1 ∧ vp_in x2 (hs h3 (hR h3 a0 44)).2 ∧ AC w mX10_priceOf 0 0 (rI fun r4 h5 => (hs h5 (hR h3 a0 56)).1 = 1 ∧ vp_in (30 * x1) (hs h5 (hR h3 a0 56)).2 ∧ ∀ h6, h6 = sI h5 (hR h3 a0 56) (30 * x1).toNatClampNeg r4 → (hs h5 a0).1 = 30 ∧ hR h5 a0 56 ≠ 0 ∧ (hs h5 (hR h5 a0 56)).1 = 1 ∧ vp_in ((30 * x1) + 1) (hs h5 (hR h5 a0 56)).2 ∧ ∀ h7, h7 = sI h6 (hR h5 a0 56) ((30 * x1) + 1).toNatClampNeg (hI h6 a0 48) → Q 1 h7) [.ref a0, .int (hI h4 (hR h3 a0 42) x2.toNatClampNeg), .int (hI h4 (hR h3 a0 43) x2.toNatClampNeg), .int (hI h4 (hR h3 a0 44) x2.toNatClampNeg)] h4) [.ref a0, .int x2] h2) ∧ (r2 = 0 → Q (-100001) h2))) [.ref a0, .int x2] h1))) [.int x1] h) : AW w mX10_putJoint 0 0 (rI Q) 0 0 0 [some (.ref a0), some (.int x1), some (.int x2)] [] h := by
  refine aw_iload_n 1 dX10_putJoint_0 rfl rfl ?_
  refine aw_callS (stk := []) [.int x1] 4 dX10_putJoint_1 rfl mv_X10_358 ⟨by decide, by decide⟩ rfl rfl (by simp [Value.category]) (by decide) H ?_
  rintro _ h1 ⟨r1, rfl, H⟩
  refine aw_if_eq 15 7 dX10_putJoint_4 rfl (by decide) (fun c1 => ?_) (fun c1 => ?_)
  · replace H := H.1 c1
    refine aw_ldc 17 dX10_putJoint_15 rfl kc_X10_194 ?_
    exact aw_ireturn dX10_putJoint_17 rfl (by decide) (by decide) ⟨_, rfl, H⟩
  · replace H := H.2 c1
    refine aw_aload_n 8 dX10_putJoint_7 rfl rfl ?_
    refine aw_iload_n 9 dX10_putJoint_8 rfl rfl ?_
    obtain ⟨g2, H⟩ := H
    refine aw_callV (stk := []) (ci := 10) [.int x2] 12 dX10_putJoint_9 rfl mv_X10_297 ⟨by decide, by decide⟩ g2 (by intro r hr; cases hr; rfl) rfl rfl (by simp [Value.category]) (by decide) H ?_
    rintro _ h2 ⟨r2, rfl, H⟩
    refine aw_if_ne 18 15 dX10_putJoint_12 rfl (by decide) (fun c3 => ?_) (fun c3 => ?_)
    · replace H := H.1 c3
      refine aw_aload_n 19 dX10_putJoint_18 rfl rfl ?_
      refine aw_iload_n 20 dX10_putJoint_19 rfl rfl ?_
      obtain ⟨g4, H⟩ := H
      refine aw_callV (stk := []) (ci := 10) [.int x2] 23 dX10_putJoint_20 rfl mv_X10_341 ⟨by decide, by decide⟩ g4 (by intro r hr; cases hr; rfl) rfl rfl (by simp [Value.category]) (by decide) H ?_
      rintro _ h3 ⟨rfl, H⟩
      refine aw_aload_n 24 dX10_putJoint_23 rfl rfl ?_
      obtain ⟨g5, H⟩ := H
      obtain ⟨g6, H⟩ := H
      refine aw_getR 27 dX10_putJoint_24 rfl fl_X10_114 ir_10_54 g5 rfl g6 ?_
      refine aw_iload_n 28 dX10_putJoint_27 rfl rfl ?_
      refine aw_iconst (v := 2) 29 dX10_putJoint_28 rfl (by decide) ?_
      obtain ⟨g7, H⟩ := H
      obtain ⟨g8, H⟩ := H
      refine aw_iast 30 dX10_putJoint_29 rfl (shp g7) g8 ?_
      replace H := H _ rfl
      refine aw_aload_n 31 dX10_putJoint_30 rfl rfl ?_
      obtain ⟨g9, H⟩ := H
      refine aw_getR 34 dX10_putJoint_31 rfl fl_X10_120 ir_10_56 g5 rfl g9 ?_
      refine aw_bipush (v := 30) 36 dX10_putJoint_34 rfl (by decide) ?_
      refine aw_iload_n 37 dX10_putJoint_36 rfl rfl ?_
      refine aw_imul 38 dX10_putJoint_37 rfl ?_
      refine aw_aload_n 39 dX10_putJoint_38 rfl rfl ?_
      refine aw_aload_n 40 dX10_putJoint_39 rfl rfl ?_
      obtain ⟨g10, H⟩ := H
      refine aw_getR 43 dX10_putJoint_40 rfl fl_X10_85 ir_10_42 g5 rfl g10 ?_
      refine aw_iload_n 44 dX10_putJoint_43 rfl rfl ?_
      obtain ⟨g11, H⟩ := H
      obtain ⟨g12, H⟩ := H
      refine aw_iald 45 dX10_putJoint_44 rfl (Or.inl (shp g11)) g12 ?_
      refine aw_aload_n 46 dX10_putJoint_45 rfl rfl ?_
      obtain ⟨g13, H⟩ := H
      refine aw_getR 49 dX10_putJoint_46 rfl fl_X10_88 ir_10_43 g5 rfl g13 ?_
      refine aw_iload_n 50 dX10_putJoint_49 rfl rfl ?_
      obtain ⟨g14, H⟩ := H
      obtain ⟨g15, H⟩ := H
      refine aw_iald 51 dX10_putJoint_50 rfl (Or.inl (shp g14)) g15 ?_
      refine aw_aload_n 52 dX10_putJoint_51 rfl rfl ?_
      obtain ⟨g16, H⟩ := H
      refine aw_getR 55 dX10_putJoint_52 rfl fl_X10_91 ir_10_44 g5 rfl g16 ?_
      refine aw_iload_n 56 dX10_putJoint_55 rfl rfl ?_
      obtain ⟨g17, H⟩ := H
      obtain ⟨g18, H⟩ := H
      refine aw_iald 57 dX10_putJoint_56 rfl (Or.inl (shp g17)) g18 ?_
      refine aw_callV (stk := [.int (30 * x1), .ref (hR h3 a0 56)]) (ci := 10) [.int (hI (sI h3 (hR h3 a0 54) x1.toNatClampNeg 2) (hR h3 a0 42) x2.toNatClampNeg), .int (hI (sI h3 (hR h3 a0 54) x1.toNatClampNeg 2) (hR h3 a0 43) x2.toNatClampNeg), .int (hI (sI h3 (hR h3 a0 54) x1.toNatClampNeg 2) (hR h3 a0 44) x2.toNatClampNeg)] 60 dX10_putJoint_57 rfl mv_X10_285 ⟨by decide, by decide⟩ g5 (by intro r hr; cases hr; rfl) rfl rfl (by simp [Value.category]) (by decide) H ?_
      rintro _ h5 ⟨r4, rfl, H⟩
      obtain ⟨g19, H⟩ := H
      obtain ⟨g20, H⟩ := H
      refine aw_iast 61 dX10_putJoint_60 rfl (shp g19) g20 ?_
      replace H := H _ rfl
      refine aw_aload_n 62 dX10_putJoint_61 rfl rfl ?_
      obtain ⟨g21, H⟩ := H
      obtain ⟨g22, H⟩ := H
      refine aw_getR 65 dX10_putJoint_62 rfl fl_X10_120 ir_10_56 g21 rfl g22 ?_
      refine aw_bipush (v := 30) 67 dX10_putJoint_65 rfl (by decide) ?_
      refine aw_iload_n 68 dX10_putJoint_67 rfl rfl ?_
      refine aw_imul 69 dX10_putJoint_68 rfl ?_
      refine aw_iconst (v := 1) 70 dX10_putJoint_69 rfl (by decide) ?_
      refine aw_iadd 71 dX10_putJoint_70 rfl ?_
      refine aw_aload_n 72 dX10_putJoint_71 rfl rfl ?_
      refine aw_getI 75 dX10_putJoint_72 rfl fl_X10_319 (by decide) g21 ?_
      obtain ⟨g23, H⟩ := H
      obtain ⟨g24, H⟩ := H
      refine aw_iast 76 dX10_putJoint_75 rfl (shp g23) g24 ?_
      replace H := H _ rfl
      refine aw_iconst (v := 1) 77 dX10_putJoint_76 rfl (by decide) ?_
      exact aw_ireturn dX10_putJoint_77 rfl (by decide) (by decide) ⟨_, rfl, H⟩
    · replace H := H.2 c3
      refine aw_ldc 17 dX10_putJoint_15 rfl kc_X10_194 ?_
      exact aw_ireturn dX10_putJoint_17 rfl (by decide) (by decide) ⟨_, rfl, H⟩
theorem eX10_putJoint {w : Wd} {Q : Int32 → Hp → Prop} {h : Hp} {a0 : Nat} {x1 : Int32} {x2 : Int32} (H : AW w mX10_putJoint 0 0 (rI Q) 0 0 0 [some (.ref a0), some (.int x1), some (.int x2)] [] h) : AC w mX10_putJoint 0 0 (rI Q) [.ref a0, .int x1, .int x2] h := AC.ofL (by decide) (by simp [enl, Value.category]) (by simp [leL, enl, Value.category]) H
set_option maxHeartbeats 4000000 in
set_option maxRecDepth 100000 in
theorem sX10_putRow_0 {w : Wd} {Q : Int32 → Hp → Prop} {h : Hp} {a0 : Nat} {x1 : Int32} {x2 : Int32} (H : AC w mX10_isSlot 0 0 (rI fun r1 h1 => ((¬ r1 = 0 → ((x2 ≤ 30 → ((0 ≤ x2 → AW w mX10_putRow 0 0 (rI Q) 0 0 29 [some (.ref a0), some (.int x1), some (.int x2), none] [.int 0, .ref a0] h1) ∧ (¬ 0 ≤ x2 → AW w mX10_putRow 0 0 (rI Q) 0 0 29 [some (.ref a0), some (.int x1), some (.int x2), none] [.int 4, .ref a0] h1))) ∧ (¬ x2 ≤ 30 → Q (-100002) h1))) ∧ (r1 = 0 → Q (-100001) h1))) [.int x1] h) : AW w mX10_putRow 0 0 (rI Q) 0 0 0 [some (.ref a0), some (.int x1), some (.int x2), none] [] h := by
  refine aw_iload_n 1 dX10_putRow_0 rfl rfl ?_
  refine aw_callS (stk := []) [.int x1] 4 dX10_putRow_1 rfl mv_X10_358 ⟨by decide, by decide⟩ rfl rfl (by simp [Value.category]) (by decide) H ?_
  rintro _ h1 ⟨r1, rfl, H⟩
  refine aw_if_ne 10 7 dX10_putRow_4 rfl (by decide) (fun c1 => ?_) (fun c1 => ?_)
  · replace H := H.1 c1
    refine aw_iload_n 11 dX10_putRow_10 rfl rfl ?_
    refine aw_bipush (v := 30) 13 dX10_putRow_11 rfl (by decide) ?_
    refine aw_icmp_le 19 16 dX10_putRow_13 rfl (by decide) (fun c2 => ?_) (fun c2 => ?_)
    · replace H := H.1 c2
      refine aw_aload_n 20 dX10_putRow_19 rfl rfl ?_
      refine aw_iload_n 21 dX10_putRow_20 rfl rfl ?_
      refine aw_if_ge 28 24 dX10_putRow_21 rfl (by decide) (fun c3 => ?_) (fun c3 => ?_)
      · replace H := H.1 c3
        refine aw_iconst (v := 0) 29 dX10_putRow_28 rfl (by decide) ?_
        exact H
      · replace H := H.2 c3
        refine aw_iconst (v := 4) 25 dX10_putRow_24 rfl (by decide) ?_
        refine aw_goto 29 dX10_putRow_25 (by decide) ?_
        exact H
    · replace H := H.2 c2
      refine aw_ldc 18 dX10_putRow_16 rfl kc_X10_135 ?_
      exact aw_ireturn dX10_putRow_18 rfl (by decide) (by decide) ⟨_, rfl, H⟩
  · replace H := H.2 c1
    refine aw_ldc 9 dX10_putRow_7 rfl kc_X10_194 ?_
    exact aw_ireturn dX10_putRow_9 rfl (by decide) (by decide) ⟨_, rfl, H⟩
theorem eX10_putRow {w : Wd} {Q : Int32 → Hp → Prop} {h : Hp} {a0 : Nat} {x1 : Int32} {x2 : Int32} (H : AW w mX10_putRow 0 0 (rI Q) 0 0 0 [some (.ref a0), some (.int x1), some (.int x2), none] [] h) : AC w mX10_putRow 0 0 (rI Q) [.ref a0, .int x1, .int x2] h := AC.ofL (by decide) (by simp [enl, Value.category]) (by simp [leL, enl, Value.category]) H
set_option maxHeartbeats 4000000 in
set_option maxRecDepth 100000 in
theorem sX10_putRow_29 {w : Wd} {Q : Int32 → Hp → Prop} {h : Hp} {a0 : Nat} {x1 : Int32} {x2 : Int32} {b0 : Nat} {y1 : Int32} (H : (hs h b0).1 = 30 ∧ ∀ h1, h1 = sI h b0 19 y1 → (hs h a0).1 = 30 ∧ (((hI h1 a0 19) ≤ 0 → hR h a0 54 ≠ 0 ∧ (hs h (hR h a0 54)).1 = 1 ∧ vp_in x1 (hs h (hR h a0 54)).2 ∧ ∀ h2, h2 = sI h1 (hR h a0 54) x1.toNatClampNeg 3 → hR h a0 55 ≠ 0 ∧ (hs h (hR h a0 55)).1 = 1 ∧ vp_in x1 (hs h (hR h a0 55)).2 ∧ ∀ h3, h3 = sI h2 (hR h a0 55) x1.toNatClampNeg x2 → AW w mX10_putRow 0 0 (rI Q) 0 0 57 [some (.ref a0), some (.int x1), some (.int x2), some (.int 0)] [] h3) ∧ (¬ (hI h1 a0 19) ≤ 0 → Q 0 h1))) : AW w mX10_putRow 0 0 (rI Q) 0 0 29 [some (.ref a0), some (.int x1), some (.int x2), none] [.int y1, .ref b0] h := by
  obtain ⟨g1, H⟩ := H
  refine aw_putI 32 dX10_putRow_29 rfl fl_X10_361 (by decide) g1 nf_10_19 ?_
  replace H := H _ rfl
  refine aw_aload_n 33 dX10_putRow_32 rfl rfl ?_
  obtain ⟨g2, H⟩ := H
  refine aw_getI 36 dX10_putRow_33 rfl fl_X10_361 (by decide) g2 ?_
  refine aw_if_le 41 39 dX10_putRow_36 rfl (by decide) (fun c3 => ?_) (fun c3 => ?_)
  · replace H := H.1 c3
    refine aw_aload_n 42 dX10_putRow_41 rfl rfl ?_
    obtain ⟨g4, H⟩ := H
    refine aw_getR 45 dX10_putRow_42 rfl fl_X10_114 ir_10_54 g2 rfl g4 ?_
    refine aw_iload_n 46 dX10_putRow_45 rfl rfl ?_
    refine aw_iconst (v := 3) 47 dX10_putRow_46 rfl (by decide) ?_
    obtain ⟨g5, H⟩ := H
    obtain ⟨g6, H⟩ := H
    refine aw_iast 48 dX10_putRow_47 rfl (shp g5) g6 ?_
    replace H := H _ rfl
    refine aw_aload_n 49 dX10_putRow_48 rfl rfl ?_
    obtain ⟨g7, H⟩ := H
    refine aw_getR 52 dX10_putRow_49 rfl fl_X10_117 ir_10_55 g2 rfl g7 ?_
    refine aw_iload_n 53 dX10_putRow_52 rfl rfl ?_
    refine aw_iload_n 54 dX10_putRow_53 rfl rfl ?_
    obtain ⟨g8, H⟩ := H
    obtain ⟨g9, H⟩ := H
    refine aw_iast 55 dX10_putRow_54 rfl (shp g8) g9 ?_
    replace H := H _ rfl
    refine aw_iconst (v := 0) 56 dX10_putRow_55 rfl (by decide) ?_
    refine aw_istore_n (loc' := [some (.ref a0), some (.int x1), some (.int x2), some (.int 0)]) 57 dX10_putRow_56 rfl (by decide) rfl ?_
    exact H
  · replace H := H.2 c3
    refine aw_iconst (v := 0) 40 dX10_putRow_39 rfl (by decide) ?_
    exact aw_ireturn dX10_putRow_40 rfl (by decide) (by decide) ⟨_, rfl, H⟩
set_option maxHeartbeats 4000000 in
set_option maxRecDepth 100000 in
theorem sX10_putRow_57 {w : Wd} {Q : Int32 → Hp → Prop} {h : Hp} {a0 : Nat} {x1 : Int32} {x2 : Int32} {x3 : Int32} (H : ((x2 ≤ x3 → Q x2 h) ∧ (¬ x2 ≤ x3 → (hs h a0).1 = 30 ∧ hR h a0 56 ≠ 0 ∧ (hs h (hR h a0 56)).1 = 1 ∧ vp_in ((30 * x1) + x3) (hs h (hR h a0 56)).2 ∧ ∀ h1, h1 = sI h (hR h a0 56) ((30 * x1) + x3).toNatClampNeg 0 → AW w mX10_putRow 0 0 (rI Q) 0 0 57 [some (.ref a0), some (.int x1), some (.int x2), some (.int (x3 + 1))] [] h1))) : AW w mX10_putRow 0 0 (rI Q) 0 0 57 [some (.ref a0), some (.int x1), some (.int x2), some (.int x3)] [] h := by
  refine aw_iload_n 58 dX10_putRow_57 rfl rfl ?_
  refine aw_iload_n 59 dX10_putRow_58 rfl rfl ?_
  refine aw_icmp_ge 80 62 dX10_putRow_59 rfl (by decide) (fun c1 => ?_) (fun c1 => ?_)
  · replace H := H.1 c1
    refine aw_iload_n 81 dX10_putRow_80 rfl rfl ?_
    exact aw_ireturn dX10_putRow_81 rfl (by decide) (by decide) ⟨_, rfl, H⟩
  · replace H := H.2 c1
    refine aw_aload_n 63 dX10_putRow_62 rfl rfl ?_
    obtain ⟨g2, H⟩ := H
    obtain ⟨g3, H⟩ := H
    refine aw_getR 66 dX10_putRow_63 rfl fl_X10_120 ir_10_56 g2 rfl g3 ?_
    refine aw_bipush (v := 30) 68 dX10_putRow_66 rfl (by decide) ?_
    refine aw_iload_n 69 dX10_putRow_68 rfl rfl ?_
    refine aw_imul 70 dX10_putRow_69 rfl ?_
    refine aw_iload_n 71 dX10_putRow_70 rfl rfl ?_
    refine aw_iadd 72 dX10_putRow_71 rfl ?_
    refine aw_iconst (v := 0) 73 dX10_putRow_72 rfl (by decide) ?_
    obtain ⟨g4, H⟩ := H
    obtain ⟨g5, H⟩ := H
    refine aw_iast 74 dX10_putRow_73 rfl (shp g4) g5 ?_
    replace H := H _ rfl
    refine aw_iinc (y := 1) (loc' := [some (.ref a0), some (.int x1), some (.int x2), some (.int (x3 + 1))]) 77 dX10_putRow_74 rfl (by decide) rfl (by decide) rfl ?_
    refine aw_goto 57 dX10_putRow_77 (by decide) ?_
    exact H
set_option maxHeartbeats 4000000 in
set_option maxRecDepth 100000 in
theorem sX10_clear_0 {w : Wd} {Q : Int32 → Hp → Prop} {h : Hp} {a0 : Nat} {x1 : Int32} (H : AC w mX10_isSlot 0 0 (rI fun r1 h1 => ((¬ r1 = 0 → (hs h1 a0).1 = 30 ∧ hR h1 a0 54 ≠ 0 ∧ (hs h1 (hR h1 a0 54)).1 = 1 ∧ vp_in x1 (hs h1 (hR h1 a0 54)).2 ∧ (((hI h1 (hR h1 a0 54) x1.toNatClampNeg) ≤ 0 → ∀ h2, h2 = sI h1 (hR h1 a0 54) x1.toNatClampNeg 0 → Q 0 h2) ∧ (¬ (hI h1 (hR h1 a0 54) x1.toNatClampNeg) ≤ 0 → ∀ h3, h3 = sI h1 (hR h1 a0 54) x1.toNatClampNeg 0 → Q 1 h3))) ∧ (r1 = 0 → Q (-100001) h1))) [.int x1] h) : AW w mX10_clear 0 0 (rI Q) 0 0 0 [some (.ref a0), some (.int x1), none] [] h := by
  refine aw_iload_n 1 dX10_clear_0 rfl rfl ?_
  refine aw_callS (stk := []) [.int x1] 4 dX10_clear_1 rfl mv_X10_358 ⟨by decide, by decide⟩ rfl rfl (by simp [Value.category]) (by decide) H ?_
  rintro _ h1 ⟨r1, rfl, H⟩
  refine aw_if_ne 10 7 dX10_clear_4 rfl (by decide) (fun c1 => ?_) (fun c1 => ?_)
  · replace H := H.1 c1
    refine aw_aload_n 11 dX10_clear_10 rfl rfl ?_
    obtain ⟨g2, H⟩ := H
    obtain ⟨g3, H⟩ := H
    refine aw_getR 14 dX10_clear_11 rfl fl_X10_114 ir_10_54 g2 rfl g3 ?_
    refine aw_iload_n 15 dX10_clear_14 rfl rfl ?_
    obtain ⟨g4, H⟩ := H
    obtain ⟨g5, H⟩ := H
    refine aw_iald 16 dX10_clear_15 rfl (Or.inl (shp g4)) g5 ?_
    refine aw_if_le 23 19 dX10_clear_16 rfl (by decide) (fun c6 => ?_) (fun c6 => ?_)
    · replace H := H.1 c6
      refine aw_iconst (v := 0) 24 dX10_clear_23 rfl (by decide) ?_
      refine aw_istore_n (loc' := [some (.ref a0), some (.int x1), some (.int 0)]) 25 dX10_clear_24 rfl (by decide) rfl ?_
      refine aw_aload_n 26 dX10_clear_25 rfl rfl ?_
      refine aw_getR 29 dX10_clear_26 rfl fl_X10_114 ir_10_54 g2 rfl g3 ?_
      refine aw_iload_n 30 dX10_clear_29 rfl rfl ?_
      refine aw_iconst (v := 0) 31 dX10_clear_30 rfl (by decide) ?_
      refine aw_iast 32 dX10_clear_31 rfl (shp g4) g5 ?_
      replace H := H _ rfl
      refine aw_iload_n 33 dX10_clear_32 rfl rfl ?_
      exact aw_ireturn dX10_clear_33 rfl (by decide) (by decide) ⟨_, rfl, H⟩
    · replace H := H.2 c6
      refine aw_iconst (v := 1) 20 dX10_clear_19 rfl (by decide) ?_
      refine aw_goto 24 dX10_clear_20 (by decide) ?_
      refine aw_istore_n (loc' := [some (.ref a0), some (.int x1), some (.int 1)]) 25 dX10_clear_24 rfl (by decide) rfl ?_
      refine aw_aload_n 26 dX10_clear_25 rfl rfl ?_
      refine aw_getR 29 dX10_clear_26 rfl fl_X10_114 ir_10_54 g2 rfl g3 ?_
      refine aw_iload_n 30 dX10_clear_29 rfl rfl ?_
      refine aw_iconst (v := 0) 31 dX10_clear_30 rfl (by decide) ?_
      refine aw_iast 32 dX10_clear_31 rfl (shp g4) g5 ?_
      replace H := H _ rfl
      refine aw_iload_n 33 dX10_clear_32 rfl rfl ?_
      exact aw_ireturn dX10_clear_33 rfl (by decide) (by decide) ⟨_, rfl, H⟩
  · replace H := H.2 c1
    refine aw_ldc 9 dX10_clear_7 rfl kc_X10_194 ?_
    exact aw_ireturn dX10_clear_9 rfl (by decide) (by decide) ⟨_, rfl, H⟩
theorem eX10_clear {w : Wd} {Q : Int32 → Hp → Prop} {h : Hp} {a0 : Nat} {x1 : Int32} (H : AW w mX10_clear 0 0 (rI Q) 0 0 0 [some (.ref a0), some (.int x1), none] [] h) : AC w mX10_clear 0 0 (rI Q) [.ref a0, .int x1] h := AC.ofL (by decide) (by simp [enl, Value.category]) (by simp [leL, enl, Value.category]) H
set_option maxHeartbeats 4000000 in
set_option maxRecDepth 100000 in
theorem sX10_sort_0 {w : Wd} {Q : Int32 → Hp → Prop} {h : Hp} {a0 : Nat} {x1 : Int32} (H : AC w mX10_isSlot 0 0 (rI fun r1 h1 => ((r1 = 0 → Q (-100001) h1) ∧ (¬ r1 = 0 → (hs h1 a0).1 = 30 ∧ hR h1 a0 54 ≠ 0 ∧ (hs h1 (hR h1 a0 54)).1 = 1 ∧ vp_in x1 (hs h1 (hR h1 a0 54)).2 ∧ Q (hI h1 (hR h1 a0 54) x1.toNatClampNeg) h1))) [.int x1] h) : AW w mX10_sort 0 0 (rI Q) 0 0 0 [some (.ref a0), some (.int x1)] [] h := by
  refine aw_iload_n 1 dX10_sort_0 rfl rfl ?_
  refine aw_callS (stk := []) [.int x1] 4 dX10_sort_1 rfl mv_X10_358 ⟨by decide, by decide⟩ rfl rfl (by simp [Value.category]) (by decide) H ?_
  rintro _ h1 ⟨r1, rfl, H⟩
  refine aw_if_eq 16 7 dX10_sort_4 rfl (by decide) (fun c1 => ?_) (fun c1 => ?_)
  · replace H := H.1 c1
    refine aw_ldc 18 dX10_sort_16 rfl kc_X10_194 ?_
    exact aw_ireturn dX10_sort_18 rfl (by decide) (by decide) ⟨_, rfl, H⟩
  · replace H := H.2 c1
    refine aw_aload_n 8 dX10_sort_7 rfl rfl ?_
    obtain ⟨g2, H⟩ := H
    obtain ⟨g3, H⟩ := H
    refine aw_getR 11 dX10_sort_8 rfl fl_X10_114 ir_10_54 g2 rfl g3 ?_
    refine aw_iload_n 12 dX10_sort_11 rfl rfl ?_
    obtain ⟨g4, H⟩ := H
    obtain ⟨g5, H⟩ := H
    refine aw_iald 13 dX10_sort_12 rfl (Or.inl (shp g4)) g5 ?_
    refine aw_goto 18 dX10_sort_13 (by decide) ?_
    exact aw_ireturn dX10_sort_18 rfl (by decide) (by decide) ⟨_, rfl, H⟩
theorem eX10_sort {w : Wd} {Q : Int32 → Hp → Prop} {h : Hp} {a0 : Nat} {x1 : Int32} (H : AW w mX10_sort 0 0 (rI Q) 0 0 0 [some (.ref a0), some (.int x1)] [] h) : AC w mX10_sort 0 0 (rI Q) [.ref a0, .int x1] h := AC.ofL (by decide) (by simp [enl, Value.category]) (by simp [leL, enl, Value.category]) H
set_option maxHeartbeats 4000000 in
set_option maxRecDepth 100000 in
theorem sX10_asks_0 {w : Wd} {Q : Hp → Prop} {h : Hp} {a0 : Nat} {x1 : Int32} {x2 : Int32} (H : (hs h a0).1 = 30 ∧ hR h a0 54 ≠ 0 ∧ (hs h (hR h a0 54)).1 = 1 ∧ vp_in x1 (hs h (hR h a0 54)).2 ∧ ((¬ (hI h (hR h a0 54) x1.toNatClampNeg) = 0 → (((hI h (hR h a0 54) x1.toNatClampNeg) = 3 → hR h a0 55 ≠ 0 ∧ (hs h (hR h a0 55)).1 = 1 ∧ vp_in x1 (hs h (hR h a0 55)).2 ∧ AC w mX10_in 0 0 (rI fun r1 h1 => ((¬ r1 = 0 → (hs h1 a0).1 = 30 ∧ ∀ h2, h2 = sI h1 a0 19 0 → Q h2) ∧ (r1 = 0 → (hs h1 a0).1 = 30 ∧ ∀ h3, h3 = sI h1 a0 19 3 → Q h3))) [.long x2.toInt64, .long 0, .long (((hI h (hR h a0 55) x1.toNatClampNeg) - 1).toInt64)] h) ∧ (¬ (hI h (hR h a0 54) x1.toNatClampNeg) = 3 → ∀ h4, h4 = sI h a0 19 2 → Q h4))) ∧ ((hI h (hR h a0 54) x1.toNatClampNeg) = 0 → ∀ h5, h5 = sI h a0 19 1 → Q h5))) : AW w mX10_asks 0 0 (rV Q) 0 0 0 [some (.ref a0), some (.int x1), some (.int x2)] [] h := by
  refine aw_aload_n 1 dX10_asks_0 rfl rfl ?_
  refine aw_aload_n 2 dX10_asks_1 rfl rfl ?_
  obtain ⟨g1, H⟩ := H
  obtain ⟨g2, H⟩ := H
  refine aw_getR 5 dX10_asks_2 rfl fl_X10_114 ir_10_54 g1 rfl g2 ?_
  refine aw_iload_n 6 dX10_asks_5 rfl rfl ?_
  obtain ⟨g3, H⟩ := H
  obtain ⟨g4, H⟩ := H
  refine aw_iald 7 dX10_asks_6 rfl (Or.inl (shp g3)) g4 ?_
  refine aw_if_ne 14 10 dX10_asks_7 rfl (by decide) (fun c5 => ?_) (fun c5 => ?_)
  · replace H := H.1 c5
    refine aw_aload_n 15 dX10_asks_14 rfl rfl ?_
    refine aw_getR 18 dX10_asks_15 rfl fl_X10_114 ir_10_54 g1 rfl g2 ?_
    refine aw_iload_n 19 dX10_asks_18 rfl rfl ?_
    refine aw_iald 20 dX10_asks_19 rfl (Or.inl (shp g3)) g4 ?_
    refine aw_iconst (v := 3) 21 dX10_asks_20 rfl (by decide) ?_
    refine aw_icmp_eq 28 24 dX10_asks_21 rfl (by decide) (fun c6 => ?_) (fun c6 => ?_)
    · replace H := H.1 c6
      refine aw_iload_n 29 dX10_asks_28 rfl rfl ?_
      refine aw_i2l 30 dX10_asks_29 rfl ?_
      refine aw_lconst (v := 0) 31 dX10_asks_30 rfl (by decide) ?_
      refine aw_aload_n 32 dX10_asks_31 rfl rfl ?_
      obtain ⟨g7, H⟩ := H
      refine aw_getR 35 dX10_asks_32 rfl fl_X10_117 ir_10_55 g1 rfl g7 ?_
      refine aw_iload_n 36 dX10_asks_35 rfl rfl ?_
      obtain ⟨g8, H⟩ := H
      obtain ⟨g9, H⟩ := H
      refine aw_iald 37 dX10_asks_36 rfl (Or.inl (shp g8)) g9 ?_
      refine aw_iconst (v := 1) 38 dX10_asks_37 rfl (by decide) ?_
      refine aw_isub 39 dX10_asks_38 rfl ?_
      refine aw_i2l 40 dX10_asks_39 rfl ?_
      refine aw_callS (stk := [.ref a0]) [.long x2.toInt64, .long 0, .long (((hI h (hR h a0 55) x1.toNatClampNeg) - 1).toInt64)] 43 dX10_asks_40 rfl mv_X10_131 ⟨by decide, by decide⟩ rfl rfl (by simp [Value.category]) (by decide) H ?_
      rintro _ h1 ⟨r1, rfl, H⟩
      refine aw_if_ne 50 46 dX10_asks_43 rfl (by decide) (fun c10 => ?_) (fun c10 => ?_)
      · replace H := H.1 c10
        refine aw_iconst (v := 0) 51 dX10_asks_50 rfl (by decide) ?_
        obtain ⟨g11, H⟩ := H
        refine aw_putI 54 dX10_asks_51 rfl fl_X10_361 (by decide) g11 nf_10_19 ?_
        replace H := H _ rfl
        exact aw_return dX10_asks_54 rfl (by decide) (by decide) ⟨rfl, H⟩
      · replace H := H.2 c10
        refine aw_iconst (v := 3) 47 dX10_asks_46 rfl (by decide) ?_
        refine aw_goto 51 dX10_asks_47 (by decide) ?_
        obtain ⟨g12, H⟩ := H
        refine aw_putI 54 dX10_asks_51 rfl fl_X10_361 (by decide) g12 nf_10_19 ?_
        replace H := H _ rfl
        exact aw_return dX10_asks_54 rfl (by decide) (by decide) ⟨rfl, H⟩
    · replace H := H.2 c6
      refine aw_iconst (v := 2) 25 dX10_asks_24 rfl (by decide) ?_
      refine aw_goto 51 dX10_asks_25 (by decide) ?_
      refine aw_putI 54 dX10_asks_51 rfl fl_X10_361 (by decide) g1 nf_10_19 ?_
      replace H := H _ rfl
      exact aw_return dX10_asks_54 rfl (by decide) (by decide) ⟨rfl, H⟩
  · replace H := H.2 c5
    refine aw_iconst (v := 1) 11 dX10_asks_10 rfl (by decide) ?_
    refine aw_goto 51 dX10_asks_11 (by decide) ?_
    refine aw_putI 54 dX10_asks_51 rfl fl_X10_361 (by decide) g1 nf_10_19 ?_
    replace H := H _ rfl
    exact aw_return dX10_asks_54 rfl (by decide) (by decide) ⟨rfl, H⟩
theorem eX10_asks {w : Wd} {Q : Hp → Prop} {h : Hp} {a0 : Nat} {x1 : Int32} {x2 : Int32} (H : AW w mX10_asks 0 0 (rV Q) 0 0 0 [some (.ref a0), some (.int x1), some (.int x2)] [] h) : AC w mX10_asks 0 0 (rV Q) [.ref a0, .int x1, .int x2] h := AC.ofL (by decide) (by simp [enl, Value.category]) (by simp [leL, enl, Value.category]) H
set_option maxHeartbeats 4000000 in
set_option maxRecDepth 100000 in
theorem sX10_write_0 {w : Wd} {Q : Int32 → Hp → Prop} {h : Hp} {a0 : Nat} {x1 : Int32} {x2 : Int32} {x3 : Int32} (H : AC w mX10_isSlot 0 0 (rI fun r1 h1 => ((¬ r1 = 0 → (hs h1 a0).1 = 30 ∧ AC w mX10_asks 0 0 (rV fun h2 => (hs h2 a0).1 = 30 ∧ (((hI h2 a0 19) ≤ 0 → hR h2 a0 56 ≠ 0 ∧ (hs h2 (hR h2 a0 56)).1 = 1 ∧ vp_in ((30 * x1) + x2) (hs h2 (hR h2 a0 56)).2 ∧ ∀ h3, h3 = sI h2 (hR h2 a0 56) ((30 * x1) + x2).toNatClampNeg x3 → Q (hI h2 (hR h2 a0 56) ((30 * x1) + x2).toNatClampNeg) h3) ∧ (¬ (hI h2 a0 19) ≤ 0 → Q 0 h2))) [.ref a0, .int x1, .int x2] h1) ∧ (r1 = 0 → Q (-100001) h1))) [.int x1] h) : AW w mX10_write 0 0 (rI Q) 0 0 0 [some (.ref a0), some (.int x1), some (.int x2), some (.int x3), none] [] h := by
  refine aw_iload_n 1 dX10_write_0 rfl rfl ?_
  refine aw_callS (stk := []) [.int x1] 4 dX10_write_1 rfl mv_X10_358 ⟨by decide, by decide⟩ rfl rfl (by simp [Value.category]) (by decide) H ?_
  rintro _ h1 ⟨r1, rfl, H⟩
  refine aw_if_ne 10 7 dX10_write_4 rfl (by decide) (fun c1 => ?_) (fun c1 => ?_)
  · replace H := H.1 c1
    refine aw_aload_n 11 dX10_write_10 rfl rfl ?_
    refine aw_iload_n 12 dX10_write_11 rfl rfl ?_
    refine aw_iload_n 13 dX10_write_12 rfl rfl ?_
    obtain ⟨g2, H⟩ := H
    refine aw_callV (stk := []) (ci := 10) [.int x1, .int x2] 16 dX10_write_13 rfl mv_X10_364 ⟨by decide, by decide⟩ g2 (by intro r hr; cases hr; rfl) rfl rfl (by simp [Value.category]) (by decide) H ?_
    rintro _ h2 ⟨rfl, H⟩
    refine aw_aload_n 17 dX10_write_16 rfl rfl ?_
    obtain ⟨g3, H⟩ := H
    refine aw_getI 20 dX10_write_17 rfl fl_X10_361 (by decide) g3 ?_
    refine aw_if_le 25 23 dX10_write_20 rfl (by decide) (fun c4 => ?_) (fun c4 => ?_)
    · replace H := H.1 c4
      refine aw_aload_n 26 dX10_write_25 rfl rfl ?_
      obtain ⟨g5, H⟩ := H
      refine aw_getR 29 dX10_write_26 rfl fl_X10_120 ir_10_56 g3 rfl g5 ?_
      refine aw_bipush (v := 30) 31 dX10_write_29 rfl (by decide) ?_
      refine aw_iload_n 32 dX10_write_31 rfl rfl ?_
      refine aw_imul 33 dX10_write_32 rfl ?_
      refine aw_iload_n 34 dX10_write_33 rfl rfl ?_
      refine aw_iadd 35 dX10_write_34 rfl ?_
      obtain ⟨g6, H⟩ := H
      obtain ⟨g7, H⟩ := H
      refine aw_iald 36 dX10_write_35 rfl (Or.inl (shp g6)) g7 ?_
      refine aw_istore (loc' := [some (.ref a0), some (.int x1), some (.int x2), some (.int x3), some (.int (hI h2 (hR h2 a0 56) ((30 * x1) + x2).toNatClampNeg))]) 38 dX10_write_36 rfl (by decide) rfl ?_
      refine aw_aload_n 39 dX10_write_38 rfl rfl ?_
      refine aw_getR 42 dX10_write_39 rfl fl_X10_120 ir_10_56 g3 rfl g5 ?_
      refine aw_bipush (v := 30) 44 dX10_write_42 rfl (by decide) ?_
      refine aw_iload_n 45 dX10_write_44 rfl rfl ?_
      refine aw_imul 46 dX10_write_45 rfl ?_
      refine aw_iload_n 47 dX10_write_46 rfl rfl ?_
      refine aw_iadd 48 dX10_write_47 rfl ?_
      refine aw_iload_n 49 dX10_write_48 rfl rfl ?_
      refine aw_iast 50 dX10_write_49 rfl (shp g6) g7 ?_
      replace H := H _ rfl
      refine aw_iload 52 dX10_write_50 rfl rfl ?_
      exact aw_ireturn dX10_write_52 rfl (by decide) (by decide) ⟨_, rfl, H⟩
    · replace H := H.2 c4
      refine aw_iconst (v := 0) 24 dX10_write_23 rfl (by decide) ?_
      exact aw_ireturn dX10_write_24 rfl (by decide) (by decide) ⟨_, rfl, H⟩
  · replace H := H.2 c1
    refine aw_ldc 9 dX10_write_7 rfl kc_X10_194 ?_
    exact aw_ireturn dX10_write_9 rfl (by decide) (by decide) ⟨_, rfl, H⟩
theorem eX10_write {w : Wd} {Q : Int32 → Hp → Prop} {h : Hp} {a0 : Nat} {x1 : Int32} {x2 : Int32} {x3 : Int32} (H : AW w mX10_write 0 0 (rI Q) 0 0 0 [some (.ref a0), some (.int x1), some (.int x2), some (.int x3), none] [] h) : AC w mX10_write 0 0 (rI Q) [.ref a0, .int x1, .int x2, .int x3] h := AC.ofL (by decide) (by simp [enl, Value.category]) (by simp [leL, enl, Value.category]) H
set_option maxHeartbeats 4000000 in
set_option maxRecDepth 100000 in
theorem sX10_read_0 {w : Wd} {Q : Int32 → Hp → Prop} {h : Hp} {a0 : Nat} {x1 : Int32} {x2 : Int32} (H : AC w mX10_isSlot 0 0 (rI fun r1 h1 => ((¬ r1 = 0 → (hs h1 a0).1 = 30 ∧ AC w mX10_asks 0 0 (rV fun h2 => (hs h2 a0).1 = 30 ∧ (((hI h2 a0 19) ≤ 0 → hR h2 a0 56 ≠ 0 ∧ (hs h2 (hR h2 a0 56)).1 = 1 ∧ vp_in ((30 * x1) + x2) (hs h2 (hR h2 a0 56)).2 ∧ Q (hI h2 (hR h2 a0 56) ((30 * x1) + x2).toNatClampNeg) h2) ∧ (¬ (hI h2 a0 19) ≤ 0 → Q 0 h2))) [.ref a0, .int x1, .int x2] h1) ∧ (r1 = 0 → Q (-100001) h1))) [.int x1] h) : AW w mX10_read 0 0 (rI Q) 0 0 0 [some (.ref a0), some (.int x1), some (.int x2)] [] h := by
  refine aw_iload_n 1 dX10_read_0 rfl rfl ?_
  refine aw_callS (stk := []) [.int x1] 4 dX10_read_1 rfl mv_X10_358 ⟨by decide, by decide⟩ rfl rfl (by simp [Value.category]) (by decide) H ?_
  rintro _ h1 ⟨r1, rfl, H⟩
  refine aw_if_ne 10 7 dX10_read_4 rfl (by decide) (fun c1 => ?_) (fun c1 => ?_)
  · replace H := H.1 c1
    refine aw_aload_n 11 dX10_read_10 rfl rfl ?_
    refine aw_iload_n 12 dX10_read_11 rfl rfl ?_
    refine aw_iload_n 13 dX10_read_12 rfl rfl ?_
    obtain ⟨g2, H⟩ := H
    refine aw_callV (stk := []) (ci := 10) [.int x1, .int x2] 16 dX10_read_13 rfl mv_X10_364 ⟨by decide, by decide⟩ g2 (by intro r hr; cases hr; rfl) rfl rfl (by simp [Value.category]) (by decide) H ?_
    rintro _ h2 ⟨rfl, H⟩
    refine aw_aload_n 17 dX10_read_16 rfl rfl ?_
    obtain ⟨g3, H⟩ := H
    refine aw_getI 20 dX10_read_17 rfl fl_X10_361 (by decide) g3 ?_
    refine aw_if_le 27 23 dX10_read_20 rfl (by decide) (fun c4 => ?_) (fun c4 => ?_)
    · replace H := H.1 c4
      refine aw_aload_n 28 dX10_read_27 rfl rfl ?_
      obtain ⟨g5, H⟩ := H
      refine aw_getR 31 dX10_read_28 rfl fl_X10_120 ir_10_56 g3 rfl g5 ?_
      refine aw_bipush (v := 30) 33 dX10_read_31 rfl (by decide) ?_
      refine aw_iload_n 34 dX10_read_33 rfl rfl ?_
      refine aw_imul 35 dX10_read_34 rfl ?_
      refine aw_iload_n 36 dX10_read_35 rfl rfl ?_
      refine aw_iadd 37 dX10_read_36 rfl ?_
      obtain ⟨g6, H⟩ := H
      obtain ⟨g7, H⟩ := H
      refine aw_iald 38 dX10_read_37 rfl (Or.inl (shp g6)) g7 ?_
      exact aw_ireturn dX10_read_38 rfl (by decide) (by decide) ⟨_, rfl, H⟩
    · replace H := H.2 c4
      refine aw_iconst (v := 0) 24 dX10_read_23 rfl (by decide) ?_
      refine aw_goto 38 dX10_read_24 (by decide) ?_
      exact aw_ireturn dX10_read_38 rfl (by decide) (by decide) ⟨_, rfl, H⟩
  · replace H := H.2 c1
    refine aw_ldc 9 dX10_read_7 rfl kc_X10_194 ?_
    exact aw_ireturn dX10_read_9 rfl (by decide) (by decide) ⟨_, rfl, H⟩
theorem eX10_read {w : Wd} {Q : Int32 → Hp → Prop} {h : Hp} {a0 : Nat} {x1 : Int32} {x2 : Int32} (H : AW w mX10_read 0 0 (rI Q) 0 0 0 [some (.ref a0), some (.int x1), some (.int x2)] [] h) : AC w mX10_read 0 0 (rI Q) [.ref a0, .int x1, .int x2] h := AC.ofL (by decide) (by simp [enl, Value.category]) (by simp [leL, enl, Value.category]) H
set_option maxHeartbeats 4000000 in
set_option maxRecDepth 100000 in
theorem sX10_spell_0 {w : Wd} {Q : Int32 → Hp → Prop} {h : Hp} {a0 : Nat} {x1 : Int32} {x2 : Int32} {x3 : Int32} (H : AC w mX10_isSlot 0 0 (rI fun r1 h1 => ((r1 = 0 → Q (-100001) h1) ∧ (¬ r1 = 0 → AC w mX10_isSlot 0 0 (rI fun r2 h2 => ((¬ r2 = 0 → (hs h2 a0).1 = 30 ∧ hR h2 a0 54 ≠ 0 ∧ (hs h2 (hR h2 a0 54)).1 = 1 ∧ vp_in x1 (hs h2 (hR h2 a0 54)).2 ∧ ((¬ (hI h2 (hR h2 a0 54) x1.toNatClampNeg) = 0 → (((hI h2 (hR h2 a0 54) x1.toNatClampNeg) = 1 → vp_in x2 (hs h2 (hR h2 a0 54)).2 ∧ ((¬ (hI h2 (hR h2 a0 54) x2.toNatClampNeg) = 0 → (((hI h2 (hR h2 a0 54) x2.toNatClampNeg) = 3 → ∀ h3, h3 = sI h2 a0 19 0 → (((hI h3 a0 19) ≤ 0 → AW w mX10_spell 0 0 (rI Q) 0 0 88 [some (.ref a0), some (.int x1), some (.int x2), some (.int x3), some (.int 0)] [] h3) ∧ (¬ (hI h3 a0 19) ≤ 0 → Q 0 h3))) ∧ (¬ (hI h2 (hR h2 a0 54) x2.toNatClampNeg) = 3 → ∀ h4, h4 = sI h2 a0 19 2 → (((hI h4 a0 19) ≤ 0 → AW w mX10_spell 0 0 (rI Q) 0 0 88 [some (.ref a0), some (.int x1), some (.int x2), some (.int x3), some (.int 0)] [] h4) ∧ (¬ (hI h4 a0 19) ≤ 0 → Q 0 h4))))) ∧ ((hI h2 (hR h2 a0 54) x2.toNatClampNeg) = 0 → ∀ h5, h5 = sI h2 a0 19 1 → (((hI h5 a0 19) ≤ 0 → AW w mX10_spell 0 0 (rI Q) 0 0 88 [some (.ref a0), some (.int x1), some (.int x2), some (.int x3), some (.int 0)] [] h5) ∧ (¬ (hI h5 a0 19) ≤ 0 → Q 0 h5))))) ∧ (¬ (hI h2 (hR h2 a0 54) x1.toNatClampNeg) = 1 → ∀ h6, h6 = sI h2 a0 19 2 → (((hI h6 a0 19) ≤ 0 → AW w mX10_spell 0 0 (rI Q) 0 0 88 [some (.ref a0), some (.int x1), some (.int x2), some (.int x3), some (.int 0)] [] h6) ∧ (¬ (hI h6 a0 19) ≤ 0 → Q 0 h6))))) ∧ ((hI h2 (hR h2 a0 54) x1.toNatClampNeg) = 0 → ∀ h7, h7 = sI h2 a0 19 1 → (((hI h7 a0 19) ≤ 0 → AW w mX10_spell 0 0 (rI Q) 0 0 88 [some (.ref a0), some (.int x1), some (.int x2), some (.int x3), some (.int 0)] [] h7) ∧ (¬ (hI h7 a0 19) ≤ 0 → Q 0 h7))))) ∧ (r2 = 0 → Q (-100001) h2))) [.int x2] h1))) [.int x1] h) : AW w mX10_spell 0 0 (rI Q) 0 0 0 [some (.ref a0), some (.int x1), some (.int x2), some (.int x3), none] [] h := by
  refine aw_iload_n 1 dX10_spell_0 rfl rfl ?_
  refine aw_callS (stk := []) [.int x1] 4 dX10_spell_1 rfl mv_X10_358 ⟨by decide, by decide⟩ rfl rfl (by simp [Value.category]) (by decide) H ?_
  rintro _ h1 ⟨r1, rfl, H⟩
  refine aw_if_eq 14 7 dX10_spell_4 rfl (by decide) (fun c1 => ?_) (fun c1 => ?_)
  · replace H := H.1 c1
    refine aw_ldc 16 dX10_spell_14 rfl kc_X10_194 ?_
    exact aw_ireturn dX10_spell_16 rfl (by decide) (by decide) ⟨_, rfl, H⟩
  · replace H := H.2 c1
    refine aw_iload_n 8 dX10_spell_7 rfl rfl ?_
    refine aw_callS (stk := []) [.int x2] 11 dX10_spell_8 rfl mv_X10_358 ⟨by decide, by decide⟩ rfl rfl (by simp [Value.category]) (by decide) H ?_
    rintro _ h2 ⟨r2, rfl, H⟩
    refine aw_if_ne 17 14 dX10_spell_11 rfl (by decide) (fun c2 => ?_) (fun c2 => ?_)
    · replace H := H.1 c2
      refine aw_aload_n 18 dX10_spell_17 rfl rfl ?_
      refine aw_aload_n 19 dX10_spell_18 rfl rfl ?_
      obtain ⟨g3, H⟩ := H
      obtain ⟨g4, H⟩ := H
      refine aw_getR 22 dX10_spell_19 rfl fl_X10_114 ir_10_54 g3 rfl g4 ?_
      refine aw_iload_n 23 dX10_spell_22 rfl rfl ?_
      obtain ⟨g5, H⟩ := H
      obtain ⟨g6, H⟩ := H
      refine aw_iald 24 dX10_spell_23 rfl (Or.inl (shp g5)) g6 ?_
      refine aw_if_ne 31 27 dX10_spell_24 rfl (by decide) (fun c7 => ?_) (fun c7 => ?_)
      · replace H := H.1 c7
        refine aw_aload_n 32 dX10_spell_31 rfl rfl ?_
        refine aw_getR 35 dX10_spell_32 rfl fl_X10_114 ir_10_54 g3 rfl g4 ?_
        refine aw_iload_n 36 dX10_spell_35 rfl rfl ?_
        refine aw_iald 37 dX10_spell_36 rfl (Or.inl (shp g5)) g6 ?_
        refine aw_iconst (v := 1) 38 dX10_spell_37 rfl (by decide) ?_
        refine aw_icmp_eq 45 41 dX10_spell_38 rfl (by decide) (fun c8 => ?_) (fun c8 => ?_)
        · replace H := H.1 c8
          refine aw_aload_n 46 dX10_spell_45 rfl rfl ?_
          refine aw_getR 49 dX10_spell_46 rfl fl_X10_114 ir_10_54 g3 rfl g4 ?_
          refine aw_iload_n 50 dX10_spell_49 rfl rfl ?_
          obtain ⟨g9, H⟩ := H
          refine aw_iald 51 dX10_spell_50 rfl (Or.inl (shp g5)) g9 ?_
          refine aw_if_ne 58 54 dX10_spell_51 rfl (by decide) (fun c10 => ?_) (fun c10 => ?_)
          · replace H := H.1 c10
            refine aw_aload_n 59 dX10_spell_58 rfl rfl ?_
            refine aw_getR 62 dX10_spell_59 rfl fl_X10_114 ir_10_54 g3 rfl g4 ?_
            refine aw_iload_n 63 dX10_spell_62 rfl rfl ?_
            refine aw_iald 64 dX10_spell_63 rfl (Or.inl (shp g5)) g9 ?_
            refine aw_iconst (v := 3) 65 dX10_spell_64 rfl (by decide) ?_
            refine aw_icmp_eq 72 68 dX10_spell_65 rfl (by decide) (fun c11 => ?_) (fun c11 => ?_)
            · replace H := H.1 c11
              refine aw_iconst (v := 0) 73 dX10_spell_72 rfl (by decide) ?_
              refine aw_putI 76 dX10_spell_73 rfl fl_X10_361 (by decide) g3 nf_10_19 ?_
              replace H := H _ rfl
              refine aw_aload_n 77 dX10_spell_76 rfl rfl ?_
              refine aw_getI 80 dX10_spell_77 rfl fl_X10_361 (by decide) g3 ?_
              refine aw_if_le 85 83 dX10_spell_80 rfl (by decide) (fun c12 => ?_) (fun c12 => ?_)
              · replace H := H.1 c12
                refine aw_iconst (v := 0) 86 dX10_spell_85 rfl (by decide) ?_
                refine aw_istore (loc' := [some (.ref a0), some (.int x1), some (.int x2), some (.int x3), some (.int 0)]) 88 dX10_spell_86 rfl (by decide) rfl ?_
                exact H
              · replace H := H.2 c12
                refine aw_iconst (v := 0) 84 dX10_spell_83 rfl (by decide) ?_
                exact aw_ireturn dX10_spell_84 rfl (by decide) (by decide) ⟨_, rfl, H⟩
            · replace H := H.2 c11
              refine aw_iconst (v := 2) 69 dX10_spell_68 rfl (by decide) ?_
              refine aw_goto 73 dX10_spell_69 (by decide) ?_
              refine aw_putI 76 dX10_spell_73 rfl fl_X10_361 (by decide) g3 nf_10_19 ?_
              replace H := H _ rfl
              refine aw_aload_n 77 dX10_spell_76 rfl rfl ?_
              refine aw_getI 80 dX10_spell_77 rfl fl_X10_361 (by decide) g3 ?_
              refine aw_if_le 85 83 dX10_spell_80 rfl (by decide) (fun c13 => ?_) (fun c13 => ?_)
              · replace H := H.1 c13
                refine aw_iconst (v := 0) 86 dX10_spell_85 rfl (by decide) ?_
                refine aw_istore (loc' := [some (.ref a0), some (.int x1), some (.int x2), some (.int x3), some (.int 0)]) 88 dX10_spell_86 rfl (by decide) rfl ?_
                exact H
              · replace H := H.2 c13
                refine aw_iconst (v := 0) 84 dX10_spell_83 rfl (by decide) ?_
                exact aw_ireturn dX10_spell_84 rfl (by decide) (by decide) ⟨_, rfl, H⟩
          · replace H := H.2 c10
            refine aw_iconst (v := 1) 55 dX10_spell_54 rfl (by decide) ?_
            refine aw_goto 73 dX10_spell_55 (by decide) ?_
            refine aw_putI 76 dX10_spell_73 rfl fl_X10_361 (by decide) g3 nf_10_19 ?_
            replace H := H _ rfl
            refine aw_aload_n 77 dX10_spell_76 rfl rfl ?_
            refine aw_getI 80 dX10_spell_77 rfl fl_X10_361 (by decide) g3 ?_
            refine aw_if_le 85 83 dX10_spell_80 rfl (by decide) (fun c14 => ?_) (fun c14 => ?_)
            · replace H := H.1 c14
              refine aw_iconst (v := 0) 86 dX10_spell_85 rfl (by decide) ?_
              refine aw_istore (loc' := [some (.ref a0), some (.int x1), some (.int x2), some (.int x3), some (.int 0)]) 88 dX10_spell_86 rfl (by decide) rfl ?_
              exact H
            · replace H := H.2 c14
              refine aw_iconst (v := 0) 84 dX10_spell_83 rfl (by decide) ?_
              exact aw_ireturn dX10_spell_84 rfl (by decide) (by decide) ⟨_, rfl, H⟩
        · replace H := H.2 c8
          refine aw_iconst (v := 2) 42 dX10_spell_41 rfl (by decide) ?_
          refine aw_goto 73 dX10_spell_42 (by decide) ?_
          refine aw_putI 76 dX10_spell_73 rfl fl_X10_361 (by decide) g3 nf_10_19 ?_
          replace H := H _ rfl
          refine aw_aload_n 77 dX10_spell_76 rfl rfl ?_
          refine aw_getI 80 dX10_spell_77 rfl fl_X10_361 (by decide) g3 ?_
          refine aw_if_le 85 83 dX10_spell_80 rfl (by decide) (fun c15 => ?_) (fun c15 => ?_)
          · replace H := H.1 c15
            refine aw_iconst (v := 0) 86 dX10_spell_85 rfl (by decide) ?_
            refine aw_istore (loc' := [some (.ref a0), some (.int x1), some (.int x2), some (.int x3), some (.int 0)]) 88 dX10_spell_86 rfl (by decide) rfl ?_
            exact H
          · replace H := H.2 c15
            refine aw_iconst (v := 0) 84 dX10_spell_83 rfl (by decide) ?_
            exact aw_ireturn dX10_spell_84 rfl (by decide) (by decide) ⟨_, rfl, H⟩
      · replace H := H.2 c7
        refine aw_iconst (v := 1) 28 dX10_spell_27 rfl (by decide) ?_
        refine aw_goto 73 dX10_spell_28 (by decide) ?_
        refine aw_putI 76 dX10_spell_73 rfl fl_X10_361 (by decide) g3 nf_10_19 ?_
        replace H := H _ rfl
        refine aw_aload_n 77 dX10_spell_76 rfl rfl ?_
        refine aw_getI 80 dX10_spell_77 rfl fl_X10_361 (by decide) g3 ?_
        refine aw_if_le 85 83 dX10_spell_80 rfl (by decide) (fun c16 => ?_) (fun c16 => ?_)
        · replace H := H.1 c16
          refine aw_iconst (v := 0) 86 dX10_spell_85 rfl (by decide) ?_
          refine aw_istore (loc' := [some (.ref a0), some (.int x1), some (.int x2), some (.int x3), some (.int 0)]) 88 dX10_spell_86 rfl (by decide) rfl ?_
          exact H
        · replace H := H.2 c16
          refine aw_iconst (v := 0) 84 dX10_spell_83 rfl (by decide) ?_
          exact aw_ireturn dX10_spell_84 rfl (by decide) (by decide) ⟨_, rfl, H⟩
    · replace H := H.2 c2
      refine aw_ldc 16 dX10_spell_14 rfl kc_X10_194 ?_
      exact aw_ireturn dX10_spell_16 rfl (by decide) (by decide) ⟨_, rfl, H⟩
theorem eX10_spell {w : Wd} {Q : Int32 → Hp → Prop} {h : Hp} {a0 : Nat} {x1 : Int32} {x2 : Int32} {x3 : Int32} (H : AW w mX10_spell 0 0 (rI Q) 0 0 0 [some (.ref a0), some (.int x1), some (.int x2), some (.int x3), none] [] h) : AC w mX10_spell 0 0 (rI Q) [.ref a0, .int x1, .int x2, .int x3] h := AC.ofL (by decide) (by simp [enl, Value.category]) (by simp [leL, enl, Value.category]) H
set_option maxHeartbeats 4000000 in
set_option maxRecDepth 100000 in
theorem sX10_spell_88 {w : Wd} {Q : Int32 → Hp → Prop} {h : Hp} {a0 : Nat} {x1 : Int32} {x2 : Int32} {x3 : Int32} {x4 : Int32} (H : (hs h a0).1 = 30 ∧ hR h a0 55 ≠ 0 ∧ (hs h (hR h a0 55)).1 = 1 ∧ vp_in x1 (hs h (hR h a0 55)).2 ∧ (((hI h (hR h a0 55) x1.toNatClampNeg) ≤ x4 → Q (hI h (hR h a0 55) x1.toNatClampNeg) h) ∧ (¬ (hI h (hR h a0 55) x1.toNatClampNeg) ≤ x4 → vp_in x2 (hs h (hR h a0 55)).2 ∧ AC w mX10_in 0 0 (rI fun r1 h1 => ((r1 = 0 → (hs h1 a0).1 = 30 ∧ ∀ h2, h2 = sI h1 a0 19 3 → Q 0 h2) ∧ (¬ r1 = 0 → ((0 ≤ x3 → (hs h1 a0).1 = 30 ∧ hR h1 a0 56 ≠ 0 ∧ (hs h1 (hR h1 a0 56)).1 = 1 ∧ vp_in ((30 * x1) + x4) (hs h1 (hR h1 a0 56)).2 ∧ vp_in (((30 * x2) + x3) + x4) (hs h1 (hR h1 a0 56)).2 ∧ ∀ h3, h3 = sI h1 (hR h1 a0 56) (((30 * x2) + x3) + x4).toNatClampNeg (hI h1 (hR h1 a0 56) ((30 * x1) + x4).toNatClampNeg) → AW w mX10_spell 0 0 (rI Q) 0 0 88 [some (.ref a0), some (.int x1), some (.int x2), some (.int x3), some (.int (x4 + 1))] [] h3) ∧ (¬ 0 ≤ x3 → (hs h1 a0).1 = 30 ∧ ∀ h4, h4 = sI h1 a0 19 3 → Q 0 h4))))) [.long (x3.toInt64 + x4.toInt64), .long 0, .long (((hI h (hR h a0 55) x2.toNatClampNeg) - 1).toInt64)] h))) : AW w mX10_spell 0 0 (rI Q) 0 0 88 [some (.ref a0), some (.int x1), some (.int x2), some (.int x3), some (.int x4)] [] h := by
  refine aw_iload 90 dX10_spell_88 rfl rfl ?_
  refine aw_aload_n 91 dX10_spell_90 rfl rfl ?_
  obtain ⟨g1, H⟩ := H
  obtain ⟨g2, H⟩ := H
  refine aw_getR 94 dX10_spell_91 rfl fl_X10_117 ir_10_55 g1 rfl g2 ?_
  refine aw_iload_n 95 dX10_spell_94 rfl rfl ?_
  obtain ⟨g3, H⟩ := H
  obtain ⟨g4, H⟩ := H
  refine aw_iald 96 dX10_spell_95 rfl (Or.inl (shp g3)) g4 ?_
  refine aw_icmp_ge 164 99 dX10_spell_96 rfl (by decide) (fun c5 => ?_) (fun c5 => ?_)
  · replace H := H.1 c5
    refine aw_aload_n 165 dX10_spell_164 rfl rfl ?_
    refine aw_getR 168 dX10_spell_165 rfl fl_X10_117 ir_10_55 g1 rfl g2 ?_
    refine aw_iload_n 169 dX10_spell_168 rfl rfl ?_
    refine aw_iald 170 dX10_spell_169 rfl (Or.inl (shp g3)) g4 ?_
    exact aw_ireturn dX10_spell_170 rfl (by decide) (by decide) ⟨_, rfl, H⟩
  · replace H := H.2 c5
    refine aw_iload_n 100 dX10_spell_99 rfl rfl ?_
    refine aw_i2l 101 dX10_spell_100 rfl ?_
    refine aw_iload 103 dX10_spell_101 rfl rfl ?_
    refine aw_i2l 104 dX10_spell_103 rfl ?_
    refine aw_ladd 105 dX10_spell_104 rfl ?_
    refine aw_lconst (v := 0) 106 dX10_spell_105 rfl (by decide) ?_
    refine aw_aload_n 107 dX10_spell_106 rfl rfl ?_
    refine aw_getR 110 dX10_spell_107 rfl fl_X10_117 ir_10_55 g1 rfl g2 ?_
    refine aw_iload_n 111 dX10_spell_110 rfl rfl ?_
    obtain ⟨g6, H⟩ := H
    refine aw_iald 112 dX10_spell_111 rfl (Or.inl (shp g3)) g6 ?_
    refine aw_iconst (v := 1) 113 dX10_spell_112 rfl (by decide) ?_
    refine aw_isub 114 dX10_spell_113 rfl ?_
    refine aw_i2l 115 dX10_spell_114 rfl ?_
    refine aw_callS (stk := []) [.long (x3.toInt64 + x4.toInt64), .long 0, .long (((hI h (hR h a0 55) x2.toNatClampNeg) - 1).toInt64)] 118 dX10_spell_115 rfl mv_X10_131 ⟨by decide, by decide⟩ rfl rfl (by simp [Value.category]) (by decide) H ?_
    rintro _ h1 ⟨r1, rfl, H⟩
    refine aw_if_eq 125 121 dX10_spell_118 rfl (by decide) (fun c7 => ?_) (fun c7 => ?_)
    · replace H := H.1 c7
      refine aw_aload_n 126 dX10_spell_125 rfl rfl ?_
      refine aw_iconst (v := 3) 127 dX10_spell_126 rfl (by decide) ?_
      obtain ⟨g8, H⟩ := H
      refine aw_putI 130 dX10_spell_127 rfl fl_X10_361 (by decide) g8 nf_10_19 ?_
      replace H := H _ rfl
      refine aw_iconst (v := 0) 131 dX10_spell_130 rfl (by decide) ?_
      exact aw_ireturn dX10_spell_131 rfl (by decide) (by decide) ⟨_, rfl, H⟩
    · replace H := H.2 c7
      refine aw_iload_n 122 dX10_spell_121 rfl rfl ?_
      refine aw_if_ge 132 125 dX10_spell_122 rfl (by decide) (fun c9 => ?_) (fun c9 => ?_)
      · replace H := H.1 c9
        refine aw_aload_n 133 dX10_spell_132 rfl rfl ?_
        obtain ⟨g10, H⟩ := H
        obtain ⟨g11, H⟩ := H
        refine aw_getR 136 dX10_spell_133 rfl fl_X10_120 ir_10_56 g10 rfl g11 ?_
        refine aw_bipush (v := 30) 138 dX10_spell_136 rfl (by decide) ?_
        refine aw_iload_n 139 dX10_spell_138 rfl rfl ?_
        refine aw_imul 140 dX10_spell_139 rfl ?_
        refine aw_iload_n 141 dX10_spell_140 rfl rfl ?_
        refine aw_iadd 142 dX10_spell_141 rfl ?_
        refine aw_iload 144 dX10_spell_142 rfl rfl ?_
        refine aw_iadd 145 dX10_spell_144 rfl ?_
        refine aw_aload_n 146 dX10_spell_145 rfl rfl ?_
        refine aw_getR 149 dX10_spell_146 rfl fl_X10_120 ir_10_56 g10 rfl g11 ?_
        refine aw_bipush (v := 30) 151 dX10_spell_149 rfl (by decide) ?_
        refine aw_iload_n 152 dX10_spell_151 rfl rfl ?_
        refine aw_imul 153 dX10_spell_152 rfl ?_
        refine aw_iload 155 dX10_spell_153 rfl rfl ?_
        refine aw_iadd 156 dX10_spell_155 rfl ?_
        obtain ⟨g12, H⟩ := H
        obtain ⟨g13, H⟩ := H
        refine aw_iald 157 dX10_spell_156 rfl (Or.inl (shp g12)) g13 ?_
        obtain ⟨g14, H⟩ := H
        refine aw_iast 158 dX10_spell_157 rfl (shp g12) g14 ?_
        replace H := H _ rfl
        refine aw_iinc (y := 1) (loc' := [some (.ref a0), some (.int x1), some (.int x2), some (.int x3), some (.int (x4 + 1))]) 161 dX10_spell_158 rfl (by decide) rfl (by decide) rfl ?_
        refine aw_goto 88 dX10_spell_161 (by decide) ?_
        exact H
      · replace H := H.2 c9
        refine aw_aload_n 126 dX10_spell_125 rfl rfl ?_
        refine aw_iconst (v := 3) 127 dX10_spell_126 rfl (by decide) ?_
        obtain ⟨g15, H⟩ := H
        refine aw_putI 130 dX10_spell_127 rfl fl_X10_361 (by decide) g15 nf_10_19 ?_
        replace H := H _ rfl
        refine aw_iconst (v := 0) 131 dX10_spell_130 rfl (by decide) ?_
        exact aw_ireturn dX10_spell_131 rfl (by decide) (by decide) ⟨_, rfl, H⟩
set_option maxHeartbeats 4000000 in
set_option maxRecDepth 100000 in
theorem sX10_rate_0 {w : Wd} {Q : Int32 → Hp → Prop} {h : Hp} {a0 : Nat} {x1 : Int32} (H : AC w mX10_isSlot 0 0 (rI fun r1 h1 => ((¬ r1 = 0 → (hs h1 a0).1 = 30 ∧ hR h1 a0 54 ≠ 0 ∧ (hs h1 (hR h1 a0 54)).1 = 1 ∧ vp_in x1 (hs h1 (hR h1 a0 54)).2 ∧ ((¬ (hI h1 (hR h1 a0 54) x1.toNatClampNeg) = 0 → (((hI h1 (hR h1 a0 54) x1.toNatClampNeg) = 2 → hR h1 a0 56 ≠ 0 ∧ (hs h1 (hR h1 a0 56)).1 = 1 ∧ vp_in ((30 * x1) + 1) (hs h1 (hR h1 a0 56)).2 ∧ ((¬ (hI h1 (hR h1 a0 56) ((30 * x1) + 1).toNatClampNeg) = 0 → AW w mX10_rate 0 0 (rI Q) 0 0 58 [some (.ref a0), some (.int x1)] [.int 0, .ref a0] h1) ∧ ((hI h1 (hR h1 a0 56) ((30 * x1) + 1).toNatClampNeg) = 0 → AW w mX10_rate 0 0 (rI Q) 0 0 58 [some (.ref a0), some (.int x1)] [.int 6, .ref a0] h1))) ∧ (¬ (hI h1 (hR h1 a0 54) x1.toNatClampNeg) = 2 → AW w mX10_rate 0 0 (rI Q) 0 0 58 [some (.ref a0), some (.int x1)] [.int 2, .ref a0] h1))) ∧ ((hI h1 (hR h1 a0 54) x1.toNatClampNeg) = 0 → AW w mX10_rate 0 0 (rI Q) 0 0 58 [some (.ref a0), some (.int x1)] [.int 1, .ref a0] h1))) ∧ (r1 = 0 → Q (-100001) h1))) [.int x1] h) : AW w mX10_rate 0 0 (rI Q) 0 0 0 [some (.ref a0), some (.int x1)] [] h := by
  refine aw_iload_n 1 dX10_rate_0 rfl rfl ?_
  refine aw_callS (stk := []) [.int x1] 4 dX10_rate_1 rfl mv_X10_358 ⟨by decide, by decide⟩ rfl rfl (by simp [Value.category]) (by decide) H ?_
  rintro _ h1 ⟨r1, rfl, H⟩
  refine aw_if_ne 10 7 dX10_rate_4 rfl (by decide) (fun c1 => ?_) (fun c1 => ?_)
  · replace H := H.1 c1
    refine aw_aload_n 11 dX10_rate_10 rfl rfl ?_
    refine aw_aload_n 12 dX10_rate_11 rfl rfl ?_
    obtain ⟨g2, H⟩ := H
    obtain ⟨g3, H⟩ := H
    refine aw_getR 15 dX10_rate_12 rfl fl_X10_114 ir_10_54 g2 rfl g3 ?_
    refine aw_iload_n 16 dX10_rate_15 rfl rfl ?_
    obtain ⟨g4, H⟩ := H
    obtain ⟨g5, H⟩ := H
    refine aw_iald 17 dX10_rate_16 rfl (Or.inl (shp g4)) g5 ?_
    refine aw_if_ne 24 20 dX10_rate_17 rfl (by decide) (fun c6 => ?_) (fun c6 => ?_)
    · replace H := H.1 c6
      refine aw_aload_n 25 dX10_rate_24 rfl rfl ?_
      refine aw_getR 28 dX10_rate_25 rfl fl_X10_114 ir_10_54 g2 rfl g3 ?_
      refine aw_iload_n 29 dX10_rate_28 rfl rfl ?_
      refine aw_iald 30 dX10_rate_29 rfl (Or.inl (shp g4)) g5 ?_
      refine aw_iconst (v := 2) 31 dX10_rate_30 rfl (by decide) ?_
      refine aw_icmp_eq 38 34 dX10_rate_31 rfl (by decide) (fun c7 => ?_) (fun c7 => ?_)
      · replace H := H.1 c7
        refine aw_aload_n 39 dX10_rate_38 rfl rfl ?_
        obtain ⟨g8, H⟩ := H
        refine aw_getR 42 dX10_rate_39 rfl fl_X10_120 ir_10_56 g2 rfl g8 ?_
        refine aw_bipush (v := 30) 44 dX10_rate_42 rfl (by decide) ?_
        refine aw_iload_n 45 dX10_rate_44 rfl rfl ?_
        refine aw_imul 46 dX10_rate_45 rfl ?_
        refine aw_iconst (v := 1) 47 dX10_rate_46 rfl (by decide) ?_
        refine aw_iadd 48 dX10_rate_47 rfl ?_
        obtain ⟨g9, H⟩ := H
        obtain ⟨g10, H⟩ := H
        refine aw_iald 49 dX10_rate_48 rfl (Or.inl (shp g9)) g10 ?_
        refine aw_if_ne 57 52 dX10_rate_49 rfl (by decide) (fun c11 => ?_) (fun c11 => ?_)
        · replace H := H.1 c11
          refine aw_iconst (v := 0) 58 dX10_rate_57 rfl (by decide) ?_
          exact H
        · replace H := H.2 c11
          refine aw_bipush (v := 6) 54 dX10_rate_52 rfl (by decide) ?_
          refine aw_goto 58 dX10_rate_54 (by decide) ?_
          exact H
      · replace H := H.2 c7
        refine aw_iconst (v := 2) 35 dX10_rate_34 rfl (by decide) ?_
        refine aw_goto 58 dX10_rate_35 (by decide) ?_
        exact H
    · replace H := H.2 c6
      refine aw_iconst (v := 1) 21 dX10_rate_20 rfl (by decide) ?_
      refine aw_goto 58 dX10_rate_21 (by decide) ?_
      exact H
  · replace H := H.2 c1
    refine aw_ldc 9 dX10_rate_7 rfl kc_X10_194 ?_
    exact aw_ireturn dX10_rate_9 rfl (by decide) (by decide) ⟨_, rfl, H⟩
theorem eX10_rate {w : Wd} {Q : Int32 → Hp → Prop} {h : Hp} {a0 : Nat} {x1 : Int32} (H : AW w mX10_rate 0 0 (rI Q) 0 0 0 [some (.ref a0), some (.int x1)] [] h) : AC w mX10_rate 0 0 (rI Q) [.ref a0, .int x1] h := AC.ofL (by decide) (by simp [enl, Value.category]) (by simp [leL, enl, Value.category]) H
set_option maxHeartbeats 4000000 in
set_option maxRecDepth 100000 in
theorem sX10_rate_58 {w : Wd} {Q : Int32 → Hp → Prop} {h : Hp} {a0 : Nat} {x1 : Int32} {b0 : Nat} {y1 : Int32} (H : (hs h b0).1 = 30 ∧ ∀ h1, h1 = sI h b0 19 y1 → (hs h a0).1 = 30 ∧ (((hI h1 a0 19) ≤ 0 → hR h a0 56 ≠ 0 ∧ (hs h (hR h a0 56)).1 = 1 ∧ vp_in (30 * x1) (hs h (hR h a0 56)).2 ∧ vp_in ((30 * x1) + 1) (hs h (hR h a0 56)).2 ∧ ¬ (hI h1 (hR h a0 56) ((30 * x1) + 1).toNatClampNeg) = 0 ∧ Q ((100 * (hI h1 (hR h a0 56) (30 * x1).toNatClampNeg)) / (hI h1 (hR h a0 56) ((30 * x1) + 1).toNatClampNeg)) h1) ∧ (¬ (hI h1 a0 19) ≤ 0 → Q 0 h1))) : AW w mX10_rate 0 0 (rI Q) 0 0 58 [some (.ref a0), some (.int x1)] [.int y1, .ref b0] h := by
  obtain ⟨g1, H⟩ := H
  refine aw_putI 61 dX10_rate_58 rfl fl_X10_361 (by decide) g1 nf_10_19 ?_
  replace H := H _ rfl
  refine aw_aload_n 62 dX10_rate_61 rfl rfl ?_
  obtain ⟨g2, H⟩ := H
  refine aw_getI 65 dX10_rate_62 rfl fl_X10_361 (by decide) g2 ?_
  refine aw_if_le 72 68 dX10_rate_65 rfl (by decide) (fun c3 => ?_) (fun c3 => ?_)
  · replace H := H.1 c3
    refine aw_bipush (v := 100) 74 dX10_rate_72 rfl (by decide) ?_
    refine aw_aload_n 75 dX10_rate_74 rfl rfl ?_
    obtain ⟨g4, H⟩ := H
    refine aw_getR 78 dX10_rate_75 rfl fl_X10_120 ir_10_56 g2 rfl g4 ?_
    refine aw_bipush (v := 30) 80 dX10_rate_78 rfl (by decide) ?_
    refine aw_iload_n 81 dX10_rate_80 rfl rfl ?_
    refine aw_imul 82 dX10_rate_81 rfl ?_
    obtain ⟨g5, H⟩ := H
    obtain ⟨g6, H⟩ := H
    refine aw_iald 83 dX10_rate_82 rfl (Or.inl (shp g5)) g6 ?_
    refine aw_imul 84 dX10_rate_83 rfl ?_
    refine aw_aload_n 85 dX10_rate_84 rfl rfl ?_
    refine aw_getR 88 dX10_rate_85 rfl fl_X10_120 ir_10_56 g2 rfl g4 ?_
    refine aw_bipush (v := 30) 90 dX10_rate_88 rfl (by decide) ?_
    refine aw_iload_n 91 dX10_rate_90 rfl rfl ?_
    refine aw_imul 92 dX10_rate_91 rfl ?_
    refine aw_iconst (v := 1) 93 dX10_rate_92 rfl (by decide) ?_
    refine aw_iadd 94 dX10_rate_93 rfl ?_
    obtain ⟨g7, H⟩ := H
    refine aw_iald 95 dX10_rate_94 rfl (Or.inl (shp g5)) g7 ?_
    obtain ⟨g8, H⟩ := H
    refine aw_idiv 96 dX10_rate_95 rfl g8 ?_
    exact aw_ireturn dX10_rate_96 rfl (by decide) (by decide) ⟨_, rfl, H⟩
  · replace H := H.2 c3
    refine aw_iconst (v := 0) 69 dX10_rate_68 rfl (by decide) ?_
    refine aw_goto 96 dX10_rate_69 (by decide) ?_
    exact aw_ireturn dX10_rate_96 rfl (by decide) (by decide) ⟨_, rfl, H⟩
set_option maxHeartbeats 4000000 in
set_option maxRecDepth 100000 in
theorem sX10_code_0 {w : Wd} {Q : Int32 → Hp → Prop} {h : Hp} {a0 : Nat} (H : (hs h a0).1 = 30 ∧ Q (hI h a0 19) h) : AW w mX10_code 0 0 (rI Q) 0 0 0 [some (.ref a0)] [] h := by
  refine aw_aload_n 1 dX10_code_0 rfl rfl ?_
  obtain ⟨g1, H⟩ := H
  refine aw_getI 4 dX10_code_1 rfl fl_X10_361 (by decide) g1 ?_
  exact aw_ireturn dX10_code_4 rfl (by decide) (by decide) ⟨_, rfl, H⟩
theorem eX10_code {w : Wd} {Q : Int32 → Hp → Prop} {h : Hp} {a0 : Nat} (H : AW w mX10_code 0 0 (rI Q) 0 0 0 [some (.ref a0)] [] h) : AC w mX10_code 0 0 (rI Q) [.ref a0] h := AC.ofL (by decide) (by simp [enl, Value.category]) (by simp [leL, enl, Value.category]) H
