set_option maxHeartbeats 4000000 in
set_option maxRecDepth 100000 in
theorem sX10_broken_0 {w : Wd} {Q : Int32 → Hp → Prop} {h : Hp} {a0 : Nat} (H : (hs h a0).1 = 30 ∧ AC w mX10_best 0 0 (rI fun r1 h1 => ((¬ r1 = 0 → AW w mX10_broken 0 0 (rI Q) 0 0 13 [some (.ref a0), some (.int 0), some (.int 0), none, none, none, none, none] [] h1) ∧ (r1 = 0 → Q 0 h1))) [.ref a0] h) : AW w mX10_broken 0 0 (rI Q) 0 0 0 [some (.ref a0), none, none, none, none, none, none, none] [] h := by
  refine aw_aload_n 1 dX10_broken_0 rfl rfl ?_
  obtain ⟨g1, H⟩ := H
  refine aw_callV (stk := []) (ci := 10) [] 4 dX10_broken_1 rfl mv_X10_294 ⟨by decide, by decide⟩ g1 (by intro r hr; cases hr; rfl) rfl rfl (by simp [Value.category]) (by decide) H ?_
  rintro _ h1 ⟨r1, rfl, H⟩
  refine aw_if_ne 9 7 dX10_broken_4 rfl (by decide) (fun c2 => ?_) (fun c2 => ?_)
  · replace H := H.1 c2
    refine aw_iconst (v := 0) 10 dX10_broken_9 rfl (by decide) ?_
    refine aw_istore_n (loc' := [some (.ref a0), some (.int 0), none, none, none, none, none, none]) 11 dX10_broken_10 rfl (by decide) rfl ?_
    refine aw_iconst (v := 0) 12 dX10_broken_11 rfl (by decide) ?_
    refine aw_istore_n (loc' := [some (.ref a0), some (.int 0), some (.int 0), none, none, none, none, none]) 13 dX10_broken_12 rfl (by decide) rfl ?_
    exact H
  · replace H := H.2 c2
    refine aw_iconst (v := 0) 8 dX10_broken_7 rfl (by decide) ?_
    exact aw_ireturn dX10_broken_8 rfl (by decide) (by decide) ⟨_, rfl, H⟩
theorem eX10_broken {w : Wd} {Q : Int32 → Hp → Prop} {h : Hp} {a0 : Nat} (H : AW w mX10_broken 0 0 (rI Q) 0 0 0 [some (.ref a0), none, none, none, none, none, none, none] [] h) : AC w mX10_broken 0 0 (rI Q) [.ref a0] h := AC.ofL (by decide) (by simp [enl, Value.category]) (by simp [leL, enl, Value.category]) H
set_option maxHeartbeats 4000000 in
set_option maxRecDepth 100000 in
theorem sX10_broken_13 {w : Wd} {Q : Int32 → Hp → Prop} {h : Hp} {a0 : Nat} {x1 : Int32} {x2 : Int32} (H : (hs h a0).1 = 30 ∧ (((hI h a0 45) ≤ x2 → Q x1 h) ∧ (¬ (hI h a0 45) ≤ x2 → hR h a0 42 ≠ 0 ∧ (hs h (hR h a0 42)).1 = 1 ∧ vp_in x2 (hs h (hR h a0 42)).2 ∧ hR h a0 43 ≠ 0 ∧ (hs h (hR h a0 43)).1 = 1 ∧ vp_in x2 (hs h (hR h a0 43)).2 ∧ AW w mX10_broken 0 0 (rI Q) 0 0 39 [some (.ref a0), some (.int x1), some (.int x2), some (.int (hI h (hR h a0 42) x2.toNatClampNeg)), some (.int 0), some (.int (hI h (hR h a0 43) x2.toNatClampNeg)), none, none] [] h))) : AW w mX10_broken 0 0 (rI Q) 0 0 13 [some (.ref a0), some (.int x1), some (.int x2), none, none, none, none, none] [] h := by
  refine aw_iload_n 14 dX10_broken_13 rfl rfl ?_
  refine aw_aload_n 15 dX10_broken_14 rfl rfl ?_
  obtain ⟨g1, H⟩ := H
  refine aw_getI 18 dX10_broken_15 rfl fl_X10_291 (by decide) g1 ?_
  refine aw_icmp_ge 161 21 dX10_broken_18 rfl (by decide) (fun c2 => ?_) (fun c2 => ?_)
  · replace H := H.1 c2
    refine aw_iload_n 162 dX10_broken_161 rfl rfl ?_
    exact aw_ireturn dX10_broken_162 rfl (by decide) (by decide) ⟨_, rfl, H⟩
  · replace H := H.2 c2
    refine aw_aload_n 22 dX10_broken_21 rfl rfl ?_
    obtain ⟨g3, H⟩ := H
    refine aw_getR 25 dX10_broken_22 rfl fl_X10_85 ir_10_42 g1 rfl g3 ?_
    refine aw_iload_n 26 dX10_broken_25 rfl rfl ?_
    obtain ⟨g4, H⟩ := H
    obtain ⟨g5, H⟩ := H
    refine aw_iald 27 dX10_broken_26 rfl (Or.inl (shp g4)) g5 ?_
    refine aw_istore_n (loc' := [some (.ref a0), some (.int x1), some (.int x2), some (.int (hI h (hR h a0 42) x2.toNatClampNeg)), none, none, none, none]) 28 dX10_broken_27 rfl (by decide) rfl ?_
    refine aw_iconst (v := 0) 29 dX10_broken_28 rfl (by decide) ?_
    refine aw_istore (loc' := [some (.ref a0), some (.int x1), some (.int x2), some (.int (hI h (hR h a0 42) x2.toNatClampNeg)), some (.int 0), none, none, none]) 31 dX10_broken_29 rfl (by decide) rfl ?_
    refine aw_aload_n 32 dX10_broken_31 rfl rfl ?_
    obtain ⟨g6, H⟩ := H
    refine aw_getR 35 dX10_broken_32 rfl fl_X10_88 ir_10_43 g1 rfl g6 ?_
    refine aw_iload_n 36 dX10_broken_35 rfl rfl ?_
    obtain ⟨g7, H⟩ := H
    obtain ⟨g8, H⟩ := H
    refine aw_iald 37 dX10_broken_36 rfl (Or.inl (shp g7)) g8 ?_
    refine aw_istore (loc' := [some (.ref a0), some (.int x1), some (.int x2), some (.int (hI h (hR h a0 42) x2.toNatClampNeg)), some (.int 0), some (.int (hI h (hR h a0 43) x2.toNatClampNeg)), none, none]) 39 dX10_broken_37 rfl (by decide) rfl ?_
    exact H
set_option maxHeartbeats 4000000 in
set_option maxRecDepth 100000 in
theorem sX10_broken_39 {w : Wd} {Q : Int32 → Hp → Prop} {h : Hp} {a0 : Nat} {x1 : Int32} {x2 : Int32} {x3 : Int32} {x4 : Int32} {x5 : Int32} (H : (hs h a0).1 = 30 ∧ hR h a0 43 ≠ 0 ∧ (hs h (hR h a0 43)).1 = 1 ∧ vp_in x2 (hs h (hR h a0 43)).2 ∧ AC w mX10_leftOf 0 0 (rI fun r1 h1 => ((((hI h (hR h a0 43) x2.toNatClampNeg) + r1) ≤ x5 → AW w mX10_broken 0 0 (rI Q) 0 0 142 [some (.ref a0), some (.int x1), some (.int x2), none, some (.int x4), none, none, none] [] h1) ∧ (¬ ((hI h (hR h a0 43) x2.toNatClampNeg) + r1) ≤ x5 → AC w mX10_rightOf 0 0 (rI fun r2 h2 => ((r2 ≤ 0 → AW w mX10_broken 0 0 (rI Q) 0 0 142 [some (.ref a0), some (.int x1), some (.int x2), none, some (.int x4), none, none, none] [] h2) ∧ (¬ r2 ≤ 0 → AW w mX10_broken 0 0 (rI Q) 0 0 65 [some (.ref a0), some (.int x1), some (.int x2), some (.int x3), some (.int x4), some (.int x5), some (.int 0), none] [] h2))) [.int x3] h1))) [.int x3] h) : AW w mX10_broken 0 0 (rI Q) 0 0 39 [some (.ref a0), some (.int x1), some (.int x2), some (.int x3), some (.int x4), some (.int x5), none, none] [] h := by
  refine aw_iload 41 dX10_broken_39 rfl rfl ?_
  refine aw_aload_n 42 dX10_broken_41 rfl rfl ?_
  obtain ⟨g1, H⟩ := H
  obtain ⟨g2, H⟩ := H
  refine aw_getR 45 dX10_broken_42 rfl fl_X10_88 ir_10_43 g1 rfl g2 ?_
  refine aw_iload_n 46 dX10_broken_45 rfl rfl ?_
  obtain ⟨g3, H⟩ := H
  obtain ⟨g4, H⟩ := H
  refine aw_iald 47 dX10_broken_46 rfl (Or.inl (shp g3)) g4 ?_
  refine aw_iload_n 48 dX10_broken_47 rfl rfl ?_
  refine aw_callS (stk := [.int (hI h (hR h a0 43) x2.toNatClampNeg), .int x5]) [.int x3] 51 dX10_broken_48 rfl mv_X10_254 ⟨by decide, by decide⟩ rfl rfl (by simp [Value.category]) (by decide) H ?_
  rintro _ h1 ⟨r1, rfl, H⟩
  refine aw_iadd 52 dX10_broken_51 rfl ?_
  refine aw_icmp_ge 142 55 dX10_broken_52 rfl (by decide) (fun c5 => ?_) (fun c5 => ?_)
  · replace H := H.1 c5
    exact aw_fgt (by simp [leL]) H
  · replace H := H.2 c5
    refine aw_iload_n 56 dX10_broken_55 rfl rfl ?_
    refine aw_callS (stk := []) [.int x3] 59 dX10_broken_56 rfl mv_X10_257 ⟨by decide, by decide⟩ rfl rfl (by simp [Value.category]) (by decide) H ?_
    rintro _ h2 ⟨r2, rfl, H⟩
    refine aw_if_le 142 62 dX10_broken_59 rfl (by decide) (fun c6 => ?_) (fun c6 => ?_)
    · replace H := H.1 c6
      exact aw_fgt (by simp [leL]) H
    · replace H := H.2 c6
      refine aw_iconst (v := 0) 63 dX10_broken_62 rfl (by decide) ?_
      refine aw_istore (loc' := [some (.ref a0), some (.int x1), some (.int x2), some (.int x3), some (.int x4), some (.int x5), some (.int 0), none]) 65 dX10_broken_63 rfl (by decide) rfl ?_
      exact H
set_option maxHeartbeats 4000000 in
set_option maxRecDepth 100000 in
theorem sX10_broken_65 {w : Wd} {Q : Int32 → Hp → Prop} {h : Hp} {a0 : Nat} {x1 : Int32} {x2 : Int32} {x3 : Int32} {x4 : Int32} {x5 : Int32} {x6 : Int32} (H : (hs h a0).1 = 30 ∧ hR h a0 6 ≠ 0 ∧ (hs h (hR h a0 6)).1 = 1 ∧ vp_in x5 (hs h (hR h a0 6)).2 ∧ (((hI h (hR h a0 6) x5.toNatClampNeg) ≤ x6 → AW w mX10_broken 0 0 (rI Q) 0 0 39 [some (.ref a0), some (.int x1), some (.int x2), some (.int x3), some (.int x4), some (.int (x5 + 1)), none, none] [] h) ∧ (¬ (hI h (hR h a0 6) x5.toNatClampNeg) ≤ x6 → hR h a0 17 ≠ 0 ∧ AC w mX10_kindOf 0 0 (rI fun r1 h1 => (hs h1 (hR h a0 17)).1 = 1 ∧ vp_in r1 (hs h1 (hR h a0 17)).2 ∧ ((¬ x4 = 0 → AW w mX10_broken 0 0 (rI Q) 0 0 65 [some (.ref a0), some (.int x1), some (.int x2), some (.int x3), some (.int 1), some (.int x5), some (.int (x6 + 1)), none] [] h1) ∧ (x4 = 0 → (((hI h1 (hR h a0 17) r1.toNatClampNeg) < 0 → AW w mX10_broken 0 0 (rI Q) 0 0 65 [some (.ref a0), some (.int x1), some (.int x2), some (.int x3), some (.int 0), some (.int x5), some (.int (x6 + 1)), none] [] h1) ∧ (¬ (hI h1 (hR h a0 17) r1.toNatClampNeg) < 0 → (hs h1 a0).1 = 30 ∧ hR h1 a0 44 ≠ 0 ∧ (hs h1 (hR h1 a0 44)).1 = 1 ∧ vp_in x2 (hs h1 (hR h1 a0 44)).2 ∧ AC w mX10_rightOf 0 0 (rI fun r2 h2 => (hs h2 a0).1 = 30 ∧ AC w mX10_hasWord 0 0 (rI fun r3 h3 => ((¬ r3 = 0 → AW w mX10_broken 0 0 (rI Q) 0 0 65 [some (.ref a0), some (.int x1), some (.int x2), some (.int x3), some (.int 0), some (.int x5), some (.int (x6 + 1)), none] [] h3) ∧ (r3 = 0 → AW w mX10_broken 0 0 (rI Q) 0 0 65 [some (.ref a0), some (.int x1), some (.int x2), some (.int x3), some (.int 1), some (.int x5), some (.int (x6 + 1)), none] [] h3))) [.ref a0, .int 1, .int (hI h1 (hR h1 a0 44) x2.toNatClampNeg), .int r2, .int (hI h1 (hR h a0 17) r1.toNatClampNeg)] h2) [.int x3] h1))))) [.ref a0, .int 0, .int x5, .int x6] h))) : AW w mX10_broken 0 0 (rI Q) 0 0 65 [some (.ref a0), some (.int x1), some (.int x2), some (.int x3), some (.int x4), some (.int x5), some (.int x6), none] [] h := by
  refine aw_iload 67 dX10_broken_65 rfl rfl ?_
  refine aw_aload_n 68 dX10_broken_67 rfl rfl ?_
  obtain ⟨g1, H⟩ := H
  obtain ⟨g2, H⟩ := H
  refine aw_getR 71 dX10_broken_68 rfl fl_X10_22 ir_10_6 g1 rfl g2 ?_
  refine aw_iload 73 dX10_broken_71 rfl rfl ?_
  obtain ⟨g3, H⟩ := H
  obtain ⟨g4, H⟩ := H
  refine aw_iald 74 dX10_broken_73 rfl (Or.inl (shp g3)) g4 ?_
  refine aw_icmp_ge 136 77 dX10_broken_74 rfl (by decide) (fun c5 => ?_) (fun c5 => ?_)
  · replace H := H.1 c5
    refine aw_iinc (y := 1) (loc' := [some (.ref a0), some (.int x1), some (.int x2), some (.int x3), some (.int x4), some (.int (x5 + 1)), some (.int x6), none]) 139 dX10_broken_136 rfl (by decide) rfl (by decide) rfl ?_
    refine aw_goto 39 dX10_broken_139 (by decide) ?_
    exact aw_fgt (by simp [leL]) H
  · replace H := H.2 c5
    refine aw_aload_n 78 dX10_broken_77 rfl rfl ?_
    obtain ⟨g6, H⟩ := H
    refine aw_getR 81 dX10_broken_78 rfl fl_X10_49 ir_10_17 g1 rfl g6 ?_
    refine aw_aload_n 82 dX10_broken_81 rfl rfl ?_
    refine aw_iconst (v := 0) 83 dX10_broken_82 rfl (by decide) ?_
    refine aw_iload 85 dX10_broken_83 rfl rfl ?_
    refine aw_iload 87 dX10_broken_85 rfl rfl ?_
    refine aw_callV (stk := [.ref (hR h a0 17)]) (ci := 10) [.int 0, .int x5, .int x6] 90 dX10_broken_87 rfl mv_X10_201 ⟨by decide, by decide⟩ g1 (by intro r hr; cases hr; rfl) rfl rfl (by simp [Value.category]) (by decide) H ?_
    rintro _ h1 ⟨r1, rfl, H⟩
    obtain ⟨g7, H⟩ := H
    obtain ⟨g8, H⟩ := H
    refine aw_iald 91 dX10_broken_90 rfl (Or.inl (shp g7)) g8 ?_
    refine aw_istore (loc' := [some (.ref a0), some (.int x1), some (.int x2), some (.int x3), some (.int x4), some (.int x5), some (.int x6), some (.int (hI h1 (hR h a0 17) r1.toNatClampNeg))]) 93 dX10_broken_91 rfl (by decide) rfl ?_
    refine aw_iload 95 dX10_broken_93 rfl rfl ?_
    refine aw_if_ne 123 98 dX10_broken_95 rfl (by decide) (fun c9 => ?_) (fun c9 => ?_)
    · replace H := H.1 c9
      refine aw_iconst (v := 1) 124 dX10_broken_123 rfl (by decide) ?_
      refine aw_goto 128 dX10_broken_124 (by decide) ?_
      refine aw_istore (loc' := [some (.ref a0), some (.int x1), some (.int x2), some (.int x3), some (.int 1), some (.int x5), some (.int x6), some (.int (hI h1 (hR h a0 17) r1.toNatClampNeg))]) 130 dX10_broken_128 rfl (by decide) rfl ?_
      refine aw_iinc (y := 1) (loc' := [some (.ref a0), some (.int x1), some (.int x2), some (.int x3), some (.int 1), some (.int x5), some (.int (x6 + 1)), some (.int (hI h1 (hR h a0 17) r1.toNatClampNeg))]) 133 dX10_broken_130 rfl (by decide) rfl (by decide) rfl ?_
      refine aw_goto 65 dX10_broken_133 (by decide) ?_
      exact aw_fgt (by simp [leL]) H
    · replace H := H.2 c9
      refine aw_iload 100 dX10_broken_98 rfl rfl ?_
      refine aw_if_lt 127 103 dX10_broken_100 rfl (by decide) (fun c10 => ?_) (fun c10 => ?_)
      · replace H := H.1 c10
        refine aw_iconst (v := 0) 128 dX10_broken_127 rfl (by decide) ?_
        refine aw_istore (loc' := [some (.ref a0), some (.int x1), some (.int x2), some (.int x3), some (.int 0), some (.int x5), some (.int x6), some (.int (hI h1 (hR h a0 17) r1.toNatClampNeg))]) 130 dX10_broken_128 rfl (by decide) rfl ?_
        refine aw_iinc (y := 1) (loc' := [some (.ref a0), some (.int x1), some (.int x2), some (.int x3), some (.int 0), some (.int x5), some (.int (x6 + 1)), some (.int (hI h1 (hR h a0 17) r1.toNatClampNeg))]) 133 dX10_broken_130 rfl (by decide) rfl (by decide) rfl ?_
        refine aw_goto 65 dX10_broken_133 (by decide) ?_
        exact aw_fgt (by simp [leL]) H
      · replace H := H.2 c10
        refine aw_aload_n 104 dX10_broken_103 rfl rfl ?_
        refine aw_iconst (v := 1) 105 dX10_broken_104 rfl (by decide) ?_
        refine aw_aload_n 106 dX10_broken_105 rfl rfl ?_
        obtain ⟨g11, H⟩ := H
        obtain ⟨g12, H⟩ := H
        refine aw_getR 109 dX10_broken_106 rfl fl_X10_91 ir_10_44 g11 rfl g12 ?_
        refine aw_iload_n 110 dX10_broken_109 rfl rfl ?_
        obtain ⟨g13, H⟩ := H
        obtain ⟨g14, H⟩ := H
        refine aw_iald 111 dX10_broken_110 rfl (Or.inl (shp g13)) g14 ?_
        refine aw_iload_n 112 dX10_broken_111 rfl rfl ?_
        refine aw_callS (stk := [.int (hI h1 (hR h1 a0 44) x2.toNatClampNeg), .int 1, .ref a0]) [.int x3] 115 dX10_broken_112 rfl mv_X10_257 ⟨by decide, by decide⟩ rfl rfl (by simp [Value.category]) (by decide) H ?_
        rintro _ h2 ⟨r2, rfl, H⟩
        refine aw_iload 117 dX10_broken_115 rfl rfl ?_
        obtain ⟨g15, H⟩ := H
        refine aw_callV (stk := []) (ci := 10) [.int 1, .int (hI h1 (hR h1 a0 44) x2.toNatClampNeg), .int r2, .int (hI h1 (hR h a0 17) r1.toNatClampNeg)] 120 dX10_broken_117 rfl mv_X10_239 ⟨by decide, by decide⟩ g15 (by intro r hr; cases hr; rfl) rfl rfl (by simp [Value.category]) (by decide) H ?_
        rintro _ h3 ⟨r3, rfl, H⟩
        refine aw_if_ne 127 123 dX10_broken_120 rfl (by decide) (fun c16 => ?_) (fun c16 => ?_)
        · replace H := H.1 c16
          refine aw_iconst (v := 0) 128 dX10_broken_127 rfl (by decide) ?_
          refine aw_istore (loc' := [some (.ref a0), some (.int x1), some (.int x2), some (.int x3), some (.int 0), some (.int x5), some (.int x6), some (.int (hI h1 (hR h a0 17) r1.toNatClampNeg))]) 130 dX10_broken_128 rfl (by decide) rfl ?_
          refine aw_iinc (y := 1) (loc' := [some (.ref a0), some (.int x1), some (.int x2), some (.int x3), some (.int 0), some (.int x5), some (.int (x6 + 1)), some (.int (hI h1 (hR h a0 17) r1.toNatClampNeg))]) 133 dX10_broken_130 rfl (by decide) rfl (by decide) rfl ?_
          refine aw_goto 65 dX10_broken_133 (by decide) ?_
          exact aw_fgt (by simp [leL]) H
        · replace H := H.2 c16
          refine aw_iconst (v := 1) 124 dX10_broken_123 rfl (by decide) ?_
          refine aw_goto 128 dX10_broken_124 (by decide) ?_
          refine aw_istore (loc' := [some (.ref a0), some (.int x1), some (.int x2), some (.int x3), some (.int 1), some (.int x5), some (.int x6), some (.int (hI h1 (hR h a0 17) r1.toNatClampNeg))]) 130 dX10_broken_128 rfl (by decide) rfl ?_
          refine aw_iinc (y := 1) (loc' := [some (.ref a0), some (.int x1), some (.int x2), some (.int x3), some (.int 1), some (.int x5), some (.int (x6 + 1)), some (.int (hI h1 (hR h a0 17) r1.toNatClampNeg))]) 133 dX10_broken_130 rfl (by decide) rfl (by decide) rfl ?_
          refine aw_goto 65 dX10_broken_133 (by decide) ?_
          exact aw_fgt (by simp [leL]) H
set_option maxHeartbeats 4000000 in
set_option maxRecDepth 100000 in
theorem sX10_broken_142 {w : Wd} {Q : Int32 → Hp → Prop} {h : Hp} {a0 : Nat} {x1 : Int32} {x2 : Int32} {x4 : Int32} (H : ((x4 = 0 → AW w mX10_broken 0 0 (rI Q) 0 0 13 [some (.ref a0), some (.int (x1 + 0)), some (.int (x2 + 1)), none, none, none, none, none] [] h) ∧ (¬ x4 = 0 → AW w mX10_broken 0 0 (rI Q) 0 0 13 [some (.ref a0), some (.int (x1 + 1)), some (.int (x2 + 1)), none, none, none, none, none] [] h))) : AW w mX10_broken 0 0 (rI Q) 0 0 142 [some (.ref a0), some (.int x1), some (.int x2), none, some (.int x4), none, none, none] [] h := by
  refine aw_iload_n 143 dX10_broken_142 rfl rfl ?_
  refine aw_iload 145 dX10_broken_143 rfl rfl ?_
  refine aw_if_eq 152 148 dX10_broken_145 rfl (by decide) (fun c1 => ?_) (fun c1 => ?_)
  · replace H := H.1 c1
    refine aw_iconst (v := 0) 153 dX10_broken_152 rfl (by decide) ?_
    refine aw_iadd 154 dX10_broken_153 rfl ?_
    refine aw_istore_n (loc' := [some (.ref a0), some (.int (x1 + 0)), some (.int x2), none, some (.int x4), none, none, none]) 155 dX10_broken_154 rfl (by decide) rfl ?_
    refine aw_iinc (y := 1) (loc' := [some (.ref a0), some (.int (x1 + 0)), some (.int (x2 + 1)), none, some (.int x4), none, none, none]) 158 dX10_broken_155 rfl (by decide) rfl (by decide) rfl ?_
    refine aw_goto 13 dX10_broken_158 (by decide) ?_
    exact aw_fgt (by simp [leL]) H
  · replace H := H.2 c1
    refine aw_iconst (v := 1) 149 dX10_broken_148 rfl (by decide) ?_
    refine aw_goto 153 dX10_broken_149 (by decide) ?_
    refine aw_iadd 154 dX10_broken_153 rfl ?_
    refine aw_istore_n (loc' := [some (.ref a0), some (.int (x1 + 1)), some (.int x2), none, some (.int x4), none, none, none]) 155 dX10_broken_154 rfl (by decide) rfl ?_
    refine aw_iinc (y := 1) (loc' := [some (.ref a0), some (.int (x1 + 1)), some (.int (x2 + 1)), none, some (.int x4), none, none, none]) 158 dX10_broken_155 rfl (by decide) rfl (by decide) rfl ?_
    refine aw_goto 13 dX10_broken_158 (by decide) ?_
    exact aw_fgt (by simp [leL]) H
set_option maxHeartbeats 4000000 in
set_option maxRecDepth 100000 in
theorem sX10_gather_0 {w : Wd} {Q : Hp → Prop} {h : Hp} {a0 : Nat} {x1 : Int32} (H : (hs h a0).1 = 30 ∧ ∀ h1, h1 = sI h a0 48 0 → ∀ h2, h2 = sI h1 a0 50 0 → hR h a0 43 ≠ 0 ∧ (hs h (hR h a0 43)).1 = 1 ∧ vp_in x1 (hs h (hR h a0 43)).2 ∧ AW w mX10_gather 0 0 (rV Q) 0 0 17 [some (.ref a0), some (.int x1), some (.int (hI h2 (hR h a0 43) x1.toNatClampNeg)), none] [] h2) : AW w mX10_gather 0 0 (rV Q) 0 0 0 [some (.ref a0), some (.int x1), none, none] [] h := by
  refine aw_aload_n 1 dX10_gather_0 rfl rfl ?_
  refine aw_iconst (v := 0) 2 dX10_gather_1 rfl (by decide) ?_
  obtain ⟨g1, H⟩ := H
  refine aw_putI 5 dX10_gather_2 rfl fl_X10_319 (by decide) g1 nf_10_48 ?_
  replace H := H _ rfl
  refine aw_aload_n 6 dX10_gather_5 rfl rfl ?_
  refine aw_iconst (v := 0) 7 dX10_gather_6 rfl (by decide) ?_
  refine aw_putI 10 dX10_gather_7 rfl fl_X10_322 (by decide) g1 nf_10_50 ?_
  replace H := H _ rfl
  refine aw_aload_n 11 dX10_gather_10 rfl rfl ?_
  obtain ⟨g2, H⟩ := H
  refine aw_getR 14 dX10_gather_11 rfl fl_X10_88 ir_10_43 g1 rfl g2 ?_
  refine aw_iload_n 15 dX10_gather_14 rfl rfl ?_
  obtain ⟨g3, H⟩ := H
  obtain ⟨g4, H⟩ := H
  refine aw_iald 16 dX10_gather_15 rfl (Or.inl (shp g3)) g4 ?_
  refine aw_istore_n (loc' := [some (.ref a0), some (.int x1), some (.int (hI (sI (sI h a0 48 0) a0 50 0) (hR h a0 43) x1.toNatClampNeg)), none]) 17 dX10_gather_16 rfl (by decide) rfl ?_
  exact H
theorem eX10_gather {w : Wd} {Q : Hp → Prop} {h : Hp} {a0 : Nat} {x1 : Int32} (H : AW w mX10_gather 0 0 (rV Q) 0 0 0 [some (.ref a0), some (.int x1), none, none] [] h) : AC w mX10_gather 0 0 (rV Q) [.ref a0, .int x1] h := AC.ofL (by decide) (by simp [enl, Value.category]) (by simp [leL, enl, Value.category]) H
set_option maxHeartbeats 4000000 in
set_option maxRecDepth 100000 in
theorem sX10_gather_17 {w : Wd} {Q : Hp → Prop} {h : Hp} {a0 : Nat} {x1 : Int32} {x2 : Int32} (H : (hs h a0).1 = 30 ∧ hR h a0 43 ≠ 0 ∧ (hs h (hR h a0 43)).1 = 1 ∧ vp_in x1 (hs h (hR h a0 43)).2 ∧ hR h a0 42 ≠ 0 ∧ (hs h (hR h a0 42)).1 = 1 ∧ vp_in x1 (hs h (hR h a0 42)).2 ∧ AC w mX10_leftOf 0 0 (rI fun r1 h1 => ((((hI h (hR h a0 43) x1.toNatClampNeg) + r1) ≤ x2 → (hs h1 a0).1 = 30 ∧ hR h1 a0 44 ≠ 0 ∧ (hs h1 (hR h1 a0 44)).1 = 1 ∧ vp_in x1 (hs h1 (hR h1 a0 44)).2 ∧ AW w mX10_gather 0 0 (rV Q) 0 0 94 [some (.ref a0), some (.int x1), some (.int (hI h1 (hR h1 a0 44) x1.toNatClampNeg)), none] [] h1) ∧ (¬ ((hI h (hR h a0 43) x1.toNatClampNeg) + r1) ≤ x2 → AW w mX10_gather 0 0 (rV Q) 0 0 39 [some (.ref a0), some (.int x1), some (.int x2), some (.int 0)] [] h1))) [.int (hI h (hR h a0 42) x1.toNatClampNeg)] h) : AW w mX10_gather 0 0 (rV Q) 0 0 17 [some (.ref a0), some (.int x1), some (.int x2), none] [] h := by
  refine aw_iload_n 18 dX10_gather_17 rfl rfl ?_
  refine aw_aload_n 19 dX10_gather_18 rfl rfl ?_
  obtain ⟨g1, H⟩ := H
  obtain ⟨g2, H⟩ := H
  refine aw_getR 22 dX10_gather_19 rfl fl_X10_88 ir_10_43 g1 rfl g2 ?_
  refine aw_iload_n 23 dX10_gather_22 rfl rfl ?_
  obtain ⟨g3, H⟩ := H
  obtain ⟨g4, H⟩ := H
  refine aw_iald 24 dX10_gather_23 rfl (Or.inl (shp g3)) g4 ?_
  refine aw_aload_n 25 dX10_gather_24 rfl rfl ?_
  obtain ⟨g5, H⟩ := H
  refine aw_getR 28 dX10_gather_25 rfl fl_X10_85 ir_10_42 g1 rfl g5 ?_
  refine aw_iload_n 29 dX10_gather_28 rfl rfl ?_
  obtain ⟨g6, H⟩ := H
  obtain ⟨g7, H⟩ := H
  refine aw_iald 30 dX10_gather_29 rfl (Or.inl (shp g6)) g7 ?_
  refine aw_callS (stk := [.int (hI h (hR h a0 43) x1.toNatClampNeg), .int x2]) [.int (hI h (hR h a0 42) x1.toNatClampNeg)] 33 dX10_gather_30 rfl mv_X10_254 ⟨by decide, by decide⟩ rfl rfl (by simp [Value.category]) (by decide) H ?_
  rintro _ h1 ⟨r1, rfl, H⟩
  refine aw_iadd 34 dX10_gather_33 rfl ?_
  refine aw_icmp_ge 87 37 dX10_gather_34 rfl (by decide) (fun c8 => ?_) (fun c8 => ?_)
  · replace H := H.1 c8
    refine aw_aload_n 88 dX10_gather_87 rfl rfl ?_
    obtain ⟨g9, H⟩ := H
    obtain ⟨g10, H⟩ := H
    refine aw_getR 91 dX10_gather_88 rfl fl_X10_91 ir_10_44 g9 rfl g10 ?_
    refine aw_iload_n 92 dX10_gather_91 rfl rfl ?_
    obtain ⟨g11, H⟩ := H
    obtain ⟨g12, H⟩ := H
    refine aw_iald 93 dX10_gather_92 rfl (Or.inl (shp g11)) g12 ?_
    refine aw_istore_n (loc' := [some (.ref a0), some (.int x1), some (.int (hI h1 (hR h1 a0 44) x1.toNatClampNeg)), none]) 94 dX10_gather_93 rfl (by decide) rfl ?_
    exact H
  · replace H := H.2 c8
    refine aw_iconst (v := 0) 38 dX10_gather_37 rfl (by decide) ?_
    refine aw_istore_n (loc' := [some (.ref a0), some (.int x1), some (.int x2), some (.int 0)]) 39 dX10_gather_38 rfl (by decide) rfl ?_
    exact H
set_option maxHeartbeats 4000000 in
set_option maxRecDepth 100000 in
theorem sX10_gather_39 {w : Wd} {Q : Hp → Prop} {h : Hp} {a0 : Nat} {x1 : Int32} {x2 : Int32} {x3 : Int32} (H : (hs h a0).1 = 30 ∧ hR h a0 6 ≠ 0 ∧ (hs h (hR h a0 6)).1 = 1 ∧ vp_in x2 (hs h (hR h a0 6)).2 ∧ (((hI h (hR h a0 6) x2.toNatClampNeg) ≤ x3 → AW w mX10_gather 0 0 (rV Q) 0 0 17 [some (.ref a0), some (.int x1), some (.int (x2 + 1)), none] [] h) ∧ (¬ (hI h (hR h a0 6) x2.toNatClampNeg) ≤ x3 → hR h a0 47 ≠ 0 ∧ AC w mX10_kindOf 0 0 (rI fun r1 h1 => (hs h1 (hR h a0 47)).1 = 1 ∧ vp_in (hI h a0 48) (hs h1 (hR h a0 47)).2 ∧ ∀ h2, h2 = sI h1 (hR h a0 47) (hI h a0 48).toNatClampNeg r1 → (hs h1 a0).1 = 30 ∧ ∀ h3, h3 = sI h2 a0 48 ((hI h2 a0 48) + 1) → AW w mX10_gather 0 0 (rV Q) 0 0 39 [some (.ref a0), some (.int x1), some (.int x2), some (.int (x3 + 1))] [] h3) [.ref a0, .int 0, .int x2, .int x3] h))) : AW w mX10_gather 0 0 (rV Q) 0 0 39 [some (.ref a0), some (.int x1), some (.int x2), some (.int x3)] [] h := by
  refine aw_iload_n 40 dX10_gather_39 rfl rfl ?_
  refine aw_aload_n 41 dX10_gather_40 rfl rfl ?_
  obtain ⟨g1, H⟩ := H
  obtain ⟨g2, H⟩ := H
  refine aw_getR 44 dX10_gather_41 rfl fl_X10_22 ir_10_6 g1 rfl g2 ?_
  refine aw_iload_n 45 dX10_gather_44 rfl rfl ?_
  obtain ⟨g3, H⟩ := H
  obtain ⟨g4, H⟩ := H
  refine aw_iald 46 dX10_gather_45 rfl (Or.inl (shp g3)) g4 ?_
  refine aw_icmp_ge 81 49 dX10_gather_46 rfl (by decide) (fun c5 => ?_) (fun c5 => ?_)
  · replace H := H.1 c5
    refine aw_iinc (y := 1) (loc' := [some (.ref a0), some (.int x1), some (.int (x2 + 1)), some (.int x3)]) 84 dX10_gather_81 rfl (by decide) rfl (by decide) rfl ?_
    refine aw_goto 17 dX10_gather_84 (by decide) ?_
    exact aw_fgt (by simp [leL]) H
  · replace H := H.2 c5
    refine aw_aload_n 50 dX10_gather_49 rfl rfl ?_
    obtain ⟨g6, H⟩ := H
    refine aw_getR 53 dX10_gather_50 rfl fl_X10_98 ir_10_47 g1 rfl g6 ?_
    refine aw_aload_n 54 dX10_gather_53 rfl rfl ?_
    refine aw_getI 57 dX10_gather_54 rfl fl_X10_319 (by decide) g1 ?_
    refine aw_aload_n 58 dX10_gather_57 rfl rfl ?_
    refine aw_iconst (v := 0) 59 dX10_gather_58 rfl (by decide) ?_
    refine aw_iload_n 60 dX10_gather_59 rfl rfl ?_
    refine aw_iload_n 61 dX10_gather_60 rfl rfl ?_
    refine aw_callV (stk := [.int (hI h a0 48), .ref (hR h a0 47)]) (ci := 10) [.int 0, .int x2, .int x3] 64 dX10_gather_61 rfl mv_X10_201 ⟨by decide, by decide⟩ g1 (by intro r hr; cases hr; rfl) rfl rfl (by simp [Value.category]) (by decide) H ?_
    rintro _ h1 ⟨r1, rfl, H⟩
    obtain ⟨g7, H⟩ := H
    obtain ⟨g8, H⟩ := H
    refine aw_iast 65 dX10_gather_64 rfl (shp g7) g8 ?_
    replace H := H _ rfl
    refine aw_aload_n 66 dX10_gather_65 rfl rfl ?_
    refine aw_dup 67 dX10_gather_66 rfl rfl ?_
    obtain ⟨g9, H⟩ := H
    refine aw_getI 70 dX10_gather_67 rfl fl_X10_319 (by decide) g9 ?_
    refine aw_iconst (v := 1) 71 dX10_gather_70 rfl (by decide) ?_
    refine aw_iadd 72 dX10_gather_71 rfl ?_
    refine aw_putI 75 dX10_gather_72 rfl fl_X10_319 (by decide) g9 nf_10_48 ?_
    replace H := H _ rfl
    refine aw_iinc (y := 1) (loc' := [some (.ref a0), some (.int x1), some (.int x2), some (.int (x3 + 1))]) 78 dX10_gather_75 rfl (by decide) rfl (by decide) rfl ?_
    refine aw_goto 39 dX10_gather_78 (by decide) ?_
    exact H
set_option maxHeartbeats 4000000 in
set_option maxRecDepth 100000 in
theorem sX10_gather_94 {w : Wd} {Q : Hp → Prop} {h : Hp} {a0 : Nat} {x1 : Int32} {x2 : Int32} (H : (hs h a0).1 = 30 ∧ hR h a0 44 ≠ 0 ∧ (hs h (hR h a0 44)).1 = 1 ∧ vp_in x1 (hs h (hR h a0 44)).2 ∧ hR h a0 42 ≠ 0 ∧ (hs h (hR h a0 42)).1 = 1 ∧ vp_in x1 (hs h (hR h a0 42)).2 ∧ AC w mX10_rightOf 0 0 (rI fun r1 h1 => ((((hI h (hR h a0 44) x1.toNatClampNeg) + r1) ≤ x2 → Q h1) ∧ (¬ ((hI h (hR h a0 44) x1.toNatClampNeg) + r1) ≤ x2 → AW w mX10_gather 0 0 (rV Q) 0 0 116 [some (.ref a0), some (.int x1), some (.int x2), some (.int 0)] [] h1))) [.int (hI h (hR h a0 42) x1.toNatClampNeg)] h) : AW w mX10_gather 0 0 (rV Q) 0 0 94 [some (.ref a0), some (.int x1), some (.int x2), none] [] h := by
  refine aw_iload_n 95 dX10_gather_94 rfl rfl ?_
  refine aw_aload_n 96 dX10_gather_95 rfl rfl ?_
  obtain ⟨g1, H⟩ := H
  obtain ⟨g2, H⟩ := H
  refine aw_getR 99 dX10_gather_96 rfl fl_X10_91 ir_10_44 g1 rfl g2 ?_
  refine aw_iload_n 100 dX10_gather_99 rfl rfl ?_
  obtain ⟨g3, H⟩ := H
  obtain ⟨g4, H⟩ := H
  refine aw_iald 101 dX10_gather_100 rfl (Or.inl (shp g3)) g4 ?_
  refine aw_aload_n 102 dX10_gather_101 rfl rfl ?_
  obtain ⟨g5, H⟩ := H
  refine aw_getR 105 dX10_gather_102 rfl fl_X10_85 ir_10_42 g1 rfl g5 ?_
  refine aw_iload_n 106 dX10_gather_105 rfl rfl ?_
  obtain ⟨g6, H⟩ := H
  obtain ⟨g7, H⟩ := H
  refine aw_iald 107 dX10_gather_106 rfl (Or.inl (shp g6)) g7 ?_
  refine aw_callS (stk := [.int (hI h (hR h a0 44) x1.toNatClampNeg), .int x2]) [.int (hI h (hR h a0 42) x1.toNatClampNeg)] 110 dX10_gather_107 rfl mv_X10_257 ⟨by decide, by decide⟩ rfl rfl (by simp [Value.category]) (by decide) H ?_
  rintro _ h1 ⟨r1, rfl, H⟩
  refine aw_iadd 111 dX10_gather_110 rfl ?_
  refine aw_icmp_ge 167 114 dX10_gather_111 rfl (by decide) (fun c8 => ?_) (fun c8 => ?_)
  · replace H := H.1 c8
    exact aw_return dX10_gather_167 rfl (by decide) (by decide) ⟨rfl, H⟩
  · replace H := H.2 c8
    refine aw_iconst (v := 0) 115 dX10_gather_114 rfl (by decide) ?_
    refine aw_istore_n (loc' := [some (.ref a0), some (.int x1), some (.int x2), some (.int 0)]) 116 dX10_gather_115 rfl (by decide) rfl ?_
    exact H
set_option maxHeartbeats 4000000 in
set_option maxRecDepth 100000 in
theorem sX10_gather_116 {w : Wd} {Q : Hp → Prop} {h : Hp} {a0 : Nat} {x1 : Int32} {x2 : Int32} {x3 : Int32} (H : (hs h a0).1 = 30 ∧ hR h a0 6 ≠ 0 ∧ (hs h (hR h a0 6)).1 = 1 ∧ vp_in (20 + x2) (hs h (hR h a0 6)).2 ∧ (((hI h (hR h a0 6) (20 + x2).toNatClampNeg) ≤ x3 → AW w mX10_gather 0 0 (rV Q) 0 0 94 [some (.ref a0), some (.int x1), some (.int (x2 + 1)), none] [] h) ∧ (¬ (hI h (hR h a0 6) (20 + x2).toNatClampNeg) ≤ x3 → hR h a0 49 ≠ 0 ∧ AC w mX10_kindOf 0 0 (rI fun r1 h1 => (hs h1 (hR h a0 49)).1 = 1 ∧ vp_in (hI h a0 50) (hs h1 (hR h a0 49)).2 ∧ ∀ h2, h2 = sI h1 (hR h a0 49) (hI h a0 50).toNatClampNeg r1 → (hs h1 a0).1 = 30 ∧ ∀ h3, h3 = sI h2 a0 50 ((hI h2 a0 50) + 1) → AW w mX10_gather 0 0 (rV Q) 0 0 116 [some (.ref a0), some (.int x1), some (.int x2), some (.int (x3 + 1))] [] h3) [.ref a0, .int 1, .int x2, .int x3] h))) : AW w mX10_gather 0 0 (rV Q) 0 0 116 [some (.ref a0), some (.int x1), some (.int x2), some (.int x3)] [] h := by
  refine aw_iload_n 117 dX10_gather_116 rfl rfl ?_
  refine aw_aload_n 118 dX10_gather_117 rfl rfl ?_
  obtain ⟨g1, H⟩ := H
  obtain ⟨g2, H⟩ := H
  refine aw_getR 121 dX10_gather_118 rfl fl_X10_22 ir_10_6 g1 rfl g2 ?_
  refine aw_bipush (v := 20) 123 dX10_gather_121 rfl (by decide) ?_
  refine aw_iload_n 124 dX10_gather_123 rfl rfl ?_
  refine aw_iadd 125 dX10_gather_124 rfl ?_
  obtain ⟨g3, H⟩ := H
  obtain ⟨g4, H⟩ := H
  refine aw_iald 126 dX10_gather_125 rfl (Or.inl (shp g3)) g4 ?_
  refine aw_icmp_ge 161 129 dX10_gather_126 rfl (by decide) (fun c5 => ?_) (fun c5 => ?_)
  · replace H := H.1 c5
    refine aw_iinc (y := 1) (loc' := [some (.ref a0), some (.int x1), some (.int (x2 + 1)), some (.int x3)]) 164 dX10_gather_161 rfl (by decide) rfl (by decide) rfl ?_
    refine aw_goto 94 dX10_gather_164 (by decide) ?_
    exact aw_fgt (by simp [leL]) H
  · replace H := H.2 c5
    refine aw_aload_n 130 dX10_gather_129 rfl rfl ?_
    obtain ⟨g6, H⟩ := H
    refine aw_getR 133 dX10_gather_130 rfl fl_X10_101 ir_10_49 g1 rfl g6 ?_
    refine aw_aload_n 134 dX10_gather_133 rfl rfl ?_
    refine aw_getI 137 dX10_gather_134 rfl fl_X10_322 (by decide) g1 ?_
    refine aw_aload_n 138 dX10_gather_137 rfl rfl ?_
    refine aw_iconst (v := 1) 139 dX10_gather_138 rfl (by decide) ?_
    refine aw_iload_n 140 dX10_gather_139 rfl rfl ?_
    refine aw_iload_n 141 dX10_gather_140 rfl rfl ?_
    refine aw_callV (stk := [.int (hI h a0 50), .ref (hR h a0 49)]) (ci := 10) [.int 1, .int x2, .int x3] 144 dX10_gather_141 rfl mv_X10_201 ⟨by decide, by decide⟩ g1 (by intro r hr; cases hr; rfl) rfl rfl (by simp [Value.category]) (by decide) H ?_
    rintro _ h1 ⟨r1, rfl, H⟩
    obtain ⟨g7, H⟩ := H
    obtain ⟨g8, H⟩ := H
    refine aw_iast 145 dX10_gather_144 rfl (shp g7) g8 ?_
    replace H := H _ rfl
    refine aw_aload_n 146 dX10_gather_145 rfl rfl ?_
    refine aw_dup 147 dX10_gather_146 rfl rfl ?_
    obtain ⟨g9, H⟩ := H
    refine aw_getI 150 dX10_gather_147 rfl fl_X10_322 (by decide) g9 ?_
    refine aw_iconst (v := 1) 151 dX10_gather_150 rfl (by decide) ?_
    refine aw_iadd 152 dX10_gather_151 rfl ?_
    refine aw_putI 155 dX10_gather_152 rfl fl_X10_322 (by decide) g9 nf_10_50 ?_
    replace H := H _ rfl
    refine aw_iinc (y := 1) (loc' := [some (.ref a0), some (.int x1), some (.int x2), some (.int (x3 + 1))]) 158 dX10_gather_155 rfl (by decide) rfl (by decide) rfl ?_
    refine aw_goto 116 dX10_gather_158 (by decide) ?_
    exact H
set_option maxHeartbeats 4000000 in
set_option maxRecDepth 100000 in
theorem sX10_size_0 {w : Wd} {Q : Int32 → Hp → Prop} {h : Hp} {x0 : Int32} (H : ((0 ≤ x0 → Q x0 h) ∧ (¬ 0 ≤ x0 → Q (-x0) h))) : AW w mX10_size 0 0 (rI Q) 0 0 0 [some (.int x0)] [] h := by
  refine aw_iload_n 1 dX10_size_0 rfl rfl ?_
  refine aw_if_ge 9 4 dX10_size_1 rfl (by decide) (fun c1 => ?_) (fun c1 => ?_)
  · replace H := H.1 c1
    refine aw_iload_n 10 dX10_size_9 rfl rfl ?_
    exact aw_ireturn dX10_size_10 rfl (by decide) (by decide) ⟨_, rfl, H⟩
  · replace H := H.2 c1
    refine aw_iload_n 5 dX10_size_4 rfl rfl ?_
    refine aw_ineg 6 dX10_size_5 rfl ?_
    refine aw_goto 10 dX10_size_6 (by decide) ?_
    exact aw_ireturn dX10_size_10 rfl (by decide) (by decide) ⟨_, rfl, H⟩
theorem eX10_size {w : Wd} {Q : Int32 → Hp → Prop} {h : Hp} {x0 : Int32} (H : AW w mX10_size 0 0 (rI Q) 0 0 0 [some (.int x0)] [] h) : AC w mX10_size 0 0 (rI Q) [.int x0] h := AC.ofL (by decide) (by simp [enl, Value.category]) (by simp [leL, enl, Value.category]) H
set_option maxHeartbeats 4000000 in
set_option maxRecDepth 100000 in
theorem sX10_linkAll_0 {w : Wd} {Q : Hp → Prop} {h : Hp} {a0 : Nat} (H : AW w mX10_linkAll 0 0 (rV Q) 0 0 2 [some (.ref a0), some (.int 0), none, none, none, none] [] h) : AW w mX10_linkAll 0 0 (rV Q) 0 0 0 [some (.ref a0), none, none, none, none, none] [] h := by
  refine aw_iconst (v := 0) 1 dX10_linkAll_0 rfl (by decide) ?_
  refine aw_istore_n (loc' := [some (.ref a0), some (.int 0), none, none, none, none]) 2 dX10_linkAll_1 rfl (by decide) rfl ?_
  exact H
theorem eX10_linkAll {w : Wd} {Q : Hp → Prop} {h : Hp} {a0 : Nat} (H : AW w mX10_linkAll 0 0 (rV Q) 0 0 0 [some (.ref a0), none, none, none, none, none] [] h) : AC w mX10_linkAll 0 0 (rV Q) [.ref a0] h := AC.ofL (by decide) (by simp [enl, Value.category]) (by simp [leL, enl, Value.category]) H
set_option maxHeartbeats 4000000 in
set_option maxRecDepth 100000 in
theorem sX10_linkAll_2 {w : Wd} {Q : Hp → Prop} {h : Hp} {a0 : Nat} {x1 : Int32} (H : (hs h a0).1 = 30 ∧ (((hI h a0 48) ≤ x1 → AW w mX10_linkAll 0 0 (rV Q) 0 0 181 [some (.ref a0), some (.int 0), none, none, none, none] [] h) ∧ (¬ (hI h a0 48) ≤ x1 → AW w mX10_linkAll 0 0 (rV Q) 0 0 14 [some (.ref a0), some (.int x1), some (.int (-1)), some (.int 0), none, none] [] h))) : AW w mX10_linkAll 0 0 (rV Q) 0 0 2 [some (.ref a0), some (.int x1), none, none, none, none] [] h := by
  refine aw_iload_n 3 dX10_linkAll_2 rfl rfl ?_
  refine aw_aload_n 4 dX10_linkAll_3 rfl rfl ?_
  obtain ⟨g1, H⟩ := H
  refine aw_getI 7 dX10_linkAll_4 rfl fl_X10_319 (by decide) g1 ?_
  refine aw_icmp_ge 179 10 dX10_linkAll_7 rfl (by decide) (fun c2 => ?_) (fun c2 => ?_)
  · replace H := H.1 c2
    refine aw_iconst (v := 0) 180 dX10_linkAll_179 rfl (by decide) ?_
    refine aw_istore_n (loc' := [some (.ref a0), some (.int 0), none, none, none, none]) 181 dX10_linkAll_180 rfl (by decide) rfl ?_
    exact H
  · replace H := H.2 c2
    refine aw_iconst (v := (-1)) 11 dX10_linkAll_10 rfl (by decide) ?_
    refine aw_istore_n (loc' := [some (.ref a0), some (.int x1), some (.int (-1)), none, none, none]) 12 dX10_linkAll_11 rfl (by decide) rfl ?_
    refine aw_iconst (v := 0) 13 dX10_linkAll_12 rfl (by decide) ?_
    refine aw_istore_n (loc' := [some (.ref a0), some (.int x1), some (.int (-1)), some (.int 0), none, none]) 14 dX10_linkAll_13 rfl (by decide) rfl ?_
    exact H
set_option maxHeartbeats 4000000 in
set_option maxRecDepth 100000 in
theorem sX10_linkAll_14 {w : Wd} {Q : Hp → Prop} {h : Hp} {a0 : Nat} {x1 : Int32} {x2 : Int32} {x3 : Int32} (H : (hs h a0).1 = 30 ∧ (((hI h a0 50) ≤ x3 → hR h a0 51 ≠ 0 ∧ ((x2 < 0 → (hs h (hR h a0 51)).1 = 1 ∧ vp_in x1 (hs h (hR h a0 51)).2 ∧ ∀ h1, h1 = sI h (hR h a0 51) x1.toNatClampNeg (-1) → AW w mX10_linkAll 0 0 (rV Q) 0 0 2 [some (.ref a0), some (.int (x1 + 1)), none, none, none, none] [] h1) ∧ (¬ x2 < 0 → hR h a0 18 ≠ 0 ∧ hR h a0 47 ≠ 0 ∧ (hs h (hR h a0 47)).1 = 1 ∧ vp_in x1 (hs h (hR h a0 47)).2 ∧ hR h a0 49 ≠ 0 ∧ (hs h (hR h a0 49)).1 = 1 ∧ vp_in x2 (hs h (hR h a0 49)).2 ∧ (hs h (hR h a0 18)).1 = 1 ∧ vp_in ((41 * (hI h (hR h a0 47) x1.toNatClampNeg)) + (hI h (hR h a0 49) x2.toNatClampNeg)) (hs h (hR h a0 18)).2 ∧ vp_in ((41 * (hI h (hR h a0 47) x1.toNatClampNeg)) + 40) (hs h (hR h a0 18)).2 ∧ (((hI h (hR h a0 18) ((41 * (hI h (hR h a0 47) x1.toNatClampNeg)) + (hI h (hR h a0 49) x2.toNatClampNeg)).toNatClampNeg) ≤ (hI h (hR h a0 18) ((41 * (hI h (hR h a0 47) x1.toNatClampNeg)) + 40).toNatClampNeg) → (hs h (hR h a0 51)).1 = 1 ∧ vp_in x1 (hs h (hR h a0 51)).2 ∧ ∀ h2, h2 = sI h (hR h a0 51) x1.toNatClampNeg (-1) → AW w mX10_linkAll 0 0 (rV Q) 0 0 2 [some (.ref a0), some (.int (x1 + 1)), none, none, none, none] [] h2) ∧ (¬ (hI h (hR h a0 18) ((41 * (hI h (hR h a0 47) x1.toNatClampNeg)) + (hI h (hR h a0 49) x2.toNatClampNeg)).toNatClampNeg) ≤ (hI h (hR h a0 18) ((41 * (hI h (hR h a0 47) x1.toNatClampNeg)) + 40).toNatClampNeg) → (hs h (hR h a0 51)).1 = 1 ∧ vp_in x1 (hs h (hR h a0 51)).2 ∧ ∀ h3, h3 = sI h (hR h a0 51) x1.toNatClampNeg x2 → AW w mX10_linkAll 0 0 (rV Q) 0 0 2 [some (.ref a0), some (.int (x1 + 1)), none, none, none, none] [] h3))))) ∧ (¬ (hI h a0 50) ≤ x3 → hR h a0 18 ≠ 0 ∧ hR h a0 47 ≠ 0 ∧ (hs h (hR h a0 47)).1 = 1 ∧ vp_in x1 (hs h (hR h a0 47)).2 ∧ hR h a0 49 ≠ 0 ∧ (hs h (hR h a0 49)).1 = 1 ∧ vp_in x3 (hs h (hR h a0 49)).2 ∧ (hs h (hR h a0 18)).1 = 1 ∧ vp_in ((41 * (hI h (hR h a0 47) x1.toNatClampNeg)) + (hI h (hR h a0 49) x3.toNatClampNeg)) (hs h (hR h a0 18)).2 ∧ ((0 ≤ x2 → vp_in x2 (hs h (hR h a0 49)).2 ∧ vp_in ((41 * (hI h (hR h a0 47) x1.toNatClampNeg)) + (hI h (hR h a0 49) x2.toNatClampNeg)) (hs h (hR h a0 18)).2 ∧ AW w mX10_linkAll 0 0 (rV Q) 0 0 74 [some (.ref a0), some (.int x1), some (.int x2), some (.int x3), some (.int (hI h (hR h a0 18) ((41 * (hI h (hR h a0 47) x1.toNatClampNeg)) + (hI h (hR h a0 49) x3.toNatClampNeg)).toNatClampNeg)), none] [.int (hI h (hR h a0 18) ((41 * (hI h (hR h a0 47) x1.toNatClampNeg)) + (hI h (hR h a0 49) x2.toNatClampNeg)).toNatClampNeg)] h) ∧ (¬ 0 ≤ x2 → AW w mX10_linkAll 0 0 (rV Q) 0 0 74 [some (.ref a0), some (.int x1), some (.int x2), some (.int x3), some (.int (hI h (hR h a0 18) ((41 * (hI h (hR h a0 47) x1.toNatClampNeg)) + (hI h (hR h a0 49) x3.toNatClampNeg)).toNatClampNeg)), none] [.int (-1)] h))))) : AW w mX10_linkAll 0 0 (rV Q) 0 0 14 [some (.ref a0), some (.int x1), some (.int x2), some (.int x3), none, none] [] h := by
  refine aw_iload_n 15 dX10_linkAll_14 rfl rfl ?_
  refine aw_aload_n 16 dX10_linkAll_15 rfl rfl ?_
  obtain ⟨g1, H⟩ := H
  refine aw_getI 19 dX10_linkAll_16 rfl fl_X10_322 (by decide) g1 ?_
  refine aw_icmp_ge 117 22 dX10_linkAll_19 rfl (by decide) (fun c2 => ?_) (fun c2 => ?_)
  · replace H := H.1 c2
    refine aw_aload_n 118 dX10_linkAll_117 rfl rfl ?_
    obtain ⟨g3, H⟩ := H
    refine aw_getR 121 dX10_linkAll_118 rfl fl_X10_104 ir_10_51 g1 rfl g3 ?_
    refine aw_iload_n 122 dX10_linkAll_121 rfl rfl ?_
    refine aw_iload_n 123 dX10_linkAll_122 rfl rfl ?_
    refine aw_if_lt 171 126 dX10_linkAll_123 rfl (by decide) (fun c4 => ?_) (fun c4 => ?_)
    · replace H := H.1 c4
      refine aw_iconst (v := (-1)) 172 dX10_linkAll_171 rfl (by decide) ?_
      obtain ⟨g5, H⟩ := H
      obtain ⟨g6, H⟩ := H
      refine aw_iast 173 dX10_linkAll_172 rfl (shp g5) g6 ?_
      replace H := H _ rfl
      refine aw_iinc (y := 1) (loc' := [some (.ref a0), some (.int (x1 + 1)), some (.int x2), some (.int x3), none, none]) 176 dX10_linkAll_173 rfl (by decide) rfl (by decide) rfl ?_
      refine aw_goto 2 dX10_linkAll_176 (by decide) ?_
      exact aw_fgt (by simp [leL]) H
    · replace H := H.2 c4
      refine aw_aload_n 127 dX10_linkAll_126 rfl rfl ?_
      obtain ⟨g7, H⟩ := H
      refine aw_getR 130 dX10_linkAll_127 rfl fl_X10_52 ir_10_18 g1 rfl g7 ?_
      refine aw_bipush (v := 41) 132 dX10_linkAll_130 rfl (by decide) ?_
      refine aw_aload_n 133 dX10_linkAll_132 rfl rfl ?_
      obtain ⟨g8, H⟩ := H
      refine aw_getR 136 dX10_linkAll_133 rfl fl_X10_98 ir_10_47 g1 rfl g8 ?_
      refine aw_iload_n 137 dX10_linkAll_136 rfl rfl ?_
      obtain ⟨g9, H⟩ := H
      obtain ⟨g10, H⟩ := H
      refine aw_iald 138 dX10_linkAll_137 rfl (Or.inl (shp g9)) g10 ?_
      refine aw_imul 139 dX10_linkAll_138 rfl ?_
      refine aw_aload_n 140 dX10_linkAll_139 rfl rfl ?_
      obtain ⟨g11, H⟩ := H
      refine aw_getR 143 dX10_linkAll_140 rfl fl_X10_101 ir_10_49 g1 rfl g11 ?_
      refine aw_iload_n 144 dX10_linkAll_143 rfl rfl ?_
      obtain ⟨g12, H⟩ := H
      obtain ⟨g13, H⟩ := H
      refine aw_iald 145 dX10_linkAll_144 rfl (Or.inl (shp g12)) g13 ?_
      refine aw_iadd 146 dX10_linkAll_145 rfl ?_
      obtain ⟨g14, H⟩ := H
      obtain ⟨g15, H⟩ := H
      refine aw_iald 147 dX10_linkAll_146 rfl (Or.inl (shp g14)) g15 ?_
      refine aw_aload_n 148 dX10_linkAll_147 rfl rfl ?_
      refine aw_getR 151 dX10_linkAll_148 rfl fl_X10_52 ir_10_18 g1 rfl g7 ?_
      refine aw_bipush (v := 41) 153 dX10_linkAll_151 rfl (by decide) ?_
      refine aw_aload_n 154 dX10_linkAll_153 rfl rfl ?_
      refine aw_getR 157 dX10_linkAll_154 rfl fl_X10_98 ir_10_47 g1 rfl g8 ?_
      refine aw_iload_n 158 dX10_linkAll_157 rfl rfl ?_
      refine aw_iald 159 dX10_linkAll_158 rfl (Or.inl (shp g9)) g10 ?_
      refine aw_imul 160 dX10_linkAll_159 rfl ?_
      refine aw_bipush (v := 40) 162 dX10_linkAll_160 rfl (by decide) ?_
      refine aw_iadd 163 dX10_linkAll_162 rfl ?_
      obtain ⟨g16, H⟩ := H
      refine aw_iald 164 dX10_linkAll_163 rfl (Or.inl (shp g14)) g16 ?_
      refine aw_icmp_le 171 167 dX10_linkAll_164 rfl (by decide) (fun c17 => ?_) (fun c17 => ?_)
      · replace H := H.1 c17
        refine aw_iconst (v := (-1)) 172 dX10_linkAll_171 rfl (by decide) ?_
        obtain ⟨g18, H⟩ := H
        obtain ⟨g19, H⟩ := H
        refine aw_iast 173 dX10_linkAll_172 rfl (shp g18) g19 ?_
        replace H := H _ rfl
        refine aw_iinc (y := 1) (loc' := [some (.ref a0), some (.int (x1 + 1)), some (.int x2), some (.int x3), none, none]) 176 dX10_linkAll_173 rfl (by decide) rfl (by decide) rfl ?_
        refine aw_goto 2 dX10_linkAll_176 (by decide) ?_
        exact aw_fgt (by simp [leL]) H
      · replace H := H.2 c17
        refine aw_iload_n 168 dX10_linkAll_167 rfl rfl ?_
        refine aw_goto 172 dX10_linkAll_168 (by decide) ?_
        obtain ⟨g20, H⟩ := H
        obtain ⟨g21, H⟩ := H
        refine aw_iast 173 dX10_linkAll_172 rfl (shp g20) g21 ?_
        replace H := H _ rfl
        refine aw_iinc (y := 1) (loc' := [some (.ref a0), some (.int (x1 + 1)), some (.int x2), some (.int x3), none, none]) 176 dX10_linkAll_173 rfl (by decide) rfl (by decide) rfl ?_
        refine aw_goto 2 dX10_linkAll_176 (by decide) ?_
        exact aw_fgt (by simp [leL]) H
  · replace H := H.2 c2
    refine aw_aload_n 23 dX10_linkAll_22 rfl rfl ?_
    obtain ⟨g22, H⟩ := H
    refine aw_getR 26 dX10_linkAll_23 rfl fl_X10_52 ir_10_18 g1 rfl g22 ?_
    refine aw_bipush (v := 41) 28 dX10_linkAll_26 rfl (by decide) ?_
    refine aw_aload_n 29 dX10_linkAll_28 rfl rfl ?_
    obtain ⟨g23, H⟩ := H
    refine aw_getR 32 dX10_linkAll_29 rfl fl_X10_98 ir_10_47 g1 rfl g23 ?_
    refine aw_iload_n 33 dX10_linkAll_32 rfl rfl ?_
    obtain ⟨g24, H⟩ := H
    obtain ⟨g25, H⟩ := H
    refine aw_iald 34 dX10_linkAll_33 rfl (Or.inl (shp g24)) g25 ?_
    refine aw_imul 35 dX10_linkAll_34 rfl ?_
    refine aw_aload_n 36 dX10_linkAll_35 rfl rfl ?_
    obtain ⟨g26, H⟩ := H
    refine aw_getR 39 dX10_linkAll_36 rfl fl_X10_101 ir_10_49 g1 rfl g26 ?_
    refine aw_iload_n 40 dX10_linkAll_39 rfl rfl ?_
    obtain ⟨g27, H⟩ := H
    obtain ⟨g28, H⟩ := H
    refine aw_iald 41 dX10_linkAll_40 rfl (Or.inl (shp g27)) g28 ?_
    refine aw_iadd 42 dX10_linkAll_41 rfl ?_
    obtain ⟨g29, H⟩ := H
    obtain ⟨g30, H⟩ := H
    refine aw_iald 43 dX10_linkAll_42 rfl (Or.inl (shp g29)) g30 ?_
    refine aw_istore (loc' := [some (.ref a0), some (.int x1), some (.int x2), some (.int x3), some (.int (hI h (hR h a0 18) ((41 * (hI h (hR h a0 47) x1.toNatClampNeg)) + (hI h (hR h a0 49) x3.toNatClampNeg)).toNatClampNeg)), none]) 45 dX10_linkAll_43 rfl (by decide) rfl ?_
    refine aw_iload_n 46 dX10_linkAll_45 rfl rfl ?_
    refine aw_if_ge 53 49 dX10_linkAll_46 rfl (by decide) (fun c31 => ?_) (fun c31 => ?_)
    · replace H := H.1 c31
      refine aw_aload_n 54 dX10_linkAll_53 rfl rfl ?_
      refine aw_getR 57 dX10_linkAll_54 rfl fl_X10_52 ir_10_18 g1 rfl g22 ?_
      refine aw_bipush (v := 41) 59 dX10_linkAll_57 rfl (by decide) ?_
      refine aw_aload_n 60 dX10_linkAll_59 rfl rfl ?_
      refine aw_getR 63 dX10_linkAll_60 rfl fl_X10_98 ir_10_47 g1 rfl g23 ?_
      refine aw_iload_n 64 dX10_linkAll_63 rfl rfl ?_
      refine aw_iald 65 dX10_linkAll_64 rfl (Or.inl (shp g24)) g25 ?_
      refine aw_imul 66 dX10_linkAll_65 rfl ?_
      refine aw_aload_n 67 dX10_linkAll_66 rfl rfl ?_
      refine aw_getR 70 dX10_linkAll_67 rfl fl_X10_101 ir_10_49 g1 rfl g26 ?_
      refine aw_iload_n 71 dX10_linkAll_70 rfl rfl ?_
      obtain ⟨g32, H⟩ := H
      refine aw_iald 72 dX10_linkAll_71 rfl (Or.inl (shp g27)) g32 ?_
      refine aw_iadd 73 dX10_linkAll_72 rfl ?_
      obtain ⟨g33, H⟩ := H
      refine aw_iald 74 dX10_linkAll_73 rfl (Or.inl (shp g29)) g33 ?_
      exact H
    · replace H := H.2 c31
      refine aw_iconst (v := (-1)) 50 dX10_linkAll_49 rfl (by decide) ?_
      refine aw_goto 74 dX10_linkAll_50 (by decide) ?_
      exact H
set_option maxHeartbeats 4000000 in
set_option maxRecDepth 100000 in
theorem sX10_linkAll_74 {w : Wd} {Q : Hp → Prop} {h : Hp} {a0 : Nat} {x1 : Int32} {x2 : Int32} {x3 : Int32} {x4 : Int32} {y0 : Int32} (H : ((y0 < x4 → AW w mX10_linkAll 0 0 (rV Q) 0 0 14 [some (.ref a0), some (.int x1), some (.int x3), some (.int (x3 + 1)), none, none] [] h) ∧ (¬ y0 < x4 → ((¬ x4 = y0 → AW w mX10_linkAll 0 0 (rV Q) 0 0 14 [some (.ref a0), some (.int x1), some (.int x2), some (.int (x3 + 1)), none, none] [] h) ∧ (x4 = y0 → AC w mX10_size 0 0 (rI fun r1 h1 => AC w mX10_size 0 0 (rI fun r2 h2 => ((r2 ≤ r1 → AW w mX10_linkAll 0 0 (rV Q) 0 0 14 [some (.ref a0), some (.int x1), some (.int x2), some (.int (x3 + 1)), none, none] [] h2) ∧ (¬ r2 ≤ r1 → AW w mX10_linkAll 0 0 (rV Q) 0 0 14 [some (.ref a0), some (.int x1), some (.int x3), some (.int (x3 + 1)), none, none] [] h2))) [.int (x1 - x2)] h1) [.int (x1 - x3)] h))))) : AW w mX10_linkAll 0 0 (rV Q) 0 0 74 [some (.ref a0), some (.int x1), some (.int x2), some (.int x3), some (.int x4), none] [.int y0] h := by
  refine aw_istore (loc' := [some (.ref a0), some (.int x1), some (.int x2), some (.int x3), some (.int x4), some (.int y0)]) 76 dX10_linkAll_74 rfl (by decide) rfl ?_
  refine aw_iload 78 dX10_linkAll_76 rfl rfl ?_
  refine aw_iload 80 dX10_linkAll_78 rfl rfl ?_
  refine aw_icmp_gt 105 83 dX10_linkAll_80 rfl (by decide) (fun c1 => ?_) (fun c1 => ?_)
  · replace H := H.1 c1
    refine aw_iload_n 106 dX10_linkAll_105 rfl rfl ?_
    refine aw_goto 110 dX10_linkAll_106 (by decide) ?_
    refine aw_istore_n (loc' := [some (.ref a0), some (.int x1), some (.int x3), some (.int x3), some (.int x4), some (.int y0)]) 111 dX10_linkAll_110 rfl (by decide) rfl ?_
    refine aw_iinc (y := 1) (loc' := [some (.ref a0), some (.int x1), some (.int x3), some (.int (x3 + 1)), some (.int x4), some (.int y0)]) 114 dX10_linkAll_111 rfl (by decide) rfl (by decide) rfl ?_
    refine aw_goto 14 dX10_linkAll_114 (by decide) ?_
    exact aw_fgt (by simp [leL]) H
  · replace H := H.2 c1
    refine aw_iload 85 dX10_linkAll_83 rfl rfl ?_
    refine aw_iload 87 dX10_linkAll_85 rfl rfl ?_
    refine aw_icmp_ne 109 90 dX10_linkAll_87 rfl (by decide) (fun c2 => ?_) (fun c2 => ?_)
    · replace H := H.1 c2
      refine aw_iload_n 110 dX10_linkAll_109 rfl rfl ?_
      refine aw_istore_n (loc' := [some (.ref a0), some (.int x1), some (.int x2), some (.int x3), some (.int x4), some (.int y0)]) 111 dX10_linkAll_110 rfl (by decide) rfl ?_
      refine aw_iinc (y := 1) (loc' := [some (.ref a0), some (.int x1), some (.int x2), some (.int (x3 + 1)), some (.int x4), some (.int y0)]) 114 dX10_linkAll_111 rfl (by decide) rfl (by decide) rfl ?_
      refine aw_goto 14 dX10_linkAll_114 (by decide) ?_
      exact aw_fgt (by simp [leL]) H
    · replace H := H.2 c2
      refine aw_iload_n 91 dX10_linkAll_90 rfl rfl ?_
      refine aw_iload_n 92 dX10_linkAll_91 rfl rfl ?_
      refine aw_isub 93 dX10_linkAll_92 rfl ?_
      refine aw_callS (stk := []) [.int (x1 - x3)] 96 dX10_linkAll_93 rfl mv_X10_325 ⟨by decide, by decide⟩ rfl rfl (by simp [Value.category]) (by decide) H ?_
      rintro _ h1 ⟨r1, rfl, H⟩
      refine aw_iload_n 97 dX10_linkAll_96 rfl rfl ?_
      refine aw_iload_n 98 dX10_linkAll_97 rfl rfl ?_
      refine aw_isub 99 dX10_linkAll_98 rfl ?_
      refine aw_callS (stk := [.int r1]) [.int (x1 - x2)] 102 dX10_linkAll_99 rfl mv_X10_325 ⟨by decide, by decide⟩ rfl rfl (by simp [Value.category]) (by decide) H ?_
      rintro _ h2 ⟨r2, rfl, H⟩
      refine aw_icmp_ge 109 105 dX10_linkAll_102 rfl (by decide) (fun c3 => ?_) (fun c3 => ?_)
      · replace H := H.1 c3
        refine aw_iload_n 110 dX10_linkAll_109 rfl rfl ?_
        refine aw_istore_n (loc' := [some (.ref a0), some (.int x1), some (.int x2), some (.int x3), some (.int x4), some (.int y0)]) 111 dX10_linkAll_110 rfl (by decide) rfl ?_
        refine aw_iinc (y := 1) (loc' := [some (.ref a0), some (.int x1), some (.int x2), some (.int (x3 + 1)), some (.int x4), some (.int y0)]) 114 dX10_linkAll_111 rfl (by decide) rfl (by decide) rfl ?_
        refine aw_goto 14 dX10_linkAll_114 (by decide) ?_
        exact aw_fgt (by simp [leL]) H
      · replace H := H.2 c3
        refine aw_iload_n 106 dX10_linkAll_105 rfl rfl ?_
        refine aw_goto 110 dX10_linkAll_106 (by decide) ?_
        refine aw_istore_n (loc' := [some (.ref a0), some (.int x1), some (.int x3), some (.int x3), some (.int x4), some (.int y0)]) 111 dX10_linkAll_110 rfl (by decide) rfl ?_
        refine aw_iinc (y := 1) (loc' := [some (.ref a0), some (.int x1), some (.int x3), some (.int (x3 + 1)), some (.int x4), some (.int y0)]) 114 dX10_linkAll_111 rfl (by decide) rfl (by decide) rfl ?_
        refine aw_goto 14 dX10_linkAll_114 (by decide) ?_
        exact aw_fgt (by simp [leL]) H
set_option maxHeartbeats 4000000 in
set_option maxRecDepth 100000 in
theorem sX10_linkAll_181 {w : Wd} {Q : Hp → Prop} {h : Hp} {a0 : Nat} {x1 : Int32} (H : (hs h a0).1 = 30 ∧ (((hI h a0 50) ≤ x1 → Q h) ∧ (¬ (hI h a0 50) ≤ x1 → AW w mX10_linkAll 0 0 (rV Q) 0 0 193 [some (.ref a0), some (.int x1), some (.int (-1)), some (.int 0), none, none] [] h))) : AW w mX10_linkAll 0 0 (rV Q) 0 0 181 [some (.ref a0), some (.int x1), none, none, none, none] [] h := by
  refine aw_iload_n 182 dX10_linkAll_181 rfl rfl ?_
  refine aw_aload_n 183 dX10_linkAll_182 rfl rfl ?_
  obtain ⟨g1, H⟩ := H
  refine aw_getI 186 dX10_linkAll_183 rfl fl_X10_322 (by decide) g1 ?_
  refine aw_icmp_ge 341 189 dX10_linkAll_186 rfl (by decide) (fun c2 => ?_) (fun c2 => ?_)
  · replace H := H.1 c2
    exact aw_return dX10_linkAll_341 rfl (by decide) (by decide) ⟨rfl, H⟩
  · replace H := H.2 c2
    refine aw_iconst (v := (-1)) 190 dX10_linkAll_189 rfl (by decide) ?_
    refine aw_istore_n (loc' := [some (.ref a0), some (.int x1), some (.int (-1)), none, none, none]) 191 dX10_linkAll_190 rfl (by decide) rfl ?_
    refine aw_iconst (v := 0) 192 dX10_linkAll_191 rfl (by decide) ?_
    refine aw_istore_n (loc' := [some (.ref a0), some (.int x1), some (.int (-1)), some (.int 0), none, none]) 193 dX10_linkAll_192 rfl (by decide) rfl ?_
    exact H
set_option maxHeartbeats 4000000 in
set_option maxRecDepth 100000 in
theorem sX10_linkAll_193 {w : Wd} {Q : Hp → Prop} {h : Hp} {a0 : Nat} {x1 : Int32} {x2 : Int32} {x3 : Int32} (H : (hs h a0).1 = 30 ∧ (((hI h a0 48) ≤ x3 → hR h a0 52 ≠ 0 ∧ ((x2 < 0 → (hs h (hR h a0 52)).1 = 1 ∧ vp_in x1 (hs h (hR h a0 52)).2 ∧ ∀ h1, h1 = sI h (hR h a0 52) x1.toNatClampNeg (-1) → AW w mX10_linkAll 0 0 (rV Q) 0 0 181 [some (.ref a0), some (.int (x1 + 1)), none, none, none, none] [] h1) ∧ (¬ x2 < 0 → hR h a0 18 ≠ 0 ∧ hR h a0 47 ≠ 0 ∧ (hs h (hR h a0 47)).1 = 1 ∧ vp_in x2 (hs h (hR h a0 47)).2 ∧ hR h a0 49 ≠ 0 ∧ (hs h (hR h a0 49)).1 = 1 ∧ vp_in x1 (hs h (hR h a0 49)).2 ∧ (hs h (hR h a0 18)).1 = 1 ∧ vp_in ((41 * (hI h (hR h a0 47) x2.toNatClampNeg)) + (hI h (hR h a0 49) x1.toNatClampNeg)) (hs h (hR h a0 18)).2 ∧ (((hI h (hR h a0 18) ((41 * (hI h (hR h a0 47) x2.toNatClampNeg)) + (hI h (hR h a0 49) x1.toNatClampNeg)).toNatClampNeg) ≤ 0 → (hs h (hR h a0 52)).1 = 1 ∧ vp_in x1 (hs h (hR h a0 52)).2 ∧ ∀ h2, h2 = sI h (hR h a0 52) x1.toNatClampNeg (-1) → AW w mX10_linkAll 0 0 (rV Q) 0 0 181 [some (.ref a0), some (.int (x1 + 1)), none, none, none, none] [] h2) ∧ (¬ (hI h (hR h a0 18) ((41 * (hI h (hR h a0 47) x2.toNatClampNeg)) + (hI h (hR h a0 49) x1.toNatClampNeg)).toNatClampNeg) ≤ 0 → (hs h (hR h a0 52)).1 = 1 ∧ vp_in x1 (hs h (hR h a0 52)).2 ∧ ∀ h3, h3 = sI h (hR h a0 52) x1.toNatClampNeg x2 → AW w mX10_linkAll 0 0 (rV Q) 0 0 181 [some (.ref a0), some (.int (x1 + 1)), none, none, none, none] [] h3))))) ∧ (¬ (hI h a0 48) ≤ x3 → hR h a0 18 ≠ 0 ∧ hR h a0 47 ≠ 0 ∧ (hs h (hR h a0 47)).1 = 1 ∧ vp_in x3 (hs h (hR h a0 47)).2 ∧ hR h a0 49 ≠ 0 ∧ (hs h (hR h a0 49)).1 = 1 ∧ vp_in x1 (hs h (hR h a0 49)).2 ∧ (hs h (hR h a0 18)).1 = 1 ∧ vp_in ((41 * (hI h (hR h a0 47) x3.toNatClampNeg)) + (hI h (hR h a0 49) x1.toNatClampNeg)) (hs h (hR h a0 18)).2 ∧ ((0 ≤ x2 → vp_in x2 (hs h (hR h a0 47)).2 ∧ vp_in ((41 * (hI h (hR h a0 47) x2.toNatClampNeg)) + (hI h (hR h a0 49) x1.toNatClampNeg)) (hs h (hR h a0 18)).2 ∧ AW w mX10_linkAll 0 0 (rV Q) 0 0 253 [some (.ref a0), some (.int x1), some (.int x2), some (.int x3), some (.int (hI h (hR h a0 18) ((41 * (hI h (hR h a0 47) x3.toNatClampNeg)) + (hI h (hR h a0 49) x1.toNatClampNeg)).toNatClampNeg)), none] [.int (hI h (hR h a0 18) ((41 * (hI h (hR h a0 47) x2.toNatClampNeg)) + (hI h (hR h a0 49) x1.toNatClampNeg)).toNatClampNeg)] h) ∧ (¬ 0 ≤ x2 → AW w mX10_linkAll 0 0 (rV Q) 0 0 253 [some (.ref a0), some (.int x1), some (.int x2), some (.int x3), some (.int (hI h (hR h a0 18) ((41 * (hI h (hR h a0 47) x3.toNatClampNeg)) + (hI h (hR h a0 49) x1.toNatClampNeg)).toNatClampNeg)), none] [.int (-1)] h))))) : AW w mX10_linkAll 0 0 (rV Q) 0 0 193 [some (.ref a0), some (.int x1), some (.int x2), some (.int x3), none, none] [] h := by
  refine aw_iload_n 194 dX10_linkAll_193 rfl rfl ?_
  refine aw_aload_n 195 dX10_linkAll_194 rfl rfl ?_
  obtain ⟨g1, H⟩ := H
  refine aw_getI 198 dX10_linkAll_195 rfl fl_X10_319 (by decide) g1 ?_
  refine aw_icmp_ge 296 201 dX10_linkAll_198 rfl (by decide) (fun c2 => ?_) (fun c2 => ?_)
  · replace H := H.1 c2
    refine aw_aload_n 297 dX10_linkAll_296 rfl rfl ?_
    obtain ⟨g3, H⟩ := H
    refine aw_getR 300 dX10_linkAll_297 rfl fl_X10_107 ir_10_52 g1 rfl g3 ?_
    refine aw_iload_n 301 dX10_linkAll_300 rfl rfl ?_
    refine aw_iload_n 302 dX10_linkAll_301 rfl rfl ?_
    refine aw_if_lt 333 305 dX10_linkAll_302 rfl (by decide) (fun c4 => ?_) (fun c4 => ?_)
    · replace H := H.1 c4
      refine aw_iconst (v := (-1)) 334 dX10_linkAll_333 rfl (by decide) ?_
      obtain ⟨g5, H⟩ := H
      obtain ⟨g6, H⟩ := H
      refine aw_iast 335 dX10_linkAll_334 rfl (shp g5) g6 ?_
      replace H := H _ rfl
      refine aw_iinc (y := 1) (loc' := [some (.ref a0), some (.int (x1 + 1)), some (.int x2), some (.int x3), none, none]) 338 dX10_linkAll_335 rfl (by decide) rfl (by decide) rfl ?_
      refine aw_goto 181 dX10_linkAll_338 (by decide) ?_
      exact aw_fgt (by simp [leL]) H
    · replace H := H.2 c4
      refine aw_aload_n 306 dX10_linkAll_305 rfl rfl ?_
      obtain ⟨g7, H⟩ := H
      refine aw_getR 309 dX10_linkAll_306 rfl fl_X10_52 ir_10_18 g1 rfl g7 ?_
      refine aw_bipush (v := 41) 311 dX10_linkAll_309 rfl (by decide) ?_
      refine aw_aload_n 312 dX10_linkAll_311 rfl rfl ?_
      obtain ⟨g8, H⟩ := H
      refine aw_getR 315 dX10_linkAll_312 rfl fl_X10_98 ir_10_47 g1 rfl g8 ?_
      refine aw_iload_n 316 dX10_linkAll_315 rfl rfl ?_
      obtain ⟨g9, H⟩ := H
      obtain ⟨g10, H⟩ := H
      refine aw_iald 317 dX10_linkAll_316 rfl (Or.inl (shp g9)) g10 ?_
      refine aw_imul 318 dX10_linkAll_317 rfl ?_
      refine aw_aload_n 319 dX10_linkAll_318 rfl rfl ?_
      obtain ⟨g11, H⟩ := H
      refine aw_getR 322 dX10_linkAll_319 rfl fl_X10_101 ir_10_49 g1 rfl g11 ?_
      refine aw_iload_n 323 dX10_linkAll_322 rfl rfl ?_
      obtain ⟨g12, H⟩ := H
      obtain ⟨g13, H⟩ := H
      refine aw_iald 324 dX10_linkAll_323 rfl (Or.inl (shp g12)) g13 ?_
      refine aw_iadd 325 dX10_linkAll_324 rfl ?_
      obtain ⟨g14, H⟩ := H
      obtain ⟨g15, H⟩ := H
      refine aw_iald 326 dX10_linkAll_325 rfl (Or.inl (shp g14)) g15 ?_
      refine aw_if_le 333 329 dX10_linkAll_326 rfl (by decide) (fun c16 => ?_) (fun c16 => ?_)
      · replace H := H.1 c16
        refine aw_iconst (v := (-1)) 334 dX10_linkAll_333 rfl (by decide) ?_
        obtain ⟨g17, H⟩ := H
        obtain ⟨g18, H⟩ := H
        refine aw_iast 335 dX10_linkAll_334 rfl (shp g17) g18 ?_
        replace H := H _ rfl
        refine aw_iinc (y := 1) (loc' := [some (.ref a0), some (.int (x1 + 1)), some (.int x2), some (.int x3), none, none]) 338 dX10_linkAll_335 rfl (by decide) rfl (by decide) rfl ?_
        refine aw_goto 181 dX10_linkAll_338 (by decide) ?_
        exact aw_fgt (by simp [leL]) H
      · replace H := H.2 c16
        refine aw_iload_n 330 dX10_linkAll_329 rfl rfl ?_
        refine aw_goto 334 dX10_linkAll_330 (by decide) ?_
        obtain ⟨g19, H⟩ := H
        obtain ⟨g20, H⟩ := H
        refine aw_iast 335 dX10_linkAll_334 rfl (shp g19) g20 ?_
        replace H := H _ rfl
        refine aw_iinc (y := 1) (loc' := [some (.ref a0), some (.int (x1 + 1)), some (.int x2), some (.int x3), none, none]) 338 dX10_linkAll_335 rfl (by decide) rfl (by decide) rfl ?_
        refine aw_goto 181 dX10_linkAll_338 (by decide) ?_
        exact aw_fgt (by simp [leL]) H
  · replace H := H.2 c2
    refine aw_aload_n 202 dX10_linkAll_201 rfl rfl ?_
    obtain ⟨g21, H⟩ := H
    refine aw_getR 205 dX10_linkAll_202 rfl fl_X10_52 ir_10_18 g1 rfl g21 ?_
    refine aw_bipush (v := 41) 207 dX10_linkAll_205 rfl (by decide) ?_
    refine aw_aload_n 208 dX10_linkAll_207 rfl rfl ?_
    obtain ⟨g22, H⟩ := H
    refine aw_getR 211 dX10_linkAll_208 rfl fl_X10_98 ir_10_47 g1 rfl g22 ?_
    refine aw_iload_n 212 dX10_linkAll_211 rfl rfl ?_
    obtain ⟨g23, H⟩ := H
    obtain ⟨g24, H⟩ := H
    refine aw_iald 213 dX10_linkAll_212 rfl (Or.inl (shp g23)) g24 ?_
    refine aw_imul 214 dX10_linkAll_213 rfl ?_
    refine aw_aload_n 215 dX10_linkAll_214 rfl rfl ?_
    obtain ⟨g25, H⟩ := H
    refine aw_getR 218 dX10_linkAll_215 rfl fl_X10_101 ir_10_49 g1 rfl g25 ?_
    refine aw_iload_n 219 dX10_linkAll_218 rfl rfl ?_
    obtain ⟨g26, H⟩ := H
    obtain ⟨g27, H⟩ := H
    refine aw_iald 220 dX10_linkAll_219 rfl (Or.inl (shp g26)) g27 ?_
    refine aw_iadd 221 dX10_linkAll_220 rfl ?_
    obtain ⟨g28, H⟩ := H
    obtain ⟨g29, H⟩ := H
    refine aw_iald 222 dX10_linkAll_221 rfl (Or.inl (shp g28)) g29 ?_
    refine aw_istore (loc' := [some (.ref a0), some (.int x1), some (.int x2), some (.int x3), some (.int (hI h (hR h a0 18) ((41 * (hI h (hR h a0 47) x3.toNatClampNeg)) + (hI h (hR h a0 49) x1.toNatClampNeg)).toNatClampNeg)), none]) 224 dX10_linkAll_222 rfl (by decide) rfl ?_
    refine aw_iload_n 225 dX10_linkAll_224 rfl rfl ?_
    refine aw_if_ge 232 228 dX10_linkAll_225 rfl (by decide) (fun c30 => ?_) (fun c30 => ?_)
    · replace H := H.1 c30
      refine aw_aload_n 233 dX10_linkAll_232 rfl rfl ?_
      refine aw_getR 236 dX10_linkAll_233 rfl fl_X10_52 ir_10_18 g1 rfl g21 ?_
      refine aw_bipush (v := 41) 238 dX10_linkAll_236 rfl (by decide) ?_
      refine aw_aload_n 239 dX10_linkAll_238 rfl rfl ?_
      refine aw_getR 242 dX10_linkAll_239 rfl fl_X10_98 ir_10_47 g1 rfl g22 ?_
      refine aw_iload_n 243 dX10_linkAll_242 rfl rfl ?_
      obtain ⟨g31, H⟩ := H
      refine aw_iald 244 dX10_linkAll_243 rfl (Or.inl (shp g23)) g31 ?_
      refine aw_imul 245 dX10_linkAll_244 rfl ?_
      refine aw_aload_n 246 dX10_linkAll_245 rfl rfl ?_
      refine aw_getR 249 dX10_linkAll_246 rfl fl_X10_101 ir_10_49 g1 rfl g25 ?_
      refine aw_iload_n 250 dX10_linkAll_249 rfl rfl ?_
      refine aw_iald 251 dX10_linkAll_250 rfl (Or.inl (shp g26)) g27 ?_
      refine aw_iadd 252 dX10_linkAll_251 rfl ?_
      obtain ⟨g32, H⟩ := H
      refine aw_iald 253 dX10_linkAll_252 rfl (Or.inl (shp g28)) g32 ?_
      exact H
    · replace H := H.2 c30
      refine aw_iconst (v := (-1)) 229 dX10_linkAll_228 rfl (by decide) ?_
      refine aw_goto 253 dX10_linkAll_229 (by decide) ?_
      exact H
set_option maxHeartbeats 4000000 in
set_option maxRecDepth 100000 in
theorem sX10_linkAll_253 {w : Wd} {Q : Hp → Prop} {h : Hp} {a0 : Nat} {x1 : Int32} {x2 : Int32} {x3 : Int32} {x4 : Int32} {y0 : Int32} (H : ((y0 < x4 → AW w mX10_linkAll 0 0 (rV Q) 0 0 193 [some (.ref a0), some (.int x1), some (.int x3), some (.int (x3 + 1)), none, none] [] h) ∧ (¬ y0 < x4 → ((¬ x4 = y0 → AW w mX10_linkAll 0 0 (rV Q) 0 0 193 [some (.ref a0), some (.int x1), some (.int x2), some (.int (x3 + 1)), none, none] [] h) ∧ (x4 = y0 → AC w mX10_size 0 0 (rI fun r1 h1 => AC w mX10_size 0 0 (rI fun r2 h2 => ((r2 ≤ r1 → AW w mX10_linkAll 0 0 (rV Q) 0 0 193 [some (.ref a0), some (.int x1), some (.int x2), some (.int (x3 + 1)), none, none] [] h2) ∧ (¬ r2 ≤ r1 → AW w mX10_linkAll 0 0 (rV Q) 0 0 193 [some (.ref a0), some (.int x1), some (.int x3), some (.int (x3 + 1)), none, none] [] h2))) [.int (x2 - x1)] h1) [.int (x3 - x1)] h))))) : AW w mX10_linkAll 0 0 (rV Q) 0 0 253 [some (.ref a0), some (.int x1), some (.int x2), some (.int x3), some (.int x4), none] [.int y0] h := by
  refine aw_istore (loc' := [some (.ref a0), some (.int x1), some (.int x2), some (.int x3), some (.int x4), some (.int y0)]) 255 dX10_linkAll_253 rfl (by decide) rfl ?_
  refine aw_iload 257 dX10_linkAll_255 rfl rfl ?_
  refine aw_iload 259 dX10_linkAll_257 rfl rfl ?_
  refine aw_icmp_gt 284 262 dX10_linkAll_259 rfl (by decide) (fun c1 => ?_) (fun c1 => ?_)
  · replace H := H.1 c1
    refine aw_iload_n 285 dX10_linkAll_284 rfl rfl ?_
    refine aw_goto 289 dX10_linkAll_285 (by decide) ?_
    refine aw_istore_n (loc' := [some (.ref a0), some (.int x1), some (.int x3), some (.int x3), some (.int x4), some (.int y0)]) 290 dX10_linkAll_289 rfl (by decide) rfl ?_
    refine aw_iinc (y := 1) (loc' := [some (.ref a0), some (.int x1), some (.int x3), some (.int (x3 + 1)), some (.int x4), some (.int y0)]) 293 dX10_linkAll_290 rfl (by decide) rfl (by decide) rfl ?_
    refine aw_goto 193 dX10_linkAll_293 (by decide) ?_
    exact aw_fgt (by simp [leL]) H
  · replace H := H.2 c1
    refine aw_iload 264 dX10_linkAll_262 rfl rfl ?_
    refine aw_iload 266 dX10_linkAll_264 rfl rfl ?_
    refine aw_icmp_ne 288 269 dX10_linkAll_266 rfl (by decide) (fun c2 => ?_) (fun c2 => ?_)
    · replace H := H.1 c2
      refine aw_iload_n 289 dX10_linkAll_288 rfl rfl ?_
      refine aw_istore_n (loc' := [some (.ref a0), some (.int x1), some (.int x2), some (.int x3), some (.int x4), some (.int y0)]) 290 dX10_linkAll_289 rfl (by decide) rfl ?_
      refine aw_iinc (y := 1) (loc' := [some (.ref a0), some (.int x1), some (.int x2), some (.int (x3 + 1)), some (.int x4), some (.int y0)]) 293 dX10_linkAll_290 rfl (by decide) rfl (by decide) rfl ?_
      refine aw_goto 193 dX10_linkAll_293 (by decide) ?_
      exact aw_fgt (by simp [leL]) H
    · replace H := H.2 c2
      refine aw_iload_n 270 dX10_linkAll_269 rfl rfl ?_
      refine aw_iload_n 271 dX10_linkAll_270 rfl rfl ?_
      refine aw_isub 272 dX10_linkAll_271 rfl ?_
      refine aw_callS (stk := []) [.int (x3 - x1)] 275 dX10_linkAll_272 rfl mv_X10_325 ⟨by decide, by decide⟩ rfl rfl (by simp [Value.category]) (by decide) H ?_
      rintro _ h1 ⟨r1, rfl, H⟩
      refine aw_iload_n 276 dX10_linkAll_275 rfl rfl ?_
      refine aw_iload_n 277 dX10_linkAll_276 rfl rfl ?_
      refine aw_isub 278 dX10_linkAll_277 rfl ?_
      refine aw_callS (stk := [.int r1]) [.int (x2 - x1)] 281 dX10_linkAll_278 rfl mv_X10_325 ⟨by decide, by decide⟩ rfl rfl (by simp [Value.category]) (by decide) H ?_
      rintro _ h2 ⟨r2, rfl, H⟩
      refine aw_icmp_ge 288 284 dX10_linkAll_281 rfl (by decide) (fun c3 => ?_) (fun c3 => ?_)
      · replace H := H.1 c3
        refine aw_iload_n 289 dX10_linkAll_288 rfl rfl ?_
        refine aw_istore_n (loc' := [some (.ref a0), some (.int x1), some (.int x2), some (.int x3), some (.int x4), some (.int y0)]) 290 dX10_linkAll_289 rfl (by decide) rfl ?_
        refine aw_iinc (y := 1) (loc' := [some (.ref a0), some (.int x1), some (.int x2), some (.int (x3 + 1)), some (.int x4), some (.int y0)]) 293 dX10_linkAll_290 rfl (by decide) rfl (by decide) rfl ?_
        refine aw_goto 193 dX10_linkAll_293 (by decide) ?_
        exact aw_fgt (by simp [leL]) H
      · replace H := H.2 c3
        refine aw_iload_n 285 dX10_linkAll_284 rfl rfl ?_
        refine aw_goto 289 dX10_linkAll_285 (by decide) ?_
        refine aw_istore_n (loc' := [some (.ref a0), some (.int x1), some (.int x3), some (.int x3), some (.int x4), some (.int y0)]) 290 dX10_linkAll_289 rfl (by decide) rfl ?_
        refine aw_iinc (y := 1) (loc' := [some (.ref a0), some (.int x1), some (.int x3), some (.int (x3 + 1)), some (.int x4), some (.int y0)]) 293 dX10_linkAll_290 rfl (by decide) rfl (by decide) rfl ?_
        refine aw_goto 193 dX10_linkAll_293 (by decide) ?_
        exact aw_fgt (by simp [leL]) H
set_option maxHeartbeats 4000000 in
set_option maxRecDepth 100000 in
theorem sX10_isBoth_0 {w : Wd} {Q : Int32 → Hp → Prop} {h : Hp} {a0 : Nat} {x1 : Int32} {x2 : Int32} (H : (hs h a0).1 = 30 ∧ hR h a0 51 ≠ 0 ∧ (hs h (hR h a0 51)).1 = 1 ∧ vp_in x1 (hs h (hR h a0 51)).2 ∧ ((¬ (hI h (hR h a0 51) x1.toNatClampNeg) = x2 → Q 0 h) ∧ ((hI h (hR h a0 51) x1.toNatClampNeg) = x2 → hR h a0 52 ≠ 0 ∧ (hs h (hR h a0 52)).1 = 1 ∧ vp_in x2 (hs h (hR h a0 52)).2 ∧ ((¬ (hI h (hR h a0 52) x2.toNatClampNeg) = x1 → Q 0 h) ∧ ((hI h (hR h a0 52) x2.toNatClampNeg) = x1 → Q 1 h))))) : AW w mX10_isBoth 0 0 (rI Q) 0 0 0 [some (.ref a0), some (.int x1), some (.int x2)] [] h := by
  refine aw_aload_n 1 dX10_isBoth_0 rfl rfl ?_
  obtain ⟨g1, H⟩ := H
  obtain ⟨g2, H⟩ := H
  refine aw_getR 4 dX10_isBoth_1 rfl fl_X10_104 ir_10_51 g1 rfl g2 ?_
  refine aw_iload_n 5 dX10_isBoth_4 rfl rfl ?_
  obtain ⟨g3, H⟩ := H
  obtain ⟨g4, H⟩ := H
  refine aw_iald 6 dX10_isBoth_5 rfl (Or.inl (shp g3)) g4 ?_
  refine aw_iload_n 7 dX10_isBoth_6 rfl rfl ?_
  refine aw_icmp_ne 24 10 dX10_isBoth_7 rfl (by decide) (fun c5 => ?_) (fun c5 => ?_)
  · replace H := H.1 c5
    refine aw_iconst (v := 0) 25 dX10_isBoth_24 rfl (by decide) ?_
    exact aw_zreturn dX10_isBoth_25 rfl (by decide) (by decide) (by decide) ⟨_, rfl, H⟩
  · replace H := H.2 c5
    refine aw_aload_n 11 dX10_isBoth_10 rfl rfl ?_
    obtain ⟨g6, H⟩ := H
    refine aw_getR 14 dX10_isBoth_11 rfl fl_X10_107 ir_10_52 g1 rfl g6 ?_
    refine aw_iload_n 15 dX10_isBoth_14 rfl rfl ?_
    obtain ⟨g7, H⟩ := H
    obtain ⟨g8, H⟩ := H
    refine aw_iald 16 dX10_isBoth_15 rfl (Or.inl (shp g7)) g8 ?_
    refine aw_iload_n 17 dX10_isBoth_16 rfl rfl ?_
    refine aw_icmp_ne 24 20 dX10_isBoth_17 rfl (by decide) (fun c9 => ?_) (fun c9 => ?_)
    · replace H := H.1 c9
      refine aw_iconst (v := 0) 25 dX10_isBoth_24 rfl (by decide) ?_
      exact aw_zreturn dX10_isBoth_25 rfl (by decide) (by decide) (by decide) ⟨_, rfl, H⟩
    · replace H := H.2 c9
      refine aw_iconst (v := 1) 21 dX10_isBoth_20 rfl (by decide) ?_
      refine aw_goto 25 dX10_isBoth_21 (by decide) ?_
      exact aw_zreturn dX10_isBoth_25 rfl (by decide) (by decide) (by decide) ⟨_, rfl, H⟩
theorem eX10_isBoth {w : Wd} {Q : Int32 → Hp → Prop} {h : Hp} {a0 : Nat} {x1 : Int32} {x2 : Int32} (H : AW w mX10_isBoth 0 0 (rI Q) 0 0 0 [some (.ref a0), some (.int x1), some (.int x2)] [] h) : AC w mX10_isBoth 0 0 (rI Q) [.ref a0, .int x1, .int x2] h := AC.ofL (by decide) (by simp [enl, Value.category]) (by simp [leL, enl, Value.category]) H
set_option maxHeartbeats 4000000 in
set_option maxRecDepth 100000 in
theorem sX10_hasNear_0 {w : Wd} {Q : Int32 → Hp → Prop} {h : Hp} {a0 : Nat} {x1 : Int32} {x2 : Int32} (H : AW w mX10_hasNear 0 0 (rI Q) 0 0 7 [some (.ref a0), some (.int x1), some (.int x2), some (.int 0), some (.int (x1 - 1)), none] [] h) : AW w mX10_hasNear 0 0 (rI Q) 0 0 0 [some (.ref a0), some (.int x1), some (.int x2), none, none, none] [] h := by
  refine aw_iconst (v := 0) 1 dX10_hasNear_0 rfl (by decide) ?_
  refine aw_istore_n (loc' := [some (.ref a0), some (.int x1), some (.int x2), some (.int 0), none, none]) 2 dX10_hasNear_1 rfl (by decide) rfl ?_
  refine aw_iload_n 3 dX10_hasNear_2 rfl rfl ?_
  refine aw_iconst (v := 1) 4 dX10_hasNear_3 rfl (by decide) ?_
  refine aw_isub 5 dX10_hasNear_4 rfl ?_
  refine aw_istore (loc' := [some (.ref a0), some (.int x1), some (.int x2), some (.int 0), some (.int (x1 - 1)), none]) 7 dX10_hasNear_5 rfl (by decide) rfl ?_
  exact H
theorem eX10_hasNear {w : Wd} {Q : Int32 → Hp → Prop} {h : Hp} {a0 : Nat} {x1 : Int32} {x2 : Int32} (H : AW w mX10_hasNear 0 0 (rI Q) 0 0 0 [some (.ref a0), some (.int x1), some (.int x2), none, none, none] [] h) : AC w mX10_hasNear 0 0 (rI Q) [.ref a0, .int x1, .int x2] h := AC.ofL (by decide) (by simp [enl, Value.category]) (by simp [leL, enl, Value.category]) H
set_option maxHeartbeats 4000000 in
set_option maxRecDepth 100000 in
theorem sX10_hasNear_7 {w : Wd} {Q : Int32 → Hp → Prop} {h : Hp} {a0 : Nat} {x1 : Int32} {x2 : Int32} {x3 : Int32} {x4 : Int32} (H : (((x1 + 1) < x4 → (x3 = 0 ∨ x3 = 1) ∧ Q x3 h) ∧ (¬ (x1 + 1) < x4 → AW w mX10_hasNear 0 0 (rI Q) 0 0 20 [some (.ref a0), some (.int x1), some (.int x2), some (.int x3), some (.int x4), some (.int (x2 - 1))] [] h))) : AW w mX10_hasNear 0 0 (rI Q) 0 0 7 [some (.ref a0), some (.int x1), some (.int x2), some (.int x3), some (.int x4), none] [] h := by
  refine aw_iload 9 dX10_hasNear_7 rfl rfl ?_
  refine aw_iload_n 10 dX10_hasNear_9 rfl rfl ?_
  refine aw_iconst (v := 1) 11 dX10_hasNear_10 rfl (by decide) ?_
  refine aw_iadd 12 dX10_hasNear_11 rfl ?_
  refine aw_icmp_gt 100 15 dX10_hasNear_12 rfl (by decide) (fun c1 => ?_) (fun c1 => ?_)
  · replace H := H.1 c1
    refine aw_iload_n 101 dX10_hasNear_100 rfl rfl ?_
    obtain ⟨g2, H⟩ := H
    exact aw_zreturn dX10_hasNear_101 rfl g2 (by decide) (by decide) ⟨_, rfl, H⟩
  · replace H := H.2 c1
    refine aw_iload_n 16 dX10_hasNear_15 rfl rfl ?_
    refine aw_iconst (v := 1) 17 dX10_hasNear_16 rfl (by decide) ?_
    refine aw_isub 18 dX10_hasNear_17 rfl ?_
    refine aw_istore (loc' := [some (.ref a0), some (.int x1), some (.int x2), some (.int x3), some (.int x4), some (.int (x2 - 1))]) 20 dX10_hasNear_18 rfl (by decide) rfl ?_
    exact H
set_option maxHeartbeats 4000000 in
set_option maxRecDepth 100000 in
theorem sX10_hasNear_20 {w : Wd} {Q : Int32 → Hp → Prop} {h : Hp} {a0 : Nat} {x1 : Int32} {x2 : Int32} {x3 : Int32} {x4 : Int32} {x5 : Int32} (H : (((x2 + 1) < x5 → AW w mX10_hasNear 0 0 (rI Q) 0 0 7 [some (.ref a0), some (.int x1), some (.int x2), some (.int x3), some (.int (x4 + 1)), none] [] h) ∧ (¬ (x2 + 1) < x5 → ((¬ x3 = 0 → AW w mX10_hasNear 0 0 (rI Q) 0 0 20 [some (.ref a0), some (.int x1), some (.int x2), some (.int 1), some (.int x4), some (.int (x5 + 1))] [] h) ∧ (x3 = 0 → (hs h a0).1 = 30 ∧ AC w mX10_in 0 0 (rI fun r1 h1 => ((r1 = 0 → AW w mX10_hasNear 0 0 (rI Q) 0 0 20 [some (.ref a0), some (.int x1), some (.int x2), some (.int 0), some (.int x4), some (.int (x5 + 1))] [] h1) ∧ (¬ r1 = 0 → (hs h1 a0).1 = 30 ∧ AC w mX10_in 0 0 (rI fun r2 h2 => ((r2 = 0 → AW w mX10_hasNear 0 0 (rI Q) 0 0 20 [some (.ref a0), some (.int x1), some (.int x2), some (.int 0), some (.int x4), some (.int (x5 + 1))] [] h2) ∧ (¬ r2 = 0 → (hs h2 a0).1 = 30 ∧ hR h2 a0 53 ≠ 0 ∧ (hs h2 (hR h2 a0 53)).1 = 3 ∧ vp_in ((20 * x4) + x5) (hs h2 (hR h2 a0 53)).2 ∧ (((hI h2 (hR h2 a0 53) ((20 * x4) + x5).toNatClampNeg) = 0 → AW w mX10_hasNear 0 0 (rI Q) 0 0 20 [some (.ref a0), some (.int x1), some (.int x2), some (.int 0), some (.int x4), some (.int (x5 + 1))] [] h2) ∧ (¬ (hI h2 (hR h2 a0 53) ((20 * x4) + x5).toNatClampNeg) = 0 → AW w mX10_hasNear 0 0 (rI Q) 0 0 20 [some (.ref a0), some (.int x1), some (.int x2), some (.int 1), some (.int x4), some (.int (x5 + 1))] [] h2))))) [.long x5.toInt64, .long 0, .long (((hI h1 a0 50) - 1).toInt64)] h1))) [.long x4.toInt64, .long 0, .long (((hI h a0 48) - 1).toInt64)] h))))) : AW w mX10_hasNear 0 0 (rI Q) 0 0 20 [some (.ref a0), some (.int x1), some (.int x2), some (.int x3), some (.int x4), some (.int x5)] [] h := by
  refine aw_iload 22 dX10_hasNear_20 rfl rfl ?_
  refine aw_iload_n 23 dX10_hasNear_22 rfl rfl ?_
  refine aw_iconst (v := 1) 24 dX10_hasNear_23 rfl (by decide) ?_
  refine aw_iadd 25 dX10_hasNear_24 rfl ?_
  refine aw_icmp_gt 94 28 dX10_hasNear_25 rfl (by decide) (fun c1 => ?_) (fun c1 => ?_)
  · replace H := H.1 c1
    refine aw_iinc (y := 1) (loc' := [some (.ref a0), some (.int x1), some (.int x2), some (.int x3), some (.int (x4 + 1)), some (.int x5)]) 97 dX10_hasNear_94 rfl (by decide) rfl (by decide) rfl ?_
    refine aw_goto 7 dX10_hasNear_97 (by decide) ?_
    exact aw_fgt (by simp [leL]) H
  · replace H := H.2 c1
    refine aw_iload_n 29 dX10_hasNear_28 rfl rfl ?_
    refine aw_if_ne 82 32 dX10_hasNear_29 rfl (by decide) (fun c2 => ?_) (fun c2 => ?_)
    · replace H := H.1 c2
      refine aw_iconst (v := 1) 83 dX10_hasNear_82 rfl (by decide) ?_
      refine aw_goto 87 dX10_hasNear_83 (by decide) ?_
      refine aw_istore_n (loc' := [some (.ref a0), some (.int x1), some (.int x2), some (.int 1), some (.int x4), some (.int x5)]) 88 dX10_hasNear_87 rfl (by decide) rfl ?_
      refine aw_iinc (y := 1) (loc' := [some (.ref a0), some (.int x1), some (.int x2), some (.int 1), some (.int x4), some (.int (x5 + 1))]) 91 dX10_hasNear_88 rfl (by decide) rfl (by decide) rfl ?_
      refine aw_goto 20 dX10_hasNear_91 (by decide) ?_
      exact H
    · replace H := H.2 c2
      refine aw_iload 34 dX10_hasNear_32 rfl rfl ?_
      refine aw_i2l 35 dX10_hasNear_34 rfl ?_
      refine aw_lconst (v := 0) 36 dX10_hasNear_35 rfl (by decide) ?_
      refine aw_aload_n 37 dX10_hasNear_36 rfl rfl ?_
      obtain ⟨g3, H⟩ := H
      refine aw_getI 40 dX10_hasNear_37 rfl fl_X10_319 (by decide) g3 ?_
      refine aw_iconst (v := 1) 41 dX10_hasNear_40 rfl (by decide) ?_
      refine aw_isub 42 dX10_hasNear_41 rfl ?_
      refine aw_i2l 43 dX10_hasNear_42 rfl ?_
      refine aw_callS (stk := []) [.long x4.toInt64, .long 0, .long (((hI h a0 48) - 1).toInt64)] 46 dX10_hasNear_43 rfl mv_X10_131 ⟨by decide, by decide⟩ rfl rfl (by simp [Value.category]) (by decide) H ?_
      rintro _ h1 ⟨r1, rfl, H⟩
      refine aw_if_eq 86 49 dX10_hasNear_46 rfl (by decide) (fun c4 => ?_) (fun c4 => ?_)
      · replace H := H.1 c4
        refine aw_iconst (v := 0) 87 dX10_hasNear_86 rfl (by decide) ?_
        refine aw_istore_n (loc' := [some (.ref a0), some (.int x1), some (.int x2), some (.int 0), some (.int x4), some (.int x5)]) 88 dX10_hasNear_87 rfl (by decide) rfl ?_
        refine aw_iinc (y := 1) (loc' := [some (.ref a0), some (.int x1), some (.int x2), some (.int 0), some (.int x4), some (.int (x5 + 1))]) 91 dX10_hasNear_88 rfl (by decide) rfl (by decide) rfl ?_
        refine aw_goto 20 dX10_hasNear_91 (by decide) ?_
        exact H
      · replace H := H.2 c4
        refine aw_iload 51 dX10_hasNear_49 rfl rfl ?_
        refine aw_i2l 52 dX10_hasNear_51 rfl ?_
        refine aw_lconst (v := 0) 53 dX10_hasNear_52 rfl (by decide) ?_
        refine aw_aload_n 54 dX10_hasNear_53 rfl rfl ?_
        obtain ⟨g5, H⟩ := H
        refine aw_getI 57 dX10_hasNear_54 rfl fl_X10_322 (by decide) g5 ?_
        refine aw_iconst (v := 1) 58 dX10_hasNear_57 rfl (by decide) ?_
        refine aw_isub 59 dX10_hasNear_58 rfl ?_
        refine aw_i2l 60 dX10_hasNear_59 rfl ?_
        refine aw_callS (stk := []) [.long x5.toInt64, .long 0, .long (((hI h1 a0 50) - 1).toInt64)] 63 dX10_hasNear_60 rfl mv_X10_131 ⟨by decide, by decide⟩ rfl rfl (by simp [Value.category]) (by decide) H ?_
        rintro _ h2 ⟨r2, rfl, H⟩
        refine aw_if_eq 86 66 dX10_hasNear_63 rfl (by decide) (fun c6 => ?_) (fun c6 => ?_)
        · replace H := H.1 c6
          refine aw_iconst (v := 0) 87 dX10_hasNear_86 rfl (by decide) ?_
          refine aw_istore_n (loc' := [some (.ref a0), some (.int x1), some (.int x2), some (.int 0), some (.int x4), some (.int x5)]) 88 dX10_hasNear_87 rfl (by decide) rfl ?_
          refine aw_iinc (y := 1) (loc' := [some (.ref a0), some (.int x1), some (.int x2), some (.int 0), some (.int x4), some (.int (x5 + 1))]) 91 dX10_hasNear_88 rfl (by decide) rfl (by decide) rfl ?_
          refine aw_goto 20 dX10_hasNear_91 (by decide) ?_
          exact H
        · replace H := H.2 c6
          refine aw_aload_n 67 dX10_hasNear_66 rfl rfl ?_
          obtain ⟨g7, H⟩ := H
          obtain ⟨g8, H⟩ := H
          refine aw_getR 70 dX10_hasNear_67 rfl fl_X10_110 ir_10_53 g7 rfl g8 ?_
          refine aw_bipush (v := 20) 72 dX10_hasNear_70 rfl (by decide) ?_
          refine aw_iload 74 dX10_hasNear_72 rfl rfl ?_
          refine aw_imul 75 dX10_hasNear_74 rfl ?_
          refine aw_iload 77 dX10_hasNear_75 rfl rfl ?_
          refine aw_iadd 78 dX10_hasNear_77 rfl ?_
          obtain ⟨g9, H⟩ := H
          obtain ⟨g10, H⟩ := H
          refine aw_bald 79 dX10_hasNear_78 rfl (Or.inr (shp g9)) g10 ?_
          refine aw_if_eq 86 82 dX10_hasNear_79 rfl (by decide) (fun c11 => ?_) (fun c11 => ?_)
          · replace H := H.1 c11
            refine aw_iconst (v := 0) 87 dX10_hasNear_86 rfl (by decide) ?_
            refine aw_istore_n (loc' := [some (.ref a0), some (.int x1), some (.int x2), some (.int 0), some (.int x4), some (.int x5)]) 88 dX10_hasNear_87 rfl (by decide) rfl ?_
            refine aw_iinc (y := 1) (loc' := [some (.ref a0), some (.int x1), some (.int x2), some (.int 0), some (.int x4), some (.int (x5 + 1))]) 91 dX10_hasNear_88 rfl (by decide) rfl (by decide) rfl ?_
            refine aw_goto 20 dX10_hasNear_91 (by decide) ?_
            exact H
          · replace H := H.2 c11
            refine aw_iconst (v := 1) 83 dX10_hasNear_82 rfl (by decide) ?_
            refine aw_goto 87 dX10_hasNear_83 (by decide) ?_
            refine aw_istore_n (loc' := [some (.ref a0), some (.int x1), some (.int x2), some (.int 1), some (.int x4), some (.int x5)]) 88 dX10_hasNear_87 rfl (by decide) rfl ?_
            refine aw_iinc (y := 1) (loc' := [some (.ref a0), some (.int x1), some (.int x2), some (.int 1), some (.int x4), some (.int (x5 + 1))]) 91 dX10_hasNear_88 rfl (by decide) rfl (by decide) rfl ?_
            refine aw_goto 20 dX10_hasNear_91 (by decide) ?_
            exact H
set_option maxHeartbeats 4000000 in
set_option maxRecDepth 100000 in
theorem sX10_isFree_0 {w : Wd} {Q : Int32 → Hp → Prop} {h : Hp} {a0 : Nat} {x1 : Int32} {x2 : Int32} (H : AW w mX10_isFree 0 0 (rI Q) 0 0 8 [some (.ref a0), some (.int x1), some (.int x2), some (.int 1), some (.int 1), some (.int 0)] [] h) : AW w mX10_isFree 0 0 (rI Q) 0 0 0 [some (.ref a0), some (.int x1), some (.int x2), none, none, none] [] h := by
  refine aw_iconst (v := 1) 1 dX10_isFree_0 rfl (by decide) ?_
  refine aw_istore_n (loc' := [some (.ref a0), some (.int x1), some (.int x2), some (.int 1), none, none]) 2 dX10_isFree_1 rfl (by decide) rfl ?_
  refine aw_iconst (v := 1) 3 dX10_isFree_2 rfl (by decide) ?_
  refine aw_istore (loc' := [some (.ref a0), some (.int x1), some (.int x2), some (.int 1), some (.int 1), none]) 5 dX10_isFree_3 rfl (by decide) rfl ?_
  refine aw_iconst (v := 0) 6 dX10_isFree_5 rfl (by decide) ?_
  refine aw_istore (loc' := [some (.ref a0), some (.int x1), some (.int x2), some (.int 1), some (.int 1), some (.int 0)]) 8 dX10_isFree_6 rfl (by decide) rfl ?_
  exact H
theorem eX10_isFree {w : Wd} {Q : Int32 → Hp → Prop} {h : Hp} {a0 : Nat} {x1 : Int32} {x2 : Int32} (H : AW w mX10_isFree 0 0 (rI Q) 0 0 0 [some (.ref a0), some (.int x1), some (.int x2), none, none, none] [] h) : AC w mX10_isFree 0 0 (rI Q) [.ref a0, .int x1, .int x2] h := AC.ofL (by decide) (by simp [enl, Value.category]) (by simp [leL, enl, Value.category]) H
set_option maxHeartbeats 4000000 in
set_option maxRecDepth 100000 in
theorem sX10_isFree_8 {w : Wd} {Q : Int32 → Hp → Prop} {h : Hp} {a0 : Nat} {x1 : Int32} {x2 : Int32} {x3 : Int32} {x4 : Int32} {x5 : Int32} (H : (hs h a0).1 = 30 ∧ (((hI h a0 50) ≤ x5 → AW w mX10_isFree 0 0 (rI Q) 0 0 51 [some (.ref a0), none, some (.int x2), some (.int x3), some (.int x4), some (.int 0)] [] h) ∧ (¬ (hI h a0 50) ≤ x5 → ((x3 = 0 → AW w mX10_isFree 0 0 (rI Q) 0 0 8 [some (.ref a0), some (.int x1), some (.int x2), some (.int 0), some (.int x4), some (.int (x5 + 1))] [] h) ∧ (¬ x3 = 0 → hR h a0 53 ≠ 0 ∧ (hs h (hR h a0 53)).1 = 3 ∧ vp_in ((20 * x1) + x5) (hs h (hR h a0 53)).2 ∧ ((¬ (hI h (hR h a0 53) ((20 * x1) + x5).toNatClampNeg) = 0 → AW w mX10_isFree 0 0 (rI Q) 0 0 8 [some (.ref a0), some (.int x1), some (.int x2), some (.int 0), some (.int x4), some (.int (x5 + 1))] [] h) ∧ ((hI h (hR h a0 53) ((20 * x1) + x5).toNatClampNeg) = 0 → AW w mX10_isFree 0 0 (rI Q) 0 0 8 [some (.ref a0), some (.int x1), some (.int x2), some (.int 1), some (.int x4), some (.int (x5 + 1))] [] h))))))) : AW w mX10_isFree 0 0 (rI Q) 0 0 8 [some (.ref a0), some (.int x1), some (.int x2), some (.int x3), some (.int x4), some (.int x5)] [] h := by
  refine aw_iload 10 dX10_isFree_8 rfl rfl ?_
  refine aw_aload_n 11 dX10_isFree_10 rfl rfl ?_
  obtain ⟨g1, H⟩ := H
  refine aw_getI 14 dX10_isFree_11 rfl fl_X10_322 (by decide) g1 ?_
  refine aw_icmp_ge 48 17 dX10_isFree_14 rfl (by decide) (fun c2 => ?_) (fun c2 => ?_)
  · replace H := H.1 c2
    refine aw_iconst (v := 0) 49 dX10_isFree_48 rfl (by decide) ?_
    refine aw_istore (loc' := [some (.ref a0), some (.int x1), some (.int x2), some (.int x3), some (.int x4), some (.int 0)]) 51 dX10_isFree_49 rfl (by decide) rfl ?_
    exact aw_fgt (by simp [leL]) H
  · replace H := H.2 c2
    refine aw_iload_n 18 dX10_isFree_17 rfl rfl ?_
    refine aw_if_eq 40 21 dX10_isFree_18 rfl (by decide) (fun c3 => ?_) (fun c3 => ?_)
    · replace H := H.1 c3
      refine aw_iconst (v := 0) 41 dX10_isFree_40 rfl (by decide) ?_
      refine aw_istore_n (loc' := [some (.ref a0), some (.int x1), some (.int x2), some (.int 0), some (.int x4), some (.int x5)]) 42 dX10_isFree_41 rfl (by decide) rfl ?_
      refine aw_iinc (y := 1) (loc' := [some (.ref a0), some (.int x1), some (.int x2), some (.int 0), some (.int x4), some (.int (x5 + 1))]) 45 dX10_isFree_42 rfl (by decide) rfl (by decide) rfl ?_
      refine aw_goto 8 dX10_isFree_45 (by decide) ?_
      exact H
    · replace H := H.2 c3
      refine aw_aload_n 22 dX10_isFree_21 rfl rfl ?_
      obtain ⟨g4, H⟩ := H
      refine aw_getR 25 dX10_isFree_22 rfl fl_X10_110 ir_10_53 g1 rfl g4 ?_
      refine aw_bipush (v := 20) 27 dX10_isFree_25 rfl (by decide) ?_
      refine aw_iload_n 28 dX10_isFree_27 rfl rfl ?_
      refine aw_imul 29 dX10_isFree_28 rfl ?_
      refine aw_iload 31 dX10_isFree_29 rfl rfl ?_
      refine aw_iadd 32 dX10_isFree_31 rfl ?_
      obtain ⟨g5, H⟩ := H
      obtain ⟨g6, H⟩ := H
      refine aw_bald 33 dX10_isFree_32 rfl (Or.inr (shp g5)) g6 ?_
      refine aw_if_ne 40 36 dX10_isFree_33 rfl (by decide) (fun c7 => ?_) (fun c7 => ?_)
      · replace H := H.1 c7
        refine aw_iconst (v := 0) 41 dX10_isFree_40 rfl (by decide) ?_
        refine aw_istore_n (loc' := [some (.ref a0), some (.int x1), some (.int x2), some (.int 0), some (.int x4), some (.int x5)]) 42 dX10_isFree_41 rfl (by decide) rfl ?_
        refine aw_iinc (y := 1) (loc' := [some (.ref a0), some (.int x1), some (.int x2), some (.int 0), some (.int x4), some (.int (x5 + 1))]) 45 dX10_isFree_42 rfl (by decide) rfl (by decide) rfl ?_
        refine aw_goto 8 dX10_isFree_45 (by decide) ?_
        exact H
      · replace H := H.2 c7
        refine aw_iconst (v := 1) 37 dX10_isFree_36 rfl (by decide) ?_
        refine aw_goto 41 dX10_isFree_37 (by decide) ?_
        refine aw_istore_n (loc' := [some (.ref a0), some (.int x1), some (.int x2), some (.int 1), some (.int x4), some (.int x5)]) 42 dX10_isFree_41 rfl (by decide) rfl ?_
        refine aw_iinc (y := 1) (loc' := [some (.ref a0), some (.int x1), some (.int x2), some (.int 1), some (.int x4), some (.int (x5 + 1))]) 45 dX10_isFree_42 rfl (by decide) rfl (by decide) rfl ?_
        refine aw_goto 8 dX10_isFree_45 (by decide) ?_
        exact H
set_option maxHeartbeats 4000000 in
set_option maxRecDepth 100000 in
theorem sX10_isFree_51 {w : Wd} {Q : Int32 → Hp → Prop} {h : Hp} {a0 : Nat} {x2 : Int32} {x3 : Int32} {x4 : Int32} {x5 : Int32} (H : (hs h a0).1 = 30 ∧ (((hI h a0 48) ≤ x5 → ((¬ x3 = 0 → Q 1 h) ∧ (x3 = 0 → ((x4 = 0 → Q 0 h) ∧ (¬ x4 = 0 → Q 1 h))))) ∧ (¬ (hI h a0 48) ≤ x5 → ((x4 = 0 → AW w mX10_isFree 0 0 (rI Q) 0 0 51 [some (.ref a0), none, some (.int x2), some (.int x3), some (.int 0), some (.int (x5 + 1))] [] h) ∧ (¬ x4 = 0 → hR h a0 53 ≠ 0 ∧ (hs h (hR h a0 53)).1 = 3 ∧ vp_in ((20 * x5) + x2) (hs h (hR h a0 53)).2 ∧ ((¬ (hI h (hR h a0 53) ((20 * x5) + x2).toNatClampNeg) = 0 → AW w mX10_isFree 0 0 (rI Q) 0 0 51 [some (.ref a0), none, some (.int x2), some (.int x3), some (.int 0), some (.int (x5 + 1))] [] h) ∧ ((hI h (hR h a0 53) ((20 * x5) + x2).toNatClampNeg) = 0 → AW w mX10_isFree 0 0 (rI Q) 0 0 51 [some (.ref a0), none, some (.int x2), some (.int x3), some (.int 1), some (.int (x5 + 1))] [] h))))))) : AW w mX10_isFree 0 0 (rI Q) 0 0 51 [some (.ref a0), none, some (.int x2), some (.int x3), some (.int x4), some (.int x5)] [] h := by
  refine aw_iload 53 dX10_isFree_51 rfl rfl ?_
  refine aw_aload_n 54 dX10_isFree_53 rfl rfl ?_
  obtain ⟨g1, H⟩ := H
  refine aw_getI 57 dX10_isFree_54 rfl fl_X10_319 (by decide) g1 ?_
  refine aw_icmp_ge 93 60 dX10_isFree_57 rfl (by decide) (fun c2 => ?_) (fun c2 => ?_)
  · replace H := H.1 c2
    refine aw_iload_n 94 dX10_isFree_93 rfl rfl ?_
    refine aw_if_ne 102 97 dX10_isFree_94 rfl (by decide) (fun c3 => ?_) (fun c3 => ?_)
    · replace H := H.1 c3
      refine aw_iconst (v := 1) 103 dX10_isFree_102 rfl (by decide) ?_
      refine aw_goto 107 dX10_isFree_103 (by decide) ?_
      exact aw_zreturn dX10_isFree_107 rfl (by decide) (by decide) (by decide) ⟨_, rfl, H⟩
    · replace H := H.2 c3
      refine aw_iload 99 dX10_isFree_97 rfl rfl ?_
      refine aw_if_eq 106 102 dX10_isFree_99 rfl (by decide) (fun c4 => ?_) (fun c4 => ?_)
      · replace H := H.1 c4
        refine aw_iconst (v := 0) 107 dX10_isFree_106 rfl (by decide) ?_
        exact aw_zreturn dX10_isFree_107 rfl (by decide) (by decide) (by decide) ⟨_, rfl, H⟩
      · replace H := H.2 c4
        refine aw_iconst (v := 1) 103 dX10_isFree_102 rfl (by decide) ?_
        refine aw_goto 107 dX10_isFree_103 (by decide) ?_
        exact aw_zreturn dX10_isFree_107 rfl (by decide) (by decide) (by decide) ⟨_, rfl, H⟩
  · replace H := H.2 c2
    refine aw_iload 62 dX10_isFree_60 rfl rfl ?_
    refine aw_if_eq 84 65 dX10_isFree_62 rfl (by decide) (fun c5 => ?_) (fun c5 => ?_)
    · replace H := H.1 c5
      refine aw_iconst (v := 0) 85 dX10_isFree_84 rfl (by decide) ?_
      refine aw_istore (loc' := [some (.ref a0), none, some (.int x2), some (.int x3), some (.int 0), some (.int x5)]) 87 dX10_isFree_85 rfl (by decide) rfl ?_
      refine aw_iinc (y := 1) (loc' := [some (.ref a0), none, some (.int x2), some (.int x3), some (.int 0), some (.int (x5 + 1))]) 90 dX10_isFree_87 rfl (by decide) rfl (by decide) rfl ?_
      refine aw_goto 51 dX10_isFree_90 (by decide) ?_
      exact H
    · replace H := H.2 c5
      refine aw_aload_n 66 dX10_isFree_65 rfl rfl ?_
      obtain ⟨g6, H⟩ := H
      refine aw_getR 69 dX10_isFree_66 rfl fl_X10_110 ir_10_53 g1 rfl g6 ?_
      refine aw_bipush (v := 20) 71 dX10_isFree_69 rfl (by decide) ?_
      refine aw_iload 73 dX10_isFree_71 rfl rfl ?_
      refine aw_imul 74 dX10_isFree_73 rfl ?_
      refine aw_iload_n 75 dX10_isFree_74 rfl rfl ?_
      refine aw_iadd 76 dX10_isFree_75 rfl ?_
      obtain ⟨g7, H⟩ := H
      obtain ⟨g8, H⟩ := H
      refine aw_bald 77 dX10_isFree_76 rfl (Or.inr (shp g7)) g8 ?_
      refine aw_if_ne 84 80 dX10_isFree_77 rfl (by decide) (fun c9 => ?_) (fun c9 => ?_)
      · replace H := H.1 c9
        refine aw_iconst (v := 0) 85 dX10_isFree_84 rfl (by decide) ?_
        refine aw_istore (loc' := [some (.ref a0), none, some (.int x2), some (.int x3), some (.int 0), some (.int x5)]) 87 dX10_isFree_85 rfl (by decide) rfl ?_
        refine aw_iinc (y := 1) (loc' := [some (.ref a0), none, some (.int x2), some (.int x3), some (.int 0), some (.int (x5 + 1))]) 90 dX10_isFree_87 rfl (by decide) rfl (by decide) rfl ?_
        refine aw_goto 51 dX10_isFree_90 (by decide) ?_
        exact H
      · replace H := H.2 c9
        refine aw_iconst (v := 1) 81 dX10_isFree_80 rfl (by decide) ?_
        refine aw_goto 85 dX10_isFree_81 (by decide) ?_
        refine aw_istore (loc' := [some (.ref a0), none, some (.int x2), some (.int x3), some (.int 1), some (.int x5)]) 87 dX10_isFree_85 rfl (by decide) rfl ?_
        refine aw_iinc (y := 1) (loc' := [some (.ref a0), none, some (.int x2), some (.int x3), some (.int 1), some (.int (x5 + 1))]) 90 dX10_isFree_87 rfl (by decide) rfl (by decide) rfl ?_
        refine aw_goto 51 dX10_isFree_90 (by decide) ?_
        exact H
set_option maxHeartbeats 4000000 in
set_option maxRecDepth 100000 in
theorem sX10_grow_0 {w : Wd} {Q : Hp → Prop} {h : Hp} {a0 : Nat} (H : AW w mX10_grow 0 0 (rV Q) 0 0 2 [some (.ref a0), some (.int 0), none, none] [] h) : AW w mX10_grow 0 0 (rV Q) 0 0 0 [some (.ref a0), none, none, none] [] h := by
  refine aw_iconst (v := 0) 1 dX10_grow_0 rfl (by decide) ?_
  refine aw_istore_n (loc' := [some (.ref a0), some (.int 0), none, none]) 2 dX10_grow_1 rfl (by decide) rfl ?_
  exact H
theorem eX10_grow {w : Wd} {Q : Hp → Prop} {h : Hp} {a0 : Nat} (H : AW w mX10_grow 0 0 (rV Q) 0 0 0 [some (.ref a0), none, none, none] [] h) : AC w mX10_grow 0 0 (rV Q) [.ref a0] h := AC.ofL (by decide) (by simp [enl, Value.category]) (by simp [leL, enl, Value.category]) H
set_option maxHeartbeats 4000000 in
set_option maxRecDepth 100000 in
theorem sX10_grow_2 {w : Wd} {Q : Hp → Prop} {h : Hp} {a0 : Nat} {x1 : Int32} (H : (hs h a0).1 = 30 ∧ (((hI h a0 48) ≤ x1 → AW w mX10_grow 0 0 (rV Q) 0 0 51 [some (.ref a0), some (.int 1), none, none] [] h) ∧ (¬ (hI h a0 48) ≤ x1 → AW w mX10_grow 0 0 (rV Q) 0 0 12 [some (.ref a0), some (.int x1), some (.int 0), none] [] h))) : AW w mX10_grow 0 0 (rV Q) 0 0 2 [some (.ref a0), some (.int x1), none, none] [] h := by
  refine aw_iload_n 3 dX10_grow_2 rfl rfl ?_
  refine aw_aload_n 4 dX10_grow_3 rfl rfl ?_
  obtain ⟨g1, H⟩ := H
  refine aw_getI 7 dX10_grow_4 rfl fl_X10_319 (by decide) g1 ?_
  refine aw_icmp_ge 49 10 dX10_grow_7 rfl (by decide) (fun c2 => ?_) (fun c2 => ?_)
  · replace H := H.1 c2
    refine aw_iconst (v := 1) 50 dX10_grow_49 rfl (by decide) ?_
    refine aw_istore_n (loc' := [some (.ref a0), some (.int 1), none, none]) 51 dX10_grow_50 rfl (by decide) rfl ?_
    exact H
  · replace H := H.2 c2
    refine aw_iconst (v := 0) 11 dX10_grow_10 rfl (by decide) ?_
    refine aw_istore_n (loc' := [some (.ref a0), some (.int x1), some (.int 0), none]) 12 dX10_grow_11 rfl (by decide) rfl ?_
    exact H
set_option maxHeartbeats 4000000 in
set_option maxRecDepth 100000 in
theorem sX10_grow_12 {w : Wd} {Q : Hp → Prop} {h : Hp} {a0 : Nat} {x1 : Int32} {x2 : Int32} (H : (hs h a0).1 = 30 ∧ (((hI h a0 50) ≤ x2 → AW w mX10_grow 0 0 (rV Q) 0 0 2 [some (.ref a0), some (.int (x1 + 1)), none, none] [] h) ∧ (¬ (hI h a0 50) ≤ x2 → hR h a0 53 ≠ 0 ∧ AC w mX10_isBoth 0 0 (rI fun r1 h1 => (hs h1 (hR h a0 53)).1 = 3 ∧ vp_in ((20 * x1) + x2) (hs h1 (hR h a0 53)).2 ∧ ∀ h2, h2 = sI h1 (hR h a0 53) ((20 * x1) + x2).toNatClampNeg (vp_nar .boolean r1) → AW w mX10_grow 0 0 (rV Q) 0 0 12 [some (.ref a0), some (.int x1), some (.int (x2 + 1)), none] [] h2) [.ref a0, .int x1, .int x2] h))) : AW w mX10_grow 0 0 (rV Q) 0 0 12 [some (.ref a0), some (.int x1), some (.int x2), none] [] h := by
  refine aw_iload_n 13 dX10_grow_12 rfl rfl ?_
  refine aw_aload_n 14 dX10_grow_13 rfl rfl ?_
  obtain ⟨g1, H⟩ := H
  refine aw_getI 17 dX10_grow_14 rfl fl_X10_322 (by decide) g1 ?_
  refine aw_icmp_ge 43 20 dX10_grow_17 rfl (by decide) (fun c2 => ?_) (fun c2 => ?_)
  · replace H := H.1 c2
    refine aw_iinc (y := 1) (loc' := [some (.ref a0), some (.int (x1 + 1)), some (.int x2), none]) 46 dX10_grow_43 rfl (by decide) rfl (by decide) rfl ?_
    refine aw_goto 2 dX10_grow_46 (by decide) ?_
    exact aw_fgt (by simp [leL]) H
  · replace H := H.2 c2
    refine aw_aload_n 21 dX10_grow_20 rfl rfl ?_
    obtain ⟨g3, H⟩ := H
    refine aw_getR 24 dX10_grow_21 rfl fl_X10_110 ir_10_53 g1 rfl g3 ?_
    refine aw_bipush (v := 20) 26 dX10_grow_24 rfl (by decide) ?_
    refine aw_iload_n 27 dX10_grow_26 rfl rfl ?_
    refine aw_imul 28 dX10_grow_27 rfl ?_
    refine aw_iload_n 29 dX10_grow_28 rfl rfl ?_
    refine aw_iadd 30 dX10_grow_29 rfl ?_
    refine aw_aload_n 31 dX10_grow_30 rfl rfl ?_
    refine aw_iload_n 32 dX10_grow_31 rfl rfl ?_
    refine aw_iload_n 33 dX10_grow_32 rfl rfl ?_
    refine aw_callV (stk := [.int ((20 * x1) + x2), .ref (hR h a0 53)]) (ci := 10) [.int x1, .int x2] 36 dX10_grow_33 rfl mv_X10_328 ⟨by decide, by decide⟩ g1 (by intro r hr; cases hr; rfl) rfl rfl (by simp [Value.category]) (by decide) H ?_
    rintro _ h1 ⟨r1, rfl, H⟩
    obtain ⟨g4, H⟩ := H
    obtain ⟨g5, H⟩ := H
    refine aw_zast 37 dX10_grow_36 rfl (shp g4) g5 ?_
    replace H := H _ rfl
    refine aw_iinc (y := 1) (loc' := [some (.ref a0), some (.int x1), some (.int (x2 + 1)), none]) 40 dX10_grow_37 rfl (by decide) rfl (by decide) rfl ?_
    refine aw_goto 12 dX10_grow_40 (by decide) ?_
    exact H
set_option maxHeartbeats 4000000 in
set_option maxRecDepth 100000 in
theorem sX10_grow_51 {w : Wd} {Q : Hp → Prop} {h : Hp} {a0 : Nat} {x1 : Int32} (H : ((x1 = 0 → Q h) ∧ (¬ x1 = 0 → AW w mX10_grow 0 0 (rV Q) 0 0 59 [some (.ref a0), some (.int 0), some (.int 0), none] [] h))) : AW w mX10_grow 0 0 (rV Q) 0 0 51 [some (.ref a0), some (.int x1), none, none] [] h := by
  refine aw_iload_n 52 dX10_grow_51 rfl rfl ?_
  refine aw_if_eq 158 55 dX10_grow_52 rfl (by decide) (fun c1 => ?_) (fun c1 => ?_)
  · replace H := H.1 c1
    exact aw_return dX10_grow_158 rfl (by decide) (by decide) ⟨rfl, H⟩
  · replace H := H.2 c1
    refine aw_iconst (v := 0) 56 dX10_grow_55 rfl (by decide) ?_
    refine aw_istore_n (loc' := [some (.ref a0), some (.int 0), none, none]) 57 dX10_grow_56 rfl (by decide) rfl ?_
    refine aw_iconst (v := 0) 58 dX10_grow_57 rfl (by decide) ?_
    refine aw_istore_n (loc' := [some (.ref a0), some (.int 0), some (.int 0), none]) 59 dX10_grow_58 rfl (by decide) rfl ?_
    exact H
set_option maxHeartbeats 4000000 in
set_option maxRecDepth 100000 in
theorem sX10_grow_59 {w : Wd} {Q : Hp → Prop} {h : Hp} {a0 : Nat} {x1 : Int32} {x2 : Int32} (H : (hs h a0).1 = 30 ∧ (((hI h a0 48) ≤ x2 → AW w mX10_grow 0 0 (rV Q) 0 0 51 [some (.ref a0), some (.int x1), none, none] [] h) ∧ (¬ (hI h a0 48) ≤ x2 → AW w mX10_grow 0 0 (rV Q) 0 0 69 [some (.ref a0), some (.int x1), some (.int x2), some (.int 0)] [] h))) : AW w mX10_grow 0 0 (rV Q) 0 0 59 [some (.ref a0), some (.int x1), some (.int x2), none] [] h := by
  refine aw_iload_n 60 dX10_grow_59 rfl rfl ?_
  refine aw_aload_n 61 dX10_grow_60 rfl rfl ?_
  obtain ⟨g1, H⟩ := H
  refine aw_getI 64 dX10_grow_61 rfl fl_X10_319 (by decide) g1 ?_
  refine aw_icmp_ge 155 67 dX10_grow_64 rfl (by decide) (fun c2 => ?_) (fun c2 => ?_)
  · replace H := H.1 c2
    refine aw_goto 51 dX10_grow_155 (by decide) ?_
    exact aw_fgt (by simp [leL]) H
  · replace H := H.2 c2
    refine aw_iconst (v := 0) 68 dX10_grow_67 rfl (by decide) ?_
    refine aw_istore_n (loc' := [some (.ref a0), some (.int x1), some (.int x2), some (.int 0)]) 69 dX10_grow_68 rfl (by decide) rfl ?_
    exact H
set_option maxHeartbeats 4000000 in
set_option maxRecDepth 100000 in
theorem sX10_grow_69 {w : Wd} {Q : Hp → Prop} {h : Hp} {a0 : Nat} {x1 : Int32} {x2 : Int32} {x3 : Int32} (H : (hs h a0).1 = 30 ∧ (((hI h a0 50) ≤ x3 → AW w mX10_grow 0 0 (rV Q) 0 0 59 [some (.ref a0), some (.int x1), some (.int (x2 + 1)), none] [] h) ∧ (¬ (hI h a0 50) ≤ x3 → hR h a0 51 ≠ 0 ∧ (hs h (hR h a0 51)).1 = 1 ∧ vp_in x2 (hs h (hR h a0 51)).2 ∧ (((hI h (hR h a0 51) x2.toNatClampNeg) = x3 → AW w mX10_grow 0 0 (rV Q) 0 0 97 [some (.ref a0), some (.int x1), some (.int x2), some (.int x3)] [] h) ∧ (¬ (hI h (hR h a0 51) x2.toNatClampNeg) = x3 → hR h a0 52 ≠ 0 ∧ (hs h (hR h a0 52)).1 = 1 ∧ vp_in x3 (hs h (hR h a0 52)).2 ∧ ((¬ (hI h (hR h a0 52) x3.toNatClampNeg) = x2 → AW w mX10_grow 0 0 (rV Q) 0 0 69 [some (.ref a0), some (.int x1), some (.int x2), some (.int (x3 + 1))] [] h) ∧ ((hI h (hR h a0 52) x3.toNatClampNeg) = x2 → AW w mX10_grow 0 0 (rV Q) 0 0 97 [some (.ref a0), some (.int x1), some (.int x2), some (.int x3)] [] h))))))) : AW w mX10_grow 0 0 (rV Q) 0 0 69 [some (.ref a0), some (.int x1), some (.int x2), some (.int x3)] [] h := by
  refine aw_iload_n 70 dX10_grow_69 rfl rfl ?_
  refine aw_aload_n 71 dX10_grow_70 rfl rfl ?_
  obtain ⟨g1, H⟩ := H
  refine aw_getI 74 dX10_grow_71 rfl fl_X10_322 (by decide) g1 ?_
  refine aw_icmp_ge 149 77 dX10_grow_74 rfl (by decide) (fun c2 => ?_) (fun c2 => ?_)
  · replace H := H.1 c2
    refine aw_iinc (y := 1) (loc' := [some (.ref a0), some (.int x1), some (.int (x2 + 1)), some (.int x3)]) 152 dX10_grow_149 rfl (by decide) rfl (by decide) rfl ?_
    refine aw_goto 59 dX10_grow_152 (by decide) ?_
    exact aw_fgt (by simp [leL]) H
  · replace H := H.2 c2
    refine aw_aload_n 78 dX10_grow_77 rfl rfl ?_
    obtain ⟨g3, H⟩ := H
    refine aw_getR 81 dX10_grow_78 rfl fl_X10_104 ir_10_51 g1 rfl g3 ?_
    refine aw_iload_n 82 dX10_grow_81 rfl rfl ?_
    obtain ⟨g4, H⟩ := H
    obtain ⟨g5, H⟩ := H
    refine aw_iald 83 dX10_grow_82 rfl (Or.inl (shp g4)) g5 ?_
    refine aw_iload_n 84 dX10_grow_83 rfl rfl ?_
    refine aw_icmp_eq 97 87 dX10_grow_84 rfl (by decide) (fun c6 => ?_) (fun c6 => ?_)
    · replace H := H.1 c6
      exact H
    · replace H := H.2 c6
      refine aw_aload_n 88 dX10_grow_87 rfl rfl ?_
      obtain ⟨g7, H⟩ := H
      refine aw_getR 91 dX10_grow_88 rfl fl_X10_107 ir_10_52 g1 rfl g7 ?_
      refine aw_iload_n 92 dX10_grow_91 rfl rfl ?_
      obtain ⟨g8, H⟩ := H
      obtain ⟨g9, H⟩ := H
      refine aw_iald 93 dX10_grow_92 rfl (Or.inl (shp g8)) g9 ?_
      refine aw_iload_n 94 dX10_grow_93 rfl rfl ?_
      refine aw_icmp_ne 143 97 dX10_grow_94 rfl (by decide) (fun c10 => ?_) (fun c10 => ?_)
      · replace H := H.1 c10
        refine aw_iinc (y := 1) (loc' := [some (.ref a0), some (.int x1), some (.int x2), some (.int (x3 + 1))]) 146 dX10_grow_143 rfl (by decide) rfl (by decide) rfl ?_
        refine aw_goto 69 dX10_grow_146 (by decide) ?_
        exact H
      · replace H := H.2 c10
        exact H
set_option maxHeartbeats 4000000 in
set_option maxRecDepth 100000 in
theorem sX10_grow_97 {w : Wd} {Q : Hp → Prop} {h : Hp} {a0 : Nat} {x1 : Int32} {x2 : Int32} {x3 : Int32} (H : (hs h a0).1 = 30 ∧ hR h a0 53 ≠ 0 ∧ (hs h (hR h a0 53)).1 = 3 ∧ vp_in ((20 * x2) + x3) (hs h (hR h a0 53)).2 ∧ ((¬ (hI h (hR h a0 53) ((20 * x2) + x3).toNatClampNeg) = 0 → AW w mX10_grow 0 0 (rV Q) 0 0 69 [some (.ref a0), some (.int x1), some (.int x2), some (.int (x3 + 1))] [] h) ∧ ((hI h (hR h a0 53) ((20 * x2) + x3).toNatClampNeg) = 0 → AC w mX10_hasNear 0 0 (rI fun r1 h1 => ((r1 = 0 → AW w mX10_grow 0 0 (rV Q) 0 0 69 [some (.ref a0), some (.int x1), some (.int x2), some (.int (x3 + 1))] [] h1) ∧ (¬ r1 = 0 → (hs h1 a0).1 = 30 ∧ AC w mX10_isFree 0 0 (rI fun r2 h2 => ((r2 = 0 → AW w mX10_grow 0 0 (rV Q) 0 0 69 [some (.ref a0), some (.int x1), some (.int x2), some (.int (x3 + 1))] [] h2) ∧ (¬ r2 = 0 → (hs h2 a0).1 = 30 ∧ hR h2 a0 53 ≠ 0 ∧ (hs h2 (hR h2 a0 53)).1 = 3 ∧ vp_in ((20 * x2) + x3) (hs h2 (hR h2 a0 53)).2 ∧ ∀ h3, h3 = sI h2 (hR h2 a0 53) ((20 * x2) + x3).toNatClampNeg (vp_nar .boolean 1) → AW w mX10_grow 0 0 (rV Q) 0 0 69 [some (.ref a0), some (.int 1), some (.int x2), some (.int (x3 + 1))] [] h3))) [.ref a0, .int x2, .int x3] h1))) [.ref a0, .int x2, .int x3] h))) : AW w mX10_grow 0 0 (rV Q) 0 0 97 [some (.ref a0), some (.int x1), some (.int x2), some (.int x3)] [] h := by
  refine aw_aload_n 98 dX10_grow_97 rfl rfl ?_
  obtain ⟨g1, H⟩ := H
  obtain ⟨g2, H⟩ := H
  refine aw_getR 101 dX10_grow_98 rfl fl_X10_110 ir_10_53 g1 rfl g2 ?_
  refine aw_bipush (v := 20) 103 dX10_grow_101 rfl (by decide) ?_
  refine aw_iload_n 104 dX10_grow_103 rfl rfl ?_
  refine aw_imul 105 dX10_grow_104 rfl ?_
  refine aw_iload_n 106 dX10_grow_105 rfl rfl ?_
  refine aw_iadd 107 dX10_grow_106 rfl ?_
  obtain ⟨g3, H⟩ := H
  obtain ⟨g4, H⟩ := H
  refine aw_bald 108 dX10_grow_107 rfl (Or.inr (shp g3)) g4 ?_
  refine aw_if_ne 143 111 dX10_grow_108 rfl (by decide) (fun c5 => ?_) (fun c5 => ?_)
  · replace H := H.1 c5
    refine aw_iinc (y := 1) (loc' := [some (.ref a0), some (.int x1), some (.int x2), some (.int (x3 + 1))]) 146 dX10_grow_143 rfl (by decide) rfl (by decide) rfl ?_
    refine aw_goto 69 dX10_grow_146 (by decide) ?_
    exact H
  · replace H := H.2 c5
    refine aw_aload_n 112 dX10_grow_111 rfl rfl ?_
    refine aw_iload_n 113 dX10_grow_112 rfl rfl ?_
    refine aw_iload_n 114 dX10_grow_113 rfl rfl ?_
    refine aw_callV (stk := []) (ci := 10) [.int x2, .int x3] 117 dX10_grow_114 rfl mv_X10_331 ⟨by decide, by decide⟩ g1 (by intro r hr; cases hr; rfl) rfl rfl (by simp [Value.category]) (by decide) H ?_
    rintro _ h1 ⟨r1, rfl, H⟩
    refine aw_if_eq 143 120 dX10_grow_117 rfl (by decide) (fun c6 => ?_) (fun c6 => ?_)
    · replace H := H.1 c6
      refine aw_iinc (y := 1) (loc' := [some (.ref a0), some (.int x1), some (.int x2), some (.int (x3 + 1))]) 146 dX10_grow_143 rfl (by decide) rfl (by decide) rfl ?_
      refine aw_goto 69 dX10_grow_146 (by decide) ?_
      exact H
    · replace H := H.2 c6
      refine aw_aload_n 121 dX10_grow_120 rfl rfl ?_
      refine aw_iload_n 122 dX10_grow_121 rfl rfl ?_
      refine aw_iload_n 123 dX10_grow_122 rfl rfl ?_
      obtain ⟨g7, H⟩ := H
      refine aw_callV (stk := []) (ci := 10) [.int x2, .int x3] 126 dX10_grow_123 rfl mv_X10_334 ⟨by decide, by decide⟩ g7 (by intro r hr; cases hr; rfl) rfl rfl (by simp [Value.category]) (by decide) H ?_
      rintro _ h2 ⟨r2, rfl, H⟩
      refine aw_if_eq 143 129 dX10_grow_126 rfl (by decide) (fun c8 => ?_) (fun c8 => ?_)
      · replace H := H.1 c8
        refine aw_iinc (y := 1) (loc' := [some (.ref a0), some (.int x1), some (.int x2), some (.int (x3 + 1))]) 146 dX10_grow_143 rfl (by decide) rfl (by decide) rfl ?_
        refine aw_goto 69 dX10_grow_146 (by decide) ?_
        exact H
      · replace H := H.2 c8
        refine aw_aload_n 130 dX10_grow_129 rfl rfl ?_
        obtain ⟨g9, H⟩ := H
        obtain ⟨g10, H⟩ := H
        refine aw_getR 133 dX10_grow_130 rfl fl_X10_110 ir_10_53 g9 rfl g10 ?_
        refine aw_bipush (v := 20) 135 dX10_grow_133 rfl (by decide) ?_
        refine aw_iload_n 136 dX10_grow_135 rfl rfl ?_
        refine aw_imul 137 dX10_grow_136 rfl ?_
        refine aw_iload_n 138 dX10_grow_137 rfl rfl ?_
        refine aw_iadd 139 dX10_grow_138 rfl ?_
        refine aw_iconst (v := 1) 140 dX10_grow_139 rfl (by decide) ?_
        obtain ⟨g11, H⟩ := H
        obtain ⟨g12, H⟩ := H
        refine aw_zast 141 dX10_grow_140 rfl (shp g11) g12 ?_
        replace H := H _ rfl
        refine aw_iconst (v := 1) 142 dX10_grow_141 rfl (by decide) ?_
        refine aw_istore_n (loc' := [some (.ref a0), some (.int 1), some (.int x2), some (.int x3)]) 143 dX10_grow_142 rfl (by decide) rfl ?_
        refine aw_iinc (y := 1) (loc' := [some (.ref a0), some (.int 1), some (.int x2), some (.int (x3 + 1))]) 146 dX10_grow_143 rfl (by decide) rfl (by decide) rfl ?_
        refine aw_goto 69 dX10_grow_146 (by decide) ?_
        exact H
set_option maxHeartbeats 4000000 in
set_option maxRecDepth 100000 in
theorem sX10_isLinkable_0 {w : Wd} {Q : Int32 → Hp → Prop} {h : Hp} {a0 : Nat} {x1 : Int32} (H : (hs h a0).1 = 30 ∧ hR h a0 42 ≠ 0 ∧ (hs h (hR h a0 42)).1 = 1 ∧ vp_in x1 (hs h (hR h a0 42)).2 ∧ (((hI h (hR h a0 42) x1.toNatClampNeg) = 0 → Q 1 h) ∧ (¬ (hI h (hR h a0 42) x1.toNatClampNeg) = 0 → AC w mX10_in 0 0 (rI fun r1 h1 => ((r1 = 0 → Q 0 h1) ∧ (¬ r1 = 0 → Q 1 h1))) [.long ((hI h (hR h a0 42) x1.toNatClampNeg).toInt64), .long 3, .long 5] h))) : AW w mX10_isLinkable 0 0 (rI Q) 0 0 0 [some (.ref a0), some (.int x1)] [] h := by
  refine aw_aload_n 1 dX10_isLinkable_0 rfl rfl ?_
  obtain ⟨g1, H⟩ := H
  obtain ⟨g2, H⟩ := H
  refine aw_getR 4 dX10_isLinkable_1 rfl fl_X10_85 ir_10_42 g1 rfl g2 ?_
  refine aw_iload_n 5 dX10_isLinkable_4 rfl rfl ?_
  obtain ⟨g3, H⟩ := H
  obtain ⟨g4, H⟩ := H
  refine aw_iald 6 dX10_isLinkable_5 rfl (Or.inl (shp g3)) g4 ?_
  refine aw_if_eq 28 9 dX10_isLinkable_6 rfl (by decide) (fun c5 => ?_) (fun c5 => ?_)
  · replace H := H.1 c5
    refine aw_iconst (v := 1) 29 dX10_isLinkable_28 rfl (by decide) ?_
    refine aw_goto 33 dX10_isLinkable_29 (by decide) ?_
    exact aw_zreturn dX10_isLinkable_33 rfl (by decide) (by decide) (by decide) ⟨_, rfl, H⟩
  · replace H := H.2 c5
    refine aw_aload_n 10 dX10_isLinkable_9 rfl rfl ?_
    refine aw_getR 13 dX10_isLinkable_10 rfl fl_X10_85 ir_10_42 g1 rfl g2 ?_
    refine aw_iload_n 14 dX10_isLinkable_13 rfl rfl ?_
    refine aw_iald 15 dX10_isLinkable_14 rfl (Or.inl (shp g3)) g4 ?_
    refine aw_i2l 16 dX10_isLinkable_15 rfl ?_
    refine aw_ldc2 19 dX10_isLinkable_16 rfl kc_X10_337 ?_
    refine aw_ldc2 22 dX10_isLinkable_19 rfl kc_X10_339 ?_
    refine aw_callS (stk := []) [.long ((hI h (hR h a0 42) x1.toNatClampNeg).toInt64), .long 3, .long 5] 25 dX10_isLinkable_22 rfl mv_X10_131 ⟨by decide, by decide⟩ rfl rfl (by simp [Value.category]) (by decide) H ?_
    rintro _ h1 ⟨r1, rfl, H⟩
    refine aw_if_eq 32 28 dX10_isLinkable_25 rfl (by decide) (fun c6 => ?_) (fun c6 => ?_)
    · replace H := H.1 c6
      refine aw_iconst (v := 0) 33 dX10_isLinkable_32 rfl (by decide) ?_
      exact aw_zreturn dX10_isLinkable_33 rfl (by decide) (by decide) (by decide) ⟨_, rfl, H⟩
    · replace H := H.2 c6
      refine aw_iconst (v := 1) 29 dX10_isLinkable_28 rfl (by decide) ?_
      refine aw_goto 33 dX10_isLinkable_29 (by decide) ?_
      exact aw_zreturn dX10_isLinkable_33 rfl (by decide) (by decide) (by decide) ⟨_, rfl, H⟩
theorem eX10_isLinkable {w : Wd} {Q : Int32 → Hp → Prop} {h : Hp} {a0 : Nat} {x1 : Int32} (H : AW w mX10_isLinkable 0 0 (rI Q) 0 0 0 [some (.ref a0), some (.int x1)] [] h) : AC w mX10_isLinkable 0 0 (rI Q) [.ref a0, .int x1] h := AC.ofL (by decide) (by simp [enl, Value.category]) (by simp [leL, enl, Value.category]) H
set_option maxHeartbeats 4000000 in
set_option maxRecDepth 100000 in
theorem sX10_link_0 {w : Wd} {Q : Int32 → Hp → Prop} {h : Hp} {a0 : Nat} {x1 : Int32} {x2 : Int32} {x3 : Int32} (H : (hs h a0).1 = 30 ∧ AC w mX10_isJoint 0 0 (rI fun r1 h1 => ((¬ r1 = 0 → AC w mX10_in 0 0 (rI fun r2 h2 => ((¬ r2 = 0 → (hs h2 a0).1 = 30 ∧ AC w mX10_gather 0 0 (rV fun h3 => ((¬ x2 = 0 → (hs h3 a0).1 = 30 ∧ AW w mX10_link 0 0 (rI Q) 0 0 47 [some (.ref a0), some (.int x1), some (.int x2), some (.int x3)] [.int (hI h3 a0 50), .long 0, .long x3.toInt64] h3) ∧ (x2 = 0 → (hs h3 a0).1 = 30 ∧ AW w mX10_link 0 0 (rI Q) 0 0 47 [some (.ref a0), some (.int x1), some (.int x2), some (.int x3)] [.int (hI h3 a0 48), .long 0, .long x3.toInt64] h3))) [.ref a0, .int x1] h2) ∧ (r2 = 0 → Q (-100002) h2))) [.long x2.toInt64, .long 0, .long 1] h1) ∧ (r1 = 0 → Q (-100001) h1))) [.ref a0, .int x1] h) : AW w mX10_link 0 0 (rI Q) 0 0 0 [some (.ref a0), some (.int x1), some (.int x2), some (.int x3)] [] h := by
  refine aw_aload_n 1 dX10_link_0 rfl rfl ?_
  refine aw_iload_n 2 dX10_link_1 rfl rfl ?_
  obtain ⟨g1, H⟩ := H
  refine aw_callV (stk := []) (ci := 10) [.int x1] 5 dX10_link_2 rfl mv_X10_297 ⟨by decide, by decide⟩ g1 (by intro r hr; cases hr; rfl) rfl rfl (by simp [Value.category]) (by decide) H ?_
  rintro _ h1 ⟨r1, rfl, H⟩
  refine aw_if_ne 11 8 dX10_link_5 rfl (by decide) (fun c2 => ?_) (fun c2 => ?_)
  · replace H := H.1 c2
    refine aw_iload_n 12 dX10_link_11 rfl rfl ?_
    refine aw_i2l 13 dX10_link_12 rfl ?_
    refine aw_lconst (v := 0) 14 dX10_link_13 rfl (by decide) ?_
    refine aw_lconst (v := 1) 15 dX10_link_14 rfl (by decide) ?_
    refine aw_callS (stk := []) [.long x2.toInt64, .long 0, .long 1] 18 dX10_link_15 rfl mv_X10_131 ⟨by decide, by decide⟩ rfl rfl (by simp [Value.category]) (by decide) H ?_
    rintro _ h2 ⟨r2, rfl, H⟩
    refine aw_if_ne 24 21 dX10_link_18 rfl (by decide) (fun c3 => ?_) (fun c3 => ?_)
    · replace H := H.1 c3
      refine aw_aload_n 25 dX10_link_24 rfl rfl ?_
      refine aw_iload_n 26 dX10_link_25 rfl rfl ?_
      obtain ⟨g4, H⟩ := H
      refine aw_callV (stk := []) (ci := 10) [.int x1] 29 dX10_link_26 rfl mv_X10_341 ⟨by decide, by decide⟩ g4 (by intro r hr; cases hr; rfl) rfl rfl (by simp [Value.category]) (by decide) H ?_
      rintro _ h3 ⟨rfl, H⟩
      refine aw_iload_n 30 dX10_link_29 rfl rfl ?_
      refine aw_i2l 31 dX10_link_30 rfl ?_
      refine aw_lconst (v := 0) 32 dX10_link_31 rfl (by decide) ?_
      refine aw_iload_n 33 dX10_link_32 rfl rfl ?_
      refine aw_if_ne 43 36 dX10_link_33 rfl (by decide) (fun c5 => ?_) (fun c5 => ?_)
      · replace H := H.1 c5
        refine aw_aload_n 44 dX10_link_43 rfl rfl ?_
        obtain ⟨g6, H⟩ := H
        refine aw_getI 47 dX10_link_44 rfl fl_X10_322 (by decide) g6 ?_
        exact H
      · replace H := H.2 c5
        refine aw_aload_n 37 dX10_link_36 rfl rfl ?_
        obtain ⟨g7, H⟩ := H
        refine aw_getI 40 dX10_link_37 rfl fl_X10_319 (by decide) g7 ?_
        refine aw_goto 47 dX10_link_40 (by decide) ?_
        exact H
    · replace H := H.2 c3
      refine aw_ldc 23 dX10_link_21 rfl kc_X10_135 ?_
      exact aw_ireturn dX10_link_23 rfl (by decide) (by decide) ⟨_, rfl, H⟩
  · replace H := H.2 c2
    refine aw_ldc 10 dX10_link_8 rfl kc_X10_194 ?_
    exact aw_ireturn dX10_link_10 rfl (by decide) (by decide) ⟨_, rfl, H⟩
theorem eX10_link {w : Wd} {Q : Int32 → Hp → Prop} {h : Hp} {a0 : Nat} {x1 : Int32} {x2 : Int32} {x3 : Int32} (H : AW w mX10_link 0 0 (rI Q) 0 0 0 [some (.ref a0), some (.int x1), some (.int x2), some (.int x3)] [] h) : AC w mX10_link 0 0 (rI Q) [.ref a0, .int x1, .int x2, .int x3] h := AC.ofL (by decide) (by simp [enl, Value.category]) (by simp [leL, enl, Value.category]) H
set_option maxHeartbeats 4000000 in
set_option maxRecDepth 100000 in
theorem sX10_link_47 {w : Wd} {Q : Int32 → Hp → Prop} {h : Hp} {a0 : Nat} {x1 : Int32} {x2 : Int32} {x3 : Int32} {z0 : Int64} {z1 : Int64} {y2 : Int32} (H : AC w mX10_in 0 0 (rI fun r1 h1 => ((¬ r1 = 0 → (hs h1 a0).1 = 30 ∧ AC w mX10_isLinkable 0 0 (rI fun r2 h2 => ((¬ r2 = 0 → (hs h2 a0).1 = 30 ∧ AC w mX10_linkAll 0 0 (rV fun h3 => ((¬ x2 = 0 → (hs h3 a0).1 = 30 ∧ hR h3 a0 52 ≠ 0 ∧ (hs h3 (hR h3 a0 52)).1 = 1 ∧ vp_in x3 (hs h3 (hR h3 a0 52)).2 ∧ Q (hI h3 (hR h3 a0 52) x3.toNatClampNeg) h3) ∧ (x2 = 0 → (hs h3 a0).1 = 30 ∧ hR h3 a0 51 ≠ 0 ∧ (hs h3 (hR h3 a0 51)).1 = 1 ∧ vp_in x3 (hs h3 (hR h3 a0 51)).2 ∧ Q (hI h3 (hR h3 a0 51) x3.toNatClampNeg) h3))) [.ref a0] h2) ∧ (r2 = 0 → Q (-100003) h2))) [.ref a0, .int x1] h1) ∧ (r1 = 0 → Q (-100001) h1))) [.long z0, .long z1, .long ((y2 - 1).toInt64)] h) : AW w mX10_link 0 0 (rI Q) 0 0 47 [some (.ref a0), some (.int x1), some (.int x2), some (.int x3)] [.int y2, .long z1, .long z0] h := by
  refine aw_iconst (v := 1) 48 dX10_link_47 rfl (by decide) ?_
  refine aw_isub 49 dX10_link_48 rfl ?_
  refine aw_i2l 50 dX10_link_49 rfl ?_
  refine aw_callS (stk := []) [.long z0, .long z1, .long ((y2 - 1).toInt64)] 53 dX10_link_50 rfl mv_X10_131 ⟨by decide, by decide⟩ rfl rfl (by simp [Value.category]) (by decide) H ?_
  rintro _ h1 ⟨r1, rfl, H⟩
  refine aw_if_ne 59 56 dX10_link_53 rfl (by decide) (fun c1 => ?_) (fun c1 => ?_)
  · replace H := H.1 c1
    refine aw_aload_n 60 dX10_link_59 rfl rfl ?_
    refine aw_iload_n 61 dX10_link_60 rfl rfl ?_
    obtain ⟨g2, H⟩ := H
    refine aw_callV (stk := []) (ci := 10) [.int x1] 64 dX10_link_61 rfl mv_X10_344 ⟨by decide, by decide⟩ g2 (by intro r hr; cases hr; rfl) rfl rfl (by simp [Value.category]) (by decide) H ?_
    rintro _ h2 ⟨r2, rfl, H⟩
    refine aw_if_ne 70 67 dX10_link_64 rfl (by decide) (fun c3 => ?_) (fun c3 => ?_)
    · replace H := H.1 c3
      refine aw_aload_n 71 dX10_link_70 rfl rfl ?_
      obtain ⟨g4, H⟩ := H
      refine aw_callV (stk := []) (ci := 10) [] 74 dX10_link_71 rfl mv_X10_347 ⟨by decide, by decide⟩ g4 (by intro r hr; cases hr; rfl) rfl rfl (by simp [Value.category]) (by decide) H ?_
      rintro _ h3 ⟨rfl, H⟩
      refine aw_iload_n 75 dX10_link_74 rfl rfl ?_
      refine aw_if_ne 87 78 dX10_link_75 rfl (by decide) (fun c5 => ?_) (fun c5 => ?_)
      · replace H := H.1 c5
        refine aw_aload_n 88 dX10_link_87 rfl rfl ?_
        obtain ⟨g6, H⟩ := H
        obtain ⟨g7, H⟩ := H
        refine aw_getR 91 dX10_link_88 rfl fl_X10_107 ir_10_52 g6 rfl g7 ?_
        refine aw_iload_n 92 dX10_link_91 rfl rfl ?_
        obtain ⟨g8, H⟩ := H
        obtain ⟨g9, H⟩ := H
        refine aw_iald 93 dX10_link_92 rfl (Or.inl (shp g8)) g9 ?_
        exact aw_ireturn dX10_link_93 rfl (by decide) (by decide) ⟨_, rfl, H⟩
      · replace H := H.2 c5
        refine aw_aload_n 79 dX10_link_78 rfl rfl ?_
        obtain ⟨g10, H⟩ := H
        obtain ⟨g11, H⟩ := H
        refine aw_getR 82 dX10_link_79 rfl fl_X10_104 ir_10_51 g10 rfl g11 ?_
        refine aw_iload_n 83 dX10_link_82 rfl rfl ?_
        obtain ⟨g12, H⟩ := H
        obtain ⟨g13, H⟩ := H
        refine aw_iald 84 dX10_link_83 rfl (Or.inl (shp g12)) g13 ?_
        refine aw_goto 93 dX10_link_84 (by decide) ?_
        exact aw_ireturn dX10_link_93 rfl (by decide) (by decide) ⟨_, rfl, H⟩
    · replace H := H.2 c3
      refine aw_ldc 69 dX10_link_67 rfl kc_X10_156 ?_
      exact aw_ireturn dX10_link_69 rfl (by decide) (by decide) ⟨_, rfl, H⟩
  · replace H := H.2 c1
    refine aw_ldc 58 dX10_link_56 rfl kc_X10_194 ?_
    exact aw_ireturn dX10_link_58 rfl (by decide) (by decide) ⟨_, rfl, H⟩
set_option maxHeartbeats 4000000 in
set_option maxRecDepth 100000 in
theorem sX10_linked_0 {w : Wd} {Q : Int32 → Hp → Prop} {h : Hp} {a0 : Nat} {x1 : Int32} {x2 : Int32} {x3 : Int32} {x4 : Int32} (H : (hs h a0).1 = 30 ∧ AC w mX10_isJoint 0 0 (rI fun r1 h1 => ((¬ r1 = 0 → (hs h1 a0).1 = 30 ∧ AC w mX10_gather 0 0 (rV fun h2 => (hs h2 a0).1 = 30 ∧ AC w mX10_in 0 0 (rI fun r3 h3 => ((r3 = 0 → Q (-100001) h3) ∧ (¬ r3 = 0 → (hs h3 a0).1 = 30 ∧ AC w mX10_in 0 0 (rI fun r4 h4 => ((¬ r4 = 0 → AC w mX10_in 0 0 (rI fun r5 h5 => ((¬ r5 = 0 → (hs h5 a0).1 = 30 ∧ AC w mX10_isLinkable 0 0 (rI fun r6 h6 => ((¬ r6 = 0 → (hs h6 a0).1 = 30 ∧ AC w mX10_linkAll 0 0 (rV fun h7 => (hs h7 a0).1 = 30 ∧ AC w mX10_grow 0 0 (rV fun h8 => ((¬ x2 = 0 → (hs h8 a0).1 = 30 ∧ hR h8 a0 53 ≠ 0 ∧ (hs h8 (hR h8 a0 53)).1 = 3 ∧ vp_in ((20 * x3) + x4) (hs h8 (hR h8 a0 53)).2 ∧ (((hI h8 (hR h8 a0 53) ((20 * x3) + x4).toNatClampNeg) = 0 → Q 0 h8) ∧ (¬ (hI h8 (hR h8 a0 53) ((20 * x3) + x4).toNatClampNeg) = 0 → Q 1 h8))) ∧ (x2 = 0 → (hs h8 a0).1 = 30 ∧ AC w mX10_isBoth 0 0 (rI fun r9 h9 => ((r9 = 0 → Q 0 h9) ∧ (¬ r9 = 0 → Q 1 h9))) [.ref a0, .int x3, .int x4] h8))) [.ref a0] h7) [.ref a0] h6) ∧ (r6 = 0 → Q (-100003) h6))) [.ref a0, .int x1] h5) ∧ (r5 = 0 → Q (-100002) h5))) [.long x2.toInt64, .long 0, .long 1] h4) ∧ (r4 = 0 → Q (-100001) h4))) [.long x4.toInt64, .long 0, .long (((hI h3 a0 50) - 1).toInt64)] h3))) [.long x3.toInt64, .long 0, .long (((hI h2 a0 48) - 1).toInt64)] h2) [.ref a0, .int x1] h1) ∧ (r1 = 0 → Q (-100001) h1))) [.ref a0, .int x1] h) : AW w mX10_linked 0 0 (rI Q) 0 0 0 [some (.ref a0), some (.int x1), some (.int x2), some (.int x3), some (.int x4)] [] h := by
  refine aw_aload_n 1 dX10_linked_0 rfl rfl ?_
  refine aw_iload_n 2 dX10_linked_1 rfl rfl ?_
  obtain ⟨g1, H⟩ := H
  refine aw_callV (stk := []) (ci := 10) [.int x1] 5 dX10_linked_2 rfl mv_X10_297 ⟨by decide, by decide⟩ g1 (by intro r hr; cases hr; rfl) rfl rfl (by simp [Value.category]) (by decide) H ?_
  rintro _ h1 ⟨r1, rfl, H⟩
  refine aw_if_ne 11 8 dX10_linked_5 rfl (by decide) (fun c2 => ?_) (fun c2 => ?_)
  · replace H := H.1 c2
    refine aw_aload_n 12 dX10_linked_11 rfl rfl ?_
    refine aw_iload_n 13 dX10_linked_12 rfl rfl ?_
    obtain ⟨g3, H⟩ := H
    refine aw_callV (stk := []) (ci := 10) [.int x1] 16 dX10_linked_13 rfl mv_X10_341 ⟨by decide, by decide⟩ g3 (by intro r hr; cases hr; rfl) rfl rfl (by simp [Value.category]) (by decide) H ?_
    rintro _ h2 ⟨rfl, H⟩
    refine aw_iload_n 17 dX10_linked_16 rfl rfl ?_
    refine aw_i2l 18 dX10_linked_17 rfl ?_
    refine aw_lconst (v := 0) 19 dX10_linked_18 rfl (by decide) ?_
    refine aw_aload_n 20 dX10_linked_19 rfl rfl ?_
    obtain ⟨g4, H⟩ := H
    refine aw_getI 23 dX10_linked_20 rfl fl_X10_319 (by decide) g4 ?_
    refine aw_iconst (v := 1) 24 dX10_linked_23 rfl (by decide) ?_
    refine aw_isub 25 dX10_linked_24 rfl ?_
    refine aw_i2l 26 dX10_linked_25 rfl ?_
    refine aw_callS (stk := []) [.long x3.toInt64, .long 0, .long (((hI h2 a0 48) - 1).toInt64)] 29 dX10_linked_26 rfl mv_X10_131 ⟨by decide, by decide⟩ rfl rfl (by simp [Value.category]) (by decide) H ?_
    rintro _ h3 ⟨r3, rfl, H⟩
    refine aw_if_eq 49 32 dX10_linked_29 rfl (by decide) (fun c5 => ?_) (fun c5 => ?_)
    · replace H := H.1 c5
      refine aw_ldc 51 dX10_linked_49 rfl kc_X10_194 ?_
      exact aw_ireturn dX10_linked_51 rfl (by decide) (by decide) ⟨_, rfl, H⟩
    · replace H := H.2 c5
      refine aw_iload 34 dX10_linked_32 rfl rfl ?_
      refine aw_i2l 35 dX10_linked_34 rfl ?_
      refine aw_lconst (v := 0) 36 dX10_linked_35 rfl (by decide) ?_
      refine aw_aload_n 37 dX10_linked_36 rfl rfl ?_
      obtain ⟨g6, H⟩ := H
      refine aw_getI 40 dX10_linked_37 rfl fl_X10_322 (by decide) g6 ?_
      refine aw_iconst (v := 1) 41 dX10_linked_40 rfl (by decide) ?_
      refine aw_isub 42 dX10_linked_41 rfl ?_
      refine aw_i2l 43 dX10_linked_42 rfl ?_
      refine aw_callS (stk := []) [.long x4.toInt64, .long 0, .long (((hI h3 a0 50) - 1).toInt64)] 46 dX10_linked_43 rfl mv_X10_131 ⟨by decide, by decide⟩ rfl rfl (by simp [Value.category]) (by decide) H ?_
      rintro _ h4 ⟨r4, rfl, H⟩
      refine aw_if_ne 52 49 dX10_linked_46 rfl (by decide) (fun c7 => ?_) (fun c7 => ?_)
      · replace H := H.1 c7
        refine aw_iload_n 53 dX10_linked_52 rfl rfl ?_
        refine aw_i2l 54 dX10_linked_53 rfl ?_
        refine aw_lconst (v := 0) 55 dX10_linked_54 rfl (by decide) ?_
        refine aw_lconst (v := 1) 56 dX10_linked_55 rfl (by decide) ?_
        refine aw_callS (stk := []) [.long x2.toInt64, .long 0, .long 1] 59 dX10_linked_56 rfl mv_X10_131 ⟨by decide, by decide⟩ rfl rfl (by simp [Value.category]) (by decide) H ?_
        rintro _ h5 ⟨r5, rfl, H⟩
        refine aw_if_ne 65 62 dX10_linked_59 rfl (by decide) (fun c8 => ?_) (fun c8 => ?_)
        · replace H := H.1 c8
          refine aw_aload_n 66 dX10_linked_65 rfl rfl ?_
          refine aw_iload_n 67 dX10_linked_66 rfl rfl ?_
          obtain ⟨g9, H⟩ := H
          refine aw_callV (stk := []) (ci := 10) [.int x1] 70 dX10_linked_67 rfl mv_X10_344 ⟨by decide, by decide⟩ g9 (by intro r hr; cases hr; rfl) rfl rfl (by simp [Value.category]) (by decide) H ?_
          rintro _ h6 ⟨r6, rfl, H⟩
          refine aw_if_ne 76 73 dX10_linked_70 rfl (by decide) (fun c10 => ?_) (fun c10 => ?_)
          · replace H := H.1 c10
            refine aw_aload_n 77 dX10_linked_76 rfl rfl ?_
            obtain ⟨g11, H⟩ := H
            refine aw_callV (stk := []) (ci := 10) [] 80 dX10_linked_77 rfl mv_X10_347 ⟨by decide, by decide⟩ g11 (by intro r hr; cases hr; rfl) rfl rfl (by simp [Value.category]) (by decide) H ?_
            rintro _ h7 ⟨rfl, H⟩
            refine aw_aload_n 81 dX10_linked_80 rfl rfl ?_
            obtain ⟨g12, H⟩ := H
            refine aw_callV (stk := []) (ci := 10) [] 84 dX10_linked_81 rfl mv_X10_350 ⟨by decide, by decide⟩ g12 (by intro r hr; cases hr; rfl) rfl rfl (by simp [Value.category]) (by decide) H ?_
            rintro _ h8 ⟨rfl, H⟩
            refine aw_iload_n 85 dX10_linked_84 rfl rfl ?_
            refine aw_if_ne 101 88 dX10_linked_85 rfl (by decide) (fun c13 => ?_) (fun c13 => ?_)
            · replace H := H.1 c13
              refine aw_aload_n 102 dX10_linked_101 rfl rfl ?_
              obtain ⟨g14, H⟩ := H
              obtain ⟨g15, H⟩ := H
              refine aw_getR 105 dX10_linked_102 rfl fl_X10_110 ir_10_53 g14 rfl g15 ?_
              refine aw_bipush (v := 20) 107 dX10_linked_105 rfl (by decide) ?_
              refine aw_iload_n 108 dX10_linked_107 rfl rfl ?_
              refine aw_imul 109 dX10_linked_108 rfl ?_
              refine aw_iload 111 dX10_linked_109 rfl rfl ?_
              refine aw_iadd 112 dX10_linked_111 rfl ?_
              obtain ⟨g16, H⟩ := H
              obtain ⟨g17, H⟩ := H
              refine aw_bald 113 dX10_linked_112 rfl (Or.inr (shp g16)) g17 ?_
              refine aw_if_eq 120 116 dX10_linked_113 rfl (by decide) (fun c18 => ?_) (fun c18 => ?_)
              · replace H := H.1 c18
                refine aw_iconst (v := 0) 121 dX10_linked_120 rfl (by decide) ?_
                exact aw_ireturn dX10_linked_121 rfl (by decide) (by decide) ⟨_, rfl, H⟩
              · replace H := H.2 c18
                refine aw_iconst (v := 1) 117 dX10_linked_116 rfl (by decide) ?_
                refine aw_goto 121 dX10_linked_117 (by decide) ?_
                exact aw_ireturn dX10_linked_121 rfl (by decide) (by decide) ⟨_, rfl, H⟩
            · replace H := H.2 c13
              refine aw_aload_n 89 dX10_linked_88 rfl rfl ?_
              refine aw_iload_n 90 dX10_linked_89 rfl rfl ?_
              refine aw_iload 92 dX10_linked_90 rfl rfl ?_
              obtain ⟨g19, H⟩ := H
              refine aw_callV (stk := []) (ci := 10) [.int x3, .int x4] 95 dX10_linked_92 rfl mv_X10_328 ⟨by decide, by decide⟩ g19 (by intro r hr; cases hr; rfl) rfl rfl (by simp [Value.category]) (by decide) H ?_
              rintro _ h9 ⟨r9, rfl, H⟩
              refine aw_if_eq 120 98 dX10_linked_95 rfl (by decide) (fun c20 => ?_) (fun c20 => ?_)
              · replace H := H.1 c20
                refine aw_iconst (v := 0) 121 dX10_linked_120 rfl (by decide) ?_
                exact aw_ireturn dX10_linked_121 rfl (by decide) (by decide) ⟨_, rfl, H⟩
              · replace H := H.2 c20
                refine aw_goto 116 dX10_linked_98 (by decide) ?_
                refine aw_iconst (v := 1) 117 dX10_linked_116 rfl (by decide) ?_
                refine aw_goto 121 dX10_linked_117 (by decide) ?_
                exact aw_ireturn dX10_linked_121 rfl (by decide) (by decide) ⟨_, rfl, H⟩
          · replace H := H.2 c10
            refine aw_ldc 75 dX10_linked_73 rfl kc_X10_156 ?_
            exact aw_ireturn dX10_linked_75 rfl (by decide) (by decide) ⟨_, rfl, H⟩
        · replace H := H.2 c8
          refine aw_ldc 64 dX10_linked_62 rfl kc_X10_135 ?_
          exact aw_ireturn dX10_linked_64 rfl (by decide) (by decide) ⟨_, rfl, H⟩
      · replace H := H.2 c7
        refine aw_ldc 51 dX10_linked_49 rfl kc_X10_194 ?_
        exact aw_ireturn dX10_linked_51 rfl (by decide) (by decide) ⟨_, rfl, H⟩
  · replace H := H.2 c2
    refine aw_ldc 10 dX10_linked_8 rfl kc_X10_194 ?_
    exact aw_ireturn dX10_linked_10 rfl (by decide) (by decide) ⟨_, rfl, H⟩
theorem eX10_linked {w : Wd} {Q : Int32 → Hp → Prop} {h : Hp} {a0 : Nat} {x1 : Int32} {x2 : Int32} {x3 : Int32} {x4 : Int32} (H : AW w mX10_linked 0 0 (rI Q) 0 0 0 [some (.ref a0), some (.int x1), some (.int x2), some (.int x3), some (.int x4)] [] h) : AC w mX10_linked 0 0 (rI Q) [.ref a0, .int x1, .int x2, .int x3, .int x4] h := AC.ofL (by decide) (by simp [enl, Value.category]) (by simp [leL, enl, Value.category]) H
