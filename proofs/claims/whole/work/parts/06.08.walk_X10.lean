set_option maxHeartbeats 4000000 in
set_option maxRecDepth 100000 in
theorem sX10_best_0 {w : Wd} {Q : Int32 → Hp → Prop} {h : Hp} {a0 : Nat} (H : (hs h a0).1 = 30 ∧ ∀ h1, h1 = sI h a0 39 (-1) → AC w mX10_work 0 0 (rV fun h2 => (hs h2 a0).1 = 30 ∧ ∀ h3, h3 = sI h2 a0 45 0 → hR h2 a0 37 ≠ 0 ∧ (hs h2 (hR h2 a0 37)).1 = 1 ∧ vp_in 0 (hs h2 (hR h2 a0 37)).2 ∧ (((hI h3 (hR h2 a0 37) (0 : Int32).toNatClampNeg) < 1000000000 → AW w mX10_best 0 0 (rI Q) 0 0 32 [some (.ref a0), some (.int 0), some (.int 0), none, none, none] [] h3) ∧ (¬ (hI h3 (hR h2 a0 37) (0 : Int32).toNatClampNeg) < 1000000000 → Q 0 h3))) [.ref a0] h1) : AW w mX10_best 0 0 (rI Q) 0 0 0 [some (.ref a0), none, none, none, none, none] [] h := by
  refine aw_aload_n 1 dX10_best_0 rfl rfl ?_
  refine aw_iconst (v := (-1)) 2 dX10_best_1 rfl (by decide) ?_
  obtain ⟨g1, H⟩ := H
  refine aw_putI 5 dX10_best_2 rfl fl_X10_276 (by decide) g1 nf_10_39 ?_
  replace H := H _ rfl
  refine aw_aload_n 6 dX10_best_5 rfl rfl ?_
  refine aw_callV (stk := []) (ci := 10) [] 9 dX10_best_6 rfl mv_X10_288 ⟨by decide, by decide⟩ g1 (by intro r hr; cases hr; rfl) rfl rfl (by simp [Value.category]) (by decide) H ?_
  rintro _ h2 ⟨rfl, H⟩
  refine aw_aload_n 10 dX10_best_9 rfl rfl ?_
  refine aw_iconst (v := 0) 11 dX10_best_10 rfl (by decide) ?_
  obtain ⟨g2, H⟩ := H
  refine aw_putI 14 dX10_best_11 rfl fl_X10_291 (by decide) g2 nf_10_45 ?_
  replace H := H _ rfl
  refine aw_aload_n 15 dX10_best_14 rfl rfl ?_
  obtain ⟨g3, H⟩ := H
  refine aw_getR 18 dX10_best_15 rfl fl_X10_79 ir_10_37 g2 rfl g3 ?_
  refine aw_iconst (v := 0) 19 dX10_best_18 rfl (by decide) ?_
  obtain ⟨g4, H⟩ := H
  obtain ⟨g5, H⟩ := H
  refine aw_iald 20 dX10_best_19 rfl (Or.inl (shp g4)) g5 ?_
  refine aw_ldcw 23 dX10_best_20 rfl kc_X10_272 ?_
  refine aw_icmp_lt 28 26 dX10_best_23 rfl (by decide) (fun c6 => ?_) (fun c6 => ?_)
  · replace H := H.1 c6
    refine aw_iconst (v := 0) 29 dX10_best_28 rfl (by decide) ?_
    refine aw_istore_n (loc' := [some (.ref a0), some (.int 0), none, none, none, none]) 30 dX10_best_29 rfl (by decide) rfl ?_
    refine aw_iconst (v := 0) 31 dX10_best_30 rfl (by decide) ?_
    refine aw_istore_n (loc' := [some (.ref a0), some (.int 0), some (.int 0), none, none, none]) 32 dX10_best_31 rfl (by decide) rfl ?_
    exact H
  · replace H := H.2 c6
    refine aw_iconst (v := 0) 27 dX10_best_26 rfl (by decide) ?_
    exact aw_zreturn dX10_best_27 rfl (by decide) (by decide) (by decide) ⟨_, rfl, H⟩
theorem eX10_best {w : Wd} {Q : Int32 → Hp → Prop} {h : Hp} {a0 : Nat} (H : AW w mX10_best 0 0 (rI Q) 0 0 0 [some (.ref a0), none, none, none, none, none] [] h) : AC w mX10_best 0 0 (rI Q) [.ref a0] h := AC.ofL (by decide) (by simp [enl, Value.category]) (by simp [leL, enl, Value.category]) H
set_option maxHeartbeats 4000000 in
set_option maxRecDepth 100000 in
theorem sX10_best_32 {w : Wd} {Q : Int32 → Hp → Prop} {h : Hp} {a0 : Nat} {x1 : Int32} {x2 : Int32} (H : (hs h a0).1 = 30 ∧ hR h a0 5 ≠ 0 ∧ (hs h (hR h a0 5)).1 = 1 ∧ vp_in 0 (hs h (hR h a0 5)).2 ∧ ((x1 < (hI h (hR h a0 5) (0 : Int32).toNatClampNeg) → AW w mX10_best 0 0 (rI Q) 0 0 58 [some (.ref a0), some (.int x1), some (.int x2), some (.int (-1)), some (.int 6), none] [] h) ∧ (¬ x1 < (hI h (hR h a0 5) (0 : Int32).toNatClampNeg) → vp_in 1 (hs h (hR h a0 5)).2 ∧ (((hI h (hR h a0 5) (1 : Int32).toNatClampNeg) ≤ x2 → Q 1 h) ∧ (¬ (hI h (hR h a0 5) (1 : Int32).toNatClampNeg) ≤ x2 → AW w mX10_best 0 0 (rI Q) 0 0 58 [some (.ref a0), some (.int x1), some (.int x2), some (.int (-1)), some (.int 6), none] [] h))))) : AW w mX10_best 0 0 (rI Q) 0 0 32 [some (.ref a0), some (.int x1), some (.int x2), none, none, none] [] h := by
  refine aw_iload_n 33 dX10_best_32 rfl rfl ?_
  refine aw_aload_n 34 dX10_best_33 rfl rfl ?_
  obtain ⟨g1, H⟩ := H
  obtain ⟨g2, H⟩ := H
  refine aw_getR 37 dX10_best_34 rfl fl_X10_19 ir_10_5 g1 rfl g2 ?_
  refine aw_iconst (v := 0) 38 dX10_best_37 rfl (by decide) ?_
  obtain ⟨g3, H⟩ := H
  obtain ⟨g4, H⟩ := H
  refine aw_iald 39 dX10_best_38 rfl (Or.inl (shp g3)) g4 ?_
  refine aw_icmp_lt 52 42 dX10_best_39 rfl (by decide) (fun c5 => ?_) (fun c5 => ?_)
  · replace H := H.1 c5
    refine aw_iconst (v := (-1)) 53 dX10_best_52 rfl (by decide) ?_
    refine aw_istore_n (loc' := [some (.ref a0), some (.int x1), some (.int x2), some (.int (-1)), none, none]) 54 dX10_best_53 rfl (by decide) rfl ?_
    refine aw_bipush (v := 6) 56 dX10_best_54 rfl (by decide) ?_
    refine aw_istore (loc' := [some (.ref a0), some (.int x1), some (.int x2), some (.int (-1)), some (.int 6), none]) 58 dX10_best_56 rfl (by decide) rfl ?_
    exact H
  · replace H := H.2 c5
    refine aw_iload_n 43 dX10_best_42 rfl rfl ?_
    refine aw_aload_n 44 dX10_best_43 rfl rfl ?_
    refine aw_getR 47 dX10_best_44 rfl fl_X10_19 ir_10_5 g1 rfl g2 ?_
    refine aw_iconst (v := 1) 48 dX10_best_47 rfl (by decide) ?_
    obtain ⟨g6, H⟩ := H
    refine aw_iald 49 dX10_best_48 rfl (Or.inl (shp g3)) g6 ?_
    refine aw_icmp_ge 207 52 dX10_best_49 rfl (by decide) (fun c7 => ?_) (fun c7 => ?_)
    · replace H := H.1 c7
      refine aw_iconst (v := 1) 208 dX10_best_207 rfl (by decide) ?_
      exact aw_zreturn dX10_best_208 rfl (by decide) (by decide) (by decide) ⟨_, rfl, H⟩
    · replace H := H.2 c7
      refine aw_iconst (v := (-1)) 53 dX10_best_52 rfl (by decide) ?_
      refine aw_istore_n (loc' := [some (.ref a0), some (.int x1), some (.int x2), some (.int (-1)), none, none]) 54 dX10_best_53 rfl (by decide) rfl ?_
      refine aw_bipush (v := 6) 56 dX10_best_54 rfl (by decide) ?_
      refine aw_istore (loc' := [some (.ref a0), some (.int x1), some (.int x2), some (.int (-1)), some (.int 6), none]) 58 dX10_best_56 rfl (by decide) rfl ?_
      exact H
set_option maxHeartbeats 4000000 in
set_option maxRecDepth 100000 in
theorem sX10_best_58 {w : Wd} {Q : Int32 → Hp → Prop} {h : Hp} {a0 : Nat} {x1 : Int32} {x2 : Int32} {x3 : Int32} {x4 : Int32} (H : ((x4 < 0 → (hs h a0).1 = 30 ∧ hR h a0 42 ≠ 0 ∧ (hs h (hR h a0 42)).1 = 1 ∧ vp_in (hI h a0 45) (hs h (hR h a0 42)).2 ∧ ∀ h1, h1 = sI h (hR h a0 42) (hI h a0 45).toNatClampNeg x3 → hR h a0 43 ≠ 0 ∧ (hs h (hR h a0 43)).1 = 1 ∧ vp_in (hI h1 a0 45) (hs h (hR h a0 43)).2 ∧ ∀ h2, h2 = sI h1 (hR h a0 43) (hI h1 a0 45).toNatClampNeg x1 → hR h a0 44 ≠ 0 ∧ (hs h (hR h a0 44)).1 = 1 ∧ vp_in (hI h2 a0 45) (hs h (hR h a0 44)).2 ∧ ∀ h3, h3 = sI h2 (hR h a0 44) (hI h2 a0 45).toNatClampNeg x2 → ∀ h4, h4 = sI h3 a0 45 ((hI h3 a0 45) + 1) → AC w mX10_leftOf 0 0 (rI fun r1 h5 => AC w mX10_rightOf 0 0 (rI fun r2 h6 => AW w mX10_best 0 0 (rI Q) 0 0 32 [some (.ref a0), some (.int (x1 + r1)), some (.int (x2 + r2)), none, none, none] [] h6) [.int x3] h5) [.int x3] h4) ∧ (¬ x4 < 0 → (hs h a0).1 = 30 ∧ AC w mX10_may 0 0 (rI fun r3 h7 => ((r3 = 0 → AW w mX10_best 0 0 (rI Q) 0 0 58 [some (.ref a0), some (.int x1), some (.int x2), some (.int x3), some (.int (x4 + (-1))), none] [] h7) ∧ (¬ r3 = 0 → AC w mX10_leftOf 0 0 (rI fun r4 h8 => AC w mX10_rightOf 0 0 (rI fun r5 h9 => (hs h9 a0).1 = 30 ∧ hR h9 a0 37 ≠ 0 ∧ (hs h9 (hR h9 a0 37)).1 = 1 ∧ vp_in (((21 * (x1 + r4)) + x2) + r5) (hs h9 (hR h9 a0 37)).2 ∧ ((1000000000 ≤ (hI h9 (hR h9 a0 37) (((21 * (x1 + r4)) + x2) + r5).toNatClampNeg) → AW w mX10_best 0 0 (rI Q) 0 0 58 [some (.ref a0), some (.int x1), some (.int x2), some (.int x3), some (.int (x4 + (-1))), none] [] h9) ∧ (¬ 1000000000 ≤ (hI h9 (hR h9 a0 37) (((21 * (x1 + r4)) + x2) + r5).toNatClampNeg) → AC w mX10_priceOf 0 0 (rI fun r6 h10 => (hs h10 a0).1 = 30 ∧ hR h10 a0 37 ≠ 0 ∧ (hs h10 (hR h10 a0 37)).1 = 1 ∧ vp_in (((21 * (x1 + r4)) + x2) + r5) (hs h10 (hR h10 a0 37)).2 ∧ vp_in ((21 * x1) + x2) (hs h10 (hR h10 a0 37)).2 ∧ ((¬ (r6 + (hI h10 (hR h10 a0 37) (((21 * (x1 + r4)) + x2) + r5).toNatClampNeg)) = (hI h10 (hR h10 a0 37) ((21 * x1) + x2).toNatClampNeg) → AW w mX10_best 0 0 (rI Q) 0 0 58 [some (.ref a0), some (.int x1), some (.int x2), some (.int x3), some (.int (x4 + (-1))), none] [] h10) ∧ ((r6 + (hI h10 (hR h10 a0 37) (((21 * (x1 + r4)) + x2) + r5).toNatClampNeg)) = (hI h10 (hR h10 a0 37) ((21 * x1) + x2).toNatClampNeg) → AW w mX10_best 0 0 (rI Q) 0 0 58 [some (.ref a0), some (.int x1), some (.int x2), some (.int x4), some (.int (x4 + (-1))), none] [] h10))) [.ref a0, .int x4, .int x1, .int x2] h9))) [.int x4] h8) [.int x4] h7))) [.ref a0, .int x4, .int x1, .int x2] h))) : AW w mX10_best 0 0 (rI Q) 0 0 58 [some (.ref a0), some (.int x1), some (.int x2), some (.int x3), some (.int x4), none] [] h := by
  refine aw_iload 60 dX10_best_58 rfl rfl ?_
  refine aw_if_lt 150 63 dX10_best_60 rfl (by decide) (fun c1 => ?_) (fun c1 => ?_)
  · replace H := H.1 c1
    refine aw_aload_n 151 dX10_best_150 rfl rfl ?_
    obtain ⟨g2, H⟩ := H
    obtain ⟨g3, H⟩ := H
    refine aw_getR 154 dX10_best_151 rfl fl_X10_85 ir_10_42 g2 rfl g3 ?_
    refine aw_aload_n 155 dX10_best_154 rfl rfl ?_
    refine aw_getI 158 dX10_best_155 rfl fl_X10_291 (by decide) g2 ?_
    refine aw_iload_n 159 dX10_best_158 rfl rfl ?_
    obtain ⟨g4, H⟩ := H
    obtain ⟨g5, H⟩ := H
    refine aw_iast 160 dX10_best_159 rfl (shp g4) g5 ?_
    replace H := H _ rfl
    refine aw_aload_n 161 dX10_best_160 rfl rfl ?_
    obtain ⟨g6, H⟩ := H
    refine aw_getR 164 dX10_best_161 rfl fl_X10_88 ir_10_43 g2 rfl g6 ?_
    refine aw_aload_n 165 dX10_best_164 rfl rfl ?_
    refine aw_getI 168 dX10_best_165 rfl fl_X10_291 (by decide) g2 ?_
    refine aw_iload_n 169 dX10_best_168 rfl rfl ?_
    obtain ⟨g7, H⟩ := H
    obtain ⟨g8, H⟩ := H
    refine aw_iast 170 dX10_best_169 rfl (shp g7) g8 ?_
    replace H := H _ rfl
    refine aw_aload_n 171 dX10_best_170 rfl rfl ?_
    obtain ⟨g9, H⟩ := H
    refine aw_getR 174 dX10_best_171 rfl fl_X10_91 ir_10_44 g2 rfl g9 ?_
    refine aw_aload_n 175 dX10_best_174 rfl rfl ?_
    refine aw_getI 178 dX10_best_175 rfl fl_X10_291 (by decide) g2 ?_
    refine aw_iload_n 179 dX10_best_178 rfl rfl ?_
    obtain ⟨g10, H⟩ := H
    obtain ⟨g11, H⟩ := H
    refine aw_iast 180 dX10_best_179 rfl (shp g10) g11 ?_
    replace H := H _ rfl
    refine aw_aload_n 181 dX10_best_180 rfl rfl ?_
    refine aw_dup 182 dX10_best_181 rfl rfl ?_
    refine aw_getI 185 dX10_best_182 rfl fl_X10_291 (by decide) g2 ?_
    refine aw_iconst (v := 1) 186 dX10_best_185 rfl (by decide) ?_
    refine aw_iadd 187 dX10_best_186 rfl ?_
    refine aw_putI 190 dX10_best_187 rfl fl_X10_291 (by decide) g2 nf_10_45 ?_
    replace H := H _ rfl
    refine aw_iload_n 191 dX10_best_190 rfl rfl ?_
    refine aw_iload_n 192 dX10_best_191 rfl rfl ?_
    refine aw_callS (stk := [.int x1]) [.int x3] 195 dX10_best_192 rfl mv_X10_254 ⟨by decide, by decide⟩ rfl rfl (by simp [Value.category]) (by decide) H ?_
    rintro _ h5 ⟨r1, rfl, H⟩
    refine aw_iadd 196 dX10_best_195 rfl ?_
    refine aw_istore_n (loc' := [some (.ref a0), some (.int (x1 + r1)), some (.int x2), some (.int x3), some (.int x4), none]) 197 dX10_best_196 rfl (by decide) rfl ?_
    refine aw_iload_n 198 dX10_best_197 rfl rfl ?_
    refine aw_iload_n 199 dX10_best_198 rfl rfl ?_
    refine aw_callS (stk := [.int x2]) [.int x3] 202 dX10_best_199 rfl mv_X10_257 ⟨by decide, by decide⟩ rfl rfl (by simp [Value.category]) (by decide) H ?_
    rintro _ h6 ⟨r2, rfl, H⟩
    refine aw_iadd 203 dX10_best_202 rfl ?_
    refine aw_istore_n (loc' := [some (.ref a0), some (.int (x1 + r1)), some (.int (x2 + r2)), some (.int x3), some (.int x4), none]) 204 dX10_best_203 rfl (by decide) rfl ?_
    refine aw_goto 32 dX10_best_204 (by decide) ?_
    exact aw_fgt (by simp [leL]) H
  · replace H := H.2 c1
    refine aw_aload_n 64 dX10_best_63 rfl rfl ?_
    refine aw_iload 66 dX10_best_64 rfl rfl ?_
    refine aw_iload_n 67 dX10_best_66 rfl rfl ?_
    refine aw_iload_n 68 dX10_best_67 rfl rfl ?_
    obtain ⟨g12, H⟩ := H
    refine aw_callV (stk := []) (ci := 10) [.int x4, .int x1, .int x2] 71 dX10_best_68 rfl mv_X10_273 ⟨by decide, by decide⟩ g12 (by intro r hr; cases hr; rfl) rfl rfl (by simp [Value.category]) (by decide) H ?_
    rintro _ h7 ⟨r3, rfl, H⟩
    refine aw_if_eq 144 74 dX10_best_71 rfl (by decide) (fun c13 => ?_) (fun c13 => ?_)
    · replace H := H.1 c13
      refine aw_iinc (y := (-1)) (loc' := [some (.ref a0), some (.int x1), some (.int x2), some (.int x3), some (.int (x4 + (-1))), none]) 147 dX10_best_144 rfl (by decide) rfl (by decide) rfl ?_
      refine aw_goto 58 dX10_best_147 (by decide) ?_
      exact H
    · replace H := H.2 c13
      refine aw_bipush (v := 21) 76 dX10_best_74 rfl (by decide) ?_
      refine aw_iload_n 77 dX10_best_76 rfl rfl ?_
      refine aw_iload 79 dX10_best_77 rfl rfl ?_
      refine aw_callS (stk := [.int x1, .int 21]) [.int x4] 82 dX10_best_79 rfl mv_X10_254 ⟨by decide, by decide⟩ rfl rfl (by simp [Value.category]) (by decide) H ?_
      rintro _ h8 ⟨r4, rfl, H⟩
      refine aw_iadd 83 dX10_best_82 rfl ?_
      refine aw_imul 84 dX10_best_83 rfl ?_
      refine aw_iload_n 85 dX10_best_84 rfl rfl ?_
      refine aw_iadd 86 dX10_best_85 rfl ?_
      refine aw_iload 88 dX10_best_86 rfl rfl ?_
      refine aw_callS (stk := [.int ((21 * (x1 + r4)) + x2)]) [.int x4] 91 dX10_best_88 rfl mv_X10_257 ⟨by decide, by decide⟩ rfl rfl (by simp [Value.category]) (by decide) H ?_
      rintro _ h9 ⟨r5, rfl, H⟩
      refine aw_iadd 92 dX10_best_91 rfl ?_
      refine aw_istore (loc' := [some (.ref a0), some (.int x1), some (.int x2), some (.int x3), some (.int x4), some (.int (((21 * (x1 + r4)) + x2) + r5))]) 94 dX10_best_92 rfl (by decide) rfl ?_
      refine aw_aload_n 95 dX10_best_94 rfl rfl ?_
      obtain ⟨g14, H⟩ := H
      obtain ⟨g15, H⟩ := H
      refine aw_getR 98 dX10_best_95 rfl fl_X10_79 ir_10_37 g14 rfl g15 ?_
      refine aw_iload 100 dX10_best_98 rfl rfl ?_
      obtain ⟨g16, H⟩ := H
      obtain ⟨g17, H⟩ := H
      refine aw_iald 101 dX10_best_100 rfl (Or.inl (shp g16)) g17 ?_
      refine aw_ldcw 104 dX10_best_101 rfl kc_X10_272 ?_
      refine aw_icmp_ge 142 107 dX10_best_104 rfl (by decide) (fun c18 => ?_) (fun c18 => ?_)
      · replace H := H.1 c18
        refine aw_iload_n 143 dX10_best_142 rfl rfl ?_
        refine aw_istore_n (loc' := [some (.ref a0), some (.int x1), some (.int x2), some (.int x3), some (.int x4), some (.int (((21 * (x1 + r4)) + x2) + r5))]) 144 dX10_best_143 rfl (by decide) rfl ?_
        refine aw_iinc (y := (-1)) (loc' := [some (.ref a0), some (.int x1), some (.int x2), some (.int x3), some (.int (x4 + (-1))), some (.int (((21 * (x1 + r4)) + x2) + r5))]) 147 dX10_best_144 rfl (by decide) rfl (by decide) rfl ?_
        refine aw_goto 58 dX10_best_147 (by decide) ?_
        exact aw_fgt (by simp [leL]) H
      · replace H := H.2 c18
        refine aw_aload_n 108 dX10_best_107 rfl rfl ?_
        refine aw_iload 110 dX10_best_108 rfl rfl ?_
        refine aw_iload_n 111 dX10_best_110 rfl rfl ?_
        refine aw_iload_n 112 dX10_best_111 rfl rfl ?_
        refine aw_callV (stk := []) (ci := 10) [.int x4, .int x1, .int x2] 115 dX10_best_112 rfl mv_X10_285 ⟨by decide, by decide⟩ g14 (by intro r hr; cases hr; rfl) rfl rfl (by simp [Value.category]) (by decide) H ?_
        rintro _ h10 ⟨r6, rfl, H⟩
        refine aw_aload_n 116 dX10_best_115 rfl rfl ?_
        obtain ⟨g19, H⟩ := H
        obtain ⟨g20, H⟩ := H
        refine aw_getR 119 dX10_best_116 rfl fl_X10_79 ir_10_37 g19 rfl g20 ?_
        refine aw_iload 121 dX10_best_119 rfl rfl ?_
        obtain ⟨g21, H⟩ := H
        obtain ⟨g22, H⟩ := H
        refine aw_iald 122 dX10_best_121 rfl (Or.inl (shp g21)) g22 ?_
        refine aw_iadd 123 dX10_best_122 rfl ?_
        refine aw_aload_n 124 dX10_best_123 rfl rfl ?_
        refine aw_getR 127 dX10_best_124 rfl fl_X10_79 ir_10_37 g19 rfl g20 ?_
        refine aw_bipush (v := 21) 129 dX10_best_127 rfl (by decide) ?_
        refine aw_iload_n 130 dX10_best_129 rfl rfl ?_
        refine aw_imul 131 dX10_best_130 rfl ?_
        refine aw_iload_n 132 dX10_best_131 rfl rfl ?_
        refine aw_iadd 133 dX10_best_132 rfl ?_
        obtain ⟨g23, H⟩ := H
        refine aw_iald 134 dX10_best_133 rfl (Or.inl (shp g21)) g23 ?_
        refine aw_icmp_ne 142 137 dX10_best_134 rfl (by decide) (fun c24 => ?_) (fun c24 => ?_)
        · replace H := H.1 c24
          refine aw_iload_n 143 dX10_best_142 rfl rfl ?_
          refine aw_istore_n (loc' := [some (.ref a0), some (.int x1), some (.int x2), some (.int x3), some (.int x4), some (.int (((21 * (x1 + r4)) + x2) + r5))]) 144 dX10_best_143 rfl (by decide) rfl ?_
          refine aw_iinc (y := (-1)) (loc' := [some (.ref a0), some (.int x1), some (.int x2), some (.int x3), some (.int (x4 + (-1))), some (.int (((21 * (x1 + r4)) + x2) + r5))]) 147 dX10_best_144 rfl (by decide) rfl (by decide) rfl ?_
          refine aw_goto 58 dX10_best_147 (by decide) ?_
          exact aw_fgt (by simp [leL]) H
        · replace H := H.2 c24
          refine aw_iload 139 dX10_best_137 rfl rfl ?_
          refine aw_goto 143 dX10_best_139 (by decide) ?_
          refine aw_istore_n (loc' := [some (.ref a0), some (.int x1), some (.int x2), some (.int x4), some (.int x4), some (.int (((21 * (x1 + r4)) + x2) + r5))]) 144 dX10_best_143 rfl (by decide) rfl ?_
          refine aw_iinc (y := (-1)) (loc' := [some (.ref a0), some (.int x1), some (.int x2), some (.int x4), some (.int (x4 + (-1))), some (.int (((21 * (x1 + r4)) + x2) + r5))]) 147 dX10_best_144 rfl (by decide) rfl (by decide) rfl ?_
          refine aw_goto 58 dX10_best_147 (by decide) ?_
          exact aw_fgt (by simp [leL]) H
set_option maxHeartbeats 4000000 in
set_option maxRecDepth 100000 in
theorem sX10_lay_0 {w : Wd} {Q : Int32 → Hp → Prop} {h : Hp} {a0 : Nat} (H : (hs h a0).1 = 30 ∧ AC w mX10_best 0 0 (rI fun r1 h1 => ((r1 = 0 → Q (-1) h1) ∧ (¬ r1 = 0 → (hs h1 a0).1 = 30 ∧ Q (hI h1 a0 45) h1))) [.ref a0] h) : AW w mX10_lay 0 0 (rI Q) 0 0 0 [some (.ref a0)] [] h := by
  refine aw_aload_n 1 dX10_lay_0 rfl rfl ?_
  obtain ⟨g1, H⟩ := H
  refine aw_callV (stk := []) (ci := 10) [] 4 dX10_lay_1 rfl mv_X10_294 ⟨by decide, by decide⟩ g1 (by intro r hr; cases hr; rfl) rfl rfl (by simp [Value.category]) (by decide) H ?_
  rintro _ h1 ⟨r1, rfl, H⟩
  refine aw_if_eq 14 7 dX10_lay_4 rfl (by decide) (fun c2 => ?_) (fun c2 => ?_)
  · replace H := H.1 c2
    refine aw_iconst (v := (-1)) 15 dX10_lay_14 rfl (by decide) ?_
    exact aw_ireturn dX10_lay_15 rfl (by decide) (by decide) ⟨_, rfl, H⟩
  · replace H := H.2 c2
    refine aw_aload_n 8 dX10_lay_7 rfl rfl ?_
    obtain ⟨g3, H⟩ := H
    refine aw_getI 11 dX10_lay_8 rfl fl_X10_291 (by decide) g3 ?_
    refine aw_goto 15 dX10_lay_11 (by decide) ?_
    exact aw_ireturn dX10_lay_15 rfl (by decide) (by decide) ⟨_, rfl, H⟩
theorem eX10_lay {w : Wd} {Q : Int32 → Hp → Prop} {h : Hp} {a0 : Nat} (H : AW w mX10_lay 0 0 (rI Q) 0 0 0 [some (.ref a0)] [] h) : AC w mX10_lay 0 0 (rI Q) [.ref a0] h := AC.ofL (by decide) (by simp [enl, Value.category]) (by simp [leL, enl, Value.category]) H
set_option maxHeartbeats 4000000 in
set_option maxRecDepth 100000 in
theorem sX10_isJoint_0 {w : Wd} {Q : Int32 → Hp → Prop} {h : Hp} {a0 : Nat} {x1 : Int32} (H : (hs h a0).1 = 30 ∧ AC w mX10_best 0 0 (rI fun r1 h1 => ((r1 = 0 → Q 0 h1) ∧ (¬ r1 = 0 → (hs h1 a0).1 = 30 ∧ AC w mX10_in 0 0 (rI fun r2 h2 => ((r2 = 0 → Q 0 h2) ∧ (¬ r2 = 0 → Q 1 h2))) [.long x1.toInt64, .long 0, .long (((hI h1 a0 45) - 1).toInt64)] h1))) [.ref a0] h) : AW w mX10_isJoint 0 0 (rI Q) 0 0 0 [some (.ref a0), some (.int x1)] [] h := by
  refine aw_aload_n 1 dX10_isJoint_0 rfl rfl ?_
  obtain ⟨g1, H⟩ := H
  refine aw_callV (stk := []) (ci := 10) [] 4 dX10_isJoint_1 rfl mv_X10_294 ⟨by decide, by decide⟩ g1 (by intro r hr; cases hr; rfl) rfl rfl (by simp [Value.category]) (by decide) H ?_
  rintro _ h1 ⟨r1, rfl, H⟩
  refine aw_if_eq 27 7 dX10_isJoint_4 rfl (by decide) (fun c2 => ?_) (fun c2 => ?_)
  · replace H := H.1 c2
    refine aw_iconst (v := 0) 28 dX10_isJoint_27 rfl (by decide) ?_
    exact aw_zreturn dX10_isJoint_28 rfl (by decide) (by decide) (by decide) ⟨_, rfl, H⟩
  · replace H := H.2 c2
    refine aw_iload_n 8 dX10_isJoint_7 rfl rfl ?_
    refine aw_i2l 9 dX10_isJoint_8 rfl ?_
    refine aw_lconst (v := 0) 10 dX10_isJoint_9 rfl (by decide) ?_
    refine aw_aload_n 11 dX10_isJoint_10 rfl rfl ?_
    obtain ⟨g3, H⟩ := H
    refine aw_getI 14 dX10_isJoint_11 rfl fl_X10_291 (by decide) g3 ?_
    refine aw_iconst (v := 1) 15 dX10_isJoint_14 rfl (by decide) ?_
    refine aw_isub 16 dX10_isJoint_15 rfl ?_
    refine aw_i2l 17 dX10_isJoint_16 rfl ?_
    refine aw_callS (stk := []) [.long x1.toInt64, .long 0, .long (((hI h1 a0 45) - 1).toInt64)] 20 dX10_isJoint_17 rfl mv_X10_131 ⟨by decide, by decide⟩ rfl rfl (by simp [Value.category]) (by decide) H ?_
    rintro _ h2 ⟨r2, rfl, H⟩
    refine aw_if_eq 27 23 dX10_isJoint_20 rfl (by decide) (fun c4 => ?_) (fun c4 => ?_)
    · replace H := H.1 c4
      refine aw_iconst (v := 0) 28 dX10_isJoint_27 rfl (by decide) ?_
      exact aw_zreturn dX10_isJoint_28 rfl (by decide) (by decide) (by decide) ⟨_, rfl, H⟩
    · replace H := H.2 c4
      refine aw_iconst (v := 1) 24 dX10_isJoint_23 rfl (by decide) ?_
      refine aw_goto 28 dX10_isJoint_24 (by decide) ?_
      exact aw_zreturn dX10_isJoint_28 rfl (by decide) (by decide) (by decide) ⟨_, rfl, H⟩
theorem eX10_isJoint {w : Wd} {Q : Int32 → Hp → Prop} {h : Hp} {a0 : Nat} {x1 : Int32} (H : AW w mX10_isJoint 0 0 (rI Q) 0 0 0 [some (.ref a0), some (.int x1)] [] h) : AC w mX10_isJoint 0 0 (rI Q) [.ref a0, .int x1] h := AC.ofL (by decide) (by simp [enl, Value.category]) (by simp [leL, enl, Value.category]) H
set_option maxHeartbeats 4000000 in
set_option maxRecDepth 100000 in
theorem sX10_joint_0 {w : Wd} {Q : Int32 → Hp → Prop} {h : Hp} {a0 : Nat} {x1 : Int32} {x2 : Int32} (H : (hs h a0).1 = 30 ∧ AC w mX10_isJoint 0 0 (rI fun r1 h1 => ((¬ r1 = 0 → ((¬ x2 = 0 → ((¬ x2 = 1 → ((¬ x2 = 2 → ((¬ x2 = 3 → Q (-100002) h1) ∧ (x2 = 3 → (hs h1 a0).1 = 30 ∧ hR h1 a0 42 ≠ 0 ∧ (hs h1 (hR h1 a0 42)).1 = 1 ∧ vp_in x1 (hs h1 (hR h1 a0 42)).2 ∧ hR h1 a0 43 ≠ 0 ∧ (hs h1 (hR h1 a0 43)).1 = 1 ∧ vp_in x1 (hs h1 (hR h1 a0 43)).2 ∧ hR h1 a0 44 ≠ 0 ∧ (hs h1 (hR h1 a0 44)).1 = 1 ∧ vp_in x1 (hs h1 (hR h1 a0 44)).2 ∧ AC w mX10_priceOf 0 0 (rI fun r2 h2 => Q r2 h2) [.ref a0, .int (hI h1 (hR h1 a0 42) x1.toNatClampNeg), .int (hI h1 (hR h1 a0 43) x1.toNatClampNeg), .int (hI h1 (hR h1 a0 44) x1.toNatClampNeg)] h1))) ∧ (x2 = 2 → (hs h1 a0).1 = 30 ∧ hR h1 a0 44 ≠ 0 ∧ (hs h1 (hR h1 a0 44)).1 = 1 ∧ vp_in x1 (hs h1 (hR h1 a0 44)).2 ∧ Q (hI h1 (hR h1 a0 44) x1.toNatClampNeg) h1))) ∧ (x2 = 1 → (hs h1 a0).1 = 30 ∧ hR h1 a0 43 ≠ 0 ∧ (hs h1 (hR h1 a0 43)).1 = 1 ∧ vp_in x1 (hs h1 (hR h1 a0 43)).2 ∧ Q (hI h1 (hR h1 a0 43) x1.toNatClampNeg) h1))) ∧ (x2 = 0 → (hs h1 a0).1 = 30 ∧ hR h1 a0 42 ≠ 0 ∧ (hs h1 (hR h1 a0 42)).1 = 1 ∧ vp_in x1 (hs h1 (hR h1 a0 42)).2 ∧ Q (hI h1 (hR h1 a0 42) x1.toNatClampNeg) h1))) ∧ (r1 = 0 → Q (-100001) h1))) [.ref a0, .int x1] h) : AW w mX10_joint 0 0 (rI Q) 0 0 0 [some (.ref a0), some (.int x1), some (.int x2)] [] h := by
  refine aw_aload_n 1 dX10_joint_0 rfl rfl ?_
  refine aw_iload_n 2 dX10_joint_1 rfl rfl ?_
  obtain ⟨g1, H⟩ := H
  refine aw_callV (stk := []) (ci := 10) [.int x1] 5 dX10_joint_2 rfl mv_X10_297 ⟨by decide, by decide⟩ g1 (by intro r hr; cases hr; rfl) rfl rfl (by simp [Value.category]) (by decide) H ?_
  rintro _ h1 ⟨r1, rfl, H⟩
  refine aw_if_ne 11 8 dX10_joint_5 rfl (by decide) (fun c2 => ?_) (fun c2 => ?_)
  · replace H := H.1 c2
    refine aw_iload_n 12 dX10_joint_11 rfl rfl ?_
    refine aw_if_ne 24 15 dX10_joint_12 rfl (by decide) (fun c3 => ?_) (fun c3 => ?_)
    · replace H := H.1 c3
      refine aw_iload_n 25 dX10_joint_24 rfl rfl ?_
      refine aw_iconst (v := 1) 26 dX10_joint_25 rfl (by decide) ?_
      refine aw_icmp_ne 38 29 dX10_joint_26 rfl (by decide) (fun c4 => ?_) (fun c4 => ?_)
      · replace H := H.1 c4
        refine aw_iload_n 39 dX10_joint_38 rfl rfl ?_
        refine aw_iconst (v := 2) 40 dX10_joint_39 rfl (by decide) ?_
        refine aw_icmp_ne 52 43 dX10_joint_40 rfl (by decide) (fun c5 => ?_) (fun c5 => ?_)
        · replace H := H.1 c5
          refine aw_iload_n 53 dX10_joint_52 rfl rfl ?_
          refine aw_iconst (v := 3) 54 dX10_joint_53 rfl (by decide) ?_
          refine aw_icmp_ne 82 57 dX10_joint_54 rfl (by decide) (fun c6 => ?_) (fun c6 => ?_)
          · replace H := H.1 c6
            refine aw_ldc 84 dX10_joint_82 rfl kc_X10_135 ?_
            exact aw_ireturn dX10_joint_84 rfl (by decide) (by decide) ⟨_, rfl, H⟩
          · replace H := H.2 c6
            refine aw_aload_n 58 dX10_joint_57 rfl rfl ?_
            refine aw_aload_n 59 dX10_joint_58 rfl rfl ?_
            obtain ⟨g7, H⟩ := H
            obtain ⟨g8, H⟩ := H
            refine aw_getR 62 dX10_joint_59 rfl fl_X10_85 ir_10_42 g7 rfl g8 ?_
            refine aw_iload_n 63 dX10_joint_62 rfl rfl ?_
            obtain ⟨g9, H⟩ := H
            obtain ⟨g10, H⟩ := H
            refine aw_iald 64 dX10_joint_63 rfl (Or.inl (shp g9)) g10 ?_
            refine aw_aload_n 65 dX10_joint_64 rfl rfl ?_
            obtain ⟨g11, H⟩ := H
            refine aw_getR 68 dX10_joint_65 rfl fl_X10_88 ir_10_43 g7 rfl g11 ?_
            refine aw_iload_n 69 dX10_joint_68 rfl rfl ?_
            obtain ⟨g12, H⟩ := H
            obtain ⟨g13, H⟩ := H
            refine aw_iald 70 dX10_joint_69 rfl (Or.inl (shp g12)) g13 ?_
            refine aw_aload_n 71 dX10_joint_70 rfl rfl ?_
            obtain ⟨g14, H⟩ := H
            refine aw_getR 74 dX10_joint_71 rfl fl_X10_91 ir_10_44 g7 rfl g14 ?_
            refine aw_iload_n 75 dX10_joint_74 rfl rfl ?_
            obtain ⟨g15, H⟩ := H
            obtain ⟨g16, H⟩ := H
            refine aw_iald 76 dX10_joint_75 rfl (Or.inl (shp g15)) g16 ?_
            refine aw_callV (stk := []) (ci := 10) [.int (hI h1 (hR h1 a0 42) x1.toNatClampNeg), .int (hI h1 (hR h1 a0 43) x1.toNatClampNeg), .int (hI h1 (hR h1 a0 44) x1.toNatClampNeg)] 79 dX10_joint_76 rfl mv_X10_285 ⟨by decide, by decide⟩ g7 (by intro r hr; cases hr; rfl) rfl rfl (by simp [Value.category]) (by decide) H ?_
            rintro _ h2 ⟨r2, rfl, H⟩
            refine aw_goto 84 dX10_joint_79 (by decide) ?_
            exact aw_ireturn dX10_joint_84 rfl (by decide) (by decide) ⟨_, rfl, H⟩
        · replace H := H.2 c5
          refine aw_aload_n 44 dX10_joint_43 rfl rfl ?_
          obtain ⟨g17, H⟩ := H
          obtain ⟨g18, H⟩ := H
          refine aw_getR 47 dX10_joint_44 rfl fl_X10_91 ir_10_44 g17 rfl g18 ?_
          refine aw_iload_n 48 dX10_joint_47 rfl rfl ?_
          obtain ⟨g19, H⟩ := H
          obtain ⟨g20, H⟩ := H
          refine aw_iald 49 dX10_joint_48 rfl (Or.inl (shp g19)) g20 ?_
          refine aw_goto 84 dX10_joint_49 (by decide) ?_
          exact aw_ireturn dX10_joint_84 rfl (by decide) (by decide) ⟨_, rfl, H⟩
      · replace H := H.2 c4
        refine aw_aload_n 30 dX10_joint_29 rfl rfl ?_
        obtain ⟨g21, H⟩ := H
        obtain ⟨g22, H⟩ := H
        refine aw_getR 33 dX10_joint_30 rfl fl_X10_88 ir_10_43 g21 rfl g22 ?_
        refine aw_iload_n 34 dX10_joint_33 rfl rfl ?_
        obtain ⟨g23, H⟩ := H
        obtain ⟨g24, H⟩ := H
        refine aw_iald 35 dX10_joint_34 rfl (Or.inl (shp g23)) g24 ?_
        refine aw_goto 84 dX10_joint_35 (by decide) ?_
        exact aw_ireturn dX10_joint_84 rfl (by decide) (by decide) ⟨_, rfl, H⟩
    · replace H := H.2 c3
      refine aw_aload_n 16 dX10_joint_15 rfl rfl ?_
      obtain ⟨g25, H⟩ := H
      obtain ⟨g26, H⟩ := H
      refine aw_getR 19 dX10_joint_16 rfl fl_X10_85 ir_10_42 g25 rfl g26 ?_
      refine aw_iload_n 20 dX10_joint_19 rfl rfl ?_
      obtain ⟨g27, H⟩ := H
      obtain ⟨g28, H⟩ := H
      refine aw_iald 21 dX10_joint_20 rfl (Or.inl (shp g27)) g28 ?_
      refine aw_goto 84 dX10_joint_21 (by decide) ?_
      exact aw_ireturn dX10_joint_84 rfl (by decide) (by decide) ⟨_, rfl, H⟩
  · replace H := H.2 c2
    refine aw_ldc 10 dX10_joint_8 rfl kc_X10_194 ?_
    exact aw_ireturn dX10_joint_10 rfl (by decide) (by decide) ⟨_, rfl, H⟩
theorem eX10_joint {w : Wd} {Q : Int32 → Hp → Prop} {h : Hp} {a0 : Nat} {x1 : Int32} {x2 : Int32} (H : AW w mX10_joint 0 0 (rI Q) 0 0 0 [some (.ref a0), some (.int x1), some (.int x2)] [] h) : AC w mX10_joint 0 0 (rI Q) [.ref a0, .int x1, .int x2] h := AC.ofL (by decide) (by simp [enl, Value.category]) (by simp [leL, enl, Value.category]) H
set_option maxHeartbeats 4000000 in
set_option maxRecDepth 100000 in
theorem sX10_price_0 {w : Wd} {Q : Int32 → Hp → Prop} {h : Hp} {a0 : Nat} {x1 : Int32} {x2 : Int32} {x3 : Int32} (H : AC w mX10_in 0 0 (rI fun r1 h1 => ((¬ r1 = 0 → AC w mX10_leftOf 0 0 (rI fun r2 h2 => ((r2 = 0 → AW w mX10_price 0 0 (rI Q) 0 0 45 [some (.ref a0), some (.int x1), some (.int x2), some (.int x3), none] [] h2) ∧ (¬ r2 = 0 → ((x2 < 0 → AW w mX10_price 0 0 (rI Q) 0 0 80 [some (.ref a0), some (.int x1), some (.int x2), some (.int x3), none] [.int 0] h2) ∧ (¬ x2 < 0 → AC w mX10_leftOf 0 0 (rI fun r3 h3 => (hs h3 a0).1 = 30 ∧ hR h3 a0 5 ≠ 0 ∧ (hs h3 (hR h3 a0 5)).1 = 1 ∧ vp_in 0 (hs h3 (hR h3 a0 5)).2 ∧ ((0 < (lg_cmp (x2.toInt64 + r3.toInt64) ((hI h3 (hR h3 a0 5) (0 : Int32).toNatClampNeg).toInt64)) → AW w mX10_price 0 0 (rI Q) 0 0 80 [some (.ref a0), some (.int x1), some (.int x2), some (.int x3), none] [.int 0] h3) ∧ (¬ 0 < (lg_cmp (x2.toInt64 + r3.toInt64) ((hI h3 (hR h3 a0 5) (0 : Int32).toNatClampNeg).toInt64)) → AW w mX10_price 0 0 (rI Q) 0 0 45 [some (.ref a0), some (.int x1), some (.int x2), some (.int x3), none] [] h3))) [.int x1] h2))))) [.int x1] h1) ∧ (r1 = 0 → Q (-100002) h1))) [.long x1.toInt64, .long 0, .long 6] h) : AW w mX10_price 0 0 (rI Q) 0 0 0 [some (.ref a0), some (.int x1), some (.int x2), some (.int x3), none] [] h := by
  refine aw_iload_n 1 dX10_price_0 rfl rfl ?_
  refine aw_i2l 2 dX10_price_1 rfl ?_
  refine aw_lconst (v := 0) 3 dX10_price_2 rfl (by decide) ?_
  refine aw_ldc2 6 dX10_price_3 rfl kc_X10_300 ?_
  refine aw_callS (stk := []) [.long x1.toInt64, .long 0, .long 6] 9 dX10_price_6 rfl mv_X10_131 ⟨by decide, by decide⟩ rfl rfl (by simp [Value.category]) (by decide) H ?_
  rintro _ h1 ⟨r1, rfl, H⟩
  refine aw_if_ne 15 12 dX10_price_9 rfl (by decide) (fun c1 => ?_) (fun c1 => ?_)
  · replace H := H.1 c1
    refine aw_iload_n 16 dX10_price_15 rfl rfl ?_
    refine aw_callS (stk := []) [.int x1] 19 dX10_price_16 rfl mv_X10_254 ⟨by decide, by decide⟩ rfl rfl (by simp [Value.category]) (by decide) H ?_
    rintro _ h2 ⟨r2, rfl, H⟩
    refine aw_if_eq 45 22 dX10_price_19 rfl (by decide) (fun c2 => ?_) (fun c2 => ?_)
    · replace H := H.1 c2
      exact H
    · replace H := H.2 c2
      refine aw_iload_n 23 dX10_price_22 rfl rfl ?_
      refine aw_if_lt 79 26 dX10_price_23 rfl (by decide) (fun c3 => ?_) (fun c3 => ?_)
      · replace H := H.1 c3
        refine aw_iconst (v := 0) 80 dX10_price_79 rfl (by decide) ?_
        exact H
      · replace H := H.2 c3
        refine aw_iload_n 27 dX10_price_26 rfl rfl ?_
        refine aw_i2l 28 dX10_price_27 rfl ?_
        refine aw_iload_n 29 dX10_price_28 rfl rfl ?_
        refine aw_callS (stk := [.long x2.toInt64]) [.int x1] 32 dX10_price_29 rfl mv_X10_254 ⟨by decide, by decide⟩ rfl rfl (by simp [Value.category]) (by decide) H ?_
        rintro _ h3 ⟨r3, rfl, H⟩
        refine aw_i2l 33 dX10_price_32 rfl ?_
        refine aw_ladd 34 dX10_price_33 rfl ?_
        refine aw_aload_n 35 dX10_price_34 rfl rfl ?_
        obtain ⟨g4, H⟩ := H
        obtain ⟨g5, H⟩ := H
        refine aw_getR 38 dX10_price_35 rfl fl_X10_19 ir_10_5 g4 rfl g5 ?_
        refine aw_iconst (v := 0) 39 dX10_price_38 rfl (by decide) ?_
        obtain ⟨g6, H⟩ := H
        obtain ⟨g7, H⟩ := H
        refine aw_iald 40 dX10_price_39 rfl (Or.inl (shp g6)) g7 ?_
        refine aw_i2l 41 dX10_price_40 rfl ?_
        refine aw_lcmp 42 dX10_price_41 rfl ?_
        refine aw_if_gt 79 45 dX10_price_42 rfl (by decide) (fun c8 => ?_) (fun c8 => ?_)
        · replace H := H.1 c8
          refine aw_iconst (v := 0) 80 dX10_price_79 rfl (by decide) ?_
          exact H
        · replace H := H.2 c8
          exact H
  · replace H := H.2 c1
    refine aw_ldc 14 dX10_price_12 rfl kc_X10_135 ?_
    exact aw_ireturn dX10_price_14 rfl (by decide) (by decide) ⟨_, rfl, H⟩
theorem eX10_price {w : Wd} {Q : Int32 → Hp → Prop} {h : Hp} {a0 : Nat} {x1 : Int32} {x2 : Int32} {x3 : Int32} (H : AW w mX10_price 0 0 (rI Q) 0 0 0 [some (.ref a0), some (.int x1), some (.int x2), some (.int x3), none] [] h) : AC w mX10_price 0 0 (rI Q) [.ref a0, .int x1, .int x2, .int x3] h := AC.ofL (by decide) (by simp [enl, Value.category]) (by simp [leL, enl, Value.category]) H
set_option maxHeartbeats 4000000 in
set_option maxRecDepth 100000 in
theorem sX10_price_45 {w : Wd} {Q : Int32 → Hp → Prop} {h : Hp} {a0 : Nat} {x1 : Int32} {x2 : Int32} {x3 : Int32} (H : AC w mX10_rightOf 0 0 (rI fun r1 h1 => ((r1 = 0 → AW w mX10_price 0 0 (rI Q) 0 0 80 [some (.ref a0), some (.int x1), some (.int x2), some (.int x3), none] [.int 1] h1) ∧ (¬ r1 = 0 → ((x3 < 0 → AW w mX10_price 0 0 (rI Q) 0 0 80 [some (.ref a0), some (.int x1), some (.int x2), some (.int x3), none] [.int 0] h1) ∧ (¬ x3 < 0 → AC w mX10_rightOf 0 0 (rI fun r2 h2 => (hs h2 a0).1 = 30 ∧ hR h2 a0 5 ≠ 0 ∧ (hs h2 (hR h2 a0 5)).1 = 1 ∧ vp_in 1 (hs h2 (hR h2 a0 5)).2 ∧ ((0 < (lg_cmp (x3.toInt64 + r2.toInt64) ((hI h2 (hR h2 a0 5) (1 : Int32).toNatClampNeg).toInt64)) → AW w mX10_price 0 0 (rI Q) 0 0 80 [some (.ref a0), some (.int x1), some (.int x2), some (.int x3), none] [.int 0] h2) ∧ (¬ 0 < (lg_cmp (x3.toInt64 + r2.toInt64) ((hI h2 (hR h2 a0 5) (1 : Int32).toNatClampNeg).toInt64)) → AW w mX10_price 0 0 (rI Q) 0 0 80 [some (.ref a0), some (.int x1), some (.int x2), some (.int x3), none] [.int 1] h2))) [.int x1] h1))))) [.int x1] h) : AW w mX10_price 0 0 (rI Q) 0 0 45 [some (.ref a0), some (.int x1), some (.int x2), some (.int x3), none] [] h := by
  refine aw_iload_n 46 dX10_price_45 rfl rfl ?_
  refine aw_callS (stk := []) [.int x1] 49 dX10_price_46 rfl mv_X10_257 ⟨by decide, by decide⟩ rfl rfl (by simp [Value.category]) (by decide) H ?_
  rintro _ h1 ⟨r1, rfl, H⟩
  refine aw_if_eq 75 52 dX10_price_49 rfl (by decide) (fun c1 => ?_) (fun c1 => ?_)
  · replace H := H.1 c1
    refine aw_iconst (v := 1) 76 dX10_price_75 rfl (by decide) ?_
    refine aw_goto 80 dX10_price_76 (by decide) ?_
    exact H
  · replace H := H.2 c1
    refine aw_iload_n 53 dX10_price_52 rfl rfl ?_
    refine aw_if_lt 79 56 dX10_price_53 rfl (by decide) (fun c2 => ?_) (fun c2 => ?_)
    · replace H := H.1 c2
      refine aw_iconst (v := 0) 80 dX10_price_79 rfl (by decide) ?_
      exact H
    · replace H := H.2 c2
      refine aw_iload_n 57 dX10_price_56 rfl rfl ?_
      refine aw_i2l 58 dX10_price_57 rfl ?_
      refine aw_iload_n 59 dX10_price_58 rfl rfl ?_
      refine aw_callS (stk := [.long x3.toInt64]) [.int x1] 62 dX10_price_59 rfl mv_X10_257 ⟨by decide, by decide⟩ rfl rfl (by simp [Value.category]) (by decide) H ?_
      rintro _ h2 ⟨r2, rfl, H⟩
      refine aw_i2l 63 dX10_price_62 rfl ?_
      refine aw_ladd 64 dX10_price_63 rfl ?_
      refine aw_aload_n 65 dX10_price_64 rfl rfl ?_
      obtain ⟨g3, H⟩ := H
      obtain ⟨g4, H⟩ := H
      refine aw_getR 68 dX10_price_65 rfl fl_X10_19 ir_10_5 g3 rfl g4 ?_
      refine aw_iconst (v := 1) 69 dX10_price_68 rfl (by decide) ?_
      obtain ⟨g5, H⟩ := H
      obtain ⟨g6, H⟩ := H
      refine aw_iald 70 dX10_price_69 rfl (Or.inl (shp g5)) g6 ?_
      refine aw_i2l 71 dX10_price_70 rfl ?_
      refine aw_lcmp 72 dX10_price_71 rfl ?_
      refine aw_if_gt 79 75 dX10_price_72 rfl (by decide) (fun c7 => ?_) (fun c7 => ?_)
      · replace H := H.1 c7
        refine aw_iconst (v := 0) 80 dX10_price_79 rfl (by decide) ?_
        exact H
      · replace H := H.2 c7
        refine aw_iconst (v := 1) 76 dX10_price_75 rfl (by decide) ?_
        refine aw_goto 80 dX10_price_76 (by decide) ?_
        exact H
set_option maxHeartbeats 4000000 in
set_option maxRecDepth 100000 in
theorem sX10_price_80 {w : Wd} {Q : Int32 → Hp → Prop} {h : Hp} {a0 : Nat} {x1 : Int32} {x2 : Int32} {x3 : Int32} {y0 : Int32} (H : (hs h a0).1 = 30 ∧ AC w mX10_prepare 0 0 (rV fun h1 => ((y0 = 0 → Q (-100001) h1) ∧ (¬ y0 = 0 → (hs h1 a0).1 = 30 ∧ AC w mX10_priceOf 0 0 (rI fun r2 h2 => Q r2 h2) [.ref a0, .int x1, .int x2, .int x3] h1))) [.ref a0] h) : AW w mX10_price 0 0 (rI Q) 0 0 80 [some (.ref a0), some (.int x1), some (.int x2), some (.int x3), none] [.int y0] h := by
  refine aw_istore (loc' := [some (.ref a0), some (.int x1), some (.int x2), some (.int x3), some (.int y0)]) 82 dX10_price_80 rfl (by decide) rfl ?_
  refine aw_aload_n 83 dX10_price_82 rfl rfl ?_
  obtain ⟨g1, H⟩ := H
  refine aw_callV (stk := []) (ci := 10) [] 86 dX10_price_83 rfl mv_X10_269 ⟨by decide, by decide⟩ g1 (by intro r hr; cases hr; rfl) rfl rfl (by simp [Value.category]) (by decide) H ?_
  rintro _ h1 ⟨rfl, H⟩
  refine aw_iload 88 dX10_price_86 rfl rfl ?_
  refine aw_if_eq 101 91 dX10_price_88 rfl (by decide) (fun c2 => ?_) (fun c2 => ?_)
  · replace H := H.1 c2
    refine aw_ldc 103 dX10_price_101 rfl kc_X10_194 ?_
    exact aw_ireturn dX10_price_103 rfl (by decide) (by decide) ⟨_, rfl, H⟩
  · replace H := H.2 c2
    refine aw_aload_n 92 dX10_price_91 rfl rfl ?_
    refine aw_iload_n 93 dX10_price_92 rfl rfl ?_
    refine aw_iload_n 94 dX10_price_93 rfl rfl ?_
    refine aw_iload_n 95 dX10_price_94 rfl rfl ?_
    obtain ⟨g3, H⟩ := H
    refine aw_callV (stk := []) (ci := 10) [.int x1, .int x2, .int x3] 98 dX10_price_95 rfl mv_X10_285 ⟨by decide, by decide⟩ g3 (by intro r hr; cases hr; rfl) rfl rfl (by simp [Value.category]) (by decide) H ?_
    rintro _ h2 ⟨r2, rfl, H⟩
    refine aw_goto 103 dX10_price_98 (by decide) ?_
    exact aw_ireturn dX10_price_103 rfl (by decide) (by decide) ⟨_, rfl, H⟩
set_option maxHeartbeats 4000000 in
set_option maxRecDepth 100000 in
theorem sX10_rest_0 {w : Wd} {Q : Int32 → Hp → Prop} {h : Hp} {a0 : Nat} {x1 : Int32} {x2 : Int32} (H : (hs h a0).1 = 30 ∧ hR h a0 5 ≠ 0 ∧ (hs h (hR h a0 5)).1 = 1 ∧ vp_in 0 (hs h (hR h a0 5)).2 ∧ AC w mX10_in 0 0 (rI fun r1 h1 => ((r1 = 0 → Q (-100001) h1) ∧ (¬ r1 = 0 → (hs h1 a0).1 = 30 ∧ hR h1 a0 5 ≠ 0 ∧ (hs h1 (hR h1 a0 5)).1 = 1 ∧ vp_in 1 (hs h1 (hR h1 a0 5)).2 ∧ AC w mX10_in 0 0 (rI fun r2 h2 => ((¬ r2 = 0 → (hs h2 a0).1 = 30 ∧ ∀ h3, h3 = sI h2 a0 39 (-1) → AC w mX10_work 0 0 (rV fun h4 => (hs h4 a0).1 = 30 ∧ hR h4 a0 37 ≠ 0 ∧ (hs h4 (hR h4 a0 37)).1 = 1 ∧ vp_in ((21 * x1) + x2) (hs h4 (hR h4 a0 37)).2 ∧ ((1000000000 ≤ (hI h4 (hR h4 a0 37) ((21 * x1) + x2).toNatClampNeg) → Q (-100003) h4) ∧ (¬ 1000000000 ≤ (hI h4 (hR h4 a0 37) ((21 * x1) + x2).toNatClampNeg) → Q (hI h4 (hR h4 a0 37) ((21 * x1) + x2).toNatClampNeg) h4))) [.ref a0] h3) ∧ (r2 = 0 → Q (-100001) h2))) [.long x2.toInt64, .long 0, .long ((hI h1 (hR h1 a0 5) (1 : Int32).toNatClampNeg).toInt64)] h1))) [.long x1.toInt64, .long 0, .long ((hI h (hR h a0 5) (0 : Int32).toNatClampNeg).toInt64)] h) : AW w mX10_rest 0 0 (rI Q) 0 0 0 [some (.ref a0), some (.int x1), some (.int x2)] [] h := by
  refine aw_iload_n 1 dX10_rest_0 rfl rfl ?_
  refine aw_i2l 2 dX10_rest_1 rfl ?_
  refine aw_lconst (v := 0) 3 dX10_rest_2 rfl (by decide) ?_
  refine aw_aload_n 4 dX10_rest_3 rfl rfl ?_
  obtain ⟨g1, H⟩ := H
  obtain ⟨g2, H⟩ := H
  refine aw_getR 7 dX10_rest_4 rfl fl_X10_19 ir_10_5 g1 rfl g2 ?_
  refine aw_iconst (v := 0) 8 dX10_rest_7 rfl (by decide) ?_
  obtain ⟨g3, H⟩ := H
  obtain ⟨g4, H⟩ := H
  refine aw_iald 9 dX10_rest_8 rfl (Or.inl (shp g3)) g4 ?_
  refine aw_i2l 10 dX10_rest_9 rfl ?_
  refine aw_callS (stk := []) [.long x1.toInt64, .long 0, .long ((hI h (hR h a0 5) (0 : Int32).toNatClampNeg).toInt64)] 13 dX10_rest_10 rfl mv_X10_131 ⟨by decide, by decide⟩ rfl rfl (by simp [Value.category]) (by decide) H ?_
  rintro _ h1 ⟨r1, rfl, H⟩
  refine aw_if_eq 32 16 dX10_rest_13 rfl (by decide) (fun c5 => ?_) (fun c5 => ?_)
  · replace H := H.1 c5
    refine aw_ldc 34 dX10_rest_32 rfl kc_X10_194 ?_
    exact aw_ireturn dX10_rest_34 rfl (by decide) (by decide) ⟨_, rfl, H⟩
  · replace H := H.2 c5
    refine aw_iload_n 17 dX10_rest_16 rfl rfl ?_
    refine aw_i2l 18 dX10_rest_17 rfl ?_
    refine aw_lconst (v := 0) 19 dX10_rest_18 rfl (by decide) ?_
    refine aw_aload_n 20 dX10_rest_19 rfl rfl ?_
    obtain ⟨g6, H⟩ := H
    obtain ⟨g7, H⟩ := H
    refine aw_getR 23 dX10_rest_20 rfl fl_X10_19 ir_10_5 g6 rfl g7 ?_
    refine aw_iconst (v := 1) 24 dX10_rest_23 rfl (by decide) ?_
    obtain ⟨g8, H⟩ := H
    obtain ⟨g9, H⟩ := H
    refine aw_iald 25 dX10_rest_24 rfl (Or.inl (shp g8)) g9 ?_
    refine aw_i2l 26 dX10_rest_25 rfl ?_
    refine aw_callS (stk := []) [.long x2.toInt64, .long 0, .long ((hI h1 (hR h1 a0 5) (1 : Int32).toNatClampNeg).toInt64)] 29 dX10_rest_26 rfl mv_X10_131 ⟨by decide, by decide⟩ rfl rfl (by simp [Value.category]) (by decide) H ?_
    rintro _ h2 ⟨r2, rfl, H⟩
    refine aw_if_ne 35 32 dX10_rest_29 rfl (by decide) (fun c10 => ?_) (fun c10 => ?_)
    · replace H := H.1 c10
      refine aw_aload_n 36 dX10_rest_35 rfl rfl ?_
      refine aw_iconst (v := (-1)) 37 dX10_rest_36 rfl (by decide) ?_
      obtain ⟨g11, H⟩ := H
      refine aw_putI 40 dX10_rest_37 rfl fl_X10_276 (by decide) g11 nf_10_39 ?_
      replace H := H _ rfl
      refine aw_aload_n 41 dX10_rest_40 rfl rfl ?_
      refine aw_callV (stk := []) (ci := 10) [] 44 dX10_rest_41 rfl mv_X10_288 ⟨by decide, by decide⟩ g11 (by intro r hr; cases hr; rfl) rfl rfl (by simp [Value.category]) (by decide) H ?_
      rintro _ h4 ⟨rfl, H⟩
      refine aw_aload_n 45 dX10_rest_44 rfl rfl ?_
      obtain ⟨g12, H⟩ := H
      obtain ⟨g13, H⟩ := H
      refine aw_getR 48 dX10_rest_45 rfl fl_X10_79 ir_10_37 g12 rfl g13 ?_
      refine aw_bipush (v := 21) 50 dX10_rest_48 rfl (by decide) ?_
      refine aw_iload_n 51 dX10_rest_50 rfl rfl ?_
      refine aw_imul 52 dX10_rest_51 rfl ?_
      refine aw_iload_n 53 dX10_rest_52 rfl rfl ?_
      refine aw_iadd 54 dX10_rest_53 rfl ?_
      obtain ⟨g14, H⟩ := H
      obtain ⟨g15, H⟩ := H
      refine aw_iald 55 dX10_rest_54 rfl (Or.inl (shp g14)) g15 ?_
      refine aw_ldcw 58 dX10_rest_55 rfl kc_X10_272 ?_
      refine aw_icmp_ge 75 61 dX10_rest_58 rfl (by decide) (fun c16 => ?_) (fun c16 => ?_)
      · replace H := H.1 c16
        refine aw_ldc 77 dX10_rest_75 rfl kc_X10_156 ?_
        exact aw_ireturn dX10_rest_77 rfl (by decide) (by decide) ⟨_, rfl, H⟩
      · replace H := H.2 c16
        refine aw_aload_n 62 dX10_rest_61 rfl rfl ?_
        refine aw_getR 65 dX10_rest_62 rfl fl_X10_79 ir_10_37 g12 rfl g13 ?_
        refine aw_bipush (v := 21) 67 dX10_rest_65 rfl (by decide) ?_
        refine aw_iload_n 68 dX10_rest_67 rfl rfl ?_
        refine aw_imul 69 dX10_rest_68 rfl ?_
        refine aw_iload_n 70 dX10_rest_69 rfl rfl ?_
        refine aw_iadd 71 dX10_rest_70 rfl ?_
        refine aw_iald 72 dX10_rest_71 rfl (Or.inl (shp g14)) g15 ?_
        refine aw_goto 77 dX10_rest_72 (by decide) ?_
        exact aw_ireturn dX10_rest_77 rfl (by decide) (by decide) ⟨_, rfl, H⟩
    · replace H := H.2 c10
      refine aw_ldc 34 dX10_rest_32 rfl kc_X10_194 ?_
      exact aw_ireturn dX10_rest_34 rfl (by decide) (by decide) ⟨_, rfl, H⟩
theorem eX10_rest {w : Wd} {Q : Int32 → Hp → Prop} {h : Hp} {a0 : Nat} {x1 : Int32} {x2 : Int32} (H : AW w mX10_rest 0 0 (rI Q) 0 0 0 [some (.ref a0), some (.int x1), some (.int x2)] [] h) : AC w mX10_rest 0 0 (rI Q) [.ref a0, .int x1, .int x2] h := AC.ofL (by decide) (by simp [enl, Value.category]) (by simp [leL, enl, Value.category]) H
set_option maxHeartbeats 4000000 in
set_option maxRecDepth 100000 in
theorem sX10_second_0 {w : Wd} {Q : Int32 → Hp → Prop} {h : Hp} {a0 : Nat} (H : (hs h a0).1 = 30 ∧ ∀ h1, h1 = sI h a0 39 (-1) → AC w mX10_work 0 0 (rV fun h2 => (hs h2 a0).1 = 30 ∧ hR h2 a0 38 ≠ 0 ∧ (hs h2 (hR h2 a0 38)).1 = 1 ∧ vp_in 0 (hs h2 (hR h2 a0 38)).2 ∧ ((1000000000 ≤ (hI h2 (hR h2 a0 38) (0 : Int32).toNatClampNeg) → Q (-100003) h2) ∧ (¬ 1000000000 ≤ (hI h2 (hR h2 a0 38) (0 : Int32).toNatClampNeg) → Q (hI h2 (hR h2 a0 38) (0 : Int32).toNatClampNeg) h2))) [.ref a0] h1) : AW w mX10_second 0 0 (rI Q) 0 0 0 [some (.ref a0)] [] h := by
  refine aw_aload_n 1 dX10_second_0 rfl rfl ?_
  refine aw_iconst (v := (-1)) 2 dX10_second_1 rfl (by decide) ?_
  obtain ⟨g1, H⟩ := H
  refine aw_putI 5 dX10_second_2 rfl fl_X10_276 (by decide) g1 nf_10_39 ?_
  replace H := H _ rfl
  refine aw_aload_n 6 dX10_second_5 rfl rfl ?_
  refine aw_callV (stk := []) (ci := 10) [] 9 dX10_second_6 rfl mv_X10_288 ⟨by decide, by decide⟩ g1 (by intro r hr; cases hr; rfl) rfl rfl (by simp [Value.category]) (by decide) H ?_
  rintro _ h2 ⟨rfl, H⟩
  refine aw_aload_n 10 dX10_second_9 rfl rfl ?_
  obtain ⟨g2, H⟩ := H
  obtain ⟨g3, H⟩ := H
  refine aw_getR 13 dX10_second_10 rfl fl_X10_82 ir_10_38 g2 rfl g3 ?_
  refine aw_iconst (v := 0) 14 dX10_second_13 rfl (by decide) ?_
  obtain ⟨g4, H⟩ := H
  obtain ⟨g5, H⟩ := H
  refine aw_iald 15 dX10_second_14 rfl (Or.inl (shp g4)) g5 ?_
  refine aw_ldcw 18 dX10_second_15 rfl kc_X10_272 ?_
  refine aw_icmp_ge 30 21 dX10_second_18 rfl (by decide) (fun c6 => ?_) (fun c6 => ?_)
  · replace H := H.1 c6
    refine aw_ldc 32 dX10_second_30 rfl kc_X10_156 ?_
    exact aw_ireturn dX10_second_32 rfl (by decide) (by decide) ⟨_, rfl, H⟩
  · replace H := H.2 c6
    refine aw_aload_n 22 dX10_second_21 rfl rfl ?_
    refine aw_getR 25 dX10_second_22 rfl fl_X10_82 ir_10_38 g2 rfl g3 ?_
    refine aw_iconst (v := 0) 26 dX10_second_25 rfl (by decide) ?_
    refine aw_iald 27 dX10_second_26 rfl (Or.inl (shp g4)) g5 ?_
    refine aw_goto 32 dX10_second_27 (by decide) ?_
    exact aw_ireturn dX10_second_32 rfl (by decide) (by decide) ⟨_, rfl, H⟩
theorem eX10_second {w : Wd} {Q : Int32 → Hp → Prop} {h : Hp} {a0 : Nat} (H : AW w mX10_second 0 0 (rI Q) 0 0 0 [some (.ref a0)] [] h) : AC w mX10_second 0 0 (rI Q) [.ref a0] h := AC.ofL (by decide) (by simp [enl, Value.category]) (by simp [leL, enl, Value.category]) H
set_option maxHeartbeats 4000000 in
set_option maxRecDepth 100000 in
theorem sX10_sure_0 {w : Wd} {Q : Int32 → Hp → Prop} {h : Hp} {a0 : Nat} {x1 : Int32} {x2 : Int32} (H : (hs h a0).1 = 30 ∧ AC w mX10_isJoint 0 0 (rI fun r1 h1 => ((¬ r1 = 0 → AC w mX10_in 0 0 (rI fun r2 h2 => ((¬ r2 = 0 → (hs h2 a0).1 = 30 ∧ hR h2 a0 37 ≠ 0 ∧ (hs h2 (hR h2 a0 37)).1 = 1 ∧ vp_in 0 (hs h2 (hR h2 a0 37)).2 ∧ hR h2 a0 42 ≠ 0 ∧ (hs h2 (hR h2 a0 42)).1 = 1 ∧ vp_in x1 (hs h2 (hR h2 a0 42)).2 ∧ ∀ h3, h3 = sI h2 a0 39 (hI h2 (hR h2 a0 42) x1.toNatClampNeg) → hR h2 a0 43 ≠ 0 ∧ (hs h2 (hR h2 a0 43)).1 = 1 ∧ vp_in x1 (hs h2 (hR h2 a0 43)).2 ∧ ∀ h4, h4 = sI h3 a0 40 (hI h3 (hR h2 a0 43) x1.toNatClampNeg) → hR h2 a0 44 ≠ 0 ∧ (hs h2 (hR h2 a0 44)).1 = 1 ∧ vp_in x1 (hs h2 (hR h2 a0 44)).2 ∧ ∀ h5, h5 = sI h4 a0 41 (hI h4 (hR h2 a0 44) x1.toNatClampNeg) → AC w mX10_work 0 0 (rV fun h6 => (hs h6 a0).1 = 30 ∧ ∀ h7, h7 = sI h6 a0 39 (-1) → hR h6 a0 37 ≠ 0 ∧ (hs h6 (hR h6 a0 37)).1 = 1 ∧ vp_in 0 (hs h6 (hR h6 a0 37)).2 ∧ ((1000000000 ≤ (hI h7 (hR h6 a0 37) (0 : Int32).toNatClampNeg) → Q 1 h7) ∧ (¬ 1000000000 ≤ (hI h7 (hR h6 a0 37) (0 : Int32).toNatClampNeg) → (((hI h7 (hR h6 a0 37) (0 : Int32).toNatClampNeg) ≤ ((hI h2 (hR h2 a0 37) (0 : Int32).toNatClampNeg) + x2) → Q 0 h7) ∧ (¬ (hI h7 (hR h6 a0 37) (0 : Int32).toNatClampNeg) ≤ ((hI h2 (hR h2 a0 37) (0 : Int32).toNatClampNeg) + x2) → Q 1 h7))))) [.ref a0] h5) ∧ (r2 = 0 → Q (-100002) h2))) [.long x2.toInt64, .long 0, .long 10000] h1) ∧ (r1 = 0 → Q (-100001) h1))) [.ref a0, .int x1] h) : AW w mX10_sure 0 0 (rI Q) 0 0 0 [some (.ref a0), some (.int x1), some (.int x2), none] [] h := by
  refine aw_aload_n 1 dX10_sure_0 rfl rfl ?_
  refine aw_iload_n 2 dX10_sure_1 rfl rfl ?_
  obtain ⟨g1, H⟩ := H
  refine aw_callV (stk := []) (ci := 10) [.int x1] 5 dX10_sure_2 rfl mv_X10_297 ⟨by decide, by decide⟩ g1 (by intro r hr; cases hr; rfl) rfl rfl (by simp [Value.category]) (by decide) H ?_
  rintro _ h1 ⟨r1, rfl, H⟩
  refine aw_if_ne 11 8 dX10_sure_5 rfl (by decide) (fun c2 => ?_) (fun c2 => ?_)
  · replace H := H.1 c2
    refine aw_iload_n 12 dX10_sure_11 rfl rfl ?_
    refine aw_i2l 13 dX10_sure_12 rfl ?_
    refine aw_lconst (v := 0) 14 dX10_sure_13 rfl (by decide) ?_
    refine aw_ldc2 17 dX10_sure_14 rfl kc_X10_302 ?_
    refine aw_callS (stk := []) [.long x2.toInt64, .long 0, .long 10000] 20 dX10_sure_17 rfl mv_X10_131 ⟨by decide, by decide⟩ rfl rfl (by simp [Value.category]) (by decide) H ?_
    rintro _ h2 ⟨r2, rfl, H⟩
    refine aw_if_ne 26 23 dX10_sure_20 rfl (by decide) (fun c3 => ?_) (fun c3 => ?_)
    · replace H := H.1 c3
      refine aw_aload_n 27 dX10_sure_26 rfl rfl ?_
      obtain ⟨g4, H⟩ := H
      obtain ⟨g5, H⟩ := H
      refine aw_getR 30 dX10_sure_27 rfl fl_X10_79 ir_10_37 g4 rfl g5 ?_
      refine aw_iconst (v := 0) 31 dX10_sure_30 rfl (by decide) ?_
      obtain ⟨g6, H⟩ := H
      obtain ⟨g7, H⟩ := H
      refine aw_iald 32 dX10_sure_31 rfl (Or.inl (shp g6)) g7 ?_
      refine aw_istore_n (loc' := [some (.ref a0), some (.int x1), some (.int x2), some (.int (hI h2 (hR h2 a0 37) (0 : Int32).toNatClampNeg))]) 33 dX10_sure_32 rfl (by decide) rfl ?_
      refine aw_aload_n 34 dX10_sure_33 rfl rfl ?_
      refine aw_aload_n 35 dX10_sure_34 rfl rfl ?_
      obtain ⟨g8, H⟩ := H
      refine aw_getR 38 dX10_sure_35 rfl fl_X10_85 ir_10_42 g4 rfl g8 ?_
      refine aw_iload_n 39 dX10_sure_38 rfl rfl ?_
      obtain ⟨g9, H⟩ := H
      obtain ⟨g10, H⟩ := H
      refine aw_iald 40 dX10_sure_39 rfl (Or.inl (shp g9)) g10 ?_
      refine aw_putI 43 dX10_sure_40 rfl fl_X10_276 (by decide) g4 nf_10_39 ?_
      replace H := H _ rfl
      refine aw_aload_n 44 dX10_sure_43 rfl rfl ?_
      refine aw_aload_n 45 dX10_sure_44 rfl rfl ?_
      obtain ⟨g11, H⟩ := H
      refine aw_getR 48 dX10_sure_45 rfl fl_X10_88 ir_10_43 g4 rfl g11 ?_
      refine aw_iload_n 49 dX10_sure_48 rfl rfl ?_
      obtain ⟨g12, H⟩ := H
      obtain ⟨g13, H⟩ := H
      refine aw_iald 50 dX10_sure_49 rfl (Or.inl (shp g12)) g13 ?_
      refine aw_putI 53 dX10_sure_50 rfl fl_X10_279 (by decide) g4 nf_10_40 ?_
      replace H := H _ rfl
      refine aw_aload_n 54 dX10_sure_53 rfl rfl ?_
      refine aw_aload_n 55 dX10_sure_54 rfl rfl ?_
      obtain ⟨g14, H⟩ := H
      refine aw_getR 58 dX10_sure_55 rfl fl_X10_91 ir_10_44 g4 rfl g14 ?_
      refine aw_iload_n 59 dX10_sure_58 rfl rfl ?_
      obtain ⟨g15, H⟩ := H
      obtain ⟨g16, H⟩ := H
      refine aw_iald 60 dX10_sure_59 rfl (Or.inl (shp g15)) g16 ?_
      refine aw_putI 63 dX10_sure_60 rfl fl_X10_282 (by decide) g4 nf_10_41 ?_
      replace H := H _ rfl
      refine aw_aload_n 64 dX10_sure_63 rfl rfl ?_
      refine aw_callV (stk := []) (ci := 10) [] 67 dX10_sure_64 rfl mv_X10_288 ⟨by decide, by decide⟩ g4 (by intro r hr; cases hr; rfl) rfl rfl (by simp [Value.category]) (by decide) H ?_
      rintro _ h6 ⟨rfl, H⟩
      refine aw_aload_n 68 dX10_sure_67 rfl rfl ?_
      refine aw_iconst (v := (-1)) 69 dX10_sure_68 rfl (by decide) ?_
      obtain ⟨g17, H⟩ := H
      refine aw_putI 72 dX10_sure_69 rfl fl_X10_276 (by decide) g17 nf_10_39 ?_
      replace H := H _ rfl
      refine aw_aload_n 73 dX10_sure_72 rfl rfl ?_
      obtain ⟨g18, H⟩ := H
      refine aw_getR 76 dX10_sure_73 rfl fl_X10_79 ir_10_37 g17 rfl g18 ?_
      refine aw_iconst (v := 0) 77 dX10_sure_76 rfl (by decide) ?_
      obtain ⟨g19, H⟩ := H
      obtain ⟨g20, H⟩ := H
      refine aw_iald 78 dX10_sure_77 rfl (Or.inl (shp g19)) g20 ?_
      refine aw_ldcw 81 dX10_sure_78 rfl kc_X10_272 ?_
      refine aw_icmp_ge 96 84 dX10_sure_81 rfl (by decide) (fun c21 => ?_) (fun c21 => ?_)
      · replace H := H.1 c21
        refine aw_iconst (v := 1) 97 dX10_sure_96 rfl (by decide) ?_
        refine aw_goto 101 dX10_sure_97 (by decide) ?_
        exact aw_ireturn dX10_sure_101 rfl (by decide) (by decide) ⟨_, rfl, H⟩
      · replace H := H.2 c21
        refine aw_aload_n 85 dX10_sure_84 rfl rfl ?_
        refine aw_getR 88 dX10_sure_85 rfl fl_X10_79 ir_10_37 g17 rfl g18 ?_
        refine aw_iconst (v := 0) 89 dX10_sure_88 rfl (by decide) ?_
        refine aw_iald 90 dX10_sure_89 rfl (Or.inl (shp g19)) g20 ?_
        refine aw_iload_n 91 dX10_sure_90 rfl rfl ?_
        refine aw_iload_n 92 dX10_sure_91 rfl rfl ?_
        refine aw_iadd 93 dX10_sure_92 rfl ?_
        refine aw_icmp_le 100 96 dX10_sure_93 rfl (by decide) (fun c22 => ?_) (fun c22 => ?_)
        · replace H := H.1 c22
          refine aw_iconst (v := 0) 101 dX10_sure_100 rfl (by decide) ?_
          exact aw_ireturn dX10_sure_101 rfl (by decide) (by decide) ⟨_, rfl, H⟩
        · replace H := H.2 c22
          refine aw_iconst (v := 1) 97 dX10_sure_96 rfl (by decide) ?_
          refine aw_goto 101 dX10_sure_97 (by decide) ?_
          exact aw_ireturn dX10_sure_101 rfl (by decide) (by decide) ⟨_, rfl, H⟩
    · replace H := H.2 c3
      refine aw_ldc 25 dX10_sure_23 rfl kc_X10_135 ?_
      exact aw_ireturn dX10_sure_25 rfl (by decide) (by decide) ⟨_, rfl, H⟩
  · replace H := H.2 c2
    refine aw_ldc 10 dX10_sure_8 rfl kc_X10_194 ?_
    exact aw_ireturn dX10_sure_10 rfl (by decide) (by decide) ⟨_, rfl, H⟩
theorem eX10_sure {w : Wd} {Q : Int32 → Hp → Prop} {h : Hp} {a0 : Nat} {x1 : Int32} {x2 : Int32} (H : AW w mX10_sure 0 0 (rI Q) 0 0 0 [some (.ref a0), some (.int x1), some (.int x2), none] [] h) : AC w mX10_sure 0 0 (rI Q) [.ref a0, .int x1, .int x2] h := AC.ofL (by decide) (by simp [enl, Value.category]) (by simp [leL, enl, Value.category]) H
set_option maxHeartbeats 4000000 in
set_option maxRecDepth 100000 in
theorem sX10_deal_0 {w : Wd} {Q : Hp → Prop} {h : Hp} {a0 : Nat} {x1 : Int32} {x2 : Int32} {x3 : Int32} (H : AW w mX10_deal 0 0 (rV Q) 0 0 3 [some (.ref a0), some (.int x1), some (.int x2), some (.int x3), some (.int 0), none, none, none, none, none, none] [] h) : AW w mX10_deal 0 0 (rV Q) 0 0 0 [some (.ref a0), some (.int x1), some (.int x2), some (.int x3), none, none, none, none, none, none, none] [] h := by
  refine aw_iconst (v := 0) 1 dX10_deal_0 rfl (by decide) ?_
  refine aw_istore (loc' := [some (.ref a0), some (.int x1), some (.int x2), some (.int x3), some (.int 0), none, none, none, none, none, none]) 3 dX10_deal_1 rfl (by decide) rfl ?_
  exact H
theorem eX10_deal {w : Wd} {Q : Hp → Prop} {h : Hp} {a0 : Nat} {x1 : Int32} {x2 : Int32} {x3 : Int32} (H : AW w mX10_deal 0 0 (rV Q) 0 0 0 [some (.ref a0), some (.int x1), some (.int x2), some (.int x3), none, none, none, none, none, none, none] [] h) : AC w mX10_deal 0 0 (rV Q) [.ref a0, .int x1, .int x2, .int x3] h := AC.ofL (by decide) (by simp [enl, Value.category]) (by simp [leL, enl, Value.category]) H
set_option maxHeartbeats 4000000 in
set_option maxRecDepth 100000 in
theorem sX10_deal_3 {w : Wd} {Q : Hp → Prop} {h : Hp} {a0 : Nat} {x1 : Int32} {x2 : Int32} {x3 : Int32} {x4 : Int32} (H : (hs h a0).1 = 30 ∧ hR h a0 6 ≠ 0 ∧ (hs h (hR h a0 6)).1 = 1 ∧ vp_in x1 (hs h (hR h a0 6)).2 ∧ (((hI h (hR h a0 6) x1.toNatClampNeg) ≤ x4 → Q h) ∧ (¬ (hI h (hR h a0 6) x1.toNatClampNeg) ≤ x4 → AC w mX10_kindOf 0 0 (rI fun r1 h1 => (hs h1 a0).1 = 30 ∧ hR h1 a0 18 ≠ 0 ∧ (hs h1 (hR h1 a0 18)).1 = 1 ∧ vp_in ((41 * r1) + 40) (hs h1 (hR h1 a0 18)).2 ∧ AW w mX10_deal 0 0 (rV Q) 0 0 43 [some (.ref a0), some (.int x1), some (.int x2), some (.int x3), some (.int x4), some (.int r1), some (.long ((hI h1 (hR h1 a0 18) ((41 * r1) + 40).toNatClampNeg).toInt64)), none, some (.int x2), none, none] [] h1) [.ref a0, .int 0, .int x1, .int x4] h))) : AW w mX10_deal 0 0 (rV Q) 0 0 3 [some (.ref a0), some (.int x1), some (.int x2), some (.int x3), some (.int x4), none, none, none, none, none, none] [] h := by
  refine aw_iload 5 dX10_deal_3 rfl rfl ?_
  refine aw_aload_n 6 dX10_deal_5 rfl rfl ?_
  obtain ⟨g1, H⟩ := H
  obtain ⟨g2, H⟩ := H
  refine aw_getR 9 dX10_deal_6 rfl fl_X10_22 ir_10_6 g1 rfl g2 ?_
  refine aw_iload_n 10 dX10_deal_9 rfl rfl ?_
  obtain ⟨g3, H⟩ := H
  obtain ⟨g4, H⟩ := H
  refine aw_iald 11 dX10_deal_10 rfl (Or.inl (shp g3)) g4 ?_
  refine aw_icmp_ge 243 14 dX10_deal_11 rfl (by decide) (fun c5 => ?_) (fun c5 => ?_)
  · replace H := H.1 c5
    exact aw_return dX10_deal_243 rfl (by decide) (by decide) ⟨rfl, H⟩
  · replace H := H.2 c5
    refine aw_aload_n 15 dX10_deal_14 rfl rfl ?_
    refine aw_iconst (v := 0) 16 dX10_deal_15 rfl (by decide) ?_
    refine aw_iload_n 17 dX10_deal_16 rfl rfl ?_
    refine aw_iload 19 dX10_deal_17 rfl rfl ?_
    refine aw_callV (stk := []) (ci := 10) [.int 0, .int x1, .int x4] 22 dX10_deal_19 rfl mv_X10_201 ⟨by decide, by decide⟩ g1 (by intro r hr; cases hr; rfl) rfl rfl (by simp [Value.category]) (by decide) H ?_
    rintro _ h1 ⟨r1, rfl, H⟩
    refine aw_istore (loc' := [some (.ref a0), some (.int x1), some (.int x2), some (.int x3), some (.int x4), some (.int r1), none, none, none, none, none]) 24 dX10_deal_22 rfl (by decide) rfl ?_
    refine aw_aload_n 25 dX10_deal_24 rfl rfl ?_
    obtain ⟨g6, H⟩ := H
    obtain ⟨g7, H⟩ := H
    refine aw_getR 28 dX10_deal_25 rfl fl_X10_52 ir_10_18 g6 rfl g7 ?_
    refine aw_bipush (v := 41) 30 dX10_deal_28 rfl (by decide) ?_
    refine aw_iload 32 dX10_deal_30 rfl rfl ?_
    refine aw_imul 33 dX10_deal_32 rfl ?_
    refine aw_bipush (v := 40) 35 dX10_deal_33 rfl (by decide) ?_
    refine aw_iadd 36 dX10_deal_35 rfl ?_
    obtain ⟨g8, H⟩ := H
    obtain ⟨g9, H⟩ := H
    refine aw_iald 37 dX10_deal_36 rfl (Or.inl (shp g8)) g9 ?_
    refine aw_i2l 38 dX10_deal_37 rfl ?_
    refine aw_lstore (loc' := [some (.ref a0), some (.int x1), some (.int x2), some (.int x3), some (.int x4), some (.int r1), some (.long ((hI h1 (hR h1 a0 18) ((41 * r1) + 40).toNatClampNeg).toInt64)), none, none, none, none]) 40 dX10_deal_38 rfl (by decide) rfl ?_
    refine aw_iload_n 41 dX10_deal_40 rfl rfl ?_
    refine aw_istore (loc' := [some (.ref a0), some (.int x1), some (.int x2), some (.int x3), some (.int x4), some (.int r1), some (.long ((hI h1 (hR h1 a0 18) ((41 * r1) + 40).toNatClampNeg).toInt64)), none, some (.int x2), none, none]) 43 dX10_deal_41 rfl (by decide) rfl ?_
    exact H
set_option maxHeartbeats 4000000 in
set_option maxRecDepth 100000 in
theorem sX10_deal_43 {w : Wd} {Q : Hp → Prop} {h : Hp} {a0 : Nat} {x1 : Int32} {x2 : Int32} {x3 : Int32} {x4 : Int32} {x5 : Int32} {l6 : Int64} {x8 : Int32} (H : (((x2 + x3) ≤ x8 → ((0 < (lg_cmp l6 0) → AW w mX10_deal 0 0 (rV Q) 0 0 120 [some (.ref a0), some (.int x1), some (.int x2), some (.int x3), some (.int x4), some (.int x5), some (.long l6), none, some (.int x2), none, none] [] h) ∧ (¬ 0 < (lg_cmp l6 0) → AW w mX10_deal 0 0 (rV Q) 0 0 3 [some (.ref a0), some (.int x1), some (.int x2), some (.int x3), some (.int (x4 + 1)), none, none, none, none, none, none] [] h))) ∧ (¬ (x2 + x3) ≤ x8 → AW w mX10_deal 0 0 (rV Q) 0 0 54 [some (.ref a0), some (.int x1), some (.int x2), some (.int x3), some (.int x4), some (.int x5), some (.long l6), none, some (.int x8), some (.int 0), none] [] h))) : AW w mX10_deal 0 0 (rV Q) 0 0 43 [some (.ref a0), some (.int x1), some (.int x2), some (.int x3), some (.int x4), some (.int x5), some (.long l6), none, some (.int x8), none, none] [] h := by
  refine aw_iload 45 dX10_deal_43 rfl rfl ?_
  refine aw_iload_n 46 dX10_deal_45 rfl rfl ?_
  refine aw_iload_n 47 dX10_deal_46 rfl rfl ?_
  refine aw_iadd 48 dX10_deal_47 rfl ?_
  refine aw_icmp_ge 107 51 dX10_deal_48 rfl (by decide) (fun c1 => ?_) (fun c1 => ?_)
  · replace H := H.1 c1
    refine aw_lload 109 dX10_deal_107 rfl rfl ?_
    refine aw_lconst (v := 0) 110 dX10_deal_109 rfl (by decide) ?_
    refine aw_lcmp 111 dX10_deal_110 rfl ?_
    refine aw_if_gt 117 114 dX10_deal_111 rfl (by decide) (fun c2 => ?_) (fun c2 => ?_)
    · replace H := H.1 c2
      refine aw_iload_n 118 dX10_deal_117 rfl rfl ?_
      refine aw_istore (loc' := [some (.ref a0), some (.int x1), some (.int x2), some (.int x3), some (.int x4), some (.int x5), some (.long l6), none, some (.int x2), none, none]) 120 dX10_deal_118 rfl (by decide) rfl ?_
      exact H
    · replace H := H.2 c2
      refine aw_goto 237 dX10_deal_114 (by decide) ?_
      refine aw_iinc (y := 1) (loc' := [some (.ref a0), some (.int x1), some (.int x2), some (.int x3), some (.int (x4 + 1)), some (.int x5), some (.long l6), none, some (.int x8), none, none]) 240 dX10_deal_237 rfl (by decide) rfl (by decide) rfl ?_
      refine aw_goto 3 dX10_deal_240 (by decide) ?_
      exact aw_fgt (by simp [leL]) H
  · replace H := H.2 c1
    refine aw_iconst (v := 0) 52 dX10_deal_51 rfl (by decide) ?_
    refine aw_istore (loc' := [some (.ref a0), some (.int x1), some (.int x2), some (.int x3), some (.int x4), some (.int x5), some (.long l6), none, some (.int x8), some (.int 0), none]) 54 dX10_deal_52 rfl (by decide) rfl ?_
    exact H
set_option maxHeartbeats 4000000 in
set_option maxRecDepth 100000 in
theorem sX10_deal_54 {w : Wd} {Q : Hp → Prop} {h : Hp} {a0 : Nat} {x1 : Int32} {x2 : Int32} {x3 : Int32} {x4 : Int32} {x5 : Int32} {l6 : Int64} {x8 : Int32} {x9 : Int32} (H : (hs h a0).1 = 30 ∧ hR h a0 6 ≠ 0 ∧ (hs h (hR h a0 6)).1 = 1 ∧ vp_in (20 + x8) (hs h (hR h a0 6)).2 ∧ (((hI h (hR h a0 6) (20 + x8).toNatClampNeg) ≤ x9 → AW w mX10_deal 0 0 (rV Q) 0 0 43 [some (.ref a0), some (.int x1), some (.int x2), some (.int x3), some (.int x4), some (.int x5), some (.long l6), none, some (.int (x8 + 1)), none, none] [] h) ∧ (¬ (hI h (hR h a0 6) (20 + x8).toNatClampNeg) ≤ x9 → hR h a0 18 ≠ 0 ∧ AC w mX10_kindOf 0 0 (rI fun r1 h1 => (hs h1 (hR h a0 18)).1 = 1 ∧ vp_in ((41 * x5) + r1) (hs h1 (hR h a0 18)).2 ∧ AW w mX10_deal 0 0 (rV Q) 0 0 54 [some (.ref a0), some (.int x1), some (.int x2), some (.int x3), some (.int x4), some (.int x5), some (.long (l6 + ((hI h1 (hR h a0 18) ((41 * x5) + r1).toNatClampNeg).toInt64))), none, some (.int x8), some (.int (x9 + 1)), none] [] h1) [.ref a0, .int 1, .int x8, .int x9] h))) : AW w mX10_deal 0 0 (rV Q) 0 0 54 [some (.ref a0), some (.int x1), some (.int x2), some (.int x3), some (.int x4), some (.int x5), some (.long l6), none, some (.int x8), some (.int x9), none] [] h := by
  refine aw_iload 56 dX10_deal_54 rfl rfl ?_
  refine aw_aload_n 57 dX10_deal_56 rfl rfl ?_
  obtain ⟨g1, H⟩ := H
  obtain ⟨g2, H⟩ := H
  refine aw_getR 60 dX10_deal_57 rfl fl_X10_22 ir_10_6 g1 rfl g2 ?_
  refine aw_bipush (v := 20) 62 dX10_deal_60 rfl (by decide) ?_
  refine aw_iload 64 dX10_deal_62 rfl rfl ?_
  refine aw_iadd 65 dX10_deal_64 rfl ?_
  obtain ⟨g3, H⟩ := H
  obtain ⟨g4, H⟩ := H
  refine aw_iald 66 dX10_deal_65 rfl (Or.inl (shp g3)) g4 ?_
  refine aw_icmp_ge 101 69 dX10_deal_66 rfl (by decide) (fun c5 => ?_) (fun c5 => ?_)
  · replace H := H.1 c5
    refine aw_iinc (y := 1) (loc' := [some (.ref a0), some (.int x1), some (.int x2), some (.int x3), some (.int x4), some (.int x5), some (.long l6), none, some (.int (x8 + 1)), some (.int x9), none]) 104 dX10_deal_101 rfl (by decide) rfl (by decide) rfl ?_
    refine aw_goto 43 dX10_deal_104 (by decide) ?_
    exact aw_fgt (by simp [leL]) H
  · replace H := H.2 c5
    refine aw_lload 71 dX10_deal_69 rfl rfl ?_
    refine aw_aload_n 72 dX10_deal_71 rfl rfl ?_
    obtain ⟨g6, H⟩ := H
    refine aw_getR 75 dX10_deal_72 rfl fl_X10_52 ir_10_18 g1 rfl g6 ?_
    refine aw_bipush (v := 41) 77 dX10_deal_75 rfl (by decide) ?_
    refine aw_iload 79 dX10_deal_77 rfl rfl ?_
    refine aw_imul 80 dX10_deal_79 rfl ?_
    refine aw_aload_n 81 dX10_deal_80 rfl rfl ?_
    refine aw_iconst (v := 1) 82 dX10_deal_81 rfl (by decide) ?_
    refine aw_iload 84 dX10_deal_82 rfl rfl ?_
    refine aw_iload 86 dX10_deal_84 rfl rfl ?_
    refine aw_callV (stk := [.int (41 * x5), .ref (hR h a0 18), .long l6]) (ci := 10) [.int 1, .int x8, .int x9] 89 dX10_deal_86 rfl mv_X10_201 ⟨by decide, by decide⟩ g1 (by intro r hr; cases hr; rfl) rfl rfl (by simp [Value.category]) (by decide) H ?_
    rintro _ h1 ⟨r1, rfl, H⟩
    refine aw_iadd 90 dX10_deal_89 rfl ?_
    obtain ⟨g7, H⟩ := H
    obtain ⟨g8, H⟩ := H
    refine aw_iald 91 dX10_deal_90 rfl (Or.inl (shp g7)) g8 ?_
    refine aw_i2l 92 dX10_deal_91 rfl ?_
    refine aw_ladd 93 dX10_deal_92 rfl ?_
    refine aw_lstore (loc' := [some (.ref a0), some (.int x1), some (.int x2), some (.int x3), some (.int x4), some (.int x5), some (.long (l6 + ((hI h1 (hR h a0 18) ((41 * x5) + r1).toNatClampNeg).toInt64))), none, some (.int x8), some (.int x9), none]) 95 dX10_deal_93 rfl (by decide) rfl ?_
    refine aw_iinc (y := 1) (loc' := [some (.ref a0), some (.int x1), some (.int x2), some (.int x3), some (.int x4), some (.int x5), some (.long (l6 + ((hI h1 (hR h a0 18) ((41 * x5) + r1).toNatClampNeg).toInt64))), none, some (.int x8), some (.int (x9 + 1)), none]) 98 dX10_deal_95 rfl (by decide) rfl (by decide) rfl ?_
    refine aw_goto 54 dX10_deal_98 (by decide) ?_
    exact H
set_option maxHeartbeats 4000000 in
set_option maxRecDepth 100000 in
theorem sX10_deal_120 {w : Wd} {Q : Hp → Prop} {h : Hp} {a0 : Nat} {x1 : Int32} {x2 : Int32} {x3 : Int32} {x4 : Int32} {x5 : Int32} {l6 : Int64} {x8 : Int32} (H : (((x2 + x3) ≤ x8 → (hs h a0).1 = 30 ∧ hR h a0 46 ≠ 0 ∧ (hs h (hR h a0 46)).1 = 5 ∧ vp_in ((41 * x5) + 40) (hs h (hR h a0 46)).2 ∧ hR h a0 18 ≠ 0 ∧ (hs h (hR h a0 18)).1 = 1 ∧ vp_in ((41 * x5) + 40) (hs h (hR h a0 18)).2 ∧ ¬ l6 = 0 ∧ ∀ h1, h1 = sL h (hR h a0 46) ((41 * x5) + 40).toNatClampNeg ((hL h (hR h a0 46) ((41 * x5) + 40).toNatClampNeg) + ((1048576 * ((hI h (hR h a0 18) ((41 * x5) + 40).toNatClampNeg).toInt64)) / l6)) → AW w mX10_deal 0 0 (rV Q) 0 0 3 [some (.ref a0), some (.int x1), some (.int x2), some (.int x3), some (.int (x4 + 1)), none, none, none, none, none, none] [] h1) ∧ (¬ (x2 + x3) ≤ x8 → AW w mX10_deal 0 0 (rV Q) 0 0 131 [some (.ref a0), some (.int x1), some (.int x2), some (.int x3), some (.int x4), some (.int x5), some (.long l6), none, some (.int x8), some (.int 0), none] [] h))) : AW w mX10_deal 0 0 (rV Q) 0 0 120 [some (.ref a0), some (.int x1), some (.int x2), some (.int x3), some (.int x4), some (.int x5), some (.long l6), none, some (.int x8), none, none] [] h := by
  refine aw_iload 122 dX10_deal_120 rfl rfl ?_
  refine aw_iload_n 123 dX10_deal_122 rfl rfl ?_
  refine aw_iload_n 124 dX10_deal_123 rfl rfl ?_
  refine aw_iadd 125 dX10_deal_124 rfl ?_
  refine aw_icmp_ge 200 128 dX10_deal_125 rfl (by decide) (fun c1 => ?_) (fun c1 => ?_)
  · replace H := H.1 c1
    refine aw_aload_n 201 dX10_deal_200 rfl rfl ?_
    obtain ⟨g2, H⟩ := H
    obtain ⟨g3, H⟩ := H
    refine aw_getR 204 dX10_deal_201 rfl fl_X10_94 ir_10_46 g2 rfl g3 ?_
    refine aw_bipush (v := 41) 206 dX10_deal_204 rfl (by decide) ?_
    refine aw_iload 208 dX10_deal_206 rfl rfl ?_
    refine aw_imul 209 dX10_deal_208 rfl ?_
    refine aw_bipush (v := 40) 211 dX10_deal_209 rfl (by decide) ?_
    refine aw_iadd 212 dX10_deal_211 rfl ?_
    refine aw_dup2 213 dX10_deal_212 rfl rfl rfl ?_
    obtain ⟨g4, H⟩ := H
    obtain ⟨g5, H⟩ := H
    refine aw_lald 214 dX10_deal_213 rfl (shp g4) g5 ?_
    refine aw_ldc2 217 dX10_deal_214 rfl kc_X10_304 ?_
    refine aw_aload_n 218 dX10_deal_217 rfl rfl ?_
    obtain ⟨g6, H⟩ := H
    refine aw_getR 221 dX10_deal_218 rfl fl_X10_52 ir_10_18 g2 rfl g6 ?_
    refine aw_bipush (v := 41) 223 dX10_deal_221 rfl (by decide) ?_
    refine aw_iload 225 dX10_deal_223 rfl rfl ?_
    refine aw_imul 226 dX10_deal_225 rfl ?_
    refine aw_bipush (v := 40) 228 dX10_deal_226 rfl (by decide) ?_
    refine aw_iadd 229 dX10_deal_228 rfl ?_
    obtain ⟨g7, H⟩ := H
    obtain ⟨g8, H⟩ := H
    refine aw_iald 230 dX10_deal_229 rfl (Or.inl (shp g7)) g8 ?_
    refine aw_i2l 231 dX10_deal_230 rfl ?_
    refine aw_lmul 232 dX10_deal_231 rfl ?_
    refine aw_lload 234 dX10_deal_232 rfl rfl ?_
    obtain ⟨g9, H⟩ := H
    refine aw_ldiv 235 dX10_deal_234 rfl g9 ?_
    refine aw_ladd 236 dX10_deal_235 rfl ?_
    refine aw_last 237 dX10_deal_236 rfl (shp g4) g5 ?_
    replace H := H _ rfl
    refine aw_iinc (y := 1) (loc' := [some (.ref a0), some (.int x1), some (.int x2), some (.int x3), some (.int (x4 + 1)), some (.int x5), some (.long l6), none, some (.int x8), none, none]) 240 dX10_deal_237 rfl (by decide) rfl (by decide) rfl ?_
    refine aw_goto 3 dX10_deal_240 (by decide) ?_
    exact aw_fgt (by simp [leL]) H
  · replace H := H.2 c1
    refine aw_iconst (v := 0) 129 dX10_deal_128 rfl (by decide) ?_
    refine aw_istore (loc' := [some (.ref a0), some (.int x1), some (.int x2), some (.int x3), some (.int x4), some (.int x5), some (.long l6), none, some (.int x8), some (.int 0), none]) 131 dX10_deal_129 rfl (by decide) rfl ?_
    exact H
set_option maxHeartbeats 4000000 in
set_option maxRecDepth 100000 in
theorem sX10_deal_131 {w : Wd} {Q : Hp → Prop} {h : Hp} {a0 : Nat} {x1 : Int32} {x2 : Int32} {x3 : Int32} {x4 : Int32} {x5 : Int32} {l6 : Int64} {x8 : Int32} {x9 : Int32} (H : (hs h a0).1 = 30 ∧ hR h a0 6 ≠ 0 ∧ (hs h (hR h a0 6)).1 = 1 ∧ vp_in (20 + x8) (hs h (hR h a0 6)).2 ∧ (((hI h (hR h a0 6) (20 + x8).toNatClampNeg) ≤ x9 → AW w mX10_deal 0 0 (rV Q) 0 0 120 [some (.ref a0), some (.int x1), some (.int x2), some (.int x3), some (.int x4), some (.int x5), some (.long l6), none, some (.int (x8 + 1)), none, none] [] h) ∧ (¬ (hI h (hR h a0 6) (20 + x8).toNatClampNeg) ≤ x9 → AC w mX10_kindOf 0 0 (rI fun r1 h1 => (hs h1 a0).1 = 30 ∧ hR h1 a0 46 ≠ 0 ∧ (hs h1 (hR h1 a0 46)).1 = 5 ∧ vp_in ((41 * x5) + r1) (hs h1 (hR h1 a0 46)).2 ∧ hR h1 a0 18 ≠ 0 ∧ (hs h1 (hR h1 a0 18)).1 = 1 ∧ vp_in ((41 * x5) + r1) (hs h1 (hR h1 a0 18)).2 ∧ ¬ l6 = 0 ∧ ∀ h2, h2 = sL h1 (hR h1 a0 46) ((41 * x5) + r1).toNatClampNeg ((hL h1 (hR h1 a0 46) ((41 * x5) + r1).toNatClampNeg) + ((1048576 * ((hI h1 (hR h1 a0 18) ((41 * x5) + r1).toNatClampNeg).toInt64)) / l6)) → AW w mX10_deal 0 0 (rV Q) 0 0 131 [some (.ref a0), some (.int x1), some (.int x2), some (.int x3), some (.int x4), some (.int x5), some (.long l6), none, some (.int x8), some (.int (x9 + 1)), none] [] h2) [.ref a0, .int 1, .int x8, .int x9] h))) : AW w mX10_deal 0 0 (rV Q) 0 0 131 [some (.ref a0), some (.int x1), some (.int x2), some (.int x3), some (.int x4), some (.int x5), some (.long l6), none, some (.int x8), some (.int x9), none] [] h := by
  refine aw_iload 133 dX10_deal_131 rfl rfl ?_
  refine aw_aload_n 134 dX10_deal_133 rfl rfl ?_
  obtain ⟨g1, H⟩ := H
  obtain ⟨g2, H⟩ := H
  refine aw_getR 137 dX10_deal_134 rfl fl_X10_22 ir_10_6 g1 rfl g2 ?_
  refine aw_bipush (v := 20) 139 dX10_deal_137 rfl (by decide) ?_
  refine aw_iload 141 dX10_deal_139 rfl rfl ?_
  refine aw_iadd 142 dX10_deal_141 rfl ?_
  obtain ⟨g3, H⟩ := H
  obtain ⟨g4, H⟩ := H
  refine aw_iald 143 dX10_deal_142 rfl (Or.inl (shp g3)) g4 ?_
  refine aw_icmp_ge 194 146 dX10_deal_143 rfl (by decide) (fun c5 => ?_) (fun c5 => ?_)
  · replace H := H.1 c5
    refine aw_iinc (y := 1) (loc' := [some (.ref a0), some (.int x1), some (.int x2), some (.int x3), some (.int x4), some (.int x5), some (.long l6), none, some (.int (x8 + 1)), some (.int x9), none]) 197 dX10_deal_194 rfl (by decide) rfl (by decide) rfl ?_
    refine aw_goto 120 dX10_deal_197 (by decide) ?_
    exact aw_fgt (by simp [leL]) H
  · replace H := H.2 c5
    refine aw_bipush (v := 41) 148 dX10_deal_146 rfl (by decide) ?_
    refine aw_iload 150 dX10_deal_148 rfl rfl ?_
    refine aw_imul 151 dX10_deal_150 rfl ?_
    refine aw_aload_n 152 dX10_deal_151 rfl rfl ?_
    refine aw_iconst (v := 1) 153 dX10_deal_152 rfl (by decide) ?_
    refine aw_iload 155 dX10_deal_153 rfl rfl ?_
    refine aw_iload 157 dX10_deal_155 rfl rfl ?_
    refine aw_callV (stk := [.int (41 * x5)]) (ci := 10) [.int 1, .int x8, .int x9] 160 dX10_deal_157 rfl mv_X10_201 ⟨by decide, by decide⟩ g1 (by intro r hr; cases hr; rfl) rfl rfl (by simp [Value.category]) (by decide) H ?_
    rintro _ h1 ⟨r1, rfl, H⟩
    refine aw_iadd 161 dX10_deal_160 rfl ?_
    refine aw_istore (loc' := [some (.ref a0), some (.int x1), some (.int x2), some (.int x3), some (.int x4), some (.int x5), some (.long l6), none, some (.int x8), some (.int x9), some (.int ((41 * x5) + r1))]) 163 dX10_deal_161 rfl (by decide) rfl ?_
    refine aw_aload_n 164 dX10_deal_163 rfl rfl ?_
    obtain ⟨g6, H⟩ := H
    obtain ⟨g7, H⟩ := H
    refine aw_getR 167 dX10_deal_164 rfl fl_X10_94 ir_10_46 g6 rfl g7 ?_
    refine aw_iload 169 dX10_deal_167 rfl rfl ?_
    refine aw_dup2 170 dX10_deal_169 rfl rfl rfl ?_
    obtain ⟨g8, H⟩ := H
    obtain ⟨g9, H⟩ := H
    refine aw_lald 171 dX10_deal_170 rfl (shp g8) g9 ?_
    refine aw_ldc2 174 dX10_deal_171 rfl kc_X10_304 ?_
    refine aw_aload_n 175 dX10_deal_174 rfl rfl ?_
    obtain ⟨g10, H⟩ := H
    refine aw_getR 178 dX10_deal_175 rfl fl_X10_52 ir_10_18 g6 rfl g10 ?_
    refine aw_iload 180 dX10_deal_178 rfl rfl ?_
    obtain ⟨g11, H⟩ := H
    obtain ⟨g12, H⟩ := H
    refine aw_iald 181 dX10_deal_180 rfl (Or.inl (shp g11)) g12 ?_
    refine aw_i2l 182 dX10_deal_181 rfl ?_
    refine aw_lmul 183 dX10_deal_182 rfl ?_
    refine aw_lload 185 dX10_deal_183 rfl rfl ?_
    obtain ⟨g13, H⟩ := H
    refine aw_ldiv 186 dX10_deal_185 rfl g13 ?_
    refine aw_ladd 187 dX10_deal_186 rfl ?_
    refine aw_last 188 dX10_deal_187 rfl (shp g8) g9 ?_
    replace H := H _ rfl
    refine aw_iinc (y := 1) (loc' := [some (.ref a0), some (.int x1), some (.int x2), some (.int x3), some (.int x4), some (.int x5), some (.long l6), none, some (.int x8), some (.int (x9 + 1)), some (.int ((41 * x5) + r1))]) 191 dX10_deal_188 rfl (by decide) rfl (by decide) rfl ?_
    refine aw_goto 131 dX10_deal_191 (by decide) ?_
    exact aw_fgt (by simp [leL]) H
set_option maxHeartbeats 4000000 in
set_option maxRecDepth 100000 in
theorem sX10_round_0 {w : Wd} {Q : Int32 → Hp → Prop} {h : Hp} {a0 : Nat} (H : (hs h a0).1 = 30 ∧ AC w mX10_best 0 0 (rI fun r1 h1 => ((¬ r1 = 0 → AW w mX10_round 0 0 (rI Q) 0 0 11 [some (.ref a0), some (.int 0), none, none, none, none] [] h1) ∧ (r1 = 0 → Q 0 h1))) [.ref a0] h) : AW w mX10_round 0 0 (rI Q) 0 0 0 [some (.ref a0), none, none, none, none, none] [] h := by
  refine aw_aload_n 1 dX10_round_0 rfl rfl ?_
  obtain ⟨g1, H⟩ := H
  refine aw_callV (stk := []) (ci := 10) [] 4 dX10_round_1 rfl mv_X10_294 ⟨by decide, by decide⟩ g1 (by intro r hr; cases hr; rfl) rfl rfl (by simp [Value.category]) (by decide) H ?_
  rintro _ h1 ⟨r1, rfl, H⟩
  refine aw_if_ne 9 7 dX10_round_4 rfl (by decide) (fun c2 => ?_) (fun c2 => ?_)
  · replace H := H.1 c2
    refine aw_iconst (v := 0) 10 dX10_round_9 rfl (by decide) ?_
    refine aw_istore_n (loc' := [some (.ref a0), some (.int 0), none, none, none, none]) 11 dX10_round_10 rfl (by decide) rfl ?_
    exact H
  · replace H := H.2 c2
    refine aw_iconst (v := 0) 8 dX10_round_7 rfl (by decide) ?_
    exact aw_zreturn dX10_round_8 rfl (by decide) (by decide) (by decide) ⟨_, rfl, H⟩
theorem eX10_round {w : Wd} {Q : Int32 → Hp → Prop} {h : Hp} {a0 : Nat} (H : AW w mX10_round 0 0 (rI Q) 0 0 0 [some (.ref a0), none, none, none, none, none] [] h) : AC w mX10_round 0 0 (rI Q) [.ref a0] h := AC.ofL (by decide) (by simp [enl, Value.category]) (by simp [leL, enl, Value.category]) H
set_option maxHeartbeats 4000000 in
set_option maxRecDepth 100000 in
theorem sX10_round_11 {w : Wd} {Q : Int32 → Hp → Prop} {h : Hp} {a0 : Nat} {x1 : Int32} (H : ((1640 ≤ x1 → AW w mX10_round 0 0 (rI Q) 0 0 33 [some (.ref a0), some (.int 0), none, none, none, none] [] h) ∧ (¬ 1640 ≤ x1 → (hs h a0).1 = 30 ∧ hR h a0 46 ≠ 0 ∧ (hs h (hR h a0 46)).1 = 5 ∧ vp_in x1 (hs h (hR h a0 46)).2 ∧ ∀ h1, h1 = sL h (hR h a0 46) x1.toNatClampNeg 0 → AW w mX10_round 0 0 (rI Q) 0 0 11 [some (.ref a0), some (.int (x1 + 1)), none, none, none, none] [] h1))) : AW w mX10_round 0 0 (rI Q) 0 0 11 [some (.ref a0), some (.int x1), none, none, none, none] [] h := by
  refine aw_iload_n 12 dX10_round_11 rfl rfl ?_
  refine aw_sipush (v := 1640) 15 dX10_round_12 rfl (by decide) ?_
  refine aw_icmp_ge 31 18 dX10_round_15 rfl (by decide) (fun c1 => ?_) (fun c1 => ?_)
  · replace H := H.1 c1
    refine aw_iconst (v := 0) 32 dX10_round_31 rfl (by decide) ?_
    refine aw_istore_n (loc' := [some (.ref a0), some (.int 0), none, none, none, none]) 33 dX10_round_32 rfl (by decide) rfl ?_
    exact H
  · replace H := H.2 c1
    refine aw_aload_n 19 dX10_round_18 rfl rfl ?_
    obtain ⟨g2, H⟩ := H
    obtain ⟨g3, H⟩ := H
    refine aw_getR 22 dX10_round_19 rfl fl_X10_94 ir_10_46 g2 rfl g3 ?_
    refine aw_iload_n 23 dX10_round_22 rfl rfl ?_
    refine aw_lconst (v := 0) 24 dX10_round_23 rfl (by decide) ?_
    obtain ⟨g4, H⟩ := H
    obtain ⟨g5, H⟩ := H
    refine aw_last 25 dX10_round_24 rfl (shp g4) g5 ?_
    replace H := H _ rfl
    refine aw_iinc (y := 1) (loc' := [some (.ref a0), some (.int (x1 + 1)), none, none, none, none]) 28 dX10_round_25 rfl (by decide) rfl (by decide) rfl ?_
    refine aw_goto 11 dX10_round_28 (by decide) ?_
    exact H
set_option maxHeartbeats 4000000 in
set_option maxRecDepth 100000 in
theorem sX10_round_33 {w : Wd} {Q : Int32 → Hp → Prop} {h : Hp} {a0 : Nat} {x1 : Int32} (H : (hs h a0).1 = 30 ∧ (((hI h a0 45) ≤ x1 → AW w mX10_round 0 0 (rI Q) 0 0 142 [some (.ref a0), some (.int 0), none, none, none, none] [] h) ∧ (¬ (hI h a0 45) ≤ x1 → hR h a0 42 ≠ 0 ∧ (hs h (hR h a0 42)).1 = 1 ∧ vp_in x1 (hs h (hR h a0 42)).2 ∧ hR h a0 43 ≠ 0 ∧ (hs h (hR h a0 43)).1 = 1 ∧ vp_in x1 (hs h (hR h a0 43)).2 ∧ hR h a0 44 ≠ 0 ∧ (hs h (hR h a0 44)).1 = 1 ∧ vp_in x1 (hs h (hR h a0 44)).2 ∧ ((¬ (hI h (hR h a0 42) x1.toNatClampNeg) = 6 → (((hI h (hR h a0 42) x1.toNatClampNeg) = 1 → AW w mX10_round 0 0 (rI Q) 0 0 33 [some (.ref a0), some (.int (x1 + 1)), none, none, none, none] [] h) ∧ (¬ (hI h (hR h a0 42) x1.toNatClampNeg) = 1 → (((hI h (hR h a0 42) x1.toNatClampNeg) = 2 → AW w mX10_round 0 0 (rI Q) 0 0 33 [some (.ref a0), some (.int (x1 + 1)), none, none, none, none] [] h) ∧ (¬ (hI h (hR h a0 42) x1.toNatClampNeg) = 2 → AW w mX10_round 0 0 (rI Q) 0 0 105 [some (.ref a0), some (.int x1), some (.int (hI h (hR h a0 42) x1.toNatClampNeg)), some (.int (hI h (hR h a0 43) x1.toNatClampNeg)), some (.int (hI h (hR h a0 44) x1.toNatClampNeg)), some (.int (hI h (hR h a0 43) x1.toNatClampNeg))] [] h))))) ∧ ((hI h (hR h a0 42) x1.toNatClampNeg) = 6 → AC w mX10_deal 0 0 (rV fun h1 => (hs h1 a0).1 = 30 ∧ AC w mX10_deal 0 0 (rV fun h2 => AW w mX10_round 0 0 (rI Q) 0 0 33 [some (.ref a0), some (.int (x1 + 1)), none, none, none, none] [] h2) [.ref a0, .int ((hI h (hR h a0 43) x1.toNatClampNeg) + 1), .int (hI h (hR h a0 44) x1.toNatClampNeg), .int 1] h1) [.ref a0, .int (hI h (hR h a0 43) x1.toNatClampNeg), .int ((hI h (hR h a0 44) x1.toNatClampNeg) + 1), .int 1] h))))) : AW w mX10_round 0 0 (rI Q) 0 0 33 [some (.ref a0), some (.int x1), none, none, none, none] [] h := by
  refine aw_iload_n 34 dX10_round_33 rfl rfl ?_
  refine aw_aload_n 35 dX10_round_34 rfl rfl ?_
  obtain ⟨g1, H⟩ := H
  refine aw_getI 38 dX10_round_35 rfl fl_X10_291 (by decide) g1 ?_
  refine aw_icmp_ge 140 41 dX10_round_38 rfl (by decide) (fun c2 => ?_) (fun c2 => ?_)
  · replace H := H.1 c2
    refine aw_iconst (v := 0) 141 dX10_round_140 rfl (by decide) ?_
    refine aw_istore_n (loc' := [some (.ref a0), some (.int 0), none, none, none, none]) 142 dX10_round_141 rfl (by decide) rfl ?_
    exact H
  · replace H := H.2 c2
    refine aw_aload_n 42 dX10_round_41 rfl rfl ?_
    obtain ⟨g3, H⟩ := H
    refine aw_getR 45 dX10_round_42 rfl fl_X10_85 ir_10_42 g1 rfl g3 ?_
    refine aw_iload_n 46 dX10_round_45 rfl rfl ?_
    obtain ⟨g4, H⟩ := H
    obtain ⟨g5, H⟩ := H
    refine aw_iald 47 dX10_round_46 rfl (Or.inl (shp g4)) g5 ?_
    refine aw_istore_n (loc' := [some (.ref a0), some (.int x1), some (.int (hI h (hR h a0 42) x1.toNatClampNeg)), none, none, none]) 48 dX10_round_47 rfl (by decide) rfl ?_
    refine aw_aload_n 49 dX10_round_48 rfl rfl ?_
    obtain ⟨g6, H⟩ := H
    refine aw_getR 52 dX10_round_49 rfl fl_X10_88 ir_10_43 g1 rfl g6 ?_
    refine aw_iload_n 53 dX10_round_52 rfl rfl ?_
    obtain ⟨g7, H⟩ := H
    obtain ⟨g8, H⟩ := H
    refine aw_iald 54 dX10_round_53 rfl (Or.inl (shp g7)) g8 ?_
    refine aw_istore_n (loc' := [some (.ref a0), some (.int x1), some (.int (hI h (hR h a0 42) x1.toNatClampNeg)), some (.int (hI h (hR h a0 43) x1.toNatClampNeg)), none, none]) 55 dX10_round_54 rfl (by decide) rfl ?_
    refine aw_aload_n 56 dX10_round_55 rfl rfl ?_
    obtain ⟨g9, H⟩ := H
    refine aw_getR 59 dX10_round_56 rfl fl_X10_91 ir_10_44 g1 rfl g9 ?_
    refine aw_iload_n 60 dX10_round_59 rfl rfl ?_
    obtain ⟨g10, H⟩ := H
    obtain ⟨g11, H⟩ := H
    refine aw_iald 61 dX10_round_60 rfl (Or.inl (shp g10)) g11 ?_
    refine aw_istore (loc' := [some (.ref a0), some (.int x1), some (.int (hI h (hR h a0 42) x1.toNatClampNeg)), some (.int (hI h (hR h a0 43) x1.toNatClampNeg)), some (.int (hI h (hR h a0 44) x1.toNatClampNeg)), none]) 63 dX10_round_61 rfl (by decide) rfl ?_
    refine aw_iload_n 64 dX10_round_63 rfl rfl ?_
    refine aw_bipush (v := 6) 66 dX10_round_64 rfl (by decide) ?_
    refine aw_icmp_ne 92 69 dX10_round_66 rfl (by decide) (fun c12 => ?_) (fun c12 => ?_)
    · replace H := H.1 c12
      refine aw_iload_n 93 dX10_round_92 rfl rfl ?_
      refine aw_iconst (v := 1) 94 dX10_round_93 rfl (by decide) ?_
      refine aw_icmp_eq 134 97 dX10_round_94 rfl (by decide) (fun c13 => ?_) (fun c13 => ?_)
      · replace H := H.1 c13
        refine aw_iinc (y := 1) (loc' := [some (.ref a0), some (.int (x1 + 1)), some (.int (hI h (hR h a0 42) x1.toNatClampNeg)), some (.int (hI h (hR h a0 43) x1.toNatClampNeg)), some (.int (hI h (hR h a0 44) x1.toNatClampNeg)), none]) 137 dX10_round_134 rfl (by decide) rfl (by decide) rfl ?_
        refine aw_goto 33 dX10_round_137 (by decide) ?_
        exact aw_fgt (by simp [leL]) H
      · replace H := H.2 c13
        refine aw_iload_n 98 dX10_round_97 rfl rfl ?_
        refine aw_iconst (v := 2) 99 dX10_round_98 rfl (by decide) ?_
        refine aw_icmp_eq 134 102 dX10_round_99 rfl (by decide) (fun c14 => ?_) (fun c14 => ?_)
        · replace H := H.1 c14
          refine aw_iinc (y := 1) (loc' := [some (.ref a0), some (.int (x1 + 1)), some (.int (hI h (hR h a0 42) x1.toNatClampNeg)), some (.int (hI h (hR h a0 43) x1.toNatClampNeg)), some (.int (hI h (hR h a0 44) x1.toNatClampNeg)), none]) 137 dX10_round_134 rfl (by decide) rfl (by decide) rfl ?_
          refine aw_goto 33 dX10_round_137 (by decide) ?_
          exact aw_fgt (by simp [leL]) H
        · replace H := H.2 c14
          refine aw_iload_n 103 dX10_round_102 rfl rfl ?_
          refine aw_istore (loc' := [some (.ref a0), some (.int x1), some (.int (hI h (hR h a0 42) x1.toNatClampNeg)), some (.int (hI h (hR h a0 43) x1.toNatClampNeg)), some (.int (hI h (hR h a0 44) x1.toNatClampNeg)), some (.int (hI h (hR h a0 43) x1.toNatClampNeg))]) 105 dX10_round_103 rfl (by decide) rfl ?_
          exact H
    · replace H := H.2 c12
      refine aw_aload_n 70 dX10_round_69 rfl rfl ?_
      refine aw_iload_n 71 dX10_round_70 rfl rfl ?_
      refine aw_iload 73 dX10_round_71 rfl rfl ?_
      refine aw_iconst (v := 1) 74 dX10_round_73 rfl (by decide) ?_
      refine aw_iadd 75 dX10_round_74 rfl ?_
      refine aw_iconst (v := 1) 76 dX10_round_75 rfl (by decide) ?_
      refine aw_callV (stk := []) (ci := 10) [.int (hI h (hR h a0 43) x1.toNatClampNeg), .int ((hI h (hR h a0 44) x1.toNatClampNeg) + 1), .int 1] 79 dX10_round_76 rfl mv_X10_306 ⟨by decide, by decide⟩ g1 (by intro r hr; cases hr; rfl) rfl rfl (by simp [Value.category]) (by decide) H ?_
      rintro _ h1 ⟨rfl, H⟩
      refine aw_aload_n 80 dX10_round_79 rfl rfl ?_
      refine aw_iload_n 81 dX10_round_80 rfl rfl ?_
      refine aw_iconst (v := 1) 82 dX10_round_81 rfl (by decide) ?_
      refine aw_iadd 83 dX10_round_82 rfl ?_
      refine aw_iload 85 dX10_round_83 rfl rfl ?_
      refine aw_iconst (v := 1) 86 dX10_round_85 rfl (by decide) ?_
      obtain ⟨g15, H⟩ := H
      refine aw_callV (stk := []) (ci := 10) [.int ((hI h (hR h a0 43) x1.toNatClampNeg) + 1), .int (hI h (hR h a0 44) x1.toNatClampNeg), .int 1] 89 dX10_round_86 rfl mv_X10_306 ⟨by decide, by decide⟩ g15 (by intro r hr; cases hr; rfl) rfl rfl (by simp [Value.category]) (by decide) H ?_
      rintro _ h2 ⟨rfl, H⟩
      refine aw_goto 134 dX10_round_89 (by decide) ?_
      refine aw_iinc (y := 1) (loc' := [some (.ref a0), some (.int (x1 + 1)), some (.int (hI h (hR h a0 42) x1.toNatClampNeg)), some (.int (hI h (hR h a0 43) x1.toNatClampNeg)), some (.int (hI h (hR h a0 44) x1.toNatClampNeg)), none]) 137 dX10_round_134 rfl (by decide) rfl (by decide) rfl ?_
      refine aw_goto 33 dX10_round_137 (by decide) ?_
      exact aw_fgt (by simp [leL]) H
set_option maxHeartbeats 4000000 in
set_option maxRecDepth 100000 in
theorem sX10_round_105 {w : Wd} {Q : Int32 → Hp → Prop} {h : Hp} {a0 : Nat} {x1 : Int32} {x2 : Int32} {x3 : Int32} {x4 : Int32} {x5 : Int32} (H : AC w mX10_leftOf 0 0 (rI fun r1 h1 => (((x3 + r1) ≤ x5 → AW w mX10_round 0 0 (rI Q) 0 0 33 [some (.ref a0), some (.int (x1 + 1)), none, none, none, none] [] h1) ∧ (¬ (x3 + r1) ≤ x5 → AC w mX10_rightOf 0 0 (rI fun r2 h2 => (hs h2 a0).1 = 30 ∧ AC w mX10_deal 0 0 (rV fun h3 => AW w mX10_round 0 0 (rI Q) 0 0 105 [some (.ref a0), some (.int x1), some (.int x2), some (.int x3), some (.int x4), some (.int (x5 + 1))] [] h3) [.ref a0, .int x5, .int x4, .int r2] h2) [.int x2] h1))) [.int x2] h) : AW w mX10_round 0 0 (rI Q) 0 0 105 [some (.ref a0), some (.int x1), some (.int x2), some (.int x3), some (.int x4), some (.int x5)] [] h := by
  refine aw_iload 107 dX10_round_105 rfl rfl ?_
  refine aw_iload_n 108 dX10_round_107 rfl rfl ?_
  refine aw_iload_n 109 dX10_round_108 rfl rfl ?_
  refine aw_callS (stk := [.int x3, .int x5]) [.int x2] 112 dX10_round_109 rfl mv_X10_254 ⟨by decide, by decide⟩ rfl rfl (by simp [Value.category]) (by decide) H ?_
  rintro _ h1 ⟨r1, rfl, H⟩
  refine aw_iadd 113 dX10_round_112 rfl ?_
  refine aw_icmp_ge 134 116 dX10_round_113 rfl (by decide) (fun c1 => ?_) (fun c1 => ?_)
  · replace H := H.1 c1
    refine aw_iinc (y := 1) (loc' := [some (.ref a0), some (.int (x1 + 1)), some (.int x2), some (.int x3), some (.int x4), some (.int x5)]) 137 dX10_round_134 rfl (by decide) rfl (by decide) rfl ?_
    refine aw_goto 33 dX10_round_137 (by decide) ?_
    exact aw_fgt (by simp [leL]) H
  · replace H := H.2 c1
    refine aw_aload_n 117 dX10_round_116 rfl rfl ?_
    refine aw_iload 119 dX10_round_117 rfl rfl ?_
    refine aw_iload 121 dX10_round_119 rfl rfl ?_
    refine aw_iload_n 122 dX10_round_121 rfl rfl ?_
    refine aw_callS (stk := [.int x4, .int x5, .ref a0]) [.int x2] 125 dX10_round_122 rfl mv_X10_257 ⟨by decide, by decide⟩ rfl rfl (by simp [Value.category]) (by decide) H ?_
    rintro _ h2 ⟨r2, rfl, H⟩
    obtain ⟨g2, H⟩ := H
    refine aw_callV (stk := []) (ci := 10) [.int x5, .int x4, .int r2] 128 dX10_round_125 rfl mv_X10_306 ⟨by decide, by decide⟩ g2 (by intro r hr; cases hr; rfl) rfl rfl (by simp [Value.category]) (by decide) H ?_
    rintro _ h3 ⟨rfl, H⟩
    refine aw_iinc (y := 1) (loc' := [some (.ref a0), some (.int x1), some (.int x2), some (.int x3), some (.int x4), some (.int (x5 + 1))]) 131 dX10_round_128 rfl (by decide) rfl (by decide) rfl ?_
    refine aw_goto 105 dX10_round_131 (by decide) ?_
    exact H
set_option maxHeartbeats 4000000 in
set_option maxRecDepth 100000 in
theorem sX10_round_142 {w : Wd} {Q : Int32 → Hp → Prop} {h : Hp} {a0 : Nat} {x1 : Int32} (H : (hs h a0).1 = 30 ∧ hR h a0 10 ≠ 0 ∧ (hs h (hR h a0 10)).1 = 1 ∧ vp_in 0 (hs h (hR h a0 10)).2 ∧ (((hI h (hR h a0 10) (0 : Int32).toNatClampNeg) ≤ x1 → Q 1 h) ∧ (¬ (hI h (hR h a0 10) (0 : Int32).toNatClampNeg) ≤ x1 → AW w mX10_round 0 0 (rI Q) 0 0 157 [some (.ref a0), some (.int x1), some (.long 0), none, some (.int 0), none] [] h))) : AW w mX10_round 0 0 (rI Q) 0 0 142 [some (.ref a0), some (.int x1), none, none, none, none] [] h := by
  refine aw_iload_n 143 dX10_round_142 rfl rfl ?_
  refine aw_aload_n 144 dX10_round_143 rfl rfl ?_
  obtain ⟨g1, H⟩ := H
  obtain ⟨g2, H⟩ := H
  refine aw_getR 147 dX10_round_144 rfl fl_X10_34 ir_10_10 g1 rfl g2 ?_
  refine aw_iconst (v := 0) 148 dX10_round_147 rfl (by decide) ?_
  obtain ⟨g3, H⟩ := H
  obtain ⟨g4, H⟩ := H
  refine aw_iald 149 dX10_round_148 rfl (Or.inl (shp g3)) g4 ?_
  refine aw_icmp_ge 249 152 dX10_round_149 rfl (by decide) (fun c5 => ?_) (fun c5 => ?_)
  · replace H := H.1 c5
    refine aw_iconst (v := 1) 250 dX10_round_249 rfl (by decide) ?_
    exact aw_zreturn dX10_round_250 rfl (by decide) (by decide) (by decide) ⟨_, rfl, H⟩
  · replace H := H.2 c5
    refine aw_lconst (v := 0) 153 dX10_round_152 rfl (by decide) ?_
    refine aw_lstore_n (loc' := [some (.ref a0), some (.int x1), some (.long 0), none, none, none]) 154 dX10_round_153 rfl (by decide) rfl ?_
    refine aw_iconst (v := 0) 155 dX10_round_154 rfl (by decide) ?_
    refine aw_istore (loc' := [some (.ref a0), some (.int x1), some (.long 0), none, some (.int 0), none]) 157 dX10_round_155 rfl (by decide) rfl ?_
    exact H
set_option maxHeartbeats 4000000 in
set_option maxRecDepth 100000 in
theorem sX10_round_157 {w : Wd} {Q : Int32 → Hp → Prop} {h : Hp} {a0 : Nat} {x1 : Int32} {l2 : Int64} {x4 : Int32} (H : ((40 < x4 → AW w mX10_round 0 0 (rI Q) 0 0 188 [some (.ref a0), some (.int x1), some (.long l2), none, some (.int 0), none] [] h) ∧ (¬ 40 < x4 → (hs h a0).1 = 30 ∧ hR h a0 46 ≠ 0 ∧ (hs h (hR h a0 46)).1 = 5 ∧ vp_in ((41 * x1) + x4) (hs h (hR h a0 46)).2 ∧ AW w mX10_round 0 0 (rI Q) 0 0 157 [some (.ref a0), some (.int x1), some (.long (l2 + (hL h (hR h a0 46) ((41 * x1) + x4).toNatClampNeg))), none, some (.int (x4 + 1)), none] [] h))) : AW w mX10_round 0 0 (rI Q) 0 0 157 [some (.ref a0), some (.int x1), some (.long l2), none, some (.int x4), none] [] h := by
  refine aw_iload 159 dX10_round_157 rfl rfl ?_
  refine aw_bipush (v := 40) 161 dX10_round_159 rfl (by decide) ?_
  refine aw_icmp_gt 185 164 dX10_round_161 rfl (by decide) (fun c1 => ?_) (fun c1 => ?_)
  · replace H := H.1 c1
    refine aw_iconst (v := 0) 186 dX10_round_185 rfl (by decide) ?_
    refine aw_istore (loc' := [some (.ref a0), some (.int x1), some (.long l2), none, some (.int 0), none]) 188 dX10_round_186 rfl (by decide) rfl ?_
    exact H
  · replace H := H.2 c1
    refine aw_lload_n 165 dX10_round_164 rfl rfl ?_
    refine aw_aload_n 166 dX10_round_165 rfl rfl ?_
    obtain ⟨g2, H⟩ := H
    obtain ⟨g3, H⟩ := H
    refine aw_getR 169 dX10_round_166 rfl fl_X10_94 ir_10_46 g2 rfl g3 ?_
    refine aw_bipush (v := 41) 171 dX10_round_169 rfl (by decide) ?_
    refine aw_iload_n 172 dX10_round_171 rfl rfl ?_
    refine aw_imul 173 dX10_round_172 rfl ?_
    refine aw_iload 175 dX10_round_173 rfl rfl ?_
    refine aw_iadd 176 dX10_round_175 rfl ?_
    obtain ⟨g4, H⟩ := H
    obtain ⟨g5, H⟩ := H
    refine aw_lald 177 dX10_round_176 rfl (shp g4) g5 ?_
    refine aw_ladd 178 dX10_round_177 rfl ?_
    refine aw_lstore_n (loc' := [some (.ref a0), some (.int x1), some (.long (l2 + (hL h (hR h a0 46) ((41 * x1) + x4).toNatClampNeg))), none, some (.int x4), none]) 179 dX10_round_178 rfl (by decide) rfl ?_
    refine aw_iinc (y := 1) (loc' := [some (.ref a0), some (.int x1), some (.long (l2 + (hL h (hR h a0 46) ((41 * x1) + x4).toNatClampNeg))), none, some (.int (x4 + 1)), none]) 182 dX10_round_179 rfl (by decide) rfl (by decide) rfl ?_
    refine aw_goto 157 dX10_round_182 (by decide) ?_
    exact H
set_option maxHeartbeats 4000000 in
set_option maxRecDepth 100000 in
theorem sX10_round_188 {w : Wd} {Q : Int32 → Hp → Prop} {h : Hp} {a0 : Nat} {x1 : Int32} {l2 : Int64} {x4 : Int32} (H : ((40 < x4 → (hs h a0).1 = 30 ∧ AC w mX10_tie 0 0 (rV fun h1 => AW w mX10_round 0 0 (rI Q) 0 0 142 [some (.ref a0), some (.int (x1 + 1)), none, none, none, none] [] h1) [.ref a0, .int x1] h) ∧ (¬ 40 < x4 → (((lg_cmp l2 0) ≤ 0 → (hs h a0).1 = 30 ∧ AC w mX10_tie 0 0 (rV fun h2 => AW w mX10_round 0 0 (rI Q) 0 0 142 [some (.ref a0), some (.int (x1 + 1)), none, none, none, none] [] h2) [.ref a0, .int x1] h) ∧ (¬ (lg_cmp l2 0) ≤ 0 → (hs h a0).1 = 30 ∧ hR h a0 18 ≠ 0 ∧ hR h a0 46 ≠ 0 ∧ (hs h (hR h a0 46)).1 = 5 ∧ vp_in ((41 * x1) + x4) (hs h (hR h a0 46)).2 ∧ ¬ l2 = 0 ∧ (hs h (hR h a0 18)).1 = 1 ∧ vp_in ((41 * x1) + x4) (hs h (hR h a0 18)).2 ∧ ∀ h3, h3 = sI h (hR h a0 18) ((41 * x1) + x4).toNatClampNeg (((1048576 * (hL h (hR h a0 46) ((41 * x1) + x4).toNatClampNeg)) / l2).toInt32) → AW w mX10_round 0 0 (rI Q) 0 0 188 [some (.ref a0), some (.int x1), some (.long l2), none, some (.int (x4 + 1)), none] [] h3))))) : AW w mX10_round 0 0 (rI Q) 0 0 188 [some (.ref a0), some (.int x1), some (.long l2), none, some (.int x4), none] [] h := by
  refine aw_iload 190 dX10_round_188 rfl rfl ?_
  refine aw_bipush (v := 40) 192 dX10_round_190 rfl (by decide) ?_
  refine aw_icmp_gt 238 195 dX10_round_192 rfl (by decide) (fun c1 => ?_) (fun c1 => ?_)
  · replace H := H.1 c1
    refine aw_aload_n 239 dX10_round_238 rfl rfl ?_
    refine aw_iload_n 240 dX10_round_239 rfl rfl ?_
    obtain ⟨g2, H⟩ := H
    refine aw_callV (stk := []) (ci := 10) [.int x1] 243 dX10_round_240 rfl mv_X10_310 ⟨by decide, by decide⟩ g2 (by intro r hr; cases hr; rfl) rfl rfl (by simp [Value.category]) (by decide) H ?_
    rintro _ h1 ⟨rfl, H⟩
    refine aw_iinc (y := 1) (loc' := [some (.ref a0), some (.int (x1 + 1)), some (.long l2), none, some (.int x4), none]) 246 dX10_round_243 rfl (by decide) rfl (by decide) rfl ?_
    refine aw_goto 142 dX10_round_246 (by decide) ?_
    exact aw_fgt (by simp [leL]) H
  · replace H := H.2 c1
    refine aw_lload_n 196 dX10_round_195 rfl rfl ?_
    refine aw_lconst (v := 0) 197 dX10_round_196 rfl (by decide) ?_
    refine aw_lcmp 198 dX10_round_197 rfl ?_
    refine aw_if_le 238 201 dX10_round_198 rfl (by decide) (fun c3 => ?_) (fun c3 => ?_)
    · replace H := H.1 c3
      refine aw_aload_n 239 dX10_round_238 rfl rfl ?_
      refine aw_iload_n 240 dX10_round_239 rfl rfl ?_
      obtain ⟨g4, H⟩ := H
      refine aw_callV (stk := []) (ci := 10) [.int x1] 243 dX10_round_240 rfl mv_X10_310 ⟨by decide, by decide⟩ g4 (by intro r hr; cases hr; rfl) rfl rfl (by simp [Value.category]) (by decide) H ?_
      rintro _ h2 ⟨rfl, H⟩
      refine aw_iinc (y := 1) (loc' := [some (.ref a0), some (.int (x1 + 1)), some (.long l2), none, some (.int x4), none]) 246 dX10_round_243 rfl (by decide) rfl (by decide) rfl ?_
      refine aw_goto 142 dX10_round_246 (by decide) ?_
      exact aw_fgt (by simp [leL]) H
    · replace H := H.2 c3
      refine aw_aload_n 202 dX10_round_201 rfl rfl ?_
      obtain ⟨g5, H⟩ := H
      obtain ⟨g6, H⟩ := H
      refine aw_getR 205 dX10_round_202 rfl fl_X10_52 ir_10_18 g5 rfl g6 ?_
      refine aw_bipush (v := 41) 207 dX10_round_205 rfl (by decide) ?_
      refine aw_iload_n 208 dX10_round_207 rfl rfl ?_
      refine aw_imul 209 dX10_round_208 rfl ?_
      refine aw_iload 211 dX10_round_209 rfl rfl ?_
      refine aw_iadd 212 dX10_round_211 rfl ?_
      refine aw_ldc2 215 dX10_round_212 rfl kc_X10_304 ?_
      refine aw_aload_n 216 dX10_round_215 rfl rfl ?_
      obtain ⟨g7, H⟩ := H
      refine aw_getR 219 dX10_round_216 rfl fl_X10_94 ir_10_46 g5 rfl g7 ?_
      refine aw_bipush (v := 41) 221 dX10_round_219 rfl (by decide) ?_
      refine aw_iload_n 222 dX10_round_221 rfl rfl ?_
      refine aw_imul 223 dX10_round_222 rfl ?_
      refine aw_iload 225 dX10_round_223 rfl rfl ?_
      refine aw_iadd 226 dX10_round_225 rfl ?_
      obtain ⟨g8, H⟩ := H
      obtain ⟨g9, H⟩ := H
      refine aw_lald 227 dX10_round_226 rfl (shp g8) g9 ?_
      refine aw_lmul 228 dX10_round_227 rfl ?_
      refine aw_lload_n 229 dX10_round_228 rfl rfl ?_
      obtain ⟨g10, H⟩ := H
      refine aw_ldiv 230 dX10_round_229 rfl g10 ?_
      refine aw_l2i 231 dX10_round_230 rfl ?_
      obtain ⟨g11, H⟩ := H
      obtain ⟨g12, H⟩ := H
      refine aw_iast 232 dX10_round_231 rfl (shp g11) g12 ?_
      replace H := H _ rfl
      refine aw_iinc (y := 1) (loc' := [some (.ref a0), some (.int x1), some (.long l2), none, some (.int (x4 + 1)), none]) 235 dX10_round_232 rfl (by decide) rfl (by decide) rfl ?_
      refine aw_goto 188 dX10_round_235 (by decide) ?_
      exact H
set_option maxHeartbeats 4000000 in
set_option maxRecDepth 100000 in
theorem sX10_tie_0 {w : Wd} {Q : Hp → Prop} {h : Hp} {a0 : Nat} {x1 : Int32} (H : AW w mX10_tie 0 0 (rV Q) 0 0 2 [some (.ref a0), some (.int x1), some (.int 0)] [] h) : AW w mX10_tie 0 0 (rV Q) 0 0 0 [some (.ref a0), some (.int x1), none] [] h := by
  refine aw_iconst (v := 0) 1 dX10_tie_0 rfl (by decide) ?_
  refine aw_istore_n (loc' := [some (.ref a0), some (.int x1), some (.int 0)]) 2 dX10_tie_1 rfl (by decide) rfl ?_
  exact H
theorem eX10_tie {w : Wd} {Q : Hp → Prop} {h : Hp} {a0 : Nat} {x1 : Int32} (H : AW w mX10_tie 0 0 (rV Q) 0 0 0 [some (.ref a0), some (.int x1), none] [] h) : AC w mX10_tie 0 0 (rV Q) [.ref a0, .int x1] h := AC.ofL (by decide) (by simp [enl, Value.category]) (by simp [leL, enl, Value.category]) H
set_option maxHeartbeats 4000000 in
set_option maxRecDepth 100000 in
theorem sX10_tie_2 {w : Wd} {Q : Hp → Prop} {h : Hp} {a0 : Nat} {x1 : Int32} {x2 : Int32} (H : ((40 < x2 → Q h) ∧ (¬ 40 < x2 → (hs h a0).1 = 30 ∧ hR h a0 17 ≠ 0 ∧ (hs h (hR h a0 17)).1 = 1 ∧ vp_in x1 (hs h (hR h a0 17)).2 ∧ (((hI h (hR h a0 17) x1.toNatClampNeg) < 0 → Q h) ∧ (¬ (hI h (hR h a0 17) x1.toNatClampNeg) < 0 → hR h a0 18 ≠ 0 ∧ ((¬ x2 = (hI h (hR h a0 17) x1.toNatClampNeg) → (hs h (hR h a0 18)).1 = 1 ∧ vp_in ((41 * x1) + x2) (hs h (hR h a0 18)).2 ∧ ∀ h1, h1 = sI h (hR h a0 18) ((41 * x1) + x2).toNatClampNeg 0 → AW w mX10_tie 0 0 (rV Q) 0 0 2 [some (.ref a0), some (.int x1), some (.int (x2 + 1))] [] h1) ∧ (x2 = (hI h (hR h a0 17) x1.toNatClampNeg) → (hs h (hR h a0 18)).1 = 1 ∧ vp_in ((41 * x1) + x2) (hs h (hR h a0 18)).2 ∧ ∀ h2, h2 = sI h (hR h a0 18) ((41 * x1) + x2).toNatClampNeg 1048576 → AW w mX10_tie 0 0 (rV Q) 0 0 2 [some (.ref a0), some (.int x1), some (.int (x2 + 1))] [] h2))))))) : AW w mX10_tie 0 0 (rV Q) 0 0 2 [some (.ref a0), some (.int x1), some (.int x2)] [] h := by
  refine aw_iload_n 3 dX10_tie_2 rfl rfl ?_
  refine aw_bipush (v := 40) 5 dX10_tie_3 rfl (by decide) ?_
  refine aw_icmp_gt 50 8 dX10_tie_5 rfl (by decide) (fun c1 => ?_) (fun c1 => ?_)
  · replace H := H.1 c1
    exact aw_return dX10_tie_50 rfl (by decide) (by decide) ⟨rfl, H⟩
  · replace H := H.2 c1
    refine aw_aload_n 9 dX10_tie_8 rfl rfl ?_
    obtain ⟨g2, H⟩ := H
    obtain ⟨g3, H⟩ := H
    refine aw_getR 12 dX10_tie_9 rfl fl_X10_49 ir_10_17 g2 rfl g3 ?_
    refine aw_iload_n 13 dX10_tie_12 rfl rfl ?_
    obtain ⟨g4, H⟩ := H
    obtain ⟨g5, H⟩ := H
    refine aw_iald 14 dX10_tie_13 rfl (Or.inl (shp g4)) g5 ?_
    refine aw_if_lt 50 17 dX10_tie_14 rfl (by decide) (fun c6 => ?_) (fun c6 => ?_)
    · replace H := H.1 c6
      exact aw_return dX10_tie_50 rfl (by decide) (by decide) ⟨rfl, H⟩
    · replace H := H.2 c6
      refine aw_aload_n 18 dX10_tie_17 rfl rfl ?_
      obtain ⟨g7, H⟩ := H
      refine aw_getR 21 dX10_tie_18 rfl fl_X10_52 ir_10_18 g2 rfl g7 ?_
      refine aw_bipush (v := 41) 23 dX10_tie_21 rfl (by decide) ?_
      refine aw_iload_n 24 dX10_tie_23 rfl rfl ?_
      refine aw_imul 25 dX10_tie_24 rfl ?_
      refine aw_iload_n 26 dX10_tie_25 rfl rfl ?_
      refine aw_iadd 27 dX10_tie_26 rfl ?_
      refine aw_iload_n 28 dX10_tie_27 rfl rfl ?_
      refine aw_aload_n 29 dX10_tie_28 rfl rfl ?_
      refine aw_getR 32 dX10_tie_29 rfl fl_X10_49 ir_10_17 g2 rfl g3 ?_
      refine aw_iload_n 33 dX10_tie_32 rfl rfl ?_
      refine aw_iald 34 dX10_tie_33 rfl (Or.inl (shp g4)) g5 ?_
      refine aw_icmp_ne 42 37 dX10_tie_34 rfl (by decide) (fun c8 => ?_) (fun c8 => ?_)
      · replace H := H.1 c8
        refine aw_iconst (v := 0) 43 dX10_tie_42 rfl (by decide) ?_
        obtain ⟨g9, H⟩ := H
        obtain ⟨g10, H⟩ := H
        refine aw_iast 44 dX10_tie_43 rfl (shp g9) g10 ?_
        replace H := H _ rfl
        refine aw_iinc (y := 1) (loc' := [some (.ref a0), some (.int x1), some (.int (x2 + 1))]) 47 dX10_tie_44 rfl (by decide) rfl (by decide) rfl ?_
        refine aw_goto 2 dX10_tie_47 (by decide) ?_
        exact H
      · replace H := H.2 c8
        refine aw_ldc 39 dX10_tie_37 rfl kc_X10_193 ?_
        refine aw_goto 43 dX10_tie_39 (by decide) ?_
        obtain ⟨g11, H⟩ := H
        obtain ⟨g12, H⟩ := H
        refine aw_iast 44 dX10_tie_43 rfl (shp g11) g12 ?_
        replace H := H _ rfl
        refine aw_iinc (y := 1) (loc' := [some (.ref a0), some (.int x1), some (.int (x2 + 1))]) 47 dX10_tie_44 rfl (by decide) rfl (by decide) rfl ?_
        refine aw_goto 2 dX10_tie_47 (by decide) ?_
        exact H
set_option maxHeartbeats 4000000 in
set_option maxRecDepth 100000 in
theorem sX10_rounds_0 {w : Wd} {Q : Int32 → Hp → Prop} {h : Hp} {a0 : Nat} {x1 : Int32} (H : AC w mX10_in 0 0 (rI fun r1 h1 => ((¬ r1 = 0 → AW w mX10_rounds 0 0 (rI Q) 0 0 17 [some (.ref a0), some (.int x1), some (.int 0)] [] h1) ∧ (r1 = 0 → Q (-100002) h1))) [.long x1.toInt64, .long 0, .long 10] h) : AW w mX10_rounds 0 0 (rI Q) 0 0 0 [some (.ref a0), some (.int x1), none] [] h := by
  refine aw_iload_n 1 dX10_rounds_0 rfl rfl ?_
  refine aw_i2l 2 dX10_rounds_1 rfl ?_
  refine aw_lconst (v := 0) 3 dX10_rounds_2 rfl (by decide) ?_
  refine aw_ldc2 6 dX10_rounds_3 rfl kc_X10_314 ?_
  refine aw_callS (stk := []) [.long x1.toInt64, .long 0, .long 10] 9 dX10_rounds_6 rfl mv_X10_131 ⟨by decide, by decide⟩ rfl rfl (by simp [Value.category]) (by decide) H ?_
  rintro _ h1 ⟨r1, rfl, H⟩
  refine aw_if_ne 15 12 dX10_rounds_9 rfl (by decide) (fun c1 => ?_) (fun c1 => ?_)
  · replace H := H.1 c1
    refine aw_iconst (v := 0) 16 dX10_rounds_15 rfl (by decide) ?_
    refine aw_istore_n (loc' := [some (.ref a0), some (.int x1), some (.int 0)]) 17 dX10_rounds_16 rfl (by decide) rfl ?_
    exact H
  · replace H := H.2 c1
    refine aw_ldc 14 dX10_rounds_12 rfl kc_X10_135 ?_
    exact aw_ireturn dX10_rounds_14 rfl (by decide) (by decide) ⟨_, rfl, H⟩
theorem eX10_rounds {w : Wd} {Q : Int32 → Hp → Prop} {h : Hp} {a0 : Nat} {x1 : Int32} (H : AW w mX10_rounds 0 0 (rI Q) 0 0 0 [some (.ref a0), some (.int x1), none] [] h) : AC w mX10_rounds 0 0 (rI Q) [.ref a0, .int x1] h := AC.ofL (by decide) (by simp [enl, Value.category]) (by simp [leL, enl, Value.category]) H
set_option maxHeartbeats 4000000 in
set_option maxRecDepth 100000 in
theorem sX10_rounds_17 {w : Wd} {Q : Int32 → Hp → Prop} {h : Hp} {a0 : Nat} {x1 : Int32} {x2 : Int32} (H : ((x1 ≤ x2 → Q x2 h) ∧ (¬ x1 ≤ x2 → (hs h a0).1 = 30 ∧ AC w mX10_round 0 0 (rI fun r1 h1 => ((r1 = 0 → Q x2 h1) ∧ (¬ r1 = 0 → AW w mX10_rounds 0 0 (rI Q) 0 0 17 [some (.ref a0), some (.int x1), some (.int (x2 + 1))] [] h1))) [.ref a0] h))) : AW w mX10_rounds 0 0 (rI Q) 0 0 17 [some (.ref a0), some (.int x1), some (.int x2)] [] h := by
  refine aw_iload_n 18 dX10_rounds_17 rfl rfl ?_
  refine aw_iload_n 19 dX10_rounds_18 rfl rfl ?_
  refine aw_icmp_ge 35 22 dX10_rounds_19 rfl (by decide) (fun c1 => ?_) (fun c1 => ?_)
  · replace H := H.1 c1
    refine aw_iload_n 36 dX10_rounds_35 rfl rfl ?_
    exact aw_ireturn dX10_rounds_36 rfl (by decide) (by decide) ⟨_, rfl, H⟩
  · replace H := H.2 c1
    refine aw_aload_n 23 dX10_rounds_22 rfl rfl ?_
    obtain ⟨g2, H⟩ := H
    refine aw_callV (stk := []) (ci := 10) [] 26 dX10_rounds_23 rfl mv_X10_316 ⟨by decide, by decide⟩ g2 (by intro r hr; cases hr; rfl) rfl rfl (by simp [Value.category]) (by decide) H ?_
    rintro _ h1 ⟨r1, rfl, H⟩
    refine aw_if_eq 35 29 dX10_rounds_26 rfl (by decide) (fun c3 => ?_) (fun c3 => ?_)
    · replace H := H.1 c3
      refine aw_iload_n 36 dX10_rounds_35 rfl rfl ?_
      exact aw_ireturn dX10_rounds_36 rfl (by decide) (by decide) ⟨_, rfl, H⟩
    · replace H := H.2 c3
      refine aw_iinc (y := 1) (loc' := [some (.ref a0), some (.int x1), some (.int (x2 + 1))]) 32 dX10_rounds_29 rfl (by decide) rfl (by decide) rfl ?_
      refine aw_goto 17 dX10_rounds_32 (by decide) ?_
      exact H
set_option maxHeartbeats 4000000 in
set_option maxRecDepth 100000 in
theorem sX10_share_0 {w : Wd} {Q : Int32 → Hp → Prop} {h : Hp} {a0 : Nat} {x1 : Int32} {x2 : Int32} (H : (hs h a0).1 = 30 ∧ AC w mX10_isKind 0 0 (rI fun r1 h1 => ((r1 = 0 → Q (-100001) h1) ∧ (¬ r1 = 0 → ((x2 = (-1) → AW w mX10_share 0 0 (rI Q) 0 0 26 [some (.ref a0), some (.int x1), some (.int x2)] [] h1) ∧ (¬ x2 = (-1) → (hs h1 a0).1 = 30 ∧ AC w mX10_isKind 0 0 (rI fun r2 h2 => ((¬ r2 = 0 → AW w mX10_share 0 0 (rI Q) 0 0 26 [some (.ref a0), some (.int x1), some (.int x2)] [] h2) ∧ (r2 = 0 → Q (-100001) h2))) [.ref a0, .int 1, .int x2] h1))))) [.ref a0, .int 0, .int x1] h) : AW w mX10_share 0 0 (rI Q) 0 0 0 [some (.ref a0), some (.int x1), some (.int x2)] [] h := by
  refine aw_aload_n 1 dX10_share_0 rfl rfl ?_
  refine aw_iconst (v := 0) 2 dX10_share_1 rfl (by decide) ?_
  refine aw_iload_n 3 dX10_share_2 rfl rfl ?_
  obtain ⟨g1, H⟩ := H
  refine aw_callV (stk := []) (ci := 10) [.int 0, .int x1] 6 dX10_share_3 rfl mv_X10_220 ⟨by decide, by decide⟩ g1 (by intro r hr; cases hr; rfl) rfl rfl (by simp [Value.category]) (by decide) H ?_
  rintro _ h1 ⟨r1, rfl, H⟩
  refine aw_if_eq 23 9 dX10_share_6 rfl (by decide) (fun c2 => ?_) (fun c2 => ?_)
  · replace H := H.1 c2
    refine aw_ldc 25 dX10_share_23 rfl kc_X10_194 ?_
    exact aw_ireturn dX10_share_25 rfl (by decide) (by decide) ⟨_, rfl, H⟩
  · replace H := H.2 c2
    refine aw_iload_n 10 dX10_share_9 rfl rfl ?_
    refine aw_iconst (v := (-1)) 11 dX10_share_10 rfl (by decide) ?_
    refine aw_icmp_eq 26 14 dX10_share_11 rfl (by decide) (fun c3 => ?_) (fun c3 => ?_)
    · replace H := H.1 c3
      exact H
    · replace H := H.2 c3
      refine aw_aload_n 15 dX10_share_14 rfl rfl ?_
      refine aw_iconst (v := 1) 16 dX10_share_15 rfl (by decide) ?_
      refine aw_iload_n 17 dX10_share_16 rfl rfl ?_
      obtain ⟨g4, H⟩ := H
      refine aw_callV (stk := []) (ci := 10) [.int 1, .int x2] 20 dX10_share_17 rfl mv_X10_220 ⟨by decide, by decide⟩ g4 (by intro r hr; cases hr; rfl) rfl rfl (by simp [Value.category]) (by decide) H ?_
      rintro _ h2 ⟨r2, rfl, H⟩
      refine aw_if_ne 26 23 dX10_share_20 rfl (by decide) (fun c5 => ?_) (fun c5 => ?_)
      · replace H := H.1 c5
        exact H
      · replace H := H.2 c5
        refine aw_ldc 25 dX10_share_23 rfl kc_X10_194 ?_
        exact aw_ireturn dX10_share_25 rfl (by decide) (by decide) ⟨_, rfl, H⟩
theorem eX10_share {w : Wd} {Q : Int32 → Hp → Prop} {h : Hp} {a0 : Nat} {x1 : Int32} {x2 : Int32} (H : AW w mX10_share 0 0 (rI Q) 0 0 0 [some (.ref a0), some (.int x1), some (.int x2)] [] h) : AC w mX10_share 0 0 (rI Q) [.ref a0, .int x1, .int x2] h := AC.ofL (by decide) (by simp [enl, Value.category]) (by simp [leL, enl, Value.category]) H
set_option maxHeartbeats 4000000 in
set_option maxRecDepth 100000 in
theorem sX10_share_26 {w : Wd} {Q : Int32 → Hp → Prop} {h : Hp} {a0 : Nat} {x1 : Int32} {x2 : Int32} (H : (hs h a0).1 = 30 ∧ hR h a0 18 ≠ 0 ∧ ((0 ≤ x2 → (hs h (hR h a0 18)).1 = 1 ∧ vp_in ((41 * x1) + x2) (hs h (hR h a0 18)).2 ∧ Q (hI h (hR h a0 18) ((41 * x1) + x2).toNatClampNeg) h) ∧ (¬ 0 ≤ x2 → (hs h (hR h a0 18)).1 = 1 ∧ vp_in ((41 * x1) + 40) (hs h (hR h a0 18)).2 ∧ Q (hI h (hR h a0 18) ((41 * x1) + 40).toNatClampNeg) h))) : AW w mX10_share 0 0 (rI Q) 0 0 26 [some (.ref a0), some (.int x1), some (.int x2)] [] h := by
  refine aw_aload_n 27 dX10_share_26 rfl rfl ?_
  obtain ⟨g1, H⟩ := H
  obtain ⟨g2, H⟩ := H
  refine aw_getR 30 dX10_share_27 rfl fl_X10_52 ir_10_18 g1 rfl g2 ?_
  refine aw_bipush (v := 41) 32 dX10_share_30 rfl (by decide) ?_
  refine aw_iload_n 33 dX10_share_32 rfl rfl ?_
  refine aw_imul 34 dX10_share_33 rfl ?_
  refine aw_iload_n 35 dX10_share_34 rfl rfl ?_
  refine aw_if_ge 43 38 dX10_share_35 rfl (by decide) (fun c3 => ?_) (fun c3 => ?_)
  · replace H := H.1 c3
    refine aw_iload_n 44 dX10_share_43 rfl rfl ?_
    refine aw_iadd 45 dX10_share_44 rfl ?_
    obtain ⟨g4, H⟩ := H
    obtain ⟨g5, H⟩ := H
    refine aw_iald 46 dX10_share_45 rfl (Or.inl (shp g4)) g5 ?_
    exact aw_ireturn dX10_share_46 rfl (by decide) (by decide) ⟨_, rfl, H⟩
  · replace H := H.2 c3
    refine aw_bipush (v := 40) 40 dX10_share_38 rfl (by decide) ?_
    refine aw_goto 44 dX10_share_40 (by decide) ?_
    refine aw_iadd 45 dX10_share_44 rfl ?_
    obtain ⟨g6, H⟩ := H
    obtain ⟨g7, H⟩ := H
    refine aw_iald 46 dX10_share_45 rfl (Or.inl (shp g6)) g7 ?_
    exact aw_ireturn dX10_share_46 rfl (by decide) (by decide) ⟨_, rfl, H⟩
set_option maxHeartbeats 4000000 in
set_option maxRecDepth 100000 in
theorem sX10_partner_0 {w : Wd} {Q : Int32 → Hp → Prop} {h : Hp} {a0 : Nat} {x1 : Int32} {x2 : Int32} (H : (hs h a0).1 = 30 ∧ AC w mX10_isKind 0 0 (rI fun r1 h1 => ((¬ r1 = 0 → (hs h1 a0).1 = 30 ∧ hR h1 a0 18 ≠ 0 ∧ (hs h1 (hR h1 a0 18)).1 = 1 ∧ vp_in ((41 * x1) + 40) (hs h1 (hR h1 a0 18)).2 ∧ AW w mX10_partner 0 0 (rI Q) 0 0 28 [some (.ref a0), some (.int x1), some (.int x2), some (.int (hI h1 (hR h1 a0 18) ((41 * x1) + 40).toNatClampNeg)), some (.int 0)] [] h1) ∧ (r1 = 0 → Q (-100001) h1))) [.ref a0, .int 0, .int x1] h) : AW w mX10_partner 0 0 (rI Q) 0 0 0 [some (.ref a0), some (.int x1), some (.int x2), none, none] [] h := by
  refine aw_aload_n 1 dX10_partner_0 rfl rfl ?_
  refine aw_iconst (v := 0) 2 dX10_partner_1 rfl (by decide) ?_
  refine aw_iload_n 3 dX10_partner_2 rfl rfl ?_
  obtain ⟨g1, H⟩ := H
  refine aw_callV (stk := []) (ci := 10) [.int 0, .int x1] 6 dX10_partner_3 rfl mv_X10_220 ⟨by decide, by decide⟩ g1 (by intro r hr; cases hr; rfl) rfl rfl (by simp [Value.category]) (by decide) H ?_
  rintro _ h1 ⟨r1, rfl, H⟩
  refine aw_if_ne 12 9 dX10_partner_6 rfl (by decide) (fun c2 => ?_) (fun c2 => ?_)
  · replace H := H.1 c2
    refine aw_aload_n 13 dX10_partner_12 rfl rfl ?_
    obtain ⟨g3, H⟩ := H
    obtain ⟨g4, H⟩ := H
    refine aw_getR 16 dX10_partner_13 rfl fl_X10_52 ir_10_18 g3 rfl g4 ?_
    refine aw_bipush (v := 41) 18 dX10_partner_16 rfl (by decide) ?_
    refine aw_iload_n 19 dX10_partner_18 rfl rfl ?_
    refine aw_imul 20 dX10_partner_19 rfl ?_
    refine aw_bipush (v := 40) 22 dX10_partner_20 rfl (by decide) ?_
    refine aw_iadd 23 dX10_partner_22 rfl ?_
    obtain ⟨g5, H⟩ := H
    obtain ⟨g6, H⟩ := H
    refine aw_iald 24 dX10_partner_23 rfl (Or.inl (shp g5)) g6 ?_
    refine aw_istore_n (loc' := [some (.ref a0), some (.int x1), some (.int x2), some (.int (hI h1 (hR h1 a0 18) ((41 * x1) + 40).toNatClampNeg)), none]) 25 dX10_partner_24 rfl (by decide) rfl ?_
    refine aw_iconst (v := 0) 26 dX10_partner_25 rfl (by decide) ?_
    refine aw_istore (loc' := [some (.ref a0), some (.int x1), some (.int x2), some (.int (hI h1 (hR h1 a0 18) ((41 * x1) + 40).toNatClampNeg)), some (.int 0)]) 28 dX10_partner_26 rfl (by decide) rfl ?_
    exact H
  · replace H := H.2 c2
    refine aw_ldc 11 dX10_partner_9 rfl kc_X10_194 ?_
    exact aw_ireturn dX10_partner_11 rfl (by decide) (by decide) ⟨_, rfl, H⟩
theorem eX10_partner {w : Wd} {Q : Int32 → Hp → Prop} {h : Hp} {a0 : Nat} {x1 : Int32} {x2 : Int32} (H : AW w mX10_partner 0 0 (rI Q) 0 0 0 [some (.ref a0), some (.int x1), some (.int x2), none, none] [] h) : AC w mX10_partner 0 0 (rI Q) [.ref a0, .int x1, .int x2] h := AC.ofL (by decide) (by simp [enl, Value.category]) (by simp [leL, enl, Value.category]) H
set_option maxHeartbeats 4000000 in
set_option maxRecDepth 100000 in
theorem sX10_partner_28 {w : Wd} {Q : Int32 → Hp → Prop} {h : Hp} {a0 : Nat} {x1 : Int32} {x2 : Int32} {x3 : Int32} {x4 : Int32} (H : (hs h a0).1 = 30 ∧ hR h a0 10 ≠ 0 ∧ (hs h (hR h a0 10)).1 = 1 ∧ vp_in 1 (hs h (hR h a0 10)).2 ∧ (((hI h (hR h a0 10) (1 : Int32).toNatClampNeg) ≤ x4 → ((¬ x2 = 0 → ((¬ x2 = 1 → ((¬ x2 = 2 → Q (-100002) h) ∧ (x2 = 2 → hR h a0 17 ≠ 0 ∧ (hs h (hR h a0 17)).1 = 1 ∧ vp_in x1 (hs h (hR h a0 17)).2 ∧ Q (hI h (hR h a0 17) x1.toNatClampNeg) h))) ∧ (x2 = 1 → Q (1048576 - x3) h))) ∧ (x2 = 0 → AC w mX10_partnerOf 0 0 (rI fun r1 h1 => Q r1 h1) [.ref a0, .int x1] h))) ∧ (¬ (hI h (hR h a0 10) (1 : Int32).toNatClampNeg) ≤ x4 → hR h a0 18 ≠ 0 ∧ (hs h (hR h a0 18)).1 = 1 ∧ vp_in ((41 * x1) + x4) (hs h (hR h a0 18)).2 ∧ AW w mX10_partner 0 0 (rI Q) 0 0 28 [some (.ref a0), some (.int x1), some (.int x2), some (.int (x3 + (hI h (hR h a0 18) ((41 * x1) + x4).toNatClampNeg))), some (.int (x4 + 1))] [] h))) : AW w mX10_partner 0 0 (rI Q) 0 0 28 [some (.ref a0), some (.int x1), some (.int x2), some (.int x3), some (.int x4)] [] h := by
  refine aw_iload 30 dX10_partner_28 rfl rfl ?_
  refine aw_aload_n 31 dX10_partner_30 rfl rfl ?_
  obtain ⟨g1, H⟩ := H
  obtain ⟨g2, H⟩ := H
  refine aw_getR 34 dX10_partner_31 rfl fl_X10_34 ir_10_10 g1 rfl g2 ?_
  refine aw_iconst (v := 1) 35 dX10_partner_34 rfl (by decide) ?_
  obtain ⟨g3, H⟩ := H
  obtain ⟨g4, H⟩ := H
  refine aw_iald 36 dX10_partner_35 rfl (Or.inl (shp g3)) g4 ?_
  refine aw_icmp_ge 60 39 dX10_partner_36 rfl (by decide) (fun c5 => ?_) (fun c5 => ?_)
  · replace H := H.1 c5
    refine aw_iload_n 61 dX10_partner_60 rfl rfl ?_
    refine aw_if_ne 72 64 dX10_partner_61 rfl (by decide) (fun c6 => ?_) (fun c6 => ?_)
    · replace H := H.1 c6
      refine aw_iload_n 73 dX10_partner_72 rfl rfl ?_
      refine aw_iconst (v := 1) 74 dX10_partner_73 rfl (by decide) ?_
      refine aw_icmp_ne 84 77 dX10_partner_74 rfl (by decide) (fun c7 => ?_) (fun c7 => ?_)
      · replace H := H.1 c7
        refine aw_iload_n 85 dX10_partner_84 rfl rfl ?_
        refine aw_iconst (v := 2) 86 dX10_partner_85 rfl (by decide) ?_
        refine aw_icmp_ne 98 89 dX10_partner_86 rfl (by decide) (fun c8 => ?_) (fun c8 => ?_)
        · replace H := H.1 c8
          refine aw_ldc 100 dX10_partner_98 rfl kc_X10_135 ?_
          exact aw_ireturn dX10_partner_100 rfl (by decide) (by decide) ⟨_, rfl, H⟩
        · replace H := H.2 c8
          refine aw_aload_n 90 dX10_partner_89 rfl rfl ?_
          obtain ⟨g9, H⟩ := H
          refine aw_getR 93 dX10_partner_90 rfl fl_X10_49 ir_10_17 g1 rfl g9 ?_
          refine aw_iload_n 94 dX10_partner_93 rfl rfl ?_
          obtain ⟨g10, H⟩ := H
          obtain ⟨g11, H⟩ := H
          refine aw_iald 95 dX10_partner_94 rfl (Or.inl (shp g10)) g11 ?_
          refine aw_goto 100 dX10_partner_95 (by decide) ?_
          exact aw_ireturn dX10_partner_100 rfl (by decide) (by decide) ⟨_, rfl, H⟩
      · replace H := H.2 c7
        refine aw_ldc 79 dX10_partner_77 rfl kc_X10_193 ?_
        refine aw_iload_n 80 dX10_partner_79 rfl rfl ?_
        refine aw_isub 81 dX10_partner_80 rfl ?_
        refine aw_goto 100 dX10_partner_81 (by decide) ?_
        exact aw_ireturn dX10_partner_100 rfl (by decide) (by decide) ⟨_, rfl, H⟩
    · replace H := H.2 c6
      refine aw_aload_n 65 dX10_partner_64 rfl rfl ?_
      refine aw_iload_n 66 dX10_partner_65 rfl rfl ?_
      refine aw_callV (stk := []) (ci := 10) [.int x1] 69 dX10_partner_66 rfl mv_X10_227 ⟨by decide, by decide⟩ g1 (by intro r hr; cases hr; rfl) rfl rfl (by simp [Value.category]) (by decide) H ?_
      rintro _ h1 ⟨r1, rfl, H⟩
      refine aw_goto 100 dX10_partner_69 (by decide) ?_
      exact aw_ireturn dX10_partner_100 rfl (by decide) (by decide) ⟨_, rfl, H⟩
  · replace H := H.2 c5
    refine aw_iload_n 40 dX10_partner_39 rfl rfl ?_
    refine aw_aload_n 41 dX10_partner_40 rfl rfl ?_
    obtain ⟨g12, H⟩ := H
    refine aw_getR 44 dX10_partner_41 rfl fl_X10_52 ir_10_18 g1 rfl g12 ?_
    refine aw_bipush (v := 41) 46 dX10_partner_44 rfl (by decide) ?_
    refine aw_iload_n 47 dX10_partner_46 rfl rfl ?_
    refine aw_imul 48 dX10_partner_47 rfl ?_
    refine aw_iload 50 dX10_partner_48 rfl rfl ?_
    refine aw_iadd 51 dX10_partner_50 rfl ?_
    obtain ⟨g13, H⟩ := H
    obtain ⟨g14, H⟩ := H
    refine aw_iald 52 dX10_partner_51 rfl (Or.inl (shp g13)) g14 ?_
    refine aw_iadd 53 dX10_partner_52 rfl ?_
    refine aw_istore_n (loc' := [some (.ref a0), some (.int x1), some (.int x2), some (.int (x3 + (hI h (hR h a0 18) ((41 * x1) + x4).toNatClampNeg))), some (.int x4)]) 54 dX10_partner_53 rfl (by decide) rfl ?_
    refine aw_iinc (y := 1) (loc' := [some (.ref a0), some (.int x1), some (.int x2), some (.int (x3 + (hI h (hR h a0 18) ((41 * x1) + x4).toNatClampNeg))), some (.int (x4 + 1))]) 57 dX10_partner_54 rfl (by decide) rfl (by decide) rfl ?_
    refine aw_goto 28 dX10_partner_57 (by decide) ?_
    exact H
set_option maxHeartbeats 4000000 in
set_option maxRecDepth 100000 in
theorem sX10_term_0 {w : Wd} {Q : Int32 → Hp → Prop} {h : Hp} {a0 : Nat} {x1 : Int32} {x2 : Int32} (H : (hs h a0).1 = 30 ∧ AC w mX10_isKind 0 0 (rI fun r1 h1 => ((r1 = 0 → Q (-100001) h1) ∧ (¬ r1 = 0 → (hs h1 a0).1 = 30 ∧ AC w mX10_isKind 0 0 (rI fun r2 h2 => ((¬ r2 = 0 → (hs h2 a0).1 = 30 ∧ hR h2 a0 17 ≠ 0 ∧ (hs h2 (hR h2 a0 17)).1 = 1 ∧ vp_in x1 (hs h2 (hR h2 a0 17)).2 ∧ (((hI h2 (hR h2 a0 17) x1.toNatClampNeg) < 0 → ∀ h3, h3 = sI h2 (hR h2 a0 17) x1.toNatClampNeg x2 → AC w mX10_tie 0 0 (rV fun h4 => Q 1 h4) [.ref a0, .int x1] h3) ∧ (¬ (hI h2 (hR h2 a0 17) x1.toNatClampNeg) < 0 → ∀ h5, h5 = sI h2 (hR h2 a0 17) x1.toNatClampNeg (-1) → Q 0 h5))) ∧ (r2 = 0 → Q (-100001) h2))) [.ref a0, .int 1, .int x2] h1))) [.ref a0, .int 0, .int x1] h) : AW w mX10_term 0 0 (rI Q) 0 0 0 [some (.ref a0), some (.int x1), some (.int x2)] [] h := by
  refine aw_aload_n 1 dX10_term_0 rfl rfl ?_
  refine aw_iconst (v := 0) 2 dX10_term_1 rfl (by decide) ?_
  refine aw_iload_n 3 dX10_term_2 rfl rfl ?_
  obtain ⟨g1, H⟩ := H
  refine aw_callV (stk := []) (ci := 10) [.int 0, .int x1] 6 dX10_term_3 rfl mv_X10_220 ⟨by decide, by decide⟩ g1 (by intro r hr; cases hr; rfl) rfl rfl (by simp [Value.category]) (by decide) H ?_
  rintro _ h1 ⟨r1, rfl, H⟩
  refine aw_if_eq 18 9 dX10_term_6 rfl (by decide) (fun c2 => ?_) (fun c2 => ?_)
  · replace H := H.1 c2
    refine aw_ldc 20 dX10_term_18 rfl kc_X10_194 ?_
    exact aw_ireturn dX10_term_20 rfl (by decide) (by decide) ⟨_, rfl, H⟩
  · replace H := H.2 c2
    refine aw_aload_n 10 dX10_term_9 rfl rfl ?_
    refine aw_iconst (v := 1) 11 dX10_term_10 rfl (by decide) ?_
    refine aw_iload_n 12 dX10_term_11 rfl rfl ?_
    obtain ⟨g3, H⟩ := H
    refine aw_callV (stk := []) (ci := 10) [.int 1, .int x2] 15 dX10_term_12 rfl mv_X10_220 ⟨by decide, by decide⟩ g3 (by intro r hr; cases hr; rfl) rfl rfl (by simp [Value.category]) (by decide) H ?_
    rintro _ h2 ⟨r2, rfl, H⟩
    refine aw_if_ne 21 18 dX10_term_15 rfl (by decide) (fun c4 => ?_) (fun c4 => ?_)
    · replace H := H.1 c4
      refine aw_aload_n 22 dX10_term_21 rfl rfl ?_
      obtain ⟨g5, H⟩ := H
      obtain ⟨g6, H⟩ := H
      refine aw_getR 25 dX10_term_22 rfl fl_X10_49 ir_10_17 g5 rfl g6 ?_
      refine aw_iload_n 26 dX10_term_25 rfl rfl ?_
      obtain ⟨g7, H⟩ := H
      obtain ⟨g8, H⟩ := H
      refine aw_iald 27 dX10_term_26 rfl (Or.inl (shp g7)) g8 ?_
      refine aw_if_lt 39 30 dX10_term_27 rfl (by decide) (fun c9 => ?_) (fun c9 => ?_)
      · replace H := H.1 c9
        refine aw_aload_n 40 dX10_term_39 rfl rfl ?_
        refine aw_getR 43 dX10_term_40 rfl fl_X10_49 ir_10_17 g5 rfl g6 ?_
        refine aw_iload_n 44 dX10_term_43 rfl rfl ?_
        refine aw_iload_n 45 dX10_term_44 rfl rfl ?_
        refine aw_iast 46 dX10_term_45 rfl (shp g7) g8 ?_
        replace H := H _ rfl
        refine aw_aload_n 47 dX10_term_46 rfl rfl ?_
        refine aw_iload_n 48 dX10_term_47 rfl rfl ?_
        refine aw_callV (stk := []) (ci := 10) [.int x1] 51 dX10_term_48 rfl mv_X10_310 ⟨by decide, by decide⟩ g5 (by intro r hr; cases hr; rfl) rfl rfl (by simp [Value.category]) (by decide) H ?_
        rintro _ h4 ⟨rfl, H⟩
        refine aw_iconst (v := 1) 52 dX10_term_51 rfl (by decide) ?_
        exact aw_ireturn dX10_term_52 rfl (by decide) (by decide) ⟨_, rfl, H⟩
      · replace H := H.2 c9
        refine aw_aload_n 31 dX10_term_30 rfl rfl ?_
        refine aw_getR 34 dX10_term_31 rfl fl_X10_49 ir_10_17 g5 rfl g6 ?_
        refine aw_iload_n 35 dX10_term_34 rfl rfl ?_
        refine aw_iconst (v := (-1)) 36 dX10_term_35 rfl (by decide) ?_
        refine aw_iast 37 dX10_term_36 rfl (shp g7) g8 ?_
        replace H := H _ rfl
        refine aw_iconst (v := 0) 38 dX10_term_37 rfl (by decide) ?_
        exact aw_ireturn dX10_term_38 rfl (by decide) (by decide) ⟨_, rfl, H⟩
    · replace H := H.2 c4
      refine aw_ldc 20 dX10_term_18 rfl kc_X10_194 ?_
      exact aw_ireturn dX10_term_20 rfl (by decide) (by decide) ⟨_, rfl, H⟩
theorem eX10_term {w : Wd} {Q : Int32 → Hp → Prop} {h : Hp} {a0 : Nat} {x1 : Int32} {x2 : Int32} (H : AW w mX10_term 0 0 (rI Q) 0 0 0 [some (.ref a0), some (.int x1), some (.int x2)] [] h) : AC w mX10_term 0 0 (rI Q) [.ref a0, .int x1, .int x2] h := AC.ofL (by decide) (by simp [enl, Value.category]) (by simp [leL, enl, Value.category]) H
