set_option maxHeartbeats 4000000 in
set_option maxRecDepth 100000 in
theorem sX10_cutBook_0 {w : Wd} {Q : Hp → Prop} {h : Hp} {a0 : Nat} (H : (hs h a0).1 = 30 ∧ ∀ h1, h1 = sI h a0 28 0 → hR h a0 23 ≠ 0 ∧ (hs h (hR h a0 23)).1 = 1 ∧ vp_in 0 (hs h (hR h a0 23)).2 ∧ ∀ h2, h2 = sI h1 (hR h a0 23) (0 : Int32).toNatClampNeg 0 → ∀ h3, h3 = sI h2 a0 29 0 → ∀ h4, h4 = sI h3 a0 30 0 → ∀ h5, h5 = sI h4 a0 31 0 → ∀ h6, h6 = sI h5 a0 32 0 → ∀ h7, h7 = sI h6 a0 22 0 → AW w mX10_cutBook 0 0 (rV Q) 0 0 37 [some (.ref a0), none] [] h7) : AW w mX10_cutBook 0 0 (rV Q) 0 0 0 [some (.ref a0), none] [] h := by
  refine aw_aload_n 1 dX10_cutBook_0 rfl rfl ?_
  refine aw_iconst (v := 0) 2 dX10_cutBook_1 rfl (by decide) ?_
  obtain ⟨g1, H⟩ := H
  refine aw_putI 5 dX10_cutBook_2 rfl fl_X10_164 (by decide) g1 nf_10_28 ?_
  replace H := H _ rfl
  refine aw_aload_n 6 dX10_cutBook_5 rfl rfl ?_
  obtain ⟨g2, H⟩ := H
  refine aw_getR 9 dX10_cutBook_6 rfl fl_X10_58 ir_10_23 g1 rfl g2 ?_
  refine aw_iconst (v := 0) 10 dX10_cutBook_9 rfl (by decide) ?_
  refine aw_iconst (v := 0) 11 dX10_cutBook_10 rfl (by decide) ?_
  obtain ⟨g3, H⟩ := H
  obtain ⟨g4, H⟩ := H
  refine aw_iast 12 dX10_cutBook_11 rfl (shp g3) g4 ?_
  replace H := H _ rfl
  refine aw_aload_n 13 dX10_cutBook_12 rfl rfl ?_
  refine aw_iconst (v := 0) 14 dX10_cutBook_13 rfl (by decide) ?_
  refine aw_putI 17 dX10_cutBook_14 rfl fl_X10_161 (by decide) g1 nf_10_29 ?_
  replace H := H _ rfl
  refine aw_aload_n 18 dX10_cutBook_17 rfl rfl ?_
  refine aw_iconst (v := 0) 19 dX10_cutBook_18 rfl (by decide) ?_
  refine aw_putI 22 dX10_cutBook_19 rfl fl_X10_175 (by decide) g1 nf_10_30 ?_
  replace H := H _ rfl
  refine aw_aload_n 23 dX10_cutBook_22 rfl rfl ?_
  refine aw_iconst (v := 0) 24 dX10_cutBook_23 rfl (by decide) ?_
  refine aw_putZ 27 dX10_cutBook_24 rfl fl_X10_178 (by decide) (by decide) g1 nf_10_31 ?_
  replace H := H _ rfl
  refine aw_aload_n 28 dX10_cutBook_27 rfl rfl ?_
  refine aw_iconst (v := 0) 29 dX10_cutBook_28 rfl (by decide) ?_
  refine aw_putZ 32 dX10_cutBook_29 rfl fl_X10_167 (by decide) (by decide) g1 nf_10_32 ?_
  replace H := H _ rfl
  refine aw_aload_n 33 dX10_cutBook_32 rfl rfl ?_
  refine aw_iconst (v := 0) 34 dX10_cutBook_33 rfl (by decide) ?_
  refine aw_putI 37 dX10_cutBook_34 rfl fl_X10_143 (by decide) g1 nf_10_22 ?_
  replace H := H _ rfl
  exact H
theorem eX10_cutBook {w : Wd} {Q : Hp → Prop} {h : Hp} {a0 : Nat} (H : AW w mX10_cutBook 0 0 (rV Q) 0 0 0 [some (.ref a0), none] [] h) : AC w mX10_cutBook 0 0 (rV Q) [.ref a0] h := AC.ofL (by decide) (by simp [enl, Value.category]) (by simp [leL, enl, Value.category]) H
set_option maxHeartbeats 4000000 in
set_option maxRecDepth 100000 in
theorem sX10_cutBook_37 {w : Wd} {Q : Hp → Prop} {h : Hp} {a0 : Nat} (H : (hs h a0).1 = 30 ∧ (((hI h a0 1) ≤ (hI h a0 22) → AC w mX10_endParagraph 0 0 (rV fun h1 => Q h1) [.ref a0] h) ∧ (¬ (hI h a0 1) ≤ (hI h a0 22) → ((¬ (hI h a0 32) = 0 → AC w mX10_endParagraph 0 0 (rV fun h2 => Q h2) [.ref a0] h) ∧ ((hI h a0 32) = 0 → AC w mX10_letterOf 0 0 (rI fun r3 h3 => ((r3 = 0 → (hs h3 a0).1 = 30 ∧ hR h3 a0 0 ≠ 0 ∧ (hs h3 (hR h3 a0 0)).1 = 1 ∧ vp_in (hI h3 a0 22) (hs h3 (hR h3 a0 0)).2 ∧ (((hI h3 (hR h3 a0 0) (hI h3 a0 22).toNatClampNeg) = 33 → AC w mX10_endSentence 0 0 (rV fun h4 => (hs h4 a0).1 = 30 ∧ ∀ h5, h5 = sI h4 a0 22 ((hI h4 a0 22) + 1) → AW w mX10_cutBook 0 0 (rV Q) 0 0 37 [some (.ref a0), none] [] h5) [.ref a0] h3) ∧ (¬ (hI h3 (hR h3 a0 0) (hI h3 a0 22).toNatClampNeg) = 33 → (((hI h3 (hR h3 a0 0) (hI h3 a0 22).toNatClampNeg) = 46 → AC w mX10_endSentence 0 0 (rV fun h6 => (hs h6 a0).1 = 30 ∧ ∀ h7, h7 = sI h6 a0 22 ((hI h6 a0 22) + 1) → AW w mX10_cutBook 0 0 (rV Q) 0 0 37 [some (.ref a0), none] [] h7) [.ref a0] h3) ∧ (¬ (hI h3 (hR h3 a0 0) (hI h3 a0 22).toNatClampNeg) = 46 → ((¬ (hI h3 (hR h3 a0 0) (hI h3 a0 22).toNatClampNeg) = 63 → ((¬ (hI h3 (hR h3 a0 0) (hI h3 a0 22).toNatClampNeg) = 10 → ∀ h8, h8 = sI h3 a0 22 ((hI h3 a0 22) + 1) → AW w mX10_cutBook 0 0 (rV Q) 0 0 37 [some (.ref a0), none] [] h8) ∧ ((hI h3 (hR h3 a0 0) (hI h3 a0 22).toNatClampNeg) = 10 → AC w mX10_endParagraph 0 0 (rV fun h9 => (hs h9 a0).1 = 30 ∧ ∀ h10, h10 = sI h9 a0 22 ((hI h9 a0 22) + 1) → AW w mX10_cutBook 0 0 (rV Q) 0 0 37 [some (.ref a0), none] [] h10) [.ref a0] h3))) ∧ ((hI h3 (hR h3 a0 0) (hI h3 a0 22).toNatClampNeg) = 63 → AC w mX10_endSentence 0 0 (rV fun h11 => (hs h11 a0).1 = 30 ∧ ∀ h12, h12 = sI h11 a0 22 ((hI h11 a0 22) + 1) → AW w mX10_cutBook 0 0 (rV Q) 0 0 37 [some (.ref a0), none] [] h12) [.ref a0] h3))))))) ∧ (¬ r3 = 0 → (hs h3 a0).1 = 30 ∧ AC w mX10_cutWord 0 0 (rV fun h13 => (hs h13 a0).1 = 30 ∧ AC w mX10_addWord 0 0 (rV fun h14 => (hs h14 a0).1 = 30 ∧ (((hI h14 a0 1) ≤ (hI h14 a0 22) → AW w mX10_cutBook 0 0 (rV Q) 0 0 37 [some (.ref a0), none] [] h14) ∧ (¬ (hI h14 a0 1) ≤ (hI h14 a0 22) → hR h14 a0 0 ≠ 0 ∧ (hs h14 (hR h14 a0 0)).1 = 1 ∧ vp_in (hI h14 a0 22) (hs h14 (hR h14 a0 0)).2 ∧ ((¬ (hI h14 (hR h14 a0 0) (hI h14 a0 22).toNatClampNeg) = 46 → AW w mX10_cutBook 0 0 (rV Q) 0 0 37 [some (.ref a0), none] [] h14) ∧ ((hI h14 (hR h14 a0 0) (hI h14 a0 22).toNatClampNeg) = 46 → AC w mX10_isShort 0 0 (rI fun r10 h15 => ((r10 = 0 → AW w mX10_cutBook 0 0 (rV Q) 0 0 37 [some (.ref a0), none] [] h15) ∧ (¬ r10 = 0 → (hs h15 a0).1 = 30 ∧ ∀ h16, h16 = sI h15 a0 22 ((hI h15 a0 22) + 1) → AW w mX10_cutBook 0 0 (rV Q) 0 0 37 [some (.ref a0), none] [] h16))) [.ref a0] h14))))) [.ref a0] h13) [.ref a0] h3))) [.ref a0, .int (hI h a0 22)] h))))) : AW w mX10_cutBook 0 0 (rV Q) 0 0 37 [some (.ref a0), none] [] h := by
  refine aw_aload_n 38 dX10_cutBook_37 rfl rfl ?_
  obtain ⟨g1, H⟩ := H
  refine aw_getI 41 dX10_cutBook_38 rfl fl_X10_143 (by decide) g1 ?_
  refine aw_aload_n 42 dX10_cutBook_41 rfl rfl ?_
  refine aw_getI 45 dX10_cutBook_42 rfl fl_X10_126 (by decide) g1 ?_
  refine aw_icmp_ge 177 48 dX10_cutBook_45 rfl (by decide) (fun c2 => ?_) (fun c2 => ?_)
  · replace H := H.1 c2
    refine aw_aload_n 178 dX10_cutBook_177 rfl rfl ?_
    refine aw_callV (stk := []) (ci := 10) [] 181 dX10_cutBook_178 rfl mv_X10_187 ⟨by decide, by decide⟩ g1 (by intro r hr; cases hr; rfl) rfl rfl (by simp [Value.category]) (by decide) H ?_
    rintro _ h1 ⟨rfl, H⟩
    exact aw_return dX10_cutBook_181 rfl (by decide) (by decide) ⟨rfl, H⟩
  · replace H := H.2 c2
    refine aw_aload_n 49 dX10_cutBook_48 rfl rfl ?_
    refine aw_getI 52 dX10_cutBook_49 rfl fl_X10_167 (by decide) g1 ?_
    refine aw_if_ne 177 55 dX10_cutBook_52 rfl (by decide) (fun c3 => ?_) (fun c3 => ?_)
    · replace H := H.1 c3
      refine aw_aload_n 178 dX10_cutBook_177 rfl rfl ?_
      refine aw_callV (stk := []) (ci := 10) [] 181 dX10_cutBook_178 rfl mv_X10_187 ⟨by decide, by decide⟩ g1 (by intro r hr; cases hr; rfl) rfl rfl (by simp [Value.category]) (by decide) H ?_
      rintro _ h2 ⟨rfl, H⟩
      exact aw_return dX10_cutBook_181 rfl (by decide) (by decide) ⟨rfl, H⟩
    · replace H := H.2 c3
      refine aw_aload_n 56 dX10_cutBook_55 rfl rfl ?_
      refine aw_aload_n 57 dX10_cutBook_56 rfl rfl ?_
      refine aw_getI 60 dX10_cutBook_57 rfl fl_X10_143 (by decide) g1 ?_
      refine aw_callV (stk := []) (ci := 10) [.int (hI h a0 22)] 63 dX10_cutBook_60 rfl mv_X10_146 ⟨by decide, by decide⟩ g1 (by intro r hr; cases hr; rfl) rfl rfl (by simp [Value.category]) (by decide) H ?_
      rintro _ h3 ⟨r3, rfl, H⟩
      refine aw_if_eq 119 66 dX10_cutBook_63 rfl (by decide) (fun c4 => ?_) (fun c4 => ?_)
      · replace H := H.1 c4
        refine aw_aload_n 120 dX10_cutBook_119 rfl rfl ?_
        obtain ⟨g5, H⟩ := H
        obtain ⟨g6, H⟩ := H
        refine aw_getR 123 dX10_cutBook_120 rfl fl_X10_7 ir_10_0 g5 rfl g6 ?_
        refine aw_aload_n 124 dX10_cutBook_123 rfl rfl ?_
        refine aw_getI 127 dX10_cutBook_124 rfl fl_X10_143 (by decide) g5 ?_
        obtain ⟨g7, H⟩ := H
        obtain ⟨g8, H⟩ := H
        refine aw_iald 128 dX10_cutBook_127 rfl (Or.inl (shp g7)) g8 ?_
        refine aw_istore_n (loc' := [some (.ref a0), some (.int (hI h3 (hR h3 a0 0) (hI h3 a0 22).toNatClampNeg))]) 129 dX10_cutBook_128 rfl (by decide) rfl ?_
        refine aw_iload_n 130 dX10_cutBook_129 rfl rfl ?_
        refine aw_bipush (v := 33) 132 dX10_cutBook_130 rfl (by decide) ?_
        refine aw_icmp_eq 147 135 dX10_cutBook_132 rfl (by decide) (fun c9 => ?_) (fun c9 => ?_)
        · replace H := H.1 c9
          refine aw_aload_n 148 dX10_cutBook_147 rfl rfl ?_
          refine aw_callV (stk := []) (ci := 10) [] 151 dX10_cutBook_148 rfl mv_X10_181 ⟨by decide, by decide⟩ g5 (by intro r hr; cases hr; rfl) rfl rfl (by simp [Value.category]) (by decide) H ?_
          rintro _ h4 ⟨rfl, H⟩
          refine aw_goto 164 dX10_cutBook_151 (by decide) ?_
          refine aw_aload_n 165 dX10_cutBook_164 rfl rfl ?_
          refine aw_dup 166 dX10_cutBook_165 rfl rfl ?_
          obtain ⟨g10, H⟩ := H
          refine aw_getI 169 dX10_cutBook_166 rfl fl_X10_143 (by decide) g10 ?_
          refine aw_iconst (v := 1) 170 dX10_cutBook_169 rfl (by decide) ?_
          refine aw_iadd 171 dX10_cutBook_170 rfl ?_
          refine aw_putI 174 dX10_cutBook_171 rfl fl_X10_143 (by decide) g10 nf_10_22 ?_
          replace H := H _ rfl
          refine aw_goto 37 dX10_cutBook_174 (by decide) ?_
          exact aw_fgt (by simp [leL]) H
        · replace H := H.2 c9
          refine aw_iload_n 136 dX10_cutBook_135 rfl rfl ?_
          refine aw_bipush (v := 46) 138 dX10_cutBook_136 rfl (by decide) ?_
          refine aw_icmp_eq 147 141 dX10_cutBook_138 rfl (by decide) (fun c11 => ?_) (fun c11 => ?_)
          · replace H := H.1 c11
            refine aw_aload_n 148 dX10_cutBook_147 rfl rfl ?_
            refine aw_callV (stk := []) (ci := 10) [] 151 dX10_cutBook_148 rfl mv_X10_181 ⟨by decide, by decide⟩ g5 (by intro r hr; cases hr; rfl) rfl rfl (by simp [Value.category]) (by decide) H ?_
            rintro _ h6 ⟨rfl, H⟩
            refine aw_goto 164 dX10_cutBook_151 (by decide) ?_
            refine aw_aload_n 165 dX10_cutBook_164 rfl rfl ?_
            refine aw_dup 166 dX10_cutBook_165 rfl rfl ?_
            obtain ⟨g12, H⟩ := H
            refine aw_getI 169 dX10_cutBook_166 rfl fl_X10_143 (by decide) g12 ?_
            refine aw_iconst (v := 1) 170 dX10_cutBook_169 rfl (by decide) ?_
            refine aw_iadd 171 dX10_cutBook_170 rfl ?_
            refine aw_putI 174 dX10_cutBook_171 rfl fl_X10_143 (by decide) g12 nf_10_22 ?_
            replace H := H _ rfl
            refine aw_goto 37 dX10_cutBook_174 (by decide) ?_
            exact aw_fgt (by simp [leL]) H
          · replace H := H.2 c11
            refine aw_iload_n 142 dX10_cutBook_141 rfl rfl ?_
            refine aw_bipush (v := 63) 144 dX10_cutBook_142 rfl (by decide) ?_
            refine aw_icmp_ne 154 147 dX10_cutBook_144 rfl (by decide) (fun c13 => ?_) (fun c13 => ?_)
            · replace H := H.1 c13
              refine aw_iload_n 155 dX10_cutBook_154 rfl rfl ?_
              refine aw_bipush (v := 10) 157 dX10_cutBook_155 rfl (by decide) ?_
              refine aw_icmp_ne 164 160 dX10_cutBook_157 rfl (by decide) (fun c14 => ?_) (fun c14 => ?_)
              · replace H := H.1 c14
                refine aw_aload_n 165 dX10_cutBook_164 rfl rfl ?_
                refine aw_dup 166 dX10_cutBook_165 rfl rfl ?_
                refine aw_getI 169 dX10_cutBook_166 rfl fl_X10_143 (by decide) g5 ?_
                refine aw_iconst (v := 1) 170 dX10_cutBook_169 rfl (by decide) ?_
                refine aw_iadd 171 dX10_cutBook_170 rfl ?_
                refine aw_putI 174 dX10_cutBook_171 rfl fl_X10_143 (by decide) g5 nf_10_22 ?_
                replace H := H _ rfl
                refine aw_goto 37 dX10_cutBook_174 (by decide) ?_
                exact aw_fgt (by simp [leL]) H
              · replace H := H.2 c14
                refine aw_aload_n 161 dX10_cutBook_160 rfl rfl ?_
                refine aw_callV (stk := []) (ci := 10) [] 164 dX10_cutBook_161 rfl mv_X10_187 ⟨by decide, by decide⟩ g5 (by intro r hr; cases hr; rfl) rfl rfl (by simp [Value.category]) (by decide) H ?_
                rintro _ h9 ⟨rfl, H⟩
                refine aw_aload_n 165 dX10_cutBook_164 rfl rfl ?_
                refine aw_dup 166 dX10_cutBook_165 rfl rfl ?_
                obtain ⟨g15, H⟩ := H
                refine aw_getI 169 dX10_cutBook_166 rfl fl_X10_143 (by decide) g15 ?_
                refine aw_iconst (v := 1) 170 dX10_cutBook_169 rfl (by decide) ?_
                refine aw_iadd 171 dX10_cutBook_170 rfl ?_
                refine aw_putI 174 dX10_cutBook_171 rfl fl_X10_143 (by decide) g15 nf_10_22 ?_
                replace H := H _ rfl
                refine aw_goto 37 dX10_cutBook_174 (by decide) ?_
                exact aw_fgt (by simp [leL]) H
            · replace H := H.2 c13
              refine aw_aload_n 148 dX10_cutBook_147 rfl rfl ?_
              refine aw_callV (stk := []) (ci := 10) [] 151 dX10_cutBook_148 rfl mv_X10_181 ⟨by decide, by decide⟩ g5 (by intro r hr; cases hr; rfl) rfl rfl (by simp [Value.category]) (by decide) H ?_
              rintro _ h11 ⟨rfl, H⟩
              refine aw_goto 164 dX10_cutBook_151 (by decide) ?_
              refine aw_aload_n 165 dX10_cutBook_164 rfl rfl ?_
              refine aw_dup 166 dX10_cutBook_165 rfl rfl ?_
              obtain ⟨g16, H⟩ := H
              refine aw_getI 169 dX10_cutBook_166 rfl fl_X10_143 (by decide) g16 ?_
              refine aw_iconst (v := 1) 170 dX10_cutBook_169 rfl (by decide) ?_
              refine aw_iadd 171 dX10_cutBook_170 rfl ?_
              refine aw_putI 174 dX10_cutBook_171 rfl fl_X10_143 (by decide) g16 nf_10_22 ?_
              replace H := H _ rfl
              refine aw_goto 37 dX10_cutBook_174 (by decide) ?_
              exact aw_fgt (by simp [leL]) H
      · replace H := H.2 c4
        refine aw_aload_n 67 dX10_cutBook_66 rfl rfl ?_
        obtain ⟨g17, H⟩ := H
        refine aw_callV (stk := []) (ci := 10) [] 70 dX10_cutBook_67 rfl mv_X10_153 ⟨by decide, by decide⟩ g17 (by intro r hr; cases hr; rfl) rfl rfl (by simp [Value.category]) (by decide) H ?_
        rintro _ h13 ⟨rfl, H⟩
        refine aw_aload_n 71 dX10_cutBook_70 rfl rfl ?_
        obtain ⟨g18, H⟩ := H
        refine aw_callV (stk := []) (ci := 10) [] 74 dX10_cutBook_71 rfl mv_X10_184 ⟨by decide, by decide⟩ g18 (by intro r hr; cases hr; rfl) rfl rfl (by simp [Value.category]) (by decide) H ?_
        rintro _ h14 ⟨rfl, H⟩
        refine aw_aload_n 75 dX10_cutBook_74 rfl rfl ?_
        obtain ⟨g19, H⟩ := H
        refine aw_getI 78 dX10_cutBook_75 rfl fl_X10_143 (by decide) g19 ?_
        refine aw_aload_n 79 dX10_cutBook_78 rfl rfl ?_
        refine aw_getI 82 dX10_cutBook_79 rfl fl_X10_126 (by decide) g19 ?_
        refine aw_icmp_ge 37 85 dX10_cutBook_82 rfl (by decide) (fun c20 => ?_) (fun c20 => ?_)
        · replace H := H.1 c20
          exact H
        · replace H := H.2 c20
          refine aw_aload_n 86 dX10_cutBook_85 rfl rfl ?_
          obtain ⟨g21, H⟩ := H
          refine aw_getR 89 dX10_cutBook_86 rfl fl_X10_7 ir_10_0 g19 rfl g21 ?_
          refine aw_aload_n 90 dX10_cutBook_89 rfl rfl ?_
          refine aw_getI 93 dX10_cutBook_90 rfl fl_X10_143 (by decide) g19 ?_
          obtain ⟨g22, H⟩ := H
          obtain ⟨g23, H⟩ := H
          refine aw_iald 94 dX10_cutBook_93 rfl (Or.inl (shp g22)) g23 ?_
          refine aw_bipush (v := 46) 96 dX10_cutBook_94 rfl (by decide) ?_
          refine aw_icmp_ne 37 99 dX10_cutBook_96 rfl (by decide) (fun c24 => ?_) (fun c24 => ?_)
          · replace H := H.1 c24
            exact H
          · replace H := H.2 c24
            refine aw_aload_n 100 dX10_cutBook_99 rfl rfl ?_
            refine aw_callV (stk := []) (ci := 10) [] 103 dX10_cutBook_100 rfl mv_X10_157 ⟨by decide, by decide⟩ g19 (by intro r hr; cases hr; rfl) rfl rfl (by simp [Value.category]) (by decide) H ?_
            rintro _ h15 ⟨r10, rfl, H⟩
            refine aw_if_eq 37 106 dX10_cutBook_103 rfl (by decide) (fun c25 => ?_) (fun c25 => ?_)
            · replace H := H.1 c25
              exact H
            · replace H := H.2 c25
              refine aw_aload_n 107 dX10_cutBook_106 rfl rfl ?_
              refine aw_dup 108 dX10_cutBook_107 rfl rfl ?_
              obtain ⟨g26, H⟩ := H
              refine aw_getI 111 dX10_cutBook_108 rfl fl_X10_143 (by decide) g26 ?_
              refine aw_iconst (v := 1) 112 dX10_cutBook_111 rfl (by decide) ?_
              refine aw_iadd 113 dX10_cutBook_112 rfl ?_
              refine aw_putI 116 dX10_cutBook_113 rfl fl_X10_143 (by decide) g26 nf_10_22 ?_
              replace H := H _ rfl
              refine aw_goto 37 dX10_cutBook_116 (by decide) ?_
              exact H
set_option maxHeartbeats 4000000 in
set_option maxRecDepth 100000 in
theorem sX10_loseTies_0 {w : Wd} {Q : Hp → Prop} {h : Hp} {a0 : Nat} (H : AW w mX10_loseTies 0 0 (rV Q) 0 0 2 [some (.ref a0), some (.int 0), none] [] h) : AW w mX10_loseTies 0 0 (rV Q) 0 0 0 [some (.ref a0), none, none] [] h := by
  refine aw_iconst (v := 0) 1 dX10_loseTies_0 rfl (by decide) ?_
  refine aw_istore_n (loc' := [some (.ref a0), some (.int 0), none]) 2 dX10_loseTies_1 rfl (by decide) rfl ?_
  exact H
theorem eX10_loseTies {w : Wd} {Q : Hp → Prop} {h : Hp} {a0 : Nat} (H : AW w mX10_loseTies 0 0 (rV Q) 0 0 0 [some (.ref a0), none, none] [] h) : AC w mX10_loseTies 0 0 (rV Q) [.ref a0] h := AC.ofL (by decide) (by simp [enl, Value.category]) (by simp [leL, enl, Value.category]) H
set_option maxHeartbeats 4000000 in
set_option maxRecDepth 100000 in
theorem sX10_loseTies_2 {w : Wd} {Q : Hp → Prop} {h : Hp} {a0 : Nat} {x1 : Int32} (H : ((20 ≤ x1 → (hs h a0).1 = 30 ∧ ∀ h1, h1 = sI h a0 15 0 → AW w mX10_loseTies 0 0 (rV Q) 0 0 35 [some (.ref a0), some (.int 0), none] [] h1) ∧ (¬ 20 ≤ x1 → (hs h a0).1 = 30 ∧ hR h a0 13 ≠ 0 ∧ (hs h (hR h a0 13)).1 = 1 ∧ vp_in x1 (hs h (hR h a0 13)).2 ∧ ∀ h2, h2 = sI h (hR h a0 13) x1.toNatClampNeg (-1) → hR h a0 14 ≠ 0 ∧ (hs h (hR h a0 14)).1 = 1 ∧ vp_in x1 (hs h (hR h a0 14)).2 ∧ ∀ h3, h3 = sI h2 (hR h a0 14) x1.toNatClampNeg (-1) → AW w mX10_loseTies 0 0 (rV Q) 0 0 2 [some (.ref a0), some (.int (x1 + 1)), none] [] h3))) : AW w mX10_loseTies 0 0 (rV Q) 0 0 2 [some (.ref a0), some (.int x1), none] [] h := by
  refine aw_iload_n 3 dX10_loseTies_2 rfl rfl ?_
  refine aw_bipush (v := 20) 5 dX10_loseTies_3 rfl (by decide) ?_
  refine aw_icmp_ge 28 8 dX10_loseTies_5 rfl (by decide) (fun c1 => ?_) (fun c1 => ?_)
  · replace H := H.1 c1
    refine aw_aload_n 29 dX10_loseTies_28 rfl rfl ?_
    refine aw_iconst (v := 0) 30 dX10_loseTies_29 rfl (by decide) ?_
    obtain ⟨g2, H⟩ := H
    refine aw_putI 33 dX10_loseTies_30 rfl fl_X10_190 (by decide) g2 nf_10_15 ?_
    replace H := H _ rfl
    refine aw_iconst (v := 0) 34 dX10_loseTies_33 rfl (by decide) ?_
    refine aw_istore_n (loc' := [some (.ref a0), some (.int 0), none]) 35 dX10_loseTies_34 rfl (by decide) rfl ?_
    exact H
  · replace H := H.2 c1
    refine aw_aload_n 9 dX10_loseTies_8 rfl rfl ?_
    obtain ⟨g3, H⟩ := H
    obtain ⟨g4, H⟩ := H
    refine aw_getR 12 dX10_loseTies_9 rfl fl_X10_43 ir_10_13 g3 rfl g4 ?_
    refine aw_iload_n 13 dX10_loseTies_12 rfl rfl ?_
    refine aw_iconst (v := (-1)) 14 dX10_loseTies_13 rfl (by decide) ?_
    obtain ⟨g5, H⟩ := H
    obtain ⟨g6, H⟩ := H
    refine aw_iast 15 dX10_loseTies_14 rfl (shp g5) g6 ?_
    replace H := H _ rfl
    refine aw_aload_n 16 dX10_loseTies_15 rfl rfl ?_
    obtain ⟨g7, H⟩ := H
    refine aw_getR 19 dX10_loseTies_16 rfl fl_X10_46 ir_10_14 g3 rfl g7 ?_
    refine aw_iload_n 20 dX10_loseTies_19 rfl rfl ?_
    refine aw_iconst (v := (-1)) 21 dX10_loseTies_20 rfl (by decide) ?_
    obtain ⟨g8, H⟩ := H
    obtain ⟨g9, H⟩ := H
    refine aw_iast 22 dX10_loseTies_21 rfl (shp g8) g9 ?_
    replace H := H _ rfl
    refine aw_iinc (y := 1) (loc' := [some (.ref a0), some (.int (x1 + 1)), none]) 25 dX10_loseTies_22 rfl (by decide) rfl (by decide) rfl ?_
    refine aw_goto 2 dX10_loseTies_25 (by decide) ?_
    exact H
set_option maxHeartbeats 4000000 in
set_option maxRecDepth 100000 in
theorem sX10_loseTies_35 {w : Wd} {Q : Hp → Prop} {h : Hp} {a0 : Nat} {x1 : Int32} (H : ((40 ≤ x1 → Q h) ∧ (¬ 40 ≤ x1 → (hs h a0).1 = 30 ∧ hR h a0 17 ≠ 0 ∧ (hs h (hR h a0 17)).1 = 1 ∧ vp_in x1 (hs h (hR h a0 17)).2 ∧ ∀ h1, h1 = sI h (hR h a0 17) x1.toNatClampNeg (-1) → AW w mX10_loseTies 0 0 (rV Q) 0 0 50 [some (.ref a0), some (.int x1), some (.int 0)] [] h1))) : AW w mX10_loseTies 0 0 (rV Q) 0 0 35 [some (.ref a0), some (.int x1), none] [] h := by
  refine aw_iload_n 36 dX10_loseTies_35 rfl rfl ?_
  refine aw_bipush (v := 40) 38 dX10_loseTies_36 rfl (by decide) ?_
  refine aw_icmp_ge 90 41 dX10_loseTies_38 rfl (by decide) (fun c1 => ?_) (fun c1 => ?_)
  · replace H := H.1 c1
    exact aw_return dX10_loseTies_90 rfl (by decide) (by decide) ⟨rfl, H⟩
  · replace H := H.2 c1
    refine aw_aload_n 42 dX10_loseTies_41 rfl rfl ?_
    obtain ⟨g2, H⟩ := H
    obtain ⟨g3, H⟩ := H
    refine aw_getR 45 dX10_loseTies_42 rfl fl_X10_49 ir_10_17 g2 rfl g3 ?_
    refine aw_iload_n 46 dX10_loseTies_45 rfl rfl ?_
    refine aw_iconst (v := (-1)) 47 dX10_loseTies_46 rfl (by decide) ?_
    obtain ⟨g4, H⟩ := H
    obtain ⟨g5, H⟩ := H
    refine aw_iast 48 dX10_loseTies_47 rfl (shp g4) g5 ?_
    replace H := H _ rfl
    refine aw_iconst (v := 0) 49 dX10_loseTies_48 rfl (by decide) ?_
    refine aw_istore_n (loc' := [some (.ref a0), some (.int x1), some (.int 0)]) 50 dX10_loseTies_49 rfl (by decide) rfl ?_
    exact H
set_option maxHeartbeats 4000000 in
set_option maxRecDepth 100000 in
theorem sX10_loseTies_50 {w : Wd} {Q : Hp → Prop} {h : Hp} {a0 : Nat} {x1 : Int32} {x2 : Int32} (H : ((40 < x2 → AW w mX10_loseTies 0 0 (rV Q) 0 0 35 [some (.ref a0), some (.int (x1 + 1)), none] [] h) ∧ (¬ 40 < x2 → (hs h a0).1 = 30 ∧ hR h a0 18 ≠ 0 ∧ hR h a0 10 ≠ 0 ∧ (hs h (hR h a0 10)).1 = 1 ∧ vp_in 1 (hs h (hR h a0 10)).2 ∧ ¬ ((hI h (hR h a0 10) (1 : Int32).toNatClampNeg) + 1) = 0 ∧ (hs h (hR h a0 18)).1 = 1 ∧ vp_in ((41 * x1) + x2) (hs h (hR h a0 18)).2 ∧ ∀ h1, h1 = sI h (hR h a0 18) ((41 * x1) + x2).toNatClampNeg (1048576 / ((hI h (hR h a0 10) (1 : Int32).toNatClampNeg) + 1)) → AW w mX10_loseTies 0 0 (rV Q) 0 0 50 [some (.ref a0), some (.int x1), some (.int (x2 + 1))] [] h1))) : AW w mX10_loseTies 0 0 (rV Q) 0 0 50 [some (.ref a0), some (.int x1), some (.int x2)] [] h := by
  refine aw_iload_n 51 dX10_loseTies_50 rfl rfl ?_
  refine aw_bipush (v := 40) 53 dX10_loseTies_51 rfl (by decide) ?_
  refine aw_icmp_gt 84 56 dX10_loseTies_53 rfl (by decide) (fun c1 => ?_) (fun c1 => ?_)
  · replace H := H.1 c1
    refine aw_iinc (y := 1) (loc' := [some (.ref a0), some (.int (x1 + 1)), some (.int x2)]) 87 dX10_loseTies_84 rfl (by decide) rfl (by decide) rfl ?_
    refine aw_goto 35 dX10_loseTies_87 (by decide) ?_
    exact aw_fgt (by simp [leL]) H
  · replace H := H.2 c1
    refine aw_aload_n 57 dX10_loseTies_56 rfl rfl ?_
    obtain ⟨g2, H⟩ := H
    obtain ⟨g3, H⟩ := H
    refine aw_getR 60 dX10_loseTies_57 rfl fl_X10_52 ir_10_18 g2 rfl g3 ?_
    refine aw_bipush (v := 41) 62 dX10_loseTies_60 rfl (by decide) ?_
    refine aw_iload_n 63 dX10_loseTies_62 rfl rfl ?_
    refine aw_imul 64 dX10_loseTies_63 rfl ?_
    refine aw_iload_n 65 dX10_loseTies_64 rfl rfl ?_
    refine aw_iadd 66 dX10_loseTies_65 rfl ?_
    refine aw_ldc 68 dX10_loseTies_66 rfl kc_X10_193 ?_
    refine aw_aload_n 69 dX10_loseTies_68 rfl rfl ?_
    obtain ⟨g4, H⟩ := H
    refine aw_getR 72 dX10_loseTies_69 rfl fl_X10_34 ir_10_10 g2 rfl g4 ?_
    refine aw_iconst (v := 1) 73 dX10_loseTies_72 rfl (by decide) ?_
    obtain ⟨g5, H⟩ := H
    obtain ⟨g6, H⟩ := H
    refine aw_iald 74 dX10_loseTies_73 rfl (Or.inl (shp g5)) g6 ?_
    refine aw_iconst (v := 1) 75 dX10_loseTies_74 rfl (by decide) ?_
    refine aw_iadd 76 dX10_loseTies_75 rfl ?_
    obtain ⟨g7, H⟩ := H
    refine aw_idiv 77 dX10_loseTies_76 rfl g7 ?_
    obtain ⟨g8, H⟩ := H
    obtain ⟨g9, H⟩ := H
    refine aw_iast 78 dX10_loseTies_77 rfl (shp g8) g9 ?_
    replace H := H _ rfl
    refine aw_iinc (y := 1) (loc' := [some (.ref a0), some (.int x1), some (.int (x2 + 1))]) 81 dX10_loseTies_78 rfl (by decide) rfl (by decide) rfl ?_
    refine aw_goto 50 dX10_loseTies_81 (by decide) ?_
    exact H
set_option maxHeartbeats 4000000 in
set_option maxRecDepth 100000 in
theorem sX10_take_0 {w : Wd} {Q : Int32 → Hp → Prop} {h : Hp} {a0 : Nat} {x1 : Int32} (H : AC w mX10_in 0 0 (rI fun r1 h1 => ((¬ r1 = 0 → (hs h1 a0).1 = 30 ∧ AC w mX10_cutBook 0 0 (rV fun h2 => (hs h2 a0).1 = 30 ∧ (((hI h2 a0 32) = 0 → hR h2 a0 5 ≠ 0 ∧ (hs h2 (hR h2 a0 5)).1 = 1 ∧ vp_in x1 (hs h2 (hR h2 a0 5)).2 ∧ ∀ h3, h3 = sI h2 (hR h2 a0 5) x1.toNatClampNeg (hI h2 a0 28) → hR h2 a0 9 ≠ 0 ∧ (hs h2 (hR h2 a0 9)).1 = 1 ∧ vp_in x1 (hs h2 (hR h2 a0 9)).2 ∧ ∀ h4, h4 = sI h3 (hR h2 a0 9) x1.toNatClampNeg (hI h3 a0 30) → hR h2 a0 10 ≠ 0 ∧ (hs h2 (hR h2 a0 10)).1 = 1 ∧ vp_in x1 (hs h2 (hR h2 a0 10)).2 ∧ ∀ h5, h5 = sI h4 (hR h2 a0 10) x1.toNatClampNeg (hI h4 a0 29) → AW w mX10_take 0 0 (rI Q) 0 0 59 [some (.ref a0), some (.int x1), some (.int 0)] [] h5) ∧ (¬ (hI h2 a0 32) = 0 → Q (-100004) h2))) [.ref a0] h1) ∧ (r1 = 0 → Q (-100001) h1))) [.long x1.toInt64, .long 0, .long 1] h) : AW w mX10_take 0 0 (rI Q) 0 0 0 [some (.ref a0), some (.int x1), none] [] h := by
  refine aw_iload_n 1 dX10_take_0 rfl rfl ?_
  refine aw_i2l 2 dX10_take_1 rfl ?_
  refine aw_lconst (v := 0) 3 dX10_take_2 rfl (by decide) ?_
  refine aw_lconst (v := 1) 4 dX10_take_3 rfl (by decide) ?_
  refine aw_callS (stk := []) [.long x1.toInt64, .long 0, .long 1] 7 dX10_take_4 rfl mv_X10_131 ⟨by decide, by decide⟩ rfl rfl (by simp [Value.category]) (by decide) H ?_
  rintro _ h1 ⟨r1, rfl, H⟩
  refine aw_if_ne 13 10 dX10_take_7 rfl (by decide) (fun c1 => ?_) (fun c1 => ?_)
  · replace H := H.1 c1
    refine aw_aload_n 14 dX10_take_13 rfl rfl ?_
    obtain ⟨g2, H⟩ := H
    refine aw_callV (stk := []) (ci := 10) [] 17 dX10_take_14 rfl mv_X10_195 ⟨by decide, by decide⟩ g2 (by intro r hr; cases hr; rfl) rfl rfl (by simp [Value.category]) (by decide) H ?_
    rintro _ h2 ⟨rfl, H⟩
    refine aw_aload_n 18 dX10_take_17 rfl rfl ?_
    obtain ⟨g3, H⟩ := H
    refine aw_getI 21 dX10_take_18 rfl fl_X10_167 (by decide) g3 ?_
    refine aw_if_eq 27 24 dX10_take_21 rfl (by decide) (fun c4 => ?_) (fun c4 => ?_)
    · replace H := H.1 c4
      refine aw_aload_n 28 dX10_take_27 rfl rfl ?_
      obtain ⟨g5, H⟩ := H
      refine aw_getR 31 dX10_take_28 rfl fl_X10_19 ir_10_5 g3 rfl g5 ?_
      refine aw_iload_n 32 dX10_take_31 rfl rfl ?_
      refine aw_aload_n 33 dX10_take_32 rfl rfl ?_
      refine aw_getI 36 dX10_take_33 rfl fl_X10_164 (by decide) g3 ?_
      obtain ⟨g6, H⟩ := H
      obtain ⟨g7, H⟩ := H
      refine aw_iast 37 dX10_take_36 rfl (shp g6) g7 ?_
      replace H := H _ rfl
      refine aw_aload_n 38 dX10_take_37 rfl rfl ?_
      obtain ⟨g8, H⟩ := H
      refine aw_getR 41 dX10_take_38 rfl fl_X10_31 ir_10_9 g3 rfl g8 ?_
      refine aw_iload_n 42 dX10_take_41 rfl rfl ?_
      refine aw_aload_n 43 dX10_take_42 rfl rfl ?_
      refine aw_getI 46 dX10_take_43 rfl fl_X10_175 (by decide) g3 ?_
      obtain ⟨g9, H⟩ := H
      obtain ⟨g10, H⟩ := H
      refine aw_iast 47 dX10_take_46 rfl (shp g9) g10 ?_
      replace H := H _ rfl
      refine aw_aload_n 48 dX10_take_47 rfl rfl ?_
      obtain ⟨g11, H⟩ := H
      refine aw_getR 51 dX10_take_48 rfl fl_X10_34 ir_10_10 g3 rfl g11 ?_
      refine aw_iload_n 52 dX10_take_51 rfl rfl ?_
      refine aw_aload_n 53 dX10_take_52 rfl rfl ?_
      refine aw_getI 56 dX10_take_53 rfl fl_X10_161 (by decide) g3 ?_
      obtain ⟨g12, H⟩ := H
      obtain ⟨g13, H⟩ := H
      refine aw_iast 57 dX10_take_56 rfl (shp g12) g13 ?_
      replace H := H _ rfl
      refine aw_iconst (v := 0) 58 dX10_take_57 rfl (by decide) ?_
      refine aw_istore_n (loc' := [some (.ref a0), some (.int x1), some (.int 0)]) 59 dX10_take_58 rfl (by decide) rfl ?_
      exact H
    · replace H := H.2 c4
      refine aw_ldc 26 dX10_take_24 rfl kc_X10_130 ?_
      exact aw_ireturn dX10_take_26 rfl (by decide) (by decide) ⟨_, rfl, H⟩
  · replace H := H.2 c1
    refine aw_ldc 12 dX10_take_10 rfl kc_X10_194 ?_
    exact aw_ireturn dX10_take_12 rfl (by decide) (by decide) ⟨_, rfl, H⟩
theorem eX10_take {w : Wd} {Q : Int32 → Hp → Prop} {h : Hp} {a0 : Nat} {x1 : Int32} (H : AW w mX10_take 0 0 (rI Q) 0 0 0 [some (.ref a0), some (.int x1), none] [] h) : AC w mX10_take 0 0 (rI Q) [.ref a0, .int x1] h := AC.ofL (by decide) (by simp [enl, Value.category]) (by simp [leL, enl, Value.category]) H
set_option maxHeartbeats 4000000 in
set_option maxRecDepth 100000 in
theorem sX10_take_59 {w : Wd} {Q : Int32 → Hp → Prop} {h : Hp} {a0 : Nat} {x1 : Int32} {x2 : Int32} (H : (hs h a0).1 = 30 ∧ (((hI h a0 28) ≤ x2 → AW w mX10_take 0 0 (rI Q) 0 0 109 [some (.ref a0), some (.int x1), some (.int 0)] [] h) ∧ (¬ (hI h a0 28) ≤ x2 → hR h a0 6 ≠ 0 ∧ hR h a0 23 ≠ 0 ∧ (hs h (hR h a0 23)).1 = 1 ∧ vp_in x2 (hs h (hR h a0 23)).2 ∧ (hs h (hR h a0 6)).1 = 1 ∧ vp_in ((20 * x1) + x2) (hs h (hR h a0 6)).2 ∧ ∀ h1, h1 = sI h (hR h a0 6) ((20 * x1) + x2).toNatClampNeg (hI h (hR h a0 23) x2.toNatClampNeg) → hR h a0 8 ≠ 0 ∧ hR h a0 25 ≠ 0 ∧ (hs h (hR h a0 25)).1 = 1 ∧ vp_in x2 (hs h (hR h a0 25)).2 ∧ (hs h (hR h a0 8)).1 = 1 ∧ vp_in ((20 * x1) + x2) (hs h (hR h a0 8)).2 ∧ ∀ h2, h2 = sI h1 (hR h a0 8) ((20 * x1) + x2).toNatClampNeg (hI h1 (hR h a0 25) x2.toNatClampNeg) → AW w mX10_take 0 0 (rI Q) 0 0 59 [some (.ref a0), some (.int x1), some (.int (x2 + 1))] [] h2))) : AW w mX10_take 0 0 (rI Q) 0 0 59 [some (.ref a0), some (.int x1), some (.int x2)] [] h := by
  refine aw_iload_n 60 dX10_take_59 rfl rfl ?_
  refine aw_aload_n 61 dX10_take_60 rfl rfl ?_
  obtain ⟨g1, H⟩ := H
  refine aw_getI 64 dX10_take_61 rfl fl_X10_164 (by decide) g1 ?_
  refine aw_icmp_ge 107 67 dX10_take_64 rfl (by decide) (fun c2 => ?_) (fun c2 => ?_)
  · replace H := H.1 c2
    refine aw_iconst (v := 0) 108 dX10_take_107 rfl (by decide) ?_
    refine aw_istore_n (loc' := [some (.ref a0), some (.int x1), some (.int 0)]) 109 dX10_take_108 rfl (by decide) rfl ?_
    exact H
  · replace H := H.2 c2
    refine aw_aload_n 68 dX10_take_67 rfl rfl ?_
    obtain ⟨g3, H⟩ := H
    refine aw_getR 71 dX10_take_68 rfl fl_X10_22 ir_10_6 g1 rfl g3 ?_
    refine aw_bipush (v := 20) 73 dX10_take_71 rfl (by decide) ?_
    refine aw_iload_n 74 dX10_take_73 rfl rfl ?_
    refine aw_imul 75 dX10_take_74 rfl ?_
    refine aw_iload_n 76 dX10_take_75 rfl rfl ?_
    refine aw_iadd 77 dX10_take_76 rfl ?_
    refine aw_aload_n 78 dX10_take_77 rfl rfl ?_
    obtain ⟨g4, H⟩ := H
    refine aw_getR 81 dX10_take_78 rfl fl_X10_58 ir_10_23 g1 rfl g4 ?_
    refine aw_iload_n 82 dX10_take_81 rfl rfl ?_
    obtain ⟨g5, H⟩ := H
    obtain ⟨g6, H⟩ := H
    refine aw_iald 83 dX10_take_82 rfl (Or.inl (shp g5)) g6 ?_
    obtain ⟨g7, H⟩ := H
    obtain ⟨g8, H⟩ := H
    refine aw_iast 84 dX10_take_83 rfl (shp g7) g8 ?_
    replace H := H _ rfl
    refine aw_aload_n 85 dX10_take_84 rfl rfl ?_
    obtain ⟨g9, H⟩ := H
    refine aw_getR 88 dX10_take_85 rfl fl_X10_28 ir_10_8 g1 rfl g9 ?_
    refine aw_bipush (v := 20) 90 dX10_take_88 rfl (by decide) ?_
    refine aw_iload_n 91 dX10_take_90 rfl rfl ?_
    refine aw_imul 92 dX10_take_91 rfl ?_
    refine aw_iload_n 93 dX10_take_92 rfl rfl ?_
    refine aw_iadd 94 dX10_take_93 rfl ?_
    refine aw_aload_n 95 dX10_take_94 rfl rfl ?_
    obtain ⟨g10, H⟩ := H
    refine aw_getR 98 dX10_take_95 rfl fl_X10_64 ir_10_25 g1 rfl g10 ?_
    refine aw_iload_n 99 dX10_take_98 rfl rfl ?_
    obtain ⟨g11, H⟩ := H
    obtain ⟨g12, H⟩ := H
    refine aw_iald 100 dX10_take_99 rfl (Or.inl (shp g11)) g12 ?_
    obtain ⟨g13, H⟩ := H
    obtain ⟨g14, H⟩ := H
    refine aw_iast 101 dX10_take_100 rfl (shp g13) g14 ?_
    replace H := H _ rfl
    refine aw_iinc (y := 1) (loc' := [some (.ref a0), some (.int x1), some (.int (x2 + 1))]) 104 dX10_take_101 rfl (by decide) rfl (by decide) rfl ?_
    refine aw_goto 59 dX10_take_104 (by decide) ?_
    exact H
set_option maxHeartbeats 4000000 in
set_option maxRecDepth 100000 in
theorem sX10_take_109 {w : Wd} {Q : Int32 → Hp → Prop} {h : Hp} {a0 : Nat} {x1 : Int32} {x2 : Int32} (H : ((200 ≤ x2 → AW w mX10_take 0 0 (rI Q) 0 0 142 [some (.ref a0), some (.int x1), some (.int 0)] [] h) ∧ (¬ 200 ≤ x2 → (hs h a0).1 = 30 ∧ hR h a0 7 ≠ 0 ∧ hR h a0 24 ≠ 0 ∧ (hs h (hR h a0 24)).1 = 1 ∧ vp_in x2 (hs h (hR h a0 24)).2 ∧ (hs h (hR h a0 7)).1 = 1 ∧ vp_in ((200 * x1) + x2) (hs h (hR h a0 7)).2 ∧ ∀ h1, h1 = sI h (hR h a0 7) ((200 * x1) + x2).toNatClampNeg (hI h (hR h a0 24) x2.toNatClampNeg) → AW w mX10_take 0 0 (rI Q) 0 0 109 [some (.ref a0), some (.int x1), some (.int (x2 + 1))] [] h1))) : AW w mX10_take 0 0 (rI Q) 0 0 109 [some (.ref a0), some (.int x1), some (.int x2)] [] h := by
  refine aw_iload_n 110 dX10_take_109 rfl rfl ?_
  refine aw_sipush (v := 200) 113 dX10_take_110 rfl (by decide) ?_
  refine aw_icmp_ge 140 116 dX10_take_113 rfl (by decide) (fun c1 => ?_) (fun c1 => ?_)
  · replace H := H.1 c1
    refine aw_iconst (v := 0) 141 dX10_take_140 rfl (by decide) ?_
    refine aw_istore_n (loc' := [some (.ref a0), some (.int x1), some (.int 0)]) 142 dX10_take_141 rfl (by decide) rfl ?_
    exact H
  · replace H := H.2 c1
    refine aw_aload_n 117 dX10_take_116 rfl rfl ?_
    obtain ⟨g2, H⟩ := H
    obtain ⟨g3, H⟩ := H
    refine aw_getR 120 dX10_take_117 rfl fl_X10_25 ir_10_7 g2 rfl g3 ?_
    refine aw_sipush (v := 200) 123 dX10_take_120 rfl (by decide) ?_
    refine aw_iload_n 124 dX10_take_123 rfl rfl ?_
    refine aw_imul 125 dX10_take_124 rfl ?_
    refine aw_iload_n 126 dX10_take_125 rfl rfl ?_
    refine aw_iadd 127 dX10_take_126 rfl ?_
    refine aw_aload_n 128 dX10_take_127 rfl rfl ?_
    obtain ⟨g4, H⟩ := H
    refine aw_getR 131 dX10_take_128 rfl fl_X10_61 ir_10_24 g2 rfl g4 ?_
    refine aw_iload_n 132 dX10_take_131 rfl rfl ?_
    obtain ⟨g5, H⟩ := H
    obtain ⟨g6, H⟩ := H
    refine aw_iald 133 dX10_take_132 rfl (Or.inl (shp g5)) g6 ?_
    obtain ⟨g7, H⟩ := H
    obtain ⟨g8, H⟩ := H
    refine aw_iast 134 dX10_take_133 rfl (shp g7) g8 ?_
    replace H := H _ rfl
    refine aw_iinc (y := 1) (loc' := [some (.ref a0), some (.int x1), some (.int (x2 + 1))]) 137 dX10_take_134 rfl (by decide) rfl (by decide) rfl ?_
    refine aw_goto 109 dX10_take_137 (by decide) ?_
    exact H
set_option maxHeartbeats 4000000 in
set_option maxRecDepth 100000 in
theorem sX10_take_142 {w : Wd} {Q : Int32 → Hp → Prop} {h : Hp} {a0 : Nat} {x1 : Int32} {x2 : Int32} (H : (hs h a0).1 = 30 ∧ (((hI h a0 29) ≤ x2 → AW w mX10_take 0 0 (rI Q) 0 0 175 [some (.ref a0), some (.int x1), some (.int 0)] [] h) ∧ (¬ (hI h a0 29) ≤ x2 → hR h a0 11 ≠ 0 ∧ hR h a0 26 ≠ 0 ∧ (hs h (hR h a0 26)).1 = 1 ∧ vp_in x2 (hs h (hR h a0 26)).2 ∧ (hs h (hR h a0 11)).1 = 1 ∧ vp_in ((40 * x1) + x2) (hs h (hR h a0 11)).2 ∧ ∀ h1, h1 = sI h (hR h a0 11) ((40 * x1) + x2).toNatClampNeg (hI h (hR h a0 26) x2.toNatClampNeg) → AW w mX10_take 0 0 (rI Q) 0 0 142 [some (.ref a0), some (.int x1), some (.int (x2 + 1))] [] h1))) : AW w mX10_take 0 0 (rI Q) 0 0 142 [some (.ref a0), some (.int x1), some (.int x2)] [] h := by
  refine aw_iload_n 143 dX10_take_142 rfl rfl ?_
  refine aw_aload_n 144 dX10_take_143 rfl rfl ?_
  obtain ⟨g1, H⟩ := H
  refine aw_getI 147 dX10_take_144 rfl fl_X10_161 (by decide) g1 ?_
  refine aw_icmp_ge 173 150 dX10_take_147 rfl (by decide) (fun c2 => ?_) (fun c2 => ?_)
  · replace H := H.1 c2
    refine aw_iconst (v := 0) 174 dX10_take_173 rfl (by decide) ?_
    refine aw_istore_n (loc' := [some (.ref a0), some (.int x1), some (.int 0)]) 175 dX10_take_174 rfl (by decide) rfl ?_
    exact H
  · replace H := H.2 c2
    refine aw_aload_n 151 dX10_take_150 rfl rfl ?_
    obtain ⟨g3, H⟩ := H
    refine aw_getR 154 dX10_take_151 rfl fl_X10_37 ir_10_11 g1 rfl g3 ?_
    refine aw_bipush (v := 40) 156 dX10_take_154 rfl (by decide) ?_
    refine aw_iload_n 157 dX10_take_156 rfl rfl ?_
    refine aw_imul 158 dX10_take_157 rfl ?_
    refine aw_iload_n 159 dX10_take_158 rfl rfl ?_
    refine aw_iadd 160 dX10_take_159 rfl ?_
    refine aw_aload_n 161 dX10_take_160 rfl rfl ?_
    obtain ⟨g4, H⟩ := H
    refine aw_getR 164 dX10_take_161 rfl fl_X10_67 ir_10_26 g1 rfl g4 ?_
    refine aw_iload_n 165 dX10_take_164 rfl rfl ?_
    obtain ⟨g5, H⟩ := H
    obtain ⟨g6, H⟩ := H
    refine aw_iald 166 dX10_take_165 rfl (Or.inl (shp g5)) g6 ?_
    obtain ⟨g7, H⟩ := H
    obtain ⟨g8, H⟩ := H
    refine aw_iast 167 dX10_take_166 rfl (shp g7) g8 ?_
    replace H := H _ rfl
    refine aw_iinc (y := 1) (loc' := [some (.ref a0), some (.int x1), some (.int (x2 + 1))]) 170 dX10_take_167 rfl (by decide) rfl (by decide) rfl ?_
    refine aw_goto 142 dX10_take_170 (by decide) ?_
    exact H
set_option maxHeartbeats 4000000 in
set_option maxRecDepth 100000 in
theorem sX10_take_175 {w : Wd} {Q : Int32 → Hp → Prop} {h : Hp} {a0 : Nat} {x1 : Int32} {x2 : Int32} (H : ((400 ≤ x2 → (hs h a0).1 = 30 ∧ ∀ h1, h1 = sI h a0 1 0 → AC w mX10_loseTies 0 0 (rV fun h2 => (hs h2 a0).1 = 30 ∧ Q (hI h2 a0 28) h2) [.ref a0] h1) ∧ (¬ 400 ≤ x2 → (hs h a0).1 = 30 ∧ hR h a0 12 ≠ 0 ∧ hR h a0 27 ≠ 0 ∧ (hs h (hR h a0 27)).1 = 1 ∧ vp_in x2 (hs h (hR h a0 27)).2 ∧ (hs h (hR h a0 12)).1 = 1 ∧ vp_in ((400 * x1) + x2) (hs h (hR h a0 12)).2 ∧ ∀ h3, h3 = sI h (hR h a0 12) ((400 * x1) + x2).toNatClampNeg (hI h (hR h a0 27) x2.toNatClampNeg) → AW w mX10_take 0 0 (rI Q) 0 0 175 [some (.ref a0), some (.int x1), some (.int (x2 + 1))] [] h3))) : AW w mX10_take 0 0 (rI Q) 0 0 175 [some (.ref a0), some (.int x1), some (.int x2)] [] h := by
  refine aw_iload_n 176 dX10_take_175 rfl rfl ?_
  refine aw_sipush (v := 400) 179 dX10_take_176 rfl (by decide) ?_
  refine aw_icmp_ge 206 182 dX10_take_179 rfl (by decide) (fun c1 => ?_) (fun c1 => ?_)
  · replace H := H.1 c1
    refine aw_aload_n 207 dX10_take_206 rfl rfl ?_
    refine aw_iconst (v := 0) 208 dX10_take_207 rfl (by decide) ?_
    obtain ⟨g2, H⟩ := H
    refine aw_putI 211 dX10_take_208 rfl fl_X10_126 (by decide) g2 nf_10_1 ?_
    replace H := H _ rfl
    refine aw_aload_n 212 dX10_take_211 rfl rfl ?_
    refine aw_callV (stk := []) (ci := 10) [] 215 dX10_take_212 rfl mv_X10_123 ⟨by decide, by decide⟩ g2 (by intro r hr; cases hr; rfl) rfl rfl (by simp [Value.category]) (by decide) H ?_
    rintro _ h2 ⟨rfl, H⟩
    refine aw_aload_n 216 dX10_take_215 rfl rfl ?_
    obtain ⟨g3, H⟩ := H
    refine aw_getI 219 dX10_take_216 rfl fl_X10_164 (by decide) g3 ?_
    exact aw_ireturn dX10_take_219 rfl (by decide) (by decide) ⟨_, rfl, H⟩
  · replace H := H.2 c1
    refine aw_aload_n 183 dX10_take_182 rfl rfl ?_
    obtain ⟨g4, H⟩ := H
    obtain ⟨g5, H⟩ := H
    refine aw_getR 186 dX10_take_183 rfl fl_X10_40 ir_10_12 g4 rfl g5 ?_
    refine aw_sipush (v := 400) 189 dX10_take_186 rfl (by decide) ?_
    refine aw_iload_n 190 dX10_take_189 rfl rfl ?_
    refine aw_imul 191 dX10_take_190 rfl ?_
    refine aw_iload_n 192 dX10_take_191 rfl rfl ?_
    refine aw_iadd 193 dX10_take_192 rfl ?_
    refine aw_aload_n 194 dX10_take_193 rfl rfl ?_
    obtain ⟨g6, H⟩ := H
    refine aw_getR 197 dX10_take_194 rfl fl_X10_70 ir_10_27 g4 rfl g6 ?_
    refine aw_iload_n 198 dX10_take_197 rfl rfl ?_
    obtain ⟨g7, H⟩ := H
    obtain ⟨g8, H⟩ := H
    refine aw_iald 199 dX10_take_198 rfl (Or.inl (shp g7)) g8 ?_
    obtain ⟨g9, H⟩ := H
    obtain ⟨g10, H⟩ := H
    refine aw_iast 200 dX10_take_199 rfl (shp g9) g10 ?_
    replace H := H _ rfl
    refine aw_iinc (y := 1) (loc' := [some (.ref a0), some (.int x1), some (.int (x2 + 1))]) 203 dX10_take_200 rfl (by decide) rfl (by decide) rfl ?_
    refine aw_goto 175 dX10_take_203 (by decide) ?_
    exact H
set_option maxHeartbeats 4000000 in
set_option maxRecDepth 100000 in
theorem sX10_isBook_0 {w : Wd} {Q : Int32 → Hp → Prop} {h : Hp} {x0 : Int32} (H : ((x0 = 0 → Q 1 h) ∧ (¬ x0 = 0 → ((¬ x0 = 1 → Q 0 h) ∧ (x0 = 1 → Q 1 h))))) : AW w mX10_isBook 0 0 (rI Q) 0 0 0 [some (.int x0)] [] h := by
  refine aw_iload_n 1 dX10_isBook_0 rfl rfl ?_
  refine aw_if_eq 9 4 dX10_isBook_1 rfl (by decide) (fun c1 => ?_) (fun c1 => ?_)
  · replace H := H.1 c1
    refine aw_iconst (v := 1) 10 dX10_isBook_9 rfl (by decide) ?_
    refine aw_goto 14 dX10_isBook_10 (by decide) ?_
    exact aw_zreturn dX10_isBook_14 rfl (by decide) (by decide) (by decide) ⟨_, rfl, H⟩
  · replace H := H.2 c1
    refine aw_iload_n 5 dX10_isBook_4 rfl rfl ?_
    refine aw_iconst (v := 1) 6 dX10_isBook_5 rfl (by decide) ?_
    refine aw_icmp_ne 13 9 dX10_isBook_6 rfl (by decide) (fun c2 => ?_) (fun c2 => ?_)
    · replace H := H.1 c2
      refine aw_iconst (v := 0) 14 dX10_isBook_13 rfl (by decide) ?_
      exact aw_zreturn dX10_isBook_14 rfl (by decide) (by decide) (by decide) ⟨_, rfl, H⟩
    · replace H := H.2 c2
      refine aw_iconst (v := 1) 10 dX10_isBook_9 rfl (by decide) ?_
      refine aw_goto 14 dX10_isBook_10 (by decide) ?_
      exact aw_zreturn dX10_isBook_14 rfl (by decide) (by decide) (by decide) ⟨_, rfl, H⟩
theorem eX10_isBook {w : Wd} {Q : Int32 → Hp → Prop} {h : Hp} {x0 : Int32} (H : AW w mX10_isBook 0 0 (rI Q) 0 0 0 [some (.int x0)] [] h) : AC w mX10_isBook 0 0 (rI Q) [.int x0] h := AC.ofL (by decide) (by simp [enl, Value.category]) (by simp [leL, enl, Value.category]) H
set_option maxHeartbeats 4000000 in
set_option maxRecDepth 100000 in
theorem sX10_isSentence_0 {w : Wd} {Q : Int32 → Hp → Prop} {h : Hp} {a0 : Nat} {x1 : Int32} {x2 : Int32} (H : AC w mX10_isBook 0 0 (rI fun r1 h1 => ((r1 = 0 → Q 0 h1) ∧ (¬ r1 = 0 → (hs h1 a0).1 = 30 ∧ hR h1 a0 5 ≠ 0 ∧ (hs h1 (hR h1 a0 5)).1 = 1 ∧ vp_in x1 (hs h1 (hR h1 a0 5)).2 ∧ AC w mX10_in 0 0 (rI fun r2 h2 => ((r2 = 0 → Q 0 h2) ∧ (¬ r2 = 0 → Q 1 h2))) [.long x2.toInt64, .long 0, .long (((hI h1 (hR h1 a0 5) x1.toNatClampNeg) - 1).toInt64)] h1))) [.int x1] h) : AW w mX10_isSentence 0 0 (rI Q) 0 0 0 [some (.ref a0), some (.int x1), some (.int x2)] [] h := by
  refine aw_iload_n 1 dX10_isSentence_0 rfl rfl ?_
  refine aw_callS (stk := []) [.int x1] 4 dX10_isSentence_1 rfl mv_X10_198 ⟨by decide, by decide⟩ rfl rfl (by simp [Value.category]) (by decide) H ?_
  rintro _ h1 ⟨r1, rfl, H⟩
  refine aw_if_eq 29 7 dX10_isSentence_4 rfl (by decide) (fun c1 => ?_) (fun c1 => ?_)
  · replace H := H.1 c1
    refine aw_iconst (v := 0) 30 dX10_isSentence_29 rfl (by decide) ?_
    exact aw_zreturn dX10_isSentence_30 rfl (by decide) (by decide) (by decide) ⟨_, rfl, H⟩
  · replace H := H.2 c1
    refine aw_iload_n 8 dX10_isSentence_7 rfl rfl ?_
    refine aw_i2l 9 dX10_isSentence_8 rfl ?_
    refine aw_lconst (v := 0) 10 dX10_isSentence_9 rfl (by decide) ?_
    refine aw_aload_n 11 dX10_isSentence_10 rfl rfl ?_
    obtain ⟨g2, H⟩ := H
    obtain ⟨g3, H⟩ := H
    refine aw_getR 14 dX10_isSentence_11 rfl fl_X10_19 ir_10_5 g2 rfl g3 ?_
    refine aw_iload_n 15 dX10_isSentence_14 rfl rfl ?_
    obtain ⟨g4, H⟩ := H
    obtain ⟨g5, H⟩ := H
    refine aw_iald 16 dX10_isSentence_15 rfl (Or.inl (shp g4)) g5 ?_
    refine aw_iconst (v := 1) 17 dX10_isSentence_16 rfl (by decide) ?_
    refine aw_isub 18 dX10_isSentence_17 rfl ?_
    refine aw_i2l 19 dX10_isSentence_18 rfl ?_
    refine aw_callS (stk := []) [.long x2.toInt64, .long 0, .long (((hI h1 (hR h1 a0 5) x1.toNatClampNeg) - 1).toInt64)] 22 dX10_isSentence_19 rfl mv_X10_131 ⟨by decide, by decide⟩ rfl rfl (by simp [Value.category]) (by decide) H ?_
    rintro _ h2 ⟨r2, rfl, H⟩
    refine aw_if_eq 29 25 dX10_isSentence_22 rfl (by decide) (fun c6 => ?_) (fun c6 => ?_)
    · replace H := H.1 c6
      refine aw_iconst (v := 0) 30 dX10_isSentence_29 rfl (by decide) ?_
      exact aw_zreturn dX10_isSentence_30 rfl (by decide) (by decide) (by decide) ⟨_, rfl, H⟩
    · replace H := H.2 c6
      refine aw_iconst (v := 1) 26 dX10_isSentence_25 rfl (by decide) ?_
      refine aw_goto 30 dX10_isSentence_26 (by decide) ?_
      exact aw_zreturn dX10_isSentence_30 rfl (by decide) (by decide) (by decide) ⟨_, rfl, H⟩
theorem eX10_isSentence {w : Wd} {Q : Int32 → Hp → Prop} {h : Hp} {a0 : Nat} {x1 : Int32} {x2 : Int32} (H : AW w mX10_isSentence 0 0 (rI Q) 0 0 0 [some (.ref a0), some (.int x1), some (.int x2)] [] h) : AC w mX10_isSentence 0 0 (rI Q) [.ref a0, .int x1, .int x2] h := AC.ofL (by decide) (by simp [enl, Value.category]) (by simp [leL, enl, Value.category]) H
set_option maxHeartbeats 4000000 in
set_option maxRecDepth 100000 in
theorem sX10_kindOf_0 {w : Wd} {Q : Int32 → Hp → Prop} {h : Hp} {a0 : Nat} {x1 : Int32} {x2 : Int32} {x3 : Int32} (H : (hs h a0).1 = 30 ∧ hR h a0 7 ≠ 0 ∧ (hs h (hR h a0 7)).1 = 1 ∧ vp_in (((200 * x1) + (10 * x2)) + x3) (hs h (hR h a0 7)).2 ∧ Q (hI h (hR h a0 7) (((200 * x1) + (10 * x2)) + x3).toNatClampNeg) h) : AW w mX10_kindOf 0 0 (rI Q) 0 0 0 [some (.ref a0), some (.int x1), some (.int x2), some (.int x3)] [] h := by
  refine aw_aload_n 1 dX10_kindOf_0 rfl rfl ?_
  obtain ⟨g1, H⟩ := H
  obtain ⟨g2, H⟩ := H
  refine aw_getR 4 dX10_kindOf_1 rfl fl_X10_25 ir_10_7 g1 rfl g2 ?_
  refine aw_sipush (v := 200) 7 dX10_kindOf_4 rfl (by decide) ?_
  refine aw_iload_n 8 dX10_kindOf_7 rfl rfl ?_
  refine aw_imul 9 dX10_kindOf_8 rfl ?_
  refine aw_bipush (v := 10) 11 dX10_kindOf_9 rfl (by decide) ?_
  refine aw_iload_n 12 dX10_kindOf_11 rfl rfl ?_
  refine aw_imul 13 dX10_kindOf_12 rfl ?_
  refine aw_iadd 14 dX10_kindOf_13 rfl ?_
  refine aw_iload_n 15 dX10_kindOf_14 rfl rfl ?_
  refine aw_iadd 16 dX10_kindOf_15 rfl ?_
  obtain ⟨g3, H⟩ := H
  obtain ⟨g4, H⟩ := H
  refine aw_iald 17 dX10_kindOf_16 rfl (Or.inl (shp g3)) g4 ?_
  exact aw_ireturn dX10_kindOf_17 rfl (by decide) (by decide) ⟨_, rfl, H⟩
theorem eX10_kindOf {w : Wd} {Q : Int32 → Hp → Prop} {h : Hp} {a0 : Nat} {x1 : Int32} {x2 : Int32} {x3 : Int32} (H : AW w mX10_kindOf 0 0 (rI Q) 0 0 0 [some (.ref a0), some (.int x1), some (.int x2), some (.int x3)] [] h) : AC w mX10_kindOf 0 0 (rI Q) [.ref a0, .int x1, .int x2, .int x3] h := AC.ofL (by decide) (by simp [enl, Value.category]) (by simp [leL, enl, Value.category]) H
set_option maxHeartbeats 4000000 in
set_option maxRecDepth 100000 in
theorem sX10_lengthOf_0 {w : Wd} {Q : Int32 → Hp → Prop} {h : Hp} {a0 : Nat} {x1 : Int32} {x2 : Int32} (H : AW w mX10_lengthOf 0 0 (rI Q) 0 0 5 [some (.ref a0), some (.int x1), some (.int x2), some (.int 0), some (.int 0)] [] h) : AW w mX10_lengthOf 0 0 (rI Q) 0 0 0 [some (.ref a0), some (.int x1), some (.int x2), none, none] [] h := by
  refine aw_iconst (v := 0) 1 dX10_lengthOf_0 rfl (by decide) ?_
  refine aw_istore_n (loc' := [some (.ref a0), some (.int x1), some (.int x2), some (.int 0), none]) 2 dX10_lengthOf_1 rfl (by decide) rfl ?_
  refine aw_iconst (v := 0) 3 dX10_lengthOf_2 rfl (by decide) ?_
  refine aw_istore (loc' := [some (.ref a0), some (.int x1), some (.int x2), some (.int 0), some (.int 0)]) 5 dX10_lengthOf_3 rfl (by decide) rfl ?_
  exact H
theorem eX10_lengthOf {w : Wd} {Q : Int32 → Hp → Prop} {h : Hp} {a0 : Nat} {x1 : Int32} {x2 : Int32} (H : AW w mX10_lengthOf 0 0 (rI Q) 0 0 0 [some (.ref a0), some (.int x1), some (.int x2), none, none] [] h) : AC w mX10_lengthOf 0 0 (rI Q) [.ref a0, .int x1, .int x2] h := AC.ofL (by decide) (by simp [enl, Value.category]) (by simp [leL, enl, Value.category]) H
set_option maxHeartbeats 4000000 in
set_option maxRecDepth 100000 in
theorem sX10_lengthOf_5 {w : Wd} {Q : Int32 → Hp → Prop} {h : Hp} {a0 : Nat} {x1 : Int32} {x2 : Int32} {x3 : Int32} {x4 : Int32} (H : (hs h a0).1 = 30 ∧ hR h a0 6 ≠ 0 ∧ (hs h (hR h a0 6)).1 = 1 ∧ vp_in ((20 * x1) + x2) (hs h (hR h a0 6)).2 ∧ (((hI h (hR h a0 6) ((20 * x1) + x2).toNatClampNeg) ≤ x4 → Q x3 h) ∧ (¬ (hI h (hR h a0 6) ((20 * x1) + x2).toNatClampNeg) ≤ x4 → hR h a0 11 ≠ 0 ∧ AC w mX10_kindOf 0 0 (rI fun r1 h1 => (hs h1 (hR h a0 11)).1 = 1 ∧ vp_in ((40 * x1) + r1) (hs h1 (hR h a0 11)).2 ∧ AW w mX10_lengthOf 0 0 (rI Q) 0 0 5 [some (.ref a0), some (.int x1), some (.int x2), some (.int (x3 + (hI h1 (hR h a0 11) ((40 * x1) + r1).toNatClampNeg))), some (.int (x4 + 1))] [] h1) [.ref a0, .int x1, .int x2, .int x4] h))) : AW w mX10_lengthOf 0 0 (rI Q) 0 0 5 [some (.ref a0), some (.int x1), some (.int x2), some (.int x3), some (.int x4)] [] h := by
  refine aw_iload 7 dX10_lengthOf_5 rfl rfl ?_
  refine aw_aload_n 8 dX10_lengthOf_7 rfl rfl ?_
  obtain ⟨g1, H⟩ := H
  obtain ⟨g2, H⟩ := H
  refine aw_getR 11 dX10_lengthOf_8 rfl fl_X10_22 ir_10_6 g1 rfl g2 ?_
  refine aw_bipush (v := 20) 13 dX10_lengthOf_11 rfl (by decide) ?_
  refine aw_iload_n 14 dX10_lengthOf_13 rfl rfl ?_
  refine aw_imul 15 dX10_lengthOf_14 rfl ?_
  refine aw_iload_n 16 dX10_lengthOf_15 rfl rfl ?_
  refine aw_iadd 17 dX10_lengthOf_16 rfl ?_
  obtain ⟨g3, H⟩ := H
  obtain ⟨g4, H⟩ := H
  refine aw_iald 18 dX10_lengthOf_17 rfl (Or.inl (shp g3)) g4 ?_
  refine aw_icmp_ge 48 21 dX10_lengthOf_18 rfl (by decide) (fun c5 => ?_) (fun c5 => ?_)
  · replace H := H.1 c5
    refine aw_iload_n 49 dX10_lengthOf_48 rfl rfl ?_
    exact aw_ireturn dX10_lengthOf_49 rfl (by decide) (by decide) ⟨_, rfl, H⟩
  · replace H := H.2 c5
    refine aw_iload_n 22 dX10_lengthOf_21 rfl rfl ?_
    refine aw_aload_n 23 dX10_lengthOf_22 rfl rfl ?_
    obtain ⟨g6, H⟩ := H
    refine aw_getR 26 dX10_lengthOf_23 rfl fl_X10_37 ir_10_11 g1 rfl g6 ?_
    refine aw_bipush (v := 40) 28 dX10_lengthOf_26 rfl (by decide) ?_
    refine aw_iload_n 29 dX10_lengthOf_28 rfl rfl ?_
    refine aw_imul 30 dX10_lengthOf_29 rfl ?_
    refine aw_aload_n 31 dX10_lengthOf_30 rfl rfl ?_
    refine aw_iload_n 32 dX10_lengthOf_31 rfl rfl ?_
    refine aw_iload_n 33 dX10_lengthOf_32 rfl rfl ?_
    refine aw_iload 35 dX10_lengthOf_33 rfl rfl ?_
    refine aw_callV (stk := [.int (40 * x1), .ref (hR h a0 11), .int x3]) (ci := 10) [.int x1, .int x2, .int x4] 38 dX10_lengthOf_35 rfl mv_X10_201 ⟨by decide, by decide⟩ g1 (by intro r hr; cases hr; rfl) rfl rfl (by simp [Value.category]) (by decide) H ?_
    rintro _ h1 ⟨r1, rfl, H⟩
    refine aw_iadd 39 dX10_lengthOf_38 rfl ?_
    obtain ⟨g7, H⟩ := H
    obtain ⟨g8, H⟩ := H
    refine aw_iald 40 dX10_lengthOf_39 rfl (Or.inl (shp g7)) g8 ?_
    refine aw_iadd 41 dX10_lengthOf_40 rfl ?_
    refine aw_istore_n (loc' := [some (.ref a0), some (.int x1), some (.int x2), some (.int (x3 + (hI h1 (hR h a0 11) ((40 * x1) + r1).toNatClampNeg))), some (.int x4)]) 42 dX10_lengthOf_41 rfl (by decide) rfl ?_
    refine aw_iinc (y := 1) (loc' := [some (.ref a0), some (.int x1), some (.int x2), some (.int (x3 + (hI h1 (hR h a0 11) ((40 * x1) + r1).toNatClampNeg))), some (.int (x4 + 1))]) 45 dX10_lengthOf_42 rfl (by decide) rfl (by decide) rfl ?_
    refine aw_goto 5 dX10_lengthOf_45 (by decide) ?_
    exact H
set_option maxHeartbeats 4000000 in
set_option maxRecDepth 100000 in
theorem sX10_lengthOfAll_0 {w : Wd} {Q : Int32 → Hp → Prop} {h : Hp} {a0 : Nat} {x1 : Int32} (H : AW w mX10_lengthOfAll 0 0 (rI Q) 0 0 4 [some (.ref a0), some (.int x1), some (.int 0), some (.int 0)] [] h) : AW w mX10_lengthOfAll 0 0 (rI Q) 0 0 0 [some (.ref a0), some (.int x1), none, none] [] h := by
  refine aw_iconst (v := 0) 1 dX10_lengthOfAll_0 rfl (by decide) ?_
  refine aw_istore_n (loc' := [some (.ref a0), some (.int x1), some (.int 0), none]) 2 dX10_lengthOfAll_1 rfl (by decide) rfl ?_
  refine aw_iconst (v := 0) 3 dX10_lengthOfAll_2 rfl (by decide) ?_
  refine aw_istore_n (loc' := [some (.ref a0), some (.int x1), some (.int 0), some (.int 0)]) 4 dX10_lengthOfAll_3 rfl (by decide) rfl ?_
  exact H
theorem eX10_lengthOfAll {w : Wd} {Q : Int32 → Hp → Prop} {h : Hp} {a0 : Nat} {x1 : Int32} (H : AW w mX10_lengthOfAll 0 0 (rI Q) 0 0 0 [some (.ref a0), some (.int x1), none, none] [] h) : AC w mX10_lengthOfAll 0 0 (rI Q) [.ref a0, .int x1] h := AC.ofL (by decide) (by simp [enl, Value.category]) (by simp [leL, enl, Value.category]) H
set_option maxHeartbeats 4000000 in
set_option maxRecDepth 100000 in
theorem sX10_lengthOfAll_4 {w : Wd} {Q : Int32 → Hp → Prop} {h : Hp} {a0 : Nat} {x1 : Int32} {x2 : Int32} {x3 : Int32} (H : (hs h a0).1 = 30 ∧ hR h a0 5 ≠ 0 ∧ (hs h (hR h a0 5)).1 = 1 ∧ vp_in x1 (hs h (hR h a0 5)).2 ∧ (((hI h (hR h a0 5) x1.toNatClampNeg) ≤ x3 → Q x2 h) ∧ (¬ (hI h (hR h a0 5) x1.toNatClampNeg) ≤ x3 → AC w mX10_lengthOf 0 0 (rI fun r1 h1 => AW w mX10_lengthOfAll 0 0 (rI Q) 0 0 4 [some (.ref a0), some (.int x1), some (.int (x2 + r1)), some (.int (x3 + 1))] [] h1) [.ref a0, .int x1, .int x3] h))) : AW w mX10_lengthOfAll 0 0 (rI Q) 0 0 4 [some (.ref a0), some (.int x1), some (.int x2), some (.int x3)] [] h := by
  refine aw_iload_n 5 dX10_lengthOfAll_4 rfl rfl ?_
  refine aw_aload_n 6 dX10_lengthOfAll_5 rfl rfl ?_
  obtain ⟨g1, H⟩ := H
  obtain ⟨g2, H⟩ := H
  refine aw_getR 9 dX10_lengthOfAll_6 rfl fl_X10_19 ir_10_5 g1 rfl g2 ?_
  refine aw_iload_n 10 dX10_lengthOfAll_9 rfl rfl ?_
  obtain ⟨g3, H⟩ := H
  obtain ⟨g4, H⟩ := H
  refine aw_iald 11 dX10_lengthOfAll_10 rfl (Or.inl (shp g3)) g4 ?_
  refine aw_icmp_ge 29 14 dX10_lengthOfAll_11 rfl (by decide) (fun c5 => ?_) (fun c5 => ?_)
  · replace H := H.1 c5
    refine aw_iload_n 30 dX10_lengthOfAll_29 rfl rfl ?_
    exact aw_ireturn dX10_lengthOfAll_30 rfl (by decide) (by decide) ⟨_, rfl, H⟩
  · replace H := H.2 c5
    refine aw_iload_n 15 dX10_lengthOfAll_14 rfl rfl ?_
    refine aw_aload_n 16 dX10_lengthOfAll_15 rfl rfl ?_
    refine aw_iload_n 17 dX10_lengthOfAll_16 rfl rfl ?_
    refine aw_iload_n 18 dX10_lengthOfAll_17 rfl rfl ?_
    refine aw_callV (stk := [.int x2]) (ci := 10) [.int x1, .int x3] 21 dX10_lengthOfAll_18 rfl mv_X10_205 ⟨by decide, by decide⟩ g1 (by intro r hr; cases hr; rfl) rfl rfl (by simp [Value.category]) (by decide) H ?_
    rintro _ h1 ⟨r1, rfl, H⟩
    refine aw_iadd 22 dX10_lengthOfAll_21 rfl ?_
    refine aw_istore_n (loc' := [some (.ref a0), some (.int x1), some (.int (x2 + r1)), some (.int x3)]) 23 dX10_lengthOfAll_22 rfl (by decide) rfl ?_
    refine aw_iinc (y := 1) (loc' := [some (.ref a0), some (.int x1), some (.int (x2 + r1)), some (.int (x3 + 1))]) 26 dX10_lengthOfAll_23 rfl (by decide) rfl (by decide) rfl ?_
    refine aw_goto 4 dX10_lengthOfAll_26 (by decide) ?_
    exact H
set_option maxHeartbeats 4000000 in
set_option maxRecDepth 100000 in
theorem sX10_count_0 {w : Wd} {Q : Int32 → Hp → Prop} {h : Hp} {a0 : Nat} {x1 : Int32} {x2 : Int32} (H : AC w mX10_isBook 0 0 (rI fun r1 h1 => ((¬ r1 = 0 → AW w mX10_count 0 0 (rI Q) 0 0 15 [some (.ref a0), some (.int x1), some (.int x2), some (.int 0), some (.int 0)] [] h1) ∧ (r1 = 0 → Q (-100001) h1))) [.int x1] h) : AW w mX10_count 0 0 (rI Q) 0 0 0 [some (.ref a0), some (.int x1), some (.int x2), none, none] [] h := by
  refine aw_iload_n 1 dX10_count_0 rfl rfl ?_
  refine aw_callS (stk := []) [.int x1] 4 dX10_count_1 rfl mv_X10_198 ⟨by decide, by decide⟩ rfl rfl (by simp [Value.category]) (by decide) H ?_
  rintro _ h1 ⟨r1, rfl, H⟩
  refine aw_if_ne 10 7 dX10_count_4 rfl (by decide) (fun c1 => ?_) (fun c1 => ?_)
  · replace H := H.1 c1
    refine aw_iconst (v := 0) 11 dX10_count_10 rfl (by decide) ?_
    refine aw_istore_n (loc' := [some (.ref a0), some (.int x1), some (.int x2), some (.int 0), none]) 12 dX10_count_11 rfl (by decide) rfl ?_
    refine aw_iconst (v := 0) 13 dX10_count_12 rfl (by decide) ?_
    refine aw_istore (loc' := [some (.ref a0), some (.int x1), some (.int x2), some (.int 0), some (.int 0)]) 15 dX10_count_13 rfl (by decide) rfl ?_
    exact H
  · replace H := H.2 c1
    refine aw_ldc 9 dX10_count_7 rfl kc_X10_194 ?_
    exact aw_ireturn dX10_count_9 rfl (by decide) (by decide) ⟨_, rfl, H⟩
theorem eX10_count {w : Wd} {Q : Int32 → Hp → Prop} {h : Hp} {a0 : Nat} {x1 : Int32} {x2 : Int32} (H : AW w mX10_count 0 0 (rI Q) 0 0 0 [some (.ref a0), some (.int x1), some (.int x2), none, none] [] h) : AC w mX10_count 0 0 (rI Q) [.ref a0, .int x1, .int x2] h := AC.ofL (by decide) (by simp [enl, Value.category]) (by simp [leL, enl, Value.category]) H
set_option maxHeartbeats 4000000 in
set_option maxRecDepth 100000 in
theorem sX10_count_15 {w : Wd} {Q : Int32 → Hp → Prop} {h : Hp} {a0 : Nat} {x1 : Int32} {x2 : Int32} {x3 : Int32} {x4 : Int32} (H : (hs h a0).1 = 30 ∧ hR h a0 5 ≠ 0 ∧ (hs h (hR h a0 5)).1 = 1 ∧ vp_in x1 (hs h (hR h a0 5)).2 ∧ (((hI h (hR h a0 5) x1.toNatClampNeg) ≤ x4 → ((¬ x2 = 0 → ((¬ x2 = 1 → ((¬ x2 = 2 → ((¬ x2 = 3 → ((¬ x2 = 4 → Q (-100002) h) ∧ (x2 = 4 → AC w mX10_lengthOfAll 0 0 (rI fun r1 h1 => Q r1 h1) [.ref a0, .int x1] h))) ∧ (x2 = 3 → Q x3 h))) ∧ (x2 = 2 → hR h a0 10 ≠ 0 ∧ (hs h (hR h a0 10)).1 = 1 ∧ vp_in x1 (hs h (hR h a0 10)).2 ∧ Q (hI h (hR h a0 10) x1.toNatClampNeg) h))) ∧ (x2 = 1 → hR h a0 9 ≠ 0 ∧ (hs h (hR h a0 9)).1 = 1 ∧ vp_in x1 (hs h (hR h a0 9)).2 ∧ Q (hI h (hR h a0 9) x1.toNatClampNeg) h))) ∧ (x2 = 0 → Q (hI h (hR h a0 5) x1.toNatClampNeg) h))) ∧ (¬ (hI h (hR h a0 5) x1.toNatClampNeg) ≤ x4 → hR h a0 6 ≠ 0 ∧ (hs h (hR h a0 6)).1 = 1 ∧ vp_in ((20 * x1) + x4) (hs h (hR h a0 6)).2 ∧ AW w mX10_count 0 0 (rI Q) 0 0 15 [some (.ref a0), some (.int x1), some (.int x2), some (.int (x3 + (hI h (hR h a0 6) ((20 * x1) + x4).toNatClampNeg))), some (.int (x4 + 1))] [] h))) : AW w mX10_count 0 0 (rI Q) 0 0 15 [some (.ref a0), some (.int x1), some (.int x2), some (.int x3), some (.int x4)] [] h := by
  refine aw_iload 17 dX10_count_15 rfl rfl ?_
  refine aw_aload_n 18 dX10_count_17 rfl rfl ?_
  obtain ⟨g1, H⟩ := H
  obtain ⟨g2, H⟩ := H
  refine aw_getR 21 dX10_count_18 rfl fl_X10_19 ir_10_5 g1 rfl g2 ?_
  refine aw_iload_n 22 dX10_count_21 rfl rfl ?_
  obtain ⟨g3, H⟩ := H
  obtain ⟨g4, H⟩ := H
  refine aw_iald 23 dX10_count_22 rfl (Or.inl (shp g3)) g4 ?_
  refine aw_icmp_ge 47 26 dX10_count_23 rfl (by decide) (fun c5 => ?_) (fun c5 => ?_)
  · replace H := H.1 c5
    refine aw_iload_n 48 dX10_count_47 rfl rfl ?_
    refine aw_if_ne 60 51 dX10_count_48 rfl (by decide) (fun c6 => ?_) (fun c6 => ?_)
    · replace H := H.1 c6
      refine aw_iload_n 61 dX10_count_60 rfl rfl ?_
      refine aw_iconst (v := 1) 62 dX10_count_61 rfl (by decide) ?_
      refine aw_icmp_ne 74 65 dX10_count_62 rfl (by decide) (fun c7 => ?_) (fun c7 => ?_)
      · replace H := H.1 c7
        refine aw_iload_n 75 dX10_count_74 rfl rfl ?_
        refine aw_iconst (v := 2) 76 dX10_count_75 rfl (by decide) ?_
        refine aw_icmp_ne 88 79 dX10_count_76 rfl (by decide) (fun c8 => ?_) (fun c8 => ?_)
        · replace H := H.1 c8
          refine aw_iload_n 89 dX10_count_88 rfl rfl ?_
          refine aw_iconst (v := 3) 90 dX10_count_89 rfl (by decide) ?_
          refine aw_icmp_ne 97 93 dX10_count_90 rfl (by decide) (fun c9 => ?_) (fun c9 => ?_)
          · replace H := H.1 c9
            refine aw_iload_n 98 dX10_count_97 rfl rfl ?_
            refine aw_iconst (v := 4) 99 dX10_count_98 rfl (by decide) ?_
            refine aw_icmp_ne 110 102 dX10_count_99 rfl (by decide) (fun c10 => ?_) (fun c10 => ?_)
            · replace H := H.1 c10
              refine aw_ldc 112 dX10_count_110 rfl kc_X10_135 ?_
              exact aw_ireturn dX10_count_112 rfl (by decide) (by decide) ⟨_, rfl, H⟩
            · replace H := H.2 c10
              refine aw_aload_n 103 dX10_count_102 rfl rfl ?_
              refine aw_iload_n 104 dX10_count_103 rfl rfl ?_
              refine aw_callV (stk := []) (ci := 10) [.int x1] 107 dX10_count_104 rfl mv_X10_209 ⟨by decide, by decide⟩ g1 (by intro r hr; cases hr; rfl) rfl rfl (by simp [Value.category]) (by decide) H ?_
              rintro _ h1 ⟨r1, rfl, H⟩
              refine aw_goto 112 dX10_count_107 (by decide) ?_
              exact aw_ireturn dX10_count_112 rfl (by decide) (by decide) ⟨_, rfl, H⟩
          · replace H := H.2 c9
            refine aw_iload_n 94 dX10_count_93 rfl rfl ?_
            refine aw_goto 112 dX10_count_94 (by decide) ?_
            exact aw_ireturn dX10_count_112 rfl (by decide) (by decide) ⟨_, rfl, H⟩
        · replace H := H.2 c8
          refine aw_aload_n 80 dX10_count_79 rfl rfl ?_
          obtain ⟨g11, H⟩ := H
          refine aw_getR 83 dX10_count_80 rfl fl_X10_34 ir_10_10 g1 rfl g11 ?_
          refine aw_iload_n 84 dX10_count_83 rfl rfl ?_
          obtain ⟨g12, H⟩ := H
          obtain ⟨g13, H⟩ := H
          refine aw_iald 85 dX10_count_84 rfl (Or.inl (shp g12)) g13 ?_
          refine aw_goto 112 dX10_count_85 (by decide) ?_
          exact aw_ireturn dX10_count_112 rfl (by decide) (by decide) ⟨_, rfl, H⟩
      · replace H := H.2 c7
        refine aw_aload_n 66 dX10_count_65 rfl rfl ?_
        obtain ⟨g14, H⟩ := H
        refine aw_getR 69 dX10_count_66 rfl fl_X10_31 ir_10_9 g1 rfl g14 ?_
        refine aw_iload_n 70 dX10_count_69 rfl rfl ?_
        obtain ⟨g15, H⟩ := H
        obtain ⟨g16, H⟩ := H
        refine aw_iald 71 dX10_count_70 rfl (Or.inl (shp g15)) g16 ?_
        refine aw_goto 112 dX10_count_71 (by decide) ?_
        exact aw_ireturn dX10_count_112 rfl (by decide) (by decide) ⟨_, rfl, H⟩
    · replace H := H.2 c6
      refine aw_aload_n 52 dX10_count_51 rfl rfl ?_
      refine aw_getR 55 dX10_count_52 rfl fl_X10_19 ir_10_5 g1 rfl g2 ?_
      refine aw_iload_n 56 dX10_count_55 rfl rfl ?_
      refine aw_iald 57 dX10_count_56 rfl (Or.inl (shp g3)) g4 ?_
      refine aw_goto 112 dX10_count_57 (by decide) ?_
      exact aw_ireturn dX10_count_112 rfl (by decide) (by decide) ⟨_, rfl, H⟩
  · replace H := H.2 c5
    refine aw_iload_n 27 dX10_count_26 rfl rfl ?_
    refine aw_aload_n 28 dX10_count_27 rfl rfl ?_
    obtain ⟨g17, H⟩ := H
    refine aw_getR 31 dX10_count_28 rfl fl_X10_22 ir_10_6 g1 rfl g17 ?_
    refine aw_bipush (v := 20) 33 dX10_count_31 rfl (by decide) ?_
    refine aw_iload_n 34 dX10_count_33 rfl rfl ?_
    refine aw_imul 35 dX10_count_34 rfl ?_
    refine aw_iload 37 dX10_count_35 rfl rfl ?_
    refine aw_iadd 38 dX10_count_37 rfl ?_
    obtain ⟨g18, H⟩ := H
    obtain ⟨g19, H⟩ := H
    refine aw_iald 39 dX10_count_38 rfl (Or.inl (shp g18)) g19 ?_
    refine aw_iadd 40 dX10_count_39 rfl ?_
    refine aw_istore_n (loc' := [some (.ref a0), some (.int x1), some (.int x2), some (.int (x3 + (hI h (hR h a0 6) ((20 * x1) + x4).toNatClampNeg))), some (.int x4)]) 41 dX10_count_40 rfl (by decide) rfl ?_
    refine aw_iinc (y := 1) (loc' := [some (.ref a0), some (.int x1), some (.int x2), some (.int (x3 + (hI h (hR h a0 6) ((20 * x1) + x4).toNatClampNeg))), some (.int (x4 + 1))]) 44 dX10_count_41 rfl (by decide) rfl (by decide) rfl ?_
    refine aw_goto 15 dX10_count_44 (by decide) ?_
    exact H
set_option maxHeartbeats 4000000 in
set_option maxRecDepth 100000 in
theorem sX10_sentence_0 {w : Wd} {Q : Int32 → Hp → Prop} {h : Hp} {a0 : Nat} {x1 : Int32} {x2 : Int32} {x3 : Int32} (H : (hs h a0).1 = 30 ∧ AC w mX10_isSentence 0 0 (rI fun r1 h1 => ((¬ r1 = 0 → ((¬ x3 = 0 → ((¬ x3 = 1 → ((¬ x3 = 2 → Q (-100002) h1) ∧ (x3 = 2 → (hs h1 a0).1 = 30 ∧ hR h1 a0 8 ≠ 0 ∧ (hs h1 (hR h1 a0 8)).1 = 1 ∧ vp_in ((20 * x1) + x2) (hs h1 (hR h1 a0 8)).2 ∧ Q (hI h1 (hR h1 a0 8) ((20 * x1) + x2).toNatClampNeg) h1))) ∧ (x3 = 1 → (hs h1 a0).1 = 30 ∧ AC w mX10_lengthOf 0 0 (rI fun r2 h2 => Q r2 h2) [.ref a0, .int x1, .int x2] h1))) ∧ (x3 = 0 → (hs h1 a0).1 = 30 ∧ hR h1 a0 6 ≠ 0 ∧ (hs h1 (hR h1 a0 6)).1 = 1 ∧ vp_in ((20 * x1) + x2) (hs h1 (hR h1 a0 6)).2 ∧ Q (hI h1 (hR h1 a0 6) ((20 * x1) + x2).toNatClampNeg) h1))) ∧ (r1 = 0 → Q (-100001) h1))) [.ref a0, .int x1, .int x2] h) : AW w mX10_sentence 0 0 (rI Q) 0 0 0 [some (.ref a0), some (.int x1), some (.int x2), some (.int x3)] [] h := by
  refine aw_aload_n 1 dX10_sentence_0 rfl rfl ?_
  refine aw_iload_n 2 dX10_sentence_1 rfl rfl ?_
  refine aw_iload_n 3 dX10_sentence_2 rfl rfl ?_
  obtain ⟨g1, H⟩ := H
  refine aw_callV (stk := []) (ci := 10) [.int x1, .int x2] 6 dX10_sentence_3 rfl mv_X10_212 ⟨by decide, by decide⟩ g1 (by intro r hr; cases hr; rfl) rfl rfl (by simp [Value.category]) (by decide) H ?_
  rintro _ h1 ⟨r1, rfl, H⟩
  refine aw_if_ne 12 9 dX10_sentence_6 rfl (by decide) (fun c2 => ?_) (fun c2 => ?_)
  · replace H := H.1 c2
    refine aw_iload_n 13 dX10_sentence_12 rfl rfl ?_
    refine aw_if_ne 30 16 dX10_sentence_13 rfl (by decide) (fun c3 => ?_) (fun c3 => ?_)
    · replace H := H.1 c3
      refine aw_iload_n 31 dX10_sentence_30 rfl rfl ?_
      refine aw_iconst (v := 1) 32 dX10_sentence_31 rfl (by decide) ?_
      refine aw_icmp_ne 44 35 dX10_sentence_32 rfl (by decide) (fun c4 => ?_) (fun c4 => ?_)
      · replace H := H.1 c4
        refine aw_iload_n 45 dX10_sentence_44 rfl rfl ?_
        refine aw_iconst (v := 2) 46 dX10_sentence_45 rfl (by decide) ?_
        refine aw_icmp_ne 63 49 dX10_sentence_46 rfl (by decide) (fun c5 => ?_) (fun c5 => ?_)
        · replace H := H.1 c5
          refine aw_ldc 65 dX10_sentence_63 rfl kc_X10_135 ?_
          exact aw_ireturn dX10_sentence_65 rfl (by decide) (by decide) ⟨_, rfl, H⟩
        · replace H := H.2 c5
          refine aw_aload_n 50 dX10_sentence_49 rfl rfl ?_
          obtain ⟨g6, H⟩ := H
          obtain ⟨g7, H⟩ := H
          refine aw_getR 53 dX10_sentence_50 rfl fl_X10_28 ir_10_8 g6 rfl g7 ?_
          refine aw_bipush (v := 20) 55 dX10_sentence_53 rfl (by decide) ?_
          refine aw_iload_n 56 dX10_sentence_55 rfl rfl ?_
          refine aw_imul 57 dX10_sentence_56 rfl ?_
          refine aw_iload_n 58 dX10_sentence_57 rfl rfl ?_
          refine aw_iadd 59 dX10_sentence_58 rfl ?_
          obtain ⟨g8, H⟩ := H
          obtain ⟨g9, H⟩ := H
          refine aw_iald 60 dX10_sentence_59 rfl (Or.inl (shp g8)) g9 ?_
          refine aw_goto 65 dX10_sentence_60 (by decide) ?_
          exact aw_ireturn dX10_sentence_65 rfl (by decide) (by decide) ⟨_, rfl, H⟩
      · replace H := H.2 c4
        refine aw_aload_n 36 dX10_sentence_35 rfl rfl ?_
        refine aw_iload_n 37 dX10_sentence_36 rfl rfl ?_
        refine aw_iload_n 38 dX10_sentence_37 rfl rfl ?_
        obtain ⟨g10, H⟩ := H
        refine aw_callV (stk := []) (ci := 10) [.int x1, .int x2] 41 dX10_sentence_38 rfl mv_X10_205 ⟨by decide, by decide⟩ g10 (by intro r hr; cases hr; rfl) rfl rfl (by simp [Value.category]) (by decide) H ?_
        rintro _ h2 ⟨r2, rfl, H⟩
        refine aw_goto 65 dX10_sentence_41 (by decide) ?_
        exact aw_ireturn dX10_sentence_65 rfl (by decide) (by decide) ⟨_, rfl, H⟩
    · replace H := H.2 c3
      refine aw_aload_n 17 dX10_sentence_16 rfl rfl ?_
      obtain ⟨g11, H⟩ := H
      obtain ⟨g12, H⟩ := H
      refine aw_getR 20 dX10_sentence_17 rfl fl_X10_22 ir_10_6 g11 rfl g12 ?_
      refine aw_bipush (v := 20) 22 dX10_sentence_20 rfl (by decide) ?_
      refine aw_iload_n 23 dX10_sentence_22 rfl rfl ?_
      refine aw_imul 24 dX10_sentence_23 rfl ?_
      refine aw_iload_n 25 dX10_sentence_24 rfl rfl ?_
      refine aw_iadd 26 dX10_sentence_25 rfl ?_
      obtain ⟨g13, H⟩ := H
      obtain ⟨g14, H⟩ := H
      refine aw_iald 27 dX10_sentence_26 rfl (Or.inl (shp g13)) g14 ?_
      refine aw_goto 65 dX10_sentence_27 (by decide) ?_
      exact aw_ireturn dX10_sentence_65 rfl (by decide) (by decide) ⟨_, rfl, H⟩
  · replace H := H.2 c2
    refine aw_ldc 11 dX10_sentence_9 rfl kc_X10_194 ?_
    exact aw_ireturn dX10_sentence_11 rfl (by decide) (by decide) ⟨_, rfl, H⟩
theorem eX10_sentence {w : Wd} {Q : Int32 → Hp → Prop} {h : Hp} {a0 : Nat} {x1 : Int32} {x2 : Int32} {x3 : Int32} (H : AW w mX10_sentence 0 0 (rI Q) 0 0 0 [some (.ref a0), some (.int x1), some (.int x2), some (.int x3)] [] h) : AC w mX10_sentence 0 0 (rI Q) [.ref a0, .int x1, .int x2, .int x3] h := AC.ofL (by decide) (by simp [enl, Value.category]) (by simp [leL, enl, Value.category]) H
set_option maxHeartbeats 4000000 in
set_option maxRecDepth 100000 in
theorem sX10_isWord_0 {w : Wd} {Q : Int32 → Hp → Prop} {h : Hp} {a0 : Nat} {x1 : Int32} {x2 : Int32} {x3 : Int32} (H : (hs h a0).1 = 30 ∧ AC w mX10_isSentence 0 0 (rI fun r1 h1 => ((r1 = 0 → Q 0 h1) ∧ (¬ r1 = 0 → (hs h1 a0).1 = 30 ∧ hR h1 a0 6 ≠ 0 ∧ (hs h1 (hR h1 a0 6)).1 = 1 ∧ vp_in ((20 * x1) + x2) (hs h1 (hR h1 a0 6)).2 ∧ AC w mX10_in 0 0 (rI fun r2 h2 => ((r2 = 0 → Q 0 h2) ∧ (¬ r2 = 0 → Q 1 h2))) [.long x3.toInt64, .long 0, .long (((hI h1 (hR h1 a0 6) ((20 * x1) + x2).toNatClampNeg) - 1).toInt64)] h1))) [.ref a0, .int x1, .int x2] h) : AW w mX10_isWord 0 0 (rI Q) 0 0 0 [some (.ref a0), some (.int x1), some (.int x2), some (.int x3)] [] h := by
  refine aw_aload_n 1 dX10_isWord_0 rfl rfl ?_
  refine aw_iload_n 2 dX10_isWord_1 rfl rfl ?_
  refine aw_iload_n 3 dX10_isWord_2 rfl rfl ?_
  obtain ⟨g1, H⟩ := H
  refine aw_callV (stk := []) (ci := 10) [.int x1, .int x2] 6 dX10_isWord_3 rfl mv_X10_212 ⟨by decide, by decide⟩ g1 (by intro r hr; cases hr; rfl) rfl rfl (by simp [Value.category]) (by decide) H ?_
  rintro _ h1 ⟨r1, rfl, H⟩
  refine aw_if_eq 36 9 dX10_isWord_6 rfl (by decide) (fun c2 => ?_) (fun c2 => ?_)
  · replace H := H.1 c2
    refine aw_iconst (v := 0) 37 dX10_isWord_36 rfl (by decide) ?_
    exact aw_zreturn dX10_isWord_37 rfl (by decide) (by decide) (by decide) ⟨_, rfl, H⟩
  · replace H := H.2 c2
    refine aw_iload_n 10 dX10_isWord_9 rfl rfl ?_
    refine aw_i2l 11 dX10_isWord_10 rfl ?_
    refine aw_lconst (v := 0) 12 dX10_isWord_11 rfl (by decide) ?_
    refine aw_aload_n 13 dX10_isWord_12 rfl rfl ?_
    obtain ⟨g3, H⟩ := H
    obtain ⟨g4, H⟩ := H
    refine aw_getR 16 dX10_isWord_13 rfl fl_X10_22 ir_10_6 g3 rfl g4 ?_
    refine aw_bipush (v := 20) 18 dX10_isWord_16 rfl (by decide) ?_
    refine aw_iload_n 19 dX10_isWord_18 rfl rfl ?_
    refine aw_imul 20 dX10_isWord_19 rfl ?_
    refine aw_iload_n 21 dX10_isWord_20 rfl rfl ?_
    refine aw_iadd 22 dX10_isWord_21 rfl ?_
    obtain ⟨g5, H⟩ := H
    obtain ⟨g6, H⟩ := H
    refine aw_iald 23 dX10_isWord_22 rfl (Or.inl (shp g5)) g6 ?_
    refine aw_iconst (v := 1) 24 dX10_isWord_23 rfl (by decide) ?_
    refine aw_isub 25 dX10_isWord_24 rfl ?_
    refine aw_i2l 26 dX10_isWord_25 rfl ?_
    refine aw_callS (stk := []) [.long x3.toInt64, .long 0, .long (((hI h1 (hR h1 a0 6) ((20 * x1) + x2).toNatClampNeg) - 1).toInt64)] 29 dX10_isWord_26 rfl mv_X10_131 ⟨by decide, by decide⟩ rfl rfl (by simp [Value.category]) (by decide) H ?_
    rintro _ h2 ⟨r2, rfl, H⟩
    refine aw_if_eq 36 32 dX10_isWord_29 rfl (by decide) (fun c7 => ?_) (fun c7 => ?_)
    · replace H := H.1 c7
      refine aw_iconst (v := 0) 37 dX10_isWord_36 rfl (by decide) ?_
      exact aw_zreturn dX10_isWord_37 rfl (by decide) (by decide) (by decide) ⟨_, rfl, H⟩
    · replace H := H.2 c7
      refine aw_iconst (v := 1) 33 dX10_isWord_32 rfl (by decide) ?_
      refine aw_goto 37 dX10_isWord_33 (by decide) ?_
      exact aw_zreturn dX10_isWord_37 rfl (by decide) (by decide) (by decide) ⟨_, rfl, H⟩
theorem eX10_isWord {w : Wd} {Q : Int32 → Hp → Prop} {h : Hp} {a0 : Nat} {x1 : Int32} {x2 : Int32} {x3 : Int32} (H : AW w mX10_isWord 0 0 (rI Q) 0 0 0 [some (.ref a0), some (.int x1), some (.int x2), some (.int x3)] [] h) : AC w mX10_isWord 0 0 (rI Q) [.ref a0, .int x1, .int x2, .int x3] h := AC.ofL (by decide) (by simp [enl, Value.category]) (by simp [leL, enl, Value.category]) H
set_option maxHeartbeats 4000000 in
set_option maxRecDepth 100000 in
theorem sX10_word_0 {w : Wd} {Q : Int32 → Hp → Prop} {h : Hp} {a0 : Nat} {x1 : Int32} {x2 : Int32} {x3 : Int32} (H : (hs h a0).1 = 30 ∧ AC w mX10_isWord 0 0 (rI fun r1 h1 => ((r1 = 0 → Q (-100001) h1) ∧ (¬ r1 = 0 → (hs h1 a0).1 = 30 ∧ AC w mX10_kindOf 0 0 (rI fun r2 h2 => Q r2 h2) [.ref a0, .int x1, .int x2, .int x3] h1))) [.ref a0, .int x1, .int x2, .int x3] h) : AW w mX10_word 0 0 (rI Q) 0 0 0 [some (.ref a0), some (.int x1), some (.int x2), some (.int x3)] [] h := by
  refine aw_aload_n 1 dX10_word_0 rfl rfl ?_
  refine aw_iload_n 2 dX10_word_1 rfl rfl ?_
  refine aw_iload_n 3 dX10_word_2 rfl rfl ?_
  refine aw_iload_n 4 dX10_word_3 rfl rfl ?_
  obtain ⟨g1, H⟩ := H
  refine aw_callV (stk := []) (ci := 10) [.int x1, .int x2, .int x3] 7 dX10_word_4 rfl mv_X10_216 ⟨by decide, by decide⟩ g1 (by intro r hr; cases hr; rfl) rfl rfl (by simp [Value.category]) (by decide) H ?_
  rintro _ h1 ⟨r1, rfl, H⟩
  refine aw_if_eq 20 10 dX10_word_7 rfl (by decide) (fun c2 => ?_) (fun c2 => ?_)
  · replace H := H.1 c2
    refine aw_ldc 22 dX10_word_20 rfl kc_X10_194 ?_
    exact aw_ireturn dX10_word_22 rfl (by decide) (by decide) ⟨_, rfl, H⟩
  · replace H := H.2 c2
    refine aw_aload_n 11 dX10_word_10 rfl rfl ?_
    refine aw_iload_n 12 dX10_word_11 rfl rfl ?_
    refine aw_iload_n 13 dX10_word_12 rfl rfl ?_
    refine aw_iload_n 14 dX10_word_13 rfl rfl ?_
    obtain ⟨g3, H⟩ := H
    refine aw_callV (stk := []) (ci := 10) [.int x1, .int x2, .int x3] 17 dX10_word_14 rfl mv_X10_201 ⟨by decide, by decide⟩ g3 (by intro r hr; cases hr; rfl) rfl rfl (by simp [Value.category]) (by decide) H ?_
    rintro _ h2 ⟨r2, rfl, H⟩
    refine aw_goto 22 dX10_word_17 (by decide) ?_
    exact aw_ireturn dX10_word_22 rfl (by decide) (by decide) ⟨_, rfl, H⟩
theorem eX10_word {w : Wd} {Q : Int32 → Hp → Prop} {h : Hp} {a0 : Nat} {x1 : Int32} {x2 : Int32} {x3 : Int32} (H : AW w mX10_word 0 0 (rI Q) 0 0 0 [some (.ref a0), some (.int x1), some (.int x2), some (.int x3)] [] h) : AC w mX10_word 0 0 (rI Q) [.ref a0, .int x1, .int x2, .int x3] h := AC.ofL (by decide) (by simp [enl, Value.category]) (by simp [leL, enl, Value.category]) H
set_option maxHeartbeats 4000000 in
set_option maxRecDepth 100000 in
theorem sX10_isKind_0 {w : Wd} {Q : Int32 → Hp → Prop} {h : Hp} {a0 : Nat} {x1 : Int32} {x2 : Int32} (H : AC w mX10_isBook 0 0 (rI fun r1 h1 => ((r1 = 0 → Q 0 h1) ∧ (¬ r1 = 0 → (hs h1 a0).1 = 30 ∧ hR h1 a0 10 ≠ 0 ∧ (hs h1 (hR h1 a0 10)).1 = 1 ∧ vp_in x1 (hs h1 (hR h1 a0 10)).2 ∧ AC w mX10_in 0 0 (rI fun r2 h2 => ((r2 = 0 → Q 0 h2) ∧ (¬ r2 = 0 → Q 1 h2))) [.long x2.toInt64, .long 0, .long (((hI h1 (hR h1 a0 10) x1.toNatClampNeg) - 1).toInt64)] h1))) [.int x1] h) : AW w mX10_isKind 0 0 (rI Q) 0 0 0 [some (.ref a0), some (.int x1), some (.int x2)] [] h := by
  refine aw_iload_n 1 dX10_isKind_0 rfl rfl ?_
  refine aw_callS (stk := []) [.int x1] 4 dX10_isKind_1 rfl mv_X10_198 ⟨by decide, by decide⟩ rfl rfl (by simp [Value.category]) (by decide) H ?_
  rintro _ h1 ⟨r1, rfl, H⟩
  refine aw_if_eq 29 7 dX10_isKind_4 rfl (by decide) (fun c1 => ?_) (fun c1 => ?_)
  · replace H := H.1 c1
    refine aw_iconst (v := 0) 30 dX10_isKind_29 rfl (by decide) ?_
    exact aw_zreturn dX10_isKind_30 rfl (by decide) (by decide) (by decide) ⟨_, rfl, H⟩
  · replace H := H.2 c1
    refine aw_iload_n 8 dX10_isKind_7 rfl rfl ?_
    refine aw_i2l 9 dX10_isKind_8 rfl ?_
    refine aw_lconst (v := 0) 10 dX10_isKind_9 rfl (by decide) ?_
    refine aw_aload_n 11 dX10_isKind_10 rfl rfl ?_
    obtain ⟨g2, H⟩ := H
    obtain ⟨g3, H⟩ := H
    refine aw_getR 14 dX10_isKind_11 rfl fl_X10_34 ir_10_10 g2 rfl g3 ?_
    refine aw_iload_n 15 dX10_isKind_14 rfl rfl ?_
    obtain ⟨g4, H⟩ := H
    obtain ⟨g5, H⟩ := H
    refine aw_iald 16 dX10_isKind_15 rfl (Or.inl (shp g4)) g5 ?_
    refine aw_iconst (v := 1) 17 dX10_isKind_16 rfl (by decide) ?_
    refine aw_isub 18 dX10_isKind_17 rfl ?_
    refine aw_i2l 19 dX10_isKind_18 rfl ?_
    refine aw_callS (stk := []) [.long x2.toInt64, .long 0, .long (((hI h1 (hR h1 a0 10) x1.toNatClampNeg) - 1).toInt64)] 22 dX10_isKind_19 rfl mv_X10_131 ⟨by decide, by decide⟩ rfl rfl (by simp [Value.category]) (by decide) H ?_
    rintro _ h2 ⟨r2, rfl, H⟩
    refine aw_if_eq 29 25 dX10_isKind_22 rfl (by decide) (fun c6 => ?_) (fun c6 => ?_)
    · replace H := H.1 c6
      refine aw_iconst (v := 0) 30 dX10_isKind_29 rfl (by decide) ?_
      exact aw_zreturn dX10_isKind_30 rfl (by decide) (by decide) (by decide) ⟨_, rfl, H⟩
    · replace H := H.2 c6
      refine aw_iconst (v := 1) 26 dX10_isKind_25 rfl (by decide) ?_
      refine aw_goto 30 dX10_isKind_26 (by decide) ?_
      exact aw_zreturn dX10_isKind_30 rfl (by decide) (by decide) (by decide) ⟨_, rfl, H⟩
theorem eX10_isKind {w : Wd} {Q : Int32 → Hp → Prop} {h : Hp} {a0 : Nat} {x1 : Int32} {x2 : Int32} (H : AW w mX10_isKind 0 0 (rI Q) 0 0 0 [some (.ref a0), some (.int x1), some (.int x2)] [] h) : AC w mX10_isKind 0 0 (rI Q) [.ref a0, .int x1, .int x2] h := AC.ofL (by decide) (by simp [enl, Value.category]) (by simp [leL, enl, Value.category]) H
set_option maxHeartbeats 4000000 in
set_option maxRecDepth 100000 in
theorem sX10_letter_0 {w : Wd} {Q : Int32 → Hp → Prop} {h : Hp} {a0 : Nat} {x1 : Int32} {x2 : Int32} {x3 : Int32} (H : (hs h a0).1 = 30 ∧ AC w mX10_isKind 0 0 (rI fun r1 h1 => ((¬ r1 = 0 → (hs h1 a0).1 = 30 ∧ hR h1 a0 11 ≠ 0 ∧ (hs h1 (hR h1 a0 11)).1 = 1 ∧ vp_in ((40 * x1) + x2) (hs h1 (hR h1 a0 11)).2 ∧ AC w mX10_in 0 0 (rI fun r2 h2 => ((r2 = 0 → Q (-1) h2) ∧ (¬ r2 = 0 → (hs h2 a0).1 = 30 ∧ hR h2 a0 12 ≠ 0 ∧ (hs h2 (hR h2 a0 12)).1 = 1 ∧ vp_in (((400 * x1) + (10 * x2)) + x3) (hs h2 (hR h2 a0 12)).2 ∧ Q (hI h2 (hR h2 a0 12) (((400 * x1) + (10 * x2)) + x3).toNatClampNeg) h2))) [.long x3.toInt64, .long 0, .long (((hI h1 (hR h1 a0 11) ((40 * x1) + x2).toNatClampNeg) - 1).toInt64)] h1) ∧ (r1 = 0 → Q (-100001) h1))) [.ref a0, .int x1, .int x2] h) : AW w mX10_letter 0 0 (rI Q) 0 0 0 [some (.ref a0), some (.int x1), some (.int x2), some (.int x3)] [] h := by
  refine aw_aload_n 1 dX10_letter_0 rfl rfl ?_
  refine aw_iload_n 2 dX10_letter_1 rfl rfl ?_
  refine aw_iload_n 3 dX10_letter_2 rfl rfl ?_
  obtain ⟨g1, H⟩ := H
  refine aw_callV (stk := []) (ci := 10) [.int x1, .int x2] 6 dX10_letter_3 rfl mv_X10_220 ⟨by decide, by decide⟩ g1 (by intro r hr; cases hr; rfl) rfl rfl (by simp [Value.category]) (by decide) H ?_
  rintro _ h1 ⟨r1, rfl, H⟩
  refine aw_if_ne 12 9 dX10_letter_6 rfl (by decide) (fun c2 => ?_) (fun c2 => ?_)
  · replace H := H.1 c2
    refine aw_iload_n 13 dX10_letter_12 rfl rfl ?_
    refine aw_i2l 14 dX10_letter_13 rfl ?_
    refine aw_lconst (v := 0) 15 dX10_letter_14 rfl (by decide) ?_
    refine aw_aload_n 16 dX10_letter_15 rfl rfl ?_
    obtain ⟨g3, H⟩ := H
    obtain ⟨g4, H⟩ := H
    refine aw_getR 19 dX10_letter_16 rfl fl_X10_37 ir_10_11 g3 rfl g4 ?_
    refine aw_bipush (v := 40) 21 dX10_letter_19 rfl (by decide) ?_
    refine aw_iload_n 22 dX10_letter_21 rfl rfl ?_
    refine aw_imul 23 dX10_letter_22 rfl ?_
    refine aw_iload_n 24 dX10_letter_23 rfl rfl ?_
    refine aw_iadd 25 dX10_letter_24 rfl ?_
    obtain ⟨g5, H⟩ := H
    obtain ⟨g6, H⟩ := H
    refine aw_iald 26 dX10_letter_25 rfl (Or.inl (shp g5)) g6 ?_
    refine aw_iconst (v := 1) 27 dX10_letter_26 rfl (by decide) ?_
    refine aw_isub 28 dX10_letter_27 rfl ?_
    refine aw_i2l 29 dX10_letter_28 rfl ?_
    refine aw_callS (stk := []) [.long x3.toInt64, .long 0, .long (((hI h1 (hR h1 a0 11) ((40 * x1) + x2).toNatClampNeg) - 1).toInt64)] 32 dX10_letter_29 rfl mv_X10_131 ⟨by decide, by decide⟩ rfl rfl (by simp [Value.category]) (by decide) H ?_
    rintro _ h2 ⟨r2, rfl, H⟩
    refine aw_if_eq 55 35 dX10_letter_32 rfl (by decide) (fun c7 => ?_) (fun c7 => ?_)
    · replace H := H.1 c7
      refine aw_iconst (v := (-1)) 56 dX10_letter_55 rfl (by decide) ?_
      exact aw_ireturn dX10_letter_56 rfl (by decide) (by decide) ⟨_, rfl, H⟩
    · replace H := H.2 c7
      refine aw_aload_n 36 dX10_letter_35 rfl rfl ?_
      obtain ⟨g8, H⟩ := H
      obtain ⟨g9, H⟩ := H
      refine aw_getR 39 dX10_letter_36 rfl fl_X10_40 ir_10_12 g8 rfl g9 ?_
      refine aw_sipush (v := 400) 42 dX10_letter_39 rfl (by decide) ?_
      refine aw_iload_n 43 dX10_letter_42 rfl rfl ?_
      refine aw_imul 44 dX10_letter_43 rfl ?_
      refine aw_bipush (v := 10) 46 dX10_letter_44 rfl (by decide) ?_
      refine aw_iload_n 47 dX10_letter_46 rfl rfl ?_
      refine aw_imul 48 dX10_letter_47 rfl ?_
      refine aw_iadd 49 dX10_letter_48 rfl ?_
      refine aw_iload_n 50 dX10_letter_49 rfl rfl ?_
      refine aw_iadd 51 dX10_letter_50 rfl ?_
      obtain ⟨g10, H⟩ := H
      obtain ⟨g11, H⟩ := H
      refine aw_iald 52 dX10_letter_51 rfl (Or.inl (shp g10)) g11 ?_
      refine aw_goto 56 dX10_letter_52 (by decide) ?_
      exact aw_ireturn dX10_letter_56 rfl (by decide) (by decide) ⟨_, rfl, H⟩
  · replace H := H.2 c2
    refine aw_ldc 11 dX10_letter_9 rfl kc_X10_194 ?_
    exact aw_ireturn dX10_letter_11 rfl (by decide) (by decide) ⟨_, rfl, H⟩
theorem eX10_letter {w : Wd} {Q : Int32 → Hp → Prop} {h : Hp} {a0 : Nat} {x1 : Int32} {x2 : Int32} {x3 : Int32} (H : AW w mX10_letter 0 0 (rI Q) 0 0 0 [some (.ref a0), some (.int x1), some (.int x2), some (.int x3)] [] h) : AC w mX10_letter 0 0 (rI Q) [.ref a0, .int x1, .int x2, .int x3] h := AC.ofL (by decide) (by simp [enl, Value.category]) (by simp [leL, enl, Value.category]) H
set_option maxHeartbeats 4000000 in
set_option maxRecDepth 100000 in
theorem sX10_change_0 {w : Wd} {Q : Int32 → Hp → Prop} {h : Hp} {a0 : Nat} {x1 : Int32} {x2 : Int32} {x3 : Int32} {x4 : Int32} (H : (hs h a0).1 = 30 ∧ AC w mX10_isWord 0 0 (rI fun r1 h1 => ((r1 = 0 → Q (-100001) h1) ∧ (¬ r1 = 0 → (hs h1 a0).1 = 30 ∧ AC w mX10_isKind 0 0 (rI fun r2 h2 => ((¬ r2 = 0 → (hs h2 a0).1 = 30 ∧ AC w mX10_kindOf 0 0 (rI fun r3 h3 => (hs h3 a0).1 = 30 ∧ hR h3 a0 7 ≠ 0 ∧ (hs h3 (hR h3 a0 7)).1 = 1 ∧ vp_in (((200 * x1) + (10 * x2)) + x3) (hs h3 (hR h3 a0 7)).2 ∧ ∀ h4, h4 = sI h3 (hR h3 a0 7) (((200 * x1) + (10 * x2)) + x3).toNatClampNeg x4 → Q r3 h4) [.ref a0, .int x1, .int x2, .int x3] h2) ∧ (r2 = 0 → Q (-100001) h2))) [.ref a0, .int x1, .int x4] h1))) [.ref a0, .int x1, .int x2, .int x3] h) : AW w mX10_change 0 0 (rI Q) 0 0 0 [some (.ref a0), some (.int x1), some (.int x2), some (.int x3), some (.int x4), none] [] h := by
  refine aw_aload_n 1 dX10_change_0 rfl rfl ?_
  refine aw_iload_n 2 dX10_change_1 rfl rfl ?_
  refine aw_iload_n 3 dX10_change_2 rfl rfl ?_
  refine aw_iload_n 4 dX10_change_3 rfl rfl ?_
  obtain ⟨g1, H⟩ := H
  refine aw_callV (stk := []) (ci := 10) [.int x1, .int x2, .int x3] 7 dX10_change_4 rfl mv_X10_216 ⟨by decide, by decide⟩ g1 (by intro r hr; cases hr; rfl) rfl rfl (by simp [Value.category]) (by decide) H ?_
  rintro _ h1 ⟨r1, rfl, H⟩
  refine aw_if_eq 20 10 dX10_change_7 rfl (by decide) (fun c2 => ?_) (fun c2 => ?_)
  · replace H := H.1 c2
    refine aw_ldc 22 dX10_change_20 rfl kc_X10_194 ?_
    exact aw_ireturn dX10_change_22 rfl (by decide) (by decide) ⟨_, rfl, H⟩
  · replace H := H.2 c2
    refine aw_aload_n 11 dX10_change_10 rfl rfl ?_
    refine aw_iload_n 12 dX10_change_11 rfl rfl ?_
    refine aw_iload 14 dX10_change_12 rfl rfl ?_
    obtain ⟨g3, H⟩ := H
    refine aw_callV (stk := []) (ci := 10) [.int x1, .int x4] 17 dX10_change_14 rfl mv_X10_220 ⟨by decide, by decide⟩ g3 (by intro r hr; cases hr; rfl) rfl rfl (by simp [Value.category]) (by decide) H ?_
    rintro _ h2 ⟨r2, rfl, H⟩
    refine aw_if_ne 23 20 dX10_change_17 rfl (by decide) (fun c4 => ?_) (fun c4 => ?_)
    · replace H := H.1 c4
      refine aw_aload_n 24 dX10_change_23 rfl rfl ?_
      refine aw_iload_n 25 dX10_change_24 rfl rfl ?_
      refine aw_iload_n 26 dX10_change_25 rfl rfl ?_
      refine aw_iload_n 27 dX10_change_26 rfl rfl ?_
      obtain ⟨g5, H⟩ := H
      refine aw_callV (stk := []) (ci := 10) [.int x1, .int x2, .int x3] 30 dX10_change_27 rfl mv_X10_201 ⟨by decide, by decide⟩ g5 (by intro r hr; cases hr; rfl) rfl rfl (by simp [Value.category]) (by decide) H ?_
      rintro _ h3 ⟨r3, rfl, H⟩
      refine aw_istore (loc' := [some (.ref a0), some (.int x1), some (.int x2), some (.int x3), some (.int x4), some (.int r3)]) 32 dX10_change_30 rfl (by decide) rfl ?_
      refine aw_aload_n 33 dX10_change_32 rfl rfl ?_
      obtain ⟨g6, H⟩ := H
      obtain ⟨g7, H⟩ := H
      refine aw_getR 36 dX10_change_33 rfl fl_X10_25 ir_10_7 g6 rfl g7 ?_
      refine aw_sipush (v := 200) 39 dX10_change_36 rfl (by decide) ?_
      refine aw_iload_n 40 dX10_change_39 rfl rfl ?_
      refine aw_imul 41 dX10_change_40 rfl ?_
      refine aw_bipush (v := 10) 43 dX10_change_41 rfl (by decide) ?_
      refine aw_iload_n 44 dX10_change_43 rfl rfl ?_
      refine aw_imul 45 dX10_change_44 rfl ?_
      refine aw_iadd 46 dX10_change_45 rfl ?_
      refine aw_iload_n 47 dX10_change_46 rfl rfl ?_
      refine aw_iadd 48 dX10_change_47 rfl ?_
      refine aw_iload 50 dX10_change_48 rfl rfl ?_
      obtain ⟨g8, H⟩ := H
      obtain ⟨g9, H⟩ := H
      refine aw_iast 51 dX10_change_50 rfl (shp g8) g9 ?_
      replace H := H _ rfl
      refine aw_iload 53 dX10_change_51 rfl rfl ?_
      exact aw_ireturn dX10_change_53 rfl (by decide) (by decide) ⟨_, rfl, H⟩
    · replace H := H.2 c4
      refine aw_ldc 22 dX10_change_20 rfl kc_X10_194 ?_
      exact aw_ireturn dX10_change_22 rfl (by decide) (by decide) ⟨_, rfl, H⟩
theorem eX10_change {w : Wd} {Q : Int32 → Hp → Prop} {h : Hp} {a0 : Nat} {x1 : Int32} {x2 : Int32} {x3 : Int32} {x4 : Int32} (H : AW w mX10_change 0 0 (rI Q) 0 0 0 [some (.ref a0), some (.int x1), some (.int x2), some (.int x3), some (.int x4), none] [] h) : AC w mX10_change 0 0 (rI Q) [.ref a0, .int x1, .int x2, .int x3, .int x4] h := AC.ofL (by decide) (by simp [enl, Value.category]) (by simp [leL, enl, Value.category]) H
set_option maxHeartbeats 4000000 in
set_option maxRecDepth 100000 in
theorem sX10_fast_0 {w : Wd} {Q : Int32 → Hp → Prop} {h : Hp} {a0 : Nat} {x1 : Int32} {x2 : Int32} (H : (hs h a0).1 = 30 ∧ AC w mX10_isSentence 0 0 (rI fun r1 h1 => ((r1 = 0 → Q (-100001) h1) ∧ (¬ r1 = 0 → (hs h1 a0).1 = 30 ∧ AC w mX10_isSentence 0 0 (rI fun r2 h2 => ((¬ r2 = 0 → (hs h2 a0).1 = 30 ∧ hR h2 a0 13 ≠ 0 ∧ (hs h2 (hR h2 a0 13)).1 = 1 ∧ vp_in x1 (hs h2 (hR h2 a0 13)).2 ∧ ((0 ≤ (hI h2 (hR h2 a0 13) x1.toNatClampNeg) → AW w mX10_fast 0 0 (rI Q) 0 0 48 [some (.ref a0), some (.int x1), some (.int x2), some (.int 1), some (.int 0), none, none, none, none] [] h2) ∧ (¬ 0 ≤ (hI h2 (hR h2 a0 13) x1.toNatClampNeg) → hR h2 a0 14 ≠ 0 ∧ (hs h2 (hR h2 a0 14)).1 = 1 ∧ vp_in x2 (hs h2 (hR h2 a0 14)).2 ∧ (((hI h2 (hR h2 a0 14) x2.toNatClampNeg) < 0 → AW w mX10_fast 0 0 (rI Q) 0 0 48 [some (.ref a0), some (.int x1), some (.int x2), some (.int 0), some (.int 0), none, none, none, none] [] h2) ∧ (¬ (hI h2 (hR h2 a0 14) x2.toNatClampNeg) < 0 → AW w mX10_fast 0 0 (rI Q) 0 0 48 [some (.ref a0), some (.int x1), some (.int x2), some (.int 1), some (.int 0), none, none, none, none] [] h2))))) ∧ (r2 = 0 → Q (-100001) h2))) [.ref a0, .int 1, .int x2] h1))) [.ref a0, .int 0, .int x1] h) : AW w mX10_fast 0 0 (rI Q) 0 0 0 [some (.ref a0), some (.int x1), some (.int x2), none, none, none, none, none, none] [] h := by
  refine aw_aload_n 1 dX10_fast_0 rfl rfl ?_
  refine aw_iconst (v := 0) 2 dX10_fast_1 rfl (by decide) ?_
  refine aw_iload_n 3 dX10_fast_2 rfl rfl ?_
  obtain ⟨g1, H⟩ := H
  refine aw_callV (stk := []) (ci := 10) [.int 0, .int x1] 6 dX10_fast_3 rfl mv_X10_212 ⟨by decide, by decide⟩ g1 (by intro r hr; cases hr; rfl) rfl rfl (by simp [Value.category]) (by decide) H ?_
  rintro _ h1 ⟨r1, rfl, H⟩
  refine aw_if_eq 18 9 dX10_fast_6 rfl (by decide) (fun c2 => ?_) (fun c2 => ?_)
  · replace H := H.1 c2
    refine aw_ldc 20 dX10_fast_18 rfl kc_X10_194 ?_
    exact aw_ireturn dX10_fast_20 rfl (by decide) (by decide) ⟨_, rfl, H⟩
  · replace H := H.2 c2
    refine aw_aload_n 10 dX10_fast_9 rfl rfl ?_
    refine aw_iconst (v := 1) 11 dX10_fast_10 rfl (by decide) ?_
    refine aw_iload_n 12 dX10_fast_11 rfl rfl ?_
    obtain ⟨g3, H⟩ := H
    refine aw_callV (stk := []) (ci := 10) [.int 1, .int x2] 15 dX10_fast_12 rfl mv_X10_212 ⟨by decide, by decide⟩ g3 (by intro r hr; cases hr; rfl) rfl rfl (by simp [Value.category]) (by decide) H ?_
    rintro _ h2 ⟨r2, rfl, H⟩
    refine aw_if_ne 21 18 dX10_fast_15 rfl (by decide) (fun c4 => ?_) (fun c4 => ?_)
    · replace H := H.1 c4
      refine aw_aload_n 22 dX10_fast_21 rfl rfl ?_
      obtain ⟨g5, H⟩ := H
      obtain ⟨g6, H⟩ := H
      refine aw_getR 25 dX10_fast_22 rfl fl_X10_43 ir_10_13 g5 rfl g6 ?_
      refine aw_iload_n 26 dX10_fast_25 rfl rfl ?_
      obtain ⟨g7, H⟩ := H
      obtain ⟨g8, H⟩ := H
      refine aw_iald 27 dX10_fast_26 rfl (Or.inl (shp g7)) g8 ?_
      refine aw_if_ge 39 30 dX10_fast_27 rfl (by decide) (fun c9 => ?_) (fun c9 => ?_)
      · replace H := H.1 c9
        refine aw_iconst (v := 1) 40 dX10_fast_39 rfl (by decide) ?_
        refine aw_goto 44 dX10_fast_40 (by decide) ?_
        refine aw_istore_n (loc' := [some (.ref a0), some (.int x1), some (.int x2), some (.int 1), none, none, none, none, none]) 45 dX10_fast_44 rfl (by decide) rfl ?_
        refine aw_iconst (v := 0) 46 dX10_fast_45 rfl (by decide) ?_
        refine aw_istore (loc' := [some (.ref a0), some (.int x1), some (.int x2), some (.int 1), some (.int 0), none, none, none, none]) 48 dX10_fast_46 rfl (by decide) rfl ?_
        exact H
      · replace H := H.2 c9
        refine aw_aload_n 31 dX10_fast_30 rfl rfl ?_
        obtain ⟨g10, H⟩ := H
        refine aw_getR 34 dX10_fast_31 rfl fl_X10_46 ir_10_14 g5 rfl g10 ?_
        refine aw_iload_n 35 dX10_fast_34 rfl rfl ?_
        obtain ⟨g11, H⟩ := H
        obtain ⟨g12, H⟩ := H
        refine aw_iald 36 dX10_fast_35 rfl (Or.inl (shp g11)) g12 ?_
        refine aw_if_lt 43 39 dX10_fast_36 rfl (by decide) (fun c13 => ?_) (fun c13 => ?_)
        · replace H := H.1 c13
          refine aw_iconst (v := 0) 44 dX10_fast_43 rfl (by decide) ?_
          refine aw_istore_n (loc' := [some (.ref a0), some (.int x1), some (.int x2), some (.int 0), none, none, none, none, none]) 45 dX10_fast_44 rfl (by decide) rfl ?_
          refine aw_iconst (v := 0) 46 dX10_fast_45 rfl (by decide) ?_
          refine aw_istore (loc' := [some (.ref a0), some (.int x1), some (.int x2), some (.int 0), some (.int 0), none, none, none, none]) 48 dX10_fast_46 rfl (by decide) rfl ?_
          exact H
        · replace H := H.2 c13
          refine aw_iconst (v := 1) 40 dX10_fast_39 rfl (by decide) ?_
          refine aw_goto 44 dX10_fast_40 (by decide) ?_
          refine aw_istore_n (loc' := [some (.ref a0), some (.int x1), some (.int x2), some (.int 1), none, none, none, none, none]) 45 dX10_fast_44 rfl (by decide) rfl ?_
          refine aw_iconst (v := 0) 46 dX10_fast_45 rfl (by decide) ?_
          refine aw_istore (loc' := [some (.ref a0), some (.int x1), some (.int x2), some (.int 1), some (.int 0), none, none, none, none]) 48 dX10_fast_46 rfl (by decide) rfl ?_
          exact H
    · replace H := H.2 c4
      refine aw_ldc 20 dX10_fast_18 rfl kc_X10_194 ?_
      exact aw_ireturn dX10_fast_20 rfl (by decide) (by decide) ⟨_, rfl, H⟩
theorem eX10_fast {w : Wd} {Q : Int32 → Hp → Prop} {h : Hp} {a0 : Nat} {x1 : Int32} {x2 : Int32} (H : AW w mX10_fast 0 0 (rI Q) 0 0 0 [some (.ref a0), some (.int x1), some (.int x2), none, none, none, none, none, none] [] h) : AC w mX10_fast 0 0 (rI Q) [.ref a0, .int x1, .int x2] h := AC.ofL (by decide) (by simp [enl, Value.category]) (by simp [leL, enl, Value.category]) H
set_option maxHeartbeats 4000000 in
set_option maxRecDepth 100000 in
theorem sX10_fast_48 {w : Wd} {Q : Int32 → Hp → Prop} {h : Hp} {a0 : Nat} {x1 : Int32} {x2 : Int32} {x3 : Int32} {x4 : Int32} (H : ((20 ≤ x4 → ((x3 = 0 → (hs h a0).1 = 30 ∧ ((¬ (hI h a0 15) = 20 → hR h a0 13 ≠ 0 ∧ (hs h (hR h a0 13)).1 = 1 ∧ vp_in x1 (hs h (hR h a0 13)).2 ∧ ∀ h1, h1 = sI h (hR h a0 13) x1.toNatClampNeg x2 → hR h a0 14 ≠ 0 ∧ (hs h (hR h a0 14)).1 = 1 ∧ vp_in x2 (hs h (hR h a0 14)).2 ∧ ∀ h2, h2 = sI h1 (hR h a0 14) x2.toNatClampNeg x1 → ∀ h3, h3 = sI h2 a0 15 ((hI h2 a0 15) + 1) → Q (hI h3 a0 15) h3) ∧ ((hI h a0 15) = 20 → Q (-100004) h))) ∧ (¬ x3 = 0 → Q (-100003) h))) ∧ (¬ 20 ≤ x4 → (hs h a0).1 = 30 ∧ hR h a0 13 ≠ 0 ∧ (hs h (hR h a0 13)).1 = 1 ∧ vp_in x4 (hs h (hR h a0 13)).2 ∧ (((hI h (hR h a0 13) x4.toNatClampNeg) < 0 → AW w mX10_fast 0 0 (rI Q) 0 0 48 [some (.ref a0), some (.int x1), some (.int x2), some (.int x3), some (.int (x4 + 1)), none, none, none, none] [] h) ∧ (¬ (hI h (hR h a0 13) x4.toNatClampNeg) < 0 → ((¬ (x1 - x4) = 1 → ((¬ (x1 - x4) = (-1) → AW w mX10_fast 0 0 (rI Q) 0 0 110 [some (.ref a0), some (.int x1), some (.int x2), some (.int x3), some (.int x4), none, some (.int (x1 - x4)), some (.int (x2 - (hI h (hR h a0 13) x4.toNatClampNeg))), none] [.int 0] h) ∧ ((x1 - x4) = (-1) → ((¬ (x2 - (hI h (hR h a0 13) x4.toNatClampNeg)) = 1 → AW w mX10_fast 0 0 (rI Q) 0 0 110 [some (.ref a0), some (.int x1), some (.int x2), some (.int x3), some (.int x4), none, some (.int (x1 - x4)), some (.int (x2 - (hI h (hR h a0 13) x4.toNatClampNeg))), none] [.int 0] h) ∧ ((x2 - (hI h (hR h a0 13) x4.toNatClampNeg)) = 1 → AW w mX10_fast 0 0 (rI Q) 0 0 110 [some (.ref a0), some (.int x1), some (.int x2), some (.int x3), some (.int x4), none, some (.int (x1 - x4)), some (.int (x2 - (hI h (hR h a0 13) x4.toNatClampNeg))), none] [.int 1] h))))) ∧ ((x1 - x4) = 1 → (((x2 - (hI h (hR h a0 13) x4.toNatClampNeg)) = (-1) → AW w mX10_fast 0 0 (rI Q) 0 0 110 [some (.ref a0), some (.int x1), some (.int x2), some (.int x3), some (.int x4), none, some (.int (x1 - x4)), some (.int (x2 - (hI h (hR h a0 13) x4.toNatClampNeg))), none] [.int 1] h) ∧ (¬ (x2 - (hI h (hR h a0 13) x4.toNatClampNeg)) = (-1) → ((¬ (x1 - x4) = (-1) → AW w mX10_fast 0 0 (rI Q) 0 0 110 [some (.ref a0), some (.int x1), some (.int x2), some (.int x3), some (.int x4), none, some (.int (x1 - x4)), some (.int (x2 - (hI h (hR h a0 13) x4.toNatClampNeg))), none] [.int 0] h) ∧ ((x1 - x4) = (-1) → ((¬ (x2 - (hI h (hR h a0 13) x4.toNatClampNeg)) = 1 → AW w mX10_fast 0 0 (rI Q) 0 0 110 [some (.ref a0), some (.int x1), some (.int x2), some (.int x3), some (.int x4), none, some (.int (x1 - x4)), some (.int (x2 - (hI h (hR h a0 13) x4.toNatClampNeg))), none] [.int 0] h) ∧ ((x2 - (hI h (hR h a0 13) x4.toNatClampNeg)) = 1 → AW w mX10_fast 0 0 (rI Q) 0 0 110 [some (.ref a0), some (.int x1), some (.int x2), some (.int x3), some (.int x4), none, some (.int (x1 - x4)), some (.int (x2 - (hI h (hR h a0 13) x4.toNatClampNeg))), none] [.int 1] h))))))))))))) : AW w mX10_fast 0 0 (rI Q) 0 0 48 [some (.ref a0), some (.int x1), some (.int x2), some (.int x3), some (.int x4), none, none, none, none] [] h := by
  refine aw_iload 50 dX10_fast_48 rfl rfl ?_
  refine aw_bipush (v := 20) 52 dX10_fast_50 rfl (by decide) ?_
  refine aw_icmp_ge 153 55 dX10_fast_52 rfl (by decide) (fun c1 => ?_) (fun c1 => ?_)
  · replace H := H.1 c1
    refine aw_iload_n 154 dX10_fast_153 rfl rfl ?_
    refine aw_if_eq 160 157 dX10_fast_154 rfl (by decide) (fun c2 => ?_) (fun c2 => ?_)
    · replace H := H.1 c2
      refine aw_aload_n 161 dX10_fast_160 rfl rfl ?_
      obtain ⟨g3, H⟩ := H
      refine aw_getI 164 dX10_fast_161 rfl fl_X10_190 (by decide) g3 ?_
      refine aw_bipush (v := 20) 166 dX10_fast_164 rfl (by decide) ?_
      refine aw_icmp_ne 172 169 dX10_fast_166 rfl (by decide) (fun c4 => ?_) (fun c4 => ?_)
      · replace H := H.1 c4
        refine aw_aload_n 173 dX10_fast_172 rfl rfl ?_
        obtain ⟨g5, H⟩ := H
        refine aw_getR 176 dX10_fast_173 rfl fl_X10_43 ir_10_13 g3 rfl g5 ?_
        refine aw_iload_n 177 dX10_fast_176 rfl rfl ?_
        refine aw_iload_n 178 dX10_fast_177 rfl rfl ?_
        obtain ⟨g6, H⟩ := H
        obtain ⟨g7, H⟩ := H
        refine aw_iast 179 dX10_fast_178 rfl (shp g6) g7 ?_
        replace H := H _ rfl
        refine aw_aload_n 180 dX10_fast_179 rfl rfl ?_
        obtain ⟨g8, H⟩ := H
        refine aw_getR 183 dX10_fast_180 rfl fl_X10_46 ir_10_14 g3 rfl g8 ?_
        refine aw_iload_n 184 dX10_fast_183 rfl rfl ?_
        refine aw_iload_n 185 dX10_fast_184 rfl rfl ?_
        obtain ⟨g9, H⟩ := H
        obtain ⟨g10, H⟩ := H
        refine aw_iast 186 dX10_fast_185 rfl (shp g9) g10 ?_
        replace H := H _ rfl
        refine aw_aload_n 187 dX10_fast_186 rfl rfl ?_
        refine aw_dup 188 dX10_fast_187 rfl rfl ?_
        refine aw_getI 191 dX10_fast_188 rfl fl_X10_190 (by decide) g3 ?_
        refine aw_iconst (v := 1) 192 dX10_fast_191 rfl (by decide) ?_
        refine aw_iadd 193 dX10_fast_192 rfl ?_
        refine aw_putI 196 dX10_fast_193 rfl fl_X10_190 (by decide) g3 nf_10_15 ?_
        replace H := H _ rfl
        refine aw_aload_n 197 dX10_fast_196 rfl rfl ?_
        refine aw_getI 200 dX10_fast_197 rfl fl_X10_190 (by decide) g3 ?_
        exact aw_ireturn dX10_fast_200 rfl (by decide) (by decide) ⟨_, rfl, H⟩
      · replace H := H.2 c4
        refine aw_ldc 171 dX10_fast_169 rfl kc_X10_130 ?_
        exact aw_ireturn dX10_fast_171 rfl (by decide) (by decide) ⟨_, rfl, H⟩
    · replace H := H.2 c2
      refine aw_ldc 159 dX10_fast_157 rfl kc_X10_156 ?_
      exact aw_ireturn dX10_fast_159 rfl (by decide) (by decide) ⟨_, rfl, H⟩
  · replace H := H.2 c1
    refine aw_aload_n 56 dX10_fast_55 rfl rfl ?_
    obtain ⟨g11, H⟩ := H
    obtain ⟨g12, H⟩ := H
    refine aw_getR 59 dX10_fast_56 rfl fl_X10_43 ir_10_13 g11 rfl g12 ?_
    refine aw_iload 61 dX10_fast_59 rfl rfl ?_
    obtain ⟨g13, H⟩ := H
    obtain ⟨g14, H⟩ := H
    refine aw_iald 62 dX10_fast_61 rfl (Or.inl (shp g13)) g14 ?_
    refine aw_istore (loc' := [some (.ref a0), some (.int x1), some (.int x2), some (.int x3), some (.int x4), some (.int (hI h (hR h a0 13) x4.toNatClampNeg)), none, none, none]) 64 dX10_fast_62 rfl (by decide) rfl ?_
    refine aw_iload 66 dX10_fast_64 rfl rfl ?_
    refine aw_if_lt 147 69 dX10_fast_66 rfl (by decide) (fun c15 => ?_) (fun c15 => ?_)
    · replace H := H.1 c15
      refine aw_iinc (y := 1) (loc' := [some (.ref a0), some (.int x1), some (.int x2), some (.int x3), some (.int (x4 + 1)), some (.int (hI h (hR h a0 13) x4.toNatClampNeg)), none, none, none]) 150 dX10_fast_147 rfl (by decide) rfl (by decide) rfl ?_
      refine aw_goto 48 dX10_fast_150 (by decide) ?_
      exact aw_fgt (by simp [leL]) H
    · replace H := H.2 c15
      refine aw_iload_n 70 dX10_fast_69 rfl rfl ?_
      refine aw_iload 72 dX10_fast_70 rfl rfl ?_
      refine aw_isub 73 dX10_fast_72 rfl ?_
      refine aw_istore (loc' := [some (.ref a0), some (.int x1), some (.int x2), some (.int x3), some (.int x4), some (.int (hI h (hR h a0 13) x4.toNatClampNeg)), some (.int (x1 - x4)), none, none]) 75 dX10_fast_73 rfl (by decide) rfl ?_
      refine aw_iload_n 76 dX10_fast_75 rfl rfl ?_
      refine aw_iload 78 dX10_fast_76 rfl rfl ?_
      refine aw_isub 79 dX10_fast_78 rfl ?_
      refine aw_istore (loc' := [some (.ref a0), some (.int x1), some (.int x2), some (.int x3), some (.int x4), some (.int (hI h (hR h a0 13) x4.toNatClampNeg)), some (.int (x1 - x4)), some (.int (x2 - (hI h (hR h a0 13) x4.toNatClampNeg))), none]) 81 dX10_fast_79 rfl (by decide) rfl ?_
      refine aw_iload 83 dX10_fast_81 rfl rfl ?_
      refine aw_iconst (v := 1) 84 dX10_fast_83 rfl (by decide) ?_
      refine aw_icmp_ne 93 87 dX10_fast_84 rfl (by decide) (fun c16 => ?_) (fun c16 => ?_)
      · replace H := H.1 c16
        refine aw_iload 95 dX10_fast_93 rfl rfl ?_
        refine aw_iconst (v := (-1)) 96 dX10_fast_95 rfl (by decide) ?_
        refine aw_icmp_ne 109 99 dX10_fast_96 rfl (by decide) (fun c17 => ?_) (fun c17 => ?_)
        · replace H := H.1 c17
          refine aw_iconst (v := 0) 110 dX10_fast_109 rfl (by decide) ?_
          exact aw_fgt (by simp [leL]) H
        · replace H := H.2 c17
          refine aw_iload 101 dX10_fast_99 rfl rfl ?_
          refine aw_iconst (v := 1) 102 dX10_fast_101 rfl (by decide) ?_
          refine aw_icmp_ne 109 105 dX10_fast_102 rfl (by decide) (fun c18 => ?_) (fun c18 => ?_)
          · replace H := H.1 c18
            refine aw_iconst (v := 0) 110 dX10_fast_109 rfl (by decide) ?_
            exact aw_fgt (by simp [leL]) H
          · replace H := H.2 c18
            refine aw_iconst (v := 1) 106 dX10_fast_105 rfl (by decide) ?_
            refine aw_goto 110 dX10_fast_106 (by decide) ?_
            exact aw_fgt (by simp [leL]) H
      · replace H := H.2 c16
        refine aw_iload 89 dX10_fast_87 rfl rfl ?_
        refine aw_iconst (v := (-1)) 90 dX10_fast_89 rfl (by decide) ?_
        refine aw_icmp_eq 105 93 dX10_fast_90 rfl (by decide) (fun c19 => ?_) (fun c19 => ?_)
        · replace H := H.1 c19
          refine aw_iconst (v := 1) 106 dX10_fast_105 rfl (by decide) ?_
          refine aw_goto 110 dX10_fast_106 (by decide) ?_
          exact aw_fgt (by simp [leL]) H
        · replace H := H.2 c19
          refine aw_iload 95 dX10_fast_93 rfl rfl ?_
          refine aw_iconst (v := (-1)) 96 dX10_fast_95 rfl (by decide) ?_
          refine aw_icmp_ne 109 99 dX10_fast_96 rfl (by decide) (fun c20 => ?_) (fun c20 => ?_)
          · replace H := H.1 c20
            refine aw_iconst (v := 0) 110 dX10_fast_109 rfl (by decide) ?_
            exact aw_fgt (by simp [leL]) H
          · replace H := H.2 c20
            refine aw_iload 101 dX10_fast_99 rfl rfl ?_
            refine aw_iconst (v := 1) 102 dX10_fast_101 rfl (by decide) ?_
            refine aw_icmp_ne 109 105 dX10_fast_102 rfl (by decide) (fun c21 => ?_) (fun c21 => ?_)
            · replace H := H.1 c21
              refine aw_iconst (v := 0) 110 dX10_fast_109 rfl (by decide) ?_
              exact aw_fgt (by simp [leL]) H
            · replace H := H.2 c21
              refine aw_iconst (v := 1) 106 dX10_fast_105 rfl (by decide) ?_
              refine aw_goto 110 dX10_fast_106 (by decide) ?_
              exact aw_fgt (by simp [leL]) H
set_option maxHeartbeats 4000000 in
set_option maxRecDepth 100000 in
theorem sX10_fast_110 {w : Wd} {Q : Int32 → Hp → Prop} {h : Hp} {a0 : Nat} {x1 : Int32} {x2 : Int32} {x3 : Int32} {x4 : Int32} {x6 : Int32} {x7 : Int32} {y0 : Int32} (H : ((¬ x3 = 0 → AW w mX10_fast 0 0 (rI Q) 0 0 48 [some (.ref a0), some (.int x1), some (.int x2), some (.int 1), some (.int (x4 + 1)), none, none, none, none] [] h) ∧ (x3 = 0 → ((0 ≤ x6 → AW w mX10_fast 0 0 (rI Q) 0 0 126 [some (.ref a0), some (.int x1), some (.int x2), none, some (.int x4), none, some (.int x6), some (.int x7), some (.int y0)] [] h) ∧ (¬ 0 ≤ x6 → ((0 < x7 → ((¬ y0 = 0 → AW w mX10_fast 0 0 (rI Q) 0 0 48 [some (.ref a0), some (.int x1), some (.int x2), some (.int 0), some (.int (x4 + 1)), none, none, none, none] [] h) ∧ (y0 = 0 → AW w mX10_fast 0 0 (rI Q) 0 0 48 [some (.ref a0), some (.int x1), some (.int x2), some (.int 1), some (.int (x4 + 1)), none, none, none, none] [] h))) ∧ (¬ 0 < x7 → AW w mX10_fast 0 0 (rI Q) 0 0 126 [some (.ref a0), some (.int x1), some (.int x2), none, some (.int x4), none, some (.int x6), some (.int x7), some (.int y0)] [] h))))))) : AW w mX10_fast 0 0 (rI Q) 0 0 110 [some (.ref a0), some (.int x1), some (.int x2), some (.int x3), some (.int x4), none, some (.int x6), some (.int x7), none] [.int y0] h := by
  refine aw_istore (loc' := [some (.ref a0), some (.int x1), some (.int x2), some (.int x3), some (.int x4), none, some (.int x6), some (.int x7), some (.int y0)]) 112 dX10_fast_110 rfl (by decide) rfl ?_
  refine aw_iload_n 113 dX10_fast_112 rfl rfl ?_
  refine aw_if_ne 141 116 dX10_fast_113 rfl (by decide) (fun c1 => ?_) (fun c1 => ?_)
  · replace H := H.1 c1
    refine aw_iconst (v := 1) 142 dX10_fast_141 rfl (by decide) ?_
    refine aw_goto 146 dX10_fast_142 (by decide) ?_
    refine aw_istore_n (loc' := [some (.ref a0), some (.int x1), some (.int x2), some (.int 1), some (.int x4), none, some (.int x6), some (.int x7), some (.int y0)]) 147 dX10_fast_146 rfl (by decide) rfl ?_
    refine aw_iinc (y := 1) (loc' := [some (.ref a0), some (.int x1), some (.int x2), some (.int 1), some (.int (x4 + 1)), none, some (.int x6), some (.int x7), some (.int y0)]) 150 dX10_fast_147 rfl (by decide) rfl (by decide) rfl ?_
    refine aw_goto 48 dX10_fast_150 (by decide) ?_
    exact aw_fgt (by simp [leL]) H
  · replace H := H.2 c1
    refine aw_iload 118 dX10_fast_116 rfl rfl ?_
    refine aw_if_ge 126 121 dX10_fast_118 rfl (by decide) (fun c2 => ?_) (fun c2 => ?_)
    · replace H := H.1 c2
      exact aw_fgt (by simp [leL]) H
    · replace H := H.2 c2
      refine aw_iload 123 dX10_fast_121 rfl rfl ?_
      refine aw_if_gt 136 126 dX10_fast_123 rfl (by decide) (fun c3 => ?_) (fun c3 => ?_)
      · replace H := H.1 c3
        refine aw_iload 138 dX10_fast_136 rfl rfl ?_
        refine aw_if_ne 145 141 dX10_fast_138 rfl (by decide) (fun c4 => ?_) (fun c4 => ?_)
        · replace H := H.1 c4
          refine aw_iconst (v := 0) 146 dX10_fast_145 rfl (by decide) ?_
          refine aw_istore_n (loc' := [some (.ref a0), some (.int x1), some (.int x2), some (.int 0), some (.int x4), none, some (.int x6), some (.int x7), some (.int y0)]) 147 dX10_fast_146 rfl (by decide) rfl ?_
          refine aw_iinc (y := 1) (loc' := [some (.ref a0), some (.int x1), some (.int x2), some (.int 0), some (.int (x4 + 1)), none, some (.int x6), some (.int x7), some (.int y0)]) 150 dX10_fast_147 rfl (by decide) rfl (by decide) rfl ?_
          refine aw_goto 48 dX10_fast_150 (by decide) ?_
          exact aw_fgt (by simp [leL]) H
        · replace H := H.2 c4
          refine aw_iconst (v := 1) 142 dX10_fast_141 rfl (by decide) ?_
          refine aw_goto 146 dX10_fast_142 (by decide) ?_
          refine aw_istore_n (loc' := [some (.ref a0), some (.int x1), some (.int x2), some (.int 1), some (.int x4), none, some (.int x6), some (.int x7), some (.int y0)]) 147 dX10_fast_146 rfl (by decide) rfl ?_
          refine aw_iinc (y := 1) (loc' := [some (.ref a0), some (.int x1), some (.int x2), some (.int 1), some (.int (x4 + 1)), none, some (.int x6), some (.int x7), some (.int y0)]) 150 dX10_fast_147 rfl (by decide) rfl (by decide) rfl ?_
          refine aw_goto 48 dX10_fast_150 (by decide) ?_
          exact aw_fgt (by simp [leL]) H
      · replace H := H.2 c3
        exact aw_fgt (by simp [leL]) H
set_option maxHeartbeats 4000000 in
set_option maxRecDepth 100000 in
theorem sX10_fast_126 {w : Wd} {Q : Int32 → Hp → Prop} {h : Hp} {a0 : Nat} {x1 : Int32} {x2 : Int32} {x4 : Int32} {x6 : Int32} {x7 : Int32} {x8 : Int32} (H : ((x6 ≤ 0 → AW w mX10_fast 0 0 (rI Q) 0 0 48 [some (.ref a0), some (.int x1), some (.int x2), some (.int 0), some (.int (x4 + 1)), none, none, none, none] [] h) ∧ (¬ x6 ≤ 0 → ((0 ≤ x7 → AW w mX10_fast 0 0 (rI Q) 0 0 48 [some (.ref a0), some (.int x1), some (.int x2), some (.int 0), some (.int (x4 + 1)), none, none, none, none] [] h) ∧ (¬ 0 ≤ x7 → ((¬ x8 = 0 → AW w mX10_fast 0 0 (rI Q) 0 0 48 [some (.ref a0), some (.int x1), some (.int x2), some (.int 0), some (.int (x4 + 1)), none, none, none, none] [] h) ∧ (x8 = 0 → AW w mX10_fast 0 0 (rI Q) 0 0 48 [some (.ref a0), some (.int x1), some (.int x2), some (.int 1), some (.int (x4 + 1)), none, none, none, none] [] h))))))) : AW w mX10_fast 0 0 (rI Q) 0 0 126 [some (.ref a0), some (.int x1), some (.int x2), none, some (.int x4), none, some (.int x6), some (.int x7), some (.int x8)] [] h := by
  refine aw_iload 128 dX10_fast_126 rfl rfl ?_
  refine aw_if_le 145 131 dX10_fast_128 rfl (by decide) (fun c1 => ?_) (fun c1 => ?_)
  · replace H := H.1 c1
    refine aw_iconst (v := 0) 146 dX10_fast_145 rfl (by decide) ?_
    refine aw_istore_n (loc' := [some (.ref a0), some (.int x1), some (.int x2), some (.int 0), some (.int x4), none, some (.int x6), some (.int x7), some (.int x8)]) 147 dX10_fast_146 rfl (by decide) rfl ?_
    refine aw_iinc (y := 1) (loc' := [some (.ref a0), some (.int x1), some (.int x2), some (.int 0), some (.int (x4 + 1)), none, some (.int x6), some (.int x7), some (.int x8)]) 150 dX10_fast_147 rfl (by decide) rfl (by decide) rfl ?_
    refine aw_goto 48 dX10_fast_150 (by decide) ?_
    exact aw_fgt (by simp [leL]) H
  · replace H := H.2 c1
    refine aw_iload 133 dX10_fast_131 rfl rfl ?_
    refine aw_if_ge 145 136 dX10_fast_133 rfl (by decide) (fun c2 => ?_) (fun c2 => ?_)
    · replace H := H.1 c2
      refine aw_iconst (v := 0) 146 dX10_fast_145 rfl (by decide) ?_
      refine aw_istore_n (loc' := [some (.ref a0), some (.int x1), some (.int x2), some (.int 0), some (.int x4), none, some (.int x6), some (.int x7), some (.int x8)]) 147 dX10_fast_146 rfl (by decide) rfl ?_
      refine aw_iinc (y := 1) (loc' := [some (.ref a0), some (.int x1), some (.int x2), some (.int 0), some (.int (x4 + 1)), none, some (.int x6), some (.int x7), some (.int x8)]) 150 dX10_fast_147 rfl (by decide) rfl (by decide) rfl ?_
      refine aw_goto 48 dX10_fast_150 (by decide) ?_
      exact aw_fgt (by simp [leL]) H
    · replace H := H.2 c2
      refine aw_iload 138 dX10_fast_136 rfl rfl ?_
      refine aw_if_ne 145 141 dX10_fast_138 rfl (by decide) (fun c3 => ?_) (fun c3 => ?_)
      · replace H := H.1 c3
        refine aw_iconst (v := 0) 146 dX10_fast_145 rfl (by decide) ?_
        refine aw_istore_n (loc' := [some (.ref a0), some (.int x1), some (.int x2), some (.int 0), some (.int x4), none, some (.int x6), some (.int x7), some (.int x8)]) 147 dX10_fast_146 rfl (by decide) rfl ?_
        refine aw_iinc (y := 1) (loc' := [some (.ref a0), some (.int x1), some (.int x2), some (.int 0), some (.int (x4 + 1)), none, some (.int x6), some (.int x7), some (.int x8)]) 150 dX10_fast_147 rfl (by decide) rfl (by decide) rfl ?_
        refine aw_goto 48 dX10_fast_150 (by decide) ?_
        exact aw_fgt (by simp [leL]) H
      · replace H := H.2 c3
        refine aw_iconst (v := 1) 142 dX10_fast_141 rfl (by decide) ?_
        refine aw_goto 146 dX10_fast_142 (by decide) ?_
        refine aw_istore_n (loc' := [some (.ref a0), some (.int x1), some (.int x2), some (.int 1), some (.int x4), none, some (.int x6), some (.int x7), some (.int x8)]) 147 dX10_fast_146 rfl (by decide) rfl ?_
        refine aw_iinc (y := 1) (loc' := [some (.ref a0), some (.int x1), some (.int x2), some (.int 1), some (.int (x4 + 1)), none, some (.int x6), some (.int x7), some (.int x8)]) 150 dX10_fast_147 rfl (by decide) rfl (by decide) rfl ?_
        refine aw_goto 48 dX10_fast_150 (by decide) ?_
        exact aw_fgt (by simp [leL]) H
set_option maxHeartbeats 4000000 in
set_option maxRecDepth 100000 in
theorem sX10_loosen_0 {w : Wd} {Q : Int32 → Hp → Prop} {h : Hp} {a0 : Nat} {x1 : Int32} (H : (hs h a0).1 = 30 ∧ AC w mX10_isSentence 0 0 (rI fun r1 h1 => ((¬ r1 = 0 → (hs h1 a0).1 = 30 ∧ hR h1 a0 13 ≠ 0 ∧ (hs h1 (hR h1 a0 13)).1 = 1 ∧ vp_in x1 (hs h1 (hR h1 a0 13)).2 ∧ ((0 ≤ (hI h1 (hR h1 a0 13) x1.toNatClampNeg) → hR h1 a0 14 ≠ 0 ∧ (hs h1 (hR h1 a0 14)).1 = 1 ∧ vp_in (hI h1 (hR h1 a0 13) x1.toNatClampNeg) (hs h1 (hR h1 a0 14)).2 ∧ ∀ h2, h2 = sI h1 (hR h1 a0 14) (hI h1 (hR h1 a0 13) x1.toNatClampNeg).toNatClampNeg (-1) → ∀ h3, h3 = sI h2 (hR h1 a0 13) x1.toNatClampNeg (-1) → ∀ h4, h4 = sI h3 a0 15 ((hI h3 a0 15) - 1) → Q 1 h4) ∧ (¬ 0 ≤ (hI h1 (hR h1 a0 13) x1.toNatClampNeg) → Q 0 h1))) ∧ (r1 = 0 → Q (-100001) h1))) [.ref a0, .int 0, .int x1] h) : AW w mX10_loosen 0 0 (rI Q) 0 0 0 [some (.ref a0), some (.int x1)] [] h := by
  refine aw_aload_n 1 dX10_loosen_0 rfl rfl ?_
  refine aw_iconst (v := 0) 2 dX10_loosen_1 rfl (by decide) ?_
  refine aw_iload_n 3 dX10_loosen_2 rfl rfl ?_
  obtain ⟨g1, H⟩ := H
  refine aw_callV (stk := []) (ci := 10) [.int 0, .int x1] 6 dX10_loosen_3 rfl mv_X10_212 ⟨by decide, by decide⟩ g1 (by intro r hr; cases hr; rfl) rfl rfl (by simp [Value.category]) (by decide) H ?_
  rintro _ h1 ⟨r1, rfl, H⟩
  refine aw_if_ne 12 9 dX10_loosen_6 rfl (by decide) (fun c2 => ?_) (fun c2 => ?_)
  · replace H := H.1 c2
    refine aw_aload_n 13 dX10_loosen_12 rfl rfl ?_
    obtain ⟨g3, H⟩ := H
    obtain ⟨g4, H⟩ := H
    refine aw_getR 16 dX10_loosen_13 rfl fl_X10_43 ir_10_13 g3 rfl g4 ?_
    refine aw_iload_n 17 dX10_loosen_16 rfl rfl ?_
    obtain ⟨g5, H⟩ := H
    obtain ⟨g6, H⟩ := H
    refine aw_iald 18 dX10_loosen_17 rfl (Or.inl (shp g5)) g6 ?_
    refine aw_if_ge 23 21 dX10_loosen_18 rfl (by decide) (fun c7 => ?_) (fun c7 => ?_)
    · replace H := H.1 c7
      refine aw_aload_n 24 dX10_loosen_23 rfl rfl ?_
      obtain ⟨g8, H⟩ := H
      refine aw_getR 27 dX10_loosen_24 rfl fl_X10_46 ir_10_14 g3 rfl g8 ?_
      refine aw_aload_n 28 dX10_loosen_27 rfl rfl ?_
      refine aw_getR 31 dX10_loosen_28 rfl fl_X10_43 ir_10_13 g3 rfl g4 ?_
      refine aw_iload_n 32 dX10_loosen_31 rfl rfl ?_
      refine aw_iald 33 dX10_loosen_32 rfl (Or.inl (shp g5)) g6 ?_
      refine aw_iconst (v := (-1)) 34 dX10_loosen_33 rfl (by decide) ?_
      obtain ⟨g9, H⟩ := H
      obtain ⟨g10, H⟩ := H
      refine aw_iast 35 dX10_loosen_34 rfl (shp g9) g10 ?_
      replace H := H _ rfl
      refine aw_aload_n 36 dX10_loosen_35 rfl rfl ?_
      refine aw_getR 39 dX10_loosen_36 rfl fl_X10_43 ir_10_13 g3 rfl g4 ?_
      refine aw_iload_n 40 dX10_loosen_39 rfl rfl ?_
      refine aw_iconst (v := (-1)) 41 dX10_loosen_40 rfl (by decide) ?_
      refine aw_iast 42 dX10_loosen_41 rfl (shp g5) g6 ?_
      replace H := H _ rfl
      refine aw_aload_n 43 dX10_loosen_42 rfl rfl ?_
      refine aw_dup 44 dX10_loosen_43 rfl rfl ?_
      refine aw_getI 47 dX10_loosen_44 rfl fl_X10_190 (by decide) g3 ?_
      refine aw_iconst (v := 1) 48 dX10_loosen_47 rfl (by decide) ?_
      refine aw_isub 49 dX10_loosen_48 rfl ?_
      refine aw_putI 52 dX10_loosen_49 rfl fl_X10_190 (by decide) g3 nf_10_15 ?_
      replace H := H _ rfl
      refine aw_iconst (v := 1) 53 dX10_loosen_52 rfl (by decide) ?_
      exact aw_ireturn dX10_loosen_53 rfl (by decide) (by decide) ⟨_, rfl, H⟩
    · replace H := H.2 c7
      refine aw_iconst (v := 0) 22 dX10_loosen_21 rfl (by decide) ?_
      exact aw_ireturn dX10_loosen_22 rfl (by decide) (by decide) ⟨_, rfl, H⟩
  · replace H := H.2 c2
    refine aw_ldc 11 dX10_loosen_9 rfl kc_X10_194 ?_
    exact aw_ireturn dX10_loosen_11 rfl (by decide) (by decide) ⟨_, rfl, H⟩
theorem eX10_loosen {w : Wd} {Q : Int32 → Hp → Prop} {h : Hp} {a0 : Nat} {x1 : Int32} (H : AW w mX10_loosen 0 0 (rI Q) 0 0 0 [some (.ref a0), some (.int x1)] [] h) : AC w mX10_loosen 0 0 (rI Q) [.ref a0, .int x1] h := AC.ofL (by decide) (by simp [enl, Value.category]) (by simp [leL, enl, Value.category]) H
set_option maxHeartbeats 4000000 in
set_option maxRecDepth 100000 in
theorem sX10_keep_0 {w : Wd} {Q : Int32 → Hp → Prop} {h : Hp} {a0 : Nat} {x1 : Int32} (H : (hs h a0).1 = 30 ∧ (((hI h a0 16) = 0 → (x1 = 0 ∨ x1 = 1) ∧ ∀ h1, h1 = sI h a0 16 x1 → Q 0 h1) ∧ (¬ (hI h a0 16) = 0 → (x1 = 0 ∨ x1 = 1) ∧ ∀ h2, h2 = sI h a0 16 x1 → Q 1 h2))) : AW w mX10_keep 0 0 (rI Q) 0 0 0 [some (.ref a0), some (.int x1), none] [] h := by
  refine aw_aload_n 1 dX10_keep_0 rfl rfl ?_
  obtain ⟨g1, H⟩ := H
  refine aw_getI 4 dX10_keep_1 rfl fl_X10_223 (by decide) g1 ?_
  refine aw_if_eq 11 7 dX10_keep_4 rfl (by decide) (fun c2 => ?_) (fun c2 => ?_)
  · replace H := H.1 c2
    refine aw_iconst (v := 0) 12 dX10_keep_11 rfl (by decide) ?_
    refine aw_istore_n (loc' := [some (.ref a0), some (.int x1), some (.int 0)]) 13 dX10_keep_12 rfl (by decide) rfl ?_
    refine aw_aload_n 14 dX10_keep_13 rfl rfl ?_
    refine aw_iload_n 15 dX10_keep_14 rfl rfl ?_
    obtain ⟨g3, H⟩ := H
    refine aw_putZ 18 dX10_keep_15 rfl fl_X10_223 (by decide) g3 g1 nf_10_16 ?_
    replace H := H _ rfl
    refine aw_iload_n 19 dX10_keep_18 rfl rfl ?_
    exact aw_ireturn dX10_keep_19 rfl (by decide) (by decide) ⟨_, rfl, H⟩
  · replace H := H.2 c2
    refine aw_iconst (v := 1) 8 dX10_keep_7 rfl (by decide) ?_
    refine aw_goto 12 dX10_keep_8 (by decide) ?_
    refine aw_istore_n (loc' := [some (.ref a0), some (.int x1), some (.int 1)]) 13 dX10_keep_12 rfl (by decide) rfl ?_
    refine aw_aload_n 14 dX10_keep_13 rfl rfl ?_
    refine aw_iload_n 15 dX10_keep_14 rfl rfl ?_
    obtain ⟨g4, H⟩ := H
    refine aw_putZ 18 dX10_keep_15 rfl fl_X10_223 (by decide) g4 g1 nf_10_16 ?_
    replace H := H _ rfl
    refine aw_iload_n 19 dX10_keep_18 rfl rfl ?_
    exact aw_ireturn dX10_keep_19 rfl (by decide) (by decide) ⟨_, rfl, H⟩
theorem eX10_keep {w : Wd} {Q : Int32 → Hp → Prop} {h : Hp} {a0 : Nat} {x1 : Int32} (H : AW w mX10_keep 0 0 (rI Q) 0 0 0 [some (.ref a0), some (.int x1), none] [] h) : AC w mX10_keep 0 0 (rI Q) [.ref a0, .int x1] h := AC.ofL (by decide) (by simp [enl, Value.category]) (by simp [leL, enl, Value.category]) H
set_option maxHeartbeats 4000000 in
set_option maxRecDepth 100000 in
theorem sX10_leftOf_0 {w : Wd} {Q : Int32 → Hp → Prop} {h : Hp} {x0 : Int32} (H : ((¬ x0 = 2 → ((x0 = 3 → Q 2 h) ∧ (¬ x0 = 3 → ((x0 ≤ 4 → Q 1 h) ∧ (¬ x0 ≤ 4 → Q 2 h))))) ∧ (x0 = 2 → Q 0 h))) : AW w mX10_leftOf 0 0 (rI Q) 0 0 0 [some (.int x0)] [] h := by
  refine aw_iload_n 1 dX10_leftOf_0 rfl rfl ?_
  refine aw_iconst (v := 2) 2 dX10_leftOf_1 rfl (by decide) ?_
  refine aw_icmp_ne 9 5 dX10_leftOf_2 rfl (by decide) (fun c1 => ?_) (fun c1 => ?_)
  · replace H := H.1 c1
    refine aw_iload_n 10 dX10_leftOf_9 rfl rfl ?_
    refine aw_iconst (v := 3) 11 dX10_leftOf_10 rfl (by decide) ?_
    refine aw_icmp_eq 19 14 dX10_leftOf_11 rfl (by decide) (fun c2 => ?_) (fun c2 => ?_)
    · replace H := H.1 c2
      refine aw_iconst (v := 2) 20 dX10_leftOf_19 rfl (by decide) ?_
      refine aw_goto 24 dX10_leftOf_20 (by decide) ?_
      exact aw_ireturn dX10_leftOf_24 rfl (by decide) (by decide) ⟨_, rfl, H⟩
    · replace H := H.2 c2
      refine aw_iload_n 15 dX10_leftOf_14 rfl rfl ?_
      refine aw_iconst (v := 4) 16 dX10_leftOf_15 rfl (by decide) ?_
      refine aw_icmp_le 23 19 dX10_leftOf_16 rfl (by decide) (fun c3 => ?_) (fun c3 => ?_)
      · replace H := H.1 c3
        refine aw_iconst (v := 1) 24 dX10_leftOf_23 rfl (by decide) ?_
        exact aw_ireturn dX10_leftOf_24 rfl (by decide) (by decide) ⟨_, rfl, H⟩
      · replace H := H.2 c3
        refine aw_iconst (v := 2) 20 dX10_leftOf_19 rfl (by decide) ?_
        refine aw_goto 24 dX10_leftOf_20 (by decide) ?_
        exact aw_ireturn dX10_leftOf_24 rfl (by decide) (by decide) ⟨_, rfl, H⟩
  · replace H := H.2 c1
    refine aw_iconst (v := 0) 6 dX10_leftOf_5 rfl (by decide) ?_
    refine aw_goto 24 dX10_leftOf_6 (by decide) ?_
    exact aw_ireturn dX10_leftOf_24 rfl (by decide) (by decide) ⟨_, rfl, H⟩
theorem eX10_leftOf {w : Wd} {Q : Int32 → Hp → Prop} {h : Hp} {x0 : Int32} (H : AW w mX10_leftOf 0 0 (rI Q) 0 0 0 [some (.int x0)] [] h) : AC w mX10_leftOf 0 0 (rI Q) [.int x0] h := AC.ofL (by decide) (by simp [enl, Value.category]) (by simp [leL, enl, Value.category]) H
set_option maxHeartbeats 4000000 in
set_option maxRecDepth 100000 in
theorem sX10_rightOf_0 {w : Wd} {Q : Int32 → Hp → Prop} {h : Hp} {x0 : Int32} (H : ((¬ x0 = 1 → ((x0 ≤ 3 → Q 1 h) ∧ (¬ x0 ≤ 3 → Q 2 h))) ∧ (x0 = 1 → Q 0 h))) : AW w mX10_rightOf 0 0 (rI Q) 0 0 0 [some (.int x0)] [] h := by
  refine aw_iload_n 1 dX10_rightOf_0 rfl rfl ?_
  refine aw_iconst (v := 1) 2 dX10_rightOf_1 rfl (by decide) ?_
  refine aw_icmp_ne 9 5 dX10_rightOf_2 rfl (by decide) (fun c1 => ?_) (fun c1 => ?_)
  · replace H := H.1 c1
    refine aw_iload_n 10 dX10_rightOf_9 rfl rfl ?_
    refine aw_iconst (v := 3) 11 dX10_rightOf_10 rfl (by decide) ?_
    refine aw_icmp_le 18 14 dX10_rightOf_11 rfl (by decide) (fun c2 => ?_) (fun c2 => ?_)
    · replace H := H.1 c2
      refine aw_iconst (v := 1) 19 dX10_rightOf_18 rfl (by decide) ?_
      exact aw_ireturn dX10_rightOf_19 rfl (by decide) (by decide) ⟨_, rfl, H⟩
    · replace H := H.2 c2
      refine aw_iconst (v := 2) 15 dX10_rightOf_14 rfl (by decide) ?_
      refine aw_goto 19 dX10_rightOf_15 (by decide) ?_
      exact aw_ireturn dX10_rightOf_19 rfl (by decide) (by decide) ⟨_, rfl, H⟩
  · replace H := H.2 c1
    refine aw_iconst (v := 0) 6 dX10_rightOf_5 rfl (by decide) ?_
    refine aw_goto 19 dX10_rightOf_6 (by decide) ?_
    exact aw_ireturn dX10_rightOf_19 rfl (by decide) (by decide) ⟨_, rfl, H⟩
theorem eX10_rightOf {w : Wd} {Q : Int32 → Hp → Prop} {h : Hp} {x0 : Int32} (H : AW w mX10_rightOf 0 0 (rI Q) 0 0 0 [some (.int x0)] [] h) : AC w mX10_rightOf 0 0 (rI Q) [.int x0] h := AC.ofL (by decide) (by simp [enl, Value.category]) (by simp [leL, enl, Value.category]) H
set_option maxHeartbeats 4000000 in
set_option maxRecDepth 100000 in
theorem sX10_partnerOf_0 {w : Wd} {Q : Int32 → Hp → Prop} {h : Hp} {a0 : Nat} {x1 : Int32} (H : AW w mX10_partnerOf 0 0 (rI Q) 0 0 4 [some (.ref a0), some (.int x1), some (.int (-1)), some (.int 0)] [] h) : AW w mX10_partnerOf 0 0 (rI Q) 0 0 0 [some (.ref a0), some (.int x1), none, none] [] h := by
  refine aw_iconst (v := (-1)) 1 dX10_partnerOf_0 rfl (by decide) ?_
  refine aw_istore_n (loc' := [some (.ref a0), some (.int x1), some (.int (-1)), none]) 2 dX10_partnerOf_1 rfl (by decide) rfl ?_
  refine aw_iconst (v := 0) 3 dX10_partnerOf_2 rfl (by decide) ?_
  refine aw_istore_n (loc' := [some (.ref a0), some (.int x1), some (.int (-1)), some (.int 0)]) 4 dX10_partnerOf_3 rfl (by decide) rfl ?_
  exact H
theorem eX10_partnerOf {w : Wd} {Q : Int32 → Hp → Prop} {h : Hp} {a0 : Nat} {x1 : Int32} (H : AW w mX10_partnerOf 0 0 (rI Q) 0 0 0 [some (.ref a0), some (.int x1), none, none] [] h) : AC w mX10_partnerOf 0 0 (rI Q) [.ref a0, .int x1] h := AC.ofL (by decide) (by simp [enl, Value.category]) (by simp [leL, enl, Value.category]) H
set_option maxHeartbeats 4000000 in
set_option maxRecDepth 100000 in
theorem sX10_partnerOf_4 {w : Wd} {Q : Int32 → Hp → Prop} {h : Hp} {a0 : Nat} {x1 : Int32} {x2 : Int32} {x3 : Int32} (H : (hs h a0).1 = 30 ∧ hR h a0 10 ≠ 0 ∧ (hs h (hR h a0 10)).1 = 1 ∧ vp_in 1 (hs h (hR h a0 10)).2 ∧ (((hI h (hR h a0 10) (1 : Int32).toNatClampNeg) ≤ x3 → ((x2 < 0 → Q (-1) h) ∧ (¬ x2 < 0 → hR h a0 18 ≠ 0 ∧ (hs h (hR h a0 18)).1 = 1 ∧ vp_in ((41 * x1) + x2) (hs h (hR h a0 18)).2 ∧ vp_in ((41 * x1) + 40) (hs h (hR h a0 18)).2 ∧ (((hI h (hR h a0 18) ((41 * x1) + x2).toNatClampNeg) ≤ (hI h (hR h a0 18) ((41 * x1) + 40).toNatClampNeg) → Q (-1) h) ∧ (¬ (hI h (hR h a0 18) ((41 * x1) + x2).toNatClampNeg) ≤ (hI h (hR h a0 18) ((41 * x1) + 40).toNatClampNeg) → (((hI h (hR h a0 18) ((41 * x1) + x2).toNatClampNeg) < 131072 → Q (-1) h) ∧ (¬ (hI h (hR h a0 18) ((41 * x1) + x2).toNatClampNeg) < 131072 → Q x2 h))))))) ∧ (¬ (hI h (hR h a0 10) (1 : Int32).toNatClampNeg) ≤ x3 → ((x2 < 0 → AW w mX10_partnerOf 0 0 (rI Q) 0 0 4 [some (.ref a0), some (.int x1), some (.int x3), some (.int (x3 + 1))] [] h) ∧ (¬ x2 < 0 → hR h a0 18 ≠ 0 ∧ (hs h (hR h a0 18)).1 = 1 ∧ vp_in ((41 * x1) + x3) (hs h (hR h a0 18)).2 ∧ vp_in ((41 * x1) + x2) (hs h (hR h a0 18)).2 ∧ (((hI h (hR h a0 18) ((41 * x1) + x3).toNatClampNeg) ≤ (hI h (hR h a0 18) ((41 * x1) + x2).toNatClampNeg) → AW w mX10_partnerOf 0 0 (rI Q) 0 0 4 [some (.ref a0), some (.int x1), some (.int x2), some (.int (x3 + 1))] [] h) ∧ (¬ (hI h (hR h a0 18) ((41 * x1) + x3).toNatClampNeg) ≤ (hI h (hR h a0 18) ((41 * x1) + x2).toNatClampNeg) → AW w mX10_partnerOf 0 0 (rI Q) 0 0 4 [some (.ref a0), some (.int x1), some (.int x3), some (.int (x3 + 1))] [] h))))))) : AW w mX10_partnerOf 0 0 (rI Q) 0 0 4 [some (.ref a0), some (.int x1), some (.int x2), some (.int x3)] [] h := by
  refine aw_iload_n 5 dX10_partnerOf_4 rfl rfl ?_
  refine aw_aload_n 6 dX10_partnerOf_5 rfl rfl ?_
  obtain ⟨g1, H⟩ := H
  obtain ⟨g2, H⟩ := H
  refine aw_getR 9 dX10_partnerOf_6 rfl fl_X10_34 ir_10_10 g1 rfl g2 ?_
  refine aw_iconst (v := 1) 10 dX10_partnerOf_9 rfl (by decide) ?_
  obtain ⟨g3, H⟩ := H
  obtain ⟨g4, H⟩ := H
  refine aw_iald 11 dX10_partnerOf_10 rfl (Or.inl (shp g3)) g4 ?_
  refine aw_icmp_ge 55 14 dX10_partnerOf_11 rfl (by decide) (fun c5 => ?_) (fun c5 => ?_)
  · replace H := H.1 c5
    refine aw_iload_n 56 dX10_partnerOf_55 rfl rfl ?_
    refine aw_if_lt 105 59 dX10_partnerOf_56 rfl (by decide) (fun c6 => ?_) (fun c6 => ?_)
    · replace H := H.1 c6
      refine aw_iconst (v := (-1)) 106 dX10_partnerOf_105 rfl (by decide) ?_
      exact aw_ireturn dX10_partnerOf_106 rfl (by decide) (by decide) ⟨_, rfl, H⟩
    · replace H := H.2 c6
      refine aw_aload_n 60 dX10_partnerOf_59 rfl rfl ?_
      obtain ⟨g7, H⟩ := H
      refine aw_getR 63 dX10_partnerOf_60 rfl fl_X10_52 ir_10_18 g1 rfl g7 ?_
      refine aw_bipush (v := 41) 65 dX10_partnerOf_63 rfl (by decide) ?_
      refine aw_iload_n 66 dX10_partnerOf_65 rfl rfl ?_
      refine aw_imul 67 dX10_partnerOf_66 rfl ?_
      refine aw_iload_n 68 dX10_partnerOf_67 rfl rfl ?_
      refine aw_iadd 69 dX10_partnerOf_68 rfl ?_
      obtain ⟨g8, H⟩ := H
      obtain ⟨g9, H⟩ := H
      refine aw_iald 70 dX10_partnerOf_69 rfl (Or.inl (shp g8)) g9 ?_
      refine aw_aload_n 71 dX10_partnerOf_70 rfl rfl ?_
      refine aw_getR 74 dX10_partnerOf_71 rfl fl_X10_52 ir_10_18 g1 rfl g7 ?_
      refine aw_bipush (v := 41) 76 dX10_partnerOf_74 rfl (by decide) ?_
      refine aw_iload_n 77 dX10_partnerOf_76 rfl rfl ?_
      refine aw_imul 78 dX10_partnerOf_77 rfl ?_
      refine aw_bipush (v := 40) 80 dX10_partnerOf_78 rfl (by decide) ?_
      refine aw_iadd 81 dX10_partnerOf_80 rfl ?_
      obtain ⟨g10, H⟩ := H
      refine aw_iald 82 dX10_partnerOf_81 rfl (Or.inl (shp g8)) g10 ?_
      refine aw_icmp_le 105 85 dX10_partnerOf_82 rfl (by decide) (fun c11 => ?_) (fun c11 => ?_)
      · replace H := H.1 c11
        refine aw_iconst (v := (-1)) 106 dX10_partnerOf_105 rfl (by decide) ?_
        exact aw_ireturn dX10_partnerOf_106 rfl (by decide) (by decide) ⟨_, rfl, H⟩
      · replace H := H.2 c11
        refine aw_aload_n 86 dX10_partnerOf_85 rfl rfl ?_
        refine aw_getR 89 dX10_partnerOf_86 rfl fl_X10_52 ir_10_18 g1 rfl g7 ?_
        refine aw_bipush (v := 41) 91 dX10_partnerOf_89 rfl (by decide) ?_
        refine aw_iload_n 92 dX10_partnerOf_91 rfl rfl ?_
        refine aw_imul 93 dX10_partnerOf_92 rfl ?_
        refine aw_iload_n 94 dX10_partnerOf_93 rfl rfl ?_
        refine aw_iadd 95 dX10_partnerOf_94 rfl ?_
        refine aw_iald 96 dX10_partnerOf_95 rfl (Or.inl (shp g8)) g9 ?_
        refine aw_ldc 98 dX10_partnerOf_96 rfl kc_X10_226 ?_
        refine aw_icmp_lt 105 101 dX10_partnerOf_98 rfl (by decide) (fun c12 => ?_) (fun c12 => ?_)
        · replace H := H.1 c12
          refine aw_iconst (v := (-1)) 106 dX10_partnerOf_105 rfl (by decide) ?_
          exact aw_ireturn dX10_partnerOf_106 rfl (by decide) (by decide) ⟨_, rfl, H⟩
        · replace H := H.2 c12
          refine aw_iload_n 102 dX10_partnerOf_101 rfl rfl ?_
          refine aw_goto 106 dX10_partnerOf_102 (by decide) ?_
          exact aw_ireturn dX10_partnerOf_106 rfl (by decide) (by decide) ⟨_, rfl, H⟩
  · replace H := H.2 c5
    refine aw_iload_n 15 dX10_partnerOf_14 rfl rfl ?_
    refine aw_if_lt 43 18 dX10_partnerOf_15 rfl (by decide) (fun c13 => ?_) (fun c13 => ?_)
    · replace H := H.1 c13
      refine aw_iload_n 44 dX10_partnerOf_43 rfl rfl ?_
      refine aw_goto 48 dX10_partnerOf_44 (by decide) ?_
      refine aw_istore_n (loc' := [some (.ref a0), some (.int x1), some (.int x3), some (.int x3)]) 49 dX10_partnerOf_48 rfl (by decide) rfl ?_
      refine aw_iinc (y := 1) (loc' := [some (.ref a0), some (.int x1), some (.int x3), some (.int (x3 + 1))]) 52 dX10_partnerOf_49 rfl (by decide) rfl (by decide) rfl ?_
      refine aw_goto 4 dX10_partnerOf_52 (by decide) ?_
      exact H
    · replace H := H.2 c13
      refine aw_aload_n 19 dX10_partnerOf_18 rfl rfl ?_
      obtain ⟨g14, H⟩ := H
      refine aw_getR 22 dX10_partnerOf_19 rfl fl_X10_52 ir_10_18 g1 rfl g14 ?_
      refine aw_bipush (v := 41) 24 dX10_partnerOf_22 rfl (by decide) ?_
      refine aw_iload_n 25 dX10_partnerOf_24 rfl rfl ?_
      refine aw_imul 26 dX10_partnerOf_25 rfl ?_
      refine aw_iload_n 27 dX10_partnerOf_26 rfl rfl ?_
      refine aw_iadd 28 dX10_partnerOf_27 rfl ?_
      obtain ⟨g15, H⟩ := H
      obtain ⟨g16, H⟩ := H
      refine aw_iald 29 dX10_partnerOf_28 rfl (Or.inl (shp g15)) g16 ?_
      refine aw_aload_n 30 dX10_partnerOf_29 rfl rfl ?_
      refine aw_getR 33 dX10_partnerOf_30 rfl fl_X10_52 ir_10_18 g1 rfl g14 ?_
      refine aw_bipush (v := 41) 35 dX10_partnerOf_33 rfl (by decide) ?_
      refine aw_iload_n 36 dX10_partnerOf_35 rfl rfl ?_
      refine aw_imul 37 dX10_partnerOf_36 rfl ?_
      refine aw_iload_n 38 dX10_partnerOf_37 rfl rfl ?_
      refine aw_iadd 39 dX10_partnerOf_38 rfl ?_
      obtain ⟨g17, H⟩ := H
      refine aw_iald 40 dX10_partnerOf_39 rfl (Or.inl (shp g15)) g17 ?_
      refine aw_icmp_le 47 43 dX10_partnerOf_40 rfl (by decide) (fun c18 => ?_) (fun c18 => ?_)
      · replace H := H.1 c18
        refine aw_iload_n 48 dX10_partnerOf_47 rfl rfl ?_
        refine aw_istore_n (loc' := [some (.ref a0), some (.int x1), some (.int x2), some (.int x3)]) 49 dX10_partnerOf_48 rfl (by decide) rfl ?_
        refine aw_iinc (y := 1) (loc' := [some (.ref a0), some (.int x1), some (.int x2), some (.int (x3 + 1))]) 52 dX10_partnerOf_49 rfl (by decide) rfl (by decide) rfl ?_
        refine aw_goto 4 dX10_partnerOf_52 (by decide) ?_
        exact H
      · replace H := H.2 c18
        refine aw_iload_n 44 dX10_partnerOf_43 rfl rfl ?_
        refine aw_goto 48 dX10_partnerOf_44 (by decide) ?_
        refine aw_istore_n (loc' := [some (.ref a0), some (.int x1), some (.int x3), some (.int x3)]) 49 dX10_partnerOf_48 rfl (by decide) rfl ?_
        refine aw_iinc (y := 1) (loc' := [some (.ref a0), some (.int x1), some (.int x3), some (.int (x3 + 1))]) 52 dX10_partnerOf_49 rfl (by decide) rfl (by decide) rfl ?_
        refine aw_goto 4 dX10_partnerOf_52 (by decide) ?_
        exact H
